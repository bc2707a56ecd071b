section
-- ===== PART A: goes FIRST, ahead of the names: the tables' words, and 'selects' of the private methods out of them =====
/-- a private method of a class that the tables say can be made, by its rows of tables_1 -/
def lw_okq (q : MethodName × Nat) : Prop := (q.1.cls ≠ "java/lang/invoke/MethodHandle" ∧ q.1.cls ≠ "java/lang/invoke/VarHandle") ∧ Cond.instantiable q.1.cls q.2 ∈ tables_1 ∧ Cond.privateMethod q.1 ∈ tables_1 ∧ Cond.instanceMethod q.1 ∈ tables_1
theorem lw_p0 : lw_okq (⟨"LotBeliefs$Jar", "leftBy", "(I)J"⟩, 14) := ⟨⟨by decide +kernel, by decide +kernel⟩, List.mem_of_getElem? (i := 77) (by decide +kernel), List.mem_of_getElem? (i := 102) (by decide +kernel), List.mem_of_getElem? (i := 103) (by decide +kernel)⟩
theorem lw_p1 : lw_okq (⟨"LotBeliefs$Jar", "deadIn", "(I)I"⟩, 14) := ⟨⟨by decide +kernel, by decide +kernel⟩, List.mem_of_getElem? (i := 77) (by decide +kernel), List.mem_of_getElem? (i := 106) (by decide +kernel), List.mem_of_getElem? (i := 107) (by decide +kernel)⟩
theorem lw_p2 : lw_okq (⟨"LotBeliefs$Jar", "foesIn", "(II)I"⟩, 14) := ⟨⟨by decide +kernel, by decide +kernel⟩, List.mem_of_getElem? (i := 77) (by decide +kernel), List.mem_of_getElem? (i := 110) (by decide +kernel), List.mem_of_getElem? (i := 111) (by decide +kernel)⟩
theorem lw_p3 : lw_okq (⟨"LotBeliefs", "digit", "(JI)I"⟩, 17) := ⟨⟨by decide +kernel, by decide +kernel⟩, List.mem_of_getElem? (i := 28) (by decide +kernel), List.mem_of_getElem? (i := 450) (by decide +kernel), List.mem_of_getElem? (i := 451) (by decide +kernel)⟩
theorem lw_p4 : lw_okq (⟨"LotBeliefs", "takeOrder", "(J)V"⟩, 17) := ⟨⟨by decide +kernel, by decide +kernel⟩, List.mem_of_getElem? (i := 28) (by decide +kernel), List.mem_of_getElem? (i := 454) (by decide +kernel), List.mem_of_getElem? (i := 455) (by decide +kernel)⟩
theorem lw_p5 : lw_okq (⟨"LotBeliefs", "runYear", "()V"⟩, 17) := ⟨⟨by decide +kernel, by decide +kernel⟩, List.mem_of_getElem? (i := 28) (by decide +kernel), List.mem_of_getElem? (i := 466) (by decide +kernel), List.mem_of_getElem? (i := 467) (by decide +kernel)⟩
theorem lw_p6 : lw_okq (⟨"LotBeliefs$Course", "goBack", "([II)V"⟩, 12) := ⟨⟨by decide +kernel, by decide +kernel⟩, List.mem_of_getElem? (i := 240) (by decide +kernel), List.mem_of_getElem? (i := 478) (by decide +kernel), List.mem_of_getElem? (i := 479) (by decide +kernel)⟩
theorem lw_p7 : lw_okq (⟨"LotBeliefs$Course", "seat", "(I)V"⟩, 12) := ⟨⟨by decide +kernel, by decide +kernel⟩, List.mem_of_getElem? (i := 240) (by decide +kernel), List.mem_of_getElem? (i := 482) (by decide +kernel), List.mem_of_getElem? (i := 483) (by decide +kernel)⟩
theorem lw_p8 : lw_okq (⟨"LotBeliefs$Course", "bury", "(I)V"⟩, 12) := ⟨⟨by decide +kernel, by decide +kernel⟩, List.mem_of_getElem? (i := 240) (by decide +kernel), List.mem_of_getElem? (i := 486) (by decide +kernel), List.mem_of_getElem? (i := 487) (by decide +kernel)⟩
theorem lw_p9 : lw_okq (⟨"LotBeliefs$Course", "lives", "(II)Z"⟩, 12) := ⟨⟨by decide +kernel, by decide +kernel⟩, List.mem_of_getElem? (i := 240) (by decide +kernel), List.mem_of_getElem? (i := 494) (by decide +kernel), List.mem_of_getElem? (i := 495) (by decide +kernel)⟩
theorem lw_p10 : lw_okq (⟨"LotBeliefs$Course", "stands", "(II)Z"⟩, 12) := ⟨⟨by decide +kernel, by decide +kernel⟩, List.mem_of_getElem? (i := 240) (by decide +kernel), List.mem_of_getElem? (i := 498) (by decide +kernel), List.mem_of_getElem? (i := 499) (by decide +kernel)⟩
theorem lw_p11 : lw_okq (⟨"LotBeliefs$Course", "whoFalls", "(III)I"⟩, 12) := ⟨⟨by decide +kernel, by decide +kernel⟩, List.mem_of_getElem? (i := 240) (by decide +kernel), List.mem_of_getElem? (i := 506) (by decide +kernel), List.mem_of_getElem? (i := 507) (by decide +kernel)⟩
theorem lw_p12 : lw_okq (⟨"LotBeliefs$Tongue", "valueOf", "(I)I"⟩, 5) := ⟨⟨by decide +kernel, by decide +kernel⟩, List.mem_of_getElem? (i := 196) (by decide +kernel), List.mem_of_getElem? (i := 520) (by decide +kernel), List.mem_of_getElem? (i := 521) (by decide +kernel)⟩
theorem lw_p13 : lw_okq (⟨"LotBeliefs$Course", "fall", "(III)V"⟩, 12) := ⟨⟨by decide +kernel, by decide +kernel⟩, List.mem_of_getElem? (i := 240) (by decide +kernel), List.mem_of_getElem? (i := 527) (by decide +kernel), List.mem_of_getElem? (i := 528) (by decide +kernel)⟩
theorem lw_p14 : lw_okq (⟨"LotBeliefs", "copyOrder", "(I)V"⟩, 17) := ⟨⟨by decide +kernel, by decide +kernel⟩, List.mem_of_getElem? (i := 28) (by decide +kernel), List.mem_of_getElem? (i := 531) (by decide +kernel), List.mem_of_getElem? (i := 532) (by decide +kernel)⟩
theorem lw_p15 : lw_okq (⟨"LotBeliefs", "change", "(II)V"⟩, 17) := ⟨⟨by decide +kernel, by decide +kernel⟩, List.mem_of_getElem? (i := 28) (by decide +kernel), List.mem_of_getElem? (i := 535) (by decide +kernel), List.mem_of_getElem? (i := 536) (by decide +kernel)⟩
def lw_privs_1 : List (MethodName × Nat) := [(⟨"LotBeliefs$Jar", "leftBy", "(I)J"⟩, 14), (⟨"LotBeliefs$Jar", "deadIn", "(I)I"⟩, 14), (⟨"LotBeliefs$Jar", "foesIn", "(II)I"⟩, 14), (⟨"LotBeliefs", "digit", "(JI)I"⟩, 17), (⟨"LotBeliefs", "takeOrder", "(J)V"⟩, 17), (⟨"LotBeliefs", "runYear", "()V"⟩, 17), (⟨"LotBeliefs$Course", "goBack", "([II)V"⟩, 12), (⟨"LotBeliefs$Course", "seat", "(I)V"⟩, 12), (⟨"LotBeliefs$Course", "bury", "(I)V"⟩, 12), (⟨"LotBeliefs$Course", "lives", "(II)Z"⟩, 12), (⟨"LotBeliefs$Course", "stands", "(II)Z"⟩, 12), (⟨"LotBeliefs$Course", "whoFalls", "(III)I"⟩, 12), (⟨"LotBeliefs$Tongue", "valueOf", "(I)I"⟩, 5), (⟨"LotBeliefs$Course", "fall", "(III)V"⟩, 12), (⟨"LotBeliefs", "copyOrder", "(I)V"⟩, 17), (⟨"LotBeliefs", "change", "(II)V"⟩, 17)]
theorem lw_r1 : ∀ q ∈ lw_privs_1, lw_okq q := List.forall_mem_cons.mpr ⟨lw_p0, List.forall_mem_cons.mpr ⟨lw_p1, List.forall_mem_cons.mpr ⟨lw_p2, List.forall_mem_cons.mpr ⟨lw_p3, List.forall_mem_cons.mpr ⟨lw_p4, List.forall_mem_cons.mpr ⟨lw_p5, List.forall_mem_cons.mpr ⟨lw_p6, List.forall_mem_cons.mpr ⟨lw_p7, List.forall_mem_cons.mpr ⟨lw_p8, List.forall_mem_cons.mpr ⟨lw_p9, List.forall_mem_cons.mpr ⟨lw_p10, List.forall_mem_cons.mpr ⟨lw_p11, List.forall_mem_cons.mpr ⟨lw_p12, List.forall_mem_cons.mpr ⟨lw_p13, List.forall_mem_cons.mpr ⟨lw_p14, List.forall_mem_cons.mpr ⟨lw_p15, fun _ h => absurd h List.not_mem_nil⟩⟩⟩⟩⟩⟩⟩⟩⟩⟩⟩⟩⟩⟩⟩⟩
theorem lw_p16 : lw_okq (⟨"LotBeliefs", "endOfRow", "(II)I"⟩, 17) := ⟨⟨by decide +kernel, by decide +kernel⟩, List.mem_of_getElem? (i := 28) (by decide +kernel), List.mem_of_getElem? (i := 539) (by decide +kernel), List.mem_of_getElem? (i := 540) (by decide +kernel)⟩
theorem lw_p17 : lw_okq (⟨"LotBeliefs", "drawRow", "(I)V"⟩, 17) := ⟨⟨by decide +kernel, by decide +kernel⟩, List.mem_of_getElem? (i := 28) (by decide +kernel), List.mem_of_getElem? (i := 547) (by decide +kernel), List.mem_of_getElem? (i := 548) (by decide +kernel)⟩
theorem lw_p18 : lw_okq (⟨"LotBeliefs", "gravesAhead", "(I)I"⟩, 17) := ⟨⟨by decide +kernel, by decide +kernel⟩, List.mem_of_getElem? (i := 28) (by decide +kernel), List.mem_of_getElem? (i := 556) (by decide +kernel), List.mem_of_getElem? (i := 557) (by decide +kernel)⟩
theorem lw_p19 : lw_okq (⟨"LotBeliefs", "allStayWithout", "(I)Z"⟩, 17) := ⟨⟨by decide +kernel, by decide +kernel⟩, List.mem_of_getElem? (i := 28) (by decide +kernel), List.mem_of_getElem? (i := 578) (by decide +kernel), List.mem_of_getElem? (i := 579) (by decide +kernel)⟩
theorem lw_p20 : lw_okq (⟨"LotBeliefs", "needBytes", "(II)V"⟩, 17) := ⟨⟨by decide +kernel, by decide +kernel⟩, List.mem_of_getElem? (i := 28) (by decide +kernel), List.mem_of_getElem? (i := 611) (by decide +kernel), List.mem_of_getElem? (i := 612) (by decide +kernel)⟩
theorem lw_p21 : lw_okq (⟨"LotBeliefs", "refuseArgument", "()V"⟩, 17) := ⟨⟨by decide +kernel, by decide +kernel⟩, List.mem_of_getElem? (i := 28) (by decide +kernel), List.mem_of_getElem? (i := 615) (by decide +kernel), List.mem_of_getElem? (i := 616) (by decide +kernel)⟩
theorem lw_p22 : lw_okq (⟨"java/lang/Throwable", "fillInStackTrace", "(I)Ljava/lang/Throwable;"⟩, 6) := ⟨⟨by decide +kernel, by decide +kernel⟩, List.mem_of_getElem? (i := 657) (by decide +kernel), List.mem_of_getElem? (i := 655) (by decide +kernel), List.mem_of_getElem? (i := 656) (by decide +kernel)⟩
theorem lw_p23 : lw_okq (⟨"LotBeliefs", "forgetSurveys", "()V"⟩, 17) := ⟨⟨by decide +kernel, by decide +kernel⟩, List.mem_of_getElem? (i := 28) (by decide +kernel), List.mem_of_getElem? (i := 878) (by decide +kernel), List.mem_of_getElem? (i := 879) (by decide +kernel)⟩
theorem lw_p24 : lw_okq (⟨"LotBeliefs", "needBelow", "(II)V"⟩, 17) := ⟨⟨by decide +kernel, by decide +kernel⟩, List.mem_of_getElem? (i := 28) (by decide +kernel), List.mem_of_getElem? (i := 972) (by decide +kernel), List.mem_of_getElem? (i := 973) (by decide +kernel)⟩
theorem lw_p25 : lw_okq (⟨"LotBeliefs", "needSlip", "(I)V"⟩, 17) := ⟨⟨by decide +kernel, by decide +kernel⟩, List.mem_of_getElem? (i := 28) (by decide +kernel), List.mem_of_getElem? (i := 984) (by decide +kernel), List.mem_of_getElem? (i := 985) (by decide +kernel)⟩
theorem lw_p26 : lw_okq (⟨"LotBeliefs", "refusePiece", "()V"⟩, 17) := ⟨⟨by decide +kernel, by decide +kernel⟩, List.mem_of_getElem? (i := 28) (by decide +kernel), List.mem_of_getElem? (i := 988) (by decide +kernel), List.mem_of_getElem? (i := 989) (by decide +kernel)⟩
theorem lw_p27 : lw_okq (⟨"LotBeliefs", "needWeek", "(I)V"⟩, 17) := ⟨⟨by decide +kernel, by decide +kernel⟩, List.mem_of_getElem? (i := 28) (by decide +kernel), List.mem_of_getElem? (i := 1022) (by decide +kernel), List.mem_of_getElem? (i := 1023) (by decide +kernel)⟩
theorem lw_p28 : lw_okq (⟨"LotBeliefs", "needFewSlips", "()V"⟩, 17) := ⟨⟨by decide +kernel, by decide +kernel⟩, List.mem_of_getElem? (i := 28) (by decide +kernel), List.mem_of_getElem? (i := 1107) (by decide +kernel), List.mem_of_getElem? (i := 1108) (by decide +kernel)⟩
theorem lw_p29 : lw_okq (⟨"LotBeliefs", "refuseState", "()V"⟩, 17) := ⟨⟨by decide +kernel, by decide +kernel⟩, List.mem_of_getElem? (i := 28) (by decide +kernel), List.mem_of_getElem? (i := 1111) (by decide +kernel), List.mem_of_getElem? (i := 1112) (by decide +kernel)⟩
theorem lw_p30 : lw_okq (⟨"LotBeliefs", "surveyOf", "(I)LLotBeliefs$Survey;"⟩, 17) := ⟨⟨by decide +kernel, by decide +kernel⟩, List.mem_of_getElem? (i := 28) (by decide +kernel), List.mem_of_getElem? (i := 1131) (by decide +kernel), List.mem_of_getElem? (i := 1132) (by decide +kernel)⟩
theorem lw_p31 : lw_okq (⟨"LotBeliefs$Survey", "note", "(III)V"⟩, 8) := ⟨⟨by decide +kernel, by decide +kernel⟩, List.mem_of_getElem? (i := 332) (by decide +kernel), List.mem_of_getElem? (i := 1143) (by decide +kernel), List.mem_of_getElem? (i := 1144) (by decide +kernel)⟩
def lw_privs_2 : List (MethodName × Nat) := [(⟨"LotBeliefs", "endOfRow", "(II)I"⟩, 17), (⟨"LotBeliefs", "drawRow", "(I)V"⟩, 17), (⟨"LotBeliefs", "gravesAhead", "(I)I"⟩, 17), (⟨"LotBeliefs", "allStayWithout", "(I)Z"⟩, 17), (⟨"LotBeliefs", "needBytes", "(II)V"⟩, 17), (⟨"LotBeliefs", "refuseArgument", "()V"⟩, 17), (⟨"java/lang/Throwable", "fillInStackTrace", "(I)Ljava/lang/Throwable;"⟩, 6), (⟨"LotBeliefs", "forgetSurveys", "()V"⟩, 17), (⟨"LotBeliefs", "needBelow", "(II)V"⟩, 17), (⟨"LotBeliefs", "needSlip", "(I)V"⟩, 17), (⟨"LotBeliefs", "refusePiece", "()V"⟩, 17), (⟨"LotBeliefs", "needWeek", "(I)V"⟩, 17), (⟨"LotBeliefs", "needFewSlips", "()V"⟩, 17), (⟨"LotBeliefs", "refuseState", "()V"⟩, 17), (⟨"LotBeliefs", "surveyOf", "(I)LLotBeliefs$Survey;"⟩, 17), (⟨"LotBeliefs$Survey", "note", "(III)V"⟩, 8)]
theorem lw_r2 : ∀ q ∈ lw_privs_2, lw_okq q := List.forall_mem_cons.mpr ⟨lw_p16, List.forall_mem_cons.mpr ⟨lw_p17, List.forall_mem_cons.mpr ⟨lw_p18, List.forall_mem_cons.mpr ⟨lw_p19, List.forall_mem_cons.mpr ⟨lw_p20, List.forall_mem_cons.mpr ⟨lw_p21, List.forall_mem_cons.mpr ⟨lw_p22, List.forall_mem_cons.mpr ⟨lw_p23, List.forall_mem_cons.mpr ⟨lw_p24, List.forall_mem_cons.mpr ⟨lw_p25, List.forall_mem_cons.mpr ⟨lw_p26, List.forall_mem_cons.mpr ⟨lw_p27, List.forall_mem_cons.mpr ⟨lw_p28, List.forall_mem_cons.mpr ⟨lw_p29, List.forall_mem_cons.mpr ⟨lw_p30, List.forall_mem_cons.mpr ⟨lw_p31, fun _ h => absurd h List.not_mem_nil⟩⟩⟩⟩⟩⟩⟩⟩⟩⟩⟩⟩⟩⟩⟩⟩
theorem lw_p32 : lw_okq (⟨"LotBeliefs$Survey", "digits", "(I)J"⟩, 8) := ⟨⟨by decide +kernel, by decide +kernel⟩, List.mem_of_getElem? (i := 332) (by decide +kernel), List.mem_of_getElem? (i := 1147) (by decide +kernel), List.mem_of_getElem? (i := 1148) (by decide +kernel)⟩
theorem lw_p33 : lw_okq (⟨"LotBeliefs$Survey", "advance", "(I)I"⟩, 8) := ⟨⟨by decide +kernel, by decide +kernel⟩, List.mem_of_getElem? (i := 332) (by decide +kernel), List.mem_of_getElem? (i := 1151) (by decide +kernel), List.mem_of_getElem? (i := 1152) (by decide +kernel)⟩
theorem lw_p34 : lw_okq (⟨"LotBeliefs$Survey", "change", "(II)V"⟩, 8) := ⟨⟨by decide +kernel, by decide +kernel⟩, List.mem_of_getElem? (i := 332) (by decide +kernel), List.mem_of_getElem? (i := 1155) (by decide +kernel), List.mem_of_getElem? (i := 1156) (by decide +kernel)⟩
theorem lw_p35 : lw_okq (⟨"LotBeliefs", "needBits", "(II)V"⟩, 17) := ⟨⟨by decide +kernel, by decide +kernel⟩, List.mem_of_getElem? (i := 28) (by decide +kernel), List.mem_of_getElem? (i := 1205) (by decide +kernel), List.mem_of_getElem? (i := 1206) (by decide +kernel)⟩
theorem lw_p36 : lw_okq (⟨"LotBeliefs$Subsets", "isWhole", "(I)Z"⟩, 4) := ⟨⟨by decide +kernel, by decide +kernel⟩, List.mem_of_getElem? (i := 292) (by decide +kernel), List.mem_of_getElem? (i := 1234) (by decide +kernel), List.mem_of_getElem? (i := 1235) (by decide +kernel)⟩
theorem lw_p37 : lw_okq (⟨"LotBeliefs", "laySalts", "(I)I"⟩, 17) := ⟨⟨by decide +kernel, by decide +kernel⟩, List.mem_of_getElem? (i := 28) (by decide +kernel), List.mem_of_getElem? (i := 1292) (by decide +kernel), List.mem_of_getElem? (i := 1293) (by decide +kernel)⟩
theorem lw_p38 : lw_okq (⟨"LotBeliefs", "needSeeds", "(I)V"⟩, 17) := ⟨⟨by decide +kernel, by decide +kernel⟩, List.mem_of_getElem? (i := 28) (by decide +kernel), List.mem_of_getElem? (i := 1317) (by decide +kernel), List.mem_of_getElem? (i := 1318) (by decide +kernel)⟩
theorem lw_p39 : lw_okq (⟨"LotBeliefs", "runSchool", "(LLotBeliefs$Course;I)V"⟩, 17) := ⟨⟨by decide +kernel, by decide +kernel⟩, List.mem_of_getElem? (i := 28) (by decide +kernel), List.mem_of_getElem? (i := 1328) (by decide +kernel), List.mem_of_getElem? (i := 1329) (by decide +kernel)⟩
theorem lw_p40 : lw_okq (⟨"LotBeliefs$Subsets", "allFriends", "(II)Z"⟩, 4) := ⟨⟨by decide +kernel, by decide +kernel⟩, List.mem_of_getElem? (i := 292) (by decide +kernel), List.mem_of_getElem? (i := 1386) (by decide +kernel), List.mem_of_getElem? (i := 1387) (by decide +kernel)⟩
theorem lw_p41 : lw_okq (⟨"LotBeliefs$Shortest", "build", "(I)V"⟩, 5) := ⟨⟨by decide +kernel, by decide +kernel⟩, List.mem_of_getElem? (i := 311) (by decide +kernel), List.mem_of_getElem? (i := 1423) (by decide +kernel), List.mem_of_getElem? (i := 1424) (by decide +kernel)⟩
theorem lw_p42 : lw_okq (⟨"LotBeliefs$Shortest", "find", "(II)V"⟩, 5) := ⟨⟨by decide +kernel, by decide +kernel⟩, List.mem_of_getElem? (i := 311) (by decide +kernel), List.mem_of_getElem? (i := 1428) (by decide +kernel), List.mem_of_getElem? (i := 1429) (by decide +kernel)⟩
theorem lw_p43 : lw_okq (⟨"LotBeliefs$Shortest", "negate", "(II)V"⟩, 5) := ⟨⟨by decide +kernel, by decide +kernel⟩, List.mem_of_getElem? (i := 311) (by decide +kernel), List.mem_of_getElem? (i := 1432) (by decide +kernel), List.mem_of_getElem? (i := 1433) (by decide +kernel)⟩
theorem lw_p44 : lw_okq (⟨"LotBeliefs$Shortest", "join", "(III)V"⟩, 5) := ⟨⟨by decide +kernel, by decide +kernel⟩, List.mem_of_getElem? (i := 311) (by decide +kernel), List.mem_of_getElem? (i := 1436) (by decide +kernel), List.mem_of_getElem? (i := 1437) (by decide +kernel)⟩
theorem lw_p45 : lw_okq (⟨"LotBeliefsModel", "tellsNothing", "()V"⟩, 62) := ⟨⟨by decide +kernel, by decide +kernel⟩, List.mem_of_getElem? (i := 1474) (by decide +kernel), List.mem_of_getElem? (i := 1483) (by decide +kernel), List.mem_of_getElem? (i := 1484) (by decide +kernel)⟩
theorem lw_p46 : lw_okq (⟨"LotBeliefsModel", "stands", "()V"⟩, 62) := ⟨⟨by decide +kernel, by decide +kernel⟩, List.mem_of_getElem? (i := 1474) (by decide +kernel), List.mem_of_getElem? (i := 1487) (by decide +kernel), List.mem_of_getElem? (i := 1488) (by decide +kernel)⟩
theorem lw_p47 : lw_okq (⟨"LotBeliefsModel", "bad", "(ZII)Z"⟩, 62) := ⟨⟨by decide +kernel, by decide +kernel⟩, List.mem_of_getElem? (i := 1474) (by decide +kernel), List.mem_of_getElem? (i := 1696) (by decide +kernel), List.mem_of_getElem? (i := 1697) (by decide +kernel)⟩
def lw_privs_3 : List (MethodName × Nat) := [(⟨"LotBeliefs$Survey", "digits", "(I)J"⟩, 8), (⟨"LotBeliefs$Survey", "advance", "(I)I"⟩, 8), (⟨"LotBeliefs$Survey", "change", "(II)V"⟩, 8), (⟨"LotBeliefs", "needBits", "(II)V"⟩, 17), (⟨"LotBeliefs$Subsets", "isWhole", "(I)Z"⟩, 4), (⟨"LotBeliefs", "laySalts", "(I)I"⟩, 17), (⟨"LotBeliefs", "needSeeds", "(I)V"⟩, 17), (⟨"LotBeliefs", "runSchool", "(LLotBeliefs$Course;I)V"⟩, 17), (⟨"LotBeliefs$Subsets", "allFriends", "(II)Z"⟩, 4), (⟨"LotBeliefs$Shortest", "build", "(I)V"⟩, 5), (⟨"LotBeliefs$Shortest", "find", "(II)V"⟩, 5), (⟨"LotBeliefs$Shortest", "negate", "(II)V"⟩, 5), (⟨"LotBeliefs$Shortest", "join", "(III)V"⟩, 5), (⟨"LotBeliefsModel", "tellsNothing", "()V"⟩, 62), (⟨"LotBeliefsModel", "stands", "()V"⟩, 62), (⟨"LotBeliefsModel", "bad", "(ZII)Z"⟩, 62)]
theorem lw_r3 : ∀ q ∈ lw_privs_3, lw_okq q := List.forall_mem_cons.mpr ⟨lw_p32, List.forall_mem_cons.mpr ⟨lw_p33, List.forall_mem_cons.mpr ⟨lw_p34, List.forall_mem_cons.mpr ⟨lw_p35, List.forall_mem_cons.mpr ⟨lw_p36, List.forall_mem_cons.mpr ⟨lw_p37, List.forall_mem_cons.mpr ⟨lw_p38, List.forall_mem_cons.mpr ⟨lw_p39, List.forall_mem_cons.mpr ⟨lw_p40, List.forall_mem_cons.mpr ⟨lw_p41, List.forall_mem_cons.mpr ⟨lw_p42, List.forall_mem_cons.mpr ⟨lw_p43, List.forall_mem_cons.mpr ⟨lw_p44, List.forall_mem_cons.mpr ⟨lw_p45, List.forall_mem_cons.mpr ⟨lw_p46, List.forall_mem_cons.mpr ⟨lw_p47, fun _ h => absurd h List.not_mem_nil⟩⟩⟩⟩⟩⟩⟩⟩⟩⟩⟩⟩⟩⟩⟩⟩
theorem lw_p48 : lw_okq (⟨"LotBeliefsModel", "starts", "(I)V"⟩, 62) := ⟨⟨by decide +kernel, by decide +kernel⟩, List.mem_of_getElem? (i := 1474) (by decide +kernel), List.mem_of_getElem? (i := 1700) (by decide +kernel), List.mem_of_getElem? (i := 1701) (by decide +kernel)⟩
theorem lw_p49 : lw_okq (⟨"LotBeliefsModel", "blanks", "()V"⟩, 62) := ⟨⟨by decide +kernel, by decide +kernel⟩, List.mem_of_getElem? (i := 1474) (by decide +kernel), List.mem_of_getElem? (i := 1704) (by decide +kernel), List.mem_of_getElem? (i := 1705) (by decide +kernel)⟩
theorem lw_p50 : lw_okq (⟨"LotBeliefsModel", "byteAt", "(I)I"⟩, 62) := ⟨⟨by decide +kernel, by decide +kernel⟩, List.mem_of_getElem? (i := 1474) (by decide +kernel), List.mem_of_getElem? (i := 1708) (by decide +kernel), List.mem_of_getElem? (i := 1709) (by decide +kernel)⟩
theorem lw_p51 : lw_okq (⟨"LotBeliefsModel", "clause", "()V"⟩, 62) := ⟨⟨by decide +kernel, by decide +kernel⟩, List.mem_of_getElem? (i := 1474) (by decide +kernel), List.mem_of_getElem? (i := 1712) (by decide +kernel), List.mem_of_getElem? (i := 1713) (by decide +kernel)⟩
theorem lw_p52 : lw_okq (⟨"LotBeliefsModel", "kindHere", "()I"⟩, 62) := ⟨⟨by decide +kernel, by decide +kernel⟩, List.mem_of_getElem? (i := 1474) (by decide +kernel), List.mem_of_getElem? (i := 1716) (by decide +kernel), List.mem_of_getElem? (i := 1717) (by decide +kernel)⟩
theorem lw_p53 : lw_okq (⟨"LotBeliefsModel", "isWord", "(IIIIII)Z"⟩, 62) := ⟨⟨by decide +kernel, by decide +kernel⟩, List.mem_of_getElem? (i := 1474) (by decide +kernel), List.mem_of_getElem? (i := 1720) (by decide +kernel), List.mem_of_getElem? (i := 1721) (by decide +kernel)⟩
theorem lw_p54 : lw_okq (⟨"LotBeliefsModel", "wordHere", "()I"⟩, 62) := ⟨⟨by decide +kernel, by decide +kernel⟩, List.mem_of_getElem? (i := 1474) (by decide +kernel), List.mem_of_getElem? (i := 1724) (by decide +kernel), List.mem_of_getElem? (i := 1725) (by decide +kernel)⟩
theorem lw_p55 : lw_okq (⟨"LotBeliefsModel", "wrong", "(II)V"⟩, 62) := ⟨⟨by decide +kernel, by decide +kernel⟩, List.mem_of_getElem? (i := 1474) (by decide +kernel), List.mem_of_getElem? (i := 1734) (by decide +kernel), List.mem_of_getElem? (i := 1735) (by decide +kernel)⟩
theorem lw_p56 : lw_okq (⟨"LotBeliefsModel", "isFull", "(I)Z"⟩, 62) := ⟨⟨by decide +kernel, by decide +kernel⟩, List.mem_of_getElem? (i := 1474) (by decide +kernel), List.mem_of_getElem? (i := 1738) (by decide +kernel), List.mem_of_getElem? (i := 1739) (by decide +kernel)⟩
theorem lw_p57 : lw_okq (⟨"LotBeliefsModel", "skipWord", "()V"⟩, 62) := ⟨⟨by decide +kernel, by decide +kernel⟩, List.mem_of_getElem? (i := 1474) (by decide +kernel), List.mem_of_getElem? (i := 1742) (by decide +kernel), List.mem_of_getElem? (i := 1743) (by decide +kernel)⟩
theorem lw_p58 : lw_okq (⟨"LotBeliefsModel", "number", "(II)I"⟩, 62) := ⟨⟨by decide +kernel, by decide +kernel⟩, List.mem_of_getElem? (i := 1474) (by decide +kernel), List.mem_of_getElem? (i := 1746) (by decide +kernel), List.mem_of_getElem? (i := 1747) (by decide +kernel)⟩
theorem lw_p59 : lw_okq (⟨"LotBeliefsModel", "anyOf", "()J"⟩, 62) := ⟨⟨by decide +kernel, by decide +kernel⟩, List.mem_of_getElem? (i := 1474) (by decide +kernel), List.mem_of_getElem? (i := 1754) (by decide +kernel), List.mem_of_getElem? (i := 1755) (by decide +kernel)⟩
theorem lw_p60 : lw_okq (⟨"LotBeliefsModel", "eachOf", "()J"⟩, 62) := ⟨⟨by decide +kernel, by decide +kernel⟩, List.mem_of_getElem? (i := 1474) (by decide +kernel), List.mem_of_getElem? (i := 1758) (by decide +kernel), List.mem_of_getElem? (i := 1759) (by decide +kernel)⟩
theorem lw_p61 : lw_okq (⟨"LotBeliefsModel", "oneOf", "()J"⟩, 62) := ⟨⟨by decide +kernel, by decide +kernel⟩, List.mem_of_getElem? (i := 1474) (by decide +kernel), List.mem_of_getElem? (i := 1762) (by decide +kernel), List.mem_of_getElem? (i := 1763) (by decide +kernel)⟩
theorem lw_p62 : lw_okq (⟨"LotBeliefsModel", "opens", "()Z"⟩, 62) := ⟨⟨by decide +kernel, by decide +kernel⟩, List.mem_of_getElem? (i := 1474) (by decide +kernel), List.mem_of_getElem? (i := 1766) (by decide +kernel), List.mem_of_getElem? (i := 1767) (by decide +kernel)⟩
theorem lw_p63 : lw_okq (⟨"LotBeliefsModel", "sign", "(I)V"⟩, 62) := ⟨⟨by decide +kernel, by decide +kernel⟩, List.mem_of_getElem? (i := 1474) (by decide +kernel), List.mem_of_getElem? (i := 1770) (by decide +kernel), List.mem_of_getElem? (i := 1771) (by decide +kernel)⟩
def lw_privs_4 : List (MethodName × Nat) := [(⟨"LotBeliefsModel", "starts", "(I)V"⟩, 62), (⟨"LotBeliefsModel", "blanks", "()V"⟩, 62), (⟨"LotBeliefsModel", "byteAt", "(I)I"⟩, 62), (⟨"LotBeliefsModel", "clause", "()V"⟩, 62), (⟨"LotBeliefsModel", "kindHere", "()I"⟩, 62), (⟨"LotBeliefsModel", "isWord", "(IIIIII)Z"⟩, 62), (⟨"LotBeliefsModel", "wordHere", "()I"⟩, 62), (⟨"LotBeliefsModel", "wrong", "(II)V"⟩, 62), (⟨"LotBeliefsModel", "isFull", "(I)Z"⟩, 62), (⟨"LotBeliefsModel", "skipWord", "()V"⟩, 62), (⟨"LotBeliefsModel", "number", "(II)I"⟩, 62), (⟨"LotBeliefsModel", "anyOf", "()J"⟩, 62), (⟨"LotBeliefsModel", "eachOf", "()J"⟩, 62), (⟨"LotBeliefsModel", "oneOf", "()J"⟩, 62), (⟨"LotBeliefsModel", "opens", "()Z"⟩, 62), (⟨"LotBeliefsModel", "sign", "(I)V"⟩, 62)]
theorem lw_r4 : ∀ q ∈ lw_privs_4, lw_okq q := List.forall_mem_cons.mpr ⟨lw_p48, List.forall_mem_cons.mpr ⟨lw_p49, List.forall_mem_cons.mpr ⟨lw_p50, List.forall_mem_cons.mpr ⟨lw_p51, List.forall_mem_cons.mpr ⟨lw_p52, List.forall_mem_cons.mpr ⟨lw_p53, List.forall_mem_cons.mpr ⟨lw_p54, List.forall_mem_cons.mpr ⟨lw_p55, List.forall_mem_cons.mpr ⟨lw_p56, List.forall_mem_cons.mpr ⟨lw_p57, List.forall_mem_cons.mpr ⟨lw_p58, List.forall_mem_cons.mpr ⟨lw_p59, List.forall_mem_cons.mpr ⟨lw_p60, List.forall_mem_cons.mpr ⟨lw_p61, List.forall_mem_cons.mpr ⟨lw_p62, List.forall_mem_cons.mpr ⟨lw_p63, fun _ h => absurd h List.not_mem_nil⟩⟩⟩⟩⟩⟩⟩⟩⟩⟩⟩⟩⟩⟩⟩⟩
theorem lw_p64 : lw_okq (⟨"LotBeliefsModel", "takes", "(IIIIII)Z"⟩, 62) := ⟨⟨by decide +kernel, by decide +kernel⟩, List.mem_of_getElem? (i := 1474) (by decide +kernel), List.mem_of_getElem? (i := 1774) (by decide +kernel), List.mem_of_getElem? (i := 1775) (by decide +kernel)⟩
theorem lw_p65 : lw_okq (⟨"LotBeliefsModel", "whoHere", "()V"⟩, 62) := ⟨⟨by decide +kernel, by decide +kernel⟩, List.mem_of_getElem? (i := 1474) (by decide +kernel), List.mem_of_getElem? (i := 1792) (by decide +kernel), List.mem_of_getElem? (i := 1793) (by decide +kernel)⟩
theorem lw_p66 : lw_okq (⟨"LotBeliefsModel", "tongueAny", "()V"⟩, 62) := ⟨⟨by decide +kernel, by decide +kernel⟩, List.mem_of_getElem? (i := 1474) (by decide +kernel), List.mem_of_getElem? (i := 1796) (by decide +kernel), List.mem_of_getElem? (i := 1797) (by decide +kernel)⟩
theorem lw_p67 : lw_okq (⟨"LotBeliefsModel", "tongueEach", "()V"⟩, 62) := ⟨⟨by decide +kernel, by decide +kernel⟩, List.mem_of_getElem? (i := 1474) (by decide +kernel), List.mem_of_getElem? (i := 1800) (by decide +kernel), List.mem_of_getElem? (i := 1801) (by decide +kernel)⟩
theorem lw_p68 : lw_okq (⟨"LotBeliefsModel", "tongueOne", "()V"⟩, 62) := ⟨⟨by decide +kernel, by decide +kernel⟩, List.mem_of_getElem? (i := 1474) (by decide +kernel), List.mem_of_getElem? (i := 1804) (by decide +kernel), List.mem_of_getElem? (i := 1805) (by decide +kernel)⟩
theorem lw_p69 : lw_okq (⟨"LotBeliefsModel", "says", "(II)V"⟩, 62) := ⟨⟨by decide +kernel, by decide +kernel⟩, List.mem_of_getElem? (i := 1474) (by decide +kernel), List.mem_of_getElem? (i := 1808) (by decide +kernel), List.mem_of_getElem? (i := 1809) (by decide +kernel)⟩
theorem lw_p70 : lw_okq (⟨"LotBeliefsModel", "sum", "()V"⟩, 62) := ⟨⟨by decide +kernel, by decide +kernel⟩, List.mem_of_getElem? (i := 1474) (by decide +kernel), List.mem_of_getElem? (i := 1812) (by decide +kernel), List.mem_of_getElem? (i := 1813) (by decide +kernel)⟩
theorem lw_p71 : lw_okq (⟨"LotBeliefsModel", "product", "()V"⟩, 62) := ⟨⟨by decide +kernel, by decide +kernel⟩, List.mem_of_getElem? (i := 1474) (by decide +kernel), List.mem_of_getElem? (i := 1816) (by decide +kernel), List.mem_of_getElem? (i := 1817) (by decide +kernel)⟩
theorem lw_p72 : lw_okq (⟨"LotBeliefsModel", "oneValue", "()V"⟩, 62) := ⟨⟨by decide +kernel, by decide +kernel⟩, List.mem_of_getElem? (i := 1474) (by decide +kernel), List.mem_of_getElem? (i := 1820) (by decide +kernel), List.mem_of_getElem? (i := 1821) (by decide +kernel)⟩
theorem lw_p73 : lw_okq (⟨"LotBeliefsModel", "knownHere", "()I"⟩, 62) := ⟨⟨by decide +kernel, by decide +kernel⟩, List.mem_of_getElem? (i := 1474) (by decide +kernel), List.mem_of_getElem? (i := 1824) (by decide +kernel), List.mem_of_getElem? (i := 1825) (by decide +kernel)⟩
theorem lw_p74 : lw_okq (⟨"LotBeliefsModel", "takesSign", "(I)Z"⟩, 62) := ⟨⟨by decide +kernel, by decide +kernel⟩, List.mem_of_getElem? (i := 1474) (by decide +kernel), List.mem_of_getElem? (i := 1828) (by decide +kernel), List.mem_of_getElem? (i := 1829) (by decide +kernel)⟩
theorem lw_p75 : lw_okq (⟨"LotBeliefsModel", "isSlip", "(I)Z"⟩, 62) := ⟨⟨by decide +kernel, by decide +kernel⟩, List.mem_of_getElem? (i := 1474) (by decide +kernel), List.mem_of_getElem? (i := 1844) (by decide +kernel), List.mem_of_getElem? (i := 1845) (by decide +kernel)⟩
theorem lw_p76 : lw_okq (⟨"LotBeliefsModel", "falls", "(III)Z"⟩, 62) := ⟨⟨by decide +kernel, by decide +kernel⟩, List.mem_of_getElem? (i := 1474) (by decide +kernel), List.mem_of_getElem? (i := 1867) (by decide +kernel), List.mem_of_getElem? (i := 1868) (by decide +kernel)⟩
theorem lw_p77 : lw_okq (⟨"LotBeliefsModel", "truthsNow", "()I"⟩, 62) := ⟨⟨by decide +kernel, by decide +kernel⟩, List.mem_of_getElem? (i := 1474) (by decide +kernel), List.mem_of_getElem? (i := 1875) (by decide +kernel), List.mem_of_getElem? (i := 1876) (by decide +kernel)⟩
theorem lw_p78 : lw_okq (⟨"LotBeliefsModel", "isTrue", "(I)Z"⟩, 62) := ⟨⟨by decide +kernel, by decide +kernel⟩, List.mem_of_getElem? (i := 1474) (by decide +kernel), List.mem_of_getElem? (i := 1879) (by decide +kernel), List.mem_of_getElem? (i := 1880) (by decide +kernel)⟩
theorem lw_p79 : lw_okq (⟨"LotBeliefsModel", "goesNow", "()I"⟩, 62) := ⟨⟨by decide +kernel, by decide +kernel⟩, List.mem_of_getElem? (i := 1474) (by decide +kernel), List.mem_of_getElem? (i := 1908) (by decide +kernel), List.mem_of_getElem? (i := 1909) (by decide +kernel)⟩
def lw_privs_5 : List (MethodName × Nat) := [(⟨"LotBeliefsModel", "takes", "(IIIIII)Z"⟩, 62), (⟨"LotBeliefsModel", "whoHere", "()V"⟩, 62), (⟨"LotBeliefsModel", "tongueAny", "()V"⟩, 62), (⟨"LotBeliefsModel", "tongueEach", "()V"⟩, 62), (⟨"LotBeliefsModel", "tongueOne", "()V"⟩, 62), (⟨"LotBeliefsModel", "says", "(II)V"⟩, 62), (⟨"LotBeliefsModel", "sum", "()V"⟩, 62), (⟨"LotBeliefsModel", "product", "()V"⟩, 62), (⟨"LotBeliefsModel", "oneValue", "()V"⟩, 62), (⟨"LotBeliefsModel", "knownHere", "()I"⟩, 62), (⟨"LotBeliefsModel", "takesSign", "(I)Z"⟩, 62), (⟨"LotBeliefsModel", "isSlip", "(I)Z"⟩, 62), (⟨"LotBeliefsModel", "falls", "(III)Z"⟩, 62), (⟨"LotBeliefsModel", "truthsNow", "()I"⟩, 62), (⟨"LotBeliefsModel", "isTrue", "(I)Z"⟩, 62), (⟨"LotBeliefsModel", "goesNow", "()I"⟩, 62)]
theorem lw_r5 : ∀ q ∈ lw_privs_5, lw_okq q := List.forall_mem_cons.mpr ⟨lw_p64, List.forall_mem_cons.mpr ⟨lw_p65, List.forall_mem_cons.mpr ⟨lw_p66, List.forall_mem_cons.mpr ⟨lw_p67, List.forall_mem_cons.mpr ⟨lw_p68, List.forall_mem_cons.mpr ⟨lw_p69, List.forall_mem_cons.mpr ⟨lw_p70, List.forall_mem_cons.mpr ⟨lw_p71, List.forall_mem_cons.mpr ⟨lw_p72, List.forall_mem_cons.mpr ⟨lw_p73, List.forall_mem_cons.mpr ⟨lw_p74, List.forall_mem_cons.mpr ⟨lw_p75, List.forall_mem_cons.mpr ⟨lw_p76, List.forall_mem_cons.mpr ⟨lw_p77, List.forall_mem_cons.mpr ⟨lw_p78, List.forall_mem_cons.mpr ⟨lw_p79, fun _ h => absurd h List.not_mem_nil⟩⟩⟩⟩⟩⟩⟩⟩⟩⟩⟩⟩⟩⟩⟩⟩
theorem lw_p80 : lw_okq (⟨"LotBeliefsModel", "rowAsOrder", "()V"⟩, 62) := ⟨⟨by decide +kernel, by decide +kernel⟩, List.mem_of_getElem? (i := 1474) (by decide +kernel), List.mem_of_getElem? (i := 1912) (by decide +kernel), List.mem_of_getElem? (i := 1913) (by decide +kernel)⟩
theorem lw_p81 : lw_okq (⟨"LotBeliefsModel", "goes", "(I)I"⟩, 62) := ⟨⟨by decide +kernel, by decide +kernel⟩, List.mem_of_getElem? (i := 1474) (by decide +kernel), List.mem_of_getElem? (i := 1916) (by decide +kernel), List.mem_of_getElem? (i := 1917) (by decide +kernel)⟩
theorem lw_p82 : lw_okq (⟨"LotBeliefsModel", "begins", "(I)V"⟩, 62) := ⟨⟨by decide +kernel, by decide +kernel⟩, List.mem_of_getElem? (i := 1474) (by decide +kernel), List.mem_of_getElem? (i := 1920) (by decide +kernel), List.mem_of_getElem? (i := 1921) (by decide +kernel)⟩
theorem lw_p83 : lw_okq (⟨"LotBeliefsModel", "kills", "(I)V"⟩, 62) := ⟨⟨by decide +kernel, by decide +kernel⟩, List.mem_of_getElem? (i := 1474) (by decide +kernel), List.mem_of_getElem? (i := 1924) (by decide +kernel), List.mem_of_getElem? (i := 1925) (by decide +kernel)⟩
theorem lw_p84 : lw_okq (⟨"LotBeliefsModel", "isDead", "(II)Z"⟩, 62) := ⟨⟨by decide +kernel, by decide +kernel⟩, List.mem_of_getElem? (i := 1474) (by decide +kernel), List.mem_of_getElem? (i := 1928) (by decide +kernel), List.mem_of_getElem? (i := 1929) (by decide +kernel)⟩
theorem lw_p85 : lw_okq (⟨"LotBeliefsModel", "leaves", "(I)V"⟩, 62) := ⟨⟨by decide +kernel, by decide +kernel⟩, List.mem_of_getElem? (i := 1474) (by decide +kernel), List.mem_of_getElem? (i := 1932) (by decide +kernel), List.mem_of_getElem? (i := 1933) (by decide +kernel)⟩
theorem lw_p86 : lw_okq (⟨"LotBeliefsModel", "draws", "(II)V"⟩, 62) := ⟨⟨by decide +kernel, by decide +kernel⟩, List.mem_of_getElem? (i := 1474) (by decide +kernel), List.mem_of_getElem? (i := 1936) (by decide +kernel), List.mem_of_getElem? (i := 1937) (by decide +kernel)⟩
theorem lw_p87 : lw_okq (⟨"LotBeliefsModel", "whoFalls", "(III)I"⟩, 62) := ⟨⟨by decide +kernel, by decide +kernel⟩, List.mem_of_getElem? (i := 1474) (by decide +kernel), List.mem_of_getElem? (i := 1940) (by decide +kernel), List.mem_of_getElem? (i := 1941) (by decide +kernel)⟩
theorem lw_p88 : lw_okq (⟨"LotBeliefsModel", "byTongue", "(IIIIII)I"⟩, 62) := ⟨⟨by decide +kernel, by decide +kernel⟩, List.mem_of_getElem? (i := 1474) (by decide +kernel), List.mem_of_getElem? (i := 1944) (by decide +kernel), List.mem_of_getElem? (i := 1945) (by decide +kernel)⟩
theorem lw_p89 : lw_okq (⟨"LotBeliefsModel", "isSo", "(II)Z"⟩, 62) := ⟨⟨by decide +kernel, by decide +kernel⟩, List.mem_of_getElem? (i := 1474) (by decide +kernel), List.mem_of_getElem? (i := 1948) (by decide +kernel), List.mem_of_getElem? (i := 1949) (by decide +kernel)⟩
theorem lw_p90 : lw_okq (⟨"LotBeliefsModel", "valueOf", "(I)I"⟩, 62) := ⟨⟨by decide +kernel, by decide +kernel⟩, List.mem_of_getElem? (i := 1474) (by decide +kernel), List.mem_of_getElem? (i := 1952) (by decide +kernel), List.mem_of_getElem? (i := 1953) (by decide +kernel)⟩
theorem lw_p91 : lw_okq (⟨"LotBeliefsModel", "drops", "(III)V"⟩, 62) := ⟨⟨by decide +kernel, by decide +kernel⟩, List.mem_of_getElem? (i := 1474) (by decide +kernel), List.mem_of_getElem? (i := 1959) (by decide +kernel), List.mem_of_getElem? (i := 1960) (by decide +kernel)⟩
theorem lw_p92 : lw_okq (⟨"LotBeliefsModel", "ages", "()V"⟩, 62) := ⟨⟨by decide +kernel, by decide +kernel⟩, List.mem_of_getElem? (i := 1474) (by decide +kernel), List.mem_of_getElem? (i := 1963) (by decide +kernel), List.mem_of_getElem? (i := 1964) (by decide +kernel)⟩
theorem lw_p93 : lw_okq (⟨"LotBeliefsModel", "heldNow", "()I"⟩, 62) := ⟨⟨by decide +kernel, by decide +kernel⟩, List.mem_of_getElem? (i := 1474) (by decide +kernel), List.mem_of_getElem? (i := 1967) (by decide +kernel), List.mem_of_getElem? (i := 1968) (by decide +kernel)⟩
theorem lw_p94 : lw_okq (⟨"LotBeliefsModel", "togetherIn", "(II)J"⟩, 62) := ⟨⟨by decide +kernel, by decide +kernel⟩, List.mem_of_getElem? (i := 1474) (by decide +kernel), List.mem_of_getElem? (i := 1983) (by decide +kernel), List.mem_of_getElem? (i := 1984) (by decide +kernel)⟩
theorem lw_p95 : lw_okq (⟨"LotBeliefsModel", "changes", "(II)V"⟩, 62) := ⟨⟨by decide +kernel, by decide +kernel⟩, List.mem_of_getElem? (i := 1474) (by decide +kernel), List.mem_of_getElem? (i := 1991) (by decide +kernel), List.mem_of_getElem? (i := 1992) (by decide +kernel)⟩
def lw_privs_6 : List (MethodName × Nat) := [(⟨"LotBeliefsModel", "rowAsOrder", "()V"⟩, 62), (⟨"LotBeliefsModel", "goes", "(I)I"⟩, 62), (⟨"LotBeliefsModel", "begins", "(I)V"⟩, 62), (⟨"LotBeliefsModel", "kills", "(I)V"⟩, 62), (⟨"LotBeliefsModel", "isDead", "(II)Z"⟩, 62), (⟨"LotBeliefsModel", "leaves", "(I)V"⟩, 62), (⟨"LotBeliefsModel", "draws", "(II)V"⟩, 62), (⟨"LotBeliefsModel", "whoFalls", "(III)I"⟩, 62), (⟨"LotBeliefsModel", "byTongue", "(IIIIII)I"⟩, 62), (⟨"LotBeliefsModel", "isSo", "(II)Z"⟩, 62), (⟨"LotBeliefsModel", "valueOf", "(I)I"⟩, 62), (⟨"LotBeliefsModel", "drops", "(III)V"⟩, 62), (⟨"LotBeliefsModel", "ages", "()V"⟩, 62), (⟨"LotBeliefsModel", "heldNow", "()I"⟩, 62), (⟨"LotBeliefsModel", "togetherIn", "(II)J"⟩, 62), (⟨"LotBeliefsModel", "changes", "(II)V"⟩, 62)]
theorem lw_r6 : ∀ q ∈ lw_privs_6, lw_okq q := List.forall_mem_cons.mpr ⟨lw_p80, List.forall_mem_cons.mpr ⟨lw_p81, List.forall_mem_cons.mpr ⟨lw_p82, List.forall_mem_cons.mpr ⟨lw_p83, List.forall_mem_cons.mpr ⟨lw_p84, List.forall_mem_cons.mpr ⟨lw_p85, List.forall_mem_cons.mpr ⟨lw_p86, List.forall_mem_cons.mpr ⟨lw_p87, List.forall_mem_cons.mpr ⟨lw_p88, List.forall_mem_cons.mpr ⟨lw_p89, List.forall_mem_cons.mpr ⟨lw_p90, List.forall_mem_cons.mpr ⟨lw_p91, List.forall_mem_cons.mpr ⟨lw_p92, List.forall_mem_cons.mpr ⟨lw_p93, List.forall_mem_cons.mpr ⟨lw_p94, List.forall_mem_cons.mpr ⟨lw_p95, fun _ h => absurd h List.not_mem_nil⟩⟩⟩⟩⟩⟩⟩⟩⟩⟩⟩⟩⟩⟩⟩⟩
theorem lw_p96 : lw_okq (⟨"LotBeliefsModel", "allOrders", "(I)V"⟩, 62) := ⟨⟨by decide +kernel, by decide +kernel⟩, List.mem_of_getElem? (i := 1474) (by decide +kernel), List.mem_of_getElem? (i := 2019) (by decide +kernel), List.mem_of_getElem? (i := 2020) (by decide +kernel)⟩
theorem lw_p97 : lw_okq (⟨"LotBeliefsModel", "permutes", "(III)V"⟩, 62) := ⟨⟨by decide +kernel, by decide +kernel⟩, List.mem_of_getElem? (i := 1474) (by decide +kernel), List.mem_of_getElem? (i := 2023) (by decide +kernel), List.mem_of_getElem? (i := 2024) (by decide +kernel)⟩
theorem lw_p98 : lw_okq (⟨"LotBeliefsModel", "rowBy", "(I)V"⟩, 62) := ⟨⟨by decide +kernel, by decide +kernel⟩, List.mem_of_getElem? (i := 1474) (by decide +kernel), List.mem_of_getElem? (i := 2048) (by decide +kernel), List.mem_of_getElem? (i := 2049) (by decide +kernel)⟩
theorem lw_p99 : lw_okq (⟨"LotBeliefsModel", "badSet", "(II)Z"⟩, 62) := ⟨⟨by decide +kernel, by decide +kernel⟩, List.mem_of_getElem? (i := 1474) (by decide +kernel), List.mem_of_getElem? (i := 2065) (by decide +kernel), List.mem_of_getElem? (i := 2066) (by decide +kernel)⟩
theorem lw_p100 : lw_okq (⟨"LotBeliefsModel", "areSlips", "(I)Z"⟩, 62) := ⟨⟨by decide +kernel, by decide +kernel⟩, List.mem_of_getElem? (i := 1474) (by decide +kernel), List.mem_of_getElem? (i := 2069) (by decide +kernel), List.mem_of_getElem? (i := 2070) (by decide +kernel)⟩
theorem lw_p101 : lw_okq (⟨"LotBeliefsModel", "followingOf", "(J)I"⟩, 62) := ⟨⟨by decide +kernel, by decide +kernel⟩, List.mem_of_getElem? (i := 1474) (by decide +kernel), List.mem_of_getElem? (i := 2081) (by decide +kernel), List.mem_of_getElem? (i := 2082) (by decide +kernel)⟩
theorem lw_p102 : lw_okq (⟨"LotBeliefsModel", "isWhole", "(II)Z"⟩, 62) := ⟨⟨by decide +kernel, by decide +kernel⟩, List.mem_of_getElem? (i := 1474) (by decide +kernel), List.mem_of_getElem? (i := 2089) (by decide +kernel), List.mem_of_getElem? (i := 2090) (by decide +kernel)⟩
theorem lw_p103 : lw_okq (⟨"LotBeliefsModel", "goesSalted", "(I)I"⟩, 62) := ⟨⟨by decide +kernel, by decide +kernel⟩, List.mem_of_getElem? (i := 1474) (by decide +kernel), List.mem_of_getElem? (i := 2129) (by decide +kernel), List.mem_of_getElem? (i := 2130) (by decide +kernel)⟩
theorem lw_p104 : lw_okq (⟨"LotBeliefsModel", "schools", "()V"⟩, 62) := ⟨⟨by decide +kernel, by decide +kernel⟩, List.mem_of_getElem? (i := 1474) (by decide +kernel), List.mem_of_getElem? (i := 2144) (by decide +kernel), List.mem_of_getElem? (i := 2145) (by decide +kernel)⟩
theorem lw_p105 : lw_okq (⟨"LotBeliefsModel", "laysPlain", "()V"⟩, 62) := ⟨⟨by decide +kernel, by decide +kernel⟩, List.mem_of_getElem? (i := 1474) (by decide +kernel), List.mem_of_getElem? (i := 2160) (by decide +kernel), List.mem_of_getElem? (i := 2161) (by decide +kernel)⟩
theorem lw_p106 : lw_okq (⟨"LotBeliefsModel", "isLong", "(II)V"⟩, 62) := ⟨⟨by decide +kernel, by decide +kernel⟩, List.mem_of_getElem? (i := 1474) (by decide +kernel), List.mem_of_getElem? (i := 2164) (by decide +kernel), List.mem_of_getElem? (i := 2165) (by decide +kernel)⟩
theorem lw_p107 : lw_okq (⟨"LotBeliefsModel", "movesAll", "([IZ)V"⟩, 62) := ⟨⟨by decide +kernel, by decide +kernel⟩, List.mem_of_getElem? (i := 1474) (by decide +kernel), List.mem_of_getElem? (i := 2176) (by decide +kernel), List.mem_of_getElem? (i := 2177) (by decide +kernel)⟩
theorem lw_p108 : lw_okq (⟨"LotBeliefsModel", "moves", "([IIZ)I"⟩, 62) := ⟨⟨by decide +kernel, by decide +kernel⟩, List.mem_of_getElem? (i := 1474) (by decide +kernel), List.mem_of_getElem? (i := 2180) (by decide +kernel), List.mem_of_getElem? (i := 2181) (by decide +kernel)⟩
def lw_privs_7 : List (MethodName × Nat) := [(⟨"LotBeliefsModel", "allOrders", "(I)V"⟩, 62), (⟨"LotBeliefsModel", "permutes", "(III)V"⟩, 62), (⟨"LotBeliefsModel", "rowBy", "(I)V"⟩, 62), (⟨"LotBeliefsModel", "badSet", "(II)Z"⟩, 62), (⟨"LotBeliefsModel", "areSlips", "(I)Z"⟩, 62), (⟨"LotBeliefsModel", "followingOf", "(J)I"⟩, 62), (⟨"LotBeliefsModel", "isWhole", "(II)Z"⟩, 62), (⟨"LotBeliefsModel", "goesSalted", "(I)I"⟩, 62), (⟨"LotBeliefsModel", "schools", "()V"⟩, 62), (⟨"LotBeliefsModel", "laysPlain", "()V"⟩, 62), (⟨"LotBeliefsModel", "isLong", "(II)V"⟩, 62), (⟨"LotBeliefsModel", "movesAll", "([IZ)V"⟩, 62), (⟨"LotBeliefsModel", "moves", "([IIZ)I"⟩, 62)]
theorem lw_r7 : ∀ q ∈ lw_privs_7, lw_okq q := List.forall_mem_cons.mpr ⟨lw_p96, List.forall_mem_cons.mpr ⟨lw_p97, List.forall_mem_cons.mpr ⟨lw_p98, List.forall_mem_cons.mpr ⟨lw_p99, List.forall_mem_cons.mpr ⟨lw_p100, List.forall_mem_cons.mpr ⟨lw_p101, List.forall_mem_cons.mpr ⟨lw_p102, List.forall_mem_cons.mpr ⟨lw_p103, List.forall_mem_cons.mpr ⟨lw_p104, List.forall_mem_cons.mpr ⟨lw_p105, List.forall_mem_cons.mpr ⟨lw_p106, List.forall_mem_cons.mpr ⟨lw_p107, List.forall_mem_cons.mpr ⟨lw_p108, fun _ h => absurd h List.not_mem_nil⟩⟩⟩⟩⟩⟩⟩⟩⟩⟩⟩⟩⟩
def lw_privs : List (MethodName × Nat) := lw_privs_1 ++ (lw_privs_2 ++ (lw_privs_3 ++ (lw_privs_4 ++ (lw_privs_5 ++ (lw_privs_6 ++ (lw_privs_7))))))
def lw_tbl : List Cond := k2_sels lw_privs ++ tables_1
theorem lw_privs_ok : ∀ q ∈ lw_privs, lw_okq q := by
  show ∀ q ∈ lw_privs_1 ++ (lw_privs_2 ++ (lw_privs_3 ++ (lw_privs_4 ++ (lw_privs_5 ++ (lw_privs_6 ++ (lw_privs_7)))))), lw_okq q
  exact List.forall_mem_append.mpr ⟨lw_r1, List.forall_mem_append.mpr ⟨lw_r2, List.forall_mem_append.mpr ⟨lw_r3, List.forall_mem_append.mpr ⟨lw_r4, List.forall_mem_append.mpr ⟨lw_r5, List.forall_mem_append.mpr ⟨lw_r6, lw_r7⟩⟩⟩⟩⟩⟩
-- ===== end of PART A; then your names; then what follows =====
end
section

/-! ===== BEGIN new T[n][m]: the outer array a place, the inner ones among the pooled ===== -/
/-- f, but v at every address of l -/
def vr_up {α : Type} (f : Nat → α) (l : List Nat) (v : α) : Nat → α := fun a => if a ∈ l then v else f a
theorem vr_up_in {α : Type} {f : Nat → α} {l : List Nat} {v : α} {a : Nat} (h : a ∈ l) : vr_up f l v a = v := if_pos h
theorem vr_up_ne {α : Type} {f : Nat → α} {l : List Nat} {v : α} {a : Nat} (h : a ∉ l) : vr_up f l v a = f a := if_neg h
theorem vr_rows {L l : List Nat} {f : Nat → va_E} {e : va_E} (h : ∀ a, a ∈ l → a ∉ L) : va_pl L f ++ l.map (fun a => (a, e)) = va_pl (L ++ l) (vr_up f l e) := by
  unfold va_pl
  rw [List.map_append]
  congr 1
  · apply List.map_congr_left
    intro a ha
    rw [vr_up_ne (fun q => h a q ha)]
  · apply List.map_congr_left
    intro a ha
    rw [vr_up_in ha]
theorem vr_lay {X rows : va_W} {x : Nat × va_E} {pl : va_W} {D : va_G} {cl : List vw_C} {H : Heap} (hP : va_P D cl (((X ++ pl) ++ [x]) ++ rows) H) : va_P D cl ((X ++ [x]) ++ (pl ++ rows)) H := by
  rw [List.append_assoc (X ++ pl)] at hP
  have h := va_P.swap hP
  rw [← List.append_assoc X] at h
  have h2 := va_P.swap h
  rw [List.append_assoc (X ++ [x])] at h2
  exact h2
theorem vr_layD {X rows : va_W} {x : Nat × va_E} {pl : va_W} {A : Nat → Prop} (hD : va_D A (((X ++ pl) ++ [x]) ++ rows)) : va_D A ((X ++ [x]) ++ (pl ++ rows)) := by
  rw [List.append_assoc (X ++ pl)] at hD
  have h := va_D.swap hD
  rw [← List.append_assoc X] at h
  have h2 := va_D.swap h
  rw [List.append_assoc (X ++ [x])] at h2
  exact h2
theorem vr_outer (c : ClassId) (N h0 : Nat) : ∀ i : Nat, Jvm.Free.Multi.outerC c N h0 i = arrV c N (fun j => va_rf (if j < i then some (h0 + 1 + j) else none))
  | 0 => by
    show ({ cls := c, slots := Array.replicate N .null, vm := .none } : Cell) = _
    rw [arrV_new]
    refine congrArg (arrV c N) (funext fun j => ?_)
    simp [va_rf]
  | i + 1 => by
    show (Jvm.Free.Multi.outerC c N h0 i).setSlot i (.ref (h0 + 1 + i)) = _
    rw [vr_outer c N h0 i, arrV_store]
    refine congrArg (arrV c N) (funext fun j => ?_)
    by_cases e : j = i
    · subst e
      simp [updV, va_rf]
    · by_cases h : j < i
      · simp [updV, e, h, Nat.lt_succ_of_lt h]
      · simp [updV, e, h, show ¬ j < i + 1 by omega]
def va_AOA (ty : FieldType) (U : State) : Prop := (Cond.arrayOver (.array ty)).before #[] U = true
theorem va_AOA.use {ty : FieldType} {A : Array Value} {U : State} (h : va_AOA ty U) : (Cond.arrayOver (.array ty)).before A U = true := h
section VGM
variable {p : Program} {l : Launch} {e : Env} {R : Room} {s : State} {m : MethodId} {args : Array Value} {below : List Frame} {meth : Method} {c : Code} {H : Heap} {locs : List Loc} {cells slots : Nat} {Q : State → Prop}
variable {cc : ByteArray} {pc : Nat} {ls : Array Slot} {rest : List Value} {D : va_G} {cl : List vw_C} {A : Nat → Prop} {a : Nat} {tys : List (ClassId × FieldType)} {ws : va_W} {H0 : Heap}
theorem va_mna {X : va_W} {L : List Nat} {f : Nat → va_E} {cc : ByteArray} (hexec : p.tables.exec = Jvm.exec) (hb : c.code = cc) {own : String} {index : Nat} {ty : FieldType} {cy : ClassId} (hown : s.vm.findClass own = some m.cls) (hclink : (Cond.classLink own index ("[" ++ (FieldType.array ty).toString)).before args s = true) (hover : va_AOA ty s) (harr : (Cond.arrayClass ty).before args s = true) (hcy : s.vm.findClass (FieldType.array ty).toString = some cy)
    (hK : va_K D cl tys s) (hP : va_P D cl (X ++ va_pl L f) H) (hD : va_D A (X ++ va_pl L f)) (hS : va_S A H0 H locs) (hA : ∀ q, H0.size ≤ q → A q) {n k : Int32} {N' K' : Nat} {z : vp_A} (hn : ¬ n < 0) (hk : ¬ k < 0) (hN : n.toNatClampNeg = N') (hM : k.toNatClampNeg = K')
    (hb1 : N' * 4 ≤ 536870912) (hb2 : K' * componentBytes ty ≤ 536870912) (hb3 : K' ≤ 536870912) (hdf : fits ty (defaultValue ty) = true) (hdd : (defaultValue ty).isDefault = true) (hcells : cells + (1 + N') ≤ R.cells) (hslots : slots + (N' + N' * K') ≤ R.slots) (hz : ∀ c : ClassId, Jvm.Free.Multi.innerC c K' (defaultValue ty) = vp_cell c z) (hdg : decode cc pc = .ok (.multianewarray index 2, 4))
    (kk : ∀ (q : Nat) (r : Nat → Nat) (cA : ClassId) (H1 : Heap), (∀ i j : Nat, i < N' → j < N' → r i = r j → i = j) → (∀ i : Nat, i < N' → r i ∉ L) → va_K D cl (tys ++ [(cA, .array ty)]) s →
      va_P D cl ((X ++ [(q, .inl (cA, N', .inr (.inr (.inr (.inr (fun i => if i < N' then some (r i) else none))))))]) ++ va_pl (L ++ (List.range N').map r) (vr_up f ((List.range N').map r) (.inl (cy, z)))) H1 → va_D A ((X ++ [(q, .inl (cA, N', .inr (.inr (.inr (.inr (fun i => if i < N' then some (r i) else none))))))]) ++ va_pl (L ++ (List.range N').map r) (vr_up f ((List.range N').map r) (.inl (cy, z)))) → va_S A H0 H1 locs →
      W p l e R s m args below meth c H1 locs (cells + 1 + N') (slots + N' + N' * K') Q (F0 m (pc + 4) ls (.ref q :: rest))) : W p l e R s m args below meth c H locs cells slots Q (F0 m pc ls (.int k :: .int n :: rest)) := by
  subst hN
  subst hM
  intro T hT Xs
  obtain ⟨vm₁, cA, comp, -, fA, fC, hO, -, X', step⟩ := Xs.multianewarray2F hexec hown hclink (va_AOA.use hover) harr (g := F0 m pc ls (.int k :: .int n :: rest)) rfl (by rw [hb]; exact hdg) rfl hn hk hb1 hb2 hb3 hdf hdd hcells hslots
  have ec : some cy = some comp := hcy.symm.trans fC
  cases ec
  generalize hF : Jvm.Free.Multi.fill (T.setVm vm₁) cA cy n.toNatClampNeg k.toNatClampNeg (defaultValue ty) n.toNatClampNeg = F at X' step
  have hTh : (T.setVm vm₁).heap = H := hT
  obtain ⟨f1, f2, -, -⟩ := Jvm.Free.Multi.fill_facts (T.setVm vm₁) cA cy n.toNatClampNeg k.toNatClampNeg (defaultValue ty) n.toNatClampNeg
  rw [hF, hTh] at f1 f2
  have hold : ∀ x : Nat, x < H.size → F.heap[x]? = H[x]? := fun x hx => by
    have := Jvm.Free.Multi.fill_old (T.setVm vm₁) cA cy n.toNatClampNeg k.toNatClampNeg (defaultValue ty) (a := x) (by rw [hTh]; exact hx) n.toNatClampNeg
    rw [hF, hTh] at this
    exact this
  have hrow : ∀ j : Nat, j < n.toNatClampNeg → F.heap[H.size + 1 + j]? = some (vp_cell cy z) := fun j hj => by
    have := Jvm.Free.Multi.fill_inner (T.setVm vm₁) cA cy n.toNatClampNeg k.toNatClampNeg (defaultValue ty) n.toNatClampNeg j hj
    rw [hF, hTh, hz] at this
    exact this
  have hout : Jvm.Free.Multi.outerC cA n.toNatClampNeg H.size n.toNatClampNeg = vp_cell cA (n.toNatClampNeg, .inr (.inr (.inr (.inr (fun i => if i < n.toNatClampNeg then some (H.size + 1 + i) else none))))) := by
    rw [vp_cell_q]
    exact vr_outer cA n.toNatClampNeg H.size n.toNatClampNeg
  rw [hout] at f2
  have hlt : ∀ a, a ∈ L → a < H.size := fun a ha => by
    obtain ⟨k9, hk9⟩ := va_pl_get (X := X) (f := f) ha
    exact (hP k9 _ hk9).lt
  have hnl : ∀ i : Nat, i < n.toNatClampNeg → H.size + 1 + i ∉ L := fun i _ h => by
    have := hlt _ h
    omega
  have hnm : ∀ a, a ∈ (List.range n.toNatClampNeg).map (fun i => H.size + 1 + i) → a ∉ L := fun a ha h => by
    obtain ⟨i, -, rfl⟩ := List.mem_map.mp ha
    have := hlt _ h
    omega
  have hP0 : va_P D cl (X ++ va_pl L f) F.heap := hP.kept (fun k9 x hx => hold x.1 ((hP k9 x hx).lt))
  have hP1 : va_P D cl ((X ++ va_pl L f) ++ [(H.size, .inl (cA, n.toNatClampNeg, .inr (.inr (.inr (.inr (fun i => if i < n.toNatClampNeg then some (H.size + 1 + i) else none))))))]) F.heap := hP0.app (fun k9 x hx => by
    have h0 : k9 < 1 := (List.getElem?_eq_some_iff.mp hx).1
    rw [show k9 = 0 by omega] at hx
    cases hx
    exact f2)
  have hP2 : va_P D cl (((X ++ va_pl L f) ++ [(H.size, .inl (cA, n.toNatClampNeg, .inr (.inr (.inr (.inr (fun i => if i < n.toNatClampNeg then some (H.size + 1 + i) else none))))))]) ++ ((List.range n.toNatClampNeg).map (fun i => H.size + 1 + i)).map (fun a => (a, .inl (cy, z)))) F.heap := hP1.app (fun k9 x hx => by
    obtain ⟨a, ha, rfl⟩ := List.mem_map.mp (List.mem_of_getElem? hx)
    obtain ⟨i, hi, rfl⟩ := List.mem_map.mp ha
    exact hrow i (List.mem_range.mp hi))
  have hD2 : va_D A (((X ++ va_pl L f) ++ [(H.size, .inl (cA, n.toNatClampNeg, .inr (.inr (.inr (.inr (fun i => if i < n.toNatClampNeg then some (H.size + 1 + i) else none))))))]) ++ ((List.range n.toNatClampNeg).map (fun i => H.size + 1 + i)).map (fun a => (a, .inl (cy, z)))) := by
    have hD1 := hD.push (e := .inl (cA, n.toNatClampNeg, .inr (.inr (.inr (.inr (fun i => if i < n.toNatClampNeg then some (H.size + 1 + i) else none)))))) hP rfl (hA _ hS.1)
    generalize hW1 : (X ++ va_pl L f) ++ [(H.size, .inl (cA, n.toNatClampNeg, .inr (.inr (.inr (.inr (fun i => if i < n.toNatClampNeg then some (H.size + 1 + i) else none))))))] = W1 at hD1 hP1 ⊢
    have hle : ∀ (k9 : Nat) (x : Nat × va_E), W1[k9]? = some x → x.1 ≤ H.size := fun k9 x hx => by
      rw [← hW1] at hx
      by_cases hl : k9 < (X ++ va_pl L f).length
      · rw [List.getElem?_append_left hl] at hx
        exact Nat.le_of_lt ((hP k9 x hx).lt)
      · rw [List.getElem?_append_right (by omega)] at hx
        have h0 : k9 - (X ++ va_pl L f).length < 1 := (List.getElem?_eq_some_iff.mp hx).1
        rw [show k9 - (X ++ va_pl L f).length = 0 by omega] at hx
        cases hx
        exact Nat.le_refl _
    have hr : ∀ (k9 : Nat) (x : Nat × va_E), (((List.range n.toNatClampNeg).map (fun i => H.size + 1 + i)).map (fun a => ((a, .inl (cy, z)) : Nat × va_E)))[k9]? = some x → x.1 = H.size + 1 + k9 := fun k9 x hx => by
      rw [List.getElem?_map, List.getElem?_map] at hx
      by_cases h9 : k9 < n.toNatClampNeg
      · rw [List.getElem?_range h9] at hx
        cases hx
        rfl
      · have hn0 : (List.range n.toNatClampNeg)[k9]? = none := List.getElem?_eq_none (by rw [List.length_range]; omega)
        rw [hn0] at hx
        cases hx
    refine ⟨fun i j x y hi hj hxy => ?_, fun k9 x hx => ?_⟩
    · by_cases h1 : i < W1.length <;> by_cases h2 : j < W1.length
      · rw [List.getElem?_append_left h1] at hi
        rw [List.getElem?_append_left h2] at hj
        exact hD1.1 i j x y hi hj hxy
      · rw [List.getElem?_append_left h1] at hi
        rw [List.getElem?_append_right (by omega)] at hj
        have := hle _ _ hi
        have := hr _ _ hj
        omega
      · rw [List.getElem?_append_right (by omega)] at hi
        rw [List.getElem?_append_left h2] at hj
        have := hle _ _ hj
        have := hr _ _ hi
        omega
      · rw [List.getElem?_append_right (by omega)] at hi hj
        have := hr _ _ hi
        have := hr _ _ hj
        omega
    · by_cases h1 : k9 < W1.length
      · rw [List.getElem?_append_left h1] at hx
        exact hD1.2 k9 x hx
      · rw [List.getElem?_append_right (by omega)] at hx
        have := hr _ _ hx
        exact hA _ (by have := hS.1; omega)
  have hAr : ArrOfT s cA (.array ty) := fun N9 z9 => by
    obtain ⟨-, k9, hk9, cm9, hkk9⟩ := (hO 0 0 0).1
    exact ⟨(fun q hq => by cases hq), k9, hk9, cm9, hkk9⟩
  have hK2 : va_K D cl (tys ++ [(cA, .array ty)]) s := ⟨hK.1, fun k9 x hx => by
    by_cases hl : k9 < tys.length
    · rw [List.getElem?_append_left hl] at hx
      exact hK.2 k9 x hx
    · rw [List.getElem?_append_right (by omega)] at hx
      have h0 : k9 - tys.length < 1 := (List.getElem?_eq_some_iff.mp hx).1
      rw [show k9 - tys.length = 0 by omega] at hx
      cases hx
      exact ⟨hAr, fA⟩⟩
  obtain ⟨t, a1, b1⟩ := kk H.size (fun i => H.size + 1 + i) cA F.heap (fun i j _ _ h => by have h9 : H.size + 1 + i = H.size + 1 + j := h; omega) hnl hK2 (by rw [← vr_rows hnm]; exact vr_lay hP2) (by rw [← vr_rows hnm]; exact vr_layD hD2) ⟨by rw [f1]; have := hS.1; omega, fun x h1 h2 => (hold x (Nat.lt_of_lt_of_le h1 hS.1)).trans (hS.2.1 x h1 h2), hS.2.2⟩ F rfl X'
  refine ⟨t, step t ?_, b1⟩
  have e : T.heap.size = H.size := by rw [hT]
  rw [e]
  exact a1
end VGM
/-! ===== END ===== -/
end
section
/-! ===== BEGIN words of one list among another's, by their places ===== -/
theorem goodIn_r {big : List Cond} (ws : List Cond) (ps : List Nat) (hp : ws = ps.filterMap (fun i => big[i]?)) (h : ws.all goodWord = true) : GoodIn big ws := by
  intro w hw
  have h1 := List.all_eq_true.mp h w hw
  rw [hp] at hw
  obtain ⟨i, -, hi⟩ := List.mem_filterMap.mp hw
  have hm : w ∈ big := by first | exact List.mem_of_getElem? hi | exact List.getElem?_mem hi
  exact ⟨hm, good_of_word h1⟩
theorem goodIn_app {big a b : List Cond} (ha : GoodIn big a) (hb : GoodIn big b) : GoodIn big (a ++ b) := fun w h => (List.mem_append.mp h).elim (ha w) (hb w)
theorem goodIn_ca {big a b : List Cond} {c : Cond} (ha : GoodIn big (c :: a)) (hb : GoodIn big b) : GoodIn big (c :: (a ++ b)) := fun w h => (List.mem_cons.mp h).elim (fun e => ha w (List.mem_cons.mpr (Or.inl e))) (fun h => (List.mem_append.mp h).elim (fun h => ha w (List.mem_cons.mpr (Or.inr h))) (hb w))
theorem goodIn_sub {big ws : List Cond} (hm : ∀ w ∈ ws, w ∈ big) (h : ws.all goodWord = true) : GoodIn big ws := fun w hw => ⟨hm w hw, good_of_word (List.all_eq_true.mp h w hw)⟩
/-! ===== END ===== -/
/-! ===== BEGIN exceptions that leave a method, and their catching by the caller (launches without stack traces) ===== -/
section VXA
/-! The laws vx_back, vx_callV, vx_callS, vx_callSW, vx_throw0, vx_throwS follow proofs of the library, with one case more: JvmDerived/Free/Laws.lean (Back.of_free), Shelf42/LK1.lean (callV, callS), Shelf/KitTraced.lean (throwNew0V, throwNewS). -/
/-- where a method has thrown q: the class by its name, the cell, what was written, the world -/
def vx_T (XC : String → State → State → Prop) (st : State) (q : Addr) (t : State) (mc ms : Nat) (free : Addr → Prop) : Prop :=
  ∃ (E : String) (ce : Cell) (L : List Loc), XC E st t ∧ t.heap[q]? = some ce ∧ ce.vm = .none ∧ st.vm.findClass E = some ce.cls ∧ st.WarmedH t.vm ∧ st.sameButNew ({ t with vm := st.vm } : State) L mc ms ∧ ∀ z ∈ L, free z.base
def vx_Q (Qc : Array Value → State → Outcome → State → Prop) (XC : String → State → State → Prop) (mc ms : Nat) (free : Addr → Prop) : Array Value → State → Outcome → State → Prop := fun a st o t =>
  (Qc a st o t ∧ ∃ L, FrameEnd st o t L mc ms ∧ ∀ q ∈ L, free q.base) ∨ ∃ q, o = .threw q ∧ vx_T XC st q t mc ms free
/-- a callee that returns or throws -/
def vx_Met (l : Launch) (y : MethodName) (ws : List Cond) (rm : Room) (Pc : Array Value → State → Prop) (Qc : Array Value → State → Outcome → State → Prop) (XC : String → State → State → Prop) (mc ms : Nat) (free : Addr → Prop) : Prop :=
  MetFree l y (headSpec ws rm) Pc (fun _ _ _ _ _ => True) (vx_Q Qc XC mc ms free)
def vx_Post (XC : String → State → State → Prop) (mc ms : Nat) (free : Addr → Prop) : Pt → Array Value → Addr → Pt → Prop := fun A a q B =>
  ∃ (g : JFrame) (mk : MethodId) (t : State) (L : List Loc) (E : String) (ce : Cell), B.U.heap = t.heap ∧ B.U.vm = t.vm ∧ XC E (A.U.calling g mk a) t ∧ t.heap[q]? = some ce ∧ ce.vm = .none ∧ A.U.vm.findClass E = some ce.cls ∧ B.locs = A.locs ++ L ∧ (∀ z ∈ L, free z.base) ∧ B.cells = A.cells + mc ∧ B.slots = A.slots + ms
def vx_Back (l : Launch) (R : Room) (p : Program) (e : Env) (below : List Frame) (s : State) (sargs : Array Value) (y : MethodName) (len W9 : Nat)
    (Pre : Pt → Array Value → Prop) (Post : Pt → Array Value → Option Value → Pt → Prop) (PostX : Pt → Array Value → Addr → Pt → Prop) : Prop :=
  ∀ (m : MethodId) (meth : Method) (c : Code) (A : Pt) (g : JFrame) (ig : Instr) (mk : MethodId) (a : Array Value),
    Stand p l e R s m sargs below meth c A.U A.locs A.cells A.slots → g.method = m → g.locals.size = c.maxLocals → decode c.code g.pc = .ok (ig, len) →
    2 * g.monitorRoom + (g.stack.map fun v => v.category).sum ≤ W9 → A.U.methodNamed? y = some mk → Pre A a →
    (∃ (v : Option Value) (B : Pt), Stand p l e R s m sargs below meth c B.U B.locs B.cells B.slots ∧ Post A a v B ∧
      Steps p.tables e below (doInvoke e (A.U.setTop g) [] mk a).1 (B.U.setTop { g with pc := g.pc + len, stack := v.toList ++ g.stack })) ∨
    (∃ (q : Addr) (B : Pt), Stand p l e R s m sargs below meth c B.U B.locs B.cells B.slots ∧ PostX A a q B ∧
      Steps p.tables e below (doInvoke e (A.U.setTop g) [] mk a).1 ((B.U.setTop g).pushFrame (.throwing q)))
section Payer
variable {l : Launch} {R : Room} {p : Program} {e : Env} {below : List Frame} {s : State} {sargs : Array Value} {y : MethodName} {len W9 : Nat}
theorem vx_back {ws : List Cond} {rm : Room} {Pc : Array Value → State → Prop} {Qc : Array Value → State → Outcome → State → Prop} {XC : String → State → State → Prop} {mc ms : Nat} {free : Addr → Prop} {bytes : ByteArray} {maxL : Nat} {ret : Option FieldType}
    (hM : vx_Met l y ws rm Pc Qc XC mc ms free) (hblind : FrameBlind Pc) (hrc : rm.cells = mc) (hrs : rm.slots = ms)
    (hframes : rm.frames + 1 ≤ R.frames) (hlocals : W9 + (maxL + 11) + rm.locals ≤ R.locals)
    (hws : ∀ w ∈ ws, ∀ a' U, s.WarmedH U.vm → w.before a' U = true) (hcode : Cond.code y bytes maxL ret ∈ ws) (hinit : ∀ a' U, s.WarmedH U.vm → (Cond.initialized y.cls).before a' U = true) :
    vx_Back l R p e below s sargs y len W9 (PreOf R mc ms Pc) (PostOf Qc mc ms free) (vx_Post XC mc ms free) := by
  intro m meth c A g ig mk a X hg hsize hdg hW hn hp
  have h1 : (headSpec ws rm).pre.before a A.U = true := atoms_intro fun w hw => hws w hw _ _ X.warmed
  have h2 : (Cond.code y bytes maxL ret).before a A.U = true := hws _ hcode _ _ X.warmed
  have h3 : (Cond.initialized y.cls).before a A.U = true := hinit _ _ X.warmed
  have h4 : A.cells + (headSpec ws rm).room.cells ≤ R.cells := by rw [show (headSpec ws rm).room.cells = mc from hrc]; exact hp.1
  have h5 : A.slots + (headSpec ws rm).room.slots ≤ R.slots := by rw [show (headSpec ws rm).room.slots = ms from hrs]; exact hp.2.1
  have hPc : Pc a (A.U.calling g mk a) := hblind _ _ _ _ hp.2.2
  obtain ⟨U, Ls, c0, s0⟩ := A
  dsimp only [Pt.U, Pt.locs, Pt.cells, Pt.slots] at h1 h2 h3 h4 h5 X hn hPc ⊢
  obtain ⟨methY, cY, hmY, hcY, -, hlY, -, -, -, -⟩ := Cond.code_spec hn h2
  obtain ⟨kY, hkY, -⟩ := className_of_methodNamed hn
  have hinitY : kY.init = .initialized := Cond.initialized_spec (findClass_of_methodNamed hn) hkY h3
  have h : At U g.method c below := by rw [hg]; exact X.here
  have hlocals9 : W9 + (maxL + 11) + (headSpec ws rm).room.locals ≤ R.locals := hlocals
  have happ : (headSpec ws rm).appliesLoose y e.platform (U.calling g mk a) = true :=
    Spec.appliesLoose_calling (g := g) h hdg hn hkY hinitY
      (X.room_calling (g := g) (R' := (headSpec ws rm).room) hsize hmY hcY hframes (by rw [hlY]; omega) h4 h5) h1
  obtain ⟨mid, hmid⟩ := h.above
  have hfr : (U.setTop g).frames = (.java g :: mid) ++ below := by rw [State.frames_setTop' g h.top, hmid]; rfl
  obtain ⟨o, s₂, hsteps, -, hend, hq⟩ := Steps.callFree hM p X.admits X.cas X.clock (acts := []) hfr happ hPc trivial
  have hq' : vx_Q Qc XC mc ms free a (U.calling g mk a) o s₂ := hq
  rw [State.frames_setTop' g h.top] at hend
  obtain ⟨g₀, hg0⟩ := Option.isSome_iff_exists.mp h.top
  obtain ⟨r, hr⟩ := State.topJava?_eq_some.mp hg0
  have hr' : (({ U with heap := s₂.heap, slotsUsed := s₂.slotsUsed } : State).setVm s₂.vm).frames = .java g₀ :: r := hr
  rcases hq' with ⟨hqc, L, hfe, hL⟩ | ⟨q, rfl, E, ce, L, hx, hce, hcv, hcl, hW₂, hsm, hL⟩
  · obtain ⟨⟨v, rfl⟩, hW₂, e2, q2, q3, q4, q5, q6⟩ := id hfe
    have e3 : s₂ = ({ (U.calling g mk a).setFrames s₂.frames with heap := s₂.heap, slotsUsed := s₂.slotsUsed } : State).setVm s₂.vm := by
      have : s₂ = ({ s₂ with vm := (U.calling g mk a).vm } : State).setVm s₂.vm := rfl
      rw [e2] at this
      exact this
    obtain ⟨c₂, i₂, len₂, hc₂, hd₂, hf₂⟩ := hend
    have hW' : U.WarmedH s₂.vm := hW₂
    have hcc : c₂ = c := by
      have h1 : s₂.code? g.method = U.code? g.method := by
        rw [State.code?_eq, State.code?_eq, hW'.alike.method?]
      exact Option.some.inj (hc₂.symm.trans (h1.trans h.code))
    subst hcc
    have hlen : len₂ = len := by rw [hdg] at hd₂; cases hd₂; rfl
    subst hlen
    have hs₂ : s₂ = (({ U with heap := s₂.heap, slotsUsed := s₂.slotsUsed } : State).setVm s₂.vm).setTop { g with pc := g.pc + len₂, stack := v.toList ++ g.stack } := by
      refine e3.trans ?_
      rw [hf₂, State.calling_eq h.top, State.setFrames_setFrames, State.setTop_of_frames _ hr', hr]
      rfl
    have hsame : U.sameButNew ({ U with heap := s₂.heap, slotsUsed := s₂.slotsUsed } : State) L mc ms := by
      refine ⟨?_, q2, q3, q4, q5, q6⟩
      obtain ⟨t, ht, -⟩ := State.frames_cons hr
      show ({ U with heap := s₂.heap, slotsUsed := s₂.slotsUsed } : State) = { U.setFrames U.frames with heap := s₂.heap, slotsUsed := s₂.slotsUsed }
      rw [State.setFrames_self ht]
    subst hg
    refine Or.inl ⟨v, ⟨(({ U with heap := s₂.heap, slotsUsed := s₂.slotsUsed } : State).setVm s₂.vm), Ls ++ L, c0 + mc, s0 + ms⟩,
      ⟨X.admits, X.cas, X.clock, X.frames, X.room, X.hears, X.method, X.code, (X.here.setHeapUsed s₂.heap s₂.slotsUsed).setVm hW'.alike, X.tail, State.WarmedH.trans X.warmed hW', X.limits, X.bytes, X.same.trans (hsame.setVm s.vm)⟩,
      ⟨g, mk, s₂, L, rfl, rfl, hqc, rfl, hL, rfl, rfl⟩, ?_⟩
    show Steps p.tables e below _ ((({ U with heap := s₂.heap, slotsUsed := s₂.slotsUsed } : State).setVm s₂.vm).setTop { g with pc := g.pc + len₂, stack := v.toList ++ g.stack })
    rw [← hs₂]
    exact hsteps
  · obtain ⟨e2, q2, q3, q4, q5, q6⟩ := id hsm
    have e3 : s₂ = ({ (U.calling g mk a).setFrames s₂.frames with heap := s₂.heap, slotsUsed := s₂.slotsUsed } : State).setVm s₂.vm := by
      have : s₂ = ({ s₂ with vm := (U.calling g mk a).vm } : State).setVm s₂.vm := rfl
      rw [e2] at this
      exact this
    have hf₂ : s₂.frames = .throwing q :: .java g :: U.frames.tail := hend
    have hW' : U.WarmedH s₂.vm := hW₂
    have hs₂ : s₂ = ((({ U with heap := s₂.heap, slotsUsed := s₂.slotsUsed } : State).setVm s₂.vm).setTop g).pushFrame (.throwing q) := by
      refine e3.trans ?_
      rw [hf₂, State.calling_eq h.top, State.setFrames_setFrames, State.pushFrame, State.frames_setTop _ hr', State.setTop_of_frames _ hr', State.setFrames_setFrames, hr]
      rfl
    have hsame : U.sameButNew ({ U with heap := s₂.heap, slotsUsed := s₂.slotsUsed } : State) L mc ms := by
      refine ⟨?_, q2, q3, q4, q5, q6⟩
      obtain ⟨t, ht, -⟩ := State.frames_cons hr
      show ({ U with heap := s₂.heap, slotsUsed := s₂.slotsUsed } : State) = { U.setFrames U.frames with heap := s₂.heap, slotsUsed := s₂.slotsUsed }
      rw [State.setFrames_self ht]
    subst hg
    refine Or.inr ⟨q, ⟨(({ U with heap := s₂.heap, slotsUsed := s₂.slotsUsed } : State).setVm s₂.vm), Ls ++ L, c0 + mc, s0 + ms⟩,
      ⟨X.admits, X.cas, X.clock, X.frames, X.room, X.hears, X.method, X.code, (X.here.setHeapUsed s₂.heap s₂.slotsUsed).setVm hW'.alike, X.tail, State.WarmedH.trans X.warmed hW', X.limits, X.bytes, X.same.trans (hsame.setVm s.vm)⟩,
      ⟨g, mk, s₂, L, E, ce, rfl, rfl, hx, hce, hcv, hcl, rfl, hL, rfl, rfl⟩, ?_⟩
    show Steps p.tables e below _ (((({ U with heap := s₂.heap, slotsUsed := s₂.slotsUsed } : State).setVm s₂.vm).setTop g).pushFrame (.throwing q))
    rw [← hs₂]
    exact hsteps
end Payer
section Calls
variable {p : Program} {l : Launch} {e : Env} {R : Room} {s : State} {m : MethodId} {args : Array Value} {below : List Frame} {meth : Method} {c : Code} {T : State} {locs : List Loc} {cells slots : Nat}
theorem vx_callV (X : Stand p l e R s m args below meth c T locs cells slots) (hexec : p.tables.exec = Jvm.exec) {own C : String} {index : Nat} {y : MethodName} {bytes : ByteArray} {maxL : Nat} {ret : Option FieldType}
    (hown : s.vm.findClass own = some m.cls) (hlink : (Cond.methodLink own index y).before args s = true) (hinst : (Cond.instanceMethod y).before args s = true) (hsel : (Cond.selects C y y).before args s = true)
    (hcode : (Cond.code y bytes maxL ret).before args s = true) (hy : y.cls ≠ "java/lang/invoke/MethodHandle" ∧ y.cls ≠ "java/lang/invoke/VarHandle")
    {W9 : Nat} {Pre : Pt → Array Value → Prop} {Post : Pt → Array Value → Option Value → Pt → Prop} {PostX : Pt → Array Value → Addr → Pt → Prop} (hK : vx_Back l R p e below s args y 3 W9 Pre Post PostX)
    {b : Addr} {cellB : Cell} (hcell : T.heap[b]? = some cellB) (hobj : cellB.vm.isStatics = false) (hcls : s.vm.findClass C = some cellB.cls)
    {g : JFrame} (hg : g.method = m) (hsize : g.locals.size = c.maxLocals) {argsL rest : List Value} (hlen : ∀ sig, parseMethodDescriptor y.desc = some sig → argsL.length = sig.parameters.length)
    (hstack : g.stack = argsL.reverse ++ .ref b :: rest) (hW : 2 * g.monitorRoom + (rest.map fun v => v.category).sum ≤ W9) (hdg : decode c.code g.pc = .ok (.invokevirtual index, 3))
    (hpre : ∀ vm₁, s.WarmedH vm₁ → Pre ⟨T.setVm vm₁, locs, cells, slots⟩ (Value.ref b :: argsL).toArray) :
    (∃ (v : Option Value) (vm₁ : Vm) (B : Pt), s.WarmedH vm₁ ∧ Stand p l e R s m args below meth c B.U B.locs B.cells B.slots ∧ Post ⟨T.setVm vm₁, locs, cells, slots⟩ (Value.ref b :: argsL).toArray v B ∧
      ∀ target, Steps p.tables e below (B.U.setTop { g with pc := g.pc + 3, stack := v.toList ++ rest }) target → Steps p.tables e below (T.setTop g) target) ∨
    (∃ (q : Addr) (vm₁ : Vm) (B : Pt), s.WarmedH vm₁ ∧ Stand p l e R s m args below meth c B.U B.locs B.cells B.slots ∧ PostX ⟨T.setVm vm₁, locs, cells, slots⟩ (Value.ref b :: argsL).toArray q B ∧
      Steps p.tables e below (T.setTop g) ((B.U.setTop { g with stack := rest }).pushFrame (.throwing q))) := by
  obtain ⟨mk, methM, hnamed, hmethM, hstM, habM⟩ := Cond.instanceMethod_spec hinst
  obtain ⟨methM', cM, hmethM', -, -, -, -, -, -, hsigM⟩ := Cond.code_spec hnamed hcode
  cases hmethM.symm.trans hmethM'
  obtain ⟨c2, r2, m2, q1, q2, q3, q4, kP, hkP, hkPi⟩ := Cond.selects_spec hsel
  cases hcls.symm.trans q1
  cases (State.methodFound?_of_named hnamed hy).symm.trans q2
  cases hnamed.symm.trans q3
  have hselP : selectMethod e.platform s.vm cellB.cls mk = .method mk := by rw [Launch.admits_selectMethod X.admits]; exact q4
  obtain ⟨vm₁, X₁, hstep₁⟩ := X.invokevirtual hexec hown hlink hnamed hmethM hstM hkP hkPi hy (a := b) (cell := cellB) hcell
    (fun z h => by rw [h] at hobj; cases hobj) hselP hmethM habM hkP hkPi (g := g) hg (argsL := argsL) (rest := rest) (hlen _ hsigM) hstack hdg
  rcases hK m meth c ⟨T.setVm vm₁, locs, cells, slots⟩ { g with stack := rest } (.invokevirtual index) mk (Value.ref b :: argsL).toArray X₁ hg hsize hdg hW (X₁.named hnamed) (hpre vm₁ X₁.warmed) with ⟨v, B, X', hpost, hsteps⟩ | ⟨q, B, X', hpost, hsteps⟩
  · exact Or.inl ⟨v, vm₁, B, X₁.warmed, X', hpost, fun target h => hstep₁ _ fun acts => by rw [doInvoke_state]; exact hsteps.trans h⟩
  · exact Or.inr ⟨q, vm₁, B, X₁.warmed, X', hpost, hstep₁ _ fun acts => by rw [doInvoke_state]; exact hsteps⟩
theorem vx_callS (X : Stand p l e R s m args below meth c T locs cells slots) (hexec : p.tables.exec = Jvm.exec) {own : String} {index : Nat} {y : MethodName} {bytes : ByteArray} {maxL : Nat} {ret : Option FieldType}
    (hown : s.vm.findClass own = some m.cls) (hlink : (Cond.methodLink own index y).before args s = true) (hstat : (Cond.static y).before args s = true) (hinit : (Cond.initialized y.cls).before args s = true)
    (hcode : (Cond.code y bytes maxL ret).before args s = true) (hy : y.cls ≠ "java/lang/invoke/MethodHandle" ∧ y.cls ≠ "java/lang/invoke/VarHandle")
    {W9 : Nat} {Pre : Pt → Array Value → Prop} {Post : Pt → Array Value → Option Value → Pt → Prop} {PostX : Pt → Array Value → Addr → Pt → Prop} (hK : vx_Back l R p e below s args y 3 W9 Pre Post PostX)
    {g : JFrame} (hg : g.method = m) (hsize : g.locals.size = c.maxLocals) {argsL rest : List Value} (hlen : ∀ sig, parseMethodDescriptor y.desc = some sig → argsL.length = sig.parameters.length)
    (hstack : g.stack = argsL.reverse ++ rest) (hW : 2 * g.monitorRoom + (rest.map fun v => v.category).sum ≤ W9) (hdg : decode c.code g.pc = .ok (.invokestatic index, 3))
    (hpre : ∀ vm₁, s.WarmedH vm₁ → Pre ⟨T.setVm vm₁, locs, cells, slots⟩ argsL.toArray) :
    (∃ (v : Option Value) (vm₁ : Vm) (B : Pt), s.WarmedH vm₁ ∧ Stand p l e R s m args below meth c B.U B.locs B.cells B.slots ∧ Post ⟨T.setVm vm₁, locs, cells, slots⟩ argsL.toArray v B ∧
      ∀ target, Steps p.tables e below (B.U.setTop { g with pc := g.pc + 3, stack := v.toList ++ rest }) target → Steps p.tables e below (T.setTop g) target) ∨
    (∃ (q : Addr) (vm₁ : Vm) (B : Pt), s.WarmedH vm₁ ∧ Stand p l e R s m args below meth c B.U B.locs B.cells B.slots ∧ PostX ⟨T.setVm vm₁, locs, cells, slots⟩ argsL.toArray q B ∧
      Steps p.tables e below (T.setTop g) ((B.U.setTop { g with stack := rest }).pushFrame (.throwing q))) := by
  obtain ⟨mk, hnamed⟩ := Cond.code_named hcode
  obtain ⟨methM, cM, hmethM, -, -, -, -, -, -, hsigM⟩ := Cond.code_spec hnamed hcode
  have hstatic : methM.isStatic = true := Cond.static_spec hnamed hmethM hstat
  obtain ⟨kP, hkP, -⟩ := className_of_methodNamed hnamed
  have hinitP : kP.init = .initialized := Cond.initialized_spec (findClass_of_methodNamed hnamed) hkP hinit
  obtain ⟨vm₁, X₁, hstep₁⟩ := X.invokestatic hexec hown hlink hnamed hmethM hstatic hkP hinitP hy (g := g) hg (argsL := argsL) (rest := rest) (hlen _ hsigM) hstack hdg
  rcases hK m meth c ⟨T.setVm vm₁, locs, cells, slots⟩ { g with stack := rest } (.invokestatic index) mk argsL.toArray X₁ hg hsize hdg hW (X₁.named hnamed) (hpre vm₁ X₁.warmed) with ⟨v, B, X', hpost, hsteps⟩ | ⟨q, B, X', hpost, hsteps⟩
  · exact Or.inl ⟨v, vm₁, B, X₁.warmed, X', hpost, fun target h => hstep₁ _ fun acts => by rw [doInvoke_state]; exact hsteps.trans h⟩
  · exact Or.inr ⟨q, vm₁, B, X₁.warmed, X', hpost, hstep₁ _ fun acts => by rw [doInvoke_state]; exact hsteps⟩
end Calls
theorem vx_cls {s : State} {T : State} {vm₁ : Vm} {E : String} {k : ClassId} (hW : s.WarmedH vm₁) (h : (T.setVm vm₁).vm.findClass E = some k) : s.vm.findClass E = some k := by
  have h1 : vm₁.findClass E = some k := h
  rw [hW.alike.findClass] at h1
  exact h1
/-- the method's frame g, with q thrown over it -/
def vx_W (p : Program) (l : Launch) (e : Env) (R : Room) (s : State) (m : MethodId) (args : Array Value) (below : List Frame) (meth : Method) (c : Code) (H : Heap) (locs : List Loc) (cells slots : Nat) (Q : State → Prop) (g : JFrame) (q : Addr) : Prop :=
  ∀ T : State, T.heap = H → Stand p l e R s m args below meth c T locs cells slots → ∃ t, Steps p.tables e below ((T.setTop g).pushFrame (.throwing q)) t ∧ Q t
def vx_Run (p : Program) (l : Launch) (e : Env) (R : Room) (s : State) (m : MethodId) (args : Array Value) (below : List Frame) (meth : Method) (c : Code) (H : Heap) (locs : List Loc) (cells slots mc ms : Nat) (g : JFrame) (rest : List Value) (Qa : State → Outcome → State → Prop) (XC : String → State → State → Prop) (free : Addr → Prop) : Prop :=
  ∀ T : State, T.heap = H → Stand p l e R s m args below meth c T locs cells slots →
    (∃ (v : Option Value) (st₀ t T' : State) (L : List Loc), st₀.heap = H ∧ Stand p l e R s m args below meth c T' (locs ++ L) (cells + mc) (slots + ms) ∧ (∀ q ∈ L, free q.base) ∧ T'.heap = t.heap ∧ T'.vm = t.vm ∧ Qa st₀ (.returned v) t ∧
      Goes p e below T g T' { g with pc := g.pc + 3, stack := v.toList ++ rest }) ∨
    (∃ (q : Addr) (st₀ t T' : State) (L : List Loc) (E : String) (ce : Cell), st₀.heap = H ∧ Stand p l e R s m args below meth c T' (locs ++ L) (cells + mc) (slots + ms) ∧ (∀ z ∈ L, free z.base) ∧ T'.heap = t.heap ∧ T'.vm = t.vm ∧ XC E st₀ t ∧ t.heap[q]? = some ce ∧ ce.vm = .none ∧ s.vm.findClass E = some ce.cls ∧
      Steps p.tables e below (T.setTop g) ((T'.setTop { g with stack := rest }).pushFrame (.throwing q)))
def vx_X {S : Type} (px : S → Prop) (B : String → S → State → Prop) (A : Nat → Prop) : String → State → State → Prop := fun E st t => ∃ u : S, px u ∧ B E u t ∧ va_F A st t
section Runs
variable {p : Program} {l : Launch} {e : Env} {R : Room} {s : State} {m : MethodId} {args : Array Value} {below : List Frame} {meth : Method} {c : Code} {H : Heap} {locs : List Loc} {cells slots : Nat}
variable {y : MethodName} {bytes cc : ByteArray} {maxL nL mc ms n index : Nat} {ret : Option FieldType} {ws : List Cond} {rm : Room} {Pc : Array Value → State → Prop} {Qc : Array Value → State → Outcome → State → Prop} {XC : String → State → State → Prop} {free : Addr → Prop} {Ts : List Cond} {own C : String} {b : Addr} {As rest : List Value} {g : JFrame}
theorem vx_callBack (cb : CallB R s args own index y bytes maxL ret ws rm mc ms n) (hM : vx_Met l y ws rm Pc Qc XC mc ms free) (hbl : FrameBlind Pc) : vx_Back l R p e below s args y 3 8 (PreOf R mc ms Pc) (PostOf Qc mc ms free) (vx_Post XC mc ms free) := by
  obtain ⟨hrc, hrs, hfr, hlo, hws, hcw, -, hini, -⟩ := cb
  exact vx_back (bytes := bytes) (maxL := maxL) (ret := ret) hM hbl hrc hrs hfr hlo hws hcw (fun a' U hW => word_at hW (Or.inl (by first | rfl | simp [Cond.onTables, Cond.keeps, Cond.steady])) hini)
theorem vx_runV (S : CallFix p m c cc nL s args Ts own) (hM : vx_Met l y ws rm Pc Qc XC mc ms free) (cw : CallW R s args own C index y bytes maxL ret ws rm mc ms n) (hp : PreV s H C b Pc As)
    (hg : g.method = m) (hn : As.length = n) (hsize : g.locals.size = nL) (hstack : g.stack = As.reverse ++ .ref b :: rest) (hW : 2 * g.monitorRoom + (rest.map fun v => v.category).sum ≤ 8) (hdg : decode cc g.pc = .ok (.invokevirtual index, 3)) (hf : cells + mc ≤ R.cells ∧ slots + ms ≤ R.slots) :
    vx_Run p l e R s m args below meth c H locs cells slots mc ms g rest (Qc (Value.ref b :: As).toArray) XC free := by
  have hK : vx_Back l R p e below s args y 3 8 (PreOf R mc ms Pc) (PostOf Qc mc ms free) (vx_Post XC mc ms free) := vx_callBack cw.1 hM hp.1
  obtain ⟨⟨-, -, -, -, -, -, hcode, -, hy, hlen, hl⟩, hin, hse⟩ := cw
  obtain ⟨hx, hb, hml, ho, -⟩ := S
  obtain ⟨-, ⟨cellB, hcB, hoB, hclB⟩, hPc⟩ := hp
  intro T hT X
  rcases vx_callV X hx (C := C) (bytes := bytes) (maxL := maxL) (ret := ret) ho hl hin hse hcode hy hK (by rw [hT]; exact hcB) hoB hclB hg (hsize.trans hml.symm) (argsL := As) (rest := rest) (fun sig h => hn.trans (hlen sig h)) hstack hW (by rw [hb]; exact hdg)
    (fun vm₁ hW₁ => ⟨hf.1, hf.2, hPc (T.setVm vm₁) hT hW₁⟩) with ⟨v, vm₁, ⟨U', l2, c2, s2⟩, hW₁, X', ⟨g', mk, t, L, e1, e2, hq, h1, hL, h2, h3⟩, st⟩ | ⟨q, vm₁, ⟨U', l2, c2, s2⟩, hW₁, X', ⟨g', mk, t, L, E, ce, e1, e2, hq, hce, hcv, hcl, h1, hL, h2, h3⟩, st⟩
  · dsimp only [Pt.U, Pt.locs, Pt.cells, Pt.slots] at X' e1 e2 h1 h2 h3 st
    subst h1; subst h2; subst h3
    exact Or.inl ⟨v, (T.setVm vm₁).calling g' mk (Value.ref b :: As).toArray, t, U', L, hT, X', hL, e1, e2, hq, st⟩
  · dsimp only [Pt.U, Pt.locs, Pt.cells, Pt.slots] at X' e1 e2 h1 h2 h3 st hcl
    subst h1; subst h2; subst h3
    exact Or.inr ⟨q, (T.setVm vm₁).calling g' mk (Value.ref b :: As).toArray, t, U', L, E, ce, hT, X', hL, e1, e2, hq, hce, hcv, vx_cls hW₁ hcl, st⟩
theorem vx_runS (S : CallFix p m c cc nL s args Ts own) (hM : vx_Met l y ws rm Pc Qc XC mc ms free) (cw : CallB R s args own index y bytes maxL ret ws rm mc ms n ∧ (Cond.static y).before args s = true) (hp : PreS s H Pc As)
    (hg : g.method = m) (hn : As.length = n) (hsize : g.locals.size = nL) (hstack : g.stack = As.reverse ++ rest) (hW : 2 * g.monitorRoom + (rest.map fun v => v.category).sum ≤ 8) (hdg : decode cc g.pc = .ok (.invokestatic index, 3)) (hf : cells + mc ≤ R.cells ∧ slots + ms ≤ R.slots) :
    vx_Run p l e R s m args below meth c H locs cells slots mc ms g rest (Qc As.toArray) XC free := by
  have hK : vx_Back l R p e below s args y 3 8 (PreOf R mc ms Pc) (PostOf Qc mc ms free) (vx_Post XC mc ms free) := vx_callBack cw.1 hM hp.1
  obtain ⟨⟨-, -, -, -, -, -, hcode, hini, hy, hlen, hl⟩, hstt⟩ := cw
  obtain ⟨hx, hb, hml, ho, -⟩ := S
  intro T hT X
  rcases vx_callS X hx (bytes := bytes) (maxL := maxL) (ret := ret) ho hl hstt hini hcode hy hK hg (hsize.trans hml.symm) (argsL := As) (rest := rest) (fun sig h => hn.trans (hlen sig h)) hstack hW (by rw [hb]; exact hdg)
    (fun vm₁ hW₁ => ⟨hf.1, hf.2, hp.2 (T.setVm vm₁) hT hW₁⟩) with ⟨v, vm₁, ⟨U', l2, c2, s2⟩, hW₁, X', ⟨g', mk, t, L, e1, e2, hq, h1, hL, h2, h3⟩, st⟩ | ⟨q, vm₁, ⟨U', l2, c2, s2⟩, hW₁, X', ⟨g', mk, t, L, E, ce, e1, e2, hq, hce, hcv, hcl, h1, hL, h2, h3⟩, st⟩
  · dsimp only [Pt.U, Pt.locs, Pt.cells, Pt.slots] at X' e1 e2 h1 h2 h3 st
    subst h1; subst h2; subst h3
    exact Or.inl ⟨v, (T.setVm vm₁).calling g' mk As.toArray, t, U', L, hT, X', hL, e1, e2, hq, st⟩
  · dsimp only [Pt.U, Pt.locs, Pt.cells, Pt.slots] at X' e1 e2 h1 h2 h3 st hcl
    subst h1; subst h2; subst h3
    exact Or.inr ⟨q, (T.setVm vm₁).calling g' mk As.toArray, t, U', L, E, ce, hT, X', hL, e1, e2, hq, hce, hcv, vx_cls hW₁ hcl, st⟩
end Runs
section Rows
variable {p : Program} {l : Launch} {e : Env} {R : Room} {s : State} {m : MethodId} {args : Array Value} {below : List Frame} {meth : Method} {c : Code} {H : Heap} {locs : List Loc} {cells slots : Nat} {Q : State → Prop}
variable {mc ms : Nat} {free : Addr → Prop} {A0 A1 : Nat → Prop} {H0 : Heap} {a : Array Value} {pc : Nat} {ls : Array Slot} {st0 rest : List Value}
theorem vx_keep {st₀ t T' : State} {L : List Loc} (h0 : st₀.heap = H) (e1 : T'.heap = t.heap) (hS : va_S A0 H0 H locs) (hA : ∀ q, q < H.size → A1 q → A0 q) (hf : ∀ q, free q → A0 q) (hL : ∀ q ∈ L, free q.base) (hF : va_F A1 st₀ t) :
    H.size ≤ T'.heap.size ∧ (∀ q : Nat, q < H.size → ¬ A1 q → T'.heap[q]? = H[q]?) ∧ va_S A0 H0 T'.heap (locs ++ L) := by
  obtain ⟨hz, hk⟩ := hF
  rw [h0] at hz hk
  exact ⟨by rw [e1]; exact hz, fun q h1 h2 => by rw [e1]; exact hk q h1 h2,
    ⟨Nat.le_trans hS.1 (by rw [e1]; exact hz), fun q h1 h2 => by rw [e1, hk q (Nat.lt_of_lt_of_le h1 hS.1) (fun z => h2 (hA q (Nat.lt_of_lt_of_le h1 hS.1) z))]; exact hS.2.1 q h1 h2, fun q hq => by
      rcases List.mem_append.mp hq with h | h
      · exact hS.2.2 q h
      · exact hf _ (hL q h)⟩⟩
theorem vx_calli {S SX : Type} {post : Int32 → S → Prop} {px : SX → Prop} {B : S → State → Prop} {BX : String → SX → State → Prop} {AX : Nat → Prop} (hr : vx_Run p l e R s m args below meth c H locs cells slots mc ms (F0 m pc ls st0) rest (va_Qi post B A1 a) (vx_X px BX AX) free) (hS : va_S A0 H0 H locs) (hA : ∀ q, q < H.size → A1 q → A0 q) (hf : ∀ q, free q → A0 q) (hAX : ∀ q, q < H.size → AX q → A0 q)
    (kx : ∀ (E : String) (ce : Cell) (q9 : Addr) (u : SX) (t : State) (H1 : Heap) (locs1 : List Loc), t.heap = H1 → s.vm.Alike t.vm → px u → BX E u t → H.size ≤ H1.size → (∀ q : Nat, q < H.size → ¬ AX q → H1[q]? = H[q]?) → va_S A0 H0 H1 locs1 → H1[q9]? = some ce → ce.vm = .none → s.vm.findClass E = some ce.cls → vx_W p l e R s m args below meth c H1 locs1 (cells + mc) (slots + ms) Q (F0 m pc ls rest) q9)
    (kk : ∀ (r : Int32) (u : S) (t : State) (H1 : Heap) (locs1 : List Loc), t.heap = H1 → s.vm.Alike t.vm → post r u → B u t → H.size ≤ H1.size → (∀ q : Nat, q < H.size → ¬ A1 q → H1[q]? = H[q]?) → va_S A0 H0 H1 locs1 → W p l e R s m args below meth c H1 locs1 (cells + mc) (slots + ms) Q (F0 m (pc + 3) ls (.int r :: rest))) : W p l e R s m args below meth c H locs cells slots Q (F0 m pc ls st0) := by
  intro T hT X
  rcases hr T hT X with ⟨v, st₀, t, T', L, h0, X', hL, e1, e2, ⟨⟨r, u, hv, hp, hb⟩, hF⟩, st⟩ | ⟨q, st₀, t, T', L, E, ce, h0, X', hL, e1, e2, ⟨u, hp, hb, hF⟩, hce, hcv, hcl, st⟩
  · cases hv
    obtain ⟨k1, k2, k3⟩ := vx_keep h0 e1 hS hA hf hL hF
    obtain ⟨t2, a1, b1⟩ := kk r u t T'.heap (locs ++ L) e1.symm (by rw [← e2]; exact X'.warmed.alike) hp hb k1 k2 k3 T' rfl X'
    exact ⟨t2, st t2 a1, b1⟩
  · obtain ⟨k1, k2, k3⟩ := vx_keep h0 e1 hS hAX hf hL hF
    obtain ⟨t2, a1, b1⟩ := kx E ce q u t T'.heap (locs ++ L) e1.symm (by rw [← e2]; exact X'.warmed.alike) hp hb k1 k2 k3 (by rw [e1]; exact hce) hcv hcl T' rfl X'
    exact ⟨t2, st.trans a1, b1⟩
theorem vx_calll {S SX : Type} {post : Int64 → S → Prop} {px : SX → Prop} {B : S → State → Prop} {BX : String → SX → State → Prop} {AX : Nat → Prop} (hr : vx_Run p l e R s m args below meth c H locs cells slots mc ms (F0 m pc ls st0) rest (va_Ql post B A1 a) (vx_X px BX AX) free) (hS : va_S A0 H0 H locs) (hA : ∀ q, q < H.size → A1 q → A0 q) (hf : ∀ q, free q → A0 q) (hAX : ∀ q, q < H.size → AX q → A0 q)
    (kx : ∀ (E : String) (ce : Cell) (q9 : Addr) (u : SX) (t : State) (H1 : Heap) (locs1 : List Loc), t.heap = H1 → s.vm.Alike t.vm → px u → BX E u t → H.size ≤ H1.size → (∀ q : Nat, q < H.size → ¬ AX q → H1[q]? = H[q]?) → va_S A0 H0 H1 locs1 → H1[q9]? = some ce → ce.vm = .none → s.vm.findClass E = some ce.cls → vx_W p l e R s m args below meth c H1 locs1 (cells + mc) (slots + ms) Q (F0 m pc ls rest) q9)
    (kk : ∀ (r : Int64) (u : S) (t : State) (H1 : Heap) (locs1 : List Loc), t.heap = H1 → s.vm.Alike t.vm → post r u → B u t → H.size ≤ H1.size → (∀ q : Nat, q < H.size → ¬ A1 q → H1[q]? = H[q]?) → va_S A0 H0 H1 locs1 → W p l e R s m args below meth c H1 locs1 (cells + mc) (slots + ms) Q (F0 m (pc + 3) ls (.long r :: rest))) : W p l e R s m args below meth c H locs cells slots Q (F0 m pc ls st0) := by
  intro T hT X
  rcases hr T hT X with ⟨v, st₀, t, T', L, h0, X', hL, e1, e2, ⟨⟨r, u, hv, hp, hb⟩, hF⟩, st⟩ | ⟨q, st₀, t, T', L, E, ce, h0, X', hL, e1, e2, ⟨u, hp, hb, hF⟩, hce, hcv, hcl, st⟩
  · cases hv
    obtain ⟨k1, k2, k3⟩ := vx_keep h0 e1 hS hA hf hL hF
    obtain ⟨t2, a1, b1⟩ := kk r u t T'.heap (locs ++ L) e1.symm (by rw [← e2]; exact X'.warmed.alike) hp hb k1 k2 k3 T' rfl X'
    exact ⟨t2, st t2 a1, b1⟩
  · obtain ⟨k1, k2, k3⟩ := vx_keep h0 e1 hS hAX hf hL hF
    obtain ⟨t2, a1, b1⟩ := kx E ce q u t T'.heap (locs ++ L) e1.symm (by rw [← e2]; exact X'.warmed.alike) hp hb k1 k2 k3 (by rw [e1]; exact hce) hcv hcl T' rfl X'
    exact ⟨t2, st.trans a1, b1⟩
theorem vx_callf {S SX : Type} {post : UInt32 → S → Prop} {px : SX → Prop} {B : S → State → Prop} {BX : String → SX → State → Prop} {AX : Nat → Prop} (hr : vx_Run p l e R s m args below meth c H locs cells slots mc ms (F0 m pc ls st0) rest (va_Qf post B A1 a) (vx_X px BX AX) free) (hS : va_S A0 H0 H locs) (hA : ∀ q, q < H.size → A1 q → A0 q) (hf : ∀ q, free q → A0 q) (hAX : ∀ q, q < H.size → AX q → A0 q)
    (kx : ∀ (E : String) (ce : Cell) (q9 : Addr) (u : SX) (t : State) (H1 : Heap) (locs1 : List Loc), t.heap = H1 → s.vm.Alike t.vm → px u → BX E u t → H.size ≤ H1.size → (∀ q : Nat, q < H.size → ¬ AX q → H1[q]? = H[q]?) → va_S A0 H0 H1 locs1 → H1[q9]? = some ce → ce.vm = .none → s.vm.findClass E = some ce.cls → vx_W p l e R s m args below meth c H1 locs1 (cells + mc) (slots + ms) Q (F0 m pc ls rest) q9)
    (kk : ∀ (r : UInt32) (u : S) (t : State) (H1 : Heap) (locs1 : List Loc), t.heap = H1 → s.vm.Alike t.vm → post r u → B u t → H.size ≤ H1.size → (∀ q : Nat, q < H.size → ¬ A1 q → H1[q]? = H[q]?) → va_S A0 H0 H1 locs1 → W p l e R s m args below meth c H1 locs1 (cells + mc) (slots + ms) Q (F0 m (pc + 3) ls (.float r :: rest))) : W p l e R s m args below meth c H locs cells slots Q (F0 m pc ls st0) := by
  intro T hT X
  rcases hr T hT X with ⟨v, st₀, t, T', L, h0, X', hL, e1, e2, ⟨⟨r, u, hv, hp, hb⟩, hF⟩, st⟩ | ⟨q, st₀, t, T', L, E, ce, h0, X', hL, e1, e2, ⟨u, hp, hb, hF⟩, hce, hcv, hcl, st⟩
  · cases hv
    obtain ⟨k1, k2, k3⟩ := vx_keep h0 e1 hS hA hf hL hF
    obtain ⟨t2, a1, b1⟩ := kk r u t T'.heap (locs ++ L) e1.symm (by rw [← e2]; exact X'.warmed.alike) hp hb k1 k2 k3 T' rfl X'
    exact ⟨t2, st t2 a1, b1⟩
  · obtain ⟨k1, k2, k3⟩ := vx_keep h0 e1 hS hAX hf hL hF
    obtain ⟨t2, a1, b1⟩ := kx E ce q u t T'.heap (locs ++ L) e1.symm (by rw [← e2]; exact X'.warmed.alike) hp hb k1 k2 k3 (by rw [e1]; exact hce) hcv hcl T' rfl X'
    exact ⟨t2, st.trans a1, b1⟩
theorem vx_calld {S SX : Type} {post : UInt64 → S → Prop} {px : SX → Prop} {B : S → State → Prop} {BX : String → SX → State → Prop} {AX : Nat → Prop} (hr : vx_Run p l e R s m args below meth c H locs cells slots mc ms (F0 m pc ls st0) rest (va_Qd post B A1 a) (vx_X px BX AX) free) (hS : va_S A0 H0 H locs) (hA : ∀ q, q < H.size → A1 q → A0 q) (hf : ∀ q, free q → A0 q) (hAX : ∀ q, q < H.size → AX q → A0 q)
    (kx : ∀ (E : String) (ce : Cell) (q9 : Addr) (u : SX) (t : State) (H1 : Heap) (locs1 : List Loc), t.heap = H1 → s.vm.Alike t.vm → px u → BX E u t → H.size ≤ H1.size → (∀ q : Nat, q < H.size → ¬ AX q → H1[q]? = H[q]?) → va_S A0 H0 H1 locs1 → H1[q9]? = some ce → ce.vm = .none → s.vm.findClass E = some ce.cls → vx_W p l e R s m args below meth c H1 locs1 (cells + mc) (slots + ms) Q (F0 m pc ls rest) q9)
    (kk : ∀ (r : UInt64) (u : S) (t : State) (H1 : Heap) (locs1 : List Loc), t.heap = H1 → s.vm.Alike t.vm → post r u → B u t → H.size ≤ H1.size → (∀ q : Nat, q < H.size → ¬ A1 q → H1[q]? = H[q]?) → va_S A0 H0 H1 locs1 → W p l e R s m args below meth c H1 locs1 (cells + mc) (slots + ms) Q (F0 m (pc + 3) ls (.double r :: rest))) : W p l e R s m args below meth c H locs cells slots Q (F0 m pc ls st0) := by
  intro T hT X
  rcases hr T hT X with ⟨v, st₀, t, T', L, h0, X', hL, e1, e2, ⟨⟨r, u, hv, hp, hb⟩, hF⟩, st⟩ | ⟨q, st₀, t, T', L, E, ce, h0, X', hL, e1, e2, ⟨u, hp, hb, hF⟩, hce, hcv, hcl, st⟩
  · cases hv
    obtain ⟨k1, k2, k3⟩ := vx_keep h0 e1 hS hA hf hL hF
    obtain ⟨t2, a1, b1⟩ := kk r u t T'.heap (locs ++ L) e1.symm (by rw [← e2]; exact X'.warmed.alike) hp hb k1 k2 k3 T' rfl X'
    exact ⟨t2, st t2 a1, b1⟩
  · obtain ⟨k1, k2, k3⟩ := vx_keep h0 e1 hS hAX hf hL hF
    obtain ⟨t2, a1, b1⟩ := kx E ce q u t T'.heap (locs ++ L) e1.symm (by rw [← e2]; exact X'.warmed.alike) hp hb k1 k2 k3 (by rw [e1]; exact hce) hcv hcl T' rfl X'
    exact ⟨t2, st.trans a1, b1⟩
theorem vx_callv {S SX : Type} {post : S → Prop} {px : SX → Prop} {B : S → State → Prop} {BX : String → SX → State → Prop} {AX : Nat → Prop} (hr : vx_Run p l e R s m args below meth c H locs cells slots mc ms (F0 m pc ls st0) rest (va_Qv post B A1 a) (vx_X px BX AX) free) (hS : va_S A0 H0 H locs) (hA : ∀ q, q < H.size → A1 q → A0 q) (hf : ∀ q, free q → A0 q) (hAX : ∀ q, q < H.size → AX q → A0 q)
    (kx : ∀ (E : String) (ce : Cell) (q9 : Addr) (u : SX) (t : State) (H1 : Heap) (locs1 : List Loc), t.heap = H1 → s.vm.Alike t.vm → px u → BX E u t → H.size ≤ H1.size → (∀ q : Nat, q < H.size → ¬ AX q → H1[q]? = H[q]?) → va_S A0 H0 H1 locs1 → H1[q9]? = some ce → ce.vm = .none → s.vm.findClass E = some ce.cls → vx_W p l e R s m args below meth c H1 locs1 (cells + mc) (slots + ms) Q (F0 m pc ls rest) q9)
    (kk : ∀ (u : S) (t : State) (H1 : Heap) (locs1 : List Loc), t.heap = H1 → s.vm.Alike t.vm → post u → B u t → H.size ≤ H1.size → (∀ q : Nat, q < H.size → ¬ A1 q → H1[q]? = H[q]?) → va_S A0 H0 H1 locs1 → W p l e R s m args below meth c H1 locs1 (cells + mc) (slots + ms) Q (F0 m (pc + 3) ls (rest))) : W p l e R s m args below meth c H locs cells slots Q (F0 m pc ls st0) := by
  intro T hT X
  rcases hr T hT X with ⟨v, st₀, t, T', L, h0, X', hL, e1, e2, ⟨⟨u, hv, hp, hb⟩, hF⟩, st⟩ | ⟨q, st₀, t, T', L, E, ce, h0, X', hL, e1, e2, ⟨u, hp, hb, hF⟩, hce, hcv, hcl, st⟩
  · cases hv
    obtain ⟨k1, k2, k3⟩ := vx_keep h0 e1 hS hA hf hL hF
    obtain ⟨t2, a1, b1⟩ := kk u t T'.heap (locs ++ L) e1.symm (by rw [← e2]; exact X'.warmed.alike) hp hb k1 k2 k3 T' rfl X'
    exact ⟨t2, st t2 a1, b1⟩
  · obtain ⟨k1, k2, k3⟩ := vx_keep h0 e1 hS hAX hf hL hF
    obtain ⟨t2, a1, b1⟩ := kx E ce q u t T'.heap (locs ++ L) e1.symm (by rw [← e2]; exact X'.warmed.alike) hp hb k1 k2 k3 (by rw [e1]; exact hce) hcv hcl T' rfl X'
    exact ⟨t2, st.trans a1, b1⟩
/-- caught by the row x of this method's table; the rows ahead don't take it -/
theorem vx_catch {own name : String} {E : String} {ce : Cell} {q : Addr} (hown : s.vm.findClass own = some m.cls) (pre : List ExceptionTableEntry) (x : ExceptionTableEntry) (suf : List ExceptionTableEntry) (hsplit : c.exceptionTable.toList = pre ++ x :: suf)
    (hpass : ∀ z ∈ pre, covers z pc = false ∨ (z.catchType ≠ 0 ∧ ∃ nm : String, (Cond.classLink own z.catchType nm).before args s = true ∧ va_Nc E nm s)) (hx : covers x pc = true) (h0 : x.catchType ≠ 0)
    (hlink : (Cond.classLink own x.catchType name).before args s = true) (hcast : (Cond.castable E name).before args s = true) (hcell : H[q]? = some ce) (hv : ce.vm = .none) (hcl : s.vm.findClass E = some ce.cls)
    (kk : W p l e R s m args below meth c H locs cells slots Q (F0 m x.handlerPc ls [.ref q])) : vx_W p l e R s m args below meth c H locs cells slots Q (F0 m pc ls rest) q := by
  intro T hT X
  have hpl : e.platform.magicAccessors = ({} : Platform).magicAccessors := by rw [X.admits.platform]
  obtain ⟨c3, c4, hc3, hc4, hasg⟩ := Cond.castable_spec hcast
  cases Option.some.inj (hc3.symm.trans hcl)
  obtain ⟨c5, hc5, hcl5⟩ := Cond.classLink_spec hown hlink e.platform hpl
  cases Option.some.inj (hc4.symm.trans hc5)
  obtain ⟨vm', X', st⟩ := X.thenCaughtThrough q (g := F0 m pc ls rest) rfl (Steps.refl _) (by rw [hT]; exact hcell) (by rw [hv]; rfl) (by obtain ⟨k9, h9, -⟩ := Vm.findClass_spec hcl; exact ⟨k9, h9⟩) pre x suf hsplit
    (fun z hz => by
      rcases hpass z hz with h | ⟨hz0, nm, hl1, hn1⟩
      · exact Or.inl h
      · obtain ⟨c6, hc6, hcl6⟩ := Cond.classLink_spec hown hl1 e.platform hpl
        obtain ⟨a8, b8, h1, h2, h3⟩ := hn1
        cases Option.some.inj (h1.symm.trans hcl)
        cases Option.some.inj (h2.symm.trans hc6)
        exact Or.inr ⟨hz0, _, hcl6, h3⟩) hx (Or.inr ⟨h0, c4, hcl5, hasg⟩)
  obtain ⟨t, a1, b1⟩ := kk (T.setVm vm') hT X'
  exact ⟨t, st.trans a1, b1⟩
end Rows
section Ends
variable {p : Program} {l : Launch} {e : Env} {R : Room} {s : State} {m : MethodId} {args : Array Value} {below : List Frame} {meth : Method} {c : Code} {H : Heap} {locs : List Loc} {cells slots : Nat} {Q : State → Prop}
variable {mc ms : Nat} {free : Addr → Prop} {A0 A1 : Nat → Prop} {H0 : Heap} {a : Array Value} {ls : Array Slot} {st0 rest : List Value}
variable {Qc : Array Value → State → Outcome → State → Prop} {XC : String → State → State → Prop}
/-- what a body that may throw owes at its end -/
def vx_MQ (below : List Frame) (Qc : Array Value → State → Outcome → State → Prop) (XC : String → State → State → Prop) (a : Array Value) (s : State) (mc ms : Nat) (free : Addr → Prop) : State → Prop := fun t =>
  ∃ o, t.status = .running ∧ Ended t below o ∧ vx_Q Qc XC mc ms free a s o t
theorem vx_ret {g : JFrame} {mc ms : Nat} (k : W p l e R s m args below meth c H locs cells slots (MQ below Qc args s mc ms free) g) : W p l e R s m args below meth c H locs cells slots (vx_MQ below Qc XC args s mc ms free) g := by
  intro T hT X
  obtain ⟨t, a1, o, b1, b2, b3, b4⟩ := k T hT X
  exact ⟨t, a1, o, b1, b2, Or.inl ⟨b3, b4⟩⟩
/-- not caught here: it goes on to the caller -/
theorem vx_widen {g : JFrame} {q : Addr} {k n : Nat} (h1 : cells ≤ k) (h2 : slots ≤ n) (kk : vx_W p l e R s m args below meth c H locs k n Q g q) : vx_W p l e R s m args below meth c H locs cells slots Q g q := fun T hT X => kk T hT (stand_widen X h1 h2)
theorem vx_out {pc : Nat} {E : String} {ce : Cell} {q : Addr} {mc ms : Nat} (hout : ∀ x ∈ c.exceptionTable.toList, covers x pc = false) (hlocks : meth.locks = false) (hcell : H[q]? = some ce) (hv : ce.vm = .none) (hcl : s.vm.findClass E = some ce.cls)
    (hx : ∀ t : State, t.heap = H → s.vm.Alike t.vm → XC E s t) (hf : ∀ z ∈ locs, free z.base) (hc : cells ≤ mc) (hs : slots ≤ ms) :
    vx_W p l e R s m args below meth c H locs cells slots (vx_MQ below Qc XC args s mc ms free) (F0 m pc ls rest) q := by
  intro T hT X
  obtain ⟨st1, hrun, hend, hW, hsm⟩ := X.leaveThrown q (g := F0 m pc ls rest) rfl rfl rfl hout hlocks
  have hcell9 : (T.setFrames (.throwing q :: below)).heap[q]? = some ce := by
    show T.heap[q]? = some ce
    rw [hT]; exact hcell
  exact ⟨_, st1, .threw q, hrun, hend, Or.inr ⟨q, rfl, E, ce, locs, hx _ hT hW.alike, hcell9, hv, hcl, hW, hsm.mono hc hs, hf⟩⟩
theorem vx_frame {U : State} {k n : Nat} (h : s.sameButNew ({ U with vm := s.vm } : State) locs k n) : s.heap.size ≤ U.heap.size ∧ ∀ q : Nat, q < s.heap.size → (∀ z ∈ locs, z.base ≠ q) → U.heap[q]? = s.heap[q]? := by
  obtain ⟨-, h2, -, -, -, h6⟩ := h
  refine ⟨h2, fun q hq hz => ?_⟩
  obtain ⟨c9, e1, e2, e3, e4⟩ := h6 q _ (Array.getElem?_eq_getElem hq)
  have hs : c9.slots = (s.heap[q]).slots := Array.ext_getElem? fun i => e4 i fun hm => hz _ hm rfl
  have h9 : c9 = s.heap[q] := by
    rw [hs] at e2
    exact e2
  have e5 : U.heap[q]? = some c9 := e1
  rw [e5, h9, Array.getElem?_eq_getElem hq]
/-- the words of a throw but the four that speak of the heap -/
def vx_no (w : Cond) : Bool := decide (w ≠ .isRef (.static Bundle.tN "UNASSIGNED_STACK" Bundle.steD)) && decide (w ≠ .isRef (.static Bundle.tN "SUPPRESSED_SENTINEL" Bundle.listD)) && decide (w ≠ .laysStatic Bundle.tN "UNASSIGNED_STACK" Bundle.steD) && decide (w ≠ .laysStatic Bundle.tN "SUPPRESSED_SENTINEL" Bundle.listD)
def vx_at0 (own : String) (ic : Nat) (X : String) (names : List String) : List Cond := (Bundle.ownAtoms0 own ic X names).filter vx_no
def vx_atS (own : String) (ic : Nat) (X : String) (names : List String) : List Cond := (Bundle.ownAtoms own ic X names).filter vx_no
/-- a word that the tables alone decide, or a good one -/
def vx_ot (w : Cond) : Bool := w.onTables || goodWord w
theorem vx_ot_at {args a' : Array Value} {s U : State} {w : Cond} (hW : s.WarmedH U.vm) (hvm : s.vm = U.vm) (hg : vx_ot w = true) (h : w.before args s = true) : w.before a' U = true := by
  simp only [vx_ot, Bool.or_eq_true] at hg
  rcases hg with hg | hg
  · exact va_tabs hg hvm h
  · exact word_at hW (good_of_word hg) h
/-- a list's words: the good ones out of the method's own list, the others by premises of their own -/
theorem vx_hat {args : Array Value} {s : State} {L B : List Cond} (h1 : ∀ w ∈ L.filter goodWord, w.before args s = true) (h2 : ∀ w ∈ L.filter (fun w => !goodWord w), w ∈ B) (h3 : ∀ w ∈ B, w.before args s = true) : ∀ w ∈ L, w.before args s = true := by
  intro w hw
  by_cases g : goodWord w = true
  · exact h1 w (List.mem_filter.mpr ⟨hw, g⟩)
  · refine h3 w (h2 w (List.mem_filter.mpr ⟨hw, ?_⟩))
    show (!goodWord w) = true
    cases hgw : goodWord w
    · rfl
    · exact absurd hgw g
theorem vx_c {args : Array Value} {s : State} {w : Cond} {B : List Cond} (h : w.before args s = true) (t : ∀ w ∈ B, w.before args s = true) : ∀ w' ∈ w :: B, w'.before args s = true := fun w' h' => (List.mem_cons.mp h').elim (fun e => by rw [e]; exact h) (t w')
theorem vx_n {args : Array Value} {s : State} : ∀ w ∈ ([] : List Cond), w.before args s = true := fun _ h => nomatch h
theorem vx_own {args : Array Value} {s : State} {L : List Cond} (h1 : ∀ w ∈ L.filter vx_no, w.before args s = true)
    (hU : (Cond.isRef (.static Bundle.tN "UNASSIGNED_STACK" Bundle.steD)).before args s = true) (hN : (Cond.isRef (.static Bundle.tN "SUPPRESSED_SENTINEL" Bundle.listD)).before args s = true)
    (lU : (Cond.laysStatic Bundle.tN "UNASSIGNED_STACK" Bundle.steD).before args s = true) (lN : (Cond.laysStatic Bundle.tN "SUPPRESSED_SENTINEL" Bundle.listD).before args s = true) : ∀ w ∈ L, w.before args s = true := by
  intro w hw
  by_cases e1 : w = .isRef (.static Bundle.tN "UNASSIGNED_STACK" Bundle.steD)
  · rw [e1]; exact hU
  · by_cases e2 : w = .isRef (.static Bundle.tN "SUPPRESSED_SENTINEL" Bundle.listD)
    · rw [e2]; exact hN
    · by_cases e3 : w = .laysStatic Bundle.tN "UNASSIGNED_STACK" Bundle.steD
      · rw [e3]; exact lU
      · by_cases e4 : w = .laysStatic Bundle.tN "SUPPRESSED_SENTINEL" Bundle.listD
        · rw [e4]; exact lN
        · exact h1 w (List.mem_filter.mpr ⟨hw, by unfold vx_no; rw [decide_eq_true e1, decide_eq_true e2, decide_eq_true e3, decide_eq_true e4]; rfl⟩)
/-- where a static field lies, its class's statics cell in H -/
def vx_L (C n d : String) (A : Nat → Prop) (U : State) (H : Heap) : Prop := ∃ (c : ClassId) (k : Class) (i : Nat) (f : Field) (a : Nat) (cell : Cell), U.vm.findClass C = some c ∧ U.fieldFound? C n d = some (c, k, i, f) ∧ f.isStatic = true ∧ k.statics = some a ∧ H[a]? = some cell ∧ cell.vm.isStatics = true ∧ cell.cls = c ∧ f.slot < cell.slots.size ∧ k.staticTypes[f.slot]? = some f.type ∧ ¬ A a
theorem vx_L.moved {C n d : String} {A : Nat → Prop} {u U : State} {H : Heap} (hvm : u.vm.Alike U.vm) (h : vx_L C n d A u H) : vx_L C n d A U H := by
  obtain ⟨c, k, i, f, a, cell, h1, h2, h3, h4, h5, h6, h7, h8, h9, h10⟩ := h
  obtain ⟨k', hi', he⟩ := State.fieldFound?_setVm hvm h2
  exact ⟨c, k', i, f, a, cell, by rw [hvm.findClass]; exact h1, hi', h3, by rw [he]; exact h4, h5, h6, h7, h8, by rw [he]; exact h9, h10⟩
theorem vx_L.kept {C n d : String} {A : Nat → Prop} {U : State} {H H1 : Heap} (h : vx_L C n d A U H) (hq : ∀ a : Nat, a < H.size → ¬ A a → H1[a]? = H[a]?) : vx_L C n d A U H1 := by
  obtain ⟨c, k, i, f, a, cell, h1, h2, h3, h4, h5, h6, h7, h8, h9, h10⟩ := h
  exact ⟨c, k, i, f, a, cell, h1, h2, h3, h4, by rw [hq a (Array.getElem?_eq_some_iff.mp h5).1 h10]; exact h5, h6, h7, h8, h9, h10⟩
theorem vx_L.narrow {C n d : String} {A B : Nat → Prop} {U : State} {H : Heap} (h : vx_L C n d A U H) (hAB : ∀ q, B q → A q) : vx_L C n d B U H := by
  obtain ⟨c, k, i, f, a, cell, h1, h2, h3, h4, h5, h6, h7, h8, h9, h10⟩ := h
  exact ⟨c, k, i, f, a, cell, h1, h2, h3, h4, h5, h6, h7, h8, h9, fun z => h10 (hAB _ z)⟩
theorem vx_L.word {C n d : String} {A : Nat → Prop} {s : State} {args : Array Value} (h : vx_L C n d A s s.heap) : (Cond.laysStatic C n d).before args s = true := by
  obtain ⟨c, k, i, f, a, cell, h1, h2, h3, h4, h5, h6, h7, h8, h9, -⟩ := h
  show (Cond.laysStatic C n d).holds args s none s [] = true
  exact Cond.laysStatic_of h1 h2 h3 h4 h5 h6 h7 h8 h9
/-- .. and what it holds: null or some reference -/
def vx_Zq (C n d : String) (A : Nat → Prop) (U : State) (H : Heap) : Prop := va_Zq C n d A U H ∧ vx_L C n d A U H
theorem vx_Zq.moved {C n d : String} {A : Nat → Prop} {u U : State} {H : Heap} (hvm : u.vm.Alike U.vm) (h : vx_Zq C n d A u H) : vx_Zq C n d A U H := ⟨va_Zq.moved hvm h.1, vx_L.moved hvm h.2⟩
theorem vx_Zq.kept {C n d : String} {A : Nat → Prop} {U : State} {H H1 : Heap} (h : vx_Zq C n d A U H) (hq : ∀ a : Nat, a < H.size → ¬ A a → H1[a]? = H[a]?) : vx_Zq C n d A U H1 := ⟨va_Zq.kept h.1 hq, vx_L.kept h.2 hq⟩
theorem vx_Zq.narrow {C n d : String} {A B : Nat → Prop} {U : State} {H : Heap} (h : vx_Zq C n d A U H) (hAB : ∀ q, B q → A q) : vx_Zq C n d B U H := ⟨va_Zq.narrow h.1 hAB, vx_L.narrow h.2 hAB⟩
theorem vx_Zqof {args : Array Value} {s : State} {C n d : String} {A : Nat → Prop} (hl : (Cond.laysStatic C n d).before args s = true) (hini : (Cond.initialized C).before args s = true) (h : (Cond.isRef (.static C n d)).before args s = true) (hA : ∀ a : Nat, a < s.heap.size → ¬ A a) : vx_Zq C n d A s s.heap := by
  refine ⟨va_Zqof hl hini h hA, ?_⟩
  obtain ⟨c, k, i, f, a, cell, h1, h2, h3, h4, h5, h6, h7, h8, h9⟩ := Cond.laysStatic_spec hl
  exact ⟨c, k, i, f, a, cell, h1, h2, h3, h4, h5, h6, h7, h8, h9, hA a (Array.getElem?_eq_some_iff.mp h5).1⟩
theorem vx_isRef {C n d : String} {v : Value} {A : Nat → Prop} {s : State} {args : Array Value} (h : va_Z C n d v A s s.heap) (hv : v.isRef = true) : (Cond.isRef (.static C n d)).before args s = true := by
  obtain ⟨cf, kf, fi, f, a, cell, h1, h2, h3, h4, h5, h6, h7, -⟩ := h
  have he : (Term.static C n d).eval args s none [] s = some v := by
    simp [Term.eval, State.fieldNamed?, h1, h2, h4, h5, h6, h7]
  simp only [Cond.before, Cond.holds, Cond.value, he]
  cases v <;> simp_all [Value.isRef]
theorem vx_isRefq {C n d : String} {A : Nat → Prop} {s : State} {args : Array Value} (h : va_Zq C n d A s s.heap) : (Cond.isRef (.static C n d)).before args s = true := by
  rcases h with h | ⟨t, h⟩
  · exact vx_isRef h rfl
  · exact vx_isRef h rfl
/-- the same frame, seen from here: as if the method were called anew in this heap -/
theorem vx_rebase {T : State} (X : Stand p l e R s m args below meth c T locs cells slots) {R' : Room} (hf : R'.frames ≤ R.frames) (hl : R'.locals ≤ R.locals) (hc : cells + R'.cells ≤ R.cells) (hs : slots + R'.slots ≤ R.slots) :
    Stand p l e R' ((T.setVm s.vm).setFrames (.invoking m args :: below)) m args below meth c T [] 0 0 := by
  have htop : (T.setVm s.vm).topJava?.isSome := X.here.top
  have hF : ((T.setVm s.vm).setFrames (.invoking m args :: below)).frames = .invoking m args :: below := State.frames_setFrames _ (State.cur_lt_of_top htop)
  obtain ⟨g₀, hg0⟩ := Option.isSome_iff_exists.mp htop
  obtain ⟨r, hr⟩ := State.topJava?_eq_some.mp hg0
  have hl9 : e.platform.stackLimits (T.setVm s.vm).me = e.platform.stackLimits s.me := X.limits
  have hb9 : (T.setVm s.vm).me.stackBytes = s.me.stackBytes := X.bytes
  refine ⟨X.admits, X.cas, X.clock, hF, ?_, X.hears, X.method, X.code, X.here, X.tail, X.warmed, ?_, ?_, ?_⟩
  · have h := X.room
    have hU : ((T.setVm s.vm).setFrames (.invoking m args :: below)).localsInUse = s.localsInUse := by
      rw [State.localsInUse_invoking hF (meth := meth) (c := c) X.method X.code, State.localsInUse_invoking X.frames X.method X.code]
    simp only [State.hasRoom, Bool.and_eq_true, decide_eq_true_eq] at h ⊢
    obtain ⟨⟨⟨⟨h1, h2, h3, h4, h5, h6⟩, h7⟩, h8⟩, h9⟩ := h
    rw [X.frames, List.length_cons] at h2 h3
    have q1 := X.heapSize
    have q2 := X.used
    simp only [hF, hU, List.length_cons, State.stackLimits_setFrames, State.stackBytes_setFrames, hl9, hb9]
    refine ⟨⟨⟨⟨by omega, by omega, by omega, by omega, by omega, h6⟩, ?_⟩, ?_⟩, X.book⟩
    · show T.heap.size + R'.cells ≤ e.platform.maxCells
      omega
    · show T.slotsUsed + R'.slots ≤ e.platform.maxSlots
      omega
  · rw [State.stackLimits_setFrames]; rfl
  · rw [State.stackBytes_setFrames]; rfl
  · refine ⟨?_, Nat.le_refl _, Nat.le_refl _, ?_, ?_, fun a c9 h9 => ⟨c9, h9, rfl, rfl, fun _ _ => rfl⟩⟩
    · obtain ⟨t, ht, -⟩ := State.frames_cons hr
      show T.setVm s.vm = { ((T.setVm s.vm).setFrames (.invoking m args :: below)).setFrames (T.setVm s.vm).frames with heap := T.heap, slotsUsed := T.slotsUsed }
      rw [State.setFrames_setFrames, State.setFrames_self ht]
      rfl
    · show T.slotsUsed = T.slotsUsed + ((T.heap.toList.drop T.heap.size).map (·.slots.size)).sum
      rw [List.drop_eq_nil_of_le (Nat.le_of_eq Array.length_toList)]
      rfl
    · show ((T.heap.toList.drop T.heap.size).map (·.slots.size)).sum ≤ 0
      rw [List.drop_eq_nil_of_le (Nat.le_of_eq Array.length_toList)]
      exact Nat.le_refl _
/-- 'throw new E()': new; dup; invokespecial; athrow -/
theorem vx_throw0 {cc : ByteArray} {pc : Nat} (hexec : p.tables.exec = Jvm.exec) (hb : c.code = cc) (hl : l.stackTraces = false) {own cls : String} {names : List String} {ik ic mc ms : Nat} {A : Nat → Prop}
    (hown : s.vm.findClass own = some m.cls) (hcls : Bundle.fit cls = true) (hnames : ∀ n ∈ names, Bundle.fit n = true)
    (hk : (Cond.classLink own ik cls).before args s = true) (hini : (Cond.initialized cls).before args s = true) (hat : ∀ w ∈ vx_at0 own ic cls names, w.before args s = true)
    (hgood : ∀ w ∈ Cond.classLink own ik cls :: Cond.initialized cls :: vx_at0 own ic cls names, vx_ot w = true)
    (hU : vx_Zq Bundle.tN "UNASSIGNED_STACK" Bundle.steD A s s.heap) (hN : vx_Zq Bundle.tN "SUPPRESSED_SENTINEL" Bundle.listD A s s.heap) (hS : va_S A s.heap H locs) (hsize : ls.size = c.maxLocals)
    (d0 : decode cc pc = .ok (.new ik, 3)) (d3 : decode cc (pc + 3) = .ok (.dup, 1)) (d4 : decode cc (pc + 4) = .ok (.invokespecial ic, 3)) (d7 : decode cc (pc + 7) = .ok (.athrow, 1))
    (hout : ∀ x ∈ c.exceptionTable.toList, covers x (pc + 7) = false)
    (hRframes : names.length + 3 < R.frames) (hRlocals : (rest.map fun v => v.category).sum + (13 * (names.length + 1) + 42) ≤ R.locals) (hRcells : cells + 1 ≤ R.cells) (hRslots : slots + 6 ≤ R.slots) (hlocks : meth.locks = false)
    (hx : ∀ t : State, s.vm.Alike t.vm → H.size ≤ t.heap.size → (∀ q : Nat, q < H.size → t.heap[q]? = H[q]?) → XC cls s t)
    (hf : ∀ z ∈ locs, free z.base) (hc : cells + 1 ≤ mc) (hs : slots + 6 ≤ ms) :
    W p l e R s m args below meth c H locs cells slots (vx_MQ below Qc XC args s mc ms free) (F0 m pc ls rest) := by
  intro T hT X
  have htr : e.platform.stackTraces = false := (show e.platform.stackTraces = l.stackTraces by rw [X.admits.platform]).trans hl
  have Y := vx_rebase X (R' := { frames := R.frames, locals := R.locals, cells := 1, slots := 6 }) (Nat.le_refl _) (Nat.le_refl _) hRcells hRslots
  obtain ⟨s', hA⟩ : ∃ z, z = (T.setVm s.vm).setFrames (.invoking m args :: below) := ⟨_, rfl⟩
  rw [← hA] at Y
  have hvm : s'.vm = s.vm := by rw [hA]; rfl
  have hhp : s'.heap = H := by rw [hA]; exact hT
  have hW0 : s.WarmedH s'.vm := by rw [hvm]; exact State.WarmedH.refl s
  have hat' : ∀ w ∈ vx_at0 own ic cls names, w.before args s' = true := fun w hw => vx_ot_at hW0 hvm.symm (hgood w (List.mem_cons_of_mem _ (List.mem_cons_of_mem _ hw))) (hat w hw)
  have hk' : (Cond.classLink own ik cls).before args s' = true := vx_ot_at hW0 hvm.symm (hgood _ List.mem_cons_self) hk
  have hini' : (Cond.initialized cls).before args s' = true := vx_ot_at hW0 hvm.symm (hgood _ (List.mem_cons_of_mem _ List.mem_cons_self)) hini
  have hU' : vx_Zq Bundle.tN "UNASSIGNED_STACK" Bundle.steD A s' s'.heap := by rw [hhp]; exact vx_Zq.moved hW0.alike (hU.kept hS.2.1)
  have hN' : vx_Zq Bundle.tN "SUPPRESSED_SENTINEL" Bundle.listD A s' s'.heap := by rw [hhp]; exact vx_Zq.moved hW0.alike (hN.kept hS.2.1)
  have h : ∀ w ∈ Bundle.ownAtoms0 own ic cls names, w.before args s' = true := vx_own hat' (vx_isRefq hU'.1) (vx_isRefq hN'.1) hU'.2.word hN'.2.word
  have hown' : s'.vm.findClass own = some m.cls := by rw [hvm]; exact hown
  have hins : (Cond.instantiable cls 6).before args s' = true := h _ (by simp [Bundle.ownAtoms0])
  obtain ⟨vm₁, cX, kX, hfX, hkX, -, -, X₁, st1⟩ := Y.newCold hexec (own := own) (C := cls) (index := ik) (n := 6) hown' hk' hins hini'
    (g := F0 m pc ls rest) rfl (by rw [hb]; exact d0) (Nat.le_refl _) (Nat.le_refl _)
  generalize hT1 : (T.setVm vm₁).pushCell { cls := cX, slots := kX.instanceTypes.map defaultValue, vm := .none } = T1 at X₁ st1
  have hcat : (Value.ref T.heap.size).category = 1 := rfl
  have hcellA : T1.heap[T.heap.size]? = some (freshCell cX kX) := by rw [← hT1]; exact State.heap_pushCell_size _ _
  have d3' : decode c.code (pc + 3) = .ok (.dup, 1) := by rw [hb]; exact d3
  obtain ⟨U, hsteps, hrun, hend, hW, hsame, ce, hce, hO⟩ := X₁.ctorThrow0 hexec htr (own := own) (cls := cls) (names := names) (ic := ic) hown' hcls hnames h (fun x hx => nomatch hx) hfX hkX hcellA (by rw [hhp, hT]; exact Nat.le_refl _)
    (g := { method := m, pc := pc + 4, locals := ls, stack := .ref T.heap.size :: .ref T.heap.size :: rest, locked := none }) rfl hsize rfl rfl (rest := rest) rfl
    (by rw [hb]; exact d4) (by rw [hb]; exact d7) hout hRframes (by simp only [List.map_cons, List.sum_cons, hcat]; omega) hlocks
  obtain ⟨f1, f2⟩ := vx_frame hsame
  rw [hhp] at f1 f2
  have hWs : s.WarmedH U.vm := State.WarmedH.trans hW0 hW
  have hcl : s.vm.findClass cls = some ce.cls := by
    have h9 := hO.cls
    rw [hvm] at h9
    exact h9
  have hall : s.sameButNew ({ U with vm := s.vm } : State) locs mc ms := by
    subst hA
    obtain ⟨e1, e2⟩ := hsame
    rw [State.setFrames_setFrames] at e1
    have h2 : (T.setVm s.vm).sameButNew ({ U with vm := s.vm } : State) [] (0 + 1) (0 + 6) := ⟨e1, e2⟩
    have h3 := X.same.trans h2
    rw [List.append_nil] at h3
    exact h3.mono hc hs
  refine ⟨U, ?_, .threw T.heap.size, hrun, hend, Or.inr ⟨T.heap.size, rfl, cls, ce, locs, hx U hWs.alike f1 (fun q hq => f2 q hq (fun z hz => nomatch hz)), hce, hO.vm, hcl, hWs, hall, hf⟩⟩
  refine st1 _ ?_
  show Steps p.tables e below (T1.setTop { method := m, pc := pc + 3, locals := ls, stack := .ref T.heap.size :: rest, locked := none }) _
  jvm_step X₁.here [X₁.here.top, hexec, d3', Value.category]
  exact hsteps
/-- 'throw new E("text")': new; dup; ldc; invokespecial; athrow -/
theorem vx_throwS {cc : ByteArray} {pc : Nat} (hexec : p.tables.exec = Jvm.exec) (hb : c.code = cc) (hl : l.stackTraces = false) {own cls text : String} {names : List String} {ik is ic mc ms sa : Nat} {A : Nat → Prop}
    (hown : s.vm.findClass own = some m.cls) (hcls : Bundle.fit cls = true) (hnames : ∀ n ∈ names, Bundle.fit n = true)
    (hk : (Cond.classLink own ik cls).before args s = true) (hini : (Cond.initialized cls).before args s = true) (hstr : vk_R own is text sa s) (hat : ∀ w ∈ vx_atS own ic cls names, w.before args s = true)
    (hgood : ∀ w ∈ Cond.classLink own ik cls :: Cond.initialized cls :: vx_atS own ic cls names, vx_ot w = true)
    (hU : vx_Zq Bundle.tN "UNASSIGNED_STACK" Bundle.steD A s s.heap) (hN : vx_Zq Bundle.tN "SUPPRESSED_SENTINEL" Bundle.listD A s s.heap) (hS : va_S A s.heap H locs) (hsize : ls.size = c.maxLocals)
    (d0 : decode cc pc = .ok (.new ik, 3)) (d3 : decode cc (pc + 3) = .ok (.dup, 1)) (d4 : decode cc (pc + 4) = .ok (.ldc is, 2)) (d6 : decode cc (pc + 6) = .ok (.invokespecial ic, 3)) (d9 : decode cc (pc + 9) = .ok (.athrow, 1))
    (hout : ∀ x ∈ c.exceptionTable.toList, covers x (pc + 9) = false)
    (hRframes : names.length + 3 < R.frames) (hRlocals : (rest.map fun v => v.category).sum + (13 * (names.length + 1) + 43) ≤ R.locals) (hRcells : cells + 1 ≤ R.cells) (hRslots : slots + 6 ≤ R.slots) (hlocks : meth.locks = false)
    (hx : ∀ t : State, s.vm.Alike t.vm → H.size ≤ t.heap.size → (∀ q : Nat, q < H.size → t.heap[q]? = H[q]?) → XC cls s t)
    (hf : ∀ z ∈ locs, free z.base) (hc : cells + 1 ≤ mc) (hs : slots + 6 ≤ ms) :
    W p l e R s m args below meth c H locs cells slots (vx_MQ below Qc XC args s mc ms free) (F0 m pc ls rest) := by
  intro T hT X
  have htr : e.platform.stackTraces = false := (show e.platform.stackTraces = l.stackTraces by rw [X.admits.platform]).trans hl
  have Y := vx_rebase X (R' := { frames := R.frames, locals := R.locals, cells := 1, slots := 6 }) (Nat.le_refl _) (Nat.le_refl _) hRcells hRslots
  obtain ⟨s', hA⟩ : ∃ z, z = (T.setVm s.vm).setFrames (.invoking m args :: below) := ⟨_, rfl⟩
  rw [← hA] at Y
  have hvm : s'.vm = s.vm := by rw [hA]; rfl
  have hhp : s'.heap = H := by rw [hA]; exact hT
  have hW0 : s.WarmedH s'.vm := by rw [hvm]; exact State.WarmedH.refl s
  have hat' : ∀ w ∈ vx_atS own ic cls names, w.before args s' = true := fun w hw => vx_ot_at hW0 hvm.symm (hgood w (List.mem_cons_of_mem _ (List.mem_cons_of_mem _ hw))) (hat w hw)
  have hk' : (Cond.classLink own ik cls).before args s' = true := vx_ot_at hW0 hvm.symm (hgood _ List.mem_cons_self) hk
  have hini' : (Cond.initialized cls).before args s' = true := vx_ot_at hW0 hvm.symm (hgood _ (List.mem_cons_of_mem _ List.mem_cons_self)) hini
  have hU' : vx_Zq Bundle.tN "UNASSIGNED_STACK" Bundle.steD A s' s'.heap := by rw [hhp]; exact vx_Zq.moved hW0.alike (hU.kept hS.2.1)
  have hN' : vx_Zq Bundle.tN "SUPPRESSED_SENTINEL" Bundle.listD A s' s'.heap := by rw [hhp]; exact vx_Zq.moved hW0.alike (hN.kept hS.2.1)
  have h : ∀ w ∈ Bundle.ownAtoms own ic cls names, w.before args s' = true := vx_own hat' (vx_isRefq hU'.1) (vx_isRefq hN'.1) hU'.2.word hN'.2.word
  have hown' : s'.vm.findClass own = some m.cls := by rw [hvm]; exact hown
  have hins : (Cond.instantiable cls 6).before args s' = true := h _ (by simp [Bundle.ownAtoms])
  obtain ⟨vm₁, cX, kX, hfX, hkX, -, -, X₁, st1⟩ := Y.newCold hexec (own := own) (C := cls) (index := ik) (n := 6) hown' hk' hins hini'
    (g := F0 m pc ls rest) rfl (by rw [hb]; exact d0) (Nat.le_refl _) (Nat.le_refl _)
  generalize hT1 : (T.setVm vm₁).pushCell { cls := cX, slots := kX.instanceTypes.map defaultValue, vm := .none } = T1 at X₁ st1
  have hcat : (Value.ref T.heap.size).category = 1 := rfl
  have hcellA : T1.heap[T.heap.size]? = some (freshCell cX kX) := by rw [← hT1]; exact State.heap_pushCell_size _ _
  have d3' : decode c.code (pc + 3) = .ok (.dup, 1) := by rw [hb]; exact d3
  have d4' : decode c.code (pc + 4) = .ok (.ldc is, 2) := by rw [hb]; exact d4
  have hstr' : vk_R own is text sa s' := vk_R.warm hW0 hstr
  obtain ⟨U, hsteps, hrun, hend, hW, hsame, ce, hce, hO⟩ := X₁.ctorThrowS hexec htr (own := own) (cls := cls) (names := names) (ic := ic) hown' hcls hnames h (fun x hx => nomatch hx) hfX hkX hcellA (by rw [hhp, hT]; exact Nat.le_refl _) (msg := .ref sa) rfl
    (g := { method := m, pc := pc + 6, locals := ls, stack := .ref sa :: .ref T.heap.size :: .ref T.heap.size :: rest, locked := none }) rfl hsize rfl rfl (rest := rest) rfl
    (by rw [hb]; exact d6) (by rw [hb]; exact d9) hout hRframes (by simp only [List.map_cons, List.sum_cons, hcat]; omega) hlocks
  obtain ⟨f1, f2⟩ := vx_frame hsame
  rw [hhp] at f1 f2
  have hWs : s.WarmedH U.vm := State.WarmedH.trans hW0 hW
  have hcl : s.vm.findClass cls = some ce.cls := by
    have h9 := hO.cls
    rw [hvm] at h9
    exact h9
  have hall : s.sameButNew ({ U with vm := s.vm } : State) locs mc ms := by
    subst hA
    obtain ⟨e1, e2⟩ := hsame
    rw [State.setFrames_setFrames] at e1
    have h2 : (T.setVm s.vm).sameButNew ({ U with vm := s.vm } : State) [] (0 + 1) (0 + 6) := ⟨e1, e2⟩
    have h3 := X.same.trans h2
    rw [List.append_nil] at h3
    exact h3.mono hc hs
  refine ⟨U, ?_, .threw T.heap.size, hrun, hend, Or.inr ⟨T.heap.size, rfl, cls, ce, locs, hx U hWs.alike f1 (fun q hq => f2 q hq (fun z hz => nomatch hz)), hce, hO.vm, hcl, hWs, hall, hf⟩⟩
  refine st1 _ ?_
  show Steps p.tables e below (T1.setTop { method := m, pc := pc + 3, locals := ls, stack := .ref T.heap.size :: rest, locked := none }) _
  jvm_step X₁.here [X₁.here.top, hexec, d3', Value.category]
  exact X₁.ldcString hexec (own := own) (text := text) (index := is) (a := sa) hown' hstr'.1 hstr'.2
    (g := { method := m, pc := pc + 4, locals := ls, stack := .ref T.heap.size :: .ref T.heap.size :: rest, locked := none }) rfl d4' _ hsteps
/-- 'throw new E("text")', the text by a wide index -/
theorem vx_throwSW {cc : ByteArray} {pc : Nat} (hexec : p.tables.exec = Jvm.exec) (hb : c.code = cc) (hl : l.stackTraces = false) {own cls text : String} {names : List String} {ik is ic mc ms sa : Nat} {A : Nat → Prop}
    (hown : s.vm.findClass own = some m.cls) (hcls : Bundle.fit cls = true) (hnames : ∀ n ∈ names, Bundle.fit n = true)
    (hk : (Cond.classLink own ik cls).before args s = true) (hini : (Cond.initialized cls).before args s = true) (hstr : vk_R own is text sa s) (hat : ∀ w ∈ vx_atS own ic cls names, w.before args s = true)
    (hgood : ∀ w ∈ Cond.classLink own ik cls :: Cond.initialized cls :: vx_atS own ic cls names, vx_ot w = true)
    (hU : vx_Zq Bundle.tN "UNASSIGNED_STACK" Bundle.steD A s s.heap) (hN : vx_Zq Bundle.tN "SUPPRESSED_SENTINEL" Bundle.listD A s s.heap) (hS : va_S A s.heap H locs) (hsize : ls.size = c.maxLocals)
    (d0 : decode cc pc = .ok (.new ik, 3)) (d3 : decode cc (pc + 3) = .ok (.dup, 1)) (d4 : decode cc (pc + 4) = .ok (.ldc_w is, 3)) (d7 : decode cc (pc + 7) = .ok (.invokespecial ic, 3)) (d10 : decode cc (pc + 10) = .ok (.athrow, 1))
    (hout : ∀ x ∈ c.exceptionTable.toList, covers x (pc + 10) = false)
    (hRframes : names.length + 3 < R.frames) (hRlocals : (rest.map fun v => v.category).sum + (13 * (names.length + 1) + 43) ≤ R.locals) (hRcells : cells + 1 ≤ R.cells) (hRslots : slots + 6 ≤ R.slots) (hlocks : meth.locks = false)
    (hx : ∀ t : State, s.vm.Alike t.vm → H.size ≤ t.heap.size → (∀ q : Nat, q < H.size → t.heap[q]? = H[q]?) → XC cls s t)
    (hf : ∀ z ∈ locs, free z.base) (hc : cells + 1 ≤ mc) (hs : slots + 6 ≤ ms) :
    W p l e R s m args below meth c H locs cells slots (vx_MQ below Qc XC args s mc ms free) (F0 m pc ls rest) := by
  intro T hT X
  have htr : e.platform.stackTraces = false := (show e.platform.stackTraces = l.stackTraces by rw [X.admits.platform]).trans hl
  have Y := vx_rebase X (R' := { frames := R.frames, locals := R.locals, cells := 1, slots := 6 }) (Nat.le_refl _) (Nat.le_refl _) hRcells hRslots
  obtain ⟨s', hA⟩ : ∃ z, z = (T.setVm s.vm).setFrames (.invoking m args :: below) := ⟨_, rfl⟩
  rw [← hA] at Y
  have hvm : s'.vm = s.vm := by rw [hA]; rfl
  have hhp : s'.heap = H := by rw [hA]; exact hT
  have hW0 : s.WarmedH s'.vm := by rw [hvm]; exact State.WarmedH.refl s
  have hat' : ∀ w ∈ vx_atS own ic cls names, w.before args s' = true := fun w hw => vx_ot_at hW0 hvm.symm (hgood w (List.mem_cons_of_mem _ (List.mem_cons_of_mem _ hw))) (hat w hw)
  have hk' : (Cond.classLink own ik cls).before args s' = true := vx_ot_at hW0 hvm.symm (hgood _ List.mem_cons_self) hk
  have hini' : (Cond.initialized cls).before args s' = true := vx_ot_at hW0 hvm.symm (hgood _ (List.mem_cons_of_mem _ List.mem_cons_self)) hini
  have hU' : vx_Zq Bundle.tN "UNASSIGNED_STACK" Bundle.steD A s' s'.heap := by rw [hhp]; exact vx_Zq.moved hW0.alike (hU.kept hS.2.1)
  have hN' : vx_Zq Bundle.tN "SUPPRESSED_SENTINEL" Bundle.listD A s' s'.heap := by rw [hhp]; exact vx_Zq.moved hW0.alike (hN.kept hS.2.1)
  have h : ∀ w ∈ Bundle.ownAtoms own ic cls names, w.before args s' = true := vx_own hat' (vx_isRefq hU'.1) (vx_isRefq hN'.1) hU'.2.word hN'.2.word
  have hown' : s'.vm.findClass own = some m.cls := by rw [hvm]; exact hown
  have hins : (Cond.instantiable cls 6).before args s' = true := h _ (by simp [Bundle.ownAtoms])
  obtain ⟨vm₁, cX, kX, hfX, hkX, -, -, X₁, st1⟩ := Y.newCold hexec (own := own) (C := cls) (index := ik) (n := 6) hown' hk' hins hini'
    (g := F0 m pc ls rest) rfl (by rw [hb]; exact d0) (Nat.le_refl _) (Nat.le_refl _)
  generalize hT1 : (T.setVm vm₁).pushCell { cls := cX, slots := kX.instanceTypes.map defaultValue, vm := .none } = T1 at X₁ st1
  have hcat : (Value.ref T.heap.size).category = 1 := rfl
  have hcellA : T1.heap[T.heap.size]? = some (freshCell cX kX) := by rw [← hT1]; exact State.heap_pushCell_size _ _
  have d3' : decode c.code (pc + 3) = .ok (.dup, 1) := by rw [hb]; exact d3
  have d4' : decode c.code (pc + 4) = .ok (.ldc_w is, 3) := by rw [hb]; exact d4
  have hstr' : vk_R own is text sa s' := vk_R.warm hW0 hstr
  obtain ⟨U, hsteps, hrun, hend, hW, hsame, ce, hce, hO⟩ := X₁.ctorThrowS hexec htr (own := own) (cls := cls) (names := names) (ic := ic) hown' hcls hnames h (fun x hx => nomatch hx) hfX hkX hcellA (by rw [hhp, hT]; exact Nat.le_refl _) (msg := .ref sa) rfl
    (g := { method := m, pc := pc + 7, locals := ls, stack := .ref sa :: .ref T.heap.size :: .ref T.heap.size :: rest, locked := none }) rfl hsize rfl rfl (rest := rest) rfl
    (by rw [hb]; exact d7) (by rw [hb]; exact d10) hout hRframes (by simp only [List.map_cons, List.sum_cons, hcat]; omega) hlocks
  obtain ⟨f1, f2⟩ := vx_frame hsame
  rw [hhp] at f1 f2
  have hWs : s.WarmedH U.vm := State.WarmedH.trans hW0 hW
  have hcl : s.vm.findClass cls = some ce.cls := by
    have h9 := hO.cls
    rw [hvm] at h9
    exact h9
  have hall : s.sameButNew ({ U with vm := s.vm } : State) locs mc ms := by
    subst hA
    obtain ⟨e1, e2⟩ := hsame
    rw [State.setFrames_setFrames] at e1
    have h2 : (T.setVm s.vm).sameButNew ({ U with vm := s.vm } : State) [] (0 + 1) (0 + 6) := ⟨e1, e2⟩
    have h3 := X.same.trans h2
    rw [List.append_nil] at h3
    exact h3.mono hc hs
  refine ⟨U, ?_, .threw T.heap.size, hrun, hend, Or.inr ⟨T.heap.size, rfl, cls, ce, locs, hx U hWs.alike f1 (fun q hq => f2 q hq (fun z hz => nomatch hz)), hce, hO.vm, hcl, hWs, hall, hf⟩⟩
  refine st1 _ ?_
  show Steps p.tables e below (T1.setTop { method := m, pc := pc + 3, locals := ls, stack := .ref T.heap.size :: rest, locked := none }) _
  jvm_step X₁.here [X₁.here.top, hexec, d3', Value.category]
  exact X₁.ldcStringW hexec (own := own) (text := text) (index := is) (a := sa) hown' hstr'.1 hstr'.2
    (g := { method := m, pc := pc + 4, locals := ls, stack := .ref T.heap.size :: .ref T.heap.size :: rest, locked := none }) rfl d4' _ hsteps
end Ends
section Bodies
variable {l : Launch}
theorem vx_ofW {y : MethodName} {ws ws' : List Cond} {rm : Room} {Pc : Array Value → State → Prop} {Qc : Array Value → State → Outcome → State → Prop} {XC : String → State → State → Prop} {mc ms : Nat} {free : Addr → Prop} {cc : ByteArray} {maxL : Nat} {ret : Option FieldType}
    (hy : plainName y.cls = true) (hw : ws = Cond.code y cc maxL ret :: ws')
    (body : ∀ p e s m args below meth c s₁, BodyLoose p l y (headSpec ws rm) cc maxL ret e s m args below meth c s₁ → c.maxLocals = maxL → (∀ x ∈ c.exceptionTable.toList, False) → Pc args s →
      W p l e (headSpec ws rm).room s m args below meth c s.heap [] 0 0 (vx_MQ below Qc XC args s mc ms free) (entryFrame m args maxL)) : vx_Met l y ws rm Pc Qc XC mc ms free := by
  refine MetFree.of_bodyS (code := cc) (maxLocals := maxL) (ret := ret) hy ?_ ?_
  · intro args s m h hn
    obtain ⟨meth, c, h1, h2, h3, h4, h5, h6, -, -⟩ := Cond.code_spec hn (atoms_spec (ws := ws) h _ (by rw [hw]; exact List.mem_cons_self))
    exact ⟨meth, c, h1, h2, h3, h4, h5, h6⟩
  · intro p e s m args below meth c s₁ B hml hP _
    have hh0 : s₁.heap = s.heap := by rw [B.state]; rfl
    have ht : ∀ x ∈ c.exceptionTable.toList, False := by
      obtain ⟨meth9, c9, h1, h2, -, -, -, -, h7, -⟩ := Cond.code_spec B.named (atoms_spec (ws := ws) B.pre _ (by rw [hw]; exact List.mem_cons_self))
      cases Option.some.inj (h1.symm.trans B.method)
      cases Option.some.inj (h2.symm.trans (Stand.of_body B).code)
      intro x hx
      rw [Array.isEmpty_iff.mp h7] at hx
      cases hx
    obtain ⟨t, a1, o, b1, b2, b3⟩ := body p e s m args below meth c s₁ B hml ht hP s₁ hh0 (Stand.of_body B)
    exact ⟨t, o, a1, b1, b2, b3⟩
/-- the table of a body with handlers -/
theorem vx_table {p : Program} {x y : MethodName} {S : Spec} {cc bytes : ByteArray} {maxL maxL' : Nat} {ret ret' : Option FieldType} {e : Env} {s s₁ : State} {m : MethodId} {args : Array Value} {below : List Frame} {meth : Method} {c : Code} {hh : List (Nat × Nat × Nat × Nat)}
    (B : BodyLoose p l y S cc maxL ret e s m args below meth c s₁) (h : (Cond.codeWith y bytes maxL' ret' hh).before args s = true) : c.exceptionTable.toList = tableOf hh := by
  obtain ⟨m9, meth9, c9, hn9, h1, h2, -, -, h6, -⟩ := Cond.codeWith_spec h
  cases Option.some.inj (hn9.symm.trans B.named)
  cases Option.some.inj (h1.symm.trans B.method)
  cases Option.some.inj (h2.symm.trans (Stand.of_body B).code)
  rw [← h6, table_eq]
end Bodies
end VXA
/-! ===== END ===== -/
/-! ===== BEGIN a static call of a method with an exception table ===== -/
section VXS
variable {p : Program} {l : Launch} {e : Env} {R : Room} {s : State} {m : MethodId} {args : Array Value} {below : List Frame} {meth : Method} {c : Code} {T : State} {H : Heap} {locs : List Loc} {cells slots : Nat}
abbrev vx_CSW (R : Room) (s : State) (args : Array Value) (own : String) (index : Nat) (y : MethodName) (bytes : ByteArray) (maxL : Nat) (ret : Option FieldType) (hh : List (Nat × Nat × Nat × Nat)) (ws : List Cond) (rm : Room) (mc ms n : Nat) : Prop :=
  (rm.cells = mc ∧ rm.slots = ms ∧ rm.frames + 1 ≤ R.frames ∧ 8 + (maxL + 11) + rm.locals ≤ R.locals ∧ (∀ w ∈ ws, ∀ (a' : Array Value) (U : State), s.WarmedH U.vm → w.before a' U = true) ∧ Cond.codeWith y bytes maxL ret hh ∈ ws) ∧
  (Cond.codeWith y bytes maxL ret hh).before args s = true ∧ (Cond.initialized y.cls).before args s = true ∧ (y.cls ≠ "java/lang/invoke/MethodHandle" ∧ y.cls ≠ "java/lang/invoke/VarHandle") ∧
  (∀ sig, parseMethodDescriptor y.desc = some sig → n = sig.parameters.length) ∧ (Cond.methodLink own index y).before args s = true ∧ (Cond.static y).before args s = true
theorem vx_cwSW {own : String} {index maxL mc ms : Nat} {y : MethodName} {bytes : ByteArray} {ret : Option FieldType} {hh : List (Nat × Nat × Nat × Nat)} {Ts ws ws' : List Cond} {rm : Room} (n : Nat) (ht : ∀ w ∈ Ts, w.before args s = true) (hT : GoodIn Ts (va_wsS own index y ws)) (hw : ws = Cond.codeWith y bytes maxL ret hh :: ws') (hrc : rm.cells = mc) (hrs : rm.slots = ms)
    (hd : y.cls ≠ "java/lang/invoke/MethodHandle" ∧ y.cls ≠ "java/lang/invoke/VarHandle" ∧ (parseMethodDescriptor y.desc).map (fun d => d.parameters.length) = some n) (hR : rm.frames + 1 ≤ R.frames ∧ 8 + (maxL + 11) + rm.locals ≤ R.locals) :
    vx_CSW R s args own index y bytes maxL ret hh ws rm mc ms n := by
  have ok : ∀ w ∈ va_wsS own index y ws, w.before args s = true := fun w h => ht w (hT w h).1
  have hG : GoodIn Ts ws := fun w h => hT w (by unfold va_wsS; exact List.mem_append_right _ h)
  have hc : Cond.codeWith y bytes maxL ret hh ∈ ws := by rw [hw]; exact List.mem_cons_self
  refine ⟨⟨hrc, hrs, hR.1, hR.2, pay_in ht hG, hc⟩, ht _ (hG _ hc).1, ok _ (by simp [va_wsS]), ⟨hd.1, hd.2.1⟩, fun sig h => ?_, ok _ (by simp [va_wsS]), ok _ (by simp [va_wsS])⟩
  have h2 := hd.2.2
  rw [h] at h2
  exact (Option.some.inj h2).symm
theorem vx_callSW (X : Stand p l e R s m args below meth c T locs cells slots) (hexec : p.tables.exec = Jvm.exec) {own : String} {index : Nat} {y : MethodName} {bytes : ByteArray} {maxL : Nat} {ret : Option FieldType} {hh : List (Nat × Nat × Nat × Nat)}
    (hown : s.vm.findClass own = some m.cls) (hlink : (Cond.methodLink own index y).before args s = true) (hstat : (Cond.static y).before args s = true) (hinit : (Cond.initialized y.cls).before args s = true)
    (hcode : (Cond.codeWith y bytes maxL ret hh).before args s = true) (hy : y.cls ≠ "java/lang/invoke/MethodHandle" ∧ y.cls ≠ "java/lang/invoke/VarHandle")
    {W9 : Nat} {Pre : Pt → Array Value → Prop} {Post : Pt → Array Value → Option Value → Pt → Prop} (hK : Back l R p e below s args y 3 W9 Pre Post)
    {g : JFrame} (hg : g.method = m) (hsize : g.locals.size = c.maxLocals) {argsL rest : List Value} (hlen : ∀ sig, parseMethodDescriptor y.desc = some sig → argsL.length = sig.parameters.length)
    (hstack : g.stack = argsL.reverse ++ rest) (hW : 2 * g.monitorRoom + (rest.map fun v => v.category).sum ≤ W9) (hdg : decode c.code g.pc = .ok (.invokestatic index, 3))
    (hpre : ∀ vm₁, s.WarmedH vm₁ → Pre ⟨T.setVm vm₁, locs, cells, slots⟩ argsL.toArray) :
    ∃ (v : Option Value) (vm₁ : Vm) (B : Pt), s.WarmedH vm₁ ∧ Stand p l e R s m args below meth c B.U B.locs B.cells B.slots ∧ Post ⟨T.setVm vm₁, locs, cells, slots⟩ argsL.toArray v B ∧
      ∀ target, Steps p.tables e below (B.U.setTop { g with pc := g.pc + 3, stack := v.toList ++ rest }) target → Steps p.tables e below (T.setTop g) target := by
  obtain ⟨mk, methM, cM, hnamed, hmethM, -, -, -, -, -, -, hsigM⟩ := Cond.codeWith_spec hcode
  have hstatic : methM.isStatic = true := Cond.static_spec hnamed hmethM hstat
  obtain ⟨kP, hkP, -⟩ := className_of_methodNamed hnamed
  have hinitP : kP.init = .initialized := Cond.initialized_spec (findClass_of_methodNamed hnamed) hkP hinit
  obtain ⟨vm₁, X₁, hstep₁⟩ := X.invokestatic hexec hown hlink hnamed hmethM hstatic hkP hinitP hy (g := g) hg (argsL := argsL) (rest := rest) (hlen _ hsigM) hstack hdg
  obtain ⟨v, B, X', hpost, hsteps⟩ := hK m meth c ⟨T.setVm vm₁, locs, cells, slots⟩ { g with stack := rest } (.invokestatic index) mk argsL.toArray X₁ hg hsize hdg hW (X₁.named hnamed) (hpre vm₁ X₁.warmed)
  exact ⟨v, vm₁, B, X₁.warmed, X', hpost, fun target h => hstep₁ _ fun acts => by rw [doInvoke_state]; exact hsteps.trans h⟩
theorem vx_runSW {y : MethodName} {bytes cc : ByteArray} {maxL nL mc ms n index : Nat} {ret : Option FieldType} {hh : List (Nat × Nat × Nat × Nat)} {ws : List Cond} {rm : Room} {Pc : Array Value → State → Prop} {Qc : Array Value → State → Outcome → State → Prop} {free : Addr → Prop} {Ts : List Cond} {own : String} {As rest : List Value} {g : JFrame}
    (S : CallFix p m c cc nL s args Ts own) (hM : Met l y ws rm Pc Qc mc ms free) (cw : vx_CSW R s args own index y bytes maxL ret hh ws rm mc ms n) (hp : PreS s H Pc As)
    (hg : g.method = m) (hn : As.length = n) (hsize : g.locals.size = nL) (hstack : g.stack = As.reverse ++ rest) (hW : 2 * g.monitorRoom + (rest.map fun v => v.category).sum ≤ 8) (hdg : decode cc g.pc = .ok (.invokestatic index, 3)) (hf : cells + mc ≤ R.cells ∧ slots + ms ≤ R.slots) :
    va_Run p l e R s m args below meth c H locs cells slots mc ms g rest (Qc As.toArray) (free) := by
  obtain ⟨⟨hrc, hrs, hfr, hlo, hws, hcw⟩, hcode, hini, hy, hlen, hl, hstt⟩ := cw
  have hK : Back l R p e below s args y 3 8 (PreOf R mc ms Pc) (PostOf Qc mc ms free) := va_backW (hh := hh) (bytes := bytes) (maxL := maxL) (ret := ret) hM hp.1 hrc hrs hfr hlo hws hcw (fun a' U hW => word_at hW (Or.inl (by first | rfl | simp [Cond.onTables, Cond.keeps, Cond.steady])) hini)
  obtain ⟨hx, hb, hml, ho, -⟩ := S
  intro T hT X
  obtain ⟨v, vm₁, ⟨U', l2, c2, s2⟩, hW₁, X', ⟨g', mk, t, L, e1, e2, hq, h1, hL, h2, h3⟩, st⟩ := vx_callSW X hx (hh := hh) (bytes := bytes) (maxL := maxL) (ret := ret) ho hl hstt hini hcode hy hK hg (hsize.trans hml.symm) (argsL := As) (rest := rest) (fun sig h => hn.trans (hlen sig h)) hstack hW (by rw [hb]; exact hdg)
    (fun vm₁ hW₁ => ⟨hf.1, hf.2, hp.2 (T.setVm vm₁) hT hW₁⟩)
  dsimp only [Pt.U, Pt.locs, Pt.cells, Pt.slots] at X' e1 e2 h1 h2 h3 st
  subst h1; subst h2; subst h3
  exact ⟨v, (T.setVm vm₁).calling g' mk As.toArray, t, U', L, hT, X', hL, e1, e2, hq, st⟩
/-- not caught here, past rows that name other classes: it goes on to the caller -/
theorem vx_outP {p : Program} {l : Launch} {e : Env} {R : Room} {s : State} {m : MethodId} {args : Array Value} {below : List Frame} {meth : Method} {c : Code} {H : Heap} {locs : List Loc} {cells slots : Nat} {free : Addr → Prop} {ls : Array Slot} {rest : List Value} {Qc : Array Value → State → Outcome → State → Prop} {XC : String → State → State → Prop}
    {pc : Nat} {own E : String} {ce : Cell} {q : Addr} {mc ms : Nat} (hown : s.vm.findClass own = some m.cls) (hlocks : meth.locks = false)
    (hpass : ∀ z ∈ c.exceptionTable.toList, covers z pc = false ∨ (z.catchType ≠ 0 ∧ ∃ nm : String, (Cond.classLink own z.catchType nm).before args s = true ∧ va_Nc E nm s)) (hcell : H[q]? = some ce) (hv : ce.vm = .none) (hcl : s.vm.findClass E = some ce.cls)
    (hx : ∀ t : State, t.heap = H → s.vm.Alike t.vm → XC E s t) (hf : ∀ z ∈ locs, free z.base) (hc : cells ≤ mc) (hs : slots ≤ ms) :
    vx_W p l e R s m args below meth c H locs cells slots (vx_MQ below Qc XC args s mc ms free) (F0 m pc ls rest) q := by
  intro T hT X
  have hpl : e.platform.magicAccessors = ({} : Platform).magicAccessors := by rw [X.admits.platform]
  obtain ⟨vm', hW', X', st⟩ := X.outThrough hlocks q (g := F0 m pc ls rest) rfl rfl rfl (cell := ce) (by rw [hT]; exact hcell) (by rw [hv]; rfl)
    (by obtain ⟨k9, h9, -⟩ := Vm.findClass_spec hcl; exact ⟨k9, h9⟩) (fun z hz => by
      rcases hpass z hz with h | ⟨hz0, nm, hl1, hn1⟩
      · exact Or.inl h
      · obtain ⟨c6, hc6, hcl6⟩ := Cond.classLink_spec hown hl1 e.platform hpl
        obtain ⟨a8, b8, h1, h2, h3⟩ := hn1
        cases Option.some.inj (h1.symm.trans hcl)
        cases Option.some.inj (h2.symm.trans hc6)
        exact Or.inr ⟨hz0, _, hcl6, h3⟩)
  obtain ⟨g₀, hfr⟩ := X'.frames_eq
  have hcell9 : ((T.setVm vm').setFrames (.throwing q :: below)).heap[q]? = some ce := by
    show T.heap[q]? = some ce
    rw [hT]; exact hcell
  have hend : Ended ((T.setVm vm').setFrames (.throwing q :: below)) below (.threw q) := State.frames_setFrames _ (State.cur_lt_of_frames hfr)
  refine ⟨(T.setVm vm').setFrames (.throwing q :: below), ?_, .threw q, X'.here.running, hend, Or.inr ⟨q, rfl, E, ce, locs, hx _ hT (X'.ends _).1.alike, hcell9, hv, hcl, (X'.ends _).1, (X'.ends _).2.mono hc hs, hf⟩⟩
  rw [X.pushThrowing_eq]
  exact st
/-- a thing of a world lies in the heap -/
theorem vx_lt {D : va_G} {cl : List vw_C} {ws : va_W} {H1 : Heap} (h : va_P D cl ws H1) {k : Nat} {q : Nat × va_E} (hk : ws[k]? = some q) : q.1 < H1.size := (h k q hk).lt
end VXS
/-! ===== END ===== -/
/-! ===== BEGIN methods with a table of their own: called by a name, returning or throwing ===== -/
section VXH
/-! vx_backW, vx_callVX, vx_callSX, vx_callVW, vx_runVW, vx_runVX, vx_runSX, vx_ofWH follow the same proofs as their sisters above (Free/Laws.lean, Shelf42/LK1.lean); vx_outP calls Shelf42/NT130.lean (outThrough). -/
section
variable {l : Launch} {R : Room} {p : Program} {e : Env} {below : List Frame} {s : State} {sargs : Array Value} {y : MethodName} {len W9 : Nat}
theorem vx_backW {ws : List Cond} {rm : Room} {Pc : Array Value → State → Prop} {Qc : Array Value → State → Outcome → State → Prop} {XC : String → State → State → Prop} {mc ms : Nat} {free : Addr → Prop} {bytes : ByteArray} {maxL : Nat} {ret : Option FieldType} {hh : List (Nat × Nat × Nat × Nat)}
    (hM : vx_Met l y ws rm Pc Qc XC mc ms free) (hblind : FrameBlind Pc) (hrc : rm.cells = mc) (hrs : rm.slots = ms)
    (hframes : rm.frames + 1 ≤ R.frames) (hlocals : W9 + (maxL + 11) + rm.locals ≤ R.locals)
    (hws : ∀ w ∈ ws, ∀ a' U, s.WarmedH U.vm → w.before a' U = true) (hcode : Cond.codeWith y bytes maxL ret hh ∈ ws) (hinit : ∀ a' U, s.WarmedH U.vm → (Cond.initialized y.cls).before a' U = true) :
    vx_Back l R p e below s sargs y len W9 (PreOf R mc ms Pc) (PostOf Qc mc ms free) (vx_Post XC mc ms free) := by
  intro m meth c A g ig mk a X hg hsize hdg hW hn hp
  have h1 : (headSpec ws rm).pre.before a A.U = true := atoms_intro fun w hw => hws w hw _ _ X.warmed
  have h2 : (Cond.codeWith y bytes maxL ret hh).before a A.U = true := hws _ hcode _ _ X.warmed
  have h3 : (Cond.initialized y.cls).before a A.U = true := hinit _ _ X.warmed
  have h4 : A.cells + (headSpec ws rm).room.cells ≤ R.cells := by rw [show (headSpec ws rm).room.cells = mc from hrc]; exact hp.1
  have h5 : A.slots + (headSpec ws rm).room.slots ≤ R.slots := by rw [show (headSpec ws rm).room.slots = ms from hrs]; exact hp.2.1
  have hPc : Pc a (A.U.calling g mk a) := hblind _ _ _ _ hp.2.2
  obtain ⟨U, Ls, c0, s0⟩ := A
  dsimp only [Pt.U, Pt.locs, Pt.cells, Pt.slots] at h1 h2 h3 h4 h5 X hn hPc ⊢
  obtain ⟨m9, methY, cY, hn9, hmY, hcY, -, hlY, -⟩ := Cond.codeWith_spec h2
  cases Option.some.inj (hn9.symm.trans hn)
  obtain ⟨kY, hkY, -⟩ := className_of_methodNamed hn
  have hinitY : kY.init = .initialized := Cond.initialized_spec (findClass_of_methodNamed hn) hkY h3
  have h : At U g.method c below := by rw [hg]; exact X.here
  have hlocals9 : W9 + (maxL + 11) + (headSpec ws rm).room.locals ≤ R.locals := hlocals
  have happ : (headSpec ws rm).appliesLoose y e.platform (U.calling g mk a) = true :=
    Spec.appliesLoose_calling (g := g) h hdg hn hkY hinitY
      (X.room_calling (g := g) (R' := (headSpec ws rm).room) hsize hmY hcY hframes (by rw [hlY]; omega) h4 h5) h1
  obtain ⟨mid, hmid⟩ := h.above
  have hfr : (U.setTop g).frames = (.java g :: mid) ++ below := by rw [State.frames_setTop' g h.top, hmid]; rfl
  obtain ⟨o, s₂, hsteps, -, hend, hq⟩ := Steps.callFree hM p X.admits X.cas X.clock (acts := []) hfr happ hPc trivial
  have hq' : vx_Q Qc XC mc ms free a (U.calling g mk a) o s₂ := hq
  rw [State.frames_setTop' g h.top] at hend
  obtain ⟨g₀, hg0⟩ := Option.isSome_iff_exists.mp h.top
  obtain ⟨r, hr⟩ := State.topJava?_eq_some.mp hg0
  have hr' : (({ U with heap := s₂.heap, slotsUsed := s₂.slotsUsed } : State).setVm s₂.vm).frames = .java g₀ :: r := hr
  rcases hq' with ⟨hqc, L, hfe, hL⟩ | ⟨q, rfl, E, ce, L, hx, hce, hcv, hcl, hW₂, hsm, hL⟩
  · obtain ⟨⟨v, rfl⟩, hW₂, e2, q2, q3, q4, q5, q6⟩ := id hfe
    have e3 : s₂ = ({ (U.calling g mk a).setFrames s₂.frames with heap := s₂.heap, slotsUsed := s₂.slotsUsed } : State).setVm s₂.vm := by
      have : s₂ = ({ s₂ with vm := (U.calling g mk a).vm } : State).setVm s₂.vm := rfl
      rw [e2] at this
      exact this
    obtain ⟨c₂, i₂, len₂, hc₂, hd₂, hf₂⟩ := hend
    have hW' : U.WarmedH s₂.vm := hW₂
    have hcc : c₂ = c := by
      have h1 : s₂.code? g.method = U.code? g.method := by
        rw [State.code?_eq, State.code?_eq, hW'.alike.method?]
      exact Option.some.inj (hc₂.symm.trans (h1.trans h.code))
    subst hcc
    have hlen : len₂ = len := by rw [hdg] at hd₂; cases hd₂; rfl
    subst hlen
    have hs₂ : s₂ = (({ U with heap := s₂.heap, slotsUsed := s₂.slotsUsed } : State).setVm s₂.vm).setTop { g with pc := g.pc + len₂, stack := v.toList ++ g.stack } := by
      refine e3.trans ?_
      rw [hf₂, State.calling_eq h.top, State.setFrames_setFrames, State.setTop_of_frames _ hr', hr]
      rfl
    have hsame : U.sameButNew ({ U with heap := s₂.heap, slotsUsed := s₂.slotsUsed } : State) L mc ms := by
      refine ⟨?_, q2, q3, q4, q5, q6⟩
      obtain ⟨t, ht, -⟩ := State.frames_cons hr
      show ({ U with heap := s₂.heap, slotsUsed := s₂.slotsUsed } : State) = { U.setFrames U.frames with heap := s₂.heap, slotsUsed := s₂.slotsUsed }
      rw [State.setFrames_self ht]
    subst hg
    refine Or.inl ⟨v, ⟨(({ U with heap := s₂.heap, slotsUsed := s₂.slotsUsed } : State).setVm s₂.vm), Ls ++ L, c0 + mc, s0 + ms⟩,
      ⟨X.admits, X.cas, X.clock, X.frames, X.room, X.hears, X.method, X.code, (X.here.setHeapUsed s₂.heap s₂.slotsUsed).setVm hW'.alike, X.tail, State.WarmedH.trans X.warmed hW', X.limits, X.bytes, X.same.trans (hsame.setVm s.vm)⟩,
      ⟨g, mk, s₂, L, rfl, rfl, hqc, rfl, hL, rfl, rfl⟩, ?_⟩
    show Steps p.tables e below _ ((({ U with heap := s₂.heap, slotsUsed := s₂.slotsUsed } : State).setVm s₂.vm).setTop { g with pc := g.pc + len₂, stack := v.toList ++ g.stack })
    rw [← hs₂]
    exact hsteps
  · obtain ⟨e2, q2, q3, q4, q5, q6⟩ := id hsm
    have e3 : s₂ = ({ (U.calling g mk a).setFrames s₂.frames with heap := s₂.heap, slotsUsed := s₂.slotsUsed } : State).setVm s₂.vm := by
      have : s₂ = ({ s₂ with vm := (U.calling g mk a).vm } : State).setVm s₂.vm := rfl
      rw [e2] at this
      exact this
    have hf₂ : s₂.frames = .throwing q :: .java g :: U.frames.tail := hend
    have hW' : U.WarmedH s₂.vm := hW₂
    have hs₂ : s₂ = ((({ U with heap := s₂.heap, slotsUsed := s₂.slotsUsed } : State).setVm s₂.vm).setTop g).pushFrame (.throwing q) := by
      refine e3.trans ?_
      rw [hf₂, State.calling_eq h.top, State.setFrames_setFrames, State.pushFrame, State.frames_setTop _ hr', State.setTop_of_frames _ hr', State.setFrames_setFrames, hr]
      rfl
    have hsame : U.sameButNew ({ U with heap := s₂.heap, slotsUsed := s₂.slotsUsed } : State) L mc ms := by
      refine ⟨?_, q2, q3, q4, q5, q6⟩
      obtain ⟨t, ht, -⟩ := State.frames_cons hr
      show ({ U with heap := s₂.heap, slotsUsed := s₂.slotsUsed } : State) = { U.setFrames U.frames with heap := s₂.heap, slotsUsed := s₂.slotsUsed }
      rw [State.setFrames_self ht]
    subst hg
    refine Or.inr ⟨q, ⟨(({ U with heap := s₂.heap, slotsUsed := s₂.slotsUsed } : State).setVm s₂.vm), Ls ++ L, c0 + mc, s0 + ms⟩,
      ⟨X.admits, X.cas, X.clock, X.frames, X.room, X.hears, X.method, X.code, (X.here.setHeapUsed s₂.heap s₂.slotsUsed).setVm hW'.alike, X.tail, State.WarmedH.trans X.warmed hW', X.limits, X.bytes, X.same.trans (hsame.setVm s.vm)⟩,
      ⟨g, mk, s₂, L, E, ce, rfl, rfl, hx, hce, hcv, hcl, rfl, hL, rfl, rfl⟩, ?_⟩
    show Steps p.tables e below _ (((({ U with heap := s₂.heap, slotsUsed := s₂.slotsUsed } : State).setVm s₂.vm).setTop g).pushFrame (.throwing q))
    rw [← hs₂]
    exact hsteps
end
variable {p : Program} {l : Launch} {e : Env} {R : Room} {s : State} {m : MethodId} {args : Array Value} {below : List Frame} {meth : Method} {c : Code} {T : State} {H : Heap} {locs : List Loc} {cells slots : Nat}
theorem vx_callVX (X : Stand p l e R s m args below meth c T locs cells slots) (hexec : p.tables.exec = Jvm.exec) {own C : String} {index : Nat} {y : MethodName} {bytes : ByteArray} {maxL : Nat} {ret : Option FieldType} {hh : List (Nat × Nat × Nat × Nat)}
    (hown : s.vm.findClass own = some m.cls) (hlink : (Cond.methodLink own index y).before args s = true) (hinst : (Cond.instanceMethod y).before args s = true) (hsel : (Cond.selects C y y).before args s = true)
    (hcode : (Cond.codeWith y bytes maxL ret hh).before args s = true) (hy : y.cls ≠ "java/lang/invoke/MethodHandle" ∧ y.cls ≠ "java/lang/invoke/VarHandle")
    {W9 : Nat} {Pre : Pt → Array Value → Prop} {Post : Pt → Array Value → Option Value → Pt → Prop} {PostX : Pt → Array Value → Addr → Pt → Prop} (hK : vx_Back l R p e below s args y 3 W9 Pre Post PostX)
    {b : Addr} {cellB : Cell} (hcell : T.heap[b]? = some cellB) (hobj : cellB.vm.isStatics = false) (hcls : s.vm.findClass C = some cellB.cls)
    {g : JFrame} (hg : g.method = m) (hsize : g.locals.size = c.maxLocals) {argsL rest : List Value} (hlen : ∀ sig, parseMethodDescriptor y.desc = some sig → argsL.length = sig.parameters.length)
    (hstack : g.stack = argsL.reverse ++ .ref b :: rest) (hW : 2 * g.monitorRoom + (rest.map fun v => v.category).sum ≤ W9) (hdg : decode c.code g.pc = .ok (.invokevirtual index, 3))
    (hpre : ∀ vm₁, s.WarmedH vm₁ → Pre ⟨T.setVm vm₁, locs, cells, slots⟩ (Value.ref b :: argsL).toArray) :
    (∃ (v : Option Value) (vm₁ : Vm) (B : Pt), s.WarmedH vm₁ ∧ Stand p l e R s m args below meth c B.U B.locs B.cells B.slots ∧ Post ⟨T.setVm vm₁, locs, cells, slots⟩ (Value.ref b :: argsL).toArray v B ∧
      ∀ target, Steps p.tables e below (B.U.setTop { g with pc := g.pc + 3, stack := v.toList ++ rest }) target → Steps p.tables e below (T.setTop g) target) ∨
    (∃ (q : Addr) (vm₁ : Vm) (B : Pt), s.WarmedH vm₁ ∧ Stand p l e R s m args below meth c B.U B.locs B.cells B.slots ∧ PostX ⟨T.setVm vm₁, locs, cells, slots⟩ (Value.ref b :: argsL).toArray q B ∧
      Steps p.tables e below (T.setTop g) ((B.U.setTop { g with stack := rest }).pushFrame (.throwing q))) := by
  obtain ⟨mk, methM, hnamed, hmethM, hstM, habM⟩ := Cond.instanceMethod_spec hinst
  obtain ⟨m8, methM', cM, hn8, hmethM', -, -, -, -, -, -, hsigM⟩ := Cond.codeWith_spec hcode
  cases Option.some.inj (hn8.symm.trans hnamed)
  cases hmethM.symm.trans hmethM'
  obtain ⟨c2, r2, m2, q1, q2, q3, q4, kP, hkP, hkPi⟩ := Cond.selects_spec hsel
  cases hcls.symm.trans q1
  cases (State.methodFound?_of_named hnamed hy).symm.trans q2
  cases hnamed.symm.trans q3
  have hselP : selectMethod e.platform s.vm cellB.cls mk = .method mk := by rw [Launch.admits_selectMethod X.admits]; exact q4
  obtain ⟨vm₁, X₁, hstep₁⟩ := X.invokevirtual hexec hown hlink hnamed hmethM hstM hkP hkPi hy (a := b) (cell := cellB) hcell
    (fun z h => by rw [h] at hobj; cases hobj) hselP hmethM habM hkP hkPi (g := g) hg (argsL := argsL) (rest := rest) (hlen _ hsigM) hstack hdg
  rcases hK m meth c ⟨T.setVm vm₁, locs, cells, slots⟩ { g with stack := rest } (.invokevirtual index) mk (Value.ref b :: argsL).toArray X₁ hg hsize hdg hW (X₁.named hnamed) (hpre vm₁ X₁.warmed) with ⟨v, B, X', hpost, hsteps⟩ | ⟨q, B, X', hpost, hsteps⟩
  · exact Or.inl ⟨v, vm₁, B, X₁.warmed, X', hpost, fun target h => hstep₁ _ fun acts => by rw [doInvoke_state]; exact hsteps.trans h⟩
  · exact Or.inr ⟨q, vm₁, B, X₁.warmed, X', hpost, hstep₁ _ fun acts => by rw [doInvoke_state]; exact hsteps⟩
theorem vx_callSX (X : Stand p l e R s m args below meth c T locs cells slots) (hexec : p.tables.exec = Jvm.exec) {own : String} {index : Nat} {y : MethodName} {bytes : ByteArray} {maxL : Nat} {ret : Option FieldType} {hh : List (Nat × Nat × Nat × Nat)}
    (hown : s.vm.findClass own = some m.cls) (hlink : (Cond.methodLink own index y).before args s = true) (hstat : (Cond.static y).before args s = true) (hinit : (Cond.initialized y.cls).before args s = true)
    (hcode : (Cond.codeWith y bytes maxL ret hh).before args s = true) (hy : y.cls ≠ "java/lang/invoke/MethodHandle" ∧ y.cls ≠ "java/lang/invoke/VarHandle")
    {W9 : Nat} {Pre : Pt → Array Value → Prop} {Post : Pt → Array Value → Option Value → Pt → Prop} {PostX : Pt → Array Value → Addr → Pt → Prop} (hK : vx_Back l R p e below s args y 3 W9 Pre Post PostX)
    {g : JFrame} (hg : g.method = m) (hsize : g.locals.size = c.maxLocals) {argsL rest : List Value} (hlen : ∀ sig, parseMethodDescriptor y.desc = some sig → argsL.length = sig.parameters.length)
    (hstack : g.stack = argsL.reverse ++ rest) (hW : 2 * g.monitorRoom + (rest.map fun v => v.category).sum ≤ W9) (hdg : decode c.code g.pc = .ok (.invokestatic index, 3))
    (hpre : ∀ vm₁, s.WarmedH vm₁ → Pre ⟨T.setVm vm₁, locs, cells, slots⟩ argsL.toArray) :
    (∃ (v : Option Value) (vm₁ : Vm) (B : Pt), s.WarmedH vm₁ ∧ Stand p l e R s m args below meth c B.U B.locs B.cells B.slots ∧ Post ⟨T.setVm vm₁, locs, cells, slots⟩ argsL.toArray v B ∧
      ∀ target, Steps p.tables e below (B.U.setTop { g with pc := g.pc + 3, stack := v.toList ++ rest }) target → Steps p.tables e below (T.setTop g) target) ∨
    (∃ (q : Addr) (vm₁ : Vm) (B : Pt), s.WarmedH vm₁ ∧ Stand p l e R s m args below meth c B.U B.locs B.cells B.slots ∧ PostX ⟨T.setVm vm₁, locs, cells, slots⟩ argsL.toArray q B ∧
      Steps p.tables e below (T.setTop g) ((B.U.setTop { g with stack := rest }).pushFrame (.throwing q))) := by
  obtain ⟨mk, methM, cM, hnamed, hmethM, -, -, -, -, -, -, hsigM⟩ := Cond.codeWith_spec hcode
  have hstatic : methM.isStatic = true := Cond.static_spec hnamed hmethM hstat
  obtain ⟨kP, hkP, -⟩ := className_of_methodNamed hnamed
  have hinitP : kP.init = .initialized := Cond.initialized_spec (findClass_of_methodNamed hnamed) hkP hinit
  obtain ⟨vm₁, X₁, hstep₁⟩ := X.invokestatic hexec hown hlink hnamed hmethM hstatic hkP hinitP hy (g := g) hg (argsL := argsL) (rest := rest) (hlen _ hsigM) hstack hdg
  rcases hK m meth c ⟨T.setVm vm₁, locs, cells, slots⟩ { g with stack := rest } (.invokestatic index) mk argsL.toArray X₁ hg hsize hdg hW (X₁.named hnamed) (hpre vm₁ X₁.warmed) with ⟨v, B, X', hpost, hsteps⟩ | ⟨q, B, X', hpost, hsteps⟩
  · exact Or.inl ⟨v, vm₁, B, X₁.warmed, X', hpost, fun target h => hstep₁ _ fun acts => by rw [doInvoke_state]; exact hsteps.trans h⟩
  · exact Or.inr ⟨q, vm₁, B, X₁.warmed, X', hpost, hstep₁ _ fun acts => by rw [doInvoke_state]; exact hsteps⟩
theorem vx_callVW (X : Stand p l e R s m args below meth c T locs cells slots) (hexec : p.tables.exec = Jvm.exec) {own C : String} {index : Nat} {y : MethodName} {bytes : ByteArray} {maxL : Nat} {ret : Option FieldType} {hh : List (Nat × Nat × Nat × Nat)}
    (hown : s.vm.findClass own = some m.cls) (hlink : (Cond.methodLink own index y).before args s = true) (hinst : (Cond.instanceMethod y).before args s = true) (hsel : (Cond.selects C y y).before args s = true)
    (hcode : (Cond.codeWith y bytes maxL ret hh).before args s = true) (hy : y.cls ≠ "java/lang/invoke/MethodHandle" ∧ y.cls ≠ "java/lang/invoke/VarHandle")
    {W9 : Nat} {Pre : Pt → Array Value → Prop} {Post : Pt → Array Value → Option Value → Pt → Prop} (hK : Back l R p e below s args y 3 W9 Pre Post)
    {b : Addr} {cellB : Cell} (hcell : T.heap[b]? = some cellB) (hobj : cellB.vm.isStatics = false) (hcls : s.vm.findClass C = some cellB.cls)
    {g : JFrame} (hg : g.method = m) (hsize : g.locals.size = c.maxLocals) {argsL rest : List Value} (hlen : ∀ sig, parseMethodDescriptor y.desc = some sig → argsL.length = sig.parameters.length)
    (hstack : g.stack = argsL.reverse ++ .ref b :: rest) (hW : 2 * g.monitorRoom + (rest.map fun v => v.category).sum ≤ W9) (hdg : decode c.code g.pc = .ok (.invokevirtual index, 3))
    (hpre : ∀ vm₁, s.WarmedH vm₁ → Pre ⟨T.setVm vm₁, locs, cells, slots⟩ (Value.ref b :: argsL).toArray) :
    ∃ (v : Option Value) (vm₁ : Vm) (B : Pt), s.WarmedH vm₁ ∧ Stand p l e R s m args below meth c B.U B.locs B.cells B.slots ∧ Post ⟨T.setVm vm₁, locs, cells, slots⟩ (Value.ref b :: argsL).toArray v B ∧
      ∀ target, Steps p.tables e below (B.U.setTop { g with pc := g.pc + 3, stack := v.toList ++ rest }) target → Steps p.tables e below (T.setTop g) target := by
  obtain ⟨mk, methM, hnamed, hmethM, hstM, habM⟩ := Cond.instanceMethod_spec hinst
  obtain ⟨m8, methM', cM, hn8, hmethM', -, -, -, -, -, -, hsigM⟩ := Cond.codeWith_spec hcode
  cases Option.some.inj (hn8.symm.trans hnamed)
  cases hmethM.symm.trans hmethM'
  obtain ⟨c2, r2, m2, q1, q2, q3, q4, kP, hkP, hkPi⟩ := Cond.selects_spec hsel
  cases hcls.symm.trans q1
  cases (State.methodFound?_of_named hnamed hy).symm.trans q2
  cases hnamed.symm.trans q3
  have hselP : selectMethod e.platform s.vm cellB.cls mk = .method mk := by rw [Launch.admits_selectMethod X.admits]; exact q4
  obtain ⟨vm₁, X₁, hstep₁⟩ := X.invokevirtual hexec hown hlink hnamed hmethM hstM hkP hkPi hy (a := b) (cell := cellB) hcell
    (fun z h => by rw [h] at hobj; cases hobj) hselP hmethM habM hkP hkPi (g := g) hg (argsL := argsL) (rest := rest) (hlen _ hsigM) hstack hdg
  obtain ⟨v, B, X', hpost, hsteps⟩ := hK m meth c ⟨T.setVm vm₁, locs, cells, slots⟩ { g with stack := rest } (.invokevirtual index) mk (Value.ref b :: argsL).toArray X₁ hg hsize hdg hW (X₁.named hnamed) (hpre vm₁ X₁.warmed)
  exact ⟨v, vm₁, B, X₁.warmed, X', hpost, fun target h => hstep₁ _ fun acts => by rw [doInvoke_state]; exact hsteps.trans h⟩
abbrev vx_CVW (R : Room) (s : State) (args : Array Value) (own C : String) (index : Nat) (y : MethodName) (bytes : ByteArray) (maxL : Nat) (ret : Option FieldType) (hh : List (Nat × Nat × Nat × Nat)) (ws : List Cond) (rm : Room) (mc ms n : Nat) : Prop :=
  (rm.cells = mc ∧ rm.slots = ms ∧ rm.frames + 1 ≤ R.frames ∧ 8 + (maxL + 11) + rm.locals ≤ R.locals ∧ (∀ w ∈ ws, ∀ (a' : Array Value) (U : State), s.WarmedH U.vm → w.before a' U = true) ∧ Cond.codeWith y bytes maxL ret hh ∈ ws) ∧
  (Cond.codeWith y bytes maxL ret hh).before args s = true ∧ (Cond.initialized y.cls).before args s = true ∧ (y.cls ≠ "java/lang/invoke/MethodHandle" ∧ y.cls ≠ "java/lang/invoke/VarHandle") ∧
  (∀ sig, parseMethodDescriptor y.desc = some sig → n = sig.parameters.length) ∧ (Cond.methodLink own index y).before args s = true ∧ (Cond.instanceMethod y).before args s = true ∧ (Cond.selects C y y).before args s = true
theorem vx_cwVW {own C : String} {index maxL mc ms : Nat} {y : MethodName} {bytes : ByteArray} {ret : Option FieldType} {hh : List (Nat × Nat × Nat × Nat)} {Ts ws ws' : List Cond} {rm : Room} (n : Nat) (ht : ∀ w ∈ Ts, w.before args s = true) (hT : GoodIn Ts (wsV own index C y ws)) (hw : ws = Cond.codeWith y bytes maxL ret hh :: ws') (hrc : rm.cells = mc) (hrs : rm.slots = ms)
    (hd : y.cls = C ∧ y.cls ≠ "java/lang/invoke/MethodHandle" ∧ y.cls ≠ "java/lang/invoke/VarHandle" ∧ (parseMethodDescriptor y.desc).map (fun d => d.parameters.length) = some n) (hR : rm.frames + 1 ≤ R.frames ∧ 8 + (maxL + 11) + rm.locals ≤ R.locals) :
    vx_CVW R s args own C index y bytes maxL ret hh ws rm mc ms n := by
  obtain ⟨hC, hd⟩ := hd
  subst hC
  have ok : ∀ w ∈ wsV own index y.cls y ws, w.before args s = true := fun w h => ht w (hT w h).1
  have hG : GoodIn Ts ws := fun w h => hT w (by unfold wsV; exact List.mem_append_right _ h)
  have hc : Cond.codeWith y bytes maxL ret hh ∈ ws := by rw [hw]; exact List.mem_cons_self
  refine ⟨⟨hrc, hrs, hR.1, hR.2, pay_in ht hG, hc⟩, ht _ (hG _ hc).1, ok _ (by simp [wsV]), ⟨hd.1, hd.2.1⟩, fun sig h => ?_, ok _ (by simp [wsV]), ok _ (by simp [wsV]), ok _ (by simp [wsV])⟩
  have h2 := hd.2.2
  rw [h] at h2
  exact (Option.some.inj h2).symm
theorem vx_runVW {y : MethodName} {bytes cc : ByteArray} {maxL nL mc ms n index : Nat} {ret : Option FieldType} {hh : List (Nat × Nat × Nat × Nat)} {ws : List Cond} {rm : Room} {Pc : Array Value → State → Prop} {Qc : Array Value → State → Outcome → State → Prop} {free : Addr → Prop} {Ts : List Cond} {own C : String} {b : Addr} {As rest : List Value} {g : JFrame}
    (S : CallFix p m c cc nL s args Ts own) (hM : Met l y ws rm Pc Qc mc ms free) (cw : vx_CVW R s args own C index y bytes maxL ret hh ws rm mc ms n) (hp : PreV s H C b Pc As)
    (hg : g.method = m) (hn : As.length = n) (hsize : g.locals.size = nL) (hstack : g.stack = As.reverse ++ .ref b :: rest) (hW : 2 * g.monitorRoom + (rest.map fun v => v.category).sum ≤ 8) (hdg : decode cc g.pc = .ok (.invokevirtual index, 3)) (hf : cells + mc ≤ R.cells ∧ slots + ms ≤ R.slots) :
    va_Run p l e R s m args below meth c H locs cells slots mc ms g rest (Qc (Value.ref b :: As).toArray) free := by
  obtain ⟨⟨hrc, hrs, hfr, hlo, hws, hcw⟩, hcode, hini, hy, hlen, hl, hin, hse⟩ := cw
  have hK : Back l R p e below s args y 3 8 (PreOf R mc ms Pc) (PostOf Qc mc ms free) := va_backW (hh := hh) (bytes := bytes) (maxL := maxL) (ret := ret) hM hp.1 hrc hrs hfr hlo hws hcw (fun a' U hW => word_at hW (Or.inl (by first | rfl | simp [Cond.onTables, Cond.keeps, Cond.steady])) hini)
  obtain ⟨hx, hb, hml, ho, -⟩ := S
  obtain ⟨-, ⟨cellB, hcB, hoB, hclB⟩, hPc⟩ := hp
  intro T hT X
  obtain ⟨v, vm₁, ⟨U', l2, c2, s2⟩, hW₁, X', ⟨g', mk, t, L, e1, e2, hq, h1, hL, h2, h3⟩, st⟩ := vx_callVW X hx (C := C) (hh := hh) (bytes := bytes) (maxL := maxL) (ret := ret) ho hl hin hse hcode hy hK (by rw [hT]; exact hcB) hoB hclB hg (hsize.trans hml.symm) (argsL := As) (rest := rest) (fun sig h => hn.trans (hlen sig h)) hstack hW (by rw [hb]; exact hdg)
    (fun vm₁ hW₁ => ⟨hf.1, hf.2, hPc (T.setVm vm₁) hT hW₁⟩)
  dsimp only [Pt.U, Pt.locs, Pt.cells, Pt.slots] at X' e1 e2 h1 h2 h3 st
  subst h1; subst h2; subst h3
  exact ⟨v, (T.setVm vm₁).calling g' mk (Value.ref b :: As).toArray, t, U', L, hT, X', hL, e1, e2, hq, st⟩
section
variable {y : MethodName} {bytes cc : ByteArray} {maxL nL mc ms n index : Nat} {ret : Option FieldType} {ws : List Cond} {rm : Room} {Pc : Array Value → State → Prop} {Qc : Array Value → State → Outcome → State → Prop} {XC : String → State → State → Prop} {free : Addr → Prop} {Ts : List Cond} {own C : String} {b : Addr} {As rest : List Value} {g : JFrame}
theorem vx_runVX {hh : List (Nat × Nat × Nat × Nat)} (S : CallFix p m c cc nL s args Ts own) (hM : vx_Met l y ws rm Pc Qc XC mc ms free) (cw : vx_CVW R s args own C index y bytes maxL ret hh ws rm mc ms n) (hp : PreV s H C b Pc As)
    (hg : g.method = m) (hn : As.length = n) (hsize : g.locals.size = nL) (hstack : g.stack = As.reverse ++ .ref b :: rest) (hW : 2 * g.monitorRoom + (rest.map fun v => v.category).sum ≤ 8) (hdg : decode cc g.pc = .ok (.invokevirtual index, 3)) (hf : cells + mc ≤ R.cells ∧ slots + ms ≤ R.slots) :
    vx_Run p l e R s m args below meth c H locs cells slots mc ms g rest (Qc (Value.ref b :: As).toArray) XC free := by
  obtain ⟨⟨hrc, hrs, hfr, hlo, hws, hcw⟩, hcode, hini, hy, hlen, hl, hin, hse⟩ := cw
  have hK : vx_Back l R p e below s args y 3 8 (PreOf R mc ms Pc) (PostOf Qc mc ms free) (vx_Post XC mc ms free) := vx_backW (hh := hh) (bytes := bytes) (maxL := maxL) (ret := ret) hM hp.1 hrc hrs hfr hlo hws hcw (fun a' U hW => word_at hW (Or.inl (by first | rfl | simp [Cond.onTables, Cond.keeps, Cond.steady])) hini)
  obtain ⟨hx, hb, hml, ho, -⟩ := S
  obtain ⟨-, ⟨cellB, hcB, hoB, hclB⟩, hPc⟩ := hp
  intro T hT X
  rcases vx_callVX X hx (C := C) (hh := hh) (bytes := bytes) (maxL := maxL) (ret := ret) ho hl hin hse hcode hy hK (by rw [hT]; exact hcB) hoB hclB hg (hsize.trans hml.symm) (argsL := As) (rest := rest) (fun sig h => hn.trans (hlen sig h)) hstack hW (by rw [hb]; exact hdg)
    (fun vm₁ hW₁ => ⟨hf.1, hf.2, hPc (T.setVm vm₁) hT hW₁⟩) with ⟨v, vm₁, ⟨U', l2, c2, s2⟩, hW₁, X', ⟨g', mk, t, L, e1, e2, hq, h1, hL, h2, h3⟩, st⟩ | ⟨q, vm₁, ⟨U', l2, c2, s2⟩, hW₁, X', ⟨g', mk, t, L, E, ce, e1, e2, hq, hce, hcv, hcl, h1, hL, h2, h3⟩, st⟩
  · dsimp only [Pt.U, Pt.locs, Pt.cells, Pt.slots] at X' e1 e2 h1 h2 h3 st
    subst h1; subst h2; subst h3
    exact Or.inl ⟨v, (T.setVm vm₁).calling g' mk (Value.ref b :: As).toArray, t, U', L, hT, X', hL, e1, e2, hq, st⟩
  · dsimp only [Pt.U, Pt.locs, Pt.cells, Pt.slots] at X' e1 e2 h1 h2 h3 st hcl
    subst h1; subst h2; subst h3
    exact Or.inr ⟨q, (T.setVm vm₁).calling g' mk (Value.ref b :: As).toArray, t, U', L, E, ce, hT, X', hL, e1, e2, hq, hce, hcv, vx_cls hW₁ hcl, st⟩
theorem vx_runSX {hh : List (Nat × Nat × Nat × Nat)} (S : CallFix p m c cc nL s args Ts own) (hM : vx_Met l y ws rm Pc Qc XC mc ms free) (cw : vx_CSW R s args own index y bytes maxL ret hh ws rm mc ms n) (hp : PreS s H Pc As)
    (hg : g.method = m) (hn : As.length = n) (hsize : g.locals.size = nL) (hstack : g.stack = As.reverse ++ rest) (hW : 2 * g.monitorRoom + (rest.map fun v => v.category).sum ≤ 8) (hdg : decode cc g.pc = .ok (.invokestatic index, 3)) (hf : cells + mc ≤ R.cells ∧ slots + ms ≤ R.slots) :
    vx_Run p l e R s m args below meth c H locs cells slots mc ms g rest (Qc As.toArray) XC free := by
  obtain ⟨⟨hrc, hrs, hfr, hlo, hws, hcw⟩, hcode, hini, hy, hlen, hl, hstt⟩ := cw
  have hK : vx_Back l R p e below s args y 3 8 (PreOf R mc ms Pc) (PostOf Qc mc ms free) (vx_Post XC mc ms free) := vx_backW (hh := hh) (bytes := bytes) (maxL := maxL) (ret := ret) hM hp.1 hrc hrs hfr hlo hws hcw (fun a' U hW => word_at hW (Or.inl (by first | rfl | simp [Cond.onTables, Cond.keeps, Cond.steady])) hini)
  obtain ⟨hx, hb, hml, ho, -⟩ := S
  intro T hT X
  rcases vx_callSX X hx (hh := hh) (bytes := bytes) (maxL := maxL) (ret := ret) ho hl hstt hini hcode hy hK hg (hsize.trans hml.symm) (argsL := As) (rest := rest) (fun sig h => hn.trans (hlen sig h)) hstack hW (by rw [hb]; exact hdg)
    (fun vm₁ hW₁ => ⟨hf.1, hf.2, hp.2 (T.setVm vm₁) hT hW₁⟩) with ⟨v, vm₁, ⟨U', l2, c2, s2⟩, hW₁, X', ⟨g', mk, t, L, e1, e2, hq, h1, hL, h2, h3⟩, st⟩ | ⟨q, vm₁, ⟨U', l2, c2, s2⟩, hW₁, X', ⟨g', mk, t, L, E, ce, e1, e2, hq, hce, hcv, hcl, h1, hL, h2, h3⟩, st⟩
  · dsimp only [Pt.U, Pt.locs, Pt.cells, Pt.slots] at X' e1 e2 h1 h2 h3 st
    subst h1; subst h2; subst h3
    exact Or.inl ⟨v, (T.setVm vm₁).calling g' mk As.toArray, t, U', L, hT, X', hL, e1, e2, hq, st⟩
  · dsimp only [Pt.U, Pt.locs, Pt.cells, Pt.slots] at X' e1 e2 h1 h2 h3 st hcl
    subst h1; subst h2; subst h3
    exact Or.inr ⟨q, (T.setVm vm₁).calling g' mk As.toArray, t, U', L, E, ce, hT, X', hL, e1, e2, hq, hce, hcv, vx_cls hW₁ hcl, st⟩
end
end VXH
theorem vx_ofWH {l : Launch} {y : MethodName} {ws ws' : List Cond} {rm : Room} {Pc : Array Value → State → Prop} {Qc : Array Value → State → Outcome → State → Prop} {XC : String → State → State → Prop} {mc ms : Nat} {free : Addr → Prop} {cc : ByteArray} {maxL : Nat} {ret : Option FieldType} {hh : List (Nat × Nat × Nat × Nat)}
    (hy : plainName y.cls = true) (hw : ws = Cond.codeWith y cc maxL ret hh :: ws')
    (body : ∀ p e s m args below meth c s₁, BodyLoose p l y (headSpec ws rm) cc maxL ret e s m args below meth c s₁ → c.maxLocals = maxL → Pc args s →
      W p l e (headSpec ws rm).room s m args below meth c s.heap [] 0 0 (vx_MQ below Qc XC args s mc ms free) (entryFrame m args maxL)) : vx_Met l y ws rm Pc Qc XC mc ms free := by
  refine MetFree.of_bodyS (code := cc) (maxLocals := maxL) (ret := ret) hy ?_ ?_
  · intro args s m h hn
    obtain ⟨m9, meth, c, hn9, h1, h2, h3, h4, -, h5, h6, -⟩ := Cond.codeWith_spec (atoms_spec (ws := ws) h _ (by rw [hw]; exact List.mem_cons_self))
    cases hn.symm.trans hn9
    exact ⟨meth, c, h1, h2, h3, h4, h5, h6⟩
  · intro p e s m args below meth c s₁ B hml hP _
    have hh0 : s₁.heap = s.heap := by rw [B.state]; rfl
    obtain ⟨t, a1, o, b1, b2, b3⟩ := body p e s m args below meth c s₁ B hml hP s₁ hh0 (Stand.of_body B)
    exact ⟨t, o, a1, b1, b2, b3⟩
/-! ===== END ===== -/
/-! ===== BEGIN what the machine throws by itself, no traces kept ===== -/
section VXM
set_option maxHeartbeats 1000000 in
/-- the machine throws cls with the message text, no traces kept: from its note over the frame g to 'throwing' over the same frame (follows the proofs of Stand.vmThrowsMessage, Shelf/KitTracedVmS.lean, and Stand.throwsMessageColdBareV, StandMessageColdV.lean, without the step out of the frame) -/
theorem vx_vmAt {p : Program} {l : Launch} {e : Env} {R : Room} {s : State} {m₀ : MethodId} {args : Array Value} {below : List Frame} {meth : Method} {c : Code} {W : State} {locs : List Loc} {cells slots : Nat}
    (X : Stand p l e R s m₀ args below meth c W locs cells slots) (hexec : p.tables.exec = Jvm.exec) (htr : e.platform.stackTraces = false) {cls : String} {names : List String} {text : String}
    (hcls : Bundle.fit cls = true) (hnames : ∀ n ∈ names, Bundle.fit n = true) (hsoe : (cls == "java/lang/StackOverflowError") = false) (hoom : (cls == "java/lang/OutOfMemoryError") = false)
    (h : ∀ a ∈ Bundle.messageArmAtoms cls names, a.before args s = true)
    (hlocs : ∀ x ∈ locs, ∀ cell, s.heap[x.base]? = some cell → cell.vm.isStatics = false)
    (htext : (text == notModelled) = false) (hlimit : ¬ (stringBytes (stringToUtf16 text)).size > e.platform.arrayLengthLimit) (hheap : ¬ (stringBytes (stringToUtf16 text)).size * componentBytes .byte > e.platform.maxHeapBytes)
    {g : JFrame} (hg : g.method = m₀) (hsize : g.locals.size = c.maxLocals)
    (hRframes : names.length + 4 < R.frames) (hRlocals : 2 * g.monitorRoom + (g.stack.map fun v => v.category).sum + 10240 ≤ R.locals) (hshort : 13 * names.length + 55 ≤ 10240)
    (hRcells : cells + 3 ≤ R.cells) (hRslots : slots + ((stringBytes (stringToUtf16 text)).size + 4 + 6) ≤ R.slots) (hlocks : meth.locks = false) :
    ∃ (S : State) (q : Addr) (ce : Cell), (∀ target, Steps p.tables e below ((S.setTop g).pushFrame (.throwing q)) target → Steps p.tables e below ((W.setTop g).pushFrame (.throwNew cls (some text) none)) target) ∧
      Stand p l e R s m₀ args below meth c S locs (cells + 3) (slots + ((stringBytes (stringToUtf16 text)).size + 4 + 6)) ∧ S.heap[q]? = some ce ∧ s.vm.findClass cls = some ce.cls ∧ ce.vm = .none := by
  have howns : e.platform.frameOwnsMonitors = true := by rw [X.admits.platform]
  have hfin : e.platform.finalization = false := by rw [X.admits.platform]
  have hpl : e.platform.magicAccessors = ({} : Platform).magicAccessors := by rw [X.admits.platform]
  have a : ∀ x, x ∈ Bundle.messageArmAtoms cls names → x.holds args s none s [] = true := fun x hx => h x hx
  obtain ⟨T, Z0, L, -, Y⟩ := ThrowableC.of_atoms (args := args) howns hfin hpl (fun x hx => h x (by simp [Bundle.messageArmAtoms, hx]))
  obtain ⟨Z, M, LZ, LM, hnZ⟩ := Init0T.ofS_atoms (args := args) hpl L Y (fun x hx => h x (by simp [Bundle.messageArmAtoms, hx]))
  obtain ⟨P1, Ps, hlen, L1, hL, hP1m, hlink1, hlink⟩ := Bundle.chainS (args := args) hpl hnZ names cls hcls hnames (fun x hx => h x (by simp [Bundle.messageArmAtoms, hx]))
  obtain ⟨Zs, LZs, hn4, hfitv, hfitc⟩ := StringT.of_atoms (args := args) (fun x hx => h x (by simp [Bundle.messageArmAtoms, hx]))
  have hfound : s.vm.findClass cls = some P1.m.cls := findClass_of_methodNamed hP1m
  obtain ⟨c1, kX, hc1, hk, hord, -, -, hn6⟩ := Cond.instantiable_spec (a (.instantiable cls 6) (by simp [Bundle.messageArmAtoms]))
  cases Option.some.inj (hc1.symm.trans hfound)
  have hinit := Cond.initialized_spec hfound hk (a (.initialized cls) (by simp [Bundle.messageArmAtoms]))
  have hctor : kX.findMethod "<init>" "(Ljava/lang/String;)V" = some P1.m.idx := findMethod_of_methodNamed hP1m hk
  have hsel0 : selectMethod e.platform s.vm P1.m.cls T.fill0 = .method T.fill0 := by
    obtain ⟨c2, r2, m2, q1, q2, q3, q4, -⟩ := Cond.selects_spec (a (.selects cls Bundle.tFill0 Bundle.tFill0) (by simp [Bundle.messageArmAtoms]))
    cases Option.some.inj (q1.symm.trans hfound)
    cases Option.some.inj (q2.symm.trans (State.methodFound?_of_named Y.fill0 (by decide)))
    cases Option.some.inj (q3.symm.trans Y.fill0)
    rw [Launch.admits_selectMethod X.admits]; exact q4
  have hselF : selectMethod e.platform s.vm P1.m.cls T.fill = .method T.fill := by
    obtain ⟨c2, r2, m2, q1, q2, q3, q4, -⟩ := Cond.selects_spec (a (.selects cls Bundle.tFill Bundle.tFill) (by simp [Bundle.messageArmAtoms]))
    cases Option.some.inj (q1.symm.trans hfound)
    cases Option.some.inj (q2.symm.trans (State.methodFound?_of_named Y.fill (by decide)))
    cases Option.some.inj (q3.symm.trans Y.fill)
    rw [Launch.admits_selectMethod X.admits]; exact q4
  obtain ⟨cellS0, hcS0, hiss⟩ := Y.statics
  obtain ⟨u0, hu0⟩ := Cond.staticRefV Y.unassigned L.unassignedStatic L.statics hcS0 hiss (a (.isRef (.static Bundle.tN "UNASSIGNED_STACK" Bundle.steD)) (by simp [Bundle.messageArmAtoms]))
  obtain ⟨sen, hsen⟩ := Cond.staticRefV Y.sentinel L.sentinelStatic L.statics hcS0 hiss (a (.isRef (.static Bundle.tN "SUPPRESSED_SENTINEL" Bundle.listD)) (by simp [Bundle.messageArmAtoms]))
  obtain ⟨ci198, i198, fB, hk198, hg198, ha198, hsB, -, hnB, htB, hffB⟩ := Cond.ownField (t := .object "java/lang/Object") Y.found L.cls (by decide +kernel) (a (.fieldLink Bundle.tN 198 Bundle.tN "backtrace" "Ljava/lang/Object;") (by simp [Bundle.messageArmAtoms])) (a (.lays Bundle.tN Bundle.tN "backtrace" "Ljava/lang/Object;") (by simp [Bundle.messageArmAtoms])) e.platform hpl
  obtain ⟨cellS, hcS', heS, -, hkeep⟩ := X.same.2.2.2.2.2 T.aS cellS0 hcS0
  have hcellS : W.heap[T.aS]? = some cellS := hcS'
  have hout' : ∀ i, (⟨T.aS, i⟩ : Loc) ∉ locs := fun i hmem => by
    have := hlocs _ hmem cellS0 hcS0
    rw [hiss] at this; cases this
  have hknownS : cellS.vm ≠ .unknown := by
    rw [heS]; intro hu
    rw [show cellS0.vm = .unknown from hu] at hiss
    cases hiss
  have hvU : cellS.slots[T.fUnassigned.slot]? = some u0.v := by rw [hkeep _ (hout' _)]; exact hu0
  have hvSen : cellS.slots[T.fSentinel.slot]? = some sen.v := by rw [hkeep _ (hout' _)]; exact hsen
  obtain ⟨iM, hffM⟩ := Y.msg
  obtain ⟨tyC, dC, hdC, hdnC⟩ := Cond.laysAt hfound hk Y.cause (a (.lays cls Bundle.tN "cause" "Ljava/lang/Throwable;") (by simp [Bundle.messageArmAtoms]))
  obtain ⟨tyS, dS, hdS, hdnS⟩ := Cond.laysAt hfound hk Y.stack (a (.lays cls Bundle.tN "stackTrace" Bundle.steD) (by simp [Bundle.messageArmAtoms]))
  obtain ⟨tyP, dP, hdP, hdnP⟩ := Cond.laysAt hfound hk Y.supp (a (.lays cls Bundle.tN "suppressedExceptions" Bundle.listD) (by simp [Bundle.messageArmAtoms]))
  obtain ⟨tyM, dM, hdM, hdnM⟩ := Cond.laysAt hfound hk hffM (a (.lays cls Bundle.tN "detailMessage" "Ljava/lang/String;") (by simp [Bundle.messageArmAtoms]))
  obtain ⟨tyB, dB, hdB, hdnB⟩ := Cond.laysAt hfound hk hffB (a (.lays cls Bundle.tN "backtrace" "Ljava/lang/Object;") (by simp [Bundle.messageArmAtoms]))
  have bC := Cond.laysApart hdB hdC hdnB hdnC (by rw [hnB, Y.causeName]; decide)
  have bS := Cond.laysApart hdB hdS hdnB hdnS (by rw [hnB, Y.stackName]; decide)
  have bP := Cond.laysApart hdB hdP hdnB hdnP (by rw [hnB, Y.suppName]; decide)
  have hbk : ((preparedCellV T.toThrowableT (freshCell P1.m.cls kX) (W.heap.size + 2) u0 sen).withEntry W.cur).slots[fB.slot]? = some .null := by
    have := fresh_default (c := P1.m.cls) tyB
    rw [htB] at this
    simpa [preparedCellV, Cell.setSlot, Cell.withEntry, Array.getElem?_setIfInBounds, bC, bS, bP, bC.symm, bS.symm, bP.symm, defaultValue] using this
  have tkC := Takes.of_laid (v := .ref (W.heap.size + 2)) hk hord tyC (by rw [Y.causeType]; rfl)
  have tkS := Takes.of_laid (v := u0.v) hk hord tyS (by rw [Y.stackType]; exact fits_refV_array _ u0)
  have tkP := Takes.of_laid (v := sen.v) hk hord tyP (by rw [Y.suppType]; exact fits_refV_object _ sen)
  have tkM := Takes.of_laid (v := .ref (W.heap.size + 1)) hk hord tyM (by rw [Y.msgType]; rfl)
  have hskip : SkipFacts T e.platform s (fun u => u) u0 ((preparedCellV T.toThrowableT (freshCell P1.m.cls kX) (W.heap.size + 2) u0 sen).withEntry W.cur) := ⟨{ ci198 := ci198, i198 := i198, fBack := fB }, ⟨hk198, hg198, ha198, hsB⟩, hbk, fun _ _ => rfl⟩
  have h0 : At W g.method c below := by rw [hg]; exact X.here
  obtain ⟨hbeyond, hfreeW⟩ := X.vmMayThrow hsize (.throwNew cls (some text) none) (fun f hf => by cases hf) rfl hRlocals
  have hfr' : W.frames.length + Ps.length + 4 < (e.platform.stackLimits W.me).1 := by have := X.framesAbove hRframes; omega
  have hwd' : (stackUse (.java g :: W.frames.tail)).2 + 13 * Ps.length + 55 ≤ (e.platform.stackLimits W.me).2 := by have := X.stackAbove hsize (K := 13 * Ps.length + 55) (by omega); omega
  have hslots : W.slotsUsed + (stringBytes (stringToUtf16 text)).size + Zs.kS.instanceTypes.size + kX.instanceTypes.size ≤ e.platform.maxSlots := by
    have := X.slotsAbove hRslots
    rw [hn4, hn6]
    omega
  obtain ⟨vm', hW', st⟩ := Steps.vmThrowsMessageColdByV p (s₀ := s) (S := W) (g := g) h0 hexec T L Z LZ M LM X.warmed (t := W.cur) rfl Zs LZs P1 L1 Ps hL hlink1 hlink hsoe hoom hfound hk hinit hord hctor
    (Launch.admits_hotImplicitExceptions X.admits) hbeyond hfreeW htext hlimit hheap (X.cellsAbove hRcells) hslots (hfitv _) (hfitc _)
    (Nn := fun u => u) heapOnly_id (fun _ _ => rfl) (fun _ => rfl) (fun u x y => setCell_twice _ _ _ _) (fun _ => Nat.le_refl _) (cN := ((preparedCellV T.toThrowableT (freshCell P1.m.cls kX) (W.heap.size + 2) u0 sen).withEntry W.cur))
    hsel0 hcellS hknownS hvU tkS (fun _ hu => hu) (fun _ hu => hu) rfl rfl rfl (by simp [preparedCellV, Cell.setSlot, Cell.withEntry]) hskip (fun _ _ hA hW _ hroom _ hrest => L.nativeOff p htr hA hW hroom hrest) hselF hvSen tkC tkP tkM Y.objLocals rfl hfr' hwd'
  rw [plainBareV_eq T.toThrowableT (W.heap.size + 2) u0 sen (.ref (W.heap.size + 1)) W.cur rfl rfl] at st
  obtain ⟨-, -, w3, w4, -, -, -⟩ := withThrown_facts e.platform W Zs text P1.m.cls kX
  have X3 := ((X.pushed (bytesOf Zs.cB (stringToUtf16 text))).pushed (stringAt Zs.cS Zs.kS Zs.fv Zs.fc (stringToUtf16 text) W.heap.size)).pushed (freshCell P1.m.cls kX)
  rw [← withString_eq] at X3
  have X4 := X3.noted hW'
  have ha : (W.heap.size + 2) < ((withThrown W Zs text P1.m.cls kX).setVm vm').heap.size := by show _ < (withThrown W Zs text P1.m.cls kX).heap.size; rw [w3]; omega
  have hcell : ((withThrown W Zs text P1.m.cls kX).setVm vm').heap[(W.heap.size + 2)]? = some (freshCell P1.m.cls kX) := w4
  have X5 := ((((X4.stored hcell T.fCause.slot (.ref (W.heap.size + 2))).storedAgain ha T.fStack.slot u0.v).storedAgain ha T.fSupp.slot sen.v).storedAgain ha T.fStack.slot u0.v).storedAgain ha T.fMsg.slot (.ref (W.heap.size + 1))
  obtain ⟨g₁, hfrM⟩ := X5.frames_eq
  have hU : ((((withThrown W Zs text P1.m.cls kX).setVm vm').setCell (W.heap.size + 2) (plainBareV T.toThrowableT (freshCell P1.m.cls kX) (W.heap.size + 2) u0 sen (.ref (W.heap.size + 1)))).setTop g).pushFrame (.throwing (W.heap.size + 2)) = (((withThrown W Zs text P1.m.cls kX).setVm vm').setCell (W.heap.size + 2) (plainBareV T.toThrowableT (freshCell P1.m.cls kX) (W.heap.size + 2) u0 sen (.ref (W.heap.size + 1)))).setFrames (.throwing (W.heap.size + 2) :: .java g :: below) := by
    rw [State.pushFrame, State.frames_setTop _ hfrM, State.setTop_of_frames _ hfrM, State.setFrames_setFrames]
  have b1 : (bytesOf Zs.cB (stringToUtf16 text)).slots.size = (stringBytes (stringToUtf16 text)).size := by
    rw [(Cell.writeAll_facts _ _).2.2]; simp [bytes0]
  have b2 : (stringAt Zs.cS Zs.kS Zs.fv Zs.fc (stringToUtf16 text) W.heap.size).slots.size = 4 := by simp [string0, Cell.setSlot, hn4]
  have b3 : (freshCell P1.m.cls kX).slots.size = 6 := by simp [hn6]
  rw [b1, b2, b3] at X5
  have e9 : slots + (stringBytes (stringToUtf16 text)).size + 4 + 6 = slots + ((stringBytes (stringToUtf16 text)).size + 4 + 6) := by omega
  rw [e9] at X5
  simp only [List.append_assoc, List.cons_append, List.nil_append] at X5
  refine ⟨((withThrown W Zs text P1.m.cls kX).setVm vm').setCell (W.heap.size + 2) (plainBareV T.toThrowableT (freshCell P1.m.cls kX) (W.heap.size + 2) u0 sen (.ref (W.heap.size + 1))), W.heap.size + 2, _, fun target ht => st _ (by rw [X.tail, ← hU]; exact ht),
    X5.forget (fun y hy => ?_), heapAt_setCell_self _ ha, hfound, rfl⟩
  simp only [List.mem_cons, List.not_mem_nil, or_false] at hy
  have hge : s.heap.size ≤ W.heap.size := X.same.2.1
  rcases hy with rfl | rfl | rfl | rfl | rfl <;> exact Nat.le_trans hge (Nat.le_add_right _ 2)
set_option maxHeartbeats 1000000 in
/-- the machine throws NullPointerException, no traces kept: from its note over the frame g to 'throwing' over the same frame (follows the proof of Stand.vmThrowsNpe, Shelf42/KT2.lean; throwsNpeColdBareVAt, Shelf42/NT91.lean, called) -/
theorem vx_npeAt {p : Program} {l : Launch} {e : Env} {R : Room} {s : State} {m₀ : MethodId} {args : Array Value} {below : List Frame} {meth : Method} {c : Code} {W : State} {locs : List Loc} {cells slots : Nat}
    (X : Stand p l e R s m₀ args below meth c W locs cells slots) (hexec : p.tables.exec = Jvm.exec) (htr : e.platform.stackTraces = false) {n : Nat}
    (h : ∀ a ∈ Bundle.npeArmAtoms n, a.before args s = true)
    (hlocs : ∀ x ∈ locs, ∀ cell, s.heap[x.base]? = some cell → cell.vm.isStatics = false)
    {g : JFrame} (hg : g.method = m₀) (hsize : g.locals.size = c.maxLocals)
    (hRframes : 7 < R.frames) (hRlocals : 2 * g.monitorRoom + (g.stack.map fun v => v.category).sum + 10240 ≤ R.locals)
    (hRcells : cells + 1 ≤ R.cells) (hRslots : slots + n ≤ R.slots) (hlocks : meth.locks = false) :
    ∃ (S : State) (q : Addr) (ce : Cell), (∀ target, Steps p.tables e below ((S.setTop g).pushFrame (.throwing q)) target → Steps p.tables e below ((W.setTop g).pushFrame (.throwNew "java/lang/NullPointerException" none none)) target) ∧
      Stand p l e R s m₀ args below meth c S locs (cells + 1) (slots + n) ∧ S.heap[q]? = some ce ∧ s.vm.findClass "java/lang/NullPointerException" = some ce.cls ∧ ce.vm = .none := by
  have howns : e.platform.frameOwnsMonitors = true := by rw [X.admits.platform]
  have hfin : e.platform.finalization = false := by rw [X.admits.platform]
  have hpl : e.platform.magicAccessors = ({} : Platform).magicAccessors := by rw [X.admits.platform]
  have hpl2 : e.platform.arrayCloneIsPublic = true := by rw [X.admits.platform]
  have a' : ∀ x, x ∈ Bundle.npeArmAtoms n → x.holds args s none s [] = true := fun x hx => h x hx
  obtain ⟨T, Z, L, LZ, Y⟩ := ThrowableC.of_atoms (args := args) howns hfin hpl (fun x hx => h x (by simp [Bundle.npeArmAtoms, hx]))
  obtain ⟨N, LN, hcN, hnNF, hordN, hffS⟩ := NpeC.of_atoms (args := args) hpl hpl2 L Y (fun x hx => h x (by simp [Bundle.npeArmAtoms, hx]))
  obtain ⟨P1, L1, hP1m, hP1s⟩ := PassC.of_atoms (args := args) (s := s) hpl (X := Bundle.nN) (Y := Bundle.rN) (by decide) (by decide) LibCode.NullPointerException.Init0.at_0 LibCode.NullPointerException.Init0.at_1 LibCode.NullPointerException.Init0.at_4 (fun x hx => h x (by simp [Bundle.npeArmAtoms, hx]))
  obtain ⟨PR, LR, hPRm, hPRs⟩ := PassC.of_atoms (args := args) (s := s) hpl (X := Bundle.rN) (Y := Bundle.eN) (by decide) (by decide) LibCode.RuntimeException.Init0.at_0 LibCode.RuntimeException.Init0.at_1 LibCode.RuntimeException.Init0.at_4 (fun x hx => h x (by simp [Bundle.npeArmAtoms, hx]))
  obtain ⟨PE, LEx, hPEm, hPEs⟩ := PassC.of_atoms (args := args) (s := s) hpl (X := Bundle.eN) (Y := Bundle.tN) (by decide) (by decide) LibCode.Exception.Init0.at_0 LibCode.Exception.Init0.at_1 LibCode.Exception.Init0.at_4 (fun x hx => h x (by simp [Bundle.npeArmAtoms, hx]))
  have hfound : s.vm.findClass Bundle.nN = some P1.m.cls := findClass_of_methodNamed hP1m
  have ecls : N.cN = P1.m.cls := Option.some.inj (hcN.symm.trans hfound)
  have hk : s.vm.classes[P1.m.cls]? = some N.kN := by rw [← ecls]; exact LN.cls
  have hinit := Cond.initialized_spec hfound hk (a' (.initialized Bundle.nN) (by simp [Bundle.npeArmAtoms]))
  have hctor : N.kN.findMethod "<init>" "()V" = some P1.m.idx := findMethod_of_methodNamed hP1m hk
  obtain ⟨c1, k1, hc1, hk1, -, -, -, hn⟩ := Cond.instantiable_spec (a' (.instantiable Bundle.nN n) (by simp [Bundle.npeArmAtoms]))
  cases Option.some.inj (hc1.symm.trans hfound)
  cases Option.some.inj (hk1.symm.trans hk)
  have hfsz : (freshCell P1.m.cls N.kN).slots.size = n := by simp [hn]
  have hlink1 : P1.sup = PR.m := Option.some.inj (hP1s.symm.trans hPRm)
  have hlinkR : PR.sup = PE.m := Option.some.inj (hPRs.symm.trans hPEm)
  have hlinkE : PE.sup = Z.m T.toThrowableT := Option.some.inj (hPEs.symm.trans Y.init0)
  have hLs : ∀ P, P ∈ [PR, PE] → P.Links0 e.platform s := fun P hP => by
    simp only [List.mem_cons, List.not_mem_nil, or_false] at hP
    rcases hP with rfl | rfl
    · exact LR
    · exact LEx
  have hsel0 : selectMethod e.platform s.vm P1.m.cls T.fill0 = .method T.fill0 := by
    obtain ⟨c2, r2, m2, q1, q2, q3, q4, -⟩ := Cond.selects_spec (a' (.selects Bundle.nN Bundle.tFill0 Bundle.tFill0) (by simp [Bundle.npeArmAtoms]))
    cases Option.some.inj (q1.symm.trans hfound)
    cases Option.some.inj (q2.symm.trans (State.methodFound?_of_named Y.fill0 (by decide)))
    cases Option.some.inj (q3.symm.trans Y.fill0)
    rw [Launch.admits_selectMethod X.admits]; exact q4
  have hselF : selectMethod e.platform s.vm P1.m.cls T.fill = .method N.fill := by
    obtain ⟨c2, r2, m2, q1, q2, q3, q4, -⟩ := Cond.selects_spec (a' (.selects Bundle.nN Bundle.tFill Bundle.nFill) (by simp [Bundle.npeArmAtoms]))
    cases Option.some.inj (q1.symm.trans hfound)
    cases Option.some.inj (q2.symm.trans (State.methodFound?_of_named Y.fill (by decide)))
    cases Option.some.inj (q3.symm.trans hnNF)
    rw [Launch.admits_selectMethod X.admits]; exact q4
  obtain ⟨cellS0, hcS0, hiss⟩ := Y.statics
  obtain ⟨u0, hu0⟩ := Cond.staticRefV Y.unassigned L.unassignedStatic L.statics hcS0 hiss (a' (.isRef (.static Bundle.tN "UNASSIGNED_STACK" Bundle.steD)) (by simp [Bundle.npeArmAtoms]))
  obtain ⟨sen, hsen⟩ := Cond.staticRefV Y.sentinel L.sentinelStatic L.statics hcS0 hiss (a' (.isRef (.static Bundle.tN "SUPPRESSED_SENTINEL" Bundle.listD)) (by simp [Bundle.npeArmAtoms]))
  obtain ⟨ci198, i198, fB, hk198, hg198, ha198, hsB, -, hnB, htB, hffB⟩ := Cond.ownField (t := .object "java/lang/Object") Y.found L.cls (by decide +kernel) (a' (.fieldLink Bundle.tN 198 Bundle.tN "backtrace" Bundle.objD) (by simp [Bundle.npeArmAtoms])) (a' (.lays Bundle.tN Bundle.tN "backtrace" Bundle.objD) (by simp [Bundle.npeArmAtoms])) e.platform hpl
  obtain ⟨cellS, hcS', heS, -, hkeep⟩ := X.same.2.2.2.2.2 T.aS cellS0 hcS0
  have hcellS : W.heap[T.aS]? = some cellS := hcS'
  have hout' : ∀ i, (⟨T.aS, i⟩ : Loc) ∉ locs := fun i hmem => by
    have := hlocs _ hmem cellS0 hcS0
    rw [hiss] at this; cases this
  have hknownS : cellS.vm ≠ .unknown := by
    rw [heS]; intro hu
    rw [show cellS0.vm = .unknown from hu] at hiss
    cases hiss
  have hvU : cellS.slots[T.fUnassigned.slot]? = some u0.v := by rw [hkeep _ (hout' _)]; exact hu0
  have hvSen : cellS.slots[T.fSentinel.slot]? = some sen.v := by rw [hkeep _ (hout' _)]; exact hsen
  obtain ⟨tyC, dC, hdC, hdnC⟩ := Cond.laysAt hfound hk Y.cause (a' (.lays Bundle.nN Bundle.tN "cause" "Ljava/lang/Throwable;") (by simp [Bundle.npeArmAtoms]))
  obtain ⟨tyS, dS, hdS, hdnS⟩ := Cond.laysAt hfound hk Y.stack (a' (.lays Bundle.nN Bundle.tN "stackTrace" Bundle.steD) (by simp [Bundle.npeArmAtoms]))
  obtain ⟨tyP, dP, hdP, hdnP⟩ := Cond.laysAt hfound hk Y.supp (a' (.lays Bundle.nN Bundle.tN "suppressedExceptions" Bundle.listD) (by simp [Bundle.npeArmAtoms]))
  obtain ⟨tyX, dX, hdX, hdnX⟩ := Cond.laysAt hfound hk hffS (a' (.lays Bundle.nN Bundle.nN "extendedMessageState" "I") (by simp [Bundle.npeArmAtoms, Bundle.npeAtoms]))
  obtain ⟨hnX, htX⟩ := State.fieldFound?_type hffS (t := .int) (by decide +kernel)
  have xC := Cond.laysApart hdC hdX hdnC hdnX (by rw [hnX, Y.causeName]; decide)
  have xS := Cond.laysApart hdS hdX hdnS hdnX (by rw [hnX, Y.stackName]; decide)
  have xP := Cond.laysApart hdP hdX hdnP hdnX (by rw [hnX, Y.suppName]; decide)
  have hv0 : (freshCell P1.m.cls N.kN).slots[N.fState.slot]? = some (.int 0) := by
    have := fresh_default (c := P1.m.cls) tyX
    rw [htX] at this; exact this
  obtain ⟨tyB, dB, hdB, hdnB⟩ := Cond.laysAt hfound hk hffB (a' (.lays Bundle.nN Bundle.tN "backtrace" Bundle.objD) (by simp [Bundle.npeArmAtoms]))
  have bC := Cond.laysApart hdB hdC hdnB hdnC (by rw [hnB, Y.causeName]; decide)
  have bS := Cond.laysApart hdB hdS hdnB hdnS (by rw [hnB, Y.stackName]; decide)
  have bP := Cond.laysApart hdB hdP hdnB hdnP (by rw [hnB, Y.suppName]; decide)
  have bX := Cond.laysApart hdB hdX hdnB hdnX (by rw [hnB, hnX]; decide)
  have hbk : ((npeCell N.toNpeT (preparedCellV T.toThrowableT (freshCell P1.m.cls N.kN) W.heap.size u0 sen) W.cur).withEntry W.cur).slots[fB.slot]? = some .null := by
    have := fresh_default (c := P1.m.cls) tyB
    rw [htB] at this
    simpa [npeCell, preparedCellV, Cell.setSlot, Cell.withEntry, Array.getElem?_setIfInBounds, bC, bS, bP, bX, bC.symm, bS.symm, bP.symm, bX.symm, defaultValue] using this
  have tkC := Takes.of_laid (v := .ref W.heap.size) hk hordN tyC (by rw [Y.causeType]; rfl)
  have tkS := Takes.of_laid (v := u0.v) hk hordN tyS (by rw [Y.stackType]; exact fits_refV_array _ u0)
  have tkP := Takes.of_laid (v := sen.v) hk hordN tyP (by rw [Y.suppType]; exact fits_refV_object _ sen)
  have tkX := Takes.of_laid (v := .int 1) hk hordN tyX (by rw [htX]; rfl)
  have hskip : SkipFacts T e.platform s (fun u => u) u0 ((npeCell N.toNpeT (preparedCellV T.toThrowableT (freshCell P1.m.cls N.kN) W.heap.size u0 sen) W.cur).withEntry W.cur) := ⟨{ ci198 := ci198, i198 := i198, fBack := fB }, ⟨hk198, hg198, ha198, hsB⟩, hbk, fun _ _ => rfl⟩
  obtain ⟨vm', X3, st, -⟩ := X.throwsNpeColdBareVAt hexec hg hsize T L Z LZ N LN P1 L1 [PR, PE] hLs hlink1 ⟨hlinkR, hlinkE, trivial⟩ hfound hk hinit hordN hctor hsel0 hselF hcellS hknownS hvU hvSen
    hv0 xC xS xP tkC tkS tkP tkX Y.objLocals hskip (fun _ _ hA hW _ hroom _ hrest => L.nativeOff p htr hA hW hroom hrest) (by simpa using hRframes) hRlocals (by simp) hRcells (by rw [hn]; exact hRslots)
  have hlt : W.heap.size < ((W.pushCell (freshCell P1.m.cls N.kN)).setVm vm').heap.size := by
    show W.heap.size < (W.pushCell (freshCell P1.m.cls N.kN)).heap.size
    rw [State.heap_size_pushCell]; omega
  rw [hfsz] at X3
  obtain ⟨g₁, hfrM⟩ := X3.frames_eq
  have hU : ((((W.pushCell (freshCell P1.m.cls N.kN)).setVm vm').setCell W.heap.size (npeBareV T.toThrowableT N.toNpeT (freshCell P1.m.cls N.kN) W.heap.size u0 sen)).setTop g).pushFrame (.throwing W.heap.size) = (((W.pushCell (freshCell P1.m.cls N.kN)).setVm vm').setCell W.heap.size (npeBareV T.toThrowableT N.toNpeT (freshCell P1.m.cls N.kN) W.heap.size u0 sen)).setFrames (.throwing W.heap.size :: .java g :: below) := by
    rw [State.pushFrame, State.frames_setTop _ hfrM, State.setTop_of_frames _ hfrM, State.setFrames_setFrames]
  refine ⟨_, W.heap.size, _, fun target ht => st.trans (by rw [← hU]; exact ht), X3.forget (fun y hy => ?_), heapAt_setCell_self _ hlt, hfound, rfl⟩
  simp only [List.mem_cons, List.not_mem_nil, or_false] at hy
  have hge : s.heap.size ≤ W.heap.size := X.same.2.1
  rcases hy with rfl | rfl | rfl | rfl | rfl <;> exact hge
/-- the words of a machine's NullPointerException, but the four that speak of the heap -/
def vx_atN (n : Nat) : List Cond := (Bundle.npeArmAtoms n).filter vx_no
/-- the words of a machine's throw with a message, but the four that speak of the heap -/
def vx_atM (X : String) (names : List String) : List Cond := (Bundle.messageArmAtoms X names).filter vx_no
section
variable {p : Program} {l : Launch} {e : Env} {R : Room} {s : State} {m : MethodId} {args : Array Value} {below : List Frame} {meth : Method} {c : Code} {H : Heap} {locs : List Loc} {cells slots : Nat}
/-- a frame seen from a rebased start, seen from the first start again -/
theorem vx_back9 {T S : State} {R' : Room} {k n : Nat} (X : Stand p l e R s m args below meth c T locs cells slots) (Y : Stand p l e R' ((T.setVm s.vm).setFrames (.invoking m args :: below)) m args below meth c T [] 0 0) (Z : Stand p l e R' ((T.setVm s.vm).setFrames (.invoking m args :: below)) m args below meth c S [] k n) :
    Stand p l e R s m args below meth c S locs (cells + k) (slots + n) := by
  have hW0 : s.WarmedH ((T.setVm s.vm).setFrames (.invoking m args :: below)).vm := State.WarmedH.refl s
  refine { admits := X.admits, cas := X.cas, clock := X.clock, frames := X.frames, room := X.room, hears := X.hears, method := X.method, code := X.code, here := Z.here, tail := Z.tail, warmed := State.WarmedH.trans hW0 Z.warmed, limits := Z.limits.trans (Y.limits.symm.trans X.limits), bytes := Z.bytes.trans (Y.bytes.symm.trans X.bytes), same := ?_ }
  obtain ⟨e1, e2⟩ := Z.same
  rw [State.setFrames_setFrames] at e1
  have h2 : (T.setVm s.vm).sameButNew (S.setVm s.vm) [] k n := ⟨e1, e2⟩
  have h3 := X.same.trans h2
  rw [List.append_nil] at h3
  exact h3
/-- from the machine's note that E is thrown here with this text -/
def vx_Note (p : Program) (l : Launch) (e : Env) (R : Room) (s : State) (m : MethodId) (args : Array Value) (below : List Frame) (meth : Method) (c : Code) (H : Heap) (locs : List Loc) (cells slots : Nat) (Q : State → Prop) (g : JFrame) (E text : String) : Prop :=
  ∀ T : State, T.heap = H → Stand p l e R s m args below meth c T locs cells slots → ∃ t, Steps p.tables e below ((T.setTop g).pushFrame (.throwNew E (some text) none)) t ∧ Q t
theorem vx_vm {pc : Nat} {ls : Array Slot} {rest : List Value} {Q : State → Prop} (hexec : p.tables.exec = Jvm.exec) (hl : l.stackTraces = false) {cls text : String} {names : List String} {nb : Nat} {A : Nat → Prop}
    (hcls : Bundle.fit cls = true) (hnames : ∀ n ∈ names, Bundle.fit n = true) (hsoe : (cls == "java/lang/StackOverflowError") = false) (hoom : (cls == "java/lang/OutOfMemoryError") = false)
    (hat : ∀ w ∈ vx_atM cls names, w.before args s = true) (hgood : ∀ w ∈ vx_atM cls names, vx_ot w = true)
    (hU : vx_Zq Bundle.tN "UNASSIGNED_STACK" Bundle.steD A s s.heap) (hN : vx_Zq Bundle.tN "SUPPRESSED_SENTINEL" Bundle.listD A s s.heap) (hS : va_S A s.heap H locs) (hsize : ls.size = c.maxLocals)
    (htext : (text == notModelled) = false) (hnb : (stringBytes (stringToUtf16 text)).size ≤ nb) (hnb1 : nb ≤ 1000)
    (hRframes : names.length + 4 < R.frames) (hRlocals : (rest.map fun v => v.category).sum + 10240 ≤ R.locals) (hshort : 13 * names.length + 55 ≤ 10240) (hRcells : cells + 3 ≤ R.cells) (hRslots : slots + (nb + 10) ≤ R.slots) (hlocks : meth.locks = false)
    (k : ∀ (H1 : Heap) (q9 : Addr) (ce : Cell), H.size ≤ H1.size → (∀ q : Nat, q < H.size → H1[q]? = H[q]?) → va_S A s.heap H1 locs → H1[q9]? = some ce → ce.vm = .none → s.vm.findClass cls = some ce.cls → vx_W p l e R s m args below meth c H1 locs (cells + 3) (slots + (nb + 10)) Q (F0 m pc ls rest) q9) :
    vx_Note p l e R s m args below meth c H locs cells slots Q (F0 m pc ls rest) cls text := by
  intro T hT X
  have htr : e.platform.stackTraces = false := (show e.platform.stackTraces = l.stackTraces by rw [X.admits.platform]).trans hl
  have Y := vx_rebase X (R' := { frames := R.frames, locals := R.locals, cells := 3, slots := nb + 10 }) (Nat.le_refl _) (Nat.le_refl _) hRcells hRslots
  have hhp : ((T.setVm s.vm).setFrames (.invoking m args :: below)).heap = H := hT
  have hW0 : s.WarmedH ((T.setVm s.vm).setFrames (.invoking m args :: below)).vm := State.WarmedH.refl s
  have hat' : ∀ w ∈ vx_atM cls names, w.before args ((T.setVm s.vm).setFrames (.invoking m args :: below)) = true := fun w hw => vx_ot_at hW0 rfl (hgood w hw) (hat w hw)
  have hU' : vx_Zq Bundle.tN "UNASSIGNED_STACK" Bundle.steD A ((T.setVm s.vm).setFrames (.invoking m args :: below)) ((T.setVm s.vm).setFrames (.invoking m args :: below)).heap := by rw [hhp]; exact vx_Zq.moved hW0.alike (hU.kept hS.2.1)
  have hN' : vx_Zq Bundle.tN "SUPPRESSED_SENTINEL" Bundle.listD A ((T.setVm s.vm).setFrames (.invoking m args :: below)) ((T.setVm s.vm).setFrames (.invoking m args :: below)).heap := by rw [hhp]; exact vx_Zq.moved hW0.alike (hN.kept hS.2.1)
  obtain ⟨S, q, ce, st, Z, hce, hcl', hv⟩ := vx_vmAt Y hexec htr (cls := cls) (names := names) (text := text) hcls hnames hsoe hoom (vx_own hat' (vx_isRefq hU'.1) (vx_isRefq hN'.1) hU'.2.word hN'.2.word) (fun x hx => nomatch hx) htext
    (by rw [Launch.admits_arrayLengthLimit X.admits]; omega) (by rw [Launch.admits_maxHeapBytes X.admits]; simp only [componentBytes]; omega)
    (g := F0 m pc ls rest) rfl hsize hRframes (by show 2 * 0 + (rest.map fun v => v.category).sum + 10240 ≤ R.locals; omega) hshort (by show 0 + 3 ≤ 3; omega) (by show 0 + (_ + 4 + 6) ≤ nb + 10; omega) hlocks
  obtain ⟨f1, f2⟩ := vx_frame Z.same
  have f1' : H.size ≤ S.heap.size := by rw [← hT]; exact f1
  have f2' : ∀ q : Nat, q < H.size → S.heap[q]? = H[q]? := fun q hq => by
    rw [← hT]
    exact f2 q (by rw [← hT] at hq; exact hq) (fun z hz => nomatch hz)
  have X5 := vx_back9 X Y Z
  have X6 : Stand p l e R s m args below meth c S locs (cells + 3) (slots + (nb + 10)) := { X5 with same := X5.same.mono (by omega) (by omega) }
  obtain ⟨t, a1, b1⟩ := k S.heap q ce f1' f2' ⟨Nat.le_trans hS.1 f1', fun q h1 h2 => (f2' q (Nat.lt_of_lt_of_le h1 hS.1)).trans (hS.2.1 q h1 h2), hS.2.2⟩ hce hv hcl' S rfl X6
  exact ⟨t, st t a1, b1⟩
/-- from the machine's note that NullPointerException is thrown here -/
def vx_NoteN (p : Program) (l : Launch) (e : Env) (R : Room) (s : State) (m : MethodId) (args : Array Value) (below : List Frame) (meth : Method) (c : Code) (H : Heap) (locs : List Loc) (cells slots : Nat) (Q : State → Prop) (g : JFrame) : Prop :=
  ∀ T : State, T.heap = H → Stand p l e R s m args below meth c T locs cells slots → ∃ t, Steps p.tables e below ((T.setTop g).pushFrame (.throwNew "java/lang/NullPointerException" none none)) t ∧ Q t
theorem vx_npe {pc : Nat} {ls : Array Slot} {rest : List Value} {Q : State → Prop} (hexec : p.tables.exec = Jvm.exec) (hl : l.stackTraces = false) {nb : Nat} {A : Nat → Prop}
    (hat : ∀ w ∈ vx_atN nb, w.before args s = true) (hgood : ∀ w ∈ vx_atN nb, vx_ot w = true)
    (hU : vx_Zq Bundle.tN "UNASSIGNED_STACK" Bundle.steD A s s.heap) (hN : vx_Zq Bundle.tN "SUPPRESSED_SENTINEL" Bundle.listD A s s.heap) (hS : va_S A s.heap H locs) (hsize : ls.size = c.maxLocals)
    (hRframes : 7 < R.frames) (hRlocals : (rest.map fun v => v.category).sum + 10240 ≤ R.locals) (hRcells : cells + 1 ≤ R.cells) (hRslots : slots + nb ≤ R.slots) (hlocks : meth.locks = false)
    (k : ∀ (H1 : Heap) (q9 : Addr) (ce : Cell), H.size ≤ H1.size → (∀ q : Nat, q < H.size → H1[q]? = H[q]?) → va_S A s.heap H1 locs → H1[q9]? = some ce → ce.vm = .none → s.vm.findClass "java/lang/NullPointerException" = some ce.cls → vx_W p l e R s m args below meth c H1 locs (cells + 1) (slots + nb) Q (F0 m pc ls rest) q9) :
    vx_NoteN p l e R s m args below meth c H locs cells slots Q (F0 m pc ls rest) := by
  intro T hT X
  have htr : e.platform.stackTraces = false := (show e.platform.stackTraces = l.stackTraces by rw [X.admits.platform]).trans hl
  have Y := vx_rebase X (R' := { frames := R.frames, locals := R.locals, cells := 1, slots := nb }) (Nat.le_refl _) (Nat.le_refl _) hRcells hRslots
  have hhp : ((T.setVm s.vm).setFrames (.invoking m args :: below)).heap = H := hT
  have hW0 : s.WarmedH ((T.setVm s.vm).setFrames (.invoking m args :: below)).vm := State.WarmedH.refl s
  have hat' : ∀ w ∈ vx_atN nb, w.before args ((T.setVm s.vm).setFrames (.invoking m args :: below)) = true := fun w hw => vx_ot_at hW0 rfl (hgood w hw) (hat w hw)
  have hU' : vx_Zq Bundle.tN "UNASSIGNED_STACK" Bundle.steD A ((T.setVm s.vm).setFrames (.invoking m args :: below)) ((T.setVm s.vm).setFrames (.invoking m args :: below)).heap := by rw [hhp]; exact vx_Zq.moved hW0.alike (hU.kept hS.2.1)
  have hN' : vx_Zq Bundle.tN "SUPPRESSED_SENTINEL" Bundle.listD A ((T.setVm s.vm).setFrames (.invoking m args :: below)) ((T.setVm s.vm).setFrames (.invoking m args :: below)).heap := by rw [hhp]; exact vx_Zq.moved hW0.alike (hN.kept hS.2.1)
  obtain ⟨S, q, ce, st, Z, hce, hcl', hv⟩ := vx_npeAt Y hexec htr (n := nb) (vx_own hat' (vx_isRefq hU'.1) (vx_isRefq hN'.1) hU'.2.word hN'.2.word) (fun x hx => nomatch hx)
    (g := F0 m pc ls rest) rfl hsize hRframes (by show 2 * 0 + (rest.map fun v => v.category).sum + 10240 ≤ R.locals; omega) (by show 0 + 1 ≤ 1; omega) (by show 0 + nb ≤ nb; omega) hlocks
  obtain ⟨f1, f2⟩ := vx_frame Z.same
  have f1' : H.size ≤ S.heap.size := by rw [← hT]; exact f1
  have f2' : ∀ q : Nat, q < H.size → S.heap[q]? = H[q]? := fun q hq => by
    rw [← hT]
    exact f2 q (by rw [← hT] at hq; exact hq) (fun z hz => nomatch hz)
  have X5 := vx_back9 X Y Z
  have X6 : Stand p l e R s m args below meth c S locs (cells + 1) (slots + nb) := { X5 with same := X5.same.mono (by omega) (by omega) }
  obtain ⟨t, a1, b1⟩ := k S.heap q ce f1' f2' ⟨Nat.le_trans hS.1 f1', fun q h1 h2 => (f2' q (Nat.lt_of_lt_of_le h1 hS.1)).trans (hS.2.1 q h1 h2), hS.2.2⟩ hce hv hcl' S rfl X6
  exact ⟨t, st t a1, b1⟩
variable {Q : State → Prop} {cc : ByteArray} {pc : Nat} {ls : Array Slot} {rest : List Value}
theorem vx_idivZ (hexec : p.tables.exec = Jvm.exec) (hb : c.code = cc) {a b : Int32} (h0 : b = 0) (d : decode cc pc = .ok (.idiv, 1)) (k : vx_Note p l e R s m args below meth c H locs cells slots Q (F0 m pc ls rest) "java/lang/ArithmeticException" "/ by zero") :
    W p l e R s m args below meth c H locs cells slots Q (F0 m pc ls (.int b :: .int a :: rest)) := by
  intro T hT X
  obtain ⟨t, st, q⟩ := k T hT X
  exact ⟨t, X.idivZero hexec (g := F0 m pc ls (.int b :: .int a :: rest)) rfl (a := a) (rest := rest) (by rw [h0]) (by rw [hb]; exact d) t st, q⟩
theorem vx_iremZ (hexec : p.tables.exec = Jvm.exec) (hb : c.code = cc) {a b : Int32} (h0 : b = 0) (d : decode cc pc = .ok (.irem, 1)) (k : vx_Note p l e R s m args below meth c H locs cells slots Q (F0 m pc ls rest) "java/lang/ArithmeticException" "/ by zero") :
    W p l e R s m args below meth c H locs cells slots Q (F0 m pc ls (.int b :: .int a :: rest)) := by
  intro T hT X
  obtain ⟨t, st, q⟩ := k T hT X
  exact ⟨t, X.iremZero hexec (g := F0 m pc ls (.int b :: .int a :: rest)) rfl (a := a) (rest := rest) (by rw [h0]) (by rw [hb]; exact d) t st, q⟩
theorem vx_ldivZ (hexec : p.tables.exec = Jvm.exec) (hb : c.code = cc) {a b : Int64} (h0 : b = 0) (d : decode cc pc = .ok (.ldiv, 1)) (k : vx_Note p l e R s m args below meth c H locs cells slots Q (F0 m pc ls rest) "java/lang/ArithmeticException" "/ by zero") :
    W p l e R s m args below meth c H locs cells slots Q (F0 m pc ls (.long b :: .long a :: rest)) := by
  intro T hT X
  obtain ⟨t, st, q⟩ := k T hT X
  exact ⟨t, X.ldivZero hexec (g := F0 m pc ls (.long b :: .long a :: rest)) rfl (a := a) (rest := rest) (by rw [h0]) (by rw [hb]; exact d) t st, q⟩
theorem vx_lremZ (hexec : p.tables.exec = Jvm.exec) (hb : c.code = cc) {a b : Int64} (h0 : b = 0) (d : decode cc pc = .ok (.lrem, 1)) (k : vx_Note p l e R s m args below meth c H locs cells slots Q (F0 m pc ls rest) "java/lang/ArithmeticException" "/ by zero") :
    W p l e R s m args below meth c H locs cells slots Q (F0 m pc ls (.long b :: .long a :: rest)) := by
  intro T hT X
  obtain ⟨t, st, q⟩ := k T hT X
  exact ⟨t, X.lremZero hexec (g := F0 m pc ls (.long b :: .long a :: rest)) rfl (a := a) (rest := rest) (by rw [h0]) (by rw [hb]; exact d) t st, q⟩
theorem vx_ialdZ {D : va_G} {cl : List vw_C} {ws : va_W} {tys : List (ClassId × FieldType)} {a : Nat} (hexec : p.tables.exec = Jvm.exec) (hb : c.code = cc) (hK : va_K D cl tys s) (hP : va_P D cl ws H) (q0 t0 : Nat) {cA : ClassId} {n : Nat} {f : Nat → Int32} (ha : ws[q0]? = some (a, .inl (cA, n, .inl f))) (ht : tys[t0]? = some (cA, .int)) {i : Int32} (hout : ¬ vp_in i n) (hdg : decode cc pc = .ok (.iaload, 1))
    (k : ∀ tx : String, tx = (toString "Index " ++ toString i ++ toString " out of bounds for length " ++ toString n : String) → vx_Note p l e R s m args below meth c H locs cells slots Q (F0 m pc ls rest) "java/lang/ArrayIndexOutOfBoundsException" tx) : W p l e R s m args below meth c H locs cells slots Q (F0 m pc ls (.int i :: .ref a :: rest)) := by
  intro T hT X
  obtain ⟨t, st, q⟩ := k _ rfl T hT X
  refine ⟨t, ?_, q⟩
  have h1 := X.ialoadOut hexec (by rw [hT]; exact hP q0 _ ha) ((hK.2 t0 _ ht).1 n (fun j => .int (f j))) (j := i) (by show (i < 0 ∨ (arrV _ _ _).slots.size ≤ _); rw [arrV_size]; exact Classical.byContradiction hout) (g := F0 m pc ls (.int i :: .ref a :: rest)) rfl (rest := rest) rfl (by rw [hb]; exact hdg) t
  simp only [arrV_size] at h1
  exact h1 st
theorem vx_iastZ {D : va_G} {cl : List vw_C} {ws : va_W} {tys : List (ClassId × FieldType)} {a : Nat} (hexec : p.tables.exec = Jvm.exec) (hb : c.code = cc) (hK : va_K D cl tys s) (hP : va_P D cl ws H) (q0 t0 : Nat) {cA : ClassId} {n : Nat} {f : Nat → Int32} (ha : ws[q0]? = some (a, .inl (cA, n, .inl f))) (ht : tys[t0]? = some (cA, .int)) {i : Int32} {x : Int32} (hout : ¬ vp_in i n) (hdg : decode cc pc = .ok (.iastore, 1))
    (k : ∀ tx : String, tx = (toString "Index " ++ toString i ++ toString " out of bounds for length " ++ toString n : String) → vx_Note p l e R s m args below meth c H locs cells slots Q (F0 m pc ls rest) "java/lang/ArrayIndexOutOfBoundsException" tx) : W p l e R s m args below meth c H locs cells slots Q (F0 m pc ls (.int x :: .int i :: .ref a :: rest)) := by
  intro T hT X
  obtain ⟨t, st, q⟩ := k _ rfl T hT X
  refine ⟨t, ?_, q⟩
  have h1 := X.iastoreOut hexec (by rw [hT]; exact hP q0 _ ha) ((hK.2 t0 _ ht).1 n (fun j => .int (f j))) (j := i) (by show (i < 0 ∨ (arrV _ _ _).slots.size ≤ _); rw [arrV_size]; exact Classical.byContradiction hout) (g := F0 m pc ls (.int x :: .int i :: .ref a :: rest)) rfl (rest := rest) rfl (by rw [hb]; exact hdg) t
  simp only [arrV_size] at h1
  exact h1 st
theorem vx_baldZ {D : va_G} {cl : List vw_C} {ws : va_W} {tys : List (ClassId × FieldType)} {a : Nat} (hexec : p.tables.exec = Jvm.exec) (hb : c.code = cc) (hK : va_K D cl tys s) (hP : va_P D cl ws H) (q0 t0 : Nat) {cA : ClassId} {n : Nat} {f : Nat → Int32} (ha : ws[q0]? = some (a, .inl (cA, n, .inl f))) (ht : tys[t0]? = some (cA, .byte)) {i : Int32} (hout : ¬ vp_in i n) (hdg : decode cc pc = .ok (.baload, 1))
    (k : ∀ tx : String, tx = (toString "Index " ++ toString i ++ toString " out of bounds for length " ++ toString n : String) → vx_Note p l e R s m args below meth c H locs cells slots Q (F0 m pc ls rest) "java/lang/ArrayIndexOutOfBoundsException" tx) : W p l e R s m args below meth c H locs cells slots Q (F0 m pc ls (.int i :: .ref a :: rest)) := by
  intro T hT X
  obtain ⟨t, st, q⟩ := k _ rfl T hT X
  refine ⟨t, ?_, q⟩
  have h1 := X.baloadOut hexec (by rw [hT]; exact hP q0 _ ha) ((hK.2 t0 _ ht).1 n (fun j => .int (f j))) (j := i) (by show (i < 0 ∨ (arrV _ _ _).slots.size ≤ _); rw [arrV_size]; exact Classical.byContradiction hout) (g := F0 m pc ls (.int i :: .ref a :: rest)) rfl (rest := rest) rfl (by rw [hb]; exact hdg) t
  simp only [arrV_size] at h1
  exact h1 st
theorem vx_bastZ {D : va_G} {cl : List vw_C} {ws : va_W} {tys : List (ClassId × FieldType)} {a : Nat} (hexec : p.tables.exec = Jvm.exec) (hb : c.code = cc) (hK : va_K D cl tys s) (hP : va_P D cl ws H) (q0 t0 : Nat) {cA : ClassId} {n : Nat} {f : Nat → Int32} (ha : ws[q0]? = some (a, .inl (cA, n, .inl f))) (ht : tys[t0]? = some (cA, .byte)) {i : Int32} {x : Int32} (hout : ¬ vp_in i n) (hdg : decode cc pc = .ok (.bastore, 1))
    (k : ∀ tx : String, tx = (toString "Index " ++ toString i ++ toString " out of bounds for length " ++ toString n : String) → vx_Note p l e R s m args below meth c H locs cells slots Q (F0 m pc ls rest) "java/lang/ArrayIndexOutOfBoundsException" tx) : W p l e R s m args below meth c H locs cells slots Q (F0 m pc ls (.int x :: .int i :: .ref a :: rest)) := by
  intro T hT X
  obtain ⟨t, st, q⟩ := k _ rfl T hT X
  refine ⟨t, ?_, q⟩
  have h1 := X.bastoreOut hexec (by rw [hT]; exact hP q0 _ ha) ((hK.2 t0 _ ht).1 n (fun j => .int (f j))) (j := i) (by show (i < 0 ∨ (arrV _ _ _).slots.size ≤ _); rw [arrV_size]; exact Classical.byContradiction hout) (g := F0 m pc ls (.int x :: .int i :: .ref a :: rest)) rfl (rest := rest) rfl (by rw [hb]; exact hdg) t
  simp only [arrV_size] at h1
  exact h1 st
theorem vx_zaldZ {D : va_G} {cl : List vw_C} {ws : va_W} {tys : List (ClassId × FieldType)} {a : Nat} (hexec : p.tables.exec = Jvm.exec) (hb : c.code = cc) (hK : va_K D cl tys s) (hP : va_P D cl ws H) (q0 t0 : Nat) {cA : ClassId} {n : Nat} {f : Nat → Int32} (ha : ws[q0]? = some (a, .inl (cA, n, .inl f))) (ht : tys[t0]? = some (cA, .boolean)) {i : Int32} (hout : ¬ vp_in i n) (hdg : decode cc pc = .ok (.baload, 1))
    (k : ∀ tx : String, tx = (toString "Index " ++ toString i ++ toString " out of bounds for length " ++ toString n : String) → vx_Note p l e R s m args below meth c H locs cells slots Q (F0 m pc ls rest) "java/lang/ArrayIndexOutOfBoundsException" tx) : W p l e R s m args below meth c H locs cells slots Q (F0 m pc ls (.int i :: .ref a :: rest)) := by
  intro T hT X
  obtain ⟨t, st, q⟩ := k _ rfl T hT X
  refine ⟨t, ?_, q⟩
  have h1 := X.baloadOut hexec (by rw [hT]; exact hP q0 _ ha) ((hK.2 t0 _ ht).1 n (fun j => .int (f j))) (j := i) (by show (i < 0 ∨ (arrV _ _ _).slots.size ≤ _); rw [arrV_size]; exact Classical.byContradiction hout) (g := F0 m pc ls (.int i :: .ref a :: rest)) rfl (rest := rest) rfl (by rw [hb]; exact hdg) t
  simp only [arrV_size] at h1
  exact h1 st
theorem vx_zastZ {D : va_G} {cl : List vw_C} {ws : va_W} {tys : List (ClassId × FieldType)} {a : Nat} (hexec : p.tables.exec = Jvm.exec) (hb : c.code = cc) (hK : va_K D cl tys s) (hP : va_P D cl ws H) (q0 t0 : Nat) {cA : ClassId} {n : Nat} {f : Nat → Int32} (ha : ws[q0]? = some (a, .inl (cA, n, .inl f))) (ht : tys[t0]? = some (cA, .boolean)) {i : Int32} {x : Int32} (hout : ¬ vp_in i n) (hdg : decode cc pc = .ok (.bastore, 1))
    (k : ∀ tx : String, tx = (toString "Index " ++ toString i ++ toString " out of bounds for length " ++ toString n : String) → vx_Note p l e R s m args below meth c H locs cells slots Q (F0 m pc ls rest) "java/lang/ArrayIndexOutOfBoundsException" tx) : W p l e R s m args below meth c H locs cells slots Q (F0 m pc ls (.int x :: .int i :: .ref a :: rest)) := by
  intro T hT X
  obtain ⟨t, st, q⟩ := k _ rfl T hT X
  refine ⟨t, ?_, q⟩
  have h1 := X.bastoreOut hexec (by rw [hT]; exact hP q0 _ ha) ((hK.2 t0 _ ht).1 n (fun j => .int (f j))) (j := i) (by show (i < 0 ∨ (arrV _ _ _).slots.size ≤ _); rw [arrV_size]; exact Classical.byContradiction hout) (g := F0 m pc ls (.int x :: .int i :: .ref a :: rest)) rfl (rest := rest) rfl (by rw [hb]; exact hdg) t
  simp only [arrV_size] at h1
  exact h1 st
theorem vx_caldZ {D : va_G} {cl : List vw_C} {ws : va_W} {tys : List (ClassId × FieldType)} {a : Nat} (hexec : p.tables.exec = Jvm.exec) (hb : c.code = cc) (hK : va_K D cl tys s) (hP : va_P D cl ws H) (q0 t0 : Nat) {cA : ClassId} {n : Nat} {f : Nat → Int32} (ha : ws[q0]? = some (a, .inl (cA, n, .inl f))) (ht : tys[t0]? = some (cA, .char)) {i : Int32} (hout : ¬ vp_in i n) (hdg : decode cc pc = .ok (.caload, 1))
    (k : ∀ tx : String, tx = (toString "Index " ++ toString i ++ toString " out of bounds for length " ++ toString n : String) → vx_Note p l e R s m args below meth c H locs cells slots Q (F0 m pc ls rest) "java/lang/ArrayIndexOutOfBoundsException" tx) : W p l e R s m args below meth c H locs cells slots Q (F0 m pc ls (.int i :: .ref a :: rest)) := by
  intro T hT X
  obtain ⟨t, st, q⟩ := k _ rfl T hT X
  refine ⟨t, ?_, q⟩
  have h1 := X.caloadOut hexec (by rw [hT]; exact hP q0 _ ha) ((hK.2 t0 _ ht).1 n (fun j => .int (f j))) (j := i) (by show (i < 0 ∨ (arrV _ _ _).slots.size ≤ _); rw [arrV_size]; exact Classical.byContradiction hout) (g := F0 m pc ls (.int i :: .ref a :: rest)) rfl (rest := rest) rfl (by rw [hb]; exact hdg) t
  simp only [arrV_size] at h1
  exact h1 st
theorem vx_castZ {D : va_G} {cl : List vw_C} {ws : va_W} {tys : List (ClassId × FieldType)} {a : Nat} (hexec : p.tables.exec = Jvm.exec) (hb : c.code = cc) (hK : va_K D cl tys s) (hP : va_P D cl ws H) (q0 t0 : Nat) {cA : ClassId} {n : Nat} {f : Nat → Int32} (ha : ws[q0]? = some (a, .inl (cA, n, .inl f))) (ht : tys[t0]? = some (cA, .char)) {i : Int32} {x : Int32} (hout : ¬ vp_in i n) (hdg : decode cc pc = .ok (.castore, 1))
    (k : ∀ tx : String, tx = (toString "Index " ++ toString i ++ toString " out of bounds for length " ++ toString n : String) → vx_Note p l e R s m args below meth c H locs cells slots Q (F0 m pc ls rest) "java/lang/ArrayIndexOutOfBoundsException" tx) : W p l e R s m args below meth c H locs cells slots Q (F0 m pc ls (.int x :: .int i :: .ref a :: rest)) := by
  intro T hT X
  obtain ⟨t, st, q⟩ := k _ rfl T hT X
  refine ⟨t, ?_, q⟩
  have h1 := X.castoreOut hexec (by rw [hT]; exact hP q0 _ ha) ((hK.2 t0 _ ht).1 n (fun j => .int (f j))) (j := i) (by show (i < 0 ∨ (arrV _ _ _).slots.size ≤ _); rw [arrV_size]; exact Classical.byContradiction hout) (g := F0 m pc ls (.int x :: .int i :: .ref a :: rest)) rfl (rest := rest) rfl (by rw [hb]; exact hdg) t
  simp only [arrV_size] at h1
  exact h1 st
theorem vx_saldZ {D : va_G} {cl : List vw_C} {ws : va_W} {tys : List (ClassId × FieldType)} {a : Nat} (hexec : p.tables.exec = Jvm.exec) (hb : c.code = cc) (hK : va_K D cl tys s) (hP : va_P D cl ws H) (q0 t0 : Nat) {cA : ClassId} {n : Nat} {f : Nat → Int32} (ha : ws[q0]? = some (a, .inl (cA, n, .inl f))) (ht : tys[t0]? = some (cA, .short)) {i : Int32} (hout : ¬ vp_in i n) (hdg : decode cc pc = .ok (.saload, 1))
    (k : ∀ tx : String, tx = (toString "Index " ++ toString i ++ toString " out of bounds for length " ++ toString n : String) → vx_Note p l e R s m args below meth c H locs cells slots Q (F0 m pc ls rest) "java/lang/ArrayIndexOutOfBoundsException" tx) : W p l e R s m args below meth c H locs cells slots Q (F0 m pc ls (.int i :: .ref a :: rest)) := by
  intro T hT X
  obtain ⟨t, st, q⟩ := k _ rfl T hT X
  refine ⟨t, ?_, q⟩
  have h1 := X.saloadOut hexec (by rw [hT]; exact hP q0 _ ha) ((hK.2 t0 _ ht).1 n (fun j => .int (f j))) (j := i) (by show (i < 0 ∨ (arrV _ _ _).slots.size ≤ _); rw [arrV_size]; exact Classical.byContradiction hout) (g := F0 m pc ls (.int i :: .ref a :: rest)) rfl (rest := rest) rfl (by rw [hb]; exact hdg) t
  simp only [arrV_size] at h1
  exact h1 st
theorem vx_sastZ {D : va_G} {cl : List vw_C} {ws : va_W} {tys : List (ClassId × FieldType)} {a : Nat} (hexec : p.tables.exec = Jvm.exec) (hb : c.code = cc) (hK : va_K D cl tys s) (hP : va_P D cl ws H) (q0 t0 : Nat) {cA : ClassId} {n : Nat} {f : Nat → Int32} (ha : ws[q0]? = some (a, .inl (cA, n, .inl f))) (ht : tys[t0]? = some (cA, .short)) {i : Int32} {x : Int32} (hout : ¬ vp_in i n) (hdg : decode cc pc = .ok (.sastore, 1))
    (k : ∀ tx : String, tx = (toString "Index " ++ toString i ++ toString " out of bounds for length " ++ toString n : String) → vx_Note p l e R s m args below meth c H locs cells slots Q (F0 m pc ls rest) "java/lang/ArrayIndexOutOfBoundsException" tx) : W p l e R s m args below meth c H locs cells slots Q (F0 m pc ls (.int x :: .int i :: .ref a :: rest)) := by
  intro T hT X
  obtain ⟨t, st, q⟩ := k _ rfl T hT X
  refine ⟨t, ?_, q⟩
  have h1 := X.sastoreOut hexec (by rw [hT]; exact hP q0 _ ha) ((hK.2 t0 _ ht).1 n (fun j => .int (f j))) (j := i) (by show (i < 0 ∨ (arrV _ _ _).slots.size ≤ _); rw [arrV_size]; exact Classical.byContradiction hout) (g := F0 m pc ls (.int x :: .int i :: .ref a :: rest)) rfl (rest := rest) rfl (by rw [hb]; exact hdg) t
  simp only [arrV_size] at h1
  exact h1 st
theorem vx_laldZ {D : va_G} {cl : List vw_C} {ws : va_W} {tys : List (ClassId × FieldType)} {a : Nat} (hexec : p.tables.exec = Jvm.exec) (hb : c.code = cc) (hK : va_K D cl tys s) (hP : va_P D cl ws H) (q0 t0 : Nat) {cA : ClassId} {n : Nat} {f : Nat → Int64} (ha : ws[q0]? = some (a, .inl (cA, n, .inr (.inl f)))) (ht : tys[t0]? = some (cA, .long)) {i : Int32} (hout : ¬ vp_in i n) (hdg : decode cc pc = .ok (.laload, 1))
    (k : ∀ tx : String, tx = (toString "Index " ++ toString i ++ toString " out of bounds for length " ++ toString n : String) → vx_Note p l e R s m args below meth c H locs cells slots Q (F0 m pc ls rest) "java/lang/ArrayIndexOutOfBoundsException" tx) : W p l e R s m args below meth c H locs cells slots Q (F0 m pc ls (.int i :: .ref a :: rest)) := by
  intro T hT X
  obtain ⟨t, st, q⟩ := k _ rfl T hT X
  refine ⟨t, ?_, q⟩
  have h1 := X.laloadOut hexec (by rw [hT]; exact hP q0 _ ha) ((hK.2 t0 _ ht).1 n (fun j => .long (f j))) (j := i) (by show (i < 0 ∨ (arrV _ _ _).slots.size ≤ _); rw [arrV_size]; exact Classical.byContradiction hout) (g := F0 m pc ls (.int i :: .ref a :: rest)) rfl (rest := rest) rfl (by rw [hb]; exact hdg) t
  simp only [arrV_size] at h1
  exact h1 st
theorem vx_lastZ {D : va_G} {cl : List vw_C} {ws : va_W} {tys : List (ClassId × FieldType)} {a : Nat} (hexec : p.tables.exec = Jvm.exec) (hb : c.code = cc) (hK : va_K D cl tys s) (hP : va_P D cl ws H) (q0 t0 : Nat) {cA : ClassId} {n : Nat} {f : Nat → Int64} (ha : ws[q0]? = some (a, .inl (cA, n, .inr (.inl f)))) (ht : tys[t0]? = some (cA, .long)) {i : Int32} {x : Int64} (hout : ¬ vp_in i n) (hdg : decode cc pc = .ok (.lastore, 1))
    (k : ∀ tx : String, tx = (toString "Index " ++ toString i ++ toString " out of bounds for length " ++ toString n : String) → vx_Note p l e R s m args below meth c H locs cells slots Q (F0 m pc ls rest) "java/lang/ArrayIndexOutOfBoundsException" tx) : W p l e R s m args below meth c H locs cells slots Q (F0 m pc ls (.long x :: .int i :: .ref a :: rest)) := by
  intro T hT X
  obtain ⟨t, st, q⟩ := k _ rfl T hT X
  refine ⟨t, ?_, q⟩
  have h1 := X.lastoreOut hexec (by rw [hT]; exact hP q0 _ ha) ((hK.2 t0 _ ht).1 n (fun j => .long (f j))) (j := i) (by show (i < 0 ∨ (arrV _ _ _).slots.size ≤ _); rw [arrV_size]; exact Classical.byContradiction hout) (g := F0 m pc ls (.long x :: .int i :: .ref a :: rest)) rfl (rest := rest) rfl (by rw [hb]; exact hdg) t
  simp only [arrV_size] at h1
  exact h1 st
theorem vx_faldZ {D : va_G} {cl : List vw_C} {ws : va_W} {tys : List (ClassId × FieldType)} {a : Nat} (hexec : p.tables.exec = Jvm.exec) (hb : c.code = cc) (hK : va_K D cl tys s) (hP : va_P D cl ws H) (q0 t0 : Nat) {cA : ClassId} {n : Nat} {f : Nat → UInt32} (ha : ws[q0]? = some (a, .inl (cA, n, .inr (.inr (.inl f))))) (ht : tys[t0]? = some (cA, .float)) {i : Int32} (hout : ¬ vp_in i n) (hdg : decode cc pc = .ok (.faload, 1))
    (k : ∀ tx : String, tx = (toString "Index " ++ toString i ++ toString " out of bounds for length " ++ toString n : String) → vx_Note p l e R s m args below meth c H locs cells slots Q (F0 m pc ls rest) "java/lang/ArrayIndexOutOfBoundsException" tx) : W p l e R s m args below meth c H locs cells slots Q (F0 m pc ls (.int i :: .ref a :: rest)) := by
  intro T hT X
  obtain ⟨t, st, q⟩ := k _ rfl T hT X
  refine ⟨t, ?_, q⟩
  have h1 := X.faloadOut hexec (by rw [hT]; exact hP q0 _ ha) ((hK.2 t0 _ ht).1 n (fun j => .float (f j))) (j := i) (by show (i < 0 ∨ (arrV _ _ _).slots.size ≤ _); rw [arrV_size]; exact Classical.byContradiction hout) (g := F0 m pc ls (.int i :: .ref a :: rest)) rfl (rest := rest) rfl (by rw [hb]; exact hdg) t
  simp only [arrV_size] at h1
  exact h1 st
theorem vx_fastZ {D : va_G} {cl : List vw_C} {ws : va_W} {tys : List (ClassId × FieldType)} {a : Nat} (hexec : p.tables.exec = Jvm.exec) (hb : c.code = cc) (hK : va_K D cl tys s) (hP : va_P D cl ws H) (q0 t0 : Nat) {cA : ClassId} {n : Nat} {f : Nat → UInt32} (ha : ws[q0]? = some (a, .inl (cA, n, .inr (.inr (.inl f))))) (ht : tys[t0]? = some (cA, .float)) {i : Int32} {x : UInt32} (hout : ¬ vp_in i n) (hdg : decode cc pc = .ok (.fastore, 1))
    (k : ∀ tx : String, tx = (toString "Index " ++ toString i ++ toString " out of bounds for length " ++ toString n : String) → vx_Note p l e R s m args below meth c H locs cells slots Q (F0 m pc ls rest) "java/lang/ArrayIndexOutOfBoundsException" tx) : W p l e R s m args below meth c H locs cells slots Q (F0 m pc ls (.float x :: .int i :: .ref a :: rest)) := by
  intro T hT X
  obtain ⟨t, st, q⟩ := k _ rfl T hT X
  refine ⟨t, ?_, q⟩
  have h1 := X.fastoreOut hexec (by rw [hT]; exact hP q0 _ ha) ((hK.2 t0 _ ht).1 n (fun j => .float (f j))) (j := i) (by show (i < 0 ∨ (arrV _ _ _).slots.size ≤ _); rw [arrV_size]; exact Classical.byContradiction hout) (g := F0 m pc ls (.float x :: .int i :: .ref a :: rest)) rfl (rest := rest) rfl (by rw [hb]; exact hdg) t
  simp only [arrV_size] at h1
  exact h1 st
theorem vx_daldZ {D : va_G} {cl : List vw_C} {ws : va_W} {tys : List (ClassId × FieldType)} {a : Nat} (hexec : p.tables.exec = Jvm.exec) (hb : c.code = cc) (hK : va_K D cl tys s) (hP : va_P D cl ws H) (q0 t0 : Nat) {cA : ClassId} {n : Nat} {f : Nat → UInt64} (ha : ws[q0]? = some (a, .inl (cA, n, .inr (.inr (.inr (.inl f)))))) (ht : tys[t0]? = some (cA, .double)) {i : Int32} (hout : ¬ vp_in i n) (hdg : decode cc pc = .ok (.daload, 1))
    (k : ∀ tx : String, tx = (toString "Index " ++ toString i ++ toString " out of bounds for length " ++ toString n : String) → vx_Note p l e R s m args below meth c H locs cells slots Q (F0 m pc ls rest) "java/lang/ArrayIndexOutOfBoundsException" tx) : W p l e R s m args below meth c H locs cells slots Q (F0 m pc ls (.int i :: .ref a :: rest)) := by
  intro T hT X
  obtain ⟨t, st, q⟩ := k _ rfl T hT X
  refine ⟨t, ?_, q⟩
  have h1 := X.daloadOut hexec (by rw [hT]; exact hP q0 _ ha) ((hK.2 t0 _ ht).1 n (fun j => .double (f j))) (j := i) (by show (i < 0 ∨ (arrV _ _ _).slots.size ≤ _); rw [arrV_size]; exact Classical.byContradiction hout) (g := F0 m pc ls (.int i :: .ref a :: rest)) rfl (rest := rest) rfl (by rw [hb]; exact hdg) t
  simp only [arrV_size] at h1
  exact h1 st
theorem vx_dastZ {D : va_G} {cl : List vw_C} {ws : va_W} {tys : List (ClassId × FieldType)} {a : Nat} (hexec : p.tables.exec = Jvm.exec) (hb : c.code = cc) (hK : va_K D cl tys s) (hP : va_P D cl ws H) (q0 t0 : Nat) {cA : ClassId} {n : Nat} {f : Nat → UInt64} (ha : ws[q0]? = some (a, .inl (cA, n, .inr (.inr (.inr (.inl f)))))) (ht : tys[t0]? = some (cA, .double)) {i : Int32} {x : UInt64} (hout : ¬ vp_in i n) (hdg : decode cc pc = .ok (.dastore, 1))
    (k : ∀ tx : String, tx = (toString "Index " ++ toString i ++ toString " out of bounds for length " ++ toString n : String) → vx_Note p l e R s m args below meth c H locs cells slots Q (F0 m pc ls rest) "java/lang/ArrayIndexOutOfBoundsException" tx) : W p l e R s m args below meth c H locs cells slots Q (F0 m pc ls (.double x :: .int i :: .ref a :: rest)) := by
  intro T hT X
  obtain ⟨t, st, q⟩ := k _ rfl T hT X
  refine ⟨t, ?_, q⟩
  have h1 := X.dastoreOut hexec (by rw [hT]; exact hP q0 _ ha) ((hK.2 t0 _ ht).1 n (fun j => .double (f j))) (j := i) (by show (i < 0 ∨ (arrV _ _ _).slots.size ≤ _); rw [arrV_size]; exact Classical.byContradiction hout) (g := F0 m pc ls (.double x :: .int i :: .ref a :: rest)) rfl (rest := rest) rfl (by rw [hb]; exact hdg) t
  simp only [arrV_size] at h1
  exact h1 st
theorem vx_arraylengthN (hexec : p.tables.exec = Jvm.exec) (hb : c.code = cc) (hdg : decode cc pc = .ok (.arraylength, 1)) (k : vx_NoteN p l e R s m args below meth c H locs cells slots Q (F0 m pc ls rest)) : W p l e R s m args below meth c H locs cells slots Q (F0 m pc ls (.null :: rest)) := by
  intro T hT X
  obtain ⟨t, st, q⟩ := k T hT X
  exact ⟨t, X.arraylengthNull hexec (g := F0 m pc ls (.null :: rest)) rfl (rest := rest) rfl (by rw [hb]; exact hdg) t st, q⟩
theorem vx_ialoadN (hexec : p.tables.exec = Jvm.exec) (hb : c.code = cc) {i : Int32} (hdg : decode cc pc = .ok (.iaload, 1)) (k : vx_NoteN p l e R s m args below meth c H locs cells slots Q (F0 m pc ls rest)) : W p l e R s m args below meth c H locs cells slots Q (F0 m pc ls (.int i :: .null :: rest)) := by
  intro T hT X
  obtain ⟨t, st, q⟩ := k T hT X
  exact ⟨t, X.ialoadNull hexec (g := F0 m pc ls (.int i :: .null :: rest)) rfl (rest := rest) rfl (by rw [hb]; exact hdg) t st, q⟩
theorem vx_laloadN (hexec : p.tables.exec = Jvm.exec) (hb : c.code = cc) {i : Int32} (hdg : decode cc pc = .ok (.laload, 1)) (k : vx_NoteN p l e R s m args below meth c H locs cells slots Q (F0 m pc ls rest)) : W p l e R s m args below meth c H locs cells slots Q (F0 m pc ls (.int i :: .null :: rest)) := by
  intro T hT X
  obtain ⟨t, st, q⟩ := k T hT X
  exact ⟨t, X.laloadNull hexec (g := F0 m pc ls (.int i :: .null :: rest)) rfl (rest := rest) rfl (by rw [hb]; exact hdg) t st, q⟩
theorem vx_faloadN (hexec : p.tables.exec = Jvm.exec) (hb : c.code = cc) {i : Int32} (hdg : decode cc pc = .ok (.faload, 1)) (k : vx_NoteN p l e R s m args below meth c H locs cells slots Q (F0 m pc ls rest)) : W p l e R s m args below meth c H locs cells slots Q (F0 m pc ls (.int i :: .null :: rest)) := by
  intro T hT X
  obtain ⟨t, st, q⟩ := k T hT X
  exact ⟨t, X.faloadNull hexec (g := F0 m pc ls (.int i :: .null :: rest)) rfl (rest := rest) rfl (by rw [hb]; exact hdg) t st, q⟩
theorem vx_daloadN (hexec : p.tables.exec = Jvm.exec) (hb : c.code = cc) {i : Int32} (hdg : decode cc pc = .ok (.daload, 1)) (k : vx_NoteN p l e R s m args below meth c H locs cells slots Q (F0 m pc ls rest)) : W p l e R s m args below meth c H locs cells slots Q (F0 m pc ls (.int i :: .null :: rest)) := by
  intro T hT X
  obtain ⟨t, st, q⟩ := k T hT X
  exact ⟨t, X.daloadNull hexec (g := F0 m pc ls (.int i :: .null :: rest)) rfl (rest := rest) rfl (by rw [hb]; exact hdg) t st, q⟩
theorem vx_aaloadN (hexec : p.tables.exec = Jvm.exec) (hb : c.code = cc) {i : Int32} (hdg : decode cc pc = .ok (.aaload, 1)) (k : vx_NoteN p l e R s m args below meth c H locs cells slots Q (F0 m pc ls rest)) : W p l e R s m args below meth c H locs cells slots Q (F0 m pc ls (.int i :: .null :: rest)) := by
  intro T hT X
  obtain ⟨t, st, q⟩ := k T hT X
  exact ⟨t, X.aaloadNull hexec (g := F0 m pc ls (.int i :: .null :: rest)) rfl (rest := rest) rfl (by rw [hb]; exact hdg) t st, q⟩
theorem vx_baloadN (hexec : p.tables.exec = Jvm.exec) (hb : c.code = cc) {i : Int32} (hdg : decode cc pc = .ok (.baload, 1)) (k : vx_NoteN p l e R s m args below meth c H locs cells slots Q (F0 m pc ls rest)) : W p l e R s m args below meth c H locs cells slots Q (F0 m pc ls (.int i :: .null :: rest)) := by
  intro T hT X
  obtain ⟨t, st, q⟩ := k T hT X
  exact ⟨t, X.baloadNull hexec (g := F0 m pc ls (.int i :: .null :: rest)) rfl (rest := rest) rfl (by rw [hb]; exact hdg) t st, q⟩
theorem vx_caloadN (hexec : p.tables.exec = Jvm.exec) (hb : c.code = cc) {i : Int32} (hdg : decode cc pc = .ok (.caload, 1)) (k : vx_NoteN p l e R s m args below meth c H locs cells slots Q (F0 m pc ls rest)) : W p l e R s m args below meth c H locs cells slots Q (F0 m pc ls (.int i :: .null :: rest)) := by
  intro T hT X
  obtain ⟨t, st, q⟩ := k T hT X
  exact ⟨t, X.caloadNull hexec (g := F0 m pc ls (.int i :: .null :: rest)) rfl (rest := rest) rfl (by rw [hb]; exact hdg) t st, q⟩
theorem vx_saloadN (hexec : p.tables.exec = Jvm.exec) (hb : c.code = cc) {i : Int32} (hdg : decode cc pc = .ok (.saload, 1)) (k : vx_NoteN p l e R s m args below meth c H locs cells slots Q (F0 m pc ls rest)) : W p l e R s m args below meth c H locs cells slots Q (F0 m pc ls (.int i :: .null :: rest)) := by
  intro T hT X
  obtain ⟨t, st, q⟩ := k T hT X
  exact ⟨t, X.saloadNull hexec (g := F0 m pc ls (.int i :: .null :: rest)) rfl (rest := rest) rfl (by rw [hb]; exact hdg) t st, q⟩
theorem vx_iastoreN (hexec : p.tables.exec = Jvm.exec) (hb : c.code = cc) {x : Int32} {i : Int32} (hdg : decode cc pc = .ok (.iastore, 1)) (k : vx_NoteN p l e R s m args below meth c H locs cells slots Q (F0 m pc ls rest)) : W p l e R s m args below meth c H locs cells slots Q (F0 m pc ls (.int x :: .int i :: .null :: rest)) := by
  intro T hT X
  obtain ⟨t, st, q⟩ := k T hT X
  exact ⟨t, X.iastoreNull hexec (g := F0 m pc ls (.int x :: .int i :: .null :: rest)) rfl (rest := rest) rfl (by rw [hb]; exact hdg) t st, q⟩
theorem vx_lastoreN (hexec : p.tables.exec = Jvm.exec) (hb : c.code = cc) {x : Int64} {i : Int32} (hdg : decode cc pc = .ok (.lastore, 1)) (k : vx_NoteN p l e R s m args below meth c H locs cells slots Q (F0 m pc ls rest)) : W p l e R s m args below meth c H locs cells slots Q (F0 m pc ls (.long x :: .int i :: .null :: rest)) := by
  intro T hT X
  obtain ⟨t, st, q⟩ := k T hT X
  exact ⟨t, X.lastoreNull hexec (g := F0 m pc ls (.long x :: .int i :: .null :: rest)) rfl (rest := rest) rfl (by rw [hb]; exact hdg) t st, q⟩
theorem vx_fastoreN (hexec : p.tables.exec = Jvm.exec) (hb : c.code = cc) {x : UInt32} {i : Int32} (hdg : decode cc pc = .ok (.fastore, 1)) (k : vx_NoteN p l e R s m args below meth c H locs cells slots Q (F0 m pc ls rest)) : W p l e R s m args below meth c H locs cells slots Q (F0 m pc ls (.float x :: .int i :: .null :: rest)) := by
  intro T hT X
  obtain ⟨t, st, q⟩ := k T hT X
  exact ⟨t, X.fastoreNull hexec (g := F0 m pc ls (.float x :: .int i :: .null :: rest)) rfl (rest := rest) rfl (by rw [hb]; exact hdg) t st, q⟩
theorem vx_dastoreN (hexec : p.tables.exec = Jvm.exec) (hb : c.code = cc) {x : UInt64} {i : Int32} (hdg : decode cc pc = .ok (.dastore, 1)) (k : vx_NoteN p l e R s m args below meth c H locs cells slots Q (F0 m pc ls rest)) : W p l e R s m args below meth c H locs cells slots Q (F0 m pc ls (.double x :: .int i :: .null :: rest)) := by
  intro T hT X
  obtain ⟨t, st, q⟩ := k T hT X
  exact ⟨t, X.dastoreNull hexec (g := F0 m pc ls (.double x :: .int i :: .null :: rest)) rfl (rest := rest) rfl (by rw [hb]; exact hdg) t st, q⟩
theorem vx_bastoreN (hexec : p.tables.exec = Jvm.exec) (hb : c.code = cc) {x : Int32} {i : Int32} (hdg : decode cc pc = .ok (.bastore, 1)) (k : vx_NoteN p l e R s m args below meth c H locs cells slots Q (F0 m pc ls rest)) : W p l e R s m args below meth c H locs cells slots Q (F0 m pc ls (.int x :: .int i :: .null :: rest)) := by
  intro T hT X
  obtain ⟨t, st, q⟩ := k T hT X
  exact ⟨t, X.bastoreNull hexec (g := F0 m pc ls (.int x :: .int i :: .null :: rest)) rfl (rest := rest) rfl (by rw [hb]; exact hdg) t st, q⟩
theorem vx_castoreN (hexec : p.tables.exec = Jvm.exec) (hb : c.code = cc) {x : Int32} {i : Int32} (hdg : decode cc pc = .ok (.castore, 1)) (k : vx_NoteN p l e R s m args below meth c H locs cells slots Q (F0 m pc ls rest)) : W p l e R s m args below meth c H locs cells slots Q (F0 m pc ls (.int x :: .int i :: .null :: rest)) := by
  intro T hT X
  obtain ⟨t, st, q⟩ := k T hT X
  exact ⟨t, X.castoreNull hexec (g := F0 m pc ls (.int x :: .int i :: .null :: rest)) rfl (rest := rest) rfl (by rw [hb]; exact hdg) t st, q⟩
theorem vx_sastoreN (hexec : p.tables.exec = Jvm.exec) (hb : c.code = cc) {x : Int32} {i : Int32} (hdg : decode cc pc = .ok (.sastore, 1)) (k : vx_NoteN p l e R s m args below meth c H locs cells slots Q (F0 m pc ls rest)) : W p l e R s m args below meth c H locs cells slots Q (F0 m pc ls (.int x :: .int i :: .null :: rest)) := by
  intro T hT X
  obtain ⟨t, st, q⟩ := k T hT X
  exact ⟨t, X.sastoreNull hexec (g := F0 m pc ls (.int x :: .int i :: .null :: rest)) rfl (rest := rest) rfl (by rw [hb]; exact hdg) t st, q⟩
theorem vx_invokeN {own C : String} {index maxL : Nat} {y : MethodName} {bytes : ByteArray} {ret : Option FieldType} (hexec : p.tables.exec = Jvm.exec) (hb : c.code = cc) (hown : s.vm.findClass own = some m.cls) (hlink : (Cond.methodLink own index y).before args s = true) (hinst : (Cond.instanceMethod y).before args s = true) (hcode : (Cond.code y bytes maxL ret).before args s = true) (hsel : (Cond.selects C y y).before args s = true)
    (hx : y.cls ≠ "java/lang/invoke/MethodHandle" ∧ y.cls ≠ "java/lang/invoke/VarHandle") {As : List Value} (hlen : (parseMethodDescriptor y.desc).map (fun d => d.parameters.length) = some As.length) (hdg : decode cc pc = .ok (.invokevirtual index, 3))
    (k : vx_NoteN p l e R s m args below meth c H locs cells slots Q (F0 m pc ls rest)) {st0 : List Value} (hst : st0 = As.reverse ++ .null :: rest) : W p l e R s m args below meth c H locs cells slots Q (F0 m pc ls st0) := by
  intro T hT X
  obtain ⟨r0, r, hn, hrm, hstR, hsigR⟩ := va_Decl.of hinst hcode
  obtain ⟨c2, r2, m2, q1, q2, q3, q4, kP, hkP, hkPi⟩ := Cond.selects_spec hsel
  cases hn.symm.trans q3
  have hl9 : As.length = r.sig.parameters.length := by
    rw [hsigR] at hlen
    exact (Option.some.inj hlen).symm
  obtain ⟨vm', X1, st1⟩ := X.invokevirtualNull hexec hown hlink hn hrm hstR hkP hkPi hx (g := F0 m pc ls st0) rfl (argsL := As) (rest := rest) hl9 hst (by rw [hb]; exact hdg)
  obtain ⟨t, st, q⟩ := k (T.setVm vm') hT X1
  exact ⟨t, st1 t st, q⟩
theorem vx_newarrayZ {atype : ArrayType} (hexec : p.tables.exec = Jvm.exec) (hb : c.code = cc) {n : Int32} (h0 : n < 0) (hdg : decode cc pc = .ok (.newarray atype, 2)) (k : ∀ tx : String, tx = toString n → vx_Note p l e R s m args below meth c H locs cells slots Q (F0 m pc ls rest) "java/lang/NegativeArraySizeException" tx) : W p l e R s m args below meth c H locs cells slots Q (F0 m pc ls (.int n :: rest)) := by
  intro T hT X
  obtain ⟨t, st, q⟩ := k _ rfl T hT X
  exact ⟨t, X.newarrayNegative hexec (g := F0 m pc ls (.int n :: rest)) rfl h0 (rest := rest) rfl (by rw [hb]; exact hdg) t st, q⟩
end
end VXM
/-! ===== END ===== -/
/-! ===== BEGIN an exception as an object: made, kept, thrown later (no traces kept) ===== -/
section VXK
variable {p : Program} {l : Launch} {e : Env} {R : Room} {s : State} {m₀ : MethodId} {args : Array Value} {below : List Frame} {meth : Method} {c : Code} {W : State} {locs : List Loc} {cells slots : Nat}
set_option maxHeartbeats 1000000 in
theorem vx_ctorMadeS (X : Stand p l e R s m₀ args below meth c W locs cells slots) (hexec : p.tables.exec = Jvm.exec) (htr : e.platform.stackTraces = false) {own cls : String} {names : List String} {ic : Nat}
    (hown : s.vm.findClass own = some m₀.cls) (hcls : Bundle.fit cls = true) (hnames : ∀ n ∈ names, Bundle.fit n = true)
    (h : ∀ a ∈ Bundle.ownAtoms own ic cls names, a.before args s = true)
    (hlocs : ∀ x ∈ locs, ∀ cell, s.heap[x.base]? = some cell → cell.vm.isStatics = false)
    {a : Addr} {cX : ClassId} {kX : Class} (hfoundX : s.vm.findClass cls = some cX) (hkX : s.vm.classes[cX]? = some kX) (hcell : W.heap[a]? = some (freshCell cX kX)) (hnew : s.heap.size ≤ a)
    {msg : Value} (hmsg : msg.isRef = true)
    {g : JFrame} (hg : g.method = m₀) (hsize : g.locals.size = c.maxLocals) {rest : List Value} (hstack : g.stack = msg :: .ref a :: .ref a :: rest)
    (hd6 : decode c.code g.pc = .ok (.invokespecial ic, 3))
    (hRframes : names.length + 3 < R.frames) (hRlocals : 2 * g.monitorRoom + ((Value.ref a :: rest).map fun v => v.category).sum + (13 * (names.length + 1) + 42) ≤ R.locals) :
    ∃ (V : State) (ce : Cell) (L : List Loc), Stand p l e R s m₀ args below meth c (V.setCell a ce) (locs ++ L) cells slots ∧ (∀ y ∈ L, y.base = a) ∧ a < V.heap.size ∧ ce.cls = cX ∧ ce.vm = .none ∧
      ∀ target, Steps p.tables e below ((V.setCell a ce).setTop { g with stack := .ref a :: rest, pc := g.pc + 3 }) target → Steps p.tables e below (W.setTop g) target := by
  have howns : e.platform.frameOwnsMonitors = true := by rw [X.admits.platform]
  have hfin : e.platform.finalization = false := by rw [X.admits.platform]
  have hpl : e.platform.magicAccessors = ({} : Platform).magicAccessors := by rw [X.admits.platform]
  have a' : ∀ x, x ∈ Bundle.ownAtoms own ic cls names → x.holds args s none s [] = true := fun x hx => h x hx
  obtain ⟨T, Z0, L, -, Y⟩ := ThrowableC.of_atoms (args := args) howns hfin hpl (fun x hx => h x (by simp [Bundle.ownAtoms, hx]))
  obtain ⟨Z, M, LZ, LM, hnZ⟩ := Init0T.ofS_atoms (args := args) hpl L Y (fun x hx => h x (by simp [Bundle.ownAtoms, hx]))
  obtain ⟨P1, Ps, hlen, L1, hL, hP1m, hlink1, hlink⟩ := Bundle.chainS (args := args) hpl hnZ names cls hcls hnames (fun x hx => h x (by simp [Bundle.ownAtoms, hx]))
  have hfound : s.vm.findClass cls = some P1.m.cls := findClass_of_methodNamed hP1m
  cases Option.some.inj (hfoundX.symm.trans hfound)
  obtain ⟨c1, kX', hc1, hk, hord, -, -, hn6⟩ := Cond.instantiable_spec (a' (.instantiable cls 6) (by simp [Bundle.ownAtoms]))
  cases Option.some.inj (hc1.symm.trans hfound)
  cases Option.some.inj (hkX.symm.trans hk)
  have hsel0 : selectMethod e.platform s.vm P1.m.cls T.fill0 = .method T.fill0 := by
    obtain ⟨c2, r2, m2, q1, q2, q3, q4, -⟩ := Cond.selects_spec (a' (.selects cls Bundle.tFill0 Bundle.tFill0) (by simp [Bundle.ownAtoms]))
    cases Option.some.inj (q1.symm.trans hfound)
    cases Option.some.inj (q2.symm.trans (State.methodFound?_of_named Y.fill0 (by decide)))
    cases Option.some.inj (q3.symm.trans Y.fill0)
    rw [Launch.admits_selectMethod X.admits]; exact q4
  have hselF : selectMethod e.platform s.vm P1.m.cls T.fill = .method T.fill := by
    obtain ⟨c2, r2, m2, q1, q2, q3, q4, -⟩ := Cond.selects_spec (a' (.selects cls Bundle.tFill Bundle.tFill) (by simp [Bundle.ownAtoms]))
    cases Option.some.inj (q1.symm.trans hfound)
    cases Option.some.inj (q2.symm.trans (State.methodFound?_of_named Y.fill (by decide)))
    cases Option.some.inj (q3.symm.trans Y.fill)
    rw [Launch.admits_selectMethod X.admits]; exact q4
  obtain ⟨cellS0, hcS0, hiss⟩ := Y.statics
  obtain ⟨u0, hu0⟩ := Cond.staticRefV Y.unassigned L.unassignedStatic L.statics hcS0 hiss (a' (.isRef (.static Bundle.tN "UNASSIGNED_STACK" Bundle.steD)) (by simp [Bundle.ownAtoms]))
  obtain ⟨sen, hsen⟩ := Cond.staticRefV Y.sentinel L.sentinelStatic L.statics hcS0 hiss (a' (.isRef (.static Bundle.tN "SUPPRESSED_SENTINEL" Bundle.listD)) (by simp [Bundle.ownAtoms]))
  obtain ⟨ci198, i198, fB, hk198, hg198, ha198, hsB, -, hnB, htB, hffB⟩ := Cond.ownField (t := .object "java/lang/Object") Y.found L.cls (by decide +kernel) (a' (.fieldLink Bundle.tN 198 Bundle.tN "backtrace" "Ljava/lang/Object;") (by simp [Bundle.ownAtoms])) (a' (.lays Bundle.tN Bundle.tN "backtrace" "Ljava/lang/Object;") (by simp [Bundle.ownAtoms])) e.platform hpl
  obtain ⟨cellS, hcS', heS, -, hkeep⟩ := X.same.2.2.2.2.2 T.aS cellS0 hcS0
  have hcellS : W.heap[T.aS]? = some cellS := hcS'
  have hout' : ∀ i, (⟨T.aS, i⟩ : Loc) ∉ locs := fun i hmem => by
    have := hlocs _ hmem cellS0 hcS0
    rw [hiss] at this; cases this
  have hknownS : cellS.vm ≠ .unknown := by
    rw [heS]; intro hu
    rw [show cellS0.vm = .unknown from hu] at hiss
    cases hiss
  have hneS : T.aS ≠ a := Nat.ne_of_lt (Nat.lt_of_lt_of_le (Array.getElem?_eq_some_iff.mp hcS0).1 hnew)
  obtain ⟨iM, hffM⟩ := Y.msg
  obtain ⟨tyC, dC, hdC, hdnC⟩ := Cond.laysAt hfound hk Y.cause (a' (.lays cls Bundle.tN "cause" "Ljava/lang/Throwable;") (by simp [Bundle.ownAtoms]))
  obtain ⟨tyS, dS, hdS, hdnS⟩ := Cond.laysAt hfound hk Y.stack (a' (.lays cls Bundle.tN "stackTrace" Bundle.steD) (by simp [Bundle.ownAtoms]))
  obtain ⟨tyP, dP, hdP, hdnP⟩ := Cond.laysAt hfound hk Y.supp (a' (.lays cls Bundle.tN "suppressedExceptions" Bundle.listD) (by simp [Bundle.ownAtoms]))
  obtain ⟨tyM, dM, hdM, hdnM⟩ := Cond.laysAt hfound hk hffM (a' (.lays cls Bundle.tN "detailMessage" "Ljava/lang/String;") (by simp [Bundle.ownAtoms]))
  obtain ⟨tyB, dB, hdB, hdnB⟩ := Cond.laysAt hfound hk hffB (a' (.lays cls Bundle.tN "backtrace" "Ljava/lang/Object;") (by simp [Bundle.ownAtoms]))
  have bC := Cond.laysApart hdB hdC hdnB hdnC (by rw [hnB, Y.causeName]; decide)
  have bS := Cond.laysApart hdB hdS hdnB hdnS (by rw [hnB, Y.stackName]; decide)
  have bP := Cond.laysApart hdB hdP hdnB hdnP (by rw [hnB, Y.suppName]; decide)
  have hskip : SkipFacts T e.platform s (fun u => u) u0 ((preparedCellV T.toThrowableT (freshCell P1.m.cls kX) a u0 sen).withEntry W.cur) :=
    ⟨{ ci198 := ci198, i198 := i198, fBack := fB }, ⟨hk198, hg198, ha198, hsB⟩, by
      have := fresh_default (c := P1.m.cls) tyB
      rw [htB] at this
      simpa [preparedCellV, Cell.setSlot, Cell.withEntry, Array.getElem?_setIfInBounds, bC, bS, bP, bC.symm, bS.symm, bP.symm, defaultValue] using this, fun _ _ => rfl⟩
  obtain ⟨tm, methC, cdC, kC, vm₁, hnC, -, -, -, -, -, -, -, hW₁, st1⟩ := Steps.initColdS (tb := p.tables) (e := e) (below := below) (s := s) (U := W) X.here hexec X.warmed hpl hown (t := Bundle.initS cls) rfl rfl (Bundle.fit_spec hcls).2
    (a' (.methodLink own ic (Bundle.initS cls)) (by simp [Bundle.ownAtoms])) (h (.instanceMethod (Bundle.initS cls)) (by cases names <;> simp [Bundle.ownAtoms, Bundle.chainSAtoms, Bundle.passSAtoms])) (bytes := Bundle.six) (maxL := 2) (h (.code (Bundle.initS cls) Bundle.six 2 none) (by cases names <;> simp [Bundle.ownAtoms, Bundle.chainSAtoms, Bundle.passSAtoms]))
    (f := g) hg (a := a) (msg := msg) (rest := .ref a :: rest) hstack hd6
  cases Option.some.inj (hnC.symm.trans hP1m)
  have X₁ := X.noted hW₁
  obtain ⟨vm₂, X₂, st2⟩ := X₁.ctorMessageOffV hexec (g := { g with stack := .ref a :: rest }) hg hsize T L Z LZ M LM (P1 :: Ps)
    (fun P hP => by rcases List.mem_cons.mp hP with rfl | hP; exact L1; exact hL P hP) ⟨hlink1, hlink⟩ (u0 := u0) (sen := sen) (self := a) hmsg (cell := freshCell P1.m.cls kX) (cellS := cellS)
    hcell (fun _ => by simp) (by simp) rfl rfl hsel0 hselF hcellS hneS hknownS (by rw [hkeep _ (hout' _)]; exact hu0) (by rw [hkeep _ (hout' _)]; exact hsen)
    (Takes.of_laid hk hord tyC (by rw [Y.causeType]; rfl)) (Takes.of_laid hk hord tyS (by rw [Y.stackType]; exact fits_refV_array _ u0)) (Takes.of_laid hk hord tyP (by rw [Y.suppType]; exact fits_refV_object _ sen))
    (Takes.of_laid hk hord tyM (by rw [Y.msgType]; exact fits_refV_object _ ⟨msg, hmsg⟩)) Y.objLocals hskip htr [] hd6
    (by simp only [List.length_cons, hlen]; omega) (by simp only [List.length_cons, hlen]; exact hRlocals)
  have hlt : a < ((W.setVm vm₁).setVm vm₂).heap.size := (Array.getElem?_eq_some_iff.mp hcell).1
  refine ⟨(W.setVm vm₁).setVm vm₂, _, _, X₂, fun y hy => ?_, hlt, rfl, rfl, fun target hwalk => st1 _ (fun acts => ?_)⟩
  · simp only [List.mem_cons, List.not_mem_nil, or_false] at hy
    rcases hy with rfl | rfl | rfl | rfl | rfl <;> rfl
  · rw [doInvoke_state]
    exact st2 _ hwalk
set_option maxHeartbeats 1000000 in
theorem vx_ctorMade0 (X : Stand p l e R s m₀ args below meth c W locs cells slots) (hexec : p.tables.exec = Jvm.exec) (htr : e.platform.stackTraces = false) {own cls : String} {names : List String} {ic : Nat}
    (hown : s.vm.findClass own = some m₀.cls) (hcls : Bundle.fit cls = true) (hnames : ∀ n ∈ names, Bundle.fit n = true)
    (h : ∀ a ∈ Bundle.ownAtoms0 own ic cls names, a.before args s = true)
    (hlocs : ∀ x ∈ locs, ∀ cell, s.heap[x.base]? = some cell → cell.vm.isStatics = false)
    {a : Addr} {cX : ClassId} {kX : Class} (hfoundX : s.vm.findClass cls = some cX) (hkX : s.vm.classes[cX]? = some kX) (hcell : W.heap[a]? = some (freshCell cX kX)) (hnew : s.heap.size ≤ a)
    {g : JFrame} (hg : g.method = m₀) (hsize : g.locals.size = c.maxLocals) {rest : List Value} (hstack : g.stack = .ref a :: .ref a :: rest)
    (hd6 : decode c.code g.pc = .ok (.invokespecial ic, 3))
    (hRframes : names.length + 3 < R.frames) (hRlocals : 2 * g.monitorRoom + ((Value.ref a :: rest).map fun v => v.category).sum + (13 * (names.length + 1) + 41) ≤ R.locals) :
    ∃ (V : State) (ce : Cell) (L : List Loc), Stand p l e R s m₀ args below meth c (V.setCell a ce) (locs ++ L) cells slots ∧ (∀ y ∈ L, y.base = a) ∧ a < V.heap.size ∧ ce.cls = cX ∧ ce.vm = .none ∧
      ∀ target, Steps p.tables e below ((V.setCell a ce).setTop { g with stack := .ref a :: rest, pc := g.pc + 3 }) target → Steps p.tables e below (W.setTop g) target := by
  have howns : e.platform.frameOwnsMonitors = true := by rw [X.admits.platform]
  have hfin : e.platform.finalization = false := by rw [X.admits.platform]
  have hpl : e.platform.magicAccessors = ({} : Platform).magicAccessors := by rw [X.admits.platform]
  have a' : ∀ x, x ∈ Bundle.ownAtoms0 own ic cls names → x.holds args s none s [] = true := fun x hx => h x hx
  obtain ⟨T, Z, L, LZ, Y⟩ := ThrowableC.of_atoms (args := args) howns hfin hpl (fun x hx => h x (by simp [Bundle.ownAtoms0, hx]))
  obtain ⟨P1, Ps, hlen, L1, hL, hP1m, hlink1, hlink⟩ := Bundle.chain0 (args := args) hpl Y.init0 names cls hcls hnames (fun x hx => h x (by simp [Bundle.ownAtoms0, hx]))
  have hfound : s.vm.findClass cls = some P1.m.cls := findClass_of_methodNamed hP1m
  cases Option.some.inj (hfoundX.symm.trans hfound)
  obtain ⟨c1, kX', hc1, hk, hord, -, -, hn6⟩ := Cond.instantiable_spec (a' (.instantiable cls 6) (by simp [Bundle.ownAtoms0]))
  cases Option.some.inj (hc1.symm.trans hfound)
  cases Option.some.inj (hkX.symm.trans hk)
  have hsel0 : selectMethod e.platform s.vm P1.m.cls T.fill0 = .method T.fill0 := by
    obtain ⟨c2, r2, m2, q1, q2, q3, q4, -⟩ := Cond.selects_spec (a' (.selects cls Bundle.tFill0 Bundle.tFill0) (by simp [Bundle.ownAtoms0]))
    cases Option.some.inj (q1.symm.trans hfound)
    cases Option.some.inj (q2.symm.trans (State.methodFound?_of_named Y.fill0 (by decide)))
    cases Option.some.inj (q3.symm.trans Y.fill0)
    rw [Launch.admits_selectMethod X.admits]; exact q4
  have hselF : selectMethod e.platform s.vm P1.m.cls T.fill = .method T.fill := by
    obtain ⟨c2, r2, m2, q1, q2, q3, q4, -⟩ := Cond.selects_spec (a' (.selects cls Bundle.tFill Bundle.tFill) (by simp [Bundle.ownAtoms0]))
    cases Option.some.inj (q1.symm.trans hfound)
    cases Option.some.inj (q2.symm.trans (State.methodFound?_of_named Y.fill (by decide)))
    cases Option.some.inj (q3.symm.trans Y.fill)
    rw [Launch.admits_selectMethod X.admits]; exact q4
  obtain ⟨cellS0, hcS0, hiss⟩ := Y.statics
  obtain ⟨u0, hu0⟩ := Cond.staticRefV Y.unassigned L.unassignedStatic L.statics hcS0 hiss (a' (.isRef (.static Bundle.tN "UNASSIGNED_STACK" Bundle.steD)) (by simp [Bundle.ownAtoms0]))
  obtain ⟨sen, hsen⟩ := Cond.staticRefV Y.sentinel L.sentinelStatic L.statics hcS0 hiss (a' (.isRef (.static Bundle.tN "SUPPRESSED_SENTINEL" Bundle.listD)) (by simp [Bundle.ownAtoms0]))
  obtain ⟨ci198, i198, fB, hk198, hg198, ha198, hsB, -, hnB, htB, hffB⟩ := Cond.ownField (t := .object "java/lang/Object") Y.found L.cls (by decide +kernel) (a' (.fieldLink Bundle.tN 198 Bundle.tN "backtrace" "Ljava/lang/Object;") (by simp [Bundle.ownAtoms0])) (a' (.lays Bundle.tN Bundle.tN "backtrace" "Ljava/lang/Object;") (by simp [Bundle.ownAtoms0])) e.platform hpl
  obtain ⟨cellS, hcS', heS, -, hkeep⟩ := X.same.2.2.2.2.2 T.aS cellS0 hcS0
  have hcellS : W.heap[T.aS]? = some cellS := hcS'
  have hout' : ∀ i, (⟨T.aS, i⟩ : Loc) ∉ locs := fun i hmem => by
    have := hlocs _ hmem cellS0 hcS0
    rw [hiss] at this; cases this
  have hknownS : cellS.vm ≠ .unknown := by
    rw [heS]; intro hu
    rw [show cellS0.vm = .unknown from hu] at hiss
    cases hiss
  have hneS : T.aS ≠ a := Nat.ne_of_lt (Nat.lt_of_lt_of_le (Array.getElem?_eq_some_iff.mp hcS0).1 hnew)
  obtain ⟨iM, hffM⟩ := Y.msg
  obtain ⟨tyC, dC, hdC, hdnC⟩ := Cond.laysAt hfound hk Y.cause (a' (.lays cls Bundle.tN "cause" "Ljava/lang/Throwable;") (by simp [Bundle.ownAtoms0]))
  obtain ⟨tyS, dS, hdS, hdnS⟩ := Cond.laysAt hfound hk Y.stack (a' (.lays cls Bundle.tN "stackTrace" Bundle.steD) (by simp [Bundle.ownAtoms0]))
  obtain ⟨tyP, dP, hdP, hdnP⟩ := Cond.laysAt hfound hk Y.supp (a' (.lays cls Bundle.tN "suppressedExceptions" Bundle.listD) (by simp [Bundle.ownAtoms0]))
  obtain ⟨tyM, dM, hdM, hdnM⟩ := Cond.laysAt hfound hk hffM (a' (.lays cls Bundle.tN "detailMessage" "Ljava/lang/String;") (by simp [Bundle.ownAtoms0]))
  obtain ⟨tyB, dB, hdB, hdnB⟩ := Cond.laysAt hfound hk hffB (a' (.lays cls Bundle.tN "backtrace" "Ljava/lang/Object;") (by simp [Bundle.ownAtoms0]))
  have bC := Cond.laysApart hdB hdC hdnB hdnC (by rw [hnB, Y.causeName]; decide)
  have bS := Cond.laysApart hdB hdS hdnB hdnS (by rw [hnB, Y.stackName]; decide)
  have bP := Cond.laysApart hdB hdP hdnB hdnP (by rw [hnB, Y.suppName]; decide)
  have hskip : SkipFacts T e.platform s (fun u => u) u0 ((preparedCellV T.toThrowableT (freshCell P1.m.cls kX) a u0 sen).withEntry W.cur) :=
    ⟨{ ci198 := ci198, i198 := i198, fBack := fB }, ⟨hk198, hg198, ha198, hsB⟩, by
      have := fresh_default (c := P1.m.cls) tyB
      rw [htB] at this
      simpa [preparedCellV, Cell.setSlot, Cell.withEntry, Array.getElem?_setIfInBounds, bC, bS, bP, bC.symm, bS.symm, bP.symm, defaultValue] using this, fun _ _ => rfl⟩
  obtain ⟨tm, methC, cdC, kC, vm₁, hnC, -, -, -, -, -, -, -, hW₁, st1⟩ := Steps.initCold (tb := p.tables) (e := e) (below := below) (s := s) (U := W) X.here hexec X.warmed hpl hown (t := Bundle.init0 cls) rfl rfl (Bundle.fit_spec hcls).2
    (a' (.methodLink own ic (Bundle.init0 cls)) (by simp [Bundle.ownAtoms0])) (h (.instanceMethod (Bundle.init0 cls)) (by cases names <;> simp [Bundle.ownAtoms0, Bundle.chain0Atoms, Bundle.passAtoms])) (bytes := Bundle.five) (maxL := 1) (h (.code (Bundle.init0 cls) Bundle.five 1 none) (by cases names <;> simp [Bundle.ownAtoms0, Bundle.chain0Atoms, Bundle.passAtoms]))
    (f := g) hg (a := a) (rest := .ref a :: rest) hstack hd6
  cases Option.some.inj (hnC.symm.trans hP1m)
  have X₁ := X.noted hW₁
  obtain ⟨vm₂, X₂, st2⟩ := X₁.ctorPlainOffV hexec (g := { g with stack := .ref a :: rest }) hg hsize T L Z LZ (P1 :: Ps)
    (fun P hP => by rcases List.mem_cons.mp hP with rfl | hP; exact L1; exact hL P hP) ⟨hlink1, hlink⟩ (u0 := u0) (sen := sen) (self := a) (cell := freshCell P1.m.cls kX) (cellS := cellS)
    hcell (fun _ => by simp) (by simp) rfl rfl hsel0 hselF hcellS hneS hknownS (by rw [hkeep _ (hout' _)]; exact hu0) (by rw [hkeep _ (hout' _)]; exact hsen)
    (Takes.of_laid hk hord tyC (by rw [Y.causeType]; rfl)) (Takes.of_laid hk hord tyS (by rw [Y.stackType]; exact fits_refV_array _ u0)) (Takes.of_laid hk hord tyP (by rw [Y.suppType]; exact fits_refV_object _ sen)) Y.objLocals hskip htr [] hd6
    (by simp only [List.length_cons, hlen]; omega) (by simp only [List.length_cons, hlen]; exact hRlocals)
  have hlt : a < ((W.setVm vm₁).setVm vm₂).heap.size := (Array.getElem?_eq_some_iff.mp hcell).1
  refine ⟨(W.setVm vm₁).setVm vm₂, _, _, X₂, fun y hy => ?_, hlt, rfl, rfl, fun target hwalk => st1 _ (fun acts => ?_)⟩
  · simp only [List.mem_cons, List.not_mem_nil, or_false] at hy
    rcases hy with rfl | rfl | rfl | rfl <;> rfl
  · rw [doInvoke_state]
    exact st2 _ hwalk
end VXK
section VXK2
variable {p : Program} {l : Launch} {e : Env} {R : Room} {s : State} {m : MethodId} {args : Array Value} {below : List Frame} {meth : Method} {c : Code} {H : Heap} {locs : List Loc} {cells slots : Nat} {Q : State → Prop}
variable {ls : Array Slot} {rest : List Value} {D : va_G} {cl : List vw_C} {tys : List (ClassId × FieldType)} {ws : va_W}
/-- 'new E("text")' that isn't thrown at once: the object goes on the stack -/
theorem vx_makeS {cc : ByteArray} {pc : Nat} (hexec : p.tables.exec = Jvm.exec) (hb : c.code = cc) (hl : l.stackTraces = false) {own cls text : String} {names : List String} {ik is ic sa ci : Nat} {A : Nat → Prop} {T0 : u_T}
    (hown : s.vm.findClass own = some m.cls) (hcls : Bundle.fit cls = true) (hnames : ∀ n ∈ names, Bundle.fit n = true)
    (hk : (Cond.classLink own ik cls).before args s = true) (hini : (Cond.initialized cls).before args s = true) (hstr : vk_R own is text sa s) (hat : ∀ w ∈ vx_atS own ic cls names, w.before args s = true)
    (hgood : ∀ w ∈ Cond.classLink own ik cls :: Cond.initialized cls :: vx_atS own ic cls names, vx_ot w = true)
    (hU : vx_Zq Bundle.tN "UNASSIGNED_STACK" Bundle.steD A s s.heap) (hN : vx_Zq Bundle.tN "SUPPRESSED_SENTINEL" Bundle.listD A s s.heap) (hS : va_S A s.heap H locs) (hsize : ls.size = c.maxLocals)
    (d0 : decode cc pc = .ok (.new ik, 3)) (d3 : decode cc (pc + 3) = .ok (.dup, 1)) (d4 : decode cc (pc + 4) = .ok (.ldc is, 2)) (d6 : decode cc (pc + 6) = .ok (.invokespecial ic, 3))
    (hK : va_K D cl tys s) (hP : va_P D cl ws H) (hD : va_D A ws) (hA : ∀ q, s.heap.size ≤ q → A q) (hc : cl[ci]? = some (cls, T0, 0))
    (hRframes : names.length + 3 < R.frames) (hRlocals : (rest.map fun v => v.category).sum + (13 * (names.length + 1) + 43) ≤ R.locals) (hRcells : cells + 1 ≤ R.cells) (hRslots : slots + 6 ≤ R.slots)
    (kk : ∀ (q : Nat) (H1 : Heap), va_P D cl (ws ++ [(q, .inr (ci, []))]) H1 → va_D A (ws ++ [(q, .inr (ci, []))]) → va_S A s.heap H1 locs → W p l e R s m args below meth c H1 locs (cells + 1) (slots + 6) Q (F0 m (pc + 9) ls (.ref q :: rest))) :
    W p l e R s m args below meth c H locs cells slots Q (F0 m pc ls rest) := by
  intro T hT X
  subst hT
  have htr : e.platform.stackTraces = false := (show e.platform.stackTraces = l.stackTraces by rw [X.admits.platform]).trans hl
  have Y := vx_rebase X (R' := { frames := R.frames, locals := R.locals, cells := 1, slots := 6 }) (Nat.le_refl _) (Nat.le_refl _) hRcells hRslots
  obtain ⟨s', hA'⟩ : ∃ z, z = (T.setVm s.vm).setFrames (.invoking m args :: below) := ⟨_, rfl⟩
  rw [← hA'] at Y
  have hvm : s'.vm = s.vm := by rw [hA']; rfl
  have hhp : s'.heap = T.heap := by rw [hA']; rfl
  have hW0 : s.WarmedH s'.vm := by rw [hvm]; exact State.WarmedH.refl s
  have hat' : ∀ w ∈ vx_atS own ic cls names, w.before args s' = true := fun w hw => vx_ot_at hW0 hvm.symm (hgood w (List.mem_cons_of_mem _ (List.mem_cons_of_mem _ hw))) (hat w hw)
  have hk' : (Cond.classLink own ik cls).before args s' = true := vx_ot_at hW0 hvm.symm (hgood _ List.mem_cons_self) hk
  have hini' : (Cond.initialized cls).before args s' = true := vx_ot_at hW0 hvm.symm (hgood _ (List.mem_cons_of_mem _ List.mem_cons_self)) hini
  have hU' : vx_Zq Bundle.tN "UNASSIGNED_STACK" Bundle.steD A s' s'.heap := by rw [hhp]; exact vx_Zq.moved hW0.alike (hU.kept hS.2.1)
  have hN' : vx_Zq Bundle.tN "SUPPRESSED_SENTINEL" Bundle.listD A s' s'.heap := by rw [hhp]; exact vx_Zq.moved hW0.alike (hN.kept hS.2.1)
  have h : ∀ w ∈ Bundle.ownAtoms own ic cls names, w.before args s' = true := vx_own hat' (vx_isRefq hU'.1) (vx_isRefq hN'.1) hU'.2.word hN'.2.word
  have hown' : s'.vm.findClass own = some m.cls := by rw [hvm]; exact hown
  have hins : (Cond.instantiable cls 6).before args s' = true := h _ (by simp [Bundle.ownAtoms])
  obtain ⟨vm₁, cX, kX, hfX, hkX, -, -, X₁, st1⟩ := Y.newCold hexec (own := own) (C := cls) (index := ik) (n := 6) hown' hk' hins hini'
    (g := F0 m pc ls rest) rfl (by rw [hb]; exact d0) (Nat.le_refl _) (Nat.le_refl _)
  generalize hT1 : (T.setVm vm₁).pushCell { cls := cX, slots := kX.instanceTypes.map defaultValue, vm := .none } = T1 at X₁ st1
  have hcat : (Value.ref T.heap.size).category = 1 := rfl
  have hcellA : T1.heap[T.heap.size]? = some (freshCell cX kX) := by rw [← hT1]; exact State.heap_pushCell_size _ _
  have d3' : decode c.code (pc + 3) = .ok (.dup, 1) := by rw [hb]; exact d3
  have d4' : decode c.code (pc + 4) = .ok (.ldc is, 2) := by rw [hb]; exact d4
  have hstr' : vk_R own is text sa s' := vk_R.warm hW0 hstr
  obtain ⟨V, ce, L, Z, hL, hlt, hcl9, hvm9, st⟩ := vx_ctorMadeS X₁ hexec htr (own := own) (cls := cls) (names := names) (ic := ic) hown' hcls hnames h (fun x hx => nomatch hx) hfX hkX hcellA (by rw [hhp]; exact Nat.le_refl _) (msg := .ref sa) rfl
    (g := { method := m, pc := pc + 6, locals := ls, stack := .ref sa :: .ref T.heap.size :: .ref T.heap.size :: rest, locked := none }) rfl hsize (rest := rest) rfl
    (by rw [hb]; exact d6) hRframes (by simp only [List.map_cons, List.sum_cons, hcat]; omega)
  have Z0 := Stand.forget (locs := []) Z (fun y hy => by rw [hL y hy, hhp]; exact Nat.le_refl _)
  obtain ⟨f1, f2⟩ := vx_frame Z0.same
  rw [hhp] at f1 f2
  have hcid : ce.cls = D.1 ci := by
    rw [hcl9]
    have h1 := (hK.1 ci _ hc).2.1
    rw [hvm] at hfX
    exact Option.some.inj (hfX.symm.trans h1)
  have hh : (V.setCell T.heap.size ce).heap[T.heap.size]? = some ce := heapAt_setCell_self (s := V) ce hlt
  subst hA'
  have X5 := vx_back9 X Y Z0
  have X6 : Stand p l e R s m args below meth c (V.setCell T.heap.size ce) locs (cells + 1) (slots + 6) := { X5 with same := X5.same.mono (by omega) (by omega) }
  have hk9 : ∀ (k : Nat) (x : Nat × va_E), ws[k]? = some x → (V.setCell T.heap.size ce).heap[x.1]? = T.heap[x.1]? := fun k x hx => f2 x.1 ((hP k x hx).lt) (fun z hz => nomatch hz)
  obtain ⟨t, a1, b1⟩ := kk T.heap.size (V.setCell T.heap.size ce).heap ((hP.kept hk9).app (fun k x hx => by
      have hz : k < 1 := (List.getElem?_eq_some_iff.mp hx).1
      rw [show k = 0 by omega] at hx
      cases hx
      exact ⟨_, hc, ce, hh, hcid, hvm9, fun k hk => absurd hk (Nat.not_lt_zero k)⟩)) (hD.push hP rfl (hA _ hS.1)) ⟨Nat.le_trans hS.1 f1, fun q h1 h2 => (f2 q (Nat.lt_of_lt_of_le h1 hS.1) (fun z hz => nomatch hz)).trans (hS.2.1 q h1 h2), hS.2.2⟩ _ rfl X6
  refine ⟨t, st1 _ ?_, b1⟩
  show Steps p.tables e below (T1.setTop { method := m, pc := pc + 3, locals := ls, stack := .ref T.heap.size :: rest, locked := none }) _
  jvm_step X₁.here [X₁.here.top, hexec, d3', Value.category]
  exact X₁.ldcString hexec (own := own) (text := text) (index := is) (a := sa) hown' hstr'.1 hstr'.2
    (g := { method := m, pc := pc + 4, locals := ls, stack := .ref T.heap.size :: .ref T.heap.size :: rest, locked := none }) rfl d4' _ (st _ a1)
/-- 'new E()' that isn't thrown at once: the object goes on the stack -/
theorem vx_make0 {cc : ByteArray} {pc : Nat} (hexec : p.tables.exec = Jvm.exec) (hb : c.code = cc) (hl : l.stackTraces = false) {own cls : String} {names : List String} {ik ic ci : Nat} {A : Nat → Prop} {T0 : u_T}
    (hown : s.vm.findClass own = some m.cls) (hcls : Bundle.fit cls = true) (hnames : ∀ n ∈ names, Bundle.fit n = true)
    (hk : (Cond.classLink own ik cls).before args s = true) (hini : (Cond.initialized cls).before args s = true) (hat : ∀ w ∈ vx_at0 own ic cls names, w.before args s = true)
    (hgood : ∀ w ∈ Cond.classLink own ik cls :: Cond.initialized cls :: vx_at0 own ic cls names, vx_ot w = true)
    (hU : vx_Zq Bundle.tN "UNASSIGNED_STACK" Bundle.steD A s s.heap) (hN : vx_Zq Bundle.tN "SUPPRESSED_SENTINEL" Bundle.listD A s s.heap) (hS : va_S A s.heap H locs) (hsize : ls.size = c.maxLocals)
    (d0 : decode cc pc = .ok (.new ik, 3)) (d3 : decode cc (pc + 3) = .ok (.dup, 1)) (d4 : decode cc (pc + 4) = .ok (.invokespecial ic, 3))
    (hK : va_K D cl tys s) (hP : va_P D cl ws H) (hD : va_D A ws) (hA : ∀ q, s.heap.size ≤ q → A q) (hc : cl[ci]? = some (cls, T0, 0))
    (hRframes : names.length + 3 < R.frames) (hRlocals : (rest.map fun v => v.category).sum + (13 * (names.length + 1) + 42) ≤ R.locals) (hRcells : cells + 1 ≤ R.cells) (hRslots : slots + 6 ≤ R.slots)
    (kk : ∀ (q : Nat) (H1 : Heap), va_P D cl (ws ++ [(q, .inr (ci, []))]) H1 → va_D A (ws ++ [(q, .inr (ci, []))]) → va_S A s.heap H1 locs → W p l e R s m args below meth c H1 locs (cells + 1) (slots + 6) Q (F0 m (pc + 7) ls (.ref q :: rest))) :
    W p l e R s m args below meth c H locs cells slots Q (F0 m pc ls rest) := by
  intro T hT X
  subst hT
  have htr : e.platform.stackTraces = false := (show e.platform.stackTraces = l.stackTraces by rw [X.admits.platform]).trans hl
  have Y := vx_rebase X (R' := { frames := R.frames, locals := R.locals, cells := 1, slots := 6 }) (Nat.le_refl _) (Nat.le_refl _) hRcells hRslots
  obtain ⟨s', hA'⟩ : ∃ z, z = (T.setVm s.vm).setFrames (.invoking m args :: below) := ⟨_, rfl⟩
  rw [← hA'] at Y
  have hvm : s'.vm = s.vm := by rw [hA']; rfl
  have hhp : s'.heap = T.heap := by rw [hA']; rfl
  have hW0 : s.WarmedH s'.vm := by rw [hvm]; exact State.WarmedH.refl s
  have hat' : ∀ w ∈ vx_at0 own ic cls names, w.before args s' = true := fun w hw => vx_ot_at hW0 hvm.symm (hgood w (List.mem_cons_of_mem _ (List.mem_cons_of_mem _ hw))) (hat w hw)
  have hk' : (Cond.classLink own ik cls).before args s' = true := vx_ot_at hW0 hvm.symm (hgood _ List.mem_cons_self) hk
  have hini' : (Cond.initialized cls).before args s' = true := vx_ot_at hW0 hvm.symm (hgood _ (List.mem_cons_of_mem _ List.mem_cons_self)) hini
  have hU' : vx_Zq Bundle.tN "UNASSIGNED_STACK" Bundle.steD A s' s'.heap := by rw [hhp]; exact vx_Zq.moved hW0.alike (hU.kept hS.2.1)
  have hN' : vx_Zq Bundle.tN "SUPPRESSED_SENTINEL" Bundle.listD A s' s'.heap := by rw [hhp]; exact vx_Zq.moved hW0.alike (hN.kept hS.2.1)
  have h : ∀ w ∈ Bundle.ownAtoms0 own ic cls names, w.before args s' = true := vx_own hat' (vx_isRefq hU'.1) (vx_isRefq hN'.1) hU'.2.word hN'.2.word
  have hown' : s'.vm.findClass own = some m.cls := by rw [hvm]; exact hown
  have hins : (Cond.instantiable cls 6).before args s' = true := h _ (by simp [Bundle.ownAtoms0])
  obtain ⟨vm₁, cX, kX, hfX, hkX, -, -, X₁, st1⟩ := Y.newCold hexec (own := own) (C := cls) (index := ik) (n := 6) hown' hk' hins hini'
    (g := F0 m pc ls rest) rfl (by rw [hb]; exact d0) (Nat.le_refl _) (Nat.le_refl _)
  generalize hT1 : (T.setVm vm₁).pushCell { cls := cX, slots := kX.instanceTypes.map defaultValue, vm := .none } = T1 at X₁ st1
  have hcat : (Value.ref T.heap.size).category = 1 := rfl
  have hcellA : T1.heap[T.heap.size]? = some (freshCell cX kX) := by rw [← hT1]; exact State.heap_pushCell_size _ _
  have d3' : decode c.code (pc + 3) = .ok (.dup, 1) := by rw [hb]; exact d3
  obtain ⟨V, ce, L, Z, hL, hlt, hcl9, hvm9, st⟩ := vx_ctorMade0 X₁ hexec htr (own := own) (cls := cls) (names := names) (ic := ic) hown' hcls hnames h (fun x hx => nomatch hx) hfX hkX hcellA (by rw [hhp]; exact Nat.le_refl _)
    (g := { method := m, pc := pc + 4, locals := ls, stack := .ref T.heap.size :: .ref T.heap.size :: rest, locked := none }) rfl hsize (rest := rest) rfl
    (by rw [hb]; exact d4) hRframes (by simp only [List.map_cons, List.sum_cons, hcat]; omega)
  have Z0 := Stand.forget (locs := []) Z (fun y hy => by rw [hL y hy, hhp]; exact Nat.le_refl _)
  obtain ⟨f1, f2⟩ := vx_frame Z0.same
  rw [hhp] at f1 f2
  have hcid : ce.cls = D.1 ci := by
    rw [hcl9]
    have h1 := (hK.1 ci _ hc).2.1
    rw [hvm] at hfX
    exact Option.some.inj (hfX.symm.trans h1)
  have hh : (V.setCell T.heap.size ce).heap[T.heap.size]? = some ce := heapAt_setCell_self (s := V) ce hlt
  subst hA'
  have X5 := vx_back9 X Y Z0
  have X6 : Stand p l e R s m args below meth c (V.setCell T.heap.size ce) locs (cells + 1) (slots + 6) := { X5 with same := X5.same.mono (by omega) (by omega) }
  have hk9 : ∀ (k : Nat) (x : Nat × va_E), ws[k]? = some x → (V.setCell T.heap.size ce).heap[x.1]? = T.heap[x.1]? := fun k x hx => f2 x.1 ((hP k x hx).lt) (fun z hz => nomatch hz)
  obtain ⟨t, a1, b1⟩ := kk T.heap.size (V.setCell T.heap.size ce).heap ((hP.kept hk9).app (fun k x hx => by
      have hz : k < 1 := (List.getElem?_eq_some_iff.mp hx).1
      rw [show k = 0 by omega] at hx
      cases hx
      exact ⟨_, hc, ce, hh, hcid, hvm9, fun k hk => absurd hk (Nat.not_lt_zero k)⟩)) (hD.push hP rfl (hA _ hS.1)) ⟨Nat.le_trans hS.1 f1, fun q h1 h2 => (f2 q (Nat.lt_of_lt_of_le h1 hS.1) (fun z hz => nomatch hz)).trans (hS.2.1 q h1 h2), hS.2.2⟩ _ rfl X6
  refine ⟨t, st1 _ ?_, b1⟩
  show Steps p.tables e below (T1.setTop { method := m, pc := pc + 3, locals := ls, stack := .ref T.heap.size :: rest, locked := none }) _
  jvm_step X₁.here [X₁.here.top, hexec, d3', Value.category]
  exact st _ a1
/-- 'throw x' of an object that was made before -/
theorem vx_athrow {cc : ByteArray} {pc : Nat} (hexec : p.tables.exec = Jvm.exec) (hb : c.code = cc) {q : Addr} (hdg : decode cc pc = .ok (.athrow, 1)) (k : vx_W p l e R s m args below meth c H locs cells slots Q (F0 m pc ls rest) q) : W p l e R s m args below meth c H locs cells slots Q (F0 m pc ls (.ref q :: rest)) := by
  intro T hT X
  obtain ⟨t, st, hq⟩ := k T hT X
  refine ⟨t, ?_, hq⟩
  have hdg' : decode c.code pc = .ok (.athrow, 1) := by rw [hb]; exact hdg
  jvm_step X.here [X.here.top, hexec, hdg', athrow.wp_sem]
  exact st
end VXK2
/-! ===== END ===== -/
/-! ===== BEGIN a constructor that throws (launches without stack traces) ===== -/
section VXIA
variable {p : Program} {l : Launch} {e : Env} {R : Room} {s : State} {m : MethodId} {args : Array Value} {below : List Frame} {meth : Method} {c : Code} {T : State} {locs : List Loc} {cells slots : Nat}
theorem vx_callI (X : Stand p l e R s m args below meth c T locs cells slots) (hexec : p.tables.exec = Jvm.exec) {own : String} {index : Nat} {y : MethodName} {bytes : ByteArray} {maxL : Nat}
    (hown : s.vm.findClass own = some m.cls) (hy1 : y.name = "<init>") (hlink : (Cond.methodLink own index y).before args s = true) (hinst : (Cond.instanceMethod y).before args s = true)
    (hcode : (Cond.code y bytes maxL none).before args s = true) (hy : y.cls ≠ "java/lang/invoke/MethodHandle" ∧ y.cls ≠ "java/lang/invoke/VarHandle")
    {W9 : Nat} {Pre : Pt → Array Value → Prop} {Post : Pt → Array Value → Option Value → Pt → Prop} {PostX : Pt → Array Value → Addr → Pt → Prop} (hK : vx_Back l R p e below s args y 3 W9 Pre Post PostX)
    {g : JFrame} (hg : g.method = m) (hsize : g.locals.size = c.maxLocals) {a : Addr} {argsL rest : List Value} (hlen : ∀ sig, parseMethodDescriptor y.desc = some sig → argsL.length = sig.parameters.length)
    (hstack : g.stack = argsL.reverse ++ .ref a :: rest) (hW : 2 * g.monitorRoom + (rest.map fun v => v.category).sum ≤ W9) (hdg : decode c.code g.pc = .ok (.invokespecial index, 3))
    (hpre : ∀ vm₁, s.WarmedH vm₁ → Pre ⟨T.setVm vm₁, locs, cells, slots⟩ (Value.ref a :: argsL).toArray) :
    (∃ (v : Option Value) (vm₁ : Vm) (B : Pt), s.WarmedH vm₁ ∧ Stand p l e R s m args below meth c B.U B.locs B.cells B.slots ∧ Post ⟨T.setVm vm₁, locs, cells, slots⟩ (Value.ref a :: argsL).toArray v B ∧
      ∀ target, Steps p.tables e below (B.U.setTop { g with pc := g.pc + 3, stack := v.toList ++ rest }) target → Steps p.tables e below (T.setTop g) target) ∨
    (∃ (q : Addr) (vm₁ : Vm) (B : Pt), s.WarmedH vm₁ ∧ Stand p l e R s m args below meth c B.U B.locs B.cells B.slots ∧ PostX ⟨T.setVm vm₁, locs, cells, slots⟩ (Value.ref a :: argsL).toArray q B ∧
      Steps p.tables e below (T.setTop g) ((B.U.setTop { g with stack := rest }).pushFrame (.throwing q))) := by
  subst hg
  have hpl : e.platform.magicAccessors = ({} : Platform).magicAccessors := by rw [X.admits.platform]
  obtain ⟨mk, methM, cM, kP, vm₁, hnamed, hmethM, hcodeM, -, hlocalsM, -, hkP, -, hW₁, hstep₁⟩ := Steps.initColdArgs (e := e) X.here hexec X.warmed hpl hown hy1 hy hlink hinst hcode (f := g) rfl hlen hstack hdg
  have X₁ := X.noted hW₁
  rcases hK g.method meth c ⟨T.setVm vm₁, locs, cells, slots⟩ { g with stack := rest } (.invokespecial index) mk (Value.ref a :: argsL).toArray X₁ rfl hsize hdg hW (X₁.named hnamed) (hpre vm₁ X₁.warmed) with ⟨v, B, X', hpost, hsteps⟩ | ⟨q, B, X', hpost, hsteps⟩
  · exact Or.inl ⟨v, vm₁, B, X₁.warmed, X', hpost, fun target h => hstep₁ _ fun acts => by rw [doInvoke_state]; exact hsteps.trans h⟩
  · exact Or.inr ⟨q, vm₁, B, X₁.warmed, X', hpost, hstep₁ _ fun acts => by rw [doInvoke_state]; exact hsteps⟩
end VXIA
section VXIB
variable {p : Program} {l : Launch} {e : Env} {R : Room} {s : State} {m : MethodId} {args : Array Value} {below : List Frame} {meth : Method} {c : Code} {H : Heap} {locs : List Loc} {cells slots : Nat}
variable {y : MethodName} {bytes cc : ByteArray} {maxL nL mc ms n index : Nat} {ret : Option FieldType} {ws : List Cond} {rm : Room} {Pc : Array Value → State → Prop} {Qc : Array Value → State → Outcome → State → Prop} {XC : String → State → State → Prop} {free : Addr → Prop} {Ts : List Cond} {own C : String} {b : Addr} {As rest : List Value} {g : JFrame}
theorem vx_runI (S : CallFix p m c cc nL s args Ts own) (hM : vx_Met l y ws rm Pc Qc XC mc ms free) (cw : CallB R s args own index y bytes maxL none ws rm mc ms n ∧ y.name = "<init>" ∧ (Cond.instanceMethod y).before args s = true) (hp : PreS s H Pc (.ref b :: As))
    (hg : g.method = m) (hn : As.length = n) (hsize : g.locals.size = nL) (hstack : g.stack = As.reverse ++ .ref b :: rest) (hW : 2 * g.monitorRoom + (rest.map fun v => v.category).sum ≤ 8) (hdg : decode cc g.pc = .ok (.invokespecial index, 3)) (hf : cells + mc ≤ R.cells ∧ slots + ms ≤ R.slots) :
    vx_Run p l e R s m args below meth c H locs cells slots mc ms g rest (Qc (Value.ref b :: As).toArray) XC free := by
  have hK : vx_Back l R p e below s args y 3 8 (PreOf R mc ms Pc) (PostOf Qc mc ms free) (vx_Post XC mc ms free) := vx_callBack cw.1 hM hp.1
  obtain ⟨⟨-, -, -, -, -, -, hcode, -, hy, hlen, hl⟩, hy1, hin⟩ := cw
  obtain ⟨hx, hb, hml, ho, -⟩ := S
  have hPc := hp.2
  intro T hT X
  rcases vx_callI X hx (bytes := bytes) (maxL := maxL) ho hy1 hl hin hcode hy hK hg (hsize.trans hml.symm) (a := b) (argsL := As) (rest := rest) (fun sig h => hn.trans (hlen sig h)) hstack hW (by rw [hb]; exact hdg)
    (fun vm₁ hW₁ => ⟨hf.1, hf.2, hPc (T.setVm vm₁) hT hW₁⟩) with ⟨v, vm₁, ⟨U', l2, c2, s2⟩, hW₁, X', ⟨g', mk, t, L, e1, e2, hq, h1, hL, h2, h3⟩, st⟩ | ⟨q, vm₁, ⟨U', l2, c2, s2⟩, hW₁, X', ⟨g', mk, t, L, E, ce, e1, e2, hq, hce, hcv, hcl, h1, hL, h2, h3⟩, st⟩
  · dsimp only [Pt.U, Pt.locs, Pt.cells, Pt.slots] at X' e1 e2 h1 h2 h3 st
    subst h1; subst h2; subst h3
    exact Or.inl ⟨v, (T.setVm vm₁).calling g' mk (Value.ref b :: As).toArray, t, U', L, hT, X', hL, e1, e2, hq, st⟩
  · dsimp only [Pt.U, Pt.locs, Pt.cells, Pt.slots] at X' e1 e2 h1 h2 h3 st hcl
    subst h1; subst h2; subst h3
    exact Or.inr ⟨q, (T.setVm vm₁).calling g' mk (Value.ref b :: As).toArray, t, U', L, E, ce, hT, X', hL, e1, e2, hq, hce, hcv, vx_cls hW₁ hcl, st⟩
end VXIB
/-! ===== END ===== -/
/-! ===== BEGIN a private constructor of a nest mate that throws ===== -/
section VXIC
variable {p : Program} {l : Launch} {e : Env} {R : Room} {s : State} {m : MethodId} {args : Array Value} {below : List Frame} {meth : Method} {c : Code} {T : State} {locs : List Loc} {cells slots : Nat}
theorem vx_callIN (X : Stand p l e R s m args below meth c T locs cells slots) (hexec : p.tables.exec = Jvm.exec) {own : String} {index : Nat} {host : String} {y : MethodName} {bytes : ByteArray} {maxL : Nat}
    (hown : s.vm.findClass own = some m.cls) (hy1 : y.name = "<init>") (hlink : (Cond.methodLinkNest own index y host).before args s = true) (hinst : (Cond.instanceMethod y).before args s = true)
    (hcode : (Cond.code y bytes maxL none).before args s = true) (hy : y.cls ≠ "java/lang/invoke/MethodHandle" ∧ y.cls ≠ "java/lang/invoke/VarHandle")
    {W9 : Nat} {Pre : Pt → Array Value → Prop} {Post : Pt → Array Value → Option Value → Pt → Prop} {PostX : Pt → Array Value → Addr → Pt → Prop} (hK : vx_Back l R p e below s args y 3 W9 Pre Post PostX)
    {g : JFrame} (hg : g.method = m) (hsize : g.locals.size = c.maxLocals) {a : Addr} {argsL rest : List Value} (hlen : ∀ sig, parseMethodDescriptor y.desc = some sig → argsL.length = sig.parameters.length)
    (hstack : g.stack = argsL.reverse ++ .ref a :: rest) (hW : 2 * g.monitorRoom + (rest.map fun v => v.category).sum ≤ W9) (hdg : decode c.code g.pc = .ok (.invokespecial index, 3))
    (hpre : ∀ vm₁, s.WarmedH vm₁ → Pre ⟨T.setVm vm₁, locs, cells, slots⟩ (Value.ref a :: argsL).toArray) :
    (∃ (v : Option Value) (vm₁ : Vm) (B : Pt), s.WarmedH vm₁ ∧ Stand p l e R s m args below meth c B.U B.locs B.cells B.slots ∧ Post ⟨T.setVm vm₁, locs, cells, slots⟩ (Value.ref a :: argsL).toArray v B ∧
      ∀ target, Steps p.tables e below (B.U.setTop { g with pc := g.pc + 3, stack := v.toList ++ rest }) target → Steps p.tables e below (T.setTop g) target) ∨
    (∃ (q : Addr) (vm₁ : Vm) (B : Pt), s.WarmedH vm₁ ∧ Stand p l e R s m args below meth c B.U B.locs B.cells B.slots ∧ PostX ⟨T.setVm vm₁, locs, cells, slots⟩ (Value.ref a :: argsL).toArray q B ∧
      Steps p.tables e below (T.setTop g) ((B.U.setTop { g with stack := rest }).pushFrame (.throwing q))) := by
  subst hg
  have hpl : e.platform.magicAccessors = ({} : Platform).magicAccessors := by rw [X.admits.platform]
  obtain ⟨mk, methM, cM, kP, vm₁, hnamed, hmethM, hcodeM, -, hlocalsM, -, hkP, -, hW₁, hstep₁⟩ := Steps.initColdArgsNest (e := e) X.here hexec X.warmed hpl hown hy1 hy hlink hinst hcode (f := g) rfl hlen hstack hdg
  have X₁ := X.noted hW₁
  rcases hK g.method meth c ⟨T.setVm vm₁, locs, cells, slots⟩ { g with stack := rest } (.invokespecial index) mk (Value.ref a :: argsL).toArray X₁ rfl hsize hdg hW (X₁.named hnamed) (hpre vm₁ X₁.warmed) with ⟨v, B, X', hpost, hsteps⟩ | ⟨q, B, X', hpost, hsteps⟩
  · exact Or.inl ⟨v, vm₁, B, X₁.warmed, X', hpost, fun target h => hstep₁ _ fun acts => by rw [doInvoke_state]; exact hsteps.trans h⟩
  · exact Or.inr ⟨q, vm₁, B, X₁.warmed, X', hpost, hstep₁ _ fun acts => by rw [doInvoke_state]; exact hsteps⟩
end VXIC
section VXID
variable {p : Program} {l : Launch} {e : Env} {R : Room} {s : State} {m : MethodId} {args : Array Value} {below : List Frame} {meth : Method} {c : Code} {H : Heap} {locs : List Loc} {cells slots : Nat}
theorem vx_runIN {y : MethodName} {bytes cc : ByteArray} {maxL nL mc ms n index : Nat} {ws : List Cond} {rm : Room} {Pc : Array Value → State → Prop} {Qc : Array Value → State → Outcome → State → Prop} {XC : String → State → State → Prop} {free : Addr → Prop} {Ts : List Cond} {own host : String} {b : Addr} {As rest : List Value} {g : JFrame}
    (S : CallFix p m c cc nL s args Ts own) (hM : vx_Met l y ws rm Pc Qc XC mc ms free) (cw : va_CN R s args own index y host bytes maxL none ws rm mc ms n ∧ y.name = "<init>" ∧ (Cond.instanceMethod y).before args s = true) (hp : PreS s H Pc (.ref b :: As))
    (hg : g.method = m) (hn : As.length = n) (hsize : g.locals.size = nL) (hstack : g.stack = As.reverse ++ .ref b :: rest) (hW : 2 * g.monitorRoom + (rest.map fun v => v.category).sum ≤ 8) (hdg : decode cc g.pc = .ok (.invokespecial index, 3)) (hf : cells + mc ≤ R.cells ∧ slots + ms ≤ R.slots) :
    vx_Run p l e R s m args below meth c H locs cells slots mc ms g rest (Qc (Value.ref b :: As).toArray) XC free := by
  obtain ⟨⟨⟨hrc, hrs, hfr, hlo, hws, hcw⟩, hcode, hini, hy, hlen, hl⟩, hx1, hx2⟩ := cw
  have hK : vx_Back l R p e below s args y 3 8 (PreOf R mc ms Pc) (PostOf Qc mc ms free) (vx_Post XC mc ms free) := vx_back (bytes := bytes) (maxL := maxL) (ret := none) hM hp.1 hrc hrs hfr hlo hws hcw (fun a' U hW => word_at hW (Or.inl (by first | rfl | simp [Cond.onTables, Cond.keeps, Cond.steady])) hini)
  obtain ⟨hx, hb, hml, ho, -⟩ := S
  have hPc := hp.2
  intro T hT X
  rcases vx_callIN X hx (bytes := bytes) (maxL := maxL) ho hx1 hl hx2 hcode hy hK hg (hsize.trans hml.symm) (a := b) (argsL := As) (rest := rest) (fun sig h => hn.trans (hlen sig h)) hstack hW (by rw [hb]; exact hdg)
    (fun vm₁ hW₁ => ⟨hf.1, hf.2, hPc (T.setVm vm₁) hT hW₁⟩) with ⟨v, vm₁, ⟨U', l2, c2, s2⟩, hW₁, X', ⟨g', mk, t, L, e1, e2, hq, h1, hL, h2, h3⟩, st⟩ | ⟨q, vm₁, ⟨U', l2, c2, s2⟩, hW₁, X', ⟨g', mk, t, L, E, ce, e1, e2, hq, hce, hcv, hcl, h1, hL, h2, h3⟩, st⟩
  · dsimp only [Pt.U, Pt.locs, Pt.cells, Pt.slots] at X' e1 e2 h1 h2 h3 st
    subst h1; subst h2; subst h3
    exact Or.inl ⟨v, (T.setVm vm₁).calling g' mk (Value.ref b :: As).toArray, t, U', L, hT, X', hL, e1, e2, hq, st⟩
  · dsimp only [Pt.U, Pt.locs, Pt.cells, Pt.slots] at X' e1 e2 h1 h2 h3 st hcl
    subst h1; subst h2; subst h3
    exact Or.inr ⟨q, (T.setVm vm₁).calling g' mk (Value.ref b :: As).toArray, t, U', L, E, ce, hT, X', hL, e1, e2, hq, hce, hcv, vx_cls hW₁ hcl, st⟩
end VXID
/-! ===== END ===== -/
/-! ===== BEGIN a method of a class above, found by the receiver, that may throw (follows va_callVU, va_runU of this kit) ===== -/
section
variable {p : Program} {l : Launch} {e : Env} {R : Room} {s : State} {m : MethodId} {args : Array Value} {below : List Frame} {meth : Method} {c : Code} {H : Heap} {locs : List Loc} {cells slots : Nat}
theorem vx_callVU {T : State} {locs : List Loc} {cells slots : Nat} (X : Stand p l e R s m args below meth c T locs cells slots) (hexec : p.tables.exec = Jvm.exec) {own C owner : String} {index : Nat} {x y : MethodName} {bytes : ByteArray} {maxL : Nat} {ret : Option FieldType}
    (hown : s.vm.findClass own = some m.cls) (hlink : (Cond.methodLink own index x).before args s = true) (hsame : (Cond.sameMethod x.cls owner x.name x.desc).before args s = true)
    (hd0 : va_Decl s ⟨owner, x.name, x.desc⟩) (howner : owner ≠ "java/lang/invoke/MethodHandle" ∧ owner ≠ "java/lang/invoke/VarHandle")
    (hsel : (Cond.selects C x y).before args s = true) (hinst : (Cond.instanceMethod y).before args s = true) (hcode : (Cond.code y bytes maxL ret).before args s = true)
    {W : Nat} {Pre : Pt → Array Value → Prop} {Post : Pt → Array Value → Option Value → Pt → Prop} {PostX : Pt → Array Value → Addr → Pt → Prop} (hK : vx_Back l R p e below s args y 3 W Pre Post PostX)
    {b : Addr} {cellB : Cell} (hcell : T.heap[b]? = some cellB) (hobj : cellB.vm.isStatics = false) (hcls : s.vm.findClass C = some cellB.cls)
    {g : JFrame} (hg : g.method = m) (hsize : g.locals.size = c.maxLocals) {argsL rest : List Value} (hlen : ∀ sig, parseMethodDescriptor x.desc = some sig → argsL.length = sig.parameters.length)
    (hstack : g.stack = argsL.reverse ++ .ref b :: rest) (hW : 2 * g.monitorRoom + (rest.map fun v => v.category).sum ≤ W) (hdg : decode c.code g.pc = .ok (.invokevirtual index, 3))
    (hpre : ∀ vm₁, s.WarmedH vm₁ → Pre ⟨T.setVm vm₁, locs, cells, slots⟩ (Value.ref b :: argsL).toArray) :
    (∃ (v : Option Value) (vm₁ : Vm) (B : Pt), s.WarmedH vm₁ ∧ Stand p l e R s m args below meth c B.U B.locs B.cells B.slots ∧ Post ⟨T.setVm vm₁, locs, cells, slots⟩ (Value.ref b :: argsL).toArray v B ∧
      ∀ target, Steps p.tables e below (B.U.setTop { g with pc := g.pc + 3, stack := v.toList ++ rest }) target → Steps p.tables e below (T.setTop g) target) ∨
    (∃ (q : Addr) (vm₁ : Vm) (B : Pt), s.WarmedH vm₁ ∧ Stand p l e R s m args below meth c B.U B.locs B.cells B.slots ∧ PostX ⟨T.setVm vm₁, locs, cells, slots⟩ (Value.ref b :: argsL).toArray q B ∧
      Steps p.tables e below (T.setTop g) ((B.U.setTop { g with stack := rest }).pushFrame (.throwing q))) := by
  obtain ⟨r0, r, hn, hrm, hstR, hsigR⟩ := hd0
  obtain ⟨cn, ck, r1, hcn, hck, hni, hf, hn1⟩ := Cond.sameMethod_found hsame
  cases hn.symm.trans hn1
  obtain ⟨mk, methM, hnamed, hmethM, -, habM⟩ := Cond.instanceMethod_spec hinst
  obtain ⟨c2, r2, m2, q1, q2, q3, q4, kP, hkP, hkPi⟩ := Cond.selects_spec hsel
  cases hcls.symm.trans q1
  cases hf.symm.trans q2
  cases hnamed.symm.trans q3
  have hselP : selectMethod e.platform s.vm cellB.cls r0 = .method mk := by rw [Launch.admits_selectMethod X.admits]; exact q4
  obtain ⟨vm₁, X₁, hstep₁⟩ := X.invokevirtualUp hexec hown hlink hsame howner hn hrm hstR (a := b) (cell := cellB) hcell
    (fun z h => by rw [h] at hobj; cases hobj) hselP hmethM habM hkP hkPi (g := g) hg (argsL := argsL) (rest := rest) (hlen _ hsigR) hstack hdg
  rcases hK m meth c ⟨T.setVm vm₁, locs, cells, slots⟩ { g with stack := rest } (.invokevirtual index) mk (Value.ref b :: argsL).toArray X₁ hg hsize hdg hW (X₁.named hnamed) (hpre vm₁ X₁.warmed) with ⟨v, B, X', hpost, hsteps⟩ | ⟨q, B, X', hpost, hsteps⟩
  · exact Or.inl ⟨v, vm₁, B, X₁.warmed, X', hpost, fun target h => hstep₁ _ fun acts => by rw [doInvoke_state]; exact hsteps.trans h⟩
  · exact Or.inr ⟨q, vm₁, B, X₁.warmed, X', hpost, hstep₁ _ fun acts => by rw [doInvoke_state]; exact hsteps⟩
theorem vx_runU {x y : MethodName} {bytes cc : ByteArray} {maxL nL mc ms n index : Nat} {ret : Option FieldType} {ws : List Cond} {rm : Room} {Pc : Array Value → State → Prop} {Qc : Array Value → State → Outcome → State → Prop} {XC : String → State → State → Prop} {free : Addr → Prop} {Ts : List Cond} {own C owner : String} {b : Addr} {As rest : List Value} {g : JFrame}
    (S : CallFix p m c cc nL s args Ts own) (hM : vx_Met l y ws rm Pc Qc XC mc ms free) (cw : va_CU R s args own C owner index x y bytes maxL ret ws rm mc ms n) (hp : PreV s H C b Pc As)
    (hg : g.method = m) (hn : As.length = n) (hsize : g.locals.size = nL) (hstack : g.stack = As.reverse ++ .ref b :: rest) (hW : 2 * g.monitorRoom + (rest.map fun v => v.category).sum ≤ 8) (hdg : decode cc g.pc = .ok (.invokevirtual index, 3)) (hf : cells + mc ≤ R.cells ∧ slots + ms ≤ R.slots) :
    vx_Run p l e R s m args below meth c H locs cells slots mc ms g rest (Qc (Value.ref b :: As).toArray) XC free := by
  obtain ⟨hrc, hrs, hfr, hlo, hws, hcw⟩ := cw.back
  have hini := cw.init
  have hK : vx_Back l R p e below s args y 3 8 (PreOf R mc ms Pc) (PostOf Qc mc ms free) (vx_Post XC mc ms free) := vx_back (bytes := bytes) (maxL := maxL) (ret := ret) hM hp.1 hrc hrs hfr hlo hws hcw (fun a' U hW => word_at hW (Or.inl (by first | rfl | simp [Cond.onTables, Cond.keeps, Cond.steady])) hini)
  obtain ⟨hx, hb, hml, ho, -⟩ := S
  obtain ⟨-, ⟨cellB, hcB, hoB, hclB⟩, hPc⟩ := hp
  intro T hT X
  rcases vx_callVU X hx (C := C) (owner := owner) (bytes := bytes) (maxL := maxL) (ret := ret) ho cw.link cw.same cw.decl cw.notMH cw.sel cw.inst cw.code hK (by rw [hT]; exact hcB) hoB hclB hg (hsize.trans hml.symm) (argsL := As) (rest := rest) (fun sig h => hn.trans (cw.len sig h)) hstack hW (by rw [hb]; exact hdg)
    (fun vm₁ hW₁ => ⟨hf.1, hf.2, hPc (T.setVm vm₁) hT hW₁⟩) with ⟨v, vm₁, ⟨U', l2, c2, s2⟩, hW₁, X', ⟨g', mk, t, L, e1, e2, hq, h1, hL, h2, h3⟩, st⟩ | ⟨q, vm₁, ⟨U', l2, c2, s2⟩, hW₁, X', ⟨g', mk, t, L, E, ce, e1, e2, hq, hce, hcv, hcl, h1, hL, h2, h3⟩, st⟩
  · dsimp only [Pt.U, Pt.locs, Pt.cells, Pt.slots] at X' e1 e2 h1 h2 h3 st
    subst h1; subst h2; subst h3
    exact Or.inl ⟨v, (T.setVm vm₁).calling g' mk (Value.ref b :: As).toArray, t, U', L, hT, X', hL, e1, e2, hq, st⟩
  · dsimp only [Pt.U, Pt.locs, Pt.cells, Pt.slots] at X' e1 e2 h1 h2 h3 st hcl
    subst h1; subst h2; subst h3
    exact Or.inr ⟨q, (T.setVm vm₁).calling g' mk (Value.ref b :: As).toArray, t, U', L, E, ce, hT, X', hL, e1, e2, hq, hce, hcv, vx_cls hW₁ hcl, st⟩
end
/-! ===== END ===== -/
/-! ===== BEGIN super.m(..) that may throw (follows va_callSU, va_runSU) ===== -/
section
variable {p : Program} {l : Launch} {e : Env} {R : Room} {s : State} {m : MethodId} {args : Array Value} {below : List Frame} {meth : Method} {c : Code} {H : Heap} {locs : List Loc} {cells slots : Nat}
theorem vx_callSU {T : State} {locs : List Loc} {cells slots : Nat} (X : Stand p l e R s m args below meth c T locs cells slots) (hexec : p.tables.exec = Jvm.exec) {own : String} {index : Nat} {y : MethodName} {bytes : ByteArray} {maxL : Nat} {ret : Option FieldType}
    (hown : s.vm.findClass own = some m.cls) (hlink : (Cond.methodLink own index y).before args s = true) (hsame : (Cond.sameMethod y.cls y.cls y.name y.desc).before args s = true) (hsup : (Cond.superclass own y.cls).before args s = true)
    (hinst : (Cond.instanceMethod y).before args s = true) (hcode : (Cond.code y bytes maxL ret).before args s = true) (hno : y.name ≠ "<init>")
    {W : Nat} {Pre : Pt → Array Value → Prop} {Post : Pt → Array Value → Option Value → Pt → Prop} {PostX : Pt → Array Value → Addr → Pt → Prop} (hK : vx_Back l R p e below s args y 3 W Pre Post PostX)
    {b : Addr} {cellB : Cell} {kB : Class} (hcell : T.heap[b]? = some cellB) (hobj : cellB.vm.isStatics = false) (hkB : s.vm.classes[cellB.cls]? = some kB)
    {g : JFrame} (hg : g.method = m) (hsize : g.locals.size = c.maxLocals) {argsL rest : List Value} (hlen : ∀ sig, parseMethodDescriptor y.desc = some sig → argsL.length = sig.parameters.length)
    (hstack : g.stack = argsL.reverse ++ .ref b :: rest) (hW : 2 * g.monitorRoom + (rest.map fun v => v.category).sum ≤ W) (hdg : decode c.code g.pc = .ok (.invokespecial index, 3))
    (hpre : ∀ vm₁, s.WarmedH vm₁ → Pre ⟨T.setVm vm₁, locs, cells, slots⟩ (Value.ref b :: argsL).toArray) :
    (∃ (v : Option Value) (vm₁ : Vm) (B : Pt), s.WarmedH vm₁ ∧ Stand p l e R s m args below meth c B.U B.locs B.cells B.slots ∧ Post ⟨T.setVm vm₁, locs, cells, slots⟩ (Value.ref b :: argsL).toArray v B ∧
      ∀ target, Steps p.tables e below (B.U.setTop { g with pc := g.pc + 3, stack := v.toList ++ rest }) target → Steps p.tables e below (T.setTop g) target) ∨
    (∃ (q : Addr) (vm₁ : Vm) (B : Pt), s.WarmedH vm₁ ∧ Stand p l e R s m args below meth c B.U B.locs B.cells B.slots ∧ PostX ⟨T.setVm vm₁, locs, cells, slots⟩ (Value.ref b :: argsL).toArray q B ∧
      Steps p.tables e below (T.setTop g) ((B.U.setTop { g with stack := rest }).pushFrame (.throwing q))) := by
  obtain ⟨mk, methM, hnamed, hmethM, hstM, habM⟩ := Cond.instanceMethod_spec hinst
  obtain ⟨methM', cM, hmethM', -, -, -, -, -, -, hsigM⟩ := Cond.code_spec hnamed hcode
  cases hmethM.symm.trans hmethM'
  obtain ⟨ps, dk, kp, hps, hdk, hkp, hsuper, -, -, hnid⟩ := Cond.superclass_spec hown hsup
  have hn : s.methodNamed? ⟨y.cls, y.name, y.desc⟩ = some mk := hnamed
  have hpm : ps = mk.cls := Option.some.inj (hps.symm.trans (findClass_of_methodNamed hnamed))
  have hsub : s.vm.isSubclass ps mk.cls = true := by rw [hpm]; simp [Vm.isSubclass, Vm.isSubclassAux]
  obtain ⟨vm₁, X₁, hstep₁⟩ := X.invokespecialUp hexec hown hlink hsame hn hmethM hstM habM hno hdk hnid hps hsuper hsub (a := b) (cell := cellB) hcell
    (fun z h => by rw [h] at hobj; cases hobj) hkB (g := g) hg (argsL := argsL) (rest := rest) (hlen _ hsigM) hstack hdg
  rcases hK m meth c ⟨T.setVm vm₁, locs, cells, slots⟩ { g with stack := rest } (.invokespecial index) mk (Value.ref b :: argsL).toArray X₁ hg hsize hdg hW (X₁.named hnamed) (hpre vm₁ X₁.warmed) with ⟨v, B, X', hpost, hsteps⟩ | ⟨q, B, X', hpost, hsteps⟩
  · exact Or.inl ⟨v, vm₁, B, X₁.warmed, X', hpost, fun target h => hstep₁ _ (by rw [doInvoke_state]; exact hsteps.trans h)⟩
  · exact Or.inr ⟨q, vm₁, B, X₁.warmed, X', hpost, hstep₁ _ (by rw [doInvoke_state]; exact hsteps)⟩
theorem vx_runSU {y : MethodName} {bytes cc : ByteArray} {maxL nL mc ms n index : Nat} {ret : Option FieldType} {ws : List Cond} {rm : Room} {Pc : Array Value → State → Prop} {Qc : Array Value → State → Outcome → State → Prop} {XC : String → State → State → Prop} {free : Addr → Prop} {Ts : List Cond} {own C : String} {cC : ClassId} {b : Addr} {As rest : List Value} {g : JFrame}
    (hat : ClassAt s C cC) (S : CallFix p m c cc nL s args Ts own) (hM : vx_Met l y ws rm Pc Qc XC mc ms free) (cw : va_CS R s args own index y bytes maxL ret ws rm mc ms n) (hp : PreV s H C b Pc As)
    (hg : g.method = m) (hn : As.length = n) (hsize : g.locals.size = nL) (hstack : g.stack = As.reverse ++ .ref b :: rest) (hW : 2 * g.monitorRoom + (rest.map fun v => v.category).sum ≤ 8) (hdg : decode cc g.pc = .ok (.invokespecial index, 3)) (hf : cells + mc ≤ R.cells ∧ slots + ms ≤ R.slots) :
    vx_Run p l e R s m args below meth c H locs cells slots mc ms g rest (Qc (Value.ref b :: As).toArray) XC free := by
  obtain ⟨⟨hrc, hrs, hfr, hlo, hws, hcw⟩, hl1, hl2, hl3, hl4, hini, hcode, hno, hlen⟩ := cw
  have hK : vx_Back l R p e below s args y 3 8 (PreOf R mc ms Pc) (PostOf Qc mc ms free) (vx_Post XC mc ms free) := vx_back (bytes := bytes) (maxL := maxL) (ret := ret) hM hp.1 hrc hrs hfr hlo hws hcw (fun a' U hW => word_at hW (Or.inl (by first | rfl | simp [Cond.onTables, Cond.keeps, Cond.steady])) hini)
  obtain ⟨hx, hb, hml, ho, -⟩ := S
  obtain ⟨-, ⟨cellB, hcB, hoB, hclB⟩, hPc⟩ := hp
  obtain ⟨hfc, kB, hkB, -⟩ := hat
  cases hfc.symm.trans hclB
  intro T hT X
  rcases vx_callSU X hx (bytes := bytes) (maxL := maxL) (ret := ret) ho hl1 hl2 hl3 hl4 hcode hno hK (by rw [hT]; exact hcB) hoB hkB hg (hsize.trans hml.symm) (argsL := As) (rest := rest) (fun sig h => hn.trans (hlen sig h)) hstack hW (by rw [hb]; exact hdg)
    (fun vm₁ hW₁ => ⟨hf.1, hf.2, hPc (T.setVm vm₁) hT hW₁⟩) with ⟨v, vm₁, ⟨U', l2, c2, s2⟩, hW₁, X', ⟨g', mk, t, L, e1, e2, hq, h1, hL, h2, h3⟩, st⟩ | ⟨q, vm₁, ⟨U', l2, c2, s2⟩, hW₁, X', ⟨g', mk, t, L, E, ce, e1, e2, hq, hce, hcv, hcl, h1, hL, h2, h3⟩, st⟩
  · dsimp only [Pt.U, Pt.locs, Pt.cells, Pt.slots] at X' e1 e2 h1 h2 h3 st
    subst h1; subst h2; subst h3
    exact Or.inl ⟨v, (T.setVm vm₁).calling g' mk (Value.ref b :: As).toArray, t, U', L, hT, X', hL, e1, e2, hq, st⟩
  · dsimp only [Pt.U, Pt.locs, Pt.cells, Pt.slots] at X' e1 e2 h1 h2 h3 st hcl
    subst h1; subst h2; subst h3
    exact Or.inr ⟨q, (T.setVm vm₁).calling g' mk (Value.ref b :: As).toArray, t, U', L, E, ce, hT, X', hL, e1, e2, hq, hce, hcv, vx_cls hW₁ hcl, st⟩
end
/-! ===== END ===== -/
/-! ===== BEGIN a private method of a nest mate that may throw (follows va_callVN, va_callSN, va_runVN, va_runSN) ===== -/
section
variable {p : Program} {l : Launch} {e : Env} {R : Room} {s : State} {m : MethodId} {args : Array Value} {below : List Frame} {meth : Method} {c : Code} {H : Heap} {locs : List Loc} {cells slots : Nat}
variable {T : State}
theorem vx_callVN (X : Stand p l e R s m args below meth c T locs cells slots) (hexec : p.tables.exec = Jvm.exec) {own C : String} {index : Nat} {host : String} {y : MethodName} {bytes : ByteArray} {maxL : Nat} {ret : Option FieldType}
    (hown : s.vm.findClass own = some m.cls) (hlink : (Cond.methodLinkNest own index y host).before args s = true) (hinst : (Cond.instanceMethod y).before args s = true) (hsel : (Cond.selects C y y).before args s = true)
    (hcode : (Cond.code y bytes maxL ret).before args s = true) (hy : y.cls ≠ "java/lang/invoke/MethodHandle" ∧ y.cls ≠ "java/lang/invoke/VarHandle")
    {W : Nat} {Pre : Pt → Array Value → Prop} {Post : Pt → Array Value → Option Value → Pt → Prop} {PostX : Pt → Array Value → Addr → Pt → Prop} (hK : vx_Back l R p e below s args y 3 W Pre Post PostX)
    {b : Addr} {cellB : Cell} (hcell : T.heap[b]? = some cellB) (hobj : cellB.vm.isStatics = false) (hcls : s.vm.findClass C = some cellB.cls)
    {g : JFrame} (hg : g.method = m) (hsize : g.locals.size = c.maxLocals) {argsL rest : List Value} (hlen : ∀ sig, parseMethodDescriptor y.desc = some sig → argsL.length = sig.parameters.length)
    (hstack : g.stack = argsL.reverse ++ .ref b :: rest) (hW : 2 * g.monitorRoom + (rest.map fun v => v.category).sum ≤ W) (hdg : decode c.code g.pc = .ok (.invokevirtual index, 3))
    (hpre : ∀ vm₁, s.WarmedH vm₁ → Pre ⟨T.setVm vm₁, locs, cells, slots⟩ (Value.ref b :: argsL).toArray) :
    (∃ (v : Option Value) (vm₁ : Vm) (B : Pt), s.WarmedH vm₁ ∧ Stand p l e R s m args below meth c B.U B.locs B.cells B.slots ∧ Post ⟨T.setVm vm₁, locs, cells, slots⟩ (Value.ref b :: argsL).toArray v B ∧
      ∀ target, Steps p.tables e below (B.U.setTop { g with pc := g.pc + 3, stack := v.toList ++ rest }) target → Steps p.tables e below (T.setTop g) target) ∨
    (∃ (q : Addr) (vm₁ : Vm) (B : Pt), s.WarmedH vm₁ ∧ Stand p l e R s m args below meth c B.U B.locs B.cells B.slots ∧ PostX ⟨T.setVm vm₁, locs, cells, slots⟩ (Value.ref b :: argsL).toArray q B ∧
      Steps p.tables e below (T.setTop g) ((B.U.setTop { g with stack := rest }).pushFrame (.throwing q))) := by
  obtain ⟨mk, methM, hnamed, hmethM, hstM, habM⟩ := Cond.instanceMethod_spec hinst
  obtain ⟨methM', cM, hmethM', -, -, -, -, -, -, hsigM⟩ := Cond.code_spec hnamed hcode
  cases hmethM.symm.trans hmethM'
  obtain ⟨c2, r2, m2, q1, q2, q3, q4, kP, hkP, hkPi⟩ := Cond.selects_spec hsel
  cases hcls.symm.trans q1
  cases (State.methodFound?_of_named hnamed hy).symm.trans q2
  cases hnamed.symm.trans q3
  have hselP : selectMethod e.platform s.vm cellB.cls mk = .method mk := by rw [Launch.admits_selectMethod X.admits]; exact q4
  obtain ⟨vm₁, X₁, hstep₁⟩ := X.invokevirtualNest hexec hown hlink hnamed hmethM hstM hkP hkPi hy (a := b) (cell := cellB) hcell
    (fun z h => by rw [h] at hobj; cases hobj) hselP hmethM habM hkP hkPi (g := g) hg (argsL := argsL) (rest := rest) (hlen _ hsigM) hstack hdg
  rcases hK m meth c ⟨T.setVm vm₁, locs, cells, slots⟩ { g with stack := rest } (.invokevirtual index) mk (Value.ref b :: argsL).toArray X₁ hg hsize hdg hW (X₁.named hnamed) (hpre vm₁ X₁.warmed) with ⟨v, B, X', hpost, hsteps⟩ | ⟨q, B, X', hpost, hsteps⟩
  · exact Or.inl ⟨v, vm₁, B, X₁.warmed, X', hpost, fun target h => hstep₁ _ fun acts => by rw [doInvoke_state]; exact hsteps.trans h⟩
  · exact Or.inr ⟨q, vm₁, B, X₁.warmed, X', hpost, hstep₁ _ fun acts => by rw [doInvoke_state]; exact hsteps⟩
theorem vx_callSN (X : Stand p l e R s m args below meth c T locs cells slots) (hexec : p.tables.exec = Jvm.exec) {own : String} {index : Nat} {host : String} {y : MethodName} {bytes : ByteArray} {maxL : Nat} {ret : Option FieldType}
    (hown : s.vm.findClass own = some m.cls) (hlink : (Cond.methodLinkNest own index y host).before args s = true) (hstat : (Cond.static y).before args s = true) (hinit : (Cond.initialized y.cls).before args s = true)
    (hcode : (Cond.code y bytes maxL ret).before args s = true) (hy : y.cls ≠ "java/lang/invoke/MethodHandle" ∧ y.cls ≠ "java/lang/invoke/VarHandle")
    {W : Nat} {Pre : Pt → Array Value → Prop} {Post : Pt → Array Value → Option Value → Pt → Prop} {PostX : Pt → Array Value → Addr → Pt → Prop} (hK : vx_Back l R p e below s args y 3 W Pre Post PostX)
    {g : JFrame} (hg : g.method = m) (hsize : g.locals.size = c.maxLocals) {argsL rest : List Value} (hlen : ∀ sig, parseMethodDescriptor y.desc = some sig → argsL.length = sig.parameters.length)
    (hstack : g.stack = argsL.reverse ++ rest) (hW : 2 * g.monitorRoom + (rest.map fun v => v.category).sum ≤ W) (hdg : decode c.code g.pc = .ok (.invokestatic index, 3))
    (hpre : ∀ vm₁, s.WarmedH vm₁ → Pre ⟨T.setVm vm₁, locs, cells, slots⟩ argsL.toArray) :
    (∃ (v : Option Value) (vm₁ : Vm) (B : Pt), s.WarmedH vm₁ ∧ Stand p l e R s m args below meth c B.U B.locs B.cells B.slots ∧ Post ⟨T.setVm vm₁, locs, cells, slots⟩ argsL.toArray v B ∧
      ∀ target, Steps p.tables e below (B.U.setTop { g with pc := g.pc + 3, stack := v.toList ++ rest }) target → Steps p.tables e below (T.setTop g) target) ∨
    (∃ (q : Addr) (vm₁ : Vm) (B : Pt), s.WarmedH vm₁ ∧ Stand p l e R s m args below meth c B.U B.locs B.cells B.slots ∧ PostX ⟨T.setVm vm₁, locs, cells, slots⟩ argsL.toArray q B ∧
      Steps p.tables e below (T.setTop g) ((B.U.setTop { g with stack := rest }).pushFrame (.throwing q))) := by
  obtain ⟨mk, hnamed⟩ := Cond.code_named hcode
  obtain ⟨methM, cM, hmethM, -, -, -, -, -, -, hsigM⟩ := Cond.code_spec hnamed hcode
  have hstatic : methM.isStatic = true := Cond.static_spec hnamed hmethM hstat
  obtain ⟨kP, hkP, -⟩ := className_of_methodNamed hnamed
  have hinitP : kP.init = .initialized := Cond.initialized_spec (findClass_of_methodNamed hnamed) hkP hinit
  obtain ⟨vm₁, X₁, hstep₁⟩ := X.invokestaticNest hexec hown hlink hnamed hmethM hstatic hkP hinitP hy (g := g) hg (argsL := argsL) (rest := rest) (hlen _ hsigM) hstack hdg
  rcases hK m meth c ⟨T.setVm vm₁, locs, cells, slots⟩ { g with stack := rest } (.invokestatic index) mk argsL.toArray X₁ hg hsize hdg hW (X₁.named hnamed) (hpre vm₁ X₁.warmed) with ⟨v, B, X', hpost, hsteps⟩ | ⟨q, B, X', hpost, hsteps⟩
  · exact Or.inl ⟨v, vm₁, B, X₁.warmed, X', hpost, fun target h => hstep₁ _ fun acts => by rw [doInvoke_state]; exact hsteps.trans h⟩
  · exact Or.inr ⟨q, vm₁, B, X₁.warmed, X', hpost, hstep₁ _ fun acts => by rw [doInvoke_state]; exact hsteps⟩
theorem vx_runVN {y : MethodName} {bytes cc : ByteArray} {maxL nL mc ms n index : Nat} {ret : Option FieldType} {ws : List Cond} {rm : Room} {Pc : Array Value → State → Prop} {Qc : Array Value → State → Outcome → State → Prop} {XC : String → State → State → Prop} {free : Addr → Prop} {Ts : List Cond} {own C host : String} {b : Addr} {As rest : List Value} {g : JFrame}
    (S : CallFix p m c cc nL s args Ts own) (hM : vx_Met l y ws rm Pc Qc XC mc ms free) (cw : va_CN R s args own index y host bytes maxL ret ws rm mc ms n ∧ (Cond.instanceMethod y).before args s = true ∧ (Cond.selects C y y).before args s = true) (hp : PreV s H C b Pc As)
    (hg : g.method = m) (hn : As.length = n) (hsize : g.locals.size = nL) (hstack : g.stack = As.reverse ++ .ref b :: rest) (hW : 2 * g.monitorRoom + (rest.map fun v => v.category).sum ≤ 8) (hdg : decode cc g.pc = .ok (.invokevirtual index, 3)) (hf : cells + mc ≤ R.cells ∧ slots + ms ≤ R.slots) :
    vx_Run p l e R s m args below meth c H locs cells slots mc ms g rest (Qc (Value.ref b :: As).toArray) XC free := by
  obtain ⟨⟨⟨hrc, hrs, hfr, hlo, hws, hcw⟩, hcode, hini, hy, hlen, hl⟩, hx1, hx2⟩ := cw
  have hK : vx_Back l R p e below s args y 3 8 (PreOf R mc ms Pc) (PostOf Qc mc ms free) (vx_Post XC mc ms free) := vx_back (bytes := bytes) (maxL := maxL) (ret := ret) hM hp.1 hrc hrs hfr hlo hws hcw (fun a' U hW => word_at hW (Or.inl (by first | rfl | simp [Cond.onTables, Cond.keeps, Cond.steady])) hini)
  obtain ⟨hx, hb, hml, ho, -⟩ := S
  obtain ⟨-, ⟨cellB, hcB, hoB, hclB⟩, hPc⟩ := hp
  intro T hT X
  rcases vx_callVN X hx (C := C) (bytes := bytes) (maxL := maxL) (ret := ret) ho hl hx1 hx2 hcode hy hK (by rw [hT]; exact hcB) hoB hclB hg (hsize.trans hml.symm) (argsL := As) (rest := rest) (fun sig h => hn.trans (hlen sig h)) hstack hW (by rw [hb]; exact hdg)
    (fun vm₁ hW₁ => ⟨hf.1, hf.2, hPc (T.setVm vm₁) hT hW₁⟩) with ⟨v, vm₁, ⟨U', l2, c2, s2⟩, hW₁, X', ⟨g', mk, t, L, e1, e2, hq, h1, hL, h2, h3⟩, st⟩ | ⟨q, vm₁, ⟨U', l2, c2, s2⟩, hW₁, X', ⟨g', mk, t, L, E, ce, e1, e2, hq, hce, hcv, hcl, h1, hL, h2, h3⟩, st⟩
  · dsimp only [Pt.U, Pt.locs, Pt.cells, Pt.slots] at X' e1 e2 h1 h2 h3 st
    subst h1; subst h2; subst h3
    exact Or.inl ⟨v, (T.setVm vm₁).calling g' mk (Value.ref b :: As).toArray, t, U', L, hT, X', hL, e1, e2, hq, st⟩
  · dsimp only [Pt.U, Pt.locs, Pt.cells, Pt.slots] at X' e1 e2 h1 h2 h3 st hcl
    subst h1; subst h2; subst h3
    exact Or.inr ⟨q, (T.setVm vm₁).calling g' mk (Value.ref b :: As).toArray, t, U', L, E, ce, hT, X', hL, e1, e2, hq, hce, hcv, vx_cls hW₁ hcl, st⟩
theorem vx_runSN {y : MethodName} {bytes cc : ByteArray} {maxL nL mc ms n index : Nat} {ret : Option FieldType} {ws : List Cond} {rm : Room} {Pc : Array Value → State → Prop} {Qc : Array Value → State → Outcome → State → Prop} {XC : String → State → State → Prop} {free : Addr → Prop} {Ts : List Cond} {own host : String} {As rest : List Value} {g : JFrame}
    (S : CallFix p m c cc nL s args Ts own) (hM : vx_Met l y ws rm Pc Qc XC mc ms free) (cw : va_CN R s args own index y host bytes maxL ret ws rm mc ms n ∧ (Cond.static y).before args s = true ∧ True) (hp : PreS s H Pc As)
    (hg : g.method = m) (hn : As.length = n) (hsize : g.locals.size = nL) (hstack : g.stack = As.reverse ++ rest) (hW : 2 * g.monitorRoom + (rest.map fun v => v.category).sum ≤ 8) (hdg : decode cc g.pc = .ok (.invokestatic index, 3)) (hf : cells + mc ≤ R.cells ∧ slots + ms ≤ R.slots) :
    vx_Run p l e R s m args below meth c H locs cells slots mc ms g rest (Qc As.toArray) XC free := by
  obtain ⟨⟨⟨hrc, hrs, hfr, hlo, hws, hcw⟩, hcode, hini, hy, hlen, hl⟩, hx1, hx2⟩ := cw
  have hK : vx_Back l R p e below s args y 3 8 (PreOf R mc ms Pc) (PostOf Qc mc ms free) (vx_Post XC mc ms free) := vx_back (bytes := bytes) (maxL := maxL) (ret := ret) hM hp.1 hrc hrs hfr hlo hws hcw (fun a' U hW => word_at hW (Or.inl (by first | rfl | simp [Cond.onTables, Cond.keeps, Cond.steady])) hini)
  obtain ⟨hx, hb, hml, ho, -⟩ := S
  have hPc := hp.2
  intro T hT X
  rcases vx_callSN X hx (bytes := bytes) (maxL := maxL) (ret := ret) ho hl hx1 hini hcode hy hK hg (hsize.trans hml.symm) (argsL := As) (rest := rest) (fun sig h => hn.trans (hlen sig h)) hstack hW (by rw [hb]; exact hdg)
    (fun vm₁ hW₁ => ⟨hf.1, hf.2, hPc (T.setVm vm₁) hT hW₁⟩) with ⟨v, vm₁, ⟨U', l2, c2, s2⟩, hW₁, X', ⟨g', mk, t, L, e1, e2, hq, h1, hL, h2, h3⟩, st⟩ | ⟨q, vm₁, ⟨U', l2, c2, s2⟩, hW₁, X', ⟨g', mk, t, L, E, ce, e1, e2, hq, hce, hcv, hcl, h1, hL, h2, h3⟩, st⟩
  · dsimp only [Pt.U, Pt.locs, Pt.cells, Pt.slots] at X' e1 e2 h1 h2 h3 st
    subst h1; subst h2; subst h3
    exact Or.inl ⟨v, (T.setVm vm₁).calling g' mk As.toArray, t, U', L, hT, X', hL, e1, e2, hq, st⟩
  · dsimp only [Pt.U, Pt.locs, Pt.cells, Pt.slots] at X' e1 e2 h1 h2 h3 st hcl
    subst h1; subst h2; subst h3
    exact Or.inr ⟨q, (T.setVm vm₁).calling g' mk As.toArray, t, U', L, E, ce, hT, X', hL, e1, e2, hq, hce, hcv, vx_cls hW₁ hcl, st⟩
end
/-! ===== END ===== -/
/-! ===== BEGIN calls by an interface of methods that may throw (vx_callIF, vx_runF follow va_callIF, va_runF of this kit) ===== -/
section
variable {p : Program} {l : Launch} {e : Env} {R : Room} {s : State} {m : MethodId} {args : Array Value} {below : List Frame} {meth : Method} {c : Code} {H : Heap} {locs : List Loc} {cells slots : Nat} {Q : State → Prop}
variable {mc ms : Nat} {free : Addr → Prop} {A0 A1 : Nat → Prop} {H0 : Heap} {a : Array Value} {pc : Nat} {ls : Array Slot} {st0 rest : List Value}
def vx_Run5 (p : Program) (l : Launch) (e : Env) (R : Room) (s : State) (m : MethodId) (args : Array Value) (below : List Frame) (meth : Method) (c : Code) (H : Heap) (locs : List Loc) (cells slots mc ms : Nat) (g : JFrame) (rest : List Value) (Qa : State → Outcome → State → Prop) (XC : String → State → State → Prop) (free : Addr → Prop) : Prop :=
  ∀ T : State, T.heap = H → Stand p l e R s m args below meth c T locs cells slots →
    (∃ (v : Option Value) (st₀ t T' : State) (L : List Loc), st₀.heap = H ∧ Stand p l e R s m args below meth c T' (locs ++ L) (cells + mc) (slots + ms) ∧ (∀ q ∈ L, free q.base) ∧ T'.heap = t.heap ∧ T'.vm = t.vm ∧ Qa st₀ (.returned v) t ∧
      Goes p e below T g T' { g with pc := g.pc + 5, stack := v.toList ++ rest }) ∨
    (∃ (q : Addr) (st₀ t T' : State) (L : List Loc) (E : String) (ce : Cell), st₀.heap = H ∧ Stand p l e R s m args below meth c T' (locs ++ L) (cells + mc) (slots + ms) ∧ (∀ z ∈ L, free z.base) ∧ T'.heap = t.heap ∧ T'.vm = t.vm ∧ XC E st₀ t ∧ t.heap[q]? = some ce ∧ ce.vm = .none ∧ s.vm.findClass E = some ce.cls ∧
      Steps p.tables e below (T.setTop g) ((T'.setTop { g with stack := rest }).pushFrame (.throwing q)))
theorem vx_callIF {T : State} (X : Stand p l e R s m args below meth c T locs cells slots) (hexec : p.tables.exec = Jvm.exec) {own C : String} {index count : Nat} {x y : MethodName} {bytes : ByteArray} {maxL : Nat} {ret : Option FieldType}
    (hown : s.vm.findClass own = some m.cls) (hlink : (Cond.methodLink own index x).before args s = true) (hdecl : (Cond.declares x).before args s = true) (hface : (Cond.interfaceMethod x.cls x.cls x.name x.desc).before args s = true)
    (hsel : (Cond.selects C x y).before args s = true) (hinst : (Cond.instanceMethod y).before args s = true) (hpub : (Cond.publicMethod y).before args s = true) (hunh : (Cond.unhidden C x.name x.desc).before args s = true)
    (hcast : (Cond.castable C x.cls).before args s = true) (hcode : (Cond.code y bytes maxL ret).before args s = true) (hx : x.cls ≠ "java/lang/invoke/MethodHandle" ∧ x.cls ≠ "java/lang/invoke/VarHandle")
    {W9 : Nat} {Pre : Pt → Array Value → Prop} {Post : Pt → Array Value → Option Value → Pt → Prop} {PostX : Pt → Array Value → Addr → Pt → Prop} (hK : vx_Back l R p e below s args y 5 W9 Pre Post PostX)
    {b : Addr} {cellB : Cell} {kB : Class} (hcell : T.heap[b]? = some cellB) (hobj : cellB.vm.isStatics = false) (hcls : s.vm.findClass C = some cellB.cls) (hkB : s.vm.classes[cellB.cls]? = some kB)
    {g : JFrame} (hg : g.method = m) (hsize : g.locals.size = c.maxLocals) {argsL rest : List Value} (hlen : ∀ sig, parseMethodDescriptor x.desc = some sig → argsL.length = sig.parameters.length)
    (hstack : g.stack = argsL.reverse ++ .ref b :: rest) (hW : 2 * g.monitorRoom + (rest.map fun v => v.category).sum ≤ W9) (hdg : decode c.code g.pc = .ok (.invokeinterface index count, 5))
    (hpre : ∀ vm₁, s.WarmedH vm₁ → Pre ⟨T.setVm vm₁, locs, cells, slots⟩ (Value.ref b :: argsL).toArray) :
    (∃ (v : Option Value) (vm₁ : Vm) (B : Pt), s.WarmedH vm₁ ∧ Stand p l e R s m args below meth c B.U B.locs B.cells B.slots ∧ Post ⟨T.setVm vm₁, locs, cells, slots⟩ (Value.ref b :: argsL).toArray v B ∧
      ∀ target, Steps p.tables e below (B.U.setTop { g with pc := g.pc + 5, stack := v.toList ++ rest }) target → Steps p.tables e below (T.setTop g) target) ∨
    (∃ (q : Addr) (vm₁ : Vm) (B : Pt), s.WarmedH vm₁ ∧ Stand p l e R s m args below meth c B.U B.locs B.cells B.slots ∧ PostX ⟨T.setVm vm₁, locs, cells, slots⟩ (Value.ref b :: argsL).toArray q B ∧
      Steps p.tables e below (T.setTop g) ((B.U.setTop { g with stack := rest }).pushFrame (.throwing q))) := by
  obtain ⟨r0, r, hn, hrm, hstR, hsigR⟩ := Cond.declares_spec hdecl
  obtain ⟨cL, kL, r1, hcL, hkL, hiL, hfoundL, hn1⟩ := Cond.interfaceMethod_spec hface
  cases hn.symm.trans hn1
  have hr0cls : r0.cls = cL := Option.some.inj ((findClass_of_methodNamed hn).symm.trans hcL)
  obtain ⟨hnameR, hdescR⟩ := name_of_methodNamed hn hrm
  obtain ⟨mk, methM, hnamed, hmethM, -, habM⟩ := Cond.instanceMethod_spec hinst
  obtain ⟨c2, r2, m2, q1, q2, q3, q4, -⟩ := Cond.selects_spec hsel
  cases hcls.symm.trans q1
  cases hfoundL.symm.trans q2
  cases hnamed.symm.trans q3
  have hselP : selectMethod e.platform s.vm cellB.cls r0 = .method mk := by rw [Launch.admits_selectMethod X.admits]; exact q4
  have hpubM : hasFlag methM.accessFlags Acc.public_ = true := Cond.publicMethod_spec hnamed hmethM hpub
  have hway : ((cellB.cls :: s.vm.superclasses cellB.cls).any fun k => (declaredIn s.vm r.name r.desc k).any fun (_, z) => z.isPrivate || z.isStatic) = false := by
    rw [hnameR, hdescR]; exact Cond.unhidden_spec hcls hunh
  obtain ⟨c3, t3, w1, w2, w3⟩ := Cond.castable_spec hcast
  cases hcls.symm.trans w1
  cases hcL.symm.trans w2
  obtain ⟨vm₁, X₁, hstep₁⟩ := X.invokeinterface hexec hown hlink hn hrm hstR (by rw [hr0cls]; exact hkL) hiL hx (a := b) (cell := cellB) (kcell := kB) hcell
    (fun z h => by rw [h] at hobj; cases hobj) hkB (by rw [hr0cls]; exact w3) hselP hmethM hway hpubM habM (g := g) hg (argsL := argsL) (rest := rest) (hlen _ hsigR) hstack hdg
  rcases hK m meth c ⟨T.setVm vm₁, locs, cells, slots⟩ { g with stack := rest } (.invokeinterface index count) mk (Value.ref b :: argsL).toArray X₁ hg hsize hdg hW (X₁.named hnamed) (hpre vm₁ X₁.warmed) with ⟨v, B, X', hpost, hsteps⟩ | ⟨q, B, X', hpost, hsteps⟩
  · exact Or.inl ⟨v, vm₁, B, X₁.warmed, X', hpost, fun target h => hstep₁ _ fun acts => by rw [doInvoke_state]; exact hsteps.trans h⟩
  · exact Or.inr ⟨q, vm₁, B, X₁.warmed, X', hpost, hstep₁ _ fun acts => by rw [doInvoke_state]; exact hsteps⟩
theorem vx_runF {x y : MethodName} {bytes cc : ByteArray} {maxL nL mc ms n index count : Nat} {ret : Option FieldType} {ws : List Cond} {rm : Room} {Pc : Array Value → State → Prop} {Qc : Array Value → State → Outcome → State → Prop} {XC : String → State → State → Prop} {free : Addr → Prop} {Ts : List Cond} {own C : String} {cC : ClassId} {b : Addr} {As rest : List Value} {g : JFrame}
    (hat : ClassAt s C cC) (S : CallFix p m c cc nL s args Ts own) (hM : vx_Met l y ws rm Pc Qc XC mc ms free) (cw : va_CI R s args own C index x y bytes maxL ret ws rm mc ms n) (hp : PreV s H C b Pc As)
    (hg : g.method = m) (hn : As.length = n) (hsize : g.locals.size = nL) (hstack : g.stack = As.reverse ++ .ref b :: rest) (hW : 2 * g.monitorRoom + (rest.map fun v => v.category).sum ≤ 8) (hdg : decode cc g.pc = .ok (.invokeinterface index count, 5)) (hf : cells + mc ≤ R.cells ∧ slots + ms ≤ R.slots) :
    vx_Run5 p l e R s m args below meth c H locs cells slots mc ms g rest (Qc (Value.ref b :: As).toArray) XC free := by
  obtain ⟨hrc, hrs, hfr, hlo, hws, hcw⟩ := cw.back
  have hini := cw.init
  have hK : vx_Back l R p e below s args y 5 8 (PreOf R mc ms Pc) (PostOf Qc mc ms free) (vx_Post XC mc ms free) := vx_back (bytes := bytes) (maxL := maxL) (ret := ret) hM hp.1 hrc hrs hfr hlo hws hcw (fun a' U hW => word_at hW (Or.inl (by first | rfl | simp [Cond.onTables, Cond.keeps, Cond.steady])) hini)
  obtain ⟨hx, hb, hml, ho, -⟩ := S
  obtain ⟨-, ⟨cellB, hcB, hoB, hclB⟩, hPc⟩ := hp
  obtain ⟨hfc, kB, hkB, -⟩ := hat
  cases hfc.symm.trans hclB
  intro T hT X
  rcases vx_callIF X hx (C := C) (bytes := bytes) (maxL := maxL) (ret := ret) ho cw.link cw.decl cw.face cw.sel cw.inst cw.pub cw.unh cw.cast cw.code cw.notMH hK (by rw [hT]; exact hcB) hoB hclB hkB hg (hsize.trans hml.symm) (argsL := As) (rest := rest) (fun sig h => hn.trans (cw.len sig h)) hstack hW (by rw [hb]; exact hdg)
    (fun vm₁ hW₁ => ⟨hf.1, hf.2, hPc (T.setVm vm₁) hT hW₁⟩) with ⟨v, vm₁, ⟨U', l2, c2, s2⟩, hW₁, X', ⟨g', mk, t, L, e1, e2, hq, h1, hL, h2, h3⟩, st⟩ | ⟨q, vm₁, ⟨U', l2, c2, s2⟩, hW₁, X', ⟨g', mk, t, L, E, ce, e1, e2, hq, hce, hcv, hcl, h1, hL, h2, h3⟩, st⟩
  · dsimp only [Pt.U, Pt.locs, Pt.cells, Pt.slots] at X' e1 e2 h1 h2 h3 st
    subst h1; subst h2; subst h3
    exact Or.inl ⟨v, (T.setVm vm₁).calling g' mk (Value.ref b :: As).toArray, t, U', L, hT, X', hL, e1, e2, hq, st⟩
  · dsimp only [Pt.U, Pt.locs, Pt.cells, Pt.slots] at X' e1 e2 h1 h2 h3 st hcl
    subst h1; subst h2; subst h3
    exact Or.inr ⟨q, (T.setVm vm₁).calling g' mk (Value.ref b :: As).toArray, t, U', L, E, ce, hT, X', hL, e1, e2, hq, hce, hcv, vx_cls hW₁ hcl, st⟩
theorem vx_callFv {S SX : Type} {post : S → Prop} {px : SX → Prop} {B : S → State → Prop} {BX : String → SX → State → Prop} {AX : Nat → Prop} (hr : vx_Run5 p l e R s m args below meth c H locs cells slots mc ms (F0 m pc ls st0) rest (va_Qv post B A1 a) (vx_X px BX AX) free) (hS : va_S A0 H0 H locs) (hA : ∀ q, q < H.size → A1 q → A0 q) (hf : ∀ q, free q → A0 q) (hAX : ∀ q, q < H.size → AX q → A0 q)
    (kx : ∀ (E : String) (ce : Cell) (q9 : Addr) (u : SX) (t : State) (H1 : Heap) (locs1 : List Loc), t.heap = H1 → s.vm.Alike t.vm → px u → BX E u t → H.size ≤ H1.size → (∀ q : Nat, q < H.size → ¬ AX q → H1[q]? = H[q]?) → va_S A0 H0 H1 locs1 → H1[q9]? = some ce → ce.vm = .none → s.vm.findClass E = some ce.cls → vx_W p l e R s m args below meth c H1 locs1 (cells + mc) (slots + ms) Q (F0 m pc ls rest) q9)
    (kk : ∀ (u : S) (t : State) (H1 : Heap) (locs1 : List Loc), t.heap = H1 → s.vm.Alike t.vm → post u → B u t → H.size ≤ H1.size → (∀ q : Nat, q < H.size → ¬ A1 q → H1[q]? = H[q]?) → va_S A0 H0 H1 locs1 → W p l e R s m args below meth c H1 locs1 (cells + mc) (slots + ms) Q (F0 m (pc + 5) ls (rest))) : W p l e R s m args below meth c H locs cells slots Q (F0 m pc ls st0) := by
  intro T hT X
  rcases hr T hT X with ⟨v, st₀, t, T', L, h0, X', hL, e1, e2, ⟨⟨u, hv, hp, hb⟩, hF⟩, st⟩ | ⟨q, st₀, t, T', L, E, ce, h0, X', hL, e1, e2, ⟨u, hp, hb, hF⟩, hce, hcv, hcl, st⟩
  · cases hv
    obtain ⟨k1, k2, k3⟩ := vx_keep h0 e1 hS hA hf hL hF
    obtain ⟨t2, a1, b1⟩ := kk u t T'.heap (locs ++ L) e1.symm (by rw [← e2]; exact X'.warmed.alike) hp hb k1 k2 k3 T' rfl X'
    exact ⟨t2, st t2 a1, b1⟩
  · obtain ⟨k1, k2, k3⟩ := vx_keep h0 e1 hS hAX hf hL hF
    obtain ⟨t2, a1, b1⟩ := kx E ce q u t T'.heap (locs ++ L) e1.symm (by rw [← e2]; exact X'.warmed.alike) hp hb k1 k2 k3 (by rw [e1]; exact hce) hcv hcl T' rfl X'
    exact ⟨t2, st.trans a1, b1⟩
theorem vx_callFi {S SX : Type} {post : Int32 → S → Prop} {px : SX → Prop} {B : S → State → Prop} {BX : String → SX → State → Prop} {AX : Nat → Prop} (hr : vx_Run5 p l e R s m args below meth c H locs cells slots mc ms (F0 m pc ls st0) rest (va_Qi post B A1 a) (vx_X px BX AX) free) (hS : va_S A0 H0 H locs) (hA : ∀ q, q < H.size → A1 q → A0 q) (hf : ∀ q, free q → A0 q) (hAX : ∀ q, q < H.size → AX q → A0 q)
    (kx : ∀ (E : String) (ce : Cell) (q9 : Addr) (u : SX) (t : State) (H1 : Heap) (locs1 : List Loc), t.heap = H1 → s.vm.Alike t.vm → px u → BX E u t → H.size ≤ H1.size → (∀ q : Nat, q < H.size → ¬ AX q → H1[q]? = H[q]?) → va_S A0 H0 H1 locs1 → H1[q9]? = some ce → ce.vm = .none → s.vm.findClass E = some ce.cls → vx_W p l e R s m args below meth c H1 locs1 (cells + mc) (slots + ms) Q (F0 m pc ls rest) q9)
    (kk : ∀ (r : Int32) (u : S) (t : State) (H1 : Heap) (locs1 : List Loc), t.heap = H1 → s.vm.Alike t.vm → post r u → B u t → H.size ≤ H1.size → (∀ q : Nat, q < H.size → ¬ A1 q → H1[q]? = H[q]?) → va_S A0 H0 H1 locs1 → W p l e R s m args below meth c H1 locs1 (cells + mc) (slots + ms) Q (F0 m (pc + 5) ls (.int r :: rest))) : W p l e R s m args below meth c H locs cells slots Q (F0 m pc ls st0) := by
  intro T hT X
  rcases hr T hT X with ⟨v, st₀, t, T', L, h0, X', hL, e1, e2, ⟨⟨r, u, hv, hp, hb⟩, hF⟩, st⟩ | ⟨q, st₀, t, T', L, E, ce, h0, X', hL, e1, e2, ⟨u, hp, hb, hF⟩, hce, hcv, hcl, st⟩
  · cases hv
    obtain ⟨k1, k2, k3⟩ := vx_keep h0 e1 hS hA hf hL hF
    obtain ⟨t2, a1, b1⟩ := kk r u t T'.heap (locs ++ L) e1.symm (by rw [← e2]; exact X'.warmed.alike) hp hb k1 k2 k3 T' rfl X'
    exact ⟨t2, st t2 a1, b1⟩
  · obtain ⟨k1, k2, k3⟩ := vx_keep h0 e1 hS hAX hf hL hF
    obtain ⟨t2, a1, b1⟩ := kx E ce q u t T'.heap (locs ++ L) e1.symm (by rw [← e2]; exact X'.warmed.alike) hp hb k1 k2 k3 (by rw [e1]; exact hce) hcv hcl T' rfl X'
    exact ⟨t2, st.trans a1, b1⟩
theorem vx_callFl {S SX : Type} {post : Int64 → S → Prop} {px : SX → Prop} {B : S → State → Prop} {BX : String → SX → State → Prop} {AX : Nat → Prop} (hr : vx_Run5 p l e R s m args below meth c H locs cells slots mc ms (F0 m pc ls st0) rest (va_Ql post B A1 a) (vx_X px BX AX) free) (hS : va_S A0 H0 H locs) (hA : ∀ q, q < H.size → A1 q → A0 q) (hf : ∀ q, free q → A0 q) (hAX : ∀ q, q < H.size → AX q → A0 q)
    (kx : ∀ (E : String) (ce : Cell) (q9 : Addr) (u : SX) (t : State) (H1 : Heap) (locs1 : List Loc), t.heap = H1 → s.vm.Alike t.vm → px u → BX E u t → H.size ≤ H1.size → (∀ q : Nat, q < H.size → ¬ AX q → H1[q]? = H[q]?) → va_S A0 H0 H1 locs1 → H1[q9]? = some ce → ce.vm = .none → s.vm.findClass E = some ce.cls → vx_W p l e R s m args below meth c H1 locs1 (cells + mc) (slots + ms) Q (F0 m pc ls rest) q9)
    (kk : ∀ (r : Int64) (u : S) (t : State) (H1 : Heap) (locs1 : List Loc), t.heap = H1 → s.vm.Alike t.vm → post r u → B u t → H.size ≤ H1.size → (∀ q : Nat, q < H.size → ¬ A1 q → H1[q]? = H[q]?) → va_S A0 H0 H1 locs1 → W p l e R s m args below meth c H1 locs1 (cells + mc) (slots + ms) Q (F0 m (pc + 5) ls (.long r :: rest))) : W p l e R s m args below meth c H locs cells slots Q (F0 m pc ls st0) := by
  intro T hT X
  rcases hr T hT X with ⟨v, st₀, t, T', L, h0, X', hL, e1, e2, ⟨⟨r, u, hv, hp, hb⟩, hF⟩, st⟩ | ⟨q, st₀, t, T', L, E, ce, h0, X', hL, e1, e2, ⟨u, hp, hb, hF⟩, hce, hcv, hcl, st⟩
  · cases hv
    obtain ⟨k1, k2, k3⟩ := vx_keep h0 e1 hS hA hf hL hF
    obtain ⟨t2, a1, b1⟩ := kk r u t T'.heap (locs ++ L) e1.symm (by rw [← e2]; exact X'.warmed.alike) hp hb k1 k2 k3 T' rfl X'
    exact ⟨t2, st t2 a1, b1⟩
  · obtain ⟨k1, k2, k3⟩ := vx_keep h0 e1 hS hAX hf hL hF
    obtain ⟨t2, a1, b1⟩ := kx E ce q u t T'.heap (locs ++ L) e1.symm (by rw [← e2]; exact X'.warmed.alike) hp hb k1 k2 k3 (by rw [e1]; exact hce) hcv hcl T' rfl X'
    exact ⟨t2, st.trans a1, b1⟩
theorem vx_callFf {S SX : Type} {post : UInt32 → S → Prop} {px : SX → Prop} {B : S → State → Prop} {BX : String → SX → State → Prop} {AX : Nat → Prop} (hr : vx_Run5 p l e R s m args below meth c H locs cells slots mc ms (F0 m pc ls st0) rest (va_Qf post B A1 a) (vx_X px BX AX) free) (hS : va_S A0 H0 H locs) (hA : ∀ q, q < H.size → A1 q → A0 q) (hf : ∀ q, free q → A0 q) (hAX : ∀ q, q < H.size → AX q → A0 q)
    (kx : ∀ (E : String) (ce : Cell) (q9 : Addr) (u : SX) (t : State) (H1 : Heap) (locs1 : List Loc), t.heap = H1 → s.vm.Alike t.vm → px u → BX E u t → H.size ≤ H1.size → (∀ q : Nat, q < H.size → ¬ AX q → H1[q]? = H[q]?) → va_S A0 H0 H1 locs1 → H1[q9]? = some ce → ce.vm = .none → s.vm.findClass E = some ce.cls → vx_W p l e R s m args below meth c H1 locs1 (cells + mc) (slots + ms) Q (F0 m pc ls rest) q9)
    (kk : ∀ (r : UInt32) (u : S) (t : State) (H1 : Heap) (locs1 : List Loc), t.heap = H1 → s.vm.Alike t.vm → post r u → B u t → H.size ≤ H1.size → (∀ q : Nat, q < H.size → ¬ A1 q → H1[q]? = H[q]?) → va_S A0 H0 H1 locs1 → W p l e R s m args below meth c H1 locs1 (cells + mc) (slots + ms) Q (F0 m (pc + 5) ls (.float r :: rest))) : W p l e R s m args below meth c H locs cells slots Q (F0 m pc ls st0) := by
  intro T hT X
  rcases hr T hT X with ⟨v, st₀, t, T', L, h0, X', hL, e1, e2, ⟨⟨r, u, hv, hp, hb⟩, hF⟩, st⟩ | ⟨q, st₀, t, T', L, E, ce, h0, X', hL, e1, e2, ⟨u, hp, hb, hF⟩, hce, hcv, hcl, st⟩
  · cases hv
    obtain ⟨k1, k2, k3⟩ := vx_keep h0 e1 hS hA hf hL hF
    obtain ⟨t2, a1, b1⟩ := kk r u t T'.heap (locs ++ L) e1.symm (by rw [← e2]; exact X'.warmed.alike) hp hb k1 k2 k3 T' rfl X'
    exact ⟨t2, st t2 a1, b1⟩
  · obtain ⟨k1, k2, k3⟩ := vx_keep h0 e1 hS hAX hf hL hF
    obtain ⟨t2, a1, b1⟩ := kx E ce q u t T'.heap (locs ++ L) e1.symm (by rw [← e2]; exact X'.warmed.alike) hp hb k1 k2 k3 (by rw [e1]; exact hce) hcv hcl T' rfl X'
    exact ⟨t2, st.trans a1, b1⟩
theorem vx_callFd {S SX : Type} {post : UInt64 → S → Prop} {px : SX → Prop} {B : S → State → Prop} {BX : String → SX → State → Prop} {AX : Nat → Prop} (hr : vx_Run5 p l e R s m args below meth c H locs cells slots mc ms (F0 m pc ls st0) rest (va_Qd post B A1 a) (vx_X px BX AX) free) (hS : va_S A0 H0 H locs) (hA : ∀ q, q < H.size → A1 q → A0 q) (hf : ∀ q, free q → A0 q) (hAX : ∀ q, q < H.size → AX q → A0 q)
    (kx : ∀ (E : String) (ce : Cell) (q9 : Addr) (u : SX) (t : State) (H1 : Heap) (locs1 : List Loc), t.heap = H1 → s.vm.Alike t.vm → px u → BX E u t → H.size ≤ H1.size → (∀ q : Nat, q < H.size → ¬ AX q → H1[q]? = H[q]?) → va_S A0 H0 H1 locs1 → H1[q9]? = some ce → ce.vm = .none → s.vm.findClass E = some ce.cls → vx_W p l e R s m args below meth c H1 locs1 (cells + mc) (slots + ms) Q (F0 m pc ls rest) q9)
    (kk : ∀ (r : UInt64) (u : S) (t : State) (H1 : Heap) (locs1 : List Loc), t.heap = H1 → s.vm.Alike t.vm → post r u → B u t → H.size ≤ H1.size → (∀ q : Nat, q < H.size → ¬ A1 q → H1[q]? = H[q]?) → va_S A0 H0 H1 locs1 → W p l e R s m args below meth c H1 locs1 (cells + mc) (slots + ms) Q (F0 m (pc + 5) ls (.double r :: rest))) : W p l e R s m args below meth c H locs cells slots Q (F0 m pc ls st0) := by
  intro T hT X
  rcases hr T hT X with ⟨v, st₀, t, T', L, h0, X', hL, e1, e2, ⟨⟨r, u, hv, hp, hb⟩, hF⟩, st⟩ | ⟨q, st₀, t, T', L, E, ce, h0, X', hL, e1, e2, ⟨u, hp, hb, hF⟩, hce, hcv, hcl, st⟩
  · cases hv
    obtain ⟨k1, k2, k3⟩ := vx_keep h0 e1 hS hA hf hL hF
    obtain ⟨t2, a1, b1⟩ := kk r u t T'.heap (locs ++ L) e1.symm (by rw [← e2]; exact X'.warmed.alike) hp hb k1 k2 k3 T' rfl X'
    exact ⟨t2, st t2 a1, b1⟩
  · obtain ⟨k1, k2, k3⟩ := vx_keep h0 e1 hS hAX hf hL hF
    obtain ⟨t2, a1, b1⟩ := kx E ce q u t T'.heap (locs ++ L) e1.symm (by rw [← e2]; exact X'.warmed.alike) hp hb k1 k2 k3 (by rw [e1]; exact hce) hcv hcl T' rfl X'
    exact ⟨t2, st.trans a1, b1⟩
end
/-! ===== END ===== -/
/-! ===== BEGIN by an interface, a method with a table of its own that may throw (follows va_callIFW, va_runFW) ===== -/
section
variable {p : Program} {l : Launch} {e : Env} {R : Room} {s : State} {m : MethodId} {args : Array Value} {below : List Frame} {meth : Method} {c : Code} {H : Heap} {locs : List Loc} {cells slots : Nat}
theorem vx_callIFW {T : State} (X : Stand p l e R s m args below meth c T locs cells slots) (hexec : p.tables.exec = Jvm.exec) {own C : String} {index count : Nat} {x y : MethodName} {bytes : ByteArray} {maxL : Nat} {ret : Option FieldType} {hh : List (Nat × Nat × Nat × Nat)}
    (hown : s.vm.findClass own = some m.cls) (hlink : (Cond.methodLink own index x).before args s = true) (hdecl : (Cond.declares x).before args s = true) (hface : (Cond.interfaceMethod x.cls x.cls x.name x.desc).before args s = true)
    (hsel : (Cond.selects C x y).before args s = true) (hinst : (Cond.instanceMethod y).before args s = true) (hpub : (Cond.publicMethod y).before args s = true) (hunh : (Cond.unhidden C x.name x.desc).before args s = true)
    (hcast : (Cond.castable C x.cls).before args s = true) (hcode : (Cond.codeWith y bytes maxL ret hh).before args s = true) (hx : x.cls ≠ "java/lang/invoke/MethodHandle" ∧ x.cls ≠ "java/lang/invoke/VarHandle")
    {W : Nat} {Pre : Pt → Array Value → Prop} {Post : Pt → Array Value → Option Value → Pt → Prop} {PostX : Pt → Array Value → Addr → Pt → Prop} (hK : vx_Back l R p e below s args y 5 W Pre Post PostX)
    {b : Addr} {cellB : Cell} {kB : Class} (hcell : T.heap[b]? = some cellB) (hobj : cellB.vm.isStatics = false) (hcls : s.vm.findClass C = some cellB.cls) (hkB : s.vm.classes[cellB.cls]? = some kB)
    {g : JFrame} (hg : g.method = m) (hsize : g.locals.size = c.maxLocals) {argsL rest : List Value} (hlen : ∀ sig, parseMethodDescriptor x.desc = some sig → argsL.length = sig.parameters.length)
    (hstack : g.stack = argsL.reverse ++ .ref b :: rest) (hW : 2 * g.monitorRoom + (rest.map fun v => v.category).sum ≤ W) (hdg : decode c.code g.pc = .ok (.invokeinterface index count, 5))
    (hpre : ∀ vm₁, s.WarmedH vm₁ → Pre ⟨T.setVm vm₁, locs, cells, slots⟩ (Value.ref b :: argsL).toArray) :
    (∃ (v : Option Value) (vm₁ : Vm) (B : Pt), s.WarmedH vm₁ ∧ Stand p l e R s m args below meth c B.U B.locs B.cells B.slots ∧ Post ⟨T.setVm vm₁, locs, cells, slots⟩ (Value.ref b :: argsL).toArray v B ∧
      ∀ target, Steps p.tables e below (B.U.setTop { g with pc := g.pc + 5, stack := v.toList ++ rest }) target → Steps p.tables e below (T.setTop g) target) ∨
    (∃ (q : Addr) (vm₁ : Vm) (B : Pt), s.WarmedH vm₁ ∧ Stand p l e R s m args below meth c B.U B.locs B.cells B.slots ∧ PostX ⟨T.setVm vm₁, locs, cells, slots⟩ (Value.ref b :: argsL).toArray q B ∧
      Steps p.tables e below (T.setTop g) ((B.U.setTop { g with stack := rest }).pushFrame (.throwing q))) := by
  obtain ⟨r0, r, hn, hrm, hstR, hsigR⟩ := Cond.declares_spec hdecl
  obtain ⟨cL, kL, r1, hcL, hkL, hiL, hfoundL, hn1⟩ := Cond.interfaceMethod_spec hface
  cases hn.symm.trans hn1
  have hr0cls : r0.cls = cL := Option.some.inj ((findClass_of_methodNamed hn).symm.trans hcL)
  obtain ⟨hnameR, hdescR⟩ := name_of_methodNamed hn hrm
  obtain ⟨mk, methM, hnamed, hmethM, -, habM⟩ := Cond.instanceMethod_spec hinst
  obtain ⟨c2, r2, m2, q1, q2, q3, q4, -⟩ := Cond.selects_spec hsel
  cases hcls.symm.trans q1
  cases hfoundL.symm.trans q2
  cases hnamed.symm.trans q3
  have hselP : selectMethod e.platform s.vm cellB.cls r0 = .method mk := by rw [Launch.admits_selectMethod X.admits]; exact q4
  have hpubM : hasFlag methM.accessFlags Acc.public_ = true := Cond.publicMethod_spec hnamed hmethM hpub
  have hway : ((cellB.cls :: s.vm.superclasses cellB.cls).any fun k => (declaredIn s.vm r.name r.desc k).any fun (_, z) => z.isPrivate || z.isStatic) = false := by
    rw [hnameR, hdescR]; exact Cond.unhidden_spec hcls hunh
  obtain ⟨c3, t3, w1, w2, w3⟩ := Cond.castable_spec hcast
  cases hcls.symm.trans w1
  cases hcL.symm.trans w2
  obtain ⟨vm₁, X₁, hstep₁⟩ := X.invokeinterface hexec hown hlink hn hrm hstR (by rw [hr0cls]; exact hkL) hiL hx (a := b) (cell := cellB) (kcell := kB) hcell
    (fun z h => by rw [h] at hobj; cases hobj) hkB (by rw [hr0cls]; exact w3) hselP hmethM hway hpubM habM (g := g) hg (argsL := argsL) (rest := rest) (hlen _ hsigR) hstack hdg
  rcases hK m meth c ⟨T.setVm vm₁, locs, cells, slots⟩ { g with stack := rest } (.invokeinterface index count) mk (Value.ref b :: argsL).toArray X₁ hg hsize hdg hW (X₁.named hnamed) (hpre vm₁ X₁.warmed) with ⟨v, B, X', hpost, hsteps⟩ | ⟨q, B, X', hpost, hsteps⟩
  · exact Or.inl ⟨v, vm₁, B, X₁.warmed, X', hpost, fun target h => hstep₁ _ fun acts => by rw [doInvoke_state]; exact hsteps.trans h⟩
  · exact Or.inr ⟨q, vm₁, B, X₁.warmed, X', hpost, hstep₁ _ fun acts => by rw [doInvoke_state]; exact hsteps⟩
theorem vx_runFW {x y : MethodName} {bytes cc : ByteArray} {maxL nL mc ms n index count : Nat} {ret : Option FieldType} {hh : List (Nat × Nat × Nat × Nat)} {ws : List Cond} {rm : Room} {Pc : Array Value → State → Prop} {Qc : Array Value → State → Outcome → State → Prop} {XC : String → State → State → Prop} {free : Addr → Prop} {Ts : List Cond} {own C : String} {cC : ClassId} {b : Addr} {As rest : List Value} {g : JFrame}
    (hat : ClassAt s C cC) (S : CallFix p m c cc nL s args Ts own) (hM : vx_Met l y ws rm Pc Qc XC mc ms free) (cw : va_CIW R s args own C index x y bytes maxL ret hh ws rm mc ms n) (hp : PreV s H C b Pc As)
    (hg : g.method = m) (hn : As.length = n) (hsize : g.locals.size = nL) (hstack : g.stack = As.reverse ++ .ref b :: rest) (hW : 2 * g.monitorRoom + (rest.map fun v => v.category).sum ≤ 8) (hdg : decode cc g.pc = .ok (.invokeinterface index count, 5)) (hf : cells + mc ≤ R.cells ∧ slots + ms ≤ R.slots) :
    vx_Run5 p l e R s m args below meth c H locs cells slots mc ms g rest (Qc (Value.ref b :: As).toArray) XC free := by
  obtain ⟨hrc, hrs, hfr, hlo, hws, hcw⟩ := cw.back
  have hini := cw.init
  have hK : vx_Back l R p e below s args y 5 8 (PreOf R mc ms Pc) (PostOf Qc mc ms free) (vx_Post XC mc ms free) := vx_backW (hh := hh) (bytes := bytes) (maxL := maxL) (ret := ret) hM hp.1 hrc hrs hfr hlo hws hcw (fun a' U hW => word_at hW (Or.inl (by first | rfl | simp [Cond.onTables, Cond.keeps, Cond.steady])) hini)
  obtain ⟨hx, hb, hml, ho, -⟩ := S
  obtain ⟨-, ⟨cellB, hcB, hoB, hclB⟩, hPc⟩ := hp
  obtain ⟨hfc, kB, hkB, -⟩ := hat
  cases hfc.symm.trans hclB
  intro T hT X
  rcases vx_callIFW X hx (C := C) (hh := hh) (bytes := bytes) (maxL := maxL) (ret := ret) ho cw.link cw.decl cw.face cw.sel cw.inst cw.pub cw.unh cw.cast cw.code cw.notMH hK (by rw [hT]; exact hcB) hoB hclB hkB hg (hsize.trans hml.symm) (argsL := As) (rest := rest) (fun sig h => hn.trans (cw.len sig h)) hstack hW (by rw [hb]; exact hdg)
    (fun vm₁ hW₁ => ⟨hf.1, hf.2, hPc (T.setVm vm₁) hT hW₁⟩) with ⟨v, vm₁, ⟨U', l2, c2, s2⟩, hW₁, X', ⟨g', mk, t, L, e1, e2, hq, h1, hL, h2, h3⟩, st⟩ | ⟨q, vm₁, ⟨U', l2, c2, s2⟩, hW₁, X', ⟨g', mk, t, L, E, ce, e1, e2, hq, hce, hcv, hcl, h1, hL, h2, h3⟩, st⟩
  · dsimp only [Pt.U, Pt.locs, Pt.cells, Pt.slots] at X' e1 e2 h1 h2 h3 st
    subst h1; subst h2; subst h3
    exact Or.inl ⟨v, (T.setVm vm₁).calling g' mk (Value.ref b :: As).toArray, t, U', L, hT, X', hL, e1, e2, hq, st⟩
  · dsimp only [Pt.U, Pt.locs, Pt.cells, Pt.slots] at X' e1 e2 h1 h2 h3 st hcl
    subst h1; subst h2; subst h3
    exact Or.inr ⟨q, (T.setVm vm₁).calling g' mk (Value.ref b :: As).toArray, t, U', L, E, ce, hT, X', hL, e1, e2, hq, hce, hcv, vx_cls hW₁ hcl, st⟩
end
/-! ===== END ===== -/
/-! ===== BEGIN .. of methods that hand back an object of the pool ===== -/
section
variable {p : Program} {l : Launch} {e : Env} {R : Room} {s : State} {m : MethodId} {args : Array Value} {below : List Frame} {meth : Method} {c : Code} {H : Heap} {locs : List Loc} {cells slots : Nat} {Q : State → Prop}
variable {mc ms : Nat} {free : Addr → Prop} {A0 A1 : Nat → Prop} {H0 : Heap} {a : Array Value} {pc : Nat} {ls : Array Slot} {st0 rest : List Value}
theorem vx_callq {S SX : Type} {post : Option Nat → S → Prop} {px : SX → Prop} {B : S → State → Prop} {BX : String → SX → State → Prop} {AX : Nat → Prop} (hr : vx_Run p l e R s m args below meth c H locs cells slots mc ms (F0 m pc ls st0) rest (va_Qq post B A1 a) (vx_X px BX AX) free) (hS : va_S A0 H0 H locs) (hA : ∀ q, q < H.size → A1 q → A0 q) (hf : ∀ q, free q → A0 q) (hAX : ∀ q, q < H.size → AX q → A0 q)
    (kx : ∀ (E : String) (ce : Cell) (q9 : Addr) (u : SX) (t : State) (H1 : Heap) (locs1 : List Loc), t.heap = H1 → s.vm.Alike t.vm → px u → BX E u t → H.size ≤ H1.size → (∀ q : Nat, q < H.size → ¬ AX q → H1[q]? = H[q]?) → va_S A0 H0 H1 locs1 → H1[q9]? = some ce → ce.vm = .none → s.vm.findClass E = some ce.cls → vx_W p l e R s m args below meth c H1 locs1 (cells + mc) (slots + ms) Q (F0 m pc ls rest) q9)
    (kk : ∀ (r : Option Nat) (u : S) (t : State) (H1 : Heap) (locs1 : List Loc), t.heap = H1 → s.vm.Alike t.vm → post r u → B u t → H.size ≤ H1.size → (∀ q : Nat, q < H.size → ¬ A1 q → H1[q]? = H[q]?) → va_S A0 H0 H1 locs1 → W p l e R s m args below meth c H1 locs1 (cells + mc) (slots + ms) Q (F0 m (pc + 3) ls (va_rf r :: rest))) : W p l e R s m args below meth c H locs cells slots Q (F0 m pc ls st0) := by
  intro T hT X
  rcases hr T hT X with ⟨v, st₀, t, T', L, h0, X', hL, e1, e2, ⟨⟨r, u, hv, hp, hb⟩, hF⟩, st⟩ | ⟨q, st₀, t, T', L, E, ce, h0, X', hL, e1, e2, ⟨u, hp, hb, hF⟩, hce, hcv, hcl, st⟩
  · cases hv
    obtain ⟨k1, k2, k3⟩ := vx_keep h0 e1 hS hA hf hL hF
    obtain ⟨t2, a1, b1⟩ := kk r u t T'.heap (locs ++ L) e1.symm (by rw [← e2]; exact X'.warmed.alike) hp hb k1 k2 k3 T' rfl X'
    exact ⟨t2, st t2 a1, b1⟩
  · obtain ⟨k1, k2, k3⟩ := vx_keep h0 e1 hS hAX hf hL hF
    obtain ⟨t2, a1, b1⟩ := kx E ce q u t T'.heap (locs ++ L) e1.symm (by rw [← e2]; exact X'.warmed.alike) hp hb k1 k2 k3 (by rw [e1]; exact hce) hcv hcl T' rfl X'
    exact ⟨t2, st.trans a1, b1⟩
end
/-! ===== END ===== -/
/-! ===== BEGIN .. a constant ===== -/
section
variable {p : Program} {l : Launch} {e : Env} {R : Room} {s : State} {m : MethodId} {args : Array Value} {below : List Frame} {meth : Method} {c : Code} {H : Heap} {locs : List Loc} {cells slots : Nat} {Q : State → Prop}
variable {mc ms : Nat} {free : Addr → Prop} {A0 A1 : Nat → Prop} {H0 : Heap} {a : Array Value} {pc : Nat} {ls : Array Slot} {st0 rest : List Value}
theorem vx_calle {ad : Nat → Nat} {S SX : Type} {post : Option Nat → S → Prop} {px : SX → Prop} {B : S → State → Prop} {BX : String → SX → State → Prop} {AX : Nat → Prop} (hr : vx_Run p l e R s m args below meth c H locs cells slots mc ms (F0 m pc ls st0) rest (va_Qe ad post B A1 a) (vx_X px BX AX) free) (hS : va_S A0 H0 H locs) (hA : ∀ q, q < H.size → A1 q → A0 q) (hf : ∀ q, free q → A0 q) (hAX : ∀ q, q < H.size → AX q → A0 q)
    (kx : ∀ (E : String) (ce : Cell) (q9 : Addr) (u : SX) (t : State) (H1 : Heap) (locs1 : List Loc), t.heap = H1 → s.vm.Alike t.vm → px u → BX E u t → H.size ≤ H1.size → (∀ q : Nat, q < H.size → ¬ AX q → H1[q]? = H[q]?) → va_S A0 H0 H1 locs1 → H1[q9]? = some ce → ce.vm = .none → s.vm.findClass E = some ce.cls → vx_W p l e R s m args below meth c H1 locs1 (cells + mc) (slots + ms) Q (F0 m pc ls rest) q9)
    (kk : ∀ (r : Option Nat) (u : S) (t : State) (H1 : Heap) (locs1 : List Loc), t.heap = H1 → s.vm.Alike t.vm → post r u → B u t → H.size ≤ H1.size → (∀ q : Nat, q < H.size → ¬ A1 q → H1[q]? = H[q]?) → va_S A0 H0 H1 locs1 → W p l e R s m args below meth c H1 locs1 (cells + mc) (slots + ms) Q (F0 m (pc + 3) ls (va_re ad r :: rest))) : W p l e R s m args below meth c H locs cells slots Q (F0 m pc ls st0) := by
  intro T hT X
  rcases hr T hT X with ⟨v, st₀, t, T', L, h0, X', hL, e1, e2, ⟨⟨r, u, hv, hp, hb⟩, hF⟩, st⟩ | ⟨q, st₀, t, T', L, E, ce, h0, X', hL, e1, e2, ⟨u, hp, hb, hF⟩, hce, hcv, hcl, st⟩
  · cases hv
    obtain ⟨k1, k2, k3⟩ := vx_keep h0 e1 hS hA hf hL hF
    obtain ⟨t2, a1, b1⟩ := kk r u t T'.heap (locs ++ L) e1.symm (by rw [← e2]; exact X'.warmed.alike) hp hb k1 k2 k3 T' rfl X'
    exact ⟨t2, st t2 a1, b1⟩
  · obtain ⟨k1, k2, k3⟩ := vx_keep h0 e1 hS hAX hf hL hF
    obtain ⟨t2, a1, b1⟩ := kx E ce q u t T'.heap (locs ++ L) e1.symm (by rw [← e2]; exact X'.warmed.alike) hp hb k1 k2 k3 (by rw [e1]; exact hce) hcv hcl T' rfl X'
    exact ⟨t2, st.trans a1, b1⟩
end
/-! ===== END ===== -/
/-! ===== BEGIN .. by an interface, an object ===== -/
section
variable {p : Program} {l : Launch} {e : Env} {R : Room} {s : State} {m : MethodId} {args : Array Value} {below : List Frame} {meth : Method} {c : Code} {H : Heap} {locs : List Loc} {cells slots : Nat} {Q : State → Prop}
variable {mc ms : Nat} {free : Addr → Prop} {A0 A1 : Nat → Prop} {H0 : Heap} {a : Array Value} {pc : Nat} {ls : Array Slot} {st0 rest : List Value}
theorem vx_callFq {S SX : Type} {post : Option Nat → S → Prop} {px : SX → Prop} {B : S → State → Prop} {BX : String → SX → State → Prop} {AX : Nat → Prop} (hr : vx_Run5 p l e R s m args below meth c H locs cells slots mc ms (F0 m pc ls st0) rest (va_Qq post B A1 a) (vx_X px BX AX) free) (hS : va_S A0 H0 H locs) (hA : ∀ q, q < H.size → A1 q → A0 q) (hf : ∀ q, free q → A0 q) (hAX : ∀ q, q < H.size → AX q → A0 q)
    (kx : ∀ (E : String) (ce : Cell) (q9 : Addr) (u : SX) (t : State) (H1 : Heap) (locs1 : List Loc), t.heap = H1 → s.vm.Alike t.vm → px u → BX E u t → H.size ≤ H1.size → (∀ q : Nat, q < H.size → ¬ AX q → H1[q]? = H[q]?) → va_S A0 H0 H1 locs1 → H1[q9]? = some ce → ce.vm = .none → s.vm.findClass E = some ce.cls → vx_W p l e R s m args below meth c H1 locs1 (cells + mc) (slots + ms) Q (F0 m pc ls rest) q9)
    (kk : ∀ (r : Option Nat) (u : S) (t : State) (H1 : Heap) (locs1 : List Loc), t.heap = H1 → s.vm.Alike t.vm → post r u → B u t → H.size ≤ H1.size → (∀ q : Nat, q < H.size → ¬ A1 q → H1[q]? = H[q]?) → va_S A0 H0 H1 locs1 → W p l e R s m args below meth c H1 locs1 (cells + mc) (slots + ms) Q (F0 m (pc + 5) ls (va_rf r :: rest))) : W p l e R s m args below meth c H locs cells slots Q (F0 m pc ls st0) := by
  intro T hT X
  rcases hr T hT X with ⟨v, st₀, t, T', L, h0, X', hL, e1, e2, ⟨⟨r, u, hv, hp, hb⟩, hF⟩, st⟩ | ⟨q, st₀, t, T', L, E, ce, h0, X', hL, e1, e2, ⟨u, hp, hb, hF⟩, hce, hcv, hcl, st⟩
  · cases hv
    obtain ⟨k1, k2, k3⟩ := vx_keep h0 e1 hS hA hf hL hF
    obtain ⟨t2, a1, b1⟩ := kk r u t T'.heap (locs ++ L) e1.symm (by rw [← e2]; exact X'.warmed.alike) hp hb k1 k2 k3 T' rfl X'
    exact ⟨t2, st t2 a1, b1⟩
  · obtain ⟨k1, k2, k3⟩ := vx_keep h0 e1 hS hAX hf hL hF
    obtain ⟨t2, a1, b1⟩ := kx E ce q u t T'.heap (locs ++ L) e1.symm (by rw [← e2]; exact X'.warmed.alike) hp hb k1 k2 k3 (by rw [e1]; exact hce) hcv hcl T' rfl X'
    exact ⟨t2, st.trans a1, b1⟩
end
/-! ===== END ===== -/
/-! ===== BEGIN .. by an interface, a constant ===== -/
section
variable {p : Program} {l : Launch} {e : Env} {R : Room} {s : State} {m : MethodId} {args : Array Value} {below : List Frame} {meth : Method} {c : Code} {H : Heap} {locs : List Loc} {cells slots : Nat} {Q : State → Prop}
variable {mc ms : Nat} {free : Addr → Prop} {A0 A1 : Nat → Prop} {H0 : Heap} {a : Array Value} {pc : Nat} {ls : Array Slot} {st0 rest : List Value}
theorem vx_callFe {ad : Nat → Nat} {S SX : Type} {post : Option Nat → S → Prop} {px : SX → Prop} {B : S → State → Prop} {BX : String → SX → State → Prop} {AX : Nat → Prop} (hr : vx_Run5 p l e R s m args below meth c H locs cells slots mc ms (F0 m pc ls st0) rest (va_Qe ad post B A1 a) (vx_X px BX AX) free) (hS : va_S A0 H0 H locs) (hA : ∀ q, q < H.size → A1 q → A0 q) (hf : ∀ q, free q → A0 q) (hAX : ∀ q, q < H.size → AX q → A0 q)
    (kx : ∀ (E : String) (ce : Cell) (q9 : Addr) (u : SX) (t : State) (H1 : Heap) (locs1 : List Loc), t.heap = H1 → s.vm.Alike t.vm → px u → BX E u t → H.size ≤ H1.size → (∀ q : Nat, q < H.size → ¬ AX q → H1[q]? = H[q]?) → va_S A0 H0 H1 locs1 → H1[q9]? = some ce → ce.vm = .none → s.vm.findClass E = some ce.cls → vx_W p l e R s m args below meth c H1 locs1 (cells + mc) (slots + ms) Q (F0 m pc ls rest) q9)
    (kk : ∀ (r : Option Nat) (u : S) (t : State) (H1 : Heap) (locs1 : List Loc), t.heap = H1 → s.vm.Alike t.vm → post r u → B u t → H.size ≤ H1.size → (∀ q : Nat, q < H.size → ¬ A1 q → H1[q]? = H[q]?) → va_S A0 H0 H1 locs1 → W p l e R s m args below meth c H1 locs1 (cells + mc) (slots + ms) Q (F0 m (pc + 5) ls (va_re ad r :: rest))) : W p l e R s m args below meth c H locs cells slots Q (F0 m pc ls st0) := by
  intro T hT X
  rcases hr T hT X with ⟨v, st₀, t, T', L, h0, X', hL, e1, e2, ⟨⟨r, u, hv, hp, hb⟩, hF⟩, st⟩ | ⟨q, st₀, t, T', L, E, ce, h0, X', hL, e1, e2, ⟨u, hp, hb, hF⟩, hce, hcv, hcl, st⟩
  · cases hv
    obtain ⟨k1, k2, k3⟩ := vx_keep h0 e1 hS hA hf hL hF
    obtain ⟨t2, a1, b1⟩ := kk r u t T'.heap (locs ++ L) e1.symm (by rw [← e2]; exact X'.warmed.alike) hp hb k1 k2 k3 T' rfl X'
    exact ⟨t2, st t2 a1, b1⟩
  · obtain ⟨k1, k2, k3⟩ := vx_keep h0 e1 hS hAX hf hL hF
    obtain ⟨t2, a1, b1⟩ := kx E ce q u t T'.heap (locs ++ L) e1.symm (by rw [← e2]; exact X'.warmed.alike) hp hb k1 k2 k3 (by rw [e1]; exact hce) hcv hcl T' rfl X'
    exact ⟨t2, st.trans a1, b1⟩
end
/-! ===== END ===== -/
/-! ===== BEGIN what the machine throws by itself: null at a field, at athrow ===== -/
section VXM2
variable {p : Program} {l : Launch} {e : Env} {R : Room} {s : State} {m : MethodId} {args : Array Value} {below : List Frame} {meth : Method} {c : Code} {H : Heap} {locs : List Loc} {cells slots : Nat}
variable {Q : State → Prop} {cc : ByteArray} {pc : Nat} {ls : Array Slot} {rest : List Value}
theorem vx_getfN {D cl tys} {own ref C : String} {T : u_T} {N ci index : Nat} {Ts : List Cond} (hexec : p.tables.exec = Jvm.exec) (hb : c.code = cc) (hts : ∀ w ∈ Ts, w.before args s = true) (hin : ∀ w ∈ u_ws C T N, w ∈ Ts) (hown : s.vm.findClass own = some m.cls) (hK : va_K D cl tys s) (hc : cl[ci]? = some (C, T, N)) (k : Nat) (hk : k < N) (hlink : (Cond.fieldLink own index ref (T k).2.1 (T k).2.2.1).before args s = true) (hsame : ∀ x, s.fieldFound? (T k).1 (T k).2.1 (T k).2.2.1 = some x → s.fieldFound? ref (T k).2.1 (T k).2.2.1 = some x) (hdg : decode cc pc = .ok (.getfield index, 3)) (kk : vx_NoteN p l e R s m args below meth c H locs cells slots Q (F0 m pc ls rest)) : W p l e R s m args below meth c H locs cells slots Q (F0 m pc ls (.null :: rest)) := by
  obtain ⟨hS, hfc, kC, hkC, -⟩ := hK.1 ci _ hc
  obtain ⟨cf, kf, fi, f, hi, -⟩ := hS k hk
  intro U hU X
  obtain ⟨vm', X1, st1⟩ := X.getfieldNull hexec hown hlink (hsame _ hi) (u_facts hfc hkC (u_lays hts hin hk) hi).1 (g := F0 m pc ls (.null :: rest)) rfl (rest := rest) rfl (by rw [hb]; exact hdg)
  obtain ⟨t, st, q⟩ := kk (U.setVm vm') hU X1
  exact ⟨t, st1 t st, q⟩
theorem vx_getfNN {D cl tys} {own ref C host : String} {T : u_T} {N ci index : Nat} {Ts : List Cond} (hexec : p.tables.exec = Jvm.exec) (hb : c.code = cc) (hts : ∀ w ∈ Ts, w.before args s = true) (hin : ∀ w ∈ u_ws C T N, w ∈ Ts) (hown : s.vm.findClass own = some m.cls) (hK : va_K D cl tys s) (hc : cl[ci]? = some (C, T, N)) (k : Nat) (hk : k < N) (hlink : (Cond.fieldLinkNest own index ref (T k).2.1 (T k).2.2.1 host).before args s = true) (hsame : ∀ x, s.fieldFound? (T k).1 (T k).2.1 (T k).2.2.1 = some x → s.fieldFound? ref (T k).2.1 (T k).2.2.1 = some x) (hdg : decode cc pc = .ok (.getfield index, 3)) (kk : vx_NoteN p l e R s m args below meth c H locs cells slots Q (F0 m pc ls rest)) : W p l e R s m args below meth c H locs cells slots Q (F0 m pc ls (.null :: rest)) := by
  obtain ⟨hS, hfc, kC, hkC, -⟩ := hK.1 ci _ hc
  obtain ⟨cf, kf, fi, f, hi, -⟩ := hS k hk
  intro U hU X
  obtain ⟨vm', X1, st1⟩ := X.getfieldNullNest hexec hown hlink (hsame _ hi) (u_facts hfc hkC (u_lays hts hin hk) hi).1 (g := F0 m pc ls (.null :: rest)) rfl (rest := rest) rfl (by rw [hb]; exact hdg)
  obtain ⟨t, st, q⟩ := kk (U.setVm vm') hU X1
  exact ⟨t, st1 t st, q⟩
theorem vx_putfN {D cl tys} {own ref C : String} {T : u_T} {N ci index : Nat} {Ts : List Cond} (hexec : p.tables.exec = Jvm.exec) (hb : c.code = cc) (hts : ∀ w ∈ Ts, w.before args s = true) (hin : ∀ w ∈ u_ws C T N, w ∈ Ts) (hown : s.vm.findClass own = some m.cls) (hK : va_K D cl tys s) (hc : cl[ci]? = some (C, T, N)) (k : Nat) (hk : k < N) (hlink : (Cond.fieldLink own index ref (T k).2.1 (T k).2.2.1).before args s = true) (hsame : ∀ x, s.fieldFound? (T k).1 (T k).2.1 (T k).2.2.1 = some x → s.fieldFound? ref (T k).2.1 (T k).2.2.1 = some x) (hfin : (T k).2.2.2 = false) {v : Value} (hdg : decode cc pc = .ok (.putfield index, 3)) (kk : vx_NoteN p l e R s m args below meth c H locs cells slots Q (F0 m pc ls rest)) : W p l e R s m args below meth c H locs cells slots Q (F0 m pc ls (v :: .null :: rest)) := by
  obtain ⟨hS, hfc, kC, hkC, -⟩ := hK.1 ci _ hc
  obtain ⟨cf, kf, fi, f, hi, -⟩ := hS k hk
  have hlay := hts _ (hin _ (u_in_lay hk))
  unfold u_lay at hlay
  rw [if_neg (by rw [hfin]; decide)] at hlay
  obtain ⟨c9, k9, cf9, kf9, fi9, f9, -, -, hi9, hst9, hnf9, -⟩ := Cond.lays_spec hlay
  cases hi.symm.trans hi9
  intro U hU X
  obtain ⟨vm', X1, st1⟩ := X.putfieldNull hexec hown hlink (hsame _ hi) hst9 hnf9 (g := F0 m pc ls (v :: .null :: rest)) rfl (v := v) (rest := rest) rfl (by rw [hb]; exact hdg)
  obtain ⟨t, st, q⟩ := kk (U.setVm vm') hU X1
  exact ⟨t, st1 t st, q⟩
theorem vx_putfNN {D cl tys} {own ref C host : String} {T : u_T} {N ci index : Nat} {Ts : List Cond} (hexec : p.tables.exec = Jvm.exec) (hb : c.code = cc) (hts : ∀ w ∈ Ts, w.before args s = true) (hin : ∀ w ∈ u_ws C T N, w ∈ Ts) (hown : s.vm.findClass own = some m.cls) (hK : va_K D cl tys s) (hc : cl[ci]? = some (C, T, N)) (k : Nat) (hk : k < N) (hlink : (Cond.fieldLinkNest own index ref (T k).2.1 (T k).2.2.1 host).before args s = true) (hsame : ∀ x, s.fieldFound? (T k).1 (T k).2.1 (T k).2.2.1 = some x → s.fieldFound? ref (T k).2.1 (T k).2.2.1 = some x) (hfin : (T k).2.2.2 = false) {v : Value} (hdg : decode cc pc = .ok (.putfield index, 3)) (kk : vx_NoteN p l e R s m args below meth c H locs cells slots Q (F0 m pc ls rest)) : W p l e R s m args below meth c H locs cells slots Q (F0 m pc ls (v :: .null :: rest)) := by
  obtain ⟨hS, hfc, kC, hkC, -⟩ := hK.1 ci _ hc
  obtain ⟨cf, kf, fi, f, hi, -⟩ := hS k hk
  have hlay := hts _ (hin _ (u_in_lay hk))
  unfold u_lay at hlay
  rw [if_neg (by rw [hfin]; decide)] at hlay
  obtain ⟨c9, k9, cf9, kf9, fi9, f9, -, -, hi9, hst9, hnf9, -⟩ := Cond.lays_spec hlay
  cases hi.symm.trans hi9
  intro U hU X
  obtain ⟨vm', X1, st1⟩ := X.putfieldNullNest hexec hown hlink (hsame _ hi) hst9 hnf9 (g := F0 m pc ls (v :: .null :: rest)) rfl (v := v) (rest := rest) rfl (by rw [hb]; exact hdg)
  obtain ⟨t, st, q⟩ := kk (U.setVm vm') hU X1
  exact ⟨t, st1 t st, q⟩
theorem vx_athrowN (hexec : p.tables.exec = Jvm.exec) (hb : c.code = cc) (hdg : decode cc pc = .ok (.athrow, 1)) (k : vx_NoteN p l e R s m args below meth c H locs cells slots Q (F0 m pc ls rest)) : W p l e R s m args below meth c H locs cells slots Q (F0 m pc ls (.null :: rest)) := by
  intro T hT X
  obtain ⟨t, st, q⟩ := k T hT X
  exact ⟨t, X.athrowNull hexec (g := F0 m pc ls (.null :: rest)) rfl (rest := rest) rfl (by rw [hb]; exact hdg) t st, q⟩
end VXM2
/-! ===== END ===== -/
end
section
/-! ===== BEGIN printed: names, fields, word lists, decode rows ===== -/
def RX0 : String := "LotBeliefs$Course"
def TX0 : u_T := fun k => match k with
  | 0 => ("LotBeliefs$Course", "jar", "LLotBeliefs$Jar;", false)
  | 1 => ("LotBeliefs$Course", "tongue", "LLotBeliefs$Tongue;", false)
  | 2 => ("LotBeliefs$Course", "law", "I", false)
  | 3 => ("LotBeliefs$Course", "world", "I", false)
  | 4 => ("LotBeliefs$Course", "begun", "[I", true)
  | 5 => ("LotBeliefs$Course", "ended", "[I", true)
  | 6 => ("LotBeliefs$Course", "foe", "[I", true)
  | 7 => ("LotBeliefs$Course", "slain", "[Z", true)
  | 8 => ("LotBeliefs$Course", "end", "I", false)
  | 9 => ("LotBeliefs$Course", "chairs", "[I", true)
  | 10 => ("LotBeliefs$Course", "seated", "I", false)
  | _ => ("LotBeliefs$Course", "heldNow", "I", false)
def tyX0 : Nat → FieldType := fun k => match k with
  | 0 => .object "LotBeliefs$Jar"
  | 1 => .object "LotBeliefs$Tongue"
  | 2 => .int
  | 3 => .int
  | 4 => .array .int
  | 5 => .array .int
  | 6 => .array .int
  | 7 => .array .boolean
  | 8 => .int
  | 9 => .array .int
  | 10 => .int
  | _ => .int
abbrev wsX00 : List Cond := u_ws RX0 TX0 12
theorem nmX0 : ∀ a, a < 12 → ∀ b, b < 12 → a ≠ b → (TX0 a).2.1 ≠ (TX0 b).2.1 := by decide +kernel
theorem tyX0_ok : ∀ k, k < 12 → parseFieldDescriptor (TX0 k).2.2.1 = some (tyX0 k) := by decide +kernel
abbrev cX0_init : ByteArray := prog_2_method_1_code
def yX0_init : MethodName := ⟨RX0, "<init>", "(LLotBeliefs$Jar;LLotBeliefs$Tongue;)V"⟩
abbrev cX0_begin : ByteArray := prog_2_method_2_code
def yX0_begin : MethodName := ⟨RX0, "begin", "(LLotBeliefs$Jar;LLotBeliefs$Tongue;II)V"⟩
abbrev cX0_play : ByteArray := prog_2_method_3_code
def yX0_play : MethodName := ⟨RX0, "play", "([III)V"⟩
abbrev cX0_goBack : ByteArray := prog_2_method_4_code
def yX0_goBack : MethodName := ⟨RX0, "goBack", "([II)V"⟩
abbrev cX0_seat : ByteArray := prog_2_method_5_code
def yX0_seat : MethodName := ⟨RX0, "seat", "(I)V"⟩
abbrev cX0_bury : ByteArray := prog_2_method_6_code
def yX0_bury : MethodName := ⟨RX0, "bury", "(I)V"⟩
abbrev cX0_lives : ByteArray := prog_2_method_7_code
def yX0_lives : MethodName := ⟨RX0, "lives", "(II)Z"⟩
abbrev cX0_stands : ByteArray := prog_2_method_8_code
def yX0_stands : MethodName := ⟨RX0, "stands", "(II)Z"⟩
abbrev cX0_fall : ByteArray := prog_2_method_9_code
def yX0_fall : MethodName := ⟨RX0, "fall", "(III)V"⟩
abbrev cX0_whoFalls : ByteArray := prog_2_method_10_code
def yX0_whoFalls : MethodName := ⟨RX0, "whoFalls", "(III)I"⟩
abbrev cX0_weeksOf : ByteArray := prog_2_method_11_code
def yX0_weeksOf : MethodName := ⟨RX0, "weeksOf", "(I)I"⟩
abbrev cX0_hurtsOf : ByteArray := prog_2_method_12_code
def yX0_hurtsOf : MethodName := ⟨RX0, "hurtsOf", "(I)I"⟩
abbrev cX0_hurtsInAll : ByteArray := prog_2_method_13_code
def yX0_hurtsInAll : MethodName := ⟨RX0, "hurtsInAll", "()I"⟩
abbrev cX0_gone : ByteArray := prog_2_method_14_code
def yX0_gone : MethodName := ⟨RX0, "gone", "(Z)I"⟩
abbrev cX0_seatedBehind : ByteArray := prog_2_method_15_code
def yX0_seatedBehind : MethodName := ⟨RX0, "seatedBehind", "(I)I"⟩
def RX1 : String := "LotBeliefs$Jar"
def TX1 : u_T := fun k => match k with
  | 0 => ("LotBeliefs$Jar", "atoms", "I", false)
  | 1 => ("LotBeliefs$Jar", "all", "J", false)
  | 2 => ("LotBeliefs$Jar", "slips", "I", false)
  | 3 => ("LotBeliefs$Jar", "seeings", "I", false)
  | 4 => ("LotBeliefs$Jar", "salts", "I", false)
  | 5 => ("LotBeliefs$Jar", "world", "I", false)
  | 6 => ("LotBeliefs$Jar", "law", "I", false)
  | 7 => ("LotBeliefs$Jar", "models", "[J", true)
  | 8 => ("LotBeliefs$Jar", "sizes", "[I", true)
  | 9 => ("LotBeliefs$Jar", "sights", "[J", true)
  | 10 => ("LotBeliefs$Jar", "weeks", "[I", true)
  | 11 => ("LotBeliefs$Jar", "left", "[J", true)
  | 12 => ("LotBeliefs$Jar", "dead", "[I", true)
  | _ => ("LotBeliefs$Jar", "foes", "[I", true)
def tyX1 : Nat → FieldType := fun k => match k with
  | 0 => .int
  | 1 => .long
  | 2 => .int
  | 3 => .int
  | 4 => .int
  | 5 => .int
  | 6 => .int
  | 7 => .array .long
  | 8 => .array .int
  | 9 => .array .long
  | 10 => .array .int
  | 11 => .array .long
  | 12 => .array .int
  | _ => .array .int
abbrev wsX10 : List Cond := u_ws RX1 TX1 14
theorem nmX1 : ∀ a, a < 14 → ∀ b, b < 14 → a ≠ b → (TX1 a).2.1 ≠ (TX1 b).2.1 := by decide +kernel
theorem tyX1_ok : ∀ k, k < 14 → parseFieldDescriptor (TX1 k).2.2.1 = some (tyX1 k) := by decide +kernel
abbrev cX1_init : ByteArray := prog_3_method_1_code
def yX1_init : MethodName := ⟨RX1, "<init>", "()V"⟩
abbrev cX1_clear : ByteArray := prog_3_method_2_code
def yX1_clear : MethodName := ⟨RX1, "clear", "()V"⟩
abbrev cX1_tellAtoms : ByteArray := prog_3_method_3_code
def yX1_tellAtoms : MethodName := ⟨RX1, "tellAtoms", "(I)V"⟩
abbrev cX1_settle : ByteArray := prog_3_method_4_code
def yX1_settle : MethodName := ⟨RX1, "settle", "()V"⟩
abbrev cX1_leftBy : ByteArray := prog_3_method_5_code
def yX1_leftBy : MethodName := ⟨RX1, "leftBy", "(I)J"⟩
abbrev cX1_deadIn : ByteArray := prog_3_method_6_code
def yX1_deadIn : MethodName := ⟨RX1, "deadIn", "(I)I"⟩
abbrev cX1_foesIn : ByteArray := prog_3_method_7_code
def yX1_foesIn : MethodName := ⟨RX1, "foesIn", "(II)I"⟩
abbrev cX1_deathWeek : ByteArray := prog_3_method_8_code
def yX1_deathWeek : MethodName := ⟨RX1, "deathWeek", "(I)I"⟩
abbrev cX1_foesOf : ByteArray := prog_3_method_9_code
def yX1_foesOf : MethodName := ⟨RX1, "foesOf", "(II)I"⟩
abbrev cX1_atomModels : ByteArray := prog_3_method_10_code
def yX1_atomModels : MethodName := ⟨RX1, "atomModels", "(I)J"⟩
abbrev cX1_soIn : ByteArray := prog_3_method_11_code
def yX1_soIn : MethodName := ⟨RX1, "soIn", "(II)Z"⟩
abbrev cX1_slipsSoIn : ByteArray := prog_3_method_12_code
def yX1_slipsSoIn : MethodName := ⟨RX1, "slipsSoIn", "(I)I"⟩
abbrev cX1_apart : ByteArray := prog_3_method_13_code
def yX1_apart : MethodName := ⟨RX1, "apart", "(III)Z"⟩
abbrev cX1_common : ByteArray := prog_3_method_14_code
def yX1_common : MethodName := ⟨RX1, "common", "(II)J"⟩
abbrev cX1_worstLeft : ByteArray := prog_3_method_15_code
def yX1_worstLeft : MethodName := ⟨RX1, "worstLeft", "(II)I"⟩
abbrev cX1_leftIf : ByteArray := prog_3_method_16_code
def yX1_leftIf : MethodName := ⟨RX1, "leftIf", "(III)J"⟩
def RX2 : String := "LotBeliefs$JarReader"
def TX2 : u_T := fun k => match k with
  | _ => ("", "", "", false)
def tyX2 : Nat → FieldType := fun k => match k with
  | _ => .int
abbrev wsX20 : List Cond := u_ws RX2 TX2 0
theorem nmX2 : ∀ a, a < 0 → ∀ b, b < 0 → a ≠ b → (TX2 a).2.1 ≠ (TX2 b).2.1 := by decide +kernel
theorem tyX2_ok : ∀ k, k < 0 → parseFieldDescriptor (TX2 k).2.2.1 = some (tyX2 k) := by decide +kernel
abbrev cX2_read : ByteArray := prog_4_method_2_code
def yX2_read : MethodName := ⟨RX2, "read", "(LLotBeliefs$Tape;LLotBeliefs$Jar;)V"⟩
abbrev cX2_readClause : ByteArray := prog_4_method_3_code
def yX2_readClause : MethodName := ⟨RX2, "readClause", "(LLotBeliefs$Tape;LLotBeliefs$Jar;ZZ)V"⟩
abbrev cX2_begins : ByteArray := prog_4_method_4_code
def yX2_begins : MethodName := ⟨RX2, "begins", "(LLotBeliefs$Tape;Z)Z"⟩
abbrev cX2_readAtoms : ByteArray := prog_4_method_5_code
def yX2_readAtoms : MethodName := ⟨RX2, "readAtoms", "(LLotBeliefs$Tape;LLotBeliefs$Jar;ZZ)V"⟩
abbrev cX2_readWorld : ByteArray := prog_4_method_6_code
def yX2_readWorld : MethodName := ⟨RX2, "readWorld", "(LLotBeliefs$Tape;LLotBeliefs$Jar;Z)V"⟩
abbrev cX2_readLaw : ByteArray := prog_4_method_7_code
def yX2_readLaw : MethodName := ⟨RX2, "readLaw", "(LLotBeliefs$Tape;LLotBeliefs$Jar;Z)V"⟩
abbrev cX2_readSlip : ByteArray := prog_4_method_8_code
def yX2_readSlip : MethodName := ⟨RX2, "readSlip", "(LLotBeliefs$Tape;LLotBeliefs$Jar;Z)V"⟩
abbrev cX2_readSalt : ByteArray := prog_4_method_9_code
def yX2_readSalt : MethodName := ⟨RX2, "readSalt", "(LLotBeliefs$Tape;LLotBeliefs$Jar;Z)V"⟩
abbrev cX2_readSeeing : ByteArray := prog_4_method_10_code
def yX2_readSeeing : MethodName := ⟨RX2, "readSeeing", "(LLotBeliefs$Tape;LLotBeliefs$Jar;Z)V"⟩
def RX3 : String := "LotBeliefs$Sentence"
def TX3 : u_T := fun k => match k with
  | _ => ("", "", "", false)
def tyX3 : Nat → FieldType := fun k => match k with
  | _ => .int
abbrev wsX30 : List Cond := u_ws RX3 TX3 0
theorem nmX3 : ∀ a, a < 0 → ∀ b, b < 0 → a ≠ b → (TX3 a).2.1 ≠ (TX3 b).2.1 := by decide +kernel
theorem tyX3_ok : ∀ k, k < 0 → parseFieldDescriptor (TX3 k).2.2.1 = some (tyX3 k) := by decide +kernel
abbrev cX3_readAlone : ByteArray := prog_5_method_2_code
def yX3_readAlone : MethodName := ⟨RX3, "readAlone", "(LLotBeliefs$Tape;LLotBeliefs$Jar;)J"⟩
abbrev cX3_readEither : ByteArray := prog_5_method_3_code
def yX3_readEither : MethodName := ⟨RX3, "readEither", "(LLotBeliefs$Tape;LLotBeliefs$Jar;)J"⟩
abbrev cX3_readEach : ByteArray := prog_5_method_4_code
def yX3_readEach : MethodName := ⟨RX3, "readEach", "(LLotBeliefs$Tape;LLotBeliefs$Jar;)J"⟩
abbrev cX3_readPart : ByteArray := prog_5_method_5_code
def yX3_readPart : MethodName := ⟨RX3, "readPart", "(LLotBeliefs$Tape;LLotBeliefs$Jar;)J"⟩
abbrev cX3_readNot : ByteArray := prog_5_method_6_code
def yX3_readNot : MethodName := ⟨RX3, "readNot", "(LLotBeliefs$Tape;LLotBeliefs$Jar;)J"⟩
abbrev cX3_readIf : ByteArray := prog_5_method_7_code
def yX3_readIf : MethodName := ⟨RX3, "readIf", "(LLotBeliefs$Tape;LLotBeliefs$Jar;)J"⟩
abbrev cX3_readBrackets : ByteArray := prog_5_method_8_code
def yX3_readBrackets : MethodName := ⟨RX3, "readBrackets", "(LLotBeliefs$Tape;LLotBeliefs$Jar;)J"⟩
abbrev cX3_readAtom : ByteArray := prog_5_method_9_code
def yX3_readAtom : MethodName := ⟨RX3, "readAtom", "(LLotBeliefs$Tape;LLotBeliefs$Jar;)J"⟩
def RX4 : String := "LotBeliefs$Setting"
def TX4 : u_T := fun k => match k with
  | 0 => ("LotBeliefs$Setting", "order", "[I", true)
  | 1 => ("LotBeliefs$Setting", "law", "I", false)
  | _ => ("LotBeliefs$Setting", "world", "I", false)
def tyX4 : Nat → FieldType := fun k => match k with
  | 0 => .array .int
  | 1 => .int
  | _ => .int
abbrev wsX40 : List Cond := u_ws RX4 TX4 3
theorem nmX4 : ∀ a, a < 3 → ∀ b, b < 3 → a ≠ b → (TX4 a).2.1 ≠ (TX4 b).2.1 := by decide +kernel
theorem tyX4_ok : ∀ k, k < 3 → parseFieldDescriptor (TX4 k).2.2.1 = some (tyX4 k) := by decide +kernel
abbrev cX4_init : ByteArray := prog_6_method_1_code
def yX4_init : MethodName := ⟨RX4, "<init>", "()V"⟩
abbrev cX4_begin : ByteArray := prog_6_method_2_code
def yX4_begin : MethodName := ⟨RX4, "begin", "(LLotBeliefs$Jar;)V"⟩
abbrev cX4_copyFrom : ByteArray := prog_6_method_3_code
def yX4_copyFrom : MethodName := ⟨RX4, "copyFrom", "(LLotBeliefs$Setting;)V"⟩
def RX5 : String := "LotBeliefs$Shortest"
def TX5 : u_T := fun k => match k with
  | 0 => ("LotBeliefs$Shortest", "atoms", "I", false)
  | 1 => ("LotBeliefs$Shortest", "lengths", "[I", true)
  | 2 => ("LotBeliefs$Shortest", "found", "[I", true)
  | 3 => ("LotBeliefs$Shortest", "from", "[I", true)
  | _ => ("LotBeliefs$Shortest", "many", "I", false)
def tyX5 : Nat → FieldType := fun k => match k with
  | 0 => .int
  | 1 => .array .int
  | 2 => .array .int
  | 3 => .array .int
  | _ => .int
abbrev wsX50 : List Cond := u_ws RX5 TX5 5
theorem nmX5 : ∀ a, a < 5 → ∀ b, b < 5 → a ≠ b → (TX5 a).2.1 ≠ (TX5 b).2.1 := by decide +kernel
theorem tyX5_ok : ∀ k, k < 5 → parseFieldDescriptor (TX5 k).2.2.1 = some (tyX5 k) := by decide +kernel
abbrev cX5_init : ByteArray := prog_7_method_1_code
def yX5_init : MethodName := ⟨RX5, "<init>", "()V"⟩
abbrev cX5_lengthOf : ByteArray := prog_7_method_2_code
def yX5_lengthOf : MethodName := ⟨RX5, "lengthOf", "(IJ)I"⟩
abbrev cX5_build : ByteArray := prog_7_method_3_code
def yX5_build : MethodName := ⟨RX5, "build", "(I)V"⟩
abbrev cX5_find : ByteArray := prog_7_method_4_code
def yX5_find : MethodName := ⟨RX5, "find", "(II)V"⟩
abbrev cX5_negate : ByteArray := prog_7_method_5_code
def yX5_negate : MethodName := ⟨RX5, "negate", "(II)V"⟩
abbrev cX5_join : ByteArray := prog_7_method_6_code
def yX5_join : MethodName := ⟨RX5, "join", "(III)V"⟩
def RX6 : String := "LotBeliefs$Subsets"
def TX6 : u_T := fun k => match k with
  | 0 => ("LotBeliefs$Subsets", "worlds", "[J", true)
  | 1 => ("LotBeliefs$Subsets", "slips", "I", false)
  | 2 => ("LotBeliefs$Subsets", "sets", "I", false)
  | _ => ("LotBeliefs$Subsets", "friends", "[I", true)
def tyX6 : Nat → FieldType := fun k => match k with
  | 0 => .array .long
  | 1 => .int
  | 2 => .int
  | _ => .array .int
abbrev wsX60 : List Cond := u_ws RX6 TX6 4
theorem nmX6 : ∀ a, a < 4 → ∀ b, b < 4 → a ≠ b → (TX6 a).2.1 ≠ (TX6 b).2.1 := by decide +kernel
theorem tyX6_ok : ∀ k, k < 4 → parseFieldDescriptor (TX6 k).2.2.1 = some (tyX6 k) := by decide +kernel
abbrev cX6_init : ByteArray := prog_8_method_1_code
def yX6_init : MethodName := ⟨RX6, "<init>", "()V"⟩
abbrev cX6_fill : ByteArray := prog_8_method_2_code
def yX6_fill : MethodName := ⟨RX6, "fill", "(LLotBeliefs$Jar;I)V"⟩
abbrev cX6_fitting : ByteArray := prog_8_method_3_code
def yX6_fitting : MethodName := ⟨RX6, "fitting", "()I"⟩
abbrev cX6_greatest : ByteArray := prog_8_method_4_code
def yX6_greatest : MethodName := ⟨RX6, "greatest", "()I"⟩
abbrev cX6_core : ByteArray := prog_8_method_5_code
def yX6_core : MethodName := ⟨RX6, "core", "()I"⟩
abbrev cX6_proving : ByteArray := prog_8_method_6_code
def yX6_proving : MethodName := ⟨RX6, "proving", "(J)I"⟩
abbrev cX6_wholes : ByteArray := prog_8_method_7_code
def yX6_wholes : MethodName := ⟨RX6, "wholes", "()I"⟩
abbrev cX6_wholeAt : ByteArray := prog_8_method_8_code
def yX6_wholeAt : MethodName := ⟨RX6, "wholeAt", "(I)I"⟩
abbrev cX6_isWhole : ByteArray := prog_8_method_9_code
def yX6_isWhole : MethodName := ⟨RX6, "isWhole", "(I)Z"⟩
abbrev cX6_peaceful : ByteArray := prog_8_method_10_code
def yX6_peaceful : MethodName := ⟨RX6, "peaceful", "(LLotBeliefs$Jar;I)I"⟩
abbrev cX6_allFriends : ByteArray := prog_8_method_11_code
def yX6_allFriends : MethodName := ⟨RX6, "allFriends", "(II)Z"⟩
def RX7 : String := "LotBeliefs$Survey"
def TX7 : u_T := fun k => match k with
  | 0 => ("LotBeliefs$Survey", "law", "I", true)
  | 1 => ("LotBeliefs$Survey", "fresh", "Z", false)
  | 2 => ("LotBeliefs$Survey", "world", "I", false)
  | 3 => ("LotBeliefs$Survey", "counts", "[I", true)
  | 4 => ("LotBeliefs$Survey", "firsts", "[J", true)
  | 5 => ("LotBeliefs$Survey", "mostHurts", "I", false)
  | 6 => ("LotBeliefs$Survey", "worstOrder", "J", false)
  | _ => ("LotBeliefs$Survey", "row", "[I", true)
def tyX7 : Nat → FieldType := fun k => match k with
  | 0 => .int
  | 1 => .boolean
  | 2 => .int
  | 3 => .array .int
  | 4 => .array .long
  | 5 => .int
  | 6 => .long
  | _ => .array .int
abbrev wsX70 : List Cond := u_ws RX7 TX7 8
theorem nmX7 : ∀ a, a < 8 → ∀ b, b < 8 → a ≠ b → (TX7 a).2.1 ≠ (TX7 b).2.1 := by decide +kernel
theorem tyX7_ok : ∀ k, k < 8 → parseFieldDescriptor (TX7 k).2.2.1 = some (tyX7 k) := by decide +kernel
abbrev cX7_init : ByteArray := prog_9_method_1_code
def yX7_init : MethodName := ⟨RX7, "<init>", "(I)V"⟩
abbrev cX7_take : ByteArray := prog_9_method_2_code
def yX7_take : MethodName := ⟨RX7, "take", "(LLotBeliefs$Jar;LLotBeliefs$Tongue;ILLotBeliefs$Course;)V"⟩
abbrev cX7_note : ByteArray := prog_9_method_3_code
def yX7_note : MethodName := ⟨RX7, "note", "(III)V"⟩
abbrev cX7_digits : ByteArray := prog_9_method_4_code
def yX7_digits : MethodName := ⟨RX7, "digits", "(I)J"⟩
abbrev cX7_advance : ByteArray := prog_9_method_5_code
def yX7_advance : MethodName := ⟨RX7, "advance", "(I)I"⟩
abbrev cX7_change : ByteArray := prog_9_method_6_code
def yX7_change : MethodName := ⟨RX7, "change", "(II)V"⟩
abbrev cX7_unlike : ByteArray := prog_9_method_7_code
def yX7_unlike : MethodName := ⟨RX7, "unlike", "()I"⟩
abbrev cX7_always : ByteArray := prog_9_method_8_code
def yX7_always : MethodName := ⟨RX7, "always", "(I)I"⟩
abbrev cX7_never : ByteArray := prog_9_method_9_code
def yX7_never : MethodName := ⟨RX7, "never", "(I)I"⟩
abbrev cX7_heldInAll : ByteArray := prog_9_method_10_code
def yX7_heldInAll : MethodName := ⟨RX7, "heldInAll", "(I)I"⟩
abbrev cX7_bestEnd : ByteArray := prog_9_method_11_code
def yX7_bestEnd : MethodName := ⟨RX7, "bestEnd", "(I)I"⟩
abbrev cX7_firstTo : ByteArray := prog_9_method_12_code
def yX7_firstTo : MethodName := ⟨RX7, "firstTo", "(I)J"⟩
def RX8 : String := "LotBeliefs$Tape"
def TX8 : u_T := fun k => match k with
  | 0 => ("LotBeliefs$Tape", "text", "[B", true)
  | 1 => ("LotBeliefs$Tape", "filled", "I", false)
  | 2 => ("LotBeliefs$Tape", "length", "I", false)
  | 3 => ("LotBeliefs$Tape", "kind", "I", false)
  | 4 => ("LotBeliefs$Tape", "start", "I", false)
  | 5 => ("LotBeliefs$Tape", "behind", "I", false)
  | 6 => ("LotBeliefs$Tape", "value", "I", false)
  | 7 => ("LotBeliefs$Tape", "open", "I", false)
  | 8 => ("LotBeliefs$Tape", "fault", "I", false)
  | _ => ("LotBeliefs$Tape", "place", "I", false)
def tyX8 : Nat → FieldType := fun k => match k with
  | 0 => .array .byte
  | 1 => .int
  | 2 => .int
  | 3 => .int
  | 4 => .int
  | 5 => .int
  | 6 => .int
  | 7 => .int
  | 8 => .int
  | _ => .int
abbrev wsX80 : List Cond := u_ws RX8 TX8 10
theorem nmX8 : ∀ a, a < 10 → ∀ b, b < 10 → a ≠ b → (TX8 a).2.1 ≠ (TX8 b).2.1 := by decide +kernel
theorem tyX8_ok : ∀ k, k < 10 → parseFieldDescriptor (TX8 k).2.2.1 = some (tyX8 k) := by decide +kernel
abbrev cX8_init : ByteArray := prog_10_method_1_code
def yX8_init : MethodName := ⟨RX8, "<init>", "()V"⟩
abbrev cX8_put : ByteArray := prog_10_method_2_code
def yX8_put : MethodName := ⟨RX8, "put", "(I)V"⟩
abbrev cX8_begin : ByteArray := prog_10_method_3_code
def yX8_begin : MethodName := ⟨RX8, "begin", "(I)V"⟩
abbrev cX8_step : ByteArray := prog_10_method_4_code
def yX8_step : MethodName := ⟨RX8, "step", "()V"⟩
abbrev cX8_goesOn : ByteArray := prog_10_method_5_code
def yX8_goesOn : MethodName := ⟨RX8, "goesOn", "()Z"⟩
abbrev cX8_isWord : ByteArray := prog_10_method_6_code
def yX8_isWord : MethodName := ⟨RX8, "isWord", "(Ljava/lang/String;)Z"⟩
abbrev cX8_isSign : ByteArray := prog_10_method_7_code
def yX8_isSign : MethodName := ⟨RX8, "isSign", "(C)Z"⟩
abbrev cX8_isNumber : ByteArray := prog_10_method_8_code
def yX8_isNumber : MethodName := ⟨RX8, "isNumber", "()Z"⟩
abbrev cX8_letter : ByteArray := prog_10_method_9_code
def yX8_letter : MethodName := ⟨RX8, "letter", "()I"⟩
abbrev cX8_fail : ByteArray := prog_10_method_10_code
def yX8_fail : MethodName := ⟨RX8, "fail", "(I)V"⟩
abbrev cX8_takeSign : ByteArray := prog_10_method_11_code
def yX8_takeSign : MethodName := ⟨RX8, "takeSign", "(C)V"⟩
abbrev cX8_takeWord : ByteArray := prog_10_method_12_code
def yX8_takeWord : MethodName := ⟨RX8, "takeWord", "(Ljava/lang/String;)V"⟩
abbrev cX8_takeNumber : ByteArray := prog_10_method_13_code
def yX8_takeNumber : MethodName := ⟨RX8, "takeNumber", "(II)I"⟩
abbrev cX8_opens : ByteArray := prog_10_method_14_code
def yX8_opens : MethodName := ⟨RX8, "opens", "()Z"⟩
abbrev cX8_shuts : ByteArray := prog_10_method_15_code
def yX8_shuts : MethodName := ⟨RX8, "shuts", "()V"⟩
def RX9 : String := "LotBeliefs$Tongue"
def TX9 : u_T := fun k => match k with
  | 0 => ("LotBeliefs$Tongue", "rules", "I", false)
  | 1 => ("LotBeliefs$Tongue", "code", "[I", true)
  | 2 => ("LotBeliefs$Tongue", "size", "I", false)
  | 3 => ("LotBeliefs$Tongue", "values", "[I", true)
  | _ => ("LotBeliefs$Tongue", "stack", "[I", true)
def tyX9 : Nat → FieldType := fun k => match k with
  | 0 => .int
  | 1 => .array .int
  | 2 => .int
  | 3 => .array .int
  | _ => .array .int
abbrev wsX90 : List Cond := u_ws RX9 TX9 5
theorem nmX9 : ∀ a, a < 5 → ∀ b, b < 5 → a ≠ b → (TX9 a).2.1 ≠ (TX9 b).2.1 := by decide +kernel
theorem tyX9_ok : ∀ k, k < 5 → parseFieldDescriptor (TX9 k).2.2.1 = some (tyX9 k) := by decide +kernel
abbrev cX9_init : ByteArray := prog_11_method_1_code
def yX9_init : MethodName := ⟨RX9, "<init>", "()V"⟩
abbrev cX9_clear : ByteArray := prog_11_method_2_code
def yX9_clear : MethodName := ⟨RX9, "clear", "()V"⟩
abbrev cX9_add : ByteArray := prog_11_method_3_code
def yX9_add : MethodName := ⟨RX9, "add", "(I)V"⟩
abbrev cX9_tell : ByteArray := prog_11_method_4_code
def yX9_tell : MethodName := ⟨RX9, "tell", "(LLotBeliefs$Jar;IIIIII)V"⟩
abbrev cX9_whoFalls : ByteArray := prog_11_method_5_code
def yX9_whoFalls : MethodName := ⟨RX9, "whoFalls", "()I"⟩
abbrev cX9_valueOf : ByteArray := prog_11_method_6_code
def yX9_valueOf : MethodName := ⟨RX9, "valueOf", "(I)I"⟩
abbrev cX9_reckon : ByteArray := prog_11_method_7_code
def yX9_reckon : MethodName := ⟨RX9, "reckon", "(III)I"⟩
def RX10 : String := "LotBeliefs$TongueReader"
def TX10 : u_T := fun k => match k with
  | _ => ("", "", "", false)
def tyX10 : Nat → FieldType := fun k => match k with
  | _ => .int
abbrev wsX100 : List Cond := u_ws RX10 TX10 0
theorem nmX10 : ∀ a, a < 0 → ∀ b, b < 0 → a ≠ b → (TX10 a).2.1 ≠ (TX10 b).2.1 := by decide +kernel
theorem tyX10_ok : ∀ k, k < 0 → parseFieldDescriptor (TX10 k).2.2.1 = some (tyX10 k) := by decide +kernel
abbrev cX10_read : ByteArray := prog_12_method_2_code
def yX10_read : MethodName := ⟨RX10, "read", "(LLotBeliefs$Tape;LLotBeliefs$Tongue;)V"⟩
abbrev cX10_whoHere : ByteArray := prog_12_method_3_code
def yX10_whoHere : MethodName := ⟨RX10, "whoHere", "(LLotBeliefs$Tape;)I"⟩
abbrev cX10_readEither : ByteArray := prog_12_method_4_code
def yX10_readEither : MethodName := ⟨RX10, "readEither", "(LLotBeliefs$Tape;LLotBeliefs$Tongue;)V"⟩
abbrev cX10_readEach : ByteArray := prog_12_method_5_code
def yX10_readEach : MethodName := ⟨RX10, "readEach", "(LLotBeliefs$Tape;LLotBeliefs$Tongue;)V"⟩
abbrev cX10_readPart : ByteArray := prog_12_method_6_code
def yX10_readPart : MethodName := ⟨RX10, "readPart", "(LLotBeliefs$Tape;LLotBeliefs$Tongue;)V"⟩
abbrev cX10_readRelation : ByteArray := prog_12_method_7_code
def yX10_readRelation : MethodName := ⟨RX10, "readRelation", "(LLotBeliefs$Tape;LLotBeliefs$Tongue;)V"⟩
abbrev cX10_readSum : ByteArray := prog_12_method_8_code
def yX10_readSum : MethodName := ⟨RX10, "readSum", "(LLotBeliefs$Tape;LLotBeliefs$Tongue;)V"⟩
abbrev cX10_readProduct : ByteArray := prog_12_method_9_code
def yX10_readProduct : MethodName := ⟨RX10, "readProduct", "(LLotBeliefs$Tape;LLotBeliefs$Tongue;)V"⟩
abbrev cX10_readValue : ByteArray := prog_12_method_10_code
def yX10_readValue : MethodName := ⟨RX10, "readValue", "(LLotBeliefs$Tape;LLotBeliefs$Tongue;)V"⟩
abbrev cX10_quantityHere : ByteArray := prog_12_method_11_code
def yX10_quantityHere : MethodName := ⟨RX10, "quantityHere", "(LLotBeliefs$Tape;)I"⟩
def RX11 : String := "LotBeliefs"
def TX11 : u_T := fun k => match k with
  | 0 => ("LotBeliefs", "tape", "LLotBeliefs$Tape;", true)
  | 1 => ("LotBeliefs", "faultPlace", "I", false)
  | 2 => ("LotBeliefs", "jar", "LLotBeliefs$Jar;", false)
  | 3 => ("LotBeliefs", "spareJar", "LLotBeliefs$Jar;", false)
  | 4 => ("LotBeliefs", "tongue", "LLotBeliefs$Tongue;", false)
  | 5 => ("LotBeliefs", "spareTongue", "LLotBeliefs$Tongue;", false)
  | 6 => ("LotBeliefs", "asked", "J", false)
  | 7 => ("LotBeliefs", "now", "LLotBeliefs$Setting;", true)
  | 8 => ("LotBeliefs", "images", "[LLotBeliefs$Setting;", true)
  | 9 => ("LotBeliefs", "imaged", "I", false)
  | 10 => ("LotBeliefs", "refused", "[I", true)
  | 11 => ("LotBeliefs", "row", "[I", true)
  | 12 => ("LotBeliefs", "course", "LLotBeliefs$Course;", true)
  | 13 => ("LotBeliefs", "rival", "LLotBeliefs$Course;", true)
  | 14 => ("LotBeliefs", "surveys", "[LLotBeliefs$Survey;", true)
  | 15 => ("LotBeliefs", "subsets", "LLotBeliefs$Subsets;", true)
  | _ => ("LotBeliefs", "shortest", "LLotBeliefs$Shortest;", true)
def tyX11 : Nat → FieldType := fun k => match k with
  | 0 => .object "LotBeliefs$Tape"
  | 1 => .int
  | 2 => .object "LotBeliefs$Jar"
  | 3 => .object "LotBeliefs$Jar"
  | 4 => .object "LotBeliefs$Tongue"
  | 5 => .object "LotBeliefs$Tongue"
  | 6 => .long
  | 7 => .object "LotBeliefs$Setting"
  | 8 => .array (.object "LotBeliefs$Setting")
  | 9 => .int
  | 10 => .array .int
  | 11 => .array .int
  | 12 => .object "LotBeliefs$Course"
  | 13 => .object "LotBeliefs$Course"
  | 14 => .array (.object "LotBeliefs$Survey")
  | 15 => .object "LotBeliefs$Subsets"
  | _ => .object "LotBeliefs$Shortest"
abbrev wsX110 : List Cond := u_ws RX11 TX11 17
theorem nmX11 : ∀ a, a < 17 → ∀ b, b < 17 → a ≠ b → (TX11 a).2.1 ≠ (TX11 b).2.1 := by decide +kernel
theorem tyX11_ok : ∀ k, k < 17 → parseFieldDescriptor (TX11 k).2.2.1 = some (tyX11 k) := by decide +kernel
abbrev cX11_init : ByteArray := prog_1_method_1_code
def yX11_init : MethodName := ⟨RX11, "<init>", "()V"⟩
abbrev cX11_feed : ByteArray := prog_1_method_2_code
def yX11_feed : MethodName := ⟨RX11, "feed", "(IIIII)I"⟩
abbrev cX11_jar : ByteArray := prog_1_method_3_code
def yX11_jar : MethodName := ⟨RX11, "jar", "(I)I"⟩
abbrev cX11_question : ByteArray := prog_1_method_4_code
def yX11_question : MethodName := ⟨RX11, "question", "(I)I"⟩
abbrev cX11_tongue : ByteArray := prog_1_method_5_code
def yX11_tongue : MethodName := ⟨RX11, "tongue", "(I)I"⟩
abbrev cX11_fault : ByteArray := prog_1_method_6_code
def yX11_fault : MethodName := ⟨RX11, "fault", "()I"⟩
abbrev cX11_told : ByteArray := prog_1_method_7_code
def yX11_told : MethodName := ⟨RX11, "told", "(I)I"⟩
abbrev cX11_models : ByteArray := prog_1_method_8_code
def yX11_models : MethodName := ⟨RX11, "models", "(I)J"⟩
abbrev cX11_seen : ByteArray := prog_1_method_9_code
def yX11_seen : MethodName := ⟨RX11, "seen", "(I)J"⟩
abbrev cX11_left : ByteArray := prog_1_method_10_code
def yX11_left : MethodName := ⟨RX11, "left", "(I)J"⟩
abbrev cX11_kin : ByteArray := prog_1_method_11_code
def yX11_kin : MethodName := ⟨RX11, "kin", "(II)I"⟩
abbrev cX11_fallOut : ByteArray := prog_1_method_12_code
def yX11_fallOut : MethodName := ⟨RX11, "fallOut", "(III)Z"⟩
abbrev cX11_truths : ByteArray := prog_1_method_13_code
def yX11_truths : MethodName := ⟨RX11, "truths", "()I"⟩
abbrev cX11_dull : ByteArray := prog_1_method_14_code
def yX11_dull : MethodName := ⟨RX11, "dull", "()I"⟩
abbrev cX11_order : ByteArray := prog_1_method_15_code
def yX11_order : MethodName := ⟨RX11, "order", "(J)I"⟩
abbrev cX11_at : ByteArray := prog_1_method_16_code
def yX11_at : MethodName := ⟨RX11, "at", "(I)I"⟩
abbrev cX11_law : ByteArray := prog_1_method_17_code
def yX11_law : MethodName := ⟨RX11, "law", "(I)I"⟩
abbrev cX11_world : ByteArray := prog_1_method_18_code
def yX11_world : MethodName := ⟨RX11, "world", "(I)I"⟩
abbrev cX11_held : ByteArray := prog_1_method_19_code
def yX11_held : MethodName := ⟨RX11, "held", "(I)I"⟩
abbrev cX11_fate : ByteArray := prog_1_method_20_code
def yX11_fate : MethodName := ⟨RX11, "fate", "(II)I"⟩
abbrev cX11_year : ByteArray := prog_1_method_21_code
def yX11_year : MethodName := ⟨RX11, "year", "(I)I"⟩
abbrev cX11_touchy : ByteArray := prog_1_method_22_code
def yX11_touchy : MethodName := ⟨RX11, "touchy", "()I"⟩
abbrev cX11_ends : ByteArray := prog_1_method_23_code
def yX11_ends : MethodName := ⟨RX11, "ends", "(I)I"⟩
abbrev cX11_orders : ByteArray := prog_1_method_24_code
def yX11_orders : MethodName := ⟨RX11, "orders", "(I)I"⟩
abbrev cX11_best : ByteArray := prog_1_method_25_code
def yX11_best : MethodName := ⟨RX11, "best", "()I"⟩
abbrev cX11_fits : ByteArray := prog_1_method_26_code
def yX11_fits : MethodName := ⟨RX11, "fits", "(II)Z"⟩
abbrev cX11_sets : ByteArray := prog_1_method_27_code
def yX11_sets : MethodName := ⟨RX11, "sets", "(II)I"⟩
abbrev cX11_whole : ByteArray := prog_1_method_28_code
def yX11_whole : MethodName := ⟨RX11, "whole", "(II)I"⟩
abbrev cX11_proof : ByteArray := prog_1_method_29_code
def yX11_proof : MethodName := ⟨RX11, "proof", "(I)I"⟩
abbrev cX11_split : ByteArray := prog_1_method_30_code
def yX11_split : MethodName := ⟨RX11, "split", "(II)I"⟩
abbrev cX11_likely : ByteArray := prog_1_method_31_code
def yX11_likely : MethodName := ⟨RX11, "likely", "(I)I"⟩
abbrev cX11_salted : ByteArray := prog_1_method_32_code
def yX11_salted : MethodName := ⟨RX11, "salted", "(I)I"⟩
abbrev cX11_salty : ByteArray := prog_1_method_33_code
def yX11_salty : MethodName := ⟨RX11, "salty", "(I)I"⟩
abbrev cX11_compared : ByteArray := prog_1_method_34_code
def yX11_compared : MethodName := ⟨RX11, "compared", "(I)I"⟩
abbrev cX11_drawn : ByteArray := prog_1_method_35_code
def yX11_drawn : MethodName := ⟨RX11, "drawn", "(III)I"⟩
abbrev cX11_draw : ByteArray := prog_1_method_36_code
def yX11_draw : MethodName := ⟨RX11, "draw", "(II)I"⟩
abbrev cX11_century : ByteArray := prog_1_method_37_code
def yX11_century : MethodName := ⟨RX11, "century", "(III)I"⟩
abbrev cX11_school : ByteArray := prog_1_method_38_code
def yX11_school : MethodName := ⟨RX11, "school", "(II)I"⟩
abbrev cX11_right : ByteArray := prog_1_method_39_code
def yX11_right : MethodName := ⟨RX11, "right", "(I)I"⟩
abbrev cX11_war : ByteArray := prog_1_method_40_code
def yX11_war : MethodName := ⟨RX11, "war", "(I)I"⟩
abbrev cX11_killer : ByteArray := prog_1_method_41_code
def yX11_killer : MethodName := ⟨RX11, "killer", "(I)I"⟩
abbrev cX11_together : ByteArray := prog_1_method_42_code
def yX11_together : MethodName := ⟨RX11, "together", "(II)J"⟩
abbrev cX11_following : ByteArray := prog_1_method_43_code
def yX11_following : MethodName := ⟨RX11, "following", "(II)I"⟩
abbrev cX11_eldest : ByteArray := prog_1_method_44_code
def yX11_eldest : MethodName := ⟨RX11, "eldest", "(I)I"⟩
abbrev cX11_quarrels : ByteArray := prog_1_method_45_code
def yX11_quarrels : MethodName := ⟨RX11, "quarrels", "(I)I"⟩
abbrev cX11_peace : ByteArray := prog_1_method_46_code
def yX11_peace : MethodName := ⟨RX11, "peace", "(I)I"⟩
abbrev cX11_worst : ByteArray := prog_1_method_47_code
def yX11_worst : MethodName := ⟨RX11, "worst", "(I)J"⟩
abbrev cX11_known : ByteArray := prog_1_method_48_code
def yX11_known : MethodName := ⟨RX11, "known", "(II)I"⟩
abbrev cX11_plain : ByteArray := prog_1_method_49_code
def yX11_plain : MethodName := ⟨RX11, "plain", "(I)I"⟩
abbrev cX11_asks : ByteArray := prog_1_method_50_code
def yX11_asks : MethodName := ⟨RX11, "asks", "(I)I"⟩
abbrev cX11_grave : ByteArray := prog_1_method_51_code
def yX11_grave : MethodName := ⟨RX11, "grave", "(I)I"⟩
abbrev cX11_canon : ByteArray := prog_1_method_52_code
def yX11_canon : MethodName := ⟨RX11, "canon", "(I)I"⟩
abbrev cX11_swap : ByteArray := prog_1_method_53_code
def yX11_swap : MethodName := ⟨RX11, "swap", "()I"⟩
abbrev cX11_humble : ByteArray := prog_1_method_54_code
def yX11_humble : MethodName := ⟨RX11, "humble", "()I"⟩
abbrev cX11_judge : ByteArray := prog_1_method_55_code
def yX11_judge : MethodName := ⟨RX11, "judge", "(IIII)I"⟩
abbrev cX11_image : ByteArray := prog_1_method_56_code
def yX11_image : MethodName := ⟨RX11, "image", "()I"⟩
abbrev cX11_restore : ByteArray := prog_1_method_57_code
def yX11_restore : MethodName := ⟨RX11, "restore", "()I"⟩
abbrev cX11_status : ByteArray := prog_1_method_58_code
def yX11_status : MethodName := ⟨RX11, "status", "(I)I"⟩
abbrev cX11_count : ByteArray := prog_1_method_59_code
def yX11_count : MethodName := ⟨RX11, "count", "(I)I"⟩
abbrev cX11_refusePiece : ByteArray := prog_1_method_60_code
def yX11_refusePiece : MethodName := ⟨RX11, "refusePiece", "()V"⟩
abbrev cX11_refuseArgument : ByteArray := prog_1_method_61_code
def yX11_refuseArgument : MethodName := ⟨RX11, "refuseArgument", "()V"⟩
abbrev cX11_refuseState : ByteArray := prog_1_method_62_code
def yX11_refuseState : MethodName := ⟨RX11, "refuseState", "()V"⟩
abbrev cX11_needSlip : ByteArray := prog_1_method_63_code
def yX11_needSlip : MethodName := ⟨RX11, "needSlip", "(I)V"⟩
abbrev cX11_needBelow : ByteArray := prog_1_method_64_code
def yX11_needBelow : MethodName := ⟨RX11, "needBelow", "(II)V"⟩
abbrev cX11_needWeek : ByteArray := prog_1_method_65_code
def yX11_needWeek : MethodName := ⟨RX11, "needWeek", "(I)V"⟩
abbrev cX11_needBits : ByteArray := prog_1_method_66_code
def yX11_needBits : MethodName := ⟨RX11, "needBits", "(II)V"⟩
abbrev cX11_needSeeds : ByteArray := prog_1_method_67_code
def yX11_needSeeds : MethodName := ⟨RX11, "needSeeds", "(I)V"⟩
abbrev cX11_needBytes : ByteArray := prog_1_method_68_code
def yX11_needBytes : MethodName := ⟨RX11, "needBytes", "(II)V"⟩
abbrev cX11_needFewSlips : ByteArray := prog_1_method_69_code
def yX11_needFewSlips : MethodName := ⟨RX11, "needFewSlips", "()V"⟩
abbrev cX11_digit : ByteArray := prog_1_method_70_code
def yX11_digit : MethodName := ⟨RX11, "digit", "(JI)I"⟩
abbrev cX11_takeOrder : ByteArray := prog_1_method_71_code
def yX11_takeOrder : MethodName := ⟨RX11, "takeOrder", "(J)V"⟩
abbrev cX11_copyOrder : ByteArray := prog_1_method_72_code
def yX11_copyOrder : MethodName := ⟨RX11, "copyOrder", "(I)V"⟩
abbrev cX11_change : ByteArray := prog_1_method_73_code
def yX11_change : MethodName := ⟨RX11, "change", "(II)V"⟩
abbrev cX11_drawRow : ByteArray := prog_1_method_74_code
def yX11_drawRow : MethodName := ⟨RX11, "drawRow", "(I)V"⟩
abbrev cX11_runYear : ByteArray := prog_1_method_75_code
def yX11_runYear : MethodName := ⟨RX11, "runYear", "()V"⟩
abbrev cX11_endOfRow : ByteArray := prog_1_method_76_code
def yX11_endOfRow : MethodName := ⟨RX11, "endOfRow", "(II)I"⟩
abbrev cX11_laySalts : ByteArray := prog_1_method_77_code
def yX11_laySalts : MethodName := ⟨RX11, "laySalts", "(I)I"⟩
abbrev cX11_runSchool : ByteArray := prog_1_method_78_code
def yX11_runSchool : MethodName := ⟨RX11, "runSchool", "(LLotBeliefs$Course;I)V"⟩
abbrev cX11_surveyOf : ByteArray := prog_1_method_79_code
def yX11_surveyOf : MethodName := ⟨RX11, "surveyOf", "(I)LLotBeliefs$Survey;"⟩
abbrev cX11_forgetSurveys : ByteArray := prog_1_method_80_code
def yX11_forgetSurveys : MethodName := ⟨RX11, "forgetSurveys", "()V"⟩
abbrev cX11_gravesAhead : ByteArray := prog_1_method_81_code
def yX11_gravesAhead : MethodName := ⟨RX11, "gravesAhead", "(I)I"⟩
abbrev cX11_allStayWithout : ByteArray := prog_1_method_82_code
def yX11_allStayWithout : MethodName := ⟨RX11, "allStayWithout", "(I)Z"⟩
def RX12 : String := "LotBeliefsModel"
def TX12 : u_T := fun k => match k with
  | 0 => ("LotBeliefsModel", "thrown", "I", false)
  | 1 => ("LotBeliefsModel", "tape", "I", false)
  | 2 => ("LotBeliefsModel", "size", "I", false)
  | 3 => ("LotBeliefsModel", "place", "I", false)
  | 4 => ("LotBeliefsModel", "at", "I", false)
  | 5 => ("LotBeliefsModel", "fault", "I", false)
  | 6 => ("LotBeliefsModel", "faultAt", "I", false)
  | 7 => ("LotBeliefsModel", "clauses", "I", false)
  | 8 => ("LotBeliefsModel", "open", "I", false)
  | 9 => ("LotBeliefsModel", "fed", "[I", true)
  | 10 => ("LotBeliefsModel", "refused", "[I", true)
  | 11 => ("LotBeliefsModel", "readTold", "[I", true)
  | 12 => ("LotBeliefsModel", "told", "[I", true)
  | 13 => ("LotBeliefsModel", "readWeek", "[I", true)
  | 14 => ("LotBeliefsModel", "seeWeek", "[I", true)
  | 15 => ("LotBeliefsModel", "readModels", "[J", true)
  | 16 => ("LotBeliefsModel", "models", "[J", true)
  | 17 => ("LotBeliefsModel", "readSeen", "[J", true)
  | 18 => ("LotBeliefsModel", "seen", "[J", true)
  | 19 => ("LotBeliefsModel", "leftIn", "[J", true)
  | 20 => ("LotBeliefsModel", "question", "J", false)
  | 21 => ("LotBeliefsModel", "order", "[I", true)
  | 22 => ("LotBeliefsModel", "images", "I", false)
  | 23 => ("LotBeliefsModel", "spot", "I", false)
  | 24 => ("LotBeliefsModel", "kept", "[[I", true)
  | 25 => ("LotBeliefsModel", "whos", "I", false)
  | 26 => ("LotBeliefsModel", "readWhos", "I", false)
  | 27 => ("LotBeliefsModel", "codes", "I", false)
  | 28 => ("LotBeliefsModel", "readCodes", "I", false)
  | 29 => ("LotBeliefsModel", "who", "[[I", true)
  | 30 => ("LotBeliefsModel", "readWho", "[[I", true)
  | 31 => ("LotBeliefsModel", "code", "[[I", true)
  | 32 => ("LotBeliefsModel", "readCode", "[[I", true)
  | 33 => ("LotBeliefsModel", "stack", "[I", true)
  | 34 => ("LotBeliefsModel", "row", "[I", true)
  | 35 => ("LotBeliefsModel", "heldRow", "[I", true)
  | 36 => ("LotBeliefsModel", "drawnIn", "[I", true)
  | 37 => ("LotBeliefsModel", "fellIn", "[I", true)
  | 38 => ("LotBeliefsModel", "fellBy", "[I", true)
  | 39 => ("LotBeliefsModel", "weeksOf", "[I", true)
  | 40 => ("LotBeliefsModel", "hurtsOf", "[I", true)
  | 41 => ("LotBeliefsModel", "heldBehind", "[I", true)
  | 42 => ("LotBeliefsModel", "eldestBehind", "[I", true)
  | 43 => ("LotBeliefsModel", "rowMany", "I", false)
  | 44 => ("LotBeliefsModel", "heldMany", "I", false)
  | 45 => ("LotBeliefsModel", "fell", "I", false)
  | 46 => ("LotBeliefsModel", "killed", "I", false)
  | 47 => ("LotBeliefsModel", "hurts", "I", false)
  | 48 => ("LotBeliefsModel", "yearLaw", "I", false)
  | 49 => ("LotBeliefsModel", "meets", "[I", true)
  | 50 => ("LotBeliefsModel", "been", "[Z", true)
  | 51 => ("LotBeliefsModel", "holds", "[I", true)
  | 52 => ("LotBeliefsModel", "always", "I", false)
  | 53 => ("LotBeliefsModel", "ever", "I", false)
  | 54 => ("LotBeliefsModel", "unlike", "I", false)
  | 55 => ("LotBeliefsModel", "trues", "I", false)
  | 56 => ("LotBeliefsModel", "bestTrues", "I", false)
  | 57 => ("LotBeliefsModel", "worstHurts", "I", false)
  | 58 => ("LotBeliefsModel", "bestRow", "[I", true)
  | 59 => ("LotBeliefsModel", "worstRow", "[I", true)
  | 60 => ("LotBeliefsModel", "schoolBehind", "[[I", true)
  | _ => ("LotBeliefsModel", "plainOf", "[I", true)
def tyX12 : Nat → FieldType := fun k => match k with
  | 0 => .int
  | 1 => .int
  | 2 => .int
  | 3 => .int
  | 4 => .int
  | 5 => .int
  | 6 => .int
  | 7 => .int
  | 8 => .int
  | 9 => .array .int
  | 10 => .array .int
  | 11 => .array .int
  | 12 => .array .int
  | 13 => .array .int
  | 14 => .array .int
  | 15 => .array .long
  | 16 => .array .long
  | 17 => .array .long
  | 18 => .array .long
  | 19 => .array .long
  | 20 => .long
  | 21 => .array .int
  | 22 => .int
  | 23 => .int
  | 24 => .array (.array .int)
  | 25 => .int
  | 26 => .int
  | 27 => .int
  | 28 => .int
  | 29 => .array (.array .int)
  | 30 => .array (.array .int)
  | 31 => .array (.array .int)
  | 32 => .array (.array .int)
  | 33 => .array .int
  | 34 => .array .int
  | 35 => .array .int
  | 36 => .array .int
  | 37 => .array .int
  | 38 => .array .int
  | 39 => .array .int
  | 40 => .array .int
  | 41 => .array .int
  | 42 => .array .int
  | 43 => .int
  | 44 => .int
  | 45 => .int
  | 46 => .int
  | 47 => .int
  | 48 => .int
  | 49 => .array .int
  | 50 => .array .boolean
  | 51 => .array .int
  | 52 => .int
  | 53 => .int
  | 54 => .int
  | 55 => .int
  | 56 => .int
  | 57 => .int
  | 58 => .array .int
  | 59 => .array .int
  | 60 => .array (.array .int)
  | _ => .array .int
abbrev wsX120 : List Cond := u_ws RX12 TX12 62
theorem nmX12 : ∀ a, a < 62 → ∀ b, b < 62 → a ≠ b → (TX12 a).2.1 ≠ (TX12 b).2.1 := by decide +kernel
theorem tyX12_ok : ∀ k, k < 62 → parseFieldDescriptor (TX12 k).2.2.1 = some (tyX12 k) := by decide +kernel
abbrev cX12_init : ByteArray := prog_14_method_1_code
def yX12_init : MethodName := ⟨RX12, "<init>", "()V"⟩
abbrev cX12_tellsNothing : ByteArray := prog_14_method_2_code
def yX12_tellsNothing : MethodName := ⟨RX12, "tellsNothing", "()V"⟩
abbrev cX12_thrown : ByteArray := prog_14_method_3_code
def yX12_thrown : MethodName := ⟨RX12, "thrown", "()I"⟩
abbrev cX12_bad : ByteArray := prog_14_method_4_code
def yX12_bad : MethodName := ⟨RX12, "bad", "(ZII)Z"⟩
abbrev cX12_in : ByteArray := prog_14_method_5_code
def yX12_in : MethodName := ⟨RX12, "in", "(III)Z"⟩
abbrev cX12_feed : ByteArray := prog_14_method_6_code
def yX12_feed : MethodName := ⟨RX12, "feed", "(IIIII)I"⟩
abbrev cX12_byteAt : ByteArray := prog_14_method_7_code
def yX12_byteAt : MethodName := ⟨RX12, "byteAt", "(I)I"⟩
abbrev cX12_blanks : ByteArray := prog_14_method_8_code
def yX12_blanks : MethodName := ⟨RX12, "blanks", "()V"⟩
abbrev cX12_wrong : ByteArray := prog_14_method_9_code
def yX12_wrong : MethodName := ⟨RX12, "wrong", "(II)V"⟩
abbrev cX12_isDigit : ByteArray := prog_14_method_10_code
def yX12_isDigit : MethodName := ⟨RX12, "isDigit", "(I)Z"⟩
abbrev cX12_isSmall : ByteArray := prog_14_method_11_code
def yX12_isSmall : MethodName := ⟨RX12, "isSmall", "(I)Z"⟩
abbrev cX12_number : ByteArray := prog_14_method_12_code
def yX12_number : MethodName := ⟨RX12, "number", "(II)I"⟩
abbrev cX12_wordHere : ByteArray := prog_14_method_13_code
def yX12_wordHere : MethodName := ⟨RX12, "wordHere", "()I"⟩
abbrev cX12_six : ByteArray := prog_14_method_14_code
def yX12_six : MethodName := ⟨RX12, "six", "(IIIIII)I"⟩
abbrev cX12_isWord : ByteArray := prog_14_method_15_code
def yX12_isWord : MethodName := ⟨RX12, "isWord", "(IIIIII)Z"⟩
abbrev cX12_skipWord : ByteArray := prog_14_method_16_code
def yX12_skipWord : MethodName := ⟨RX12, "skipWord", "()V"⟩
abbrev cX12_takes : ByteArray := prog_14_method_17_code
def yX12_takes : MethodName := ⟨RX12, "takes", "(IIIIII)Z"⟩
abbrev cX12_sign : ByteArray := prog_14_method_18_code
def yX12_sign : MethodName := ⟨RX12, "sign", "(I)V"⟩
abbrev cX12_takesSign : ByteArray := prog_14_method_19_code
def yX12_takesSign : MethodName := ⟨RX12, "takesSign", "(I)Z"⟩
abbrev cX12_opens : ByteArray := prog_14_method_20_code
def yX12_opens : MethodName := ⟨RX12, "opens", "()Z"⟩
abbrev cX12_starts : ByteArray := prog_14_method_21_code
def yX12_starts : MethodName := ⟨RX12, "starts", "(I)V"⟩
abbrev cX12_allOf : ByteArray := prog_14_method_22_code
def yX12_allOf : MethodName := ⟨RX12, "allOf", "(I)J"⟩
abbrev cX12_atomOf : ByteArray := prog_14_method_23_code
def yX12_atomOf : MethodName := ⟨RX12, "atomOf", "(II)J"⟩
abbrev cX12_anyOf : ByteArray := prog_14_method_24_code
def yX12_anyOf : MethodName := ⟨RX12, "anyOf", "()J"⟩
abbrev cX12_eachOf : ByteArray := prog_14_method_25_code
def yX12_eachOf : MethodName := ⟨RX12, "eachOf", "()J"⟩
abbrev cX12_oneOf : ByteArray := prog_14_method_26_code
def yX12_oneOf : MethodName := ⟨RX12, "oneOf", "()J"⟩
abbrev cX12_kindHere : ByteArray := prog_14_method_27_code
def yX12_kindHere : MethodName := ⟨RX12, "kindHere", "()I"⟩
abbrev cX12_isFull : ByteArray := prog_14_method_28_code
def yX12_isFull : MethodName := ⟨RX12, "isFull", "(I)Z"⟩
abbrev cX12_clause : ByteArray := prog_14_method_29_code
def yX12_clause : MethodName := ⟨RX12, "clause", "()V"⟩
abbrev cX12_jar : ByteArray := prog_14_method_30_code
def yX12_jar : MethodName := ⟨RX12, "jar", "(I)I"⟩
abbrev cX12_stands : ByteArray := prog_14_method_31_code
def yX12_stands : MethodName := ⟨RX12, "stands", "()V"⟩
abbrev cX12_ones : ByteArray := prog_14_method_32_code
def yX12_ones : MethodName := ⟨RX12, "ones", "(J)I"⟩
abbrev cX12_question : ByteArray := prog_14_method_33_code
def yX12_question : MethodName := ⟨RX12, "question", "(I)I"⟩
abbrev cX12_says : ByteArray := prog_14_method_34_code
def yX12_says : MethodName := ⟨RX12, "says", "(II)V"⟩
abbrev cX12_tongueAny : ByteArray := prog_14_method_35_code
def yX12_tongueAny : MethodName := ⟨RX12, "tongueAny", "()V"⟩
abbrev cX12_tongueEach : ByteArray := prog_14_method_36_code
def yX12_tongueEach : MethodName := ⟨RX12, "tongueEach", "()V"⟩
abbrev cX12_tongueOne : ByteArray := prog_14_method_37_code
def yX12_tongueOne : MethodName := ⟨RX12, "tongueOne", "()V"⟩
abbrev cX12_sum : ByteArray := prog_14_method_38_code
def yX12_sum : MethodName := ⟨RX12, "sum", "()V"⟩
abbrev cX12_product : ByteArray := prog_14_method_39_code
def yX12_product : MethodName := ⟨RX12, "product", "()V"⟩
abbrev cX12_knownHere : ByteArray := prog_14_method_40_code
def yX12_knownHere : MethodName := ⟨RX12, "knownHere", "()I"⟩
abbrev cX12_oneValue : ByteArray := prog_14_method_41_code
def yX12_oneValue : MethodName := ⟨RX12, "oneValue", "()V"⟩
abbrev cX12_whoHere : ByteArray := prog_14_method_42_code
def yX12_whoHere : MethodName := ⟨RX12, "whoHere", "()V"⟩
abbrev cX12_tongue : ByteArray := prog_14_method_43_code
def yX12_tongue : MethodName := ⟨RX12, "tongue", "(I)I"⟩
abbrev cX12_valueOf : ByteArray := prog_14_method_44_code
def yX12_valueOf : MethodName := ⟨RX12, "valueOf", "(I)I"⟩
abbrev cX12_by : ByteArray := prog_14_method_45_code
def yX12_by : MethodName := ⟨RX12, "by", "(III)I"⟩
abbrev cX12_isSo : ByteArray := prog_14_method_46_code
def yX12_isSo : MethodName := ⟨RX12, "isSo", "(II)Z"⟩
abbrev cX12_byTongue : ByteArray := prog_14_method_47_code
def yX12_byTongue : MethodName := ⟨RX12, "byTongue", "(IIIIII)I"⟩
abbrev cX12_fault : ByteArray := prog_14_method_48_code
def yX12_fault : MethodName := ⟨RX12, "fault", "()I"⟩
abbrev cX12_told : ByteArray := prog_14_method_49_code
def yX12_told : MethodName := ⟨RX12, "told", "(I)I"⟩
abbrev cX12_isSlip : ByteArray := prog_14_method_50_code
def yX12_isSlip : MethodName := ⟨RX12, "isSlip", "(I)Z"⟩
abbrev cX12_isWeek : ByteArray := prog_14_method_51_code
def yX12_isWeek : MethodName := ⟨RX12, "isWeek", "(I)Z"⟩
abbrev cX12_areSlips : ByteArray := prog_14_method_52_code
def yX12_areSlips : MethodName := ⟨RX12, "areSlips", "(I)Z"⟩
abbrev cX12_models : ByteArray := prog_14_method_53_code
def yX12_models : MethodName := ⟨RX12, "models", "(I)J"⟩
abbrev cX12_seen : ByteArray := prog_14_method_54_code
def yX12_seen : MethodName := ⟨RX12, "seen", "(I)J"⟩
abbrev cX12_left : ByteArray := prog_14_method_55_code
def yX12_left : MethodName := ⟨RX12, "left", "(I)J"⟩
abbrev cX12_kin : ByteArray := prog_14_method_56_code
def yX12_kin : MethodName := ⟨RX12, "kin", "(II)I"⟩
abbrev cX12_falls : ByteArray := prog_14_method_57_code
def yX12_falls : MethodName := ⟨RX12, "falls", "(III)Z"⟩
abbrev cX12_fallOut : ByteArray := prog_14_method_58_code
def yX12_fallOut : MethodName := ⟨RX12, "fallOut", "(III)Z"⟩
abbrev cX12_isTrue : ByteArray := prog_14_method_59_code
def yX12_isTrue : MethodName := ⟨RX12, "isTrue", "(I)Z"⟩
abbrev cX12_truthsNow : ByteArray := prog_14_method_60_code
def yX12_truthsNow : MethodName := ⟨RX12, "truthsNow", "()I"⟩
abbrev cX12_truths : ByteArray := prog_14_method_61_code
def yX12_truths : MethodName := ⟨RX12, "truths", "()I"⟩
abbrev cX12_dull : ByteArray := prog_14_method_62_code
def yX12_dull : MethodName := ⟨RX12, "dull", "()I"⟩
abbrev cX12_order : ByteArray := prog_14_method_63_code
def yX12_order : MethodName := ⟨RX12, "order", "(J)I"⟩
abbrev cX12_at : ByteArray := prog_14_method_64_code
def yX12_at : MethodName := ⟨RX12, "at", "(I)I"⟩
abbrev cX12_law : ByteArray := prog_14_method_65_code
def yX12_law : MethodName := ⟨RX12, "law", "(I)I"⟩
abbrev cX12_world : ByteArray := prog_14_method_66_code
def yX12_world : MethodName := ⟨RX12, "world", "(I)I"⟩
abbrev cX12_begins : ByteArray := prog_14_method_67_code
def yX12_begins : MethodName := ⟨RX12, "begins", "(I)V"⟩
abbrev cX12_isDead : ByteArray := prog_14_method_68_code
def yX12_isDead : MethodName := ⟨RX12, "isDead", "(II)Z"⟩
abbrev cX12_leaves : ByteArray := prog_14_method_69_code
def yX12_leaves : MethodName := ⟨RX12, "leaves", "(I)V"⟩
abbrev cX12_kills : ByteArray := prog_14_method_70_code
def yX12_kills : MethodName := ⟨RX12, "kills", "(I)V"⟩
abbrev cX12_whoFalls : ByteArray := prog_14_method_71_code
def yX12_whoFalls : MethodName := ⟨RX12, "whoFalls", "(III)I"⟩
abbrev cX12_drops : ByteArray := prog_14_method_72_code
def yX12_drops : MethodName := ⟨RX12, "drops", "(III)V"⟩
abbrev cX12_draws : ByteArray := prog_14_method_73_code
def yX12_draws : MethodName := ⟨RX12, "draws", "(II)V"⟩
abbrev cX12_ages : ByteArray := prog_14_method_74_code
def yX12_ages : MethodName := ⟨RX12, "ages", "()V"⟩
abbrev cX12_heldNow : ByteArray := prog_14_method_75_code
def yX12_heldNow : MethodName := ⟨RX12, "heldNow", "()I"⟩
abbrev cX12_goes : ByteArray := prog_14_method_76_code
def yX12_goes : MethodName := ⟨RX12, "goes", "(I)I"⟩
abbrev cX12_rowAsOrder : ByteArray := prog_14_method_77_code
def yX12_rowAsOrder : MethodName := ⟨RX12, "rowAsOrder", "()V"⟩
abbrev cX12_goesNow : ByteArray := prog_14_method_78_code
def yX12_goesNow : MethodName := ⟨RX12, "goesNow", "()I"⟩
abbrev cX12_held : ByteArray := prog_14_method_79_code
def yX12_held : MethodName := ⟨RX12, "held", "(I)I"⟩
abbrev cX12_eldest : ByteArray := prog_14_method_80_code
def yX12_eldest : MethodName := ⟨RX12, "eldest", "(I)I"⟩
abbrev cX12_fate : ByteArray := prog_14_method_81_code
def yX12_fate : MethodName := ⟨RX12, "fate", "(II)I"⟩
abbrev cX12_togetherIn : ByteArray := prog_14_method_82_code
def yX12_togetherIn : MethodName := ⟨RX12, "togetherIn", "(II)J"⟩
abbrev cX12_year : ByteArray := prog_14_method_83_code
def yX12_year : MethodName := ⟨RX12, "year", "(I)I"⟩
abbrev cX12_changes : ByteArray := prog_14_method_84_code
def yX12_changes : MethodName := ⟨RX12, "changes", "(II)V"⟩
abbrev cX12_touchy : ByteArray := prog_14_method_85_code
def yX12_touchy : MethodName := ⟨RX12, "touchy", "()I"⟩
abbrev cX12_swap : ByteArray := prog_14_method_86_code
def yX12_swap : MethodName := ⟨RX12, "swap", "()I"⟩
abbrev cX12_humble : ByteArray := prog_14_method_87_code
def yX12_humble : MethodName := ⟨RX12, "humble", "()I"⟩
abbrev cX12_killer : ByteArray := prog_14_method_88_code
def yX12_killer : MethodName := ⟨RX12, "killer", "(I)I"⟩
abbrev cX12_grave : ByteArray := prog_14_method_89_code
def yX12_grave : MethodName := ⟨RX12, "grave", "(I)I"⟩
abbrev cX12_canon : ByteArray := prog_14_method_90_code
def yX12_canon : MethodName := ⟨RX12, "canon", "(I)I"⟩
abbrev cX12_permutes : ByteArray := prog_14_method_91_code
def yX12_permutes : MethodName := ⟨RX12, "permutes", "(III)V"⟩
abbrev cX12_allOrders : ByteArray := prog_14_method_92_code
def yX12_allOrders : MethodName := ⟨RX12, "allOrders", "(I)V"⟩
abbrev cX12_ends : ByteArray := prog_14_method_93_code
def yX12_ends : MethodName := ⟨RX12, "ends", "(I)I"⟩
abbrev cX12_orders : ByteArray := prog_14_method_94_code
def yX12_orders : MethodName := ⟨RX12, "orders", "(I)I"⟩
abbrev cX12_best : ByteArray := prog_14_method_95_code
def yX12_best : MethodName := ⟨RX12, "best", "()I"⟩
abbrev cX12_compared : ByteArray := prog_14_method_96_code
def yX12_compared : MethodName := ⟨RX12, "compared", "(I)I"⟩
abbrev cX12_worst : ByteArray := prog_14_method_97_code
def yX12_worst : MethodName := ⟨RX12, "worst", "(I)J"⟩
abbrev cX12_rowBy : ByteArray := prog_14_method_98_code
def yX12_rowBy : MethodName := ⟨RX12, "rowBy", "(I)V"⟩
abbrev cX12_drawn : ByteArray := prog_14_method_99_code
def yX12_drawn : MethodName := ⟨RX12, "drawn", "(III)I"⟩
abbrev cX12_draw : ByteArray := prog_14_method_100_code
def yX12_draw : MethodName := ⟨RX12, "draw", "(II)I"⟩
abbrev cX12_century : ByteArray := prog_14_method_101_code
def yX12_century : MethodName := ⟨RX12, "century", "(III)I"⟩
abbrev cX12_badSet : ByteArray := prog_14_method_102_code
def yX12_badSet : MethodName := ⟨RX12, "badSet", "(II)Z"⟩
abbrev cX12_fits : ByteArray := prog_14_method_103_code
def yX12_fits : MethodName := ⟨RX12, "fits", "(II)Z"⟩
abbrev cX12_together : ByteArray := prog_14_method_104_code
def yX12_together : MethodName := ⟨RX12, "together", "(II)J"⟩
abbrev cX12_followingOf : ByteArray := prog_14_method_105_code
def yX12_followingOf : MethodName := ⟨RX12, "followingOf", "(J)I"⟩
abbrev cX12_following : ByteArray := prog_14_method_106_code
def yX12_following : MethodName := ⟨RX12, "following", "(II)I"⟩
abbrev cX12_isWhole : ByteArray := prog_14_method_107_code
def yX12_isWhole : MethodName := ⟨RX12, "isWhole", "(II)Z"⟩
abbrev cX12_sets : ByteArray := prog_14_method_108_code
def yX12_sets : MethodName := ⟨RX12, "sets", "(II)I"⟩
abbrev cX12_whole : ByteArray := prog_14_method_109_code
def yX12_whole : MethodName := ⟨RX12, "whole", "(II)I"⟩
abbrev cX12_proof : ByteArray := prog_14_method_110_code
def yX12_proof : MethodName := ⟨RX12, "proof", "(I)I"⟩
abbrev cX12_split : ByteArray := prog_14_method_111_code
def yX12_split : MethodName := ⟨RX12, "split", "(II)I"⟩
abbrev cX12_likely : ByteArray := prog_14_method_112_code
def yX12_likely : MethodName := ⟨RX12, "likely", "(I)I"⟩
abbrev cX12_known : ByteArray := prog_14_method_113_code
def yX12_known : MethodName := ⟨RX12, "known", "(II)I"⟩
abbrev cX12_asks : ByteArray := prog_14_method_114_code
def yX12_asks : MethodName := ⟨RX12, "asks", "(I)I"⟩
abbrev cX12_quarrels : ByteArray := prog_14_method_115_code
def yX12_quarrels : MethodName := ⟨RX12, "quarrels", "(I)I"⟩
abbrev cX12_peace : ByteArray := prog_14_method_116_code
def yX12_peace : MethodName := ⟨RX12, "peace", "(I)I"⟩
abbrev cX12_goesSalted : ByteArray := prog_14_method_117_code
def yX12_goesSalted : MethodName := ⟨RX12, "goesSalted", "(I)I"⟩
abbrev cX12_salted : ByteArray := prog_14_method_118_code
def yX12_salted : MethodName := ⟨RX12, "salted", "(I)I"⟩
abbrev cX12_salty : ByteArray := prog_14_method_119_code
def yX12_salty : MethodName := ⟨RX12, "salty", "(I)I"⟩
abbrev cX12_schools : ByteArray := prog_14_method_120_code
def yX12_schools : MethodName := ⟨RX12, "schools", "()V"⟩
abbrev cX12_isSchool : ByteArray := prog_14_method_121_code
def yX12_isSchool : MethodName := ⟨RX12, "isSchool", "(I)Z"⟩
abbrev cX12_school : ByteArray := prog_14_method_122_code
def yX12_school : MethodName := ⟨RX12, "school", "(II)I"⟩
abbrev cX12_right : ByteArray := prog_14_method_123_code
def yX12_right : MethodName := ⟨RX12, "right", "(I)I"⟩
abbrev cX12_war : ByteArray := prog_14_method_124_code
def yX12_war : MethodName := ⟨RX12, "war", "(I)I"⟩
abbrev cX12_laysPlain : ByteArray := prog_14_method_125_code
def yX12_laysPlain : MethodName := ⟨RX12, "laysPlain", "()V"⟩
abbrev cX12_isLong : ByteArray := prog_14_method_126_code
def yX12_isLong : MethodName := ⟨RX12, "isLong", "(II)V"⟩
abbrev cX12_plain : ByteArray := prog_14_method_127_code
def yX12_plain : MethodName := ⟨RX12, "plain", "(I)I"⟩
abbrev cX12_judge : ByteArray := prog_14_method_128_code
def yX12_judge : MethodName := ⟨RX12, "judge", "(IIII)I"⟩
abbrev cX12_moves : ByteArray := prog_14_method_129_code
def yX12_moves : MethodName := ⟨RX12, "moves", "([IIZ)I"⟩
abbrev cX12_movesAll : ByteArray := prog_14_method_130_code
def yX12_movesAll : MethodName := ⟨RX12, "movesAll", "([IZ)V"⟩
abbrev cX12_image : ByteArray := prog_14_method_131_code
def yX12_image : MethodName := ⟨RX12, "image", "()I"⟩
abbrev cX12_restore : ByteArray := prog_14_method_132_code
def yX12_restore : MethodName := ⟨RX12, "restore", "()I"⟩
abbrev cX12_status : ByteArray := prog_14_method_133_code
def yX12_status : MethodName := ⟨RX12, "status", "(I)I"⟩
abbrev cX12_count : ByteArray := prog_14_method_134_code
def yX12_count : MethodName := ⟨RX12, "count", "(I)I"⟩
def RJ6 : String := "java/lang/Integer"
def TJ6 : u_T := fun k => match k with
  | _ => ("", "", "", false)
def tyJ6 : Nat → FieldType := fun k => match k with
  | _ => .int
abbrev wsJ60 : List Cond := u_ws RJ6 TJ6 0
theorem nmJ6 : ∀ a, a < 0 → ∀ b, b < 0 → a ≠ b → (TJ6 a).2.1 ≠ (TJ6 b).2.1 := by decide +kernel
theorem tyJ6_ok : ∀ k, k < 0 → parseFieldDescriptor (TJ6 k).2.2.1 = some (tyJ6 k) := by decide +kernel
abbrev cJ6_bitCount_0f7a4 : ByteArray := prog_19_method_49_code
def yJ6_bitCount_0f7a4 : MethodName := ⟨RJ6, "bitCount", "(I)I"⟩
def RJ13 : String := "java/lang/Long"
def TJ13 : u_T := fun k => match k with
  | _ => ("", "", "", false)
def tyJ13 : Nat → FieldType := fun k => match k with
  | _ => .int
abbrev wsJ130 : List Cond := u_ws RJ13 TJ13 0
theorem nmJ13 : ∀ a, a < 0 → ∀ b, b < 0 → a ≠ b → (TJ13 a).2.1 ≠ (TJ13 b).2.1 := by decide +kernel
theorem tyJ13_ok : ∀ k, k < 0 → parseFieldDescriptor (TJ13 k).2.2.1 = some (tyJ13 k) := by decide +kernel
abbrev cJ13_bitCount_95d88 : ByteArray := prog_20_method_50_code
def yJ13_bitCount_95d88 : MethodName := ⟨RJ13, "bitCount", "(J)I"⟩
def RJ9 : String := "java/lang/Math"
def TJ9 : u_T := fun k => match k with
  | _ => ("", "", "", false)
def tyJ9 : Nat → FieldType := fun k => match k with
  | _ => .int
abbrev wsJ90 : List Cond := u_ws RJ9 TJ9 0
theorem nmJ9 : ∀ a, a < 0 → ∀ b, b < 0 → a ≠ b → (TJ9 a).2.1 ≠ (TJ9 b).2.1 := by decide +kernel
theorem tyJ9_ok : ∀ k, k < 0 → parseFieldDescriptor (TJ9 k).2.2.1 = some (tyJ9 k) := by decide +kernel
abbrev cJ9_max_7cf53 : ByteArray := prog_21_method_65_code
def yJ9_max_7cf53 : MethodName := ⟨RJ9, "max", "(II)I"⟩
abbrev cJ9_min_7cf53 : ByteArray := prog_21_method_69_code
def yJ9_min_7cf53 : MethodName := ⟨RJ9, "min", "(II)I"⟩
def RJ0 : String := "java/lang/String"
def TJ0 : u_T := fun k => match k with
  | _ => ("", "", "", false)
def tyJ0 : Nat → FieldType := fun k => match k with
  | _ => .int
abbrev wsJ00 : List Cond := u_ws RJ0 TJ0 0
theorem nmJ0 : ∀ a, a < 0 → ∀ b, b < 0 → a ≠ b → (TJ0 a).2.1 ≠ (TJ0 b).2.1 := by decide +kernel
theorem tyJ0_ok : ∀ k, k < 0 → parseFieldDescriptor (TJ0 k).2.2.1 = some (tyJ0 k) := by decide +kernel
abbrev cJ0_length_8abf5 : ByteArray := prog_23_method_54_code
def yJ0_length_8abf5 : MethodName := ⟨RJ0, "length", "()I"⟩
abbrev cJ0_charAt_5068e : ByteArray := prog_23_method_56_code
def yJ0_charAt_5068e : MethodName := ⟨RJ0, "charAt", "(I)C"⟩
abbrev cJ0_coder_7d493 : ByteArray := prog_23_method_152_code
def yJ0_coder_7d493 : MethodName := ⟨RJ0, "coder", "()B"⟩
abbrev cJ0_isLatin1_aae02 : ByteArray := prog_23_method_154_code
def yJ0_isLatin1_aae02 : MethodName := ⟨RJ0, "isLatin1", "()Z"⟩
abbrev cJ0_checkIndex_df160 : ByteArray := prog_23_method_155_code
def yJ0_checkIndex_df160 : MethodName := ⟨RJ0, "checkIndex", "(II)V"⟩
def RJ1 : String := "java/lang/StringLatin1"
def TJ1 : u_T := fun k => match k with
  | _ => ("", "", "", false)
def tyJ1 : Nat → FieldType := fun k => match k with
  | _ => .int
abbrev wsJ10 : List Cond := u_ws RJ1 TJ1 0
theorem nmJ1 : ∀ a, a < 0 → ∀ b, b < 0 → a ≠ b → (TJ1 a).2.1 ≠ (TJ1 b).2.1 := by decide +kernel
theorem tyJ1_ok : ∀ k, k < 0 → parseFieldDescriptor (TJ1 k).2.2.1 = some (tyJ1 k) := by decide +kernel
abbrev cJ1_charAt_3b067 : ByteArray := prog_24_method_2_code
def yJ1_charAt_3b067 : MethodName := ⟨RJ1, "charAt", "([BI)C"⟩
def RJ2 : String := "java/lang/StringUTF16"
def TJ2 : u_T := fun k => match k with
  | _ => ("", "", "", false)
def tyJ2 : Nat → FieldType := fun k => match k with
  | _ => .int
abbrev wsJ20 : List Cond := u_ws RJ2 TJ2 0
theorem nmJ2 : ∀ a, a < 0 → ∀ b, b < 0 → a ≠ b → (TJ2 a).2.1 ≠ (TJ2 b).2.1 := by decide +kernel
theorem tyJ2_ok : ∀ k, k < 0 → parseFieldDescriptor (TJ2 k).2.2.1 = some (tyJ2 k) := by decide +kernel
abbrev cJ2_getChar_3b067 : ByteArray := prog_25_method_5_code
def yJ2_getChar_3b067 : MethodName := ⟨RJ2, "getChar", "([BI)C"⟩
abbrev cJ2_length_9d52b : ByteArray := prog_25_method_6_code
def yJ2_length_9d52b : MethodName := ⟨RJ2, "length", "([B)I"⟩
abbrev cJ2_charAt_3b067 : ByteArray := prog_25_method_83_code
def yJ2_charAt_3b067 : MethodName := ⟨RJ2, "charAt", "([BI)C"⟩
abbrev cJ2_checkIndex_2214a : ByteArray := prog_25_method_91_code
def yJ2_checkIndex_2214a : MethodName := ⟨RJ2, "checkIndex", "(I[B)V"⟩
def RJ3 : String := "jdk/internal/util/Preconditions"
def TJ3 : u_T := fun k => match k with
  | _ => ("", "", "", false)
def tyJ3 : Nat → FieldType := fun k => match k with
  | _ => .int
abbrev wsJ30 : List Cond := u_ws RJ3 TJ3 0
theorem nmJ3 : ∀ a, a < 0 → ∀ b, b < 0 → a ≠ b → (TJ3 a).2.1 ≠ (TJ3 b).2.1 := by decide +kernel
theorem tyJ3_ok : ∀ k, k < 0 → parseFieldDescriptor (TJ3 k).2.2.1 = some (tyJ3 k) := by decide +kernel
abbrev cJ3_checkIndex_8e157 : ByteArray := prog_27_method_11_code
def yJ3_checkIndex_8e157 : MethodName := ⟨RJ3, "checkIndex", "(IILjava/util/function/BiFunction;)I"⟩
def RL : String := "LotBeliefsLaw"
abbrev cL_jar : ByteArray := method_3_code
def yL_jar : MethodName := ⟨RL, "jar", "(LLotBeliefs;I[J)I"⟩
abbrev cL_question : ByteArray := method_4_code
def yL_question : MethodName := ⟨RL, "question", "(LLotBeliefs;I[J)I"⟩
abbrev cL_tongue : ByteArray := method_5_code
def yL_tongue : MethodName := ⟨RL, "tongue", "(LLotBeliefs;I[J)I"⟩
abbrev cL_told : ByteArray := method_6_code
def yL_told : MethodName := ⟨RL, "told", "(LLotBeliefs;I[J)I"⟩
abbrev cL_models : ByteArray := method_7_code
def yL_models : MethodName := ⟨RL, "models", "(LLotBeliefs;I[J)I"⟩
abbrev cL_seen : ByteArray := method_8_code
def yL_seen : MethodName := ⟨RL, "seen", "(LLotBeliefs;I[J)I"⟩
abbrev cL_left : ByteArray := method_9_code
def yL_left : MethodName := ⟨RL, "left", "(LLotBeliefs;I[J)I"⟩
abbrev cL_kin : ByteArray := method_10_code
def yL_kin : MethodName := ⟨RL, "kin", "(LLotBeliefs;II[J)I"⟩
abbrev cL_fallOut : ByteArray := method_11_code
def yL_fallOut : MethodName := ⟨RL, "fallOut", "(LLotBeliefs;III[J)I"⟩
abbrev cL_law : ByteArray := method_12_code
def yL_law : MethodName := ⟨RL, "law", "(LLotBeliefs;I[J)I"⟩
abbrev cL_world : ByteArray := method_13_code
def yL_world : MethodName := ⟨RL, "world", "(LLotBeliefs;I[J)I"⟩
abbrev cL_held : ByteArray := method_14_code
def yL_held : MethodName := ⟨RL, "held", "(LLotBeliefs;I[J)I"⟩
abbrev cL_fate : ByteArray := method_15_code
def yL_fate : MethodName := ⟨RL, "fate", "(LLotBeliefs;II[J)I"⟩
abbrev cL_year : ByteArray := method_16_code
def yL_year : MethodName := ⟨RL, "year", "(LLotBeliefs;I[J)I"⟩
abbrev cL_ends : ByteArray := method_17_code
def yL_ends : MethodName := ⟨RL, "ends", "(LLotBeliefs;I[J)I"⟩
abbrev cL_orders : ByteArray := method_18_code
def yL_orders : MethodName := ⟨RL, "orders", "(LLotBeliefs;I[J)I"⟩
abbrev cL_best : ByteArray := method_19_code
def yL_best : MethodName := ⟨RL, "best", "(LLotBeliefs;[J)I"⟩
abbrev cL_fits : ByteArray := method_20_code
def yL_fits : MethodName := ⟨RL, "fits", "(LLotBeliefs;II[J)I"⟩
abbrev cL_sets : ByteArray := method_21_code
def yL_sets : MethodName := ⟨RL, "sets", "(LLotBeliefs;II[J)I"⟩
abbrev cL_whole : ByteArray := method_22_code
def yL_whole : MethodName := ⟨RL, "whole", "(LLotBeliefs;II[J)I"⟩
abbrev cL_proof : ByteArray := method_23_code
def yL_proof : MethodName := ⟨RL, "proof", "(LLotBeliefs;I[J)I"⟩
abbrev cL_split : ByteArray := method_24_code
def yL_split : MethodName := ⟨RL, "split", "(LLotBeliefs;II[J)I"⟩
abbrev cL_likely : ByteArray := method_25_code
def yL_likely : MethodName := ⟨RL, "likely", "(LLotBeliefs;I[J)I"⟩
abbrev cL_salted : ByteArray := method_26_code
def yL_salted : MethodName := ⟨RL, "salted", "(LLotBeliefs;I[J)I"⟩
abbrev cL_salty : ByteArray := method_27_code
def yL_salty : MethodName := ⟨RL, "salty", "(LLotBeliefs;I[J)I"⟩
abbrev cL_compared : ByteArray := method_28_code
def yL_compared : MethodName := ⟨RL, "compared", "(LLotBeliefs;I[J)I"⟩
abbrev cL_drawn : ByteArray := method_29_code
def yL_drawn : MethodName := ⟨RL, "drawn", "(LLotBeliefs;III[J)I"⟩
abbrev cL_school : ByteArray := method_30_code
def yL_school : MethodName := ⟨RL, "school", "(LLotBeliefs;II[J)I"⟩
abbrev cL_right : ByteArray := method_31_code
def yL_right : MethodName := ⟨RL, "right", "(LLotBeliefs;I[J)I"⟩
abbrev cL_killer : ByteArray := method_32_code
def yL_killer : MethodName := ⟨RL, "killer", "(LLotBeliefs;I[J)I"⟩
abbrev cL_together : ByteArray := method_33_code
def yL_together : MethodName := ⟨RL, "together", "(LLotBeliefs;II[J)I"⟩
abbrev cL_following : ByteArray := method_34_code
def yL_following : MethodName := ⟨RL, "following", "(LLotBeliefs;II[J)I"⟩
abbrev cL_eldest : ByteArray := method_35_code
def yL_eldest : MethodName := ⟨RL, "eldest", "(LLotBeliefs;I[J)I"⟩
abbrev cL_quarrels : ByteArray := method_36_code
def yL_quarrels : MethodName := ⟨RL, "quarrels", "(LLotBeliefs;I[J)I"⟩
abbrev cL_peace : ByteArray := method_37_code
def yL_peace : MethodName := ⟨RL, "peace", "(LLotBeliefs;I[J)I"⟩
abbrev cL_worst : ByteArray := method_38_code
def yL_worst : MethodName := ⟨RL, "worst", "(LLotBeliefs;I[J)I"⟩
abbrev cL_century : ByteArray := method_39_code
def yL_century : MethodName := ⟨RL, "century", "(LLotBeliefs;III[J)I"⟩
abbrev cL_known : ByteArray := method_40_code
def yL_known : MethodName := ⟨RL, "known", "(LLotBeliefs;II[J)I"⟩
abbrev cL_plain : ByteArray := method_41_code
def yL_plain : MethodName := ⟨RL, "plain", "(LLotBeliefs;I[J)I"⟩
abbrev cL_asks : ByteArray := method_42_code
def yL_asks : MethodName := ⟨RL, "asks", "(LLotBeliefs;I[J)I"⟩
abbrev cL_war : ByteArray := method_43_code
def yL_war : MethodName := ⟨RL, "war", "(LLotBeliefs;I[J)I"⟩
abbrev cL_canon : ByteArray := method_44_code
def yL_canon : MethodName := ⟨RL, "canon", "(LLotBeliefs;I[J)I"⟩
abbrev cL_judge : ByteArray := method_45_code
def yL_judge : MethodName := ⟨RL, "judge", "(LLotBeliefs;IIII[J)I"⟩
abbrev cL_law_ : ByteArray := code
def yL_law_ : MethodName := ⟨RL, "law", "([I)Z"⟩
abbrev vwCl : List vw_C := [(RX0, TX0, 12), (RX1, TX1, 14), (RX4, TX4, 3), (RX5, TX5, 5), (RX6, TX6, 4), (RX7, TX7, 8), (RX8, TX8, 10), (RX9, TX9, 5), (RX11, TX11, 17), (RX12, TX12, 62)]
end
section
/-! the small machine: its words, and by program its tables: the methods, their instructions with what their operands name -/
abbrev mjE : Type := Nat × List Value
abbrev mjH : Type := List mjE
abbrev mjL : Type := List (Nat × Value)
abbrev mjX : Type := Instr × Nat × Nat × Nat × Nat
set_option maxRecDepth 100000 in
noncomputable def mjT0 : List (List (Nat × mjX)) := [[(0, .aload_n 0, 1, 0, 0, 0), (1, .invokespecial 3, 3, 998, 4, 260), (4, .aload_n 0, 1, 0, 0, 0), (5, .iconst 0, 1, 0, 0, 0), (6, .putfield 9, 3, 0, 2, 263), (9, .aload_n 0, 1, 0, 0, 0), (10, .iconst 0, 1, 0, 0, 0), (11, .putfield 15, 3, 0, 3, 264), (14, .aload_n 0, 1, 0, 0, 0), (15, .bipush 17, 2, 0, 0, 0), (17, .newarray .int, 2, 0, 0, 194), (19, .putfield 18, 3, 0, 4, 265), (22, .aload_n 0, 1, 0, 0, 0), (23, .bipush 17, 2, 0, 0, 0), (25, .newarray .int, 2, 0, 0, 194), (27, .putfield 22, 3, 0, 5, 267), (30, .aload_n 0, 1, 0, 0, 0), (31, .bipush 17, 2, 0, 0, 0)],
  [(33, .newarray .int, 2, 0, 0, 194), (35, .putfield 25, 3, 0, 6, 269), (38, .aload_n 0, 1, 0, 0, 0), (39, .bipush 17, 2, 0, 0, 0), (41, .newarray .boolean, 2, 3, 0, 304), (43, .putfield 28, 3, 0, 7, 271), (46, .aload_n 0, 1, 0, 0, 0), (47, .iconst 0, 1, 0, 0, 0), (48, .putfield 32, 3, 0, 8, 273), (51, .aload_n 0, 1, 0, 0, 0), (52, .bipush 17, 2, 0, 0, 0), (54, .newarray .int, 2, 0, 0, 194), (56, .putfield 35, 3, 0, 9, 276), (59, .aload_n 0, 1, 0, 0, 0), (60, .iconst 0, 1, 0, 0, 0), (61, .putfield 38, 3, 0, 10, 277)],
  [(64, .aload_n 0, 1, 0, 0, 0), (65, .iconst 0, 1, 0, 0, 0), (66, .putfield 41, 3, 0, 11, 278), (69, .aload_n 0, 1, 0, 0, 0), (70, .aload_n 1, 1, 0, 0, 0), (71, .putfield 44, 3, 0, 0, 261), (74, .aload_n 0, 1, 0, 0, 0), (75, .aload_n 2, 1, 0, 0, 0), (76, .putfield 48, 3, 0, 1, 262), (79, .return_, 1, 0, 0, 0)]]
set_option maxRecDepth 100000 in
noncomputable def mjT1 : List (List (Nat × mjX)) := [[(0, .aload_n 0, 1, 0, 0, 0), (1, .aload_n 1, 1, 0, 0, 0), (2, .putfield 44, 3, 0, 0, 261), (5, .aload_n 0, 1, 0, 0, 0), (6, .aload_n 2, 1, 0, 0, 0), (7, .putfield 48, 3, 0, 1, 262), (10, .aload_n 0, 1, 0, 0, 0), (11, .iload_n 3, 1, 0, 0, 0), (12, .putfield 9, 3, 0, 2, 263), (15, .aload_n 0, 1, 0, 0, 0), (16, .iload 4, 2, 0, 0, 0), (18, .putfield 15, 3, 0, 3, 264), (21, .return_, 1, 0, 0, 0)]]
set_option maxRecDepth 100000 in
noncomputable def mjT2 : List (List (Nat × mjX)) := [[(0, .aload_n 0, 1, 0, 0, 0), (1, .aload_n 1, 1, 0, 0, 0), (2, .iload_n 3, 1, 0, 0, 0), (3, .invokevirtual 52, 3, 3, 0, 493), (6, .iload_n 3, 1, 0, 0, 0), (7, .istore 4, 2, 0, 0, 0), (9, .iload 4, 2, 0, 0, 0), (11, .ifCond .lt 77, 3, 0, 88, 0), (14, .iload 4, 2, 0, 0, 0), (16, .iload_n 2, 1, 0, 0, 0), (17, .if_icmp .ge 71, 3, 0, 88, 0), (20, .iload 4, 2, 0, 0, 0), (22, .aload_n 1, 1, 0, 0, 0), (23, .arraylength, 1, 0, 0, 0), (24, .if_icmp .ge 64, 3, 0, 88, 0), (27, .aload_n 0, 1, 0, 0, 0), (28, .iload 4, 2, 0, 0, 0), (30, .invokevirtual 56, 3, 5, 0, 517)],
  [(33, .aload_n 1, 1, 0, 0, 0), (34, .iload 4, 2, 0, 0, 0), (36, .iaload, 1, 0, 0, 0), (37, .istore 5, 2, 0, 0, 0), (39, .iload 5, 2, 0, 0, 0), (41, .ifCond .lt 41, 3, 0, 82, 0), (44, .iload 5, 2, 0, 0, 0), (46, .aload_n 0, 1, 0, 0, 0), (47, .getfield 18, 3, 0, 4, 265), (50, .arraylength, 1, 0, 0, 0), (51, .if_icmp .ge 31, 3, 0, 82, 0), (54, .aload_n 0, 1, 0, 0, 0), (55, .iload 5, 2, 0, 0, 0), (57, .iload 4, 2, 0, 0, 0), (59, .invokevirtual 60, 3, 6, 0, 525), (62, .ifCond .eq 20, 3, 0, 82, 0)],
  [(65, .aload_n 0, 1, 0, 0, 0), (66, .iload 5, 2, 0, 0, 0), (68, .iload 4, 2, 0, 0, 0), (70, .invokevirtual 64, 3, 7, 0, 529), (73, .ifCond .eq 9, 3, 0, 82, 0), (76, .aload_n 0, 1, 0, 0, 0), (77, .iload 5, 2, 0, 0, 0), (79, .invokevirtual 67, 3, 4, 0, 513), (82, .iinc 4 1, 3, 0, 0, 0), (85, .goto (-76), 3, 0, 9, 0), (88, .aload_n 0, 1, 0, 0, 0), (89, .bipush 51, 2, 0, 0, 0), (91, .invokevirtual 56, 3, 5, 0, 517), (94, .aload_n 0, 1, 0, 0, 0), (95, .aload_n 0, 1, 0, 0, 0)],
  [(96, .getfield 41, 3, 0, 11, 278), (99, .sipush 4095, 3, 0, 0, 0), (102, .iand, 1, 0, 0, 0), (103, .putfield 32, 3, 0, 8, 273), (106, .return_, 1, 0, 0, 0)]]
set_option maxRecDepth 100000 in
noncomputable def mjT3 : List (List (Nat × mjX)) := [[(0, .aload_n 0, 1, 0, 0, 0), (1, .iconst 0, 1, 0, 0, 0), (2, .putfield 38, 3, 0, 10, 277), (5, .aload_n 0, 1, 0, 0, 0), (6, .iconst 0, 1, 0, 0, 0), (7, .putfield 41, 3, 0, 11, 278), (10, .iconst 0, 1, 0, 0, 0), (11, .istore_n 3, 1, 0, 0, 0), (12, .iload_n 3, 1, 0, 0, 0), (13, .aload_n 0, 1, 0, 0, 0), (14, .getfield 18, 3, 0, 4, 265), (17, .arraylength, 1, 0, 0, 0), (18, .if_icmp .ge 26, 3, 0, 44, 0), (21, .aload_n 0, 1, 0, 0, 0), (22, .getfield 18, 3, 0, 4, 265), (25, .iload_n 3, 1, 0, 0, 0), (26, .iaload, 1, 0, 0, 0), (27, .iload_n 2, 1, 0, 0, 0), (28, .if_icmp .lt 10, 3, 0, 38, 0), (31, .aload_n 0, 1, 0, 0, 0)],
  [(32, .getfield 18, 3, 0, 4, 265), (35, .iload_n 3, 1, 0, 0, 0), (36, .iconst (-1), 1, 0, 0, 0), (37, .iastore, 1, 0, 0, 0), (38, .iinc 3 1, 3, 0, 0, 0), (41, .goto (-29), 3, 0, 12, 0), (44, .iconst 0, 1, 0, 0, 0), (45, .istore_n 3, 1, 0, 0, 0), (46, .iload_n 3, 1, 0, 0, 0), (47, .iload_n 2, 1, 0, 0, 0), (48, .if_icmp .ge 52, 3, 0, 100, 0), (51, .iload_n 3, 1, 0, 0, 0), (52, .aload_n 1, 1, 0, 0, 0), (53, .arraylength, 1, 0, 0, 0), (54, .if_icmp .ge 46, 3, 0, 100, 0), (57, .aload_n 1, 1, 0, 0, 0), (58, .iload_n 3, 1, 0, 0, 0), (59, .iaload, 1, 0, 0, 0), (60, .istore 4, 2, 0, 0, 0), (62, .iload 4, 2, 0, 0, 0)],
  [(64, .ifCond .lt 30, 3, 0, 94, 0), (67, .iload 4, 2, 0, 0, 0), (69, .aload_n 0, 1, 0, 0, 0), (70, .getfield 18, 3, 0, 4, 265), (73, .arraylength, 1, 0, 0, 0), (74, .if_icmp .ge 20, 3, 0, 94, 0), (77, .aload_n 0, 1, 0, 0, 0), (78, .getfield 22, 3, 0, 5, 267), (81, .iload 4, 2, 0, 0, 0), (83, .iaload, 1, 0, 0, 0), (84, .iload_n 2, 1, 0, 0, 0), (85, .if_icmp .lt 9, 3, 0, 94, 0), (88, .aload_n 0, 1, 0, 0, 0), (89, .iload 4, 2, 0, 0, 0), (91, .invokevirtual 67, 3, 4, 0, 513), (94, .iinc 3 1, 3, 0, 0, 0)],
  [(97, .goto (-51), 3, 0, 46, 0), (100, .return_, 1, 0, 0, 0)]]
set_option maxRecDepth 100000 in
noncomputable def mjT4 : List (List (Nat × mjX)) := [[(0, .aload_n 0, 1, 0, 0, 0), (1, .getfield 22, 3, 0, 5, 267), (4, .iload_n 1, 1, 0, 0, 0), (5, .bipush 52, 2, 0, 0, 0), (7, .iastore, 1, 0, 0, 0), (8, .aload_n 0, 1, 0, 0, 0), (9, .getfield 25, 3, 0, 6, 269), (12, .iload_n 1, 1, 0, 0, 0), (13, .iconst (-1), 1, 0, 0, 0), (14, .iastore, 1, 0, 0, 0), (15, .aload_n 0, 1, 0, 0, 0), (16, .getfield 28, 3, 0, 7, 271), (19, .iload_n 1, 1, 0, 0, 0), (20, .iconst 0, 1, 0, 0, 0), (21, .bastore, 1, 0, 0, 0), (22, .aload_n 0, 1, 0, 0, 0), (23, .getfield 38, 3, 0, 10, 277), (26, .aload_n 0, 1, 0, 0, 0), (27, .getfield 35, 3, 0, 9, 276), (30, .arraylength, 1, 0, 0, 0), (31, .if_icmp .ge 35, 3, 0, 66, 0)],
  [(34, .aload_n 0, 1, 0, 0, 0), (35, .getfield 35, 3, 0, 9, 276), (38, .aload_n 0, 1, 0, 0, 0), (39, .getfield 38, 3, 0, 10, 277), (42, .iload_n 1, 1, 0, 0, 0), (43, .iastore, 1, 0, 0, 0), (44, .aload_n 0, 1, 0, 0, 0), (45, .dup, 1, 0, 0, 0), (46, .getfield 38, 3, 0, 10, 277), (49, .iconst 1, 1, 0, 0, 0), (50, .iadd, 1, 0, 0, 0), (51, .putfield 38, 3, 0, 10, 277), (54, .aload_n 0, 1, 0, 0, 0), (55, .dup, 1, 0, 0, 0), (56, .getfield 41, 3, 0, 11, 278), (59, .iconst 1, 1, 0, 0, 0), (60, .iload_n 1, 1, 0, 0, 0), (61, .ishl, 1, 0, 0, 0), (62, .ior, 1, 0, 0, 0), (63, .putfield 41, 3, 0, 11, 278)],
  [(66, .return_, 1, 0, 0, 0)]]
set_option maxRecDepth 100000 in
noncomputable def mjT5 : List (List (Nat × mjX)) := [[(0, .aload_n 0, 1, 0, 0, 0), (1, .getfield 41, 3, 0, 11, 278), (4, .aload_n 0, 1, 0, 0, 0), (5, .getfield 44, 3, 0, 0, 261), (8, .getfield 70, 3, 1, 12, 161), (11, .iload_n 1, 1, 0, 0, 0), (12, .iaload, 1, 0, 0, 0), (13, .iand, 1, 0, 0, 0), (14, .ifCond .ne 4, 3, 0, 18, 0), (17, .return_, 1, 0, 0, 0), (18, .iconst 0, 1, 0, 0, 0), (19, .istore_n 2, 1, 0, 0, 0), (20, .iconst 0, 1, 0, 0, 0), (21, .istore_n 3, 1, 0, 0, 0), (22, .iload_n 3, 1, 0, 0, 0), (23, .aload_n 0, 1, 0, 0, 0), (24, .getfield 38, 3, 0, 10, 277), (27, .if_icmp .ge 87, 3, 0, 114, 0), (30, .aload_n 0, 1, 0, 0, 0), (31, .getfield 35, 3, 0, 9, 276)],
  [(34, .iload_n 3, 1, 0, 0, 0), (35, .iaload, 1, 0, 0, 0), (36, .istore 4, 2, 0, 0, 0), (38, .aload_n 0, 1, 0, 0, 0), (39, .getfield 44, 3, 0, 0, 261), (42, .getfield 70, 3, 1, 12, 161), (45, .iload_n 1, 1, 0, 0, 0), (46, .iaload, 1, 0, 0, 0), (47, .iload 4, 2, 0, 0, 0), (49, .ishr, 1, 0, 0, 0), (50, .iconst 1, 1, 0, 0, 0), (51, .iand, 1, 0, 0, 0), (52, .ifCond .eq 45, 3, 0, 97, 0), (55, .aload_n 0, 1, 0, 0, 0), (56, .getfield 22, 3, 0, 5, 267), (59, .iload 4, 2, 0, 0, 0), (61, .aload_n 0, 1, 0, 0, 0), (62, .getfield 44, 3, 0, 0, 261)],
  [(65, .iload 4, 2, 0, 0, 0), (67, .invokevirtual 75, 3, 22, 0, 521), (70, .iastore, 1, 0, 0, 0), (71, .aload_n 0, 1, 0, 0, 0), (72, .getfield 28, 3, 0, 7, 271), (75, .iload 4, 2, 0, 0, 0), (77, .iconst 1, 1, 0, 0, 0), (78, .bastore, 1, 0, 0, 0), (79, .aload_n 0, 1, 0, 0, 0), (80, .dup, 1, 0, 0, 0), (81, .getfield 41, 3, 0, 11, 278), (84, .iconst 1, 1, 0, 0, 0), (85, .iload 4, 2, 0, 0, 0), (87, .ishl, 1, 0, 0, 0), (88, .iconst (-1), 1, 0, 0, 0), (89, .ixor, 1, 0, 0, 0), (90, .iand, 1, 0, 0, 0), (91, .putfield 41, 3, 0, 11, 278), (94, .goto 14, 3, 0, 108, 0)],
  [(97, .aload_n 0, 1, 0, 0, 0), (98, .getfield 35, 3, 0, 9, 276), (101, .iload_n 2, 1, 0, 0, 0), (102, .iload 4, 2, 0, 0, 0), (104, .iastore, 1, 0, 0, 0), (105, .iinc 2 1, 3, 0, 0, 0), (108, .iinc 3 1, 3, 0, 0, 0), (111, .goto (-89), 3, 0, 22, 0), (114, .aload_n 0, 1, 0, 0, 0), (115, .iload_n 2, 1, 0, 0, 0), (116, .putfield 38, 3, 0, 10, 277), (119, .return_, 1, 0, 0, 0)]]
set_option maxRecDepth 100000 in
noncomputable def mjT6 : List (List (Nat × mjX)) := [[(0, .aload_n 0, 1, 0, 0, 0), (1, .getfield 44, 3, 0, 0, 261), (4, .getfield 70, 3, 1, 12, 161), (7, .iload_n 2, 1, 0, 0, 0), (8, .iaload, 1, 0, 0, 0), (9, .iload_n 1, 1, 0, 0, 0), (10, .ishr, 1, 0, 0, 0), (11, .iconst 1, 1, 0, 0, 0), (12, .iand, 1, 0, 0, 0), (13, .ifCond .eq 7, 3, 0, 20, 0), (16, .iconst 1, 1, 0, 0, 0), (17, .goto 4, 3, 0, 21, 0), (20, .iconst 0, 1, 0, 0, 0), (21, .istore_n 3, 1, 0, 0, 0), (22, .aload_n 0, 1, 0, 0, 0), (23, .getfield 18, 3, 0, 4, 265), (26, .iload_n 1, 1, 0, 0, 0), (27, .iload_n 2, 1, 0, 0, 0), (28, .iastore, 1, 0, 0, 0), (29, .aload_n 0, 1, 0, 0, 0), (30, .getfield 22, 3, 0, 5, 267)],
  [(33, .iload_n 1, 1, 0, 0, 0), (34, .iload_n 3, 1, 0, 0, 0), (35, .ifCond .eq 7, 3, 0, 42, 0), (38, .iload_n 2, 1, 0, 0, 0), (39, .goto 5, 3, 0, 44, 0), (42, .bipush 52, 2, 0, 0, 0), (44, .iastore, 1, 0, 0, 0), (45, .aload_n 0, 1, 0, 0, 0), (46, .getfield 25, 3, 0, 6, 269), (49, .iload_n 1, 1, 0, 0, 0), (50, .iconst (-1), 1, 0, 0, 0), (51, .iastore, 1, 0, 0, 0), (52, .aload_n 0, 1, 0, 0, 0), (53, .getfield 28, 3, 0, 7, 271), (56, .iload_n 1, 1, 0, 0, 0), (57, .iload_n 3, 1, 0, 0, 0), (58, .bastore, 1, 0, 0, 0), (59, .iload_n 3, 1, 0, 0, 0), (60, .ifCond .ne 7, 3, 0, 67, 0), (63, .iconst 1, 1, 0, 0, 0)],
  [(64, .goto 4, 3, 0, 68, 0), (67, .iconst 0, 1, 0, 0, 0), (68, .ireturn, 1, 0, 0, 0)]]
set_option maxRecDepth 100000 in
noncomputable def mjT7 : List (List (Nat × mjX)) := [[(0, .aload_n 0, 1, 0, 0, 0), (1, .getfield 41, 3, 0, 11, 278), (4, .aload_n 0, 1, 0, 0, 0), (5, .getfield 44, 3, 0, 0, 261), (8, .iload_n 1, 1, 0, 0, 0), (9, .iload_n 2, 1, 0, 0, 0), (10, .invokevirtual 79, 3, 23, 0, 533), (13, .iand, 1, 0, 0, 0), (14, .istore_n 3, 1, 0, 0, 0), (15, .iload_n 3, 1, 0, 0, 0), (16, .ifCond .ne 7, 3, 0, 23, 0), (19, .iconst 0, 1, 0, 0, 0), (20, .goto 7, 3, 0, 27, 0), (23, .aload_n 0, 1, 0, 0, 0), (24, .getfield 38, 3, 0, 10, 277), (27, .istore 4, 2, 0, 0, 0), (29, .iconst 0, 1, 0, 0, 0), (30, .istore 5, 2, 0, 0, 0)],
  [(32, .iconst 1, 1, 0, 0, 0), (33, .istore 6, 2, 0, 0, 0), (35, .iconst 0, 1, 0, 0, 0), (36, .istore 7, 2, 0, 0, 0), (38, .iload 7, 2, 0, 0, 0), (40, .iload 4, 2, 0, 0, 0), (42, .if_icmp .ge 127, 3, 0, 169, 0), (45, .aload_n 0, 1, 0, 0, 0), (46, .getfield 35, 3, 0, 9, 276), (49, .iload 7, 2, 0, 0, 0), (51, .iaload, 1, 0, 0, 0), (52, .istore 8, 2, 0, 0, 0), (54, .iload 6, 2, 0, 0, 0), (56, .ifCond .eq 23, 3, 0, 79, 0), (59, .iload_n 3, 1, 0, 0, 0), (60, .iload 8, 2, 0, 0, 0), (62, .ishr, 1, 0, 0, 0), (63, .iconst 1, 1, 0, 0, 0)],
  [(64, .iand, 1, 0, 0, 0), (65, .ifCond .eq 14, 3, 0, 79, 0), (68, .aload_n 0, 1, 0, 0, 0), (69, .iload 8, 2, 0, 0, 0), (71, .iload_n 1, 1, 0, 0, 0), (72, .iload_n 2, 1, 0, 0, 0), (73, .invokevirtual 83, 3, 9, 0, 537), (76, .goto 4, 3, 0, 80, 0), (79, .iconst (-1), 1, 0, 0, 0), (80, .istore 9, 2, 0, 0, 0), (82, .iload 9, 2, 0, 0, 0), (84, .ifCond .eq 9, 3, 0, 93, 0), (87, .iload 9, 2, 0, 0, 0), (89, .iconst 1, 1, 0, 0, 0), (90, .if_icmp .ne 14, 3, 0, 104, 0), (93, .aload_n 0, 1, 0, 0, 0), (94, .iload_n 1, 1, 0, 0, 0), (95, .iload 8, 2, 0, 0, 0)],
  [(97, .iload_n 2, 1, 0, 0, 0), (98, .invokevirtual 87, 3, 8, 0, 558), (101, .iconst 0, 1, 0, 0, 0), (102, .istore 6, 2, 0, 0, 0), (104, .iload 9, 2, 0, 0, 0), (106, .ifCond .eq 9, 3, 0, 115, 0), (109, .iload 9, 2, 0, 0, 0), (111, .iconst 2, 1, 0, 0, 0), (112, .if_icmp .ne 39, 3, 0, 151, 0), (115, .aload_n 0, 1, 0, 0, 0), (116, .iload 8, 2, 0, 0, 0), (118, .iload_n 1, 1, 0, 0, 0), (119, .iload_n 2, 1, 0, 0, 0), (120, .invokevirtual 87, 3, 8, 0, 558), (123, .aload_n 0, 1, 0, 0, 0), (124, .dup, 1, 0, 0, 0), (125, .getfield 41, 3, 0, 11, 278)],
  [(128, .iconst 1, 1, 0, 0, 0), (129, .iload 8, 2, 0, 0, 0), (131, .ishl, 1, 0, 0, 0), (132, .iconst (-1), 1, 0, 0, 0), (133, .ixor, 1, 0, 0, 0), (134, .iand, 1, 0, 0, 0), (135, .putfield 41, 3, 0, 11, 278), (138, .aload_n 0, 1, 0, 0, 0), (139, .dup, 1, 0, 0, 0), (140, .getfield 38, 3, 0, 10, 277), (143, .iconst 1, 1, 0, 0, 0), (144, .isub, 1, 0, 0, 0), (145, .putfield 38, 3, 0, 10, 277), (148, .goto 15, 3, 0, 163, 0), (151, .aload_n 0, 1, 0, 0, 0), (152, .getfield 35, 3, 0, 9, 276), (155, .iload 5, 2, 0, 0, 0), (157, .iload 8, 2, 0, 0, 0), (159, .iastore, 1, 0, 0, 0)],
  [(160, .iinc 5 1, 3, 0, 0, 0), (163, .iinc 7 1, 3, 0, 0, 0), (166, .goto (-128), 3, 0, 38, 0), (169, .iload 6, 2, 0, 0, 0), (171, .ireturn, 1, 0, 0, 0)]]
set_option maxRecDepth 100000 in
noncomputable def mjT8 : List (List (Nat × mjX)) := [[(0, .aload_n 0, 1, 0, 0, 0), (1, .getfield 22, 3, 0, 5, 267), (4, .iload_n 1, 1, 0, 0, 0), (5, .iload_n 3, 1, 0, 0, 0), (6, .iastore, 1, 0, 0, 0), (7, .aload_n 0, 1, 0, 0, 0), (8, .getfield 25, 3, 0, 6, 269), (11, .iload_n 1, 1, 0, 0, 0), (12, .iload_n 2, 1, 0, 0, 0), (13, .iastore, 1, 0, 0, 0), (14, .aload_n 0, 1, 0, 0, 0), (15, .getfield 28, 3, 0, 7, 271), (18, .iload_n 1, 1, 0, 0, 0), (19, .iconst 0, 1, 0, 0, 0), (20, .bastore, 1, 0, 0, 0), (21, .return_, 1, 0, 0, 0)]]
set_option maxRecDepth 100000 in
noncomputable def mjT9 : List (List (Nat × mjX)) := [[(0, .aload_n 0, 1, 0, 0, 0), (1, .getfield 9, 3, 0, 2, 263), (4, .tableswitch 65 0 3 #[32, 34, 36, 38], 32, 0, 0, 0)],
  [(36, .iconst 0, 1, 0, 0, 0), (37, .ireturn, 1, 0, 0, 0), (38, .iconst 1, 1, 0, 0, 0), (39, .ireturn, 1, 0, 0, 0), (40, .iconst 2, 1, 0, 0, 0), (41, .ireturn, 1, 0, 0, 0), (42, .aload_n 0, 1, 0, 0, 0), (43, .getfield 44, 3, 0, 0, 261), (46, .getfield 91, 3, 1, 8, 149), (49, .iload_n 1, 1, 0, 0, 0), (50, .iaload, 1, 0, 0, 0), (51, .aload_n 0, 1, 0, 0, 0), (52, .getfield 44, 3, 0, 0, 261), (55, .getfield 91, 3, 1, 8, 149), (58, .iload_n 2, 1, 0, 0, 0), (59, .iaload, 1, 0, 0, 0), (60, .if_icmp .ge 7, 3, 0, 67, 0), (63, .iconst 2, 1, 0, 0, 0)],
  [(64, .goto 4, 3, 0, 68, 0), (67, .iconst 1, 1, 0, 0, 0), (68, .ireturn, 1, 0, 0, 0), (69, .iload_n 3, 1, 0, 0, 0), (70, .aload_n 0, 1, 0, 0, 0), (71, .getfield 18, 3, 0, 4, 265), (74, .iload_n 1, 1, 0, 0, 0), (75, .iaload, 1, 0, 0, 0), (76, .isub, 1, 0, 0, 0), (77, .istore 4, 2, 0, 0, 0), (79, .aload_n 0, 1, 0, 0, 0), (80, .getfield 44, 3, 0, 0, 261), (83, .iload_n 1, 1, 0, 0, 0), (84, .aload_n 0, 1, 0, 0, 0), (85, .getfield 15, 3, 0, 3, 264), (88, .invokevirtual 94, 3, 25, 0, 541), (91, .ifCond .eq 7, 3, 0, 98, 0), (94, .iconst 0, 1, 0, 0, 0), (95, .goto 5, 3, 0, 100, 0)],
  [(98, .iload 4, 2, 0, 0, 0), (100, .istore 5, 2, 0, 0, 0), (102, .aload_n 0, 1, 0, 0, 0), (103, .getfield 48, 3, 0, 1, 262), (106, .aload_n 0, 1, 0, 0, 0), (107, .getfield 44, 3, 0, 0, 261), (110, .iload_n 1, 1, 0, 0, 0), (111, .iload_n 2, 1, 0, 0, 0), (112, .iload 4, 2, 0, 0, 0), (114, .iload 5, 2, 0, 0, 0), (116, .iload_n 3, 1, 0, 0, 0), (117, .aload_n 0, 1, 0, 0, 0), (118, .getfield 38, 3, 0, 10, 277), (121, .invokevirtual 97, 3, 98, 0, 542), (124, .aload_n 0, 1, 0, 0, 0), (125, .getfield 48, 3, 0, 1, 262)],
  [(128, .invokevirtual 103, 3, 99, 0, 547), (131, .ireturn, 1, 0, 0, 0)]]
set_option maxRecDepth 100000 in
noncomputable def mjT10 : List (List (Nat × mjX)) := [[(0, .aload_n 0, 1, 0, 0, 0), (1, .getfield 18, 3, 0, 4, 265), (4, .iload_n 1, 1, 0, 0, 0), (5, .iaload, 1, 0, 0, 0), (6, .iconst (-1), 1, 0, 0, 0), (7, .if_icmp .ne 7, 3, 0, 14, 0), (10, .iconst 0, 1, 0, 0, 0), (11, .goto 16, 3, 0, 27, 0), (14, .aload_n 0, 1, 0, 0, 0), (15, .getfield 22, 3, 0, 5, 267), (18, .iload_n 1, 1, 0, 0, 0), (19, .iaload, 1, 0, 0, 0), (20, .aload_n 0, 1, 0, 0, 0), (21, .getfield 18, 3, 0, 4, 265), (24, .iload_n 1, 1, 0, 0, 0), (25, .iaload, 1, 0, 0, 0), (26, .isub, 1, 0, 0, 0), (27, .ireturn, 1, 0, 0, 0)]]
set_option maxRecDepth 100000 in
noncomputable def mjT11 : List (List (Nat × mjX)) := [[(0, .aload_n 0, 1, 0, 0, 0), (1, .getfield 44, 3, 0, 0, 261), (4, .iload_n 1, 1, 0, 0, 0), (5, .aload_n 0, 1, 0, 0, 0), (6, .getfield 15, 3, 0, 3, 264), (9, .invokevirtual 94, 3, 25, 0, 541), (12, .ifCond .eq 7, 3, 0, 19, 0), (15, .iconst 0, 1, 0, 0, 0), (16, .goto 8, 3, 0, 24, 0), (19, .aload_n 0, 1, 0, 0, 0), (20, .iload_n 1, 1, 0, 0, 0), (21, .invokevirtual 106, 3, 10, 0, 1141), (24, .ireturn, 1, 0, 0, 0)]]
set_option maxRecDepth 100000 in
noncomputable def mjT12 : List (List (Nat × mjX)) := [[(0, .iconst 0, 1, 0, 0, 0), (1, .istore_n 1, 1, 0, 0, 0), (2, .iconst 0, 1, 0, 0, 0), (3, .istore_n 2, 1, 0, 0, 0), (4, .iload_n 2, 1, 0, 0, 0), (5, .aload_n 0, 1, 0, 0, 0), (6, .getfield 44, 3, 0, 0, 261), (9, .getfield 109, 3, 1, 2, 129), (12, .if_icmp .ge 17, 3, 0, 29, 0), (15, .iload_n 1, 1, 0, 0, 0), (16, .aload_n 0, 1, 0, 0, 0), (17, .iload_n 2, 1, 0, 0, 0), (18, .invokevirtual 112, 3, 11, 0, 1157), (21, .iadd, 1, 0, 0, 0), (22, .istore_n 1, 1, 0, 0, 0), (23, .iinc 2 1, 3, 0, 0, 0), (26, .goto (-22), 3, 0, 4, 0), (29, .iload_n 1, 1, 0, 0, 0), (30, .ireturn, 1, 0, 0, 0)]]
set_option maxRecDepth 100000 in
noncomputable def mjT13 : List (List (Nat × mjX)) := [[(0, .iconst 0, 1, 0, 0, 0), (1, .istore_n 2, 1, 0, 0, 0), (2, .iconst 0, 1, 0, 0, 0), (3, .istore_n 3, 1, 0, 0, 0), (4, .iload_n 3, 1, 0, 0, 0), (5, .aload_n 0, 1, 0, 0, 0), (6, .getfield 44, 3, 0, 0, 261), (9, .getfield 109, 3, 1, 2, 129), (12, .if_icmp .ge 43, 3, 0, 55, 0), (15, .aload_n 0, 1, 0, 0, 0), (16, .getfield 18, 3, 0, 4, 265), (19, .iload_n 3, 1, 0, 0, 0), (20, .iaload, 1, 0, 0, 0), (21, .iconst (-1), 1, 0, 0, 0), (22, .if_icmp .eq 27, 3, 0, 49, 0), (25, .aload_n 0, 1, 0, 0, 0), (26, .getfield 22, 3, 0, 5, 267), (29, .iload_n 3, 1, 0, 0, 0), (30, .iaload, 1, 0, 0, 0), (31, .bipush 52, 2, 0, 0, 0)],
  [(33, .if_icmp .ge 16, 3, 0, 49, 0), (36, .aload_n 0, 1, 0, 0, 0), (37, .getfield 28, 3, 0, 7, 271), (40, .iload_n 3, 1, 0, 0, 0), (41, .baload, 1, 0, 0, 0), (42, .iload_n 1, 1, 0, 0, 0), (43, .if_icmp .ne 6, 3, 0, 49, 0), (46, .iinc 2 1, 3, 0, 0, 0), (49, .iinc 3 1, 3, 0, 0, 0), (52, .goto (-48), 3, 0, 4, 0), (55, .iload_n 2, 1, 0, 0, 0), (56, .ireturn, 1, 0, 0, 0)]]
set_option maxRecDepth 100000 in
noncomputable def mjT14 : List (List (Nat × mjX)) := [[(0, .iconst 0, 1, 0, 0, 0), (1, .istore_n 2, 1, 0, 0, 0), (2, .iconst 0, 1, 0, 0, 0), (3, .istore_n 3, 1, 0, 0, 0), (4, .iload_n 3, 1, 0, 0, 0), (5, .aload_n 0, 1, 0, 0, 0), (6, .getfield 44, 3, 0, 0, 261), (9, .getfield 109, 3, 1, 2, 129), (12, .if_icmp .ge 45, 3, 0, 57, 0), (15, .aload_n 0, 1, 0, 0, 0), (16, .getfield 18, 3, 0, 4, 265), (19, .iload_n 3, 1, 0, 0, 0), (20, .iaload, 1, 0, 0, 0), (21, .iconst (-1), 1, 0, 0, 0), (22, .if_icmp .eq 29, 3, 0, 51, 0), (25, .aload_n 0, 1, 0, 0, 0), (26, .getfield 18, 3, 0, 4, 265), (29, .iload_n 3, 1, 0, 0, 0), (30, .iaload, 1, 0, 0, 0), (31, .iload_n 1, 1, 0, 0, 0)],
  [(32, .if_icmp .gt 19, 3, 0, 51, 0), (35, .iload_n 1, 1, 0, 0, 0), (36, .aload_n 0, 1, 0, 0, 0), (37, .getfield 22, 3, 0, 5, 267), (40, .iload_n 3, 1, 0, 0, 0), (41, .iaload, 1, 0, 0, 0), (42, .if_icmp .ge 9, 3, 0, 51, 0), (45, .iload_n 2, 1, 0, 0, 0), (46, .iconst 1, 1, 0, 0, 0), (47, .iload_n 3, 1, 0, 0, 0), (48, .ishl, 1, 0, 0, 0), (49, .ior, 1, 0, 0, 0), (50, .istore_n 2, 1, 0, 0, 0), (51, .iinc 3 1, 3, 0, 0, 0), (54, .goto (-50), 3, 0, 4, 0), (57, .iload_n 2, 1, 0, 0, 0), (58, .ireturn, 1, 0, 0, 0)]]
set_option maxRecDepth 100000 in
noncomputable def mjT15 : List (List (Nat × mjX)) := [[(0, .aload_n 0, 1, 0, 0, 0), (1, .invokespecial 3, 3, 998, 4, 81), (4, .aload_n 0, 1, 0, 0, 0), (5, .bipush 17, 2, 0, 0, 0), (7, .newarray .long, 2, 1, 0, 193), (9, .putfield 9, 3, 1, 7, 142), (12, .aload_n 0, 1, 0, 0, 0), (13, .bipush 17, 2, 0, 0, 0), (15, .newarray .int, 2, 0, 0, 194), (17, .putfield 15, 3, 1, 8, 147), (20, .aload_n 0, 1, 0, 0, 0), (21, .bipush 12, 2, 0, 0, 0), (23, .newarray .long, 2, 1, 0, 193), (25, .putfield 19, 3, 1, 9, 150), (28, .aload_n 0, 1, 0, 0, 0), (29, .bipush 12, 2, 0, 0, 0), (31, .newarray .int, 2, 0, 0, 194)],
  [(33, .putfield 22, 3, 1, 10, 153), (36, .aload_n 0, 1, 0, 0, 0), (37, .bipush 52, 2, 0, 0, 0), (39, .newarray .long, 2, 1, 0, 193), (41, .putfield 25, 3, 1, 11, 156), (44, .aload_n 0, 1, 0, 0, 0), (45, .bipush 52, 2, 0, 0, 0), (47, .newarray .int, 2, 0, 0, 194), (49, .putfield 28, 3, 1, 12, 160), (52, .aload_n 0, 1, 0, 0, 0), (53, .sipush 289, 3, 0, 0, 0), (56, .newarray .int, 2, 0, 0, 194), (58, .putfield 31, 3, 1, 13, 163), (61, .aload_n 0, 1, 0, 0, 0), (62, .invokevirtual 34, 3, 16, 0, 82)],
  [(65, .aload_n 0, 1, 0, 0, 0), (66, .invokevirtual 37, 3, 18, 0, 91), (69, .return_, 1, 0, 0, 0)]]
set_option maxRecDepth 100000 in
noncomputable def mjT16 : List (List (Nat × mjX)) := [[(0, .aload_n 0, 1, 0, 0, 0), (1, .iconst 4, 1, 0, 0, 0), (2, .invokevirtual 40, 3, 17, 0, 86), (5, .iconst 0, 1, 0, 0, 0), (6, .istore_n 1, 1, 0, 0, 0), (7, .iload_n 1, 1, 0, 0, 0), (8, .bipush 17, 2, 0, 0, 0), (10, .if_icmp .ge 16, 3, 0, 26, 0), (13, .aload_n 0, 1, 0, 0, 0), (14, .getfield 9, 3, 1, 7, 142), (17, .iload_n 1, 1, 0, 0, 0), (18, .lconst 0, 1, 0, 0, 0), (19, .lastore, 1, 0, 0, 0), (20, .iinc 1 1, 3, 0, 0, 0), (23, .goto (-16), 3, 0, 7, 0), (26, .aload_n 0, 1, 0, 0, 0), (27, .iconst 0, 1, 0, 0, 0), (28, .putfield 44, 3, 1, 2, 125), (31, .aload_n 0, 1, 0, 0, 0)],
  [(32, .iconst 0, 1, 0, 0, 0), (33, .putfield 48, 3, 1, 3, 130), (36, .aload_n 0, 1, 0, 0, 0), (37, .iconst 0, 1, 0, 0, 0), (38, .putfield 51, 3, 1, 4, 133), (41, .aload_n 0, 1, 0, 0, 0), (42, .iconst 0, 1, 0, 0, 0), (43, .putfield 54, 3, 1, 5, 137), (46, .aload_n 0, 1, 0, 0, 0), (47, .iconst 0, 1, 0, 0, 0), (48, .putfield 57, 3, 1, 6, 140), (51, .return_, 1, 0, 0, 0)]]
set_option maxRecDepth 100000 in
noncomputable def mjT17 : List (List (Nat × mjX)) := [[(0, .aload_n 0, 1, 0, 0, 0), (1, .iload_n 1, 1, 0, 0, 0), (2, .putfield 60, 3, 1, 0, 117), (5, .aload_n 0, 1, 0, 0, 0), (6, .iload_n 1, 1, 0, 0, 0), (7, .bipush 6, 2, 0, 0, 0), (9, .if_icmp .lt 9, 3, 0, 18, 0), (12, .ldc2_w 63, 3, 18446744073709551615, 0, 90), (15, .goto 10, 3, 0, 25, 0), (18, .lconst 1, 1, 0, 0, 0), (19, .iconst 1, 1, 0, 0, 0), (20, .iload_n 1, 1, 0, 0, 0), (21, .ishl, 1, 0, 0, 0), (22, .lshl, 1, 0, 0, 0), (23, .lconst 1, 1, 0, 0, 0), (24, .lsub, 1, 0, 0, 0), (25, .putfield 65, 3, 1, 1, 122), (28, .return_, 1, 0, 0, 0)]]
set_option maxRecDepth 100000 in
noncomputable def mjT18 : List (List (Nat × mjX)) := [[(0, .iconst 0, 1, 0, 0, 0), (1, .istore_n 1, 1, 0, 0, 0), (2, .iload_n 1, 1, 0, 0, 0), (3, .bipush 17, 2, 0, 0, 0), (5, .if_icmp .ge 24, 3, 0, 29, 0), (8, .aload_n 0, 1, 0, 0, 0), (9, .getfield 15, 3, 1, 8, 147), (12, .iload_n 1, 1, 0, 0, 0), (13, .aload_n 0, 1, 0, 0, 0), (14, .getfield 9, 3, 1, 7, 142), (17, .iload_n 1, 1, 0, 0, 0), (18, .laload, 1, 0, 0, 0), (19, .invokestatic 69, 3, 329, 1, 95), (22, .iastore, 1, 0, 0, 0), (23, .iinc 1 1, 3, 0, 0, 0), (26, .goto (-24), 3, 0, 2, 0), (29, .iconst 0, 1, 0, 0, 0), (30, .istore_n 1, 1, 0, 0, 0), (31, .iload_n 1, 1, 0, 0, 0)],
  [(32, .bipush 52, 2, 0, 0, 0), (34, .if_icmp .ge 132, 3, 0, 166, 0), (37, .aload_n 0, 1, 0, 0, 0), (38, .getfield 25, 3, 1, 11, 156), (41, .iload_n 1, 1, 0, 0, 0), (42, .aload_n 0, 1, 0, 0, 0), (43, .iload_n 1, 1, 0, 0, 0), (44, .invokevirtual 75, 3, 19, 0, 101), (47, .lastore, 1, 0, 0, 0), (48, .iload_n 1, 1, 0, 0, 0), (49, .ifCond .eq 21, 3, 0, 70, 0), (52, .aload_n 0, 1, 0, 0, 0), (53, .getfield 25, 3, 1, 11, 156), (56, .iload_n 1, 1, 0, 0, 0), (57, .laload, 1, 0, 0, 0), (58, .aload_n 0, 1, 0, 0, 0), (59, .getfield 25, 3, 1, 11, 156), (62, .iload_n 1, 1, 0, 0, 0), (63, .iconst 1, 1, 0, 0, 0)],
  [(64, .isub, 1, 0, 0, 0), (65, .laload, 1, 0, 0, 0), (66, .lcmp, 1, 0, 0, 0), (67, .ifCond .eq 7, 3, 0, 74, 0), (70, .iconst 1, 1, 0, 0, 0), (71, .goto 4, 3, 0, 75, 0), (74, .iconst 0, 1, 0, 0, 0), (75, .istore_n 2, 1, 0, 0, 0), (76, .aload_n 0, 1, 0, 0, 0), (77, .getfield 28, 3, 1, 12, 160), (80, .iload_n 1, 1, 0, 0, 0), (81, .iload_n 2, 1, 0, 0, 0), (82, .ifCond .eq 11, 3, 0, 93, 0), (85, .aload_n 0, 1, 0, 0, 0), (86, .iload_n 1, 1, 0, 0, 0), (87, .invokevirtual 79, 3, 20, 0, 105), (90, .goto 11, 3, 0, 101, 0), (93, .aload_n 0, 1, 0, 0, 0), (94, .getfield 28, 3, 1, 12, 160)],
  [(97, .iload_n 1, 1, 0, 0, 0), (98, .iconst 1, 1, 0, 0, 0), (99, .isub, 1, 0, 0, 0), (100, .iaload, 1, 0, 0, 0), (101, .iastore, 1, 0, 0, 0), (102, .iconst 0, 1, 0, 0, 0), (103, .istore_n 3, 1, 0, 0, 0), (104, .iload_n 3, 1, 0, 0, 0), (105, .bipush 17, 2, 0, 0, 0), (107, .if_icmp .ge 53, 3, 0, 160, 0), (110, .iload_n 1, 1, 0, 0, 0), (111, .bipush 17, 2, 0, 0, 0), (113, .if_icmp .ge 47, 3, 0, 160, 0), (116, .iload_n 1, 1, 0, 0, 0), (117, .bipush 17, 2, 0, 0, 0), (119, .imul, 1, 0, 0, 0), (120, .iload_n 3, 1, 0, 0, 0), (121, .iadd, 1, 0, 0, 0), (122, .istore 4, 2, 0, 0, 0), (124, .aload_n 0, 1, 0, 0, 0), (125, .getfield 31, 3, 1, 13, 163)],
  [(128, .iload 4, 2, 0, 0, 0), (130, .iload_n 2, 1, 0, 0, 0), (131, .ifCond .eq 12, 3, 0, 143, 0), (134, .aload_n 0, 1, 0, 0, 0), (135, .iload_n 3, 1, 0, 0, 0), (136, .iload_n 1, 1, 0, 0, 0), (137, .invokevirtual 83, 3, 21, 0, 109), (140, .goto 13, 3, 0, 153, 0), (143, .aload_n 0, 1, 0, 0, 0), (144, .getfield 31, 3, 1, 13, 163), (147, .iload 4, 2, 0, 0, 0), (149, .bipush 17, 2, 0, 0, 0), (151, .isub, 1, 0, 0, 0), (152, .iaload, 1, 0, 0, 0), (153, .iastore, 1, 0, 0, 0), (154, .iinc 3 1, 3, 0, 0, 0), (157, .goto (-53), 3, 0, 104, 0)],
  [(160, .iinc 1 1, 3, 0, 0, 0), (163, .goto (-132), 3, 0, 31, 0), (166, .return_, 1, 0, 0, 0)]]
set_option maxRecDepth 100000 in
noncomputable def mjT19 : List (List (Nat × mjX)) := [[(0, .aload_n 0, 1, 0, 0, 0), (1, .getfield 65, 3, 1, 1, 122), (4, .lstore_n 2, 1, 0, 0, 0), (5, .iconst 0, 1, 0, 0, 0), (6, .istore 4, 2, 0, 0, 0), (8, .iload 4, 2, 0, 0, 0), (10, .aload_n 0, 1, 0, 0, 0), (11, .getfield 48, 3, 1, 3, 130), (14, .if_icmp .ge 30, 3, 0, 44, 0), (17, .aload_n 0, 1, 0, 0, 0), (18, .getfield 22, 3, 1, 10, 153), (21, .iload 4, 2, 0, 0, 0), (23, .iaload, 1, 0, 0, 0), (24, .iload_n 1, 1, 0, 0, 0), (25, .if_icmp .gt 13, 3, 0, 38, 0), (28, .lload_n 2, 1, 0, 0, 0), (29, .aload_n 0, 1, 0, 0, 0), (30, .getfield 19, 3, 1, 9, 150)],
  [(33, .iload 4, 2, 0, 0, 0), (35, .laload, 1, 0, 0, 0), (36, .land, 1, 0, 0, 0), (37, .lstore_n 2, 1, 0, 0, 0), (38, .iinc 4 1, 3, 0, 0, 0), (41, .goto (-33), 3, 0, 8, 0), (44, .lload_n 2, 1, 0, 0, 0), (45, .lreturn, 1, 0, 0, 0)]]
set_option maxRecDepth 100000 in
noncomputable def mjT20 : List (List (Nat × mjX)) := [[(0, .iconst 0, 1, 0, 0, 0), (1, .istore_n 2, 1, 0, 0, 0), (2, .iconst 0, 1, 0, 0, 0), (3, .istore_n 3, 1, 0, 0, 0), (4, .iload_n 3, 1, 0, 0, 0), (5, .bipush 17, 2, 0, 0, 0), (7, .if_icmp .ge 33, 3, 0, 40, 0), (10, .aload_n 0, 1, 0, 0, 0), (11, .getfield 9, 3, 1, 7, 142), (14, .iload_n 3, 1, 0, 0, 0), (15, .laload, 1, 0, 0, 0), (16, .aload_n 0, 1, 0, 0, 0), (17, .getfield 25, 3, 1, 11, 156), (20, .iload_n 1, 1, 0, 0, 0), (21, .laload, 1, 0, 0, 0), (22, .land, 1, 0, 0, 0), (23, .lconst 0, 1, 0, 0, 0), (24, .lcmp, 1, 0, 0, 0), (25, .ifCond .ne 9, 3, 0, 34, 0), (28, .iload_n 2, 1, 0, 0, 0), (29, .iconst 1, 1, 0, 0, 0), (30, .iload_n 3, 1, 0, 0, 0), (31, .ishl, 1, 0, 0, 0)],
  [(32, .ior, 1, 0, 0, 0), (33, .istore_n 2, 1, 0, 0, 0), (34, .iinc 3 1, 3, 0, 0, 0), (37, .goto (-33), 3, 0, 4, 0), (40, .iload_n 2, 1, 0, 0, 0), (41, .ireturn, 1, 0, 0, 0)]]
set_option maxRecDepth 100000 in
noncomputable def mjT21 : List (List (Nat × mjX)) := [[(0, .iconst 0, 1, 0, 0, 0), (1, .istore_n 3, 1, 0, 0, 0), (2, .iconst 0, 1, 0, 0, 0), (3, .istore 4, 2, 0, 0, 0), (5, .iload 4, 2, 0, 0, 0), (7, .bipush 17, 2, 0, 0, 0), (9, .if_icmp .ge 27, 3, 0, 36, 0), (12, .aload_n 0, 1, 0, 0, 0), (13, .iload_n 1, 1, 0, 0, 0), (14, .iload 4, 2, 0, 0, 0), (16, .iload_n 2, 1, 0, 0, 0), (17, .invokevirtual 87, 3, 27, 0, 113), (20, .ifCond .eq 10, 3, 0, 30, 0), (23, .iload_n 3, 1, 0, 0, 0), (24, .iconst 1, 1, 0, 0, 0), (25, .iload 4, 2, 0, 0, 0), (27, .ishl, 1, 0, 0, 0), (28, .ior, 1, 0, 0, 0), (29, .istore_n 3, 1, 0, 0, 0), (30, .iinc 4 1, 3, 0, 0, 0)],
  [(33, .goto (-28), 3, 0, 5, 0), (36, .iload_n 3, 1, 0, 0, 0), (37, .ireturn, 1, 0, 0, 0)]]
set_option maxRecDepth 100000 in
noncomputable def mjT22 : List (List (Nat × mjX)) := [[(0, .iconst 0, 1, 0, 0, 0), (1, .istore_n 2, 1, 0, 0, 0), (2, .iload_n 2, 1, 0, 0, 0), (3, .bipush 52, 2, 0, 0, 0), (5, .if_icmp .ge 24, 3, 0, 29, 0), (8, .aload_n 0, 1, 0, 0, 0), (9, .getfield 28, 3, 1, 12, 160), (12, .iload_n 2, 1, 0, 0, 0), (13, .iaload, 1, 0, 0, 0), (14, .iload_n 1, 1, 0, 0, 0), (15, .ishr, 1, 0, 0, 0), (16, .iconst 1, 1, 0, 0, 0), (17, .iand, 1, 0, 0, 0), (18, .ifCond .eq 5, 3, 0, 23, 0), (21, .iload_n 2, 1, 0, 0, 0), (22, .ireturn, 1, 0, 0, 0), (23, .iinc 2 1, 3, 0, 0, 0), (26, .goto (-24), 3, 0, 2, 0), (29, .bipush 52, 2, 0, 0, 0), (31, .ireturn, 1, 0, 0, 0)]]
set_option maxRecDepth 100000 in
noncomputable def mjT23 : List (List (Nat × mjX)) := [[(0, .iload_n 2, 1, 0, 0, 0), (1, .bipush 17, 2, 0, 0, 0), (3, .imul, 1, 0, 0, 0), (4, .iload_n 1, 1, 0, 0, 0), (5, .iadd, 1, 0, 0, 0), (6, .istore_n 3, 1, 0, 0, 0), (7, .iload_n 3, 1, 0, 0, 0), (8, .ifCond .lt 12, 3, 0, 20, 0), (11, .iload_n 3, 1, 0, 0, 0), (12, .aload_n 0, 1, 0, 0, 0), (13, .getfield 31, 3, 1, 13, 163), (16, .arraylength, 1, 0, 0, 0), (17, .if_icmp .lt 7, 3, 0, 24, 0), (20, .iconst 0, 1, 0, 0, 0), (21, .goto 9, 3, 0, 30, 0), (24, .aload_n 0, 1, 0, 0, 0), (25, .getfield 31, 3, 1, 13, 163), (28, .iload_n 3, 1, 0, 0, 0), (29, .iaload, 1, 0, 0, 0), (30, .ireturn, 1, 0, 0, 0)]]
set_option maxRecDepth 100000 in
noncomputable def mjT24 : List (List (Nat × mjX)) := [[(0, .iload_n 0, 1, 0, 0, 0), (1, .tableswitch 55 0 4 #[35, 39, 43, 47, 51], 35, 0, 0, 0)],
  [(36, .ldc2_w 91, 3, 12297829382473034410, 0, 882), (39, .lreturn, 1, 0, 0, 0), (40, .ldc2_w 93, 3, 14757395258967641292, 0, 883), (43, .lreturn, 1, 0, 0, 0), (44, .ldc2_w 95, 3, 17361641481138401520, 0, 884), (47, .lreturn, 1, 0, 0, 0), (48, .ldc2_w 97, 3, 18374966859414961920, 0, 885), (51, .lreturn, 1, 0, 0, 0), (52, .ldc2_w 99, 3, 18446462603027742720, 0, 886), (55, .lreturn, 1, 0, 0, 0), (56, .ldc2_w 101, 3, 18446744069414584320, 0, 887), (59, .lreturn, 1, 0, 0, 0)]]
set_option maxRecDepth 100000 in
noncomputable def mjT25 : List (List (Nat × mjX)) := [[(0, .aload_n 0, 1, 0, 0, 0), (1, .getfield 9, 3, 1, 7, 142), (4, .iload_n 1, 1, 0, 0, 0), (5, .laload, 1, 0, 0, 0), (6, .iload_n 2, 1, 0, 0, 0), (7, .lushr, 1, 0, 0, 0), (8, .lconst 1, 1, 0, 0, 0), (9, .land, 1, 0, 0, 0), (10, .lconst 0, 1, 0, 0, 0), (11, .lcmp, 1, 0, 0, 0), (12, .ifCond .eq 7, 3, 0, 19, 0), (15, .iconst 1, 1, 0, 0, 0), (16, .goto 4, 3, 0, 20, 0), (19, .iconst 0, 1, 0, 0, 0), (20, .ireturn, 1, 0, 0, 0)]]
set_option maxRecDepth 100000 in
noncomputable def mjT26 : List (List (Nat × mjX)) := [[(0, .iconst 0, 1, 0, 0, 0), (1, .istore_n 2, 1, 0, 0, 0), (2, .iconst 0, 1, 0, 0, 0), (3, .istore_n 3, 1, 0, 0, 0), (4, .iload_n 3, 1, 0, 0, 0), (5, .aload_n 0, 1, 0, 0, 0), (6, .getfield 44, 3, 1, 2, 125), (9, .if_icmp .ge 24, 3, 0, 33, 0), (12, .aload_n 0, 1, 0, 0, 0), (13, .iload_n 3, 1, 0, 0, 0), (14, .iload_n 1, 1, 0, 0, 0), (15, .invokevirtual 103, 3, 25, 0, 453), (18, .ifCond .eq 9, 3, 0, 27, 0), (21, .iload_n 2, 1, 0, 0, 0), (22, .iconst 1, 1, 0, 0, 0), (23, .iload_n 3, 1, 0, 0, 0), (24, .ishl, 1, 0, 0, 0), (25, .ior, 1, 0, 0, 0), (26, .istore_n 2, 1, 0, 0, 0), (27, .iinc 3 1, 3, 0, 0, 0), (30, .goto (-26), 3, 0, 4, 0)],
  [(33, .iload_n 2, 1, 0, 0, 0), (34, .ireturn, 1, 0, 0, 0)]]
set_option maxRecDepth 100000 in
noncomputable def mjT27 : List (List (Nat × mjX)) := [[(0, .aload_n 0, 1, 0, 0, 0), (1, .getfield 9, 3, 1, 7, 142), (4, .iload_n 1, 1, 0, 0, 0), (5, .laload, 1, 0, 0, 0), (6, .aload_n 0, 1, 0, 0, 0), (7, .getfield 9, 3, 1, 7, 142), (10, .iload_n 2, 1, 0, 0, 0), (11, .laload, 1, 0, 0, 0), (12, .land, 1, 0, 0, 0), (13, .aload_n 0, 1, 0, 0, 0), (14, .getfield 25, 3, 1, 11, 156), (17, .iload_n 3, 1, 0, 0, 0), (18, .laload, 1, 0, 0, 0), (19, .land, 1, 0, 0, 0), (20, .lconst 0, 1, 0, 0, 0), (21, .lcmp, 1, 0, 0, 0), (22, .ifCond .ne 7, 3, 0, 29, 0), (25, .iconst 1, 1, 0, 0, 0), (26, .goto 4, 3, 0, 30, 0), (29, .iconst 0, 1, 0, 0, 0), (30, .ireturn, 1, 0, 0, 0)]]
set_option maxRecDepth 100000 in
noncomputable def mjT28 : List (List (Nat × mjX)) := [[(0, .aload_n 0, 1, 0, 0, 0), (1, .getfield 25, 3, 1, 11, 156), (4, .iload_n 2, 1, 0, 0, 0), (5, .laload, 1, 0, 0, 0), (6, .lstore_n 3, 1, 0, 0, 0), (7, .iconst 0, 1, 0, 0, 0), (8, .istore 5, 2, 0, 0, 0), (10, .iload 5, 2, 0, 0, 0), (12, .aload_n 0, 1, 0, 0, 0), (13, .getfield 44, 3, 1, 2, 125), (16, .if_icmp .ge 28, 3, 0, 44, 0), (19, .iload_n 1, 1, 0, 0, 0), (20, .iload 5, 2, 0, 0, 0), (22, .ishr, 1, 0, 0, 0), (23, .iconst 1, 1, 0, 0, 0), (24, .iand, 1, 0, 0, 0), (25, .ifCond .eq 13, 3, 0, 38, 0), (28, .lload_n 3, 1, 0, 0, 0), (29, .aload_n 0, 1, 0, 0, 0), (30, .getfield 9, 3, 1, 7, 142)],
  [(33, .iload 5, 2, 0, 0, 0), (35, .laload, 1, 0, 0, 0), (36, .land, 1, 0, 0, 0), (37, .lstore_n 3, 1, 0, 0, 0), (38, .iinc 5 1, 3, 0, 0, 0), (41, .goto (-31), 3, 0, 10, 0), (44, .lload_n 3, 1, 0, 0, 0), (45, .lreturn, 1, 0, 0, 0)]]
set_option maxRecDepth 100000 in
noncomputable def mjT29 : List (List (Nat × mjX)) := [[(0, .iload_n 1, 1, 0, 0, 0), (1, .invokestatic 107, 3, 24, 1, 1355), (4, .lstore_n 3, 1, 0, 0, 0), (5, .aload_n 0, 1, 0, 0, 0), (6, .getfield 25, 3, 1, 11, 156), (9, .iload_n 2, 1, 0, 0, 0), (10, .laload, 1, 0, 0, 0), (11, .lload_n 3, 1, 0, 0, 0), (12, .land, 1, 0, 0, 0), (13, .invokestatic 69, 3, 329, 1, 95), (16, .aload_n 0, 1, 0, 0, 0), (17, .getfield 25, 3, 1, 11, 156), (20, .iload_n 2, 1, 0, 0, 0), (21, .laload, 1, 0, 0, 0), (22, .lload_n 3, 1, 0, 0, 0), (23, .ldc2_w 63, 3, 18446744073709551615, 0, 90), (26, .lxor, 1, 0, 0, 0), (27, .land, 1, 0, 0, 0), (28, .invokestatic 69, 3, 329, 1, 95), (31, .invokestatic 110, 3, 330, 1, 1356)],
  [(34, .ireturn, 1, 0, 0, 0)]]
set_option maxRecDepth 100000 in
noncomputable def mjT30 : List (List (Nat × mjX)) := [[(0, .aload_n 0, 1, 0, 0, 0), (1, .getfield 25, 3, 1, 11, 156), (4, .iload_n 3, 1, 0, 0, 0), (5, .laload, 1, 0, 0, 0), (6, .lstore 4, 2, 0, 0, 0), (8, .iconst 0, 1, 0, 0, 0), (9, .istore 6, 2, 0, 0, 0), (11, .iload 6, 2, 0, 0, 0), (13, .aload_n 0, 1, 0, 0, 0), (14, .getfield 60, 3, 1, 0, 117), (17, .if_icmp .ge 50, 3, 0, 67, 0), (20, .iload_n 1, 1, 0, 0, 0), (21, .iload 6, 2, 0, 0, 0), (23, .ishr, 1, 0, 0, 0), (24, .iconst 1, 1, 0, 0, 0), (25, .iand, 1, 0, 0, 0), (26, .ifCond .eq 35, 3, 0, 61, 0), (29, .iload 6, 2, 0, 0, 0), (31, .invokestatic 107, 3, 24, 1, 1355)],
  [(34, .lstore 7, 2, 0, 0, 0), (36, .lload 4, 2, 0, 0, 0), (38, .iload_n 2, 1, 0, 0, 0), (39, .iload 6, 2, 0, 0, 0), (41, .ishr, 1, 0, 0, 0), (42, .iconst 1, 1, 0, 0, 0), (43, .iand, 1, 0, 0, 0), (44, .ifCond .eq 8, 3, 0, 52, 0), (47, .lload 7, 2, 0, 0, 0), (49, .goto 9, 3, 0, 58, 0), (52, .lload 7, 2, 0, 0, 0), (54, .ldc2_w 63, 3, 18446744073709551615, 0, 90), (57, .lxor, 1, 0, 0, 0), (58, .land, 1, 0, 0, 0), (59, .lstore 4, 2, 0, 0, 0), (61, .iinc 6 1, 3, 0, 0, 0)],
  [(64, .goto (-53), 3, 0, 11, 0), (67, .lload 4, 2, 0, 0, 0), (69, .lreturn, 1, 0, 0, 0)]]
set_option maxRecDepth 100000 in
noncomputable def mjT31 : List (List (Nat × mjX)) := [[(0, .aload_n 1, 1, 0, 0, 0), (1, .invokevirtual 9, 3, 16, 0, 735), (4, .iconst 0, 1, 0, 0, 0), (5, .istore_n 2, 1, 0, 0, 0), (6, .iload_n 2, 1, 0, 0, 0), (7, .bipush 60, 2, 0, 0, 0), (9, .if_icmp .gt 47, 3, 0, 56, 0), (12, .aload_n 0, 1, 0, 0, 0), (13, .invokevirtual 14, 3, 84, 0, 736), (16, .ifCond .eq 40, 3, 0, 56, 0), (19, .aload_n 0, 1, 0, 0, 0), (20, .aload_n 1, 1, 0, 0, 0), (21, .iload_n 2, 1, 0, 0, 0), (22, .bipush 60, 2, 0, 0, 0), (24, .if_icmp .lt 7, 3, 0, 31, 0), (27, .iconst 1, 1, 0, 0, 0), (28, .goto 4, 3, 0, 32, 0), (31, .iconst 0, 1, 0, 0, 0)],
  [(32, .iload_n 2, 1, 0, 0, 0), (33, .ifCond .le 7, 3, 0, 40, 0), (36, .iconst 1, 1, 0, 0, 0), (37, .goto 4, 3, 0, 41, 0), (40, .iconst 0, 1, 0, 0, 0), (41, .invokestatic 20, 3, 32, 1, 740), (44, .aload_n 0, 1, 0, 0, 0), (45, .bipush 59, 2, 0, 0, 0), (47, .invokevirtual 26, 3, 90, 0, 915), (50, .iinc 2 1, 3, 0, 0, 0), (53, .goto (-47), 3, 0, 6, 0), (56, .aload_n 1, 1, 0, 0, 0), (57, .invokevirtual 30, 3, 18, 0, 916), (60, .return_, 1, 0, 0, 0)]]
set_option maxRecDepth 100000 in
noncomputable def mjT32 : List (List (Nat × mjX)) := [[(0, .aload_n 0, 1, 0, 0, 0), (1, .ldc 33, 2, 1, 1, 743), (3, .invokevirtual 35, 3, 85, 0, 744), (6, .ifCond .eq 12, 3, 0, 18, 0), (9, .aload_n 0, 1, 0, 0, 0), (10, .aload_n 1, 1, 0, 0, 0), (11, .iload_n 2, 1, 0, 0, 0), (12, .invokestatic 39, 3, 37, 1, 812), (15, .goto 99, 3, 0, 114, 0), (18, .aload_n 0, 1, 0, 0, 0), (19, .ldc 43, 2, 7, 1, 890), (21, .invokevirtual 35, 3, 85, 0, 744), (24, .ifCond .eq 12, 3, 0, 36, 0), (27, .aload_n 0, 1, 0, 0, 0), (28, .aload_n 1, 1, 0, 0, 0), (29, .iload_n 2, 1, 0, 0, 0), (30, .invokestatic 45, 3, 39, 1, 891)],
  [(33, .goto 81, 3, 0, 114, 0), (36, .aload_n 0, 1, 0, 0, 0), (37, .ldc 48, 2, 8, 1, 898), (39, .invokevirtual 35, 3, 85, 0, 744), (42, .ifCond .eq 12, 3, 0, 54, 0), (45, .aload_n 0, 1, 0, 0, 0), (46, .aload_n 1, 1, 0, 0, 0), (47, .iload_n 2, 1, 0, 0, 0), (48, .invokestatic 50, 3, 38, 1, 899), (51, .goto 63, 3, 0, 114, 0), (54, .aload_n 0, 1, 0, 0, 0), (55, .ldc 53, 2, 9, 1, 902), (57, .invokevirtual 35, 3, 85, 0, 744), (60, .ifCond .eq 12, 3, 0, 72, 0), (63, .aload_n 0, 1, 0, 0, 0)],
  [(64, .aload_n 1, 1, 0, 0, 0), (65, .iload_n 2, 1, 0, 0, 0), (66, .invokestatic 55, 3, 35, 1, 903), (69, .goto 45, 3, 0, 114, 0), (72, .aload_n 0, 1, 0, 0, 0), (73, .ldc 58, 2, 10, 1, 906), (75, .invokevirtual 35, 3, 85, 0, 744), (78, .ifCond .eq 12, 3, 0, 90, 0), (81, .aload_n 0, 1, 0, 0, 0), (82, .aload_n 1, 1, 0, 0, 0), (83, .iload_n 2, 1, 0, 0, 0), (84, .invokestatic 60, 3, 36, 1, 907), (87, .goto 27, 3, 0, 114, 0), (90, .aload_n 0, 1, 0, 0, 0), (91, .ldc 63, 2, 11, 1, 910), (93, .invokevirtual 35, 3, 85, 0, 744)],
  [(96, .ifCond .eq 13, 3, 0, 109, 0), (99, .aload_n 0, 1, 0, 0, 0), (100, .aload_n 1, 1, 0, 0, 0), (101, .iload_n 2, 1, 0, 0, 0), (102, .iload_n 3, 1, 0, 0, 0), (103, .invokestatic 65, 3, 34, 1, 911), (106, .goto 8, 3, 0, 114, 0), (109, .aload_n 0, 1, 0, 0, 0), (110, .iconst 1, 1, 0, 0, 0), (111, .invokevirtual 68, 3, 89, 0, 818), (114, .return_, 1, 0, 0, 0)]]
set_option maxRecDepth 100000 in
noncomputable def mjT33 : List (List (Nat × mjX)) := [[(0, .iload_n 1, 1, 0, 0, 0), (1, .ifCond .eq 11, 3, 0, 12, 0), (4, .aload_n 0, 1, 0, 0, 0), (5, .iconst 3, 1, 0, 0, 0), (6, .invokevirtual 68, 3, 89, 0, 818), (9, .goto 7, 3, 0, 16, 0), (12, .aload_n 0, 1, 0, 0, 0), (13, .invokevirtual 72, 3, 83, 0, 822), (16, .iload_n 1, 1, 0, 0, 0), (17, .ifCond .ne 7, 3, 0, 24, 0), (20, .iconst 1, 1, 0, 0, 0), (21, .goto 4, 3, 0, 25, 0), (24, .iconst 0, 1, 0, 0, 0), (25, .ireturn, 1, 0, 0, 0)]]
set_option maxRecDepth 100000 in
noncomputable def mjT34 : List (List (Nat × mjX)) := [[(0, .iload_n 3, 1, 0, 0, 0), (1, .ifCond .eq 15, 3, 0, 16, 0), (4, .iload_n 2, 1, 0, 0, 0), (5, .ifCond .ne 11, 3, 0, 16, 0), (8, .aload_n 0, 1, 0, 0, 0), (9, .iconst 4, 1, 0, 0, 0), (10, .invokevirtual 68, 3, 89, 0, 818), (13, .goto 22, 3, 0, 35, 0), (16, .aload_n 0, 1, 0, 0, 0), (17, .iload_n 2, 1, 0, 0, 0), (18, .invokestatic 75, 3, 33, 1, 815), (21, .ifCond .eq 14, 3, 0, 35, 0), (24, .aload_n 1, 1, 0, 0, 0), (25, .aload_n 0, 1, 0, 0, 0), (26, .iconst 1, 1, 0, 0, 0), (27, .bipush 6, 2, 0, 0, 0), (29, .invokevirtual 79, 3, 92, 0, 894)],
  [(32, .invokevirtual 83, 3, 17, 0, 914), (35, .return_, 1, 0, 0, 0)]]
set_option maxRecDepth 100000 in
noncomputable def mjT35 : List (List (Nat × mjX)) := [[(0, .aload_n 0, 1, 0, 0, 0), (1, .iload_n 2, 1, 0, 0, 0), (2, .invokestatic 75, 3, 33, 1, 815), (5, .ifCond .eq 20, 3, 0, 25, 0), (8, .aload_n 1, 1, 0, 0, 0), (9, .aload_n 0, 1, 0, 0, 0), (10, .iconst 0, 1, 0, 0, 0), (11, .iconst 1, 1, 0, 0, 0), (12, .aload_n 1, 1, 0, 0, 0), (13, .getfield 86, 3, 1, 0, 118), (16, .ishl, 1, 0, 0, 0), (17, .iconst 1, 1, 0, 0, 0), (18, .isub, 1, 0, 0, 0), (19, .invokevirtual 79, 3, 92, 0, 894), (22, .putfield 89, 3, 1, 5, 138), (25, .return_, 1, 0, 0, 0)]]
set_option maxRecDepth 100000 in
noncomputable def mjT36 : List (List (Nat × mjX)) := [[(0, .aload_n 0, 1, 0, 0, 0), (1, .iload_n 2, 1, 0, 0, 0), (2, .invokestatic 75, 3, 33, 1, 815), (5, .ifCond .eq 13, 3, 0, 18, 0), (8, .aload_n 1, 1, 0, 0, 0), (9, .aload_n 0, 1, 0, 0, 0), (10, .iconst 0, 1, 0, 0, 0), (11, .iconst 4, 1, 0, 0, 0), (12, .invokevirtual 79, 3, 92, 0, 894), (15, .putfield 91, 3, 1, 6, 141), (18, .return_, 1, 0, 0, 0)]]
set_option maxRecDepth 100000 in
noncomputable def mjT37 : List (List (Nat × mjX)) := [[(0, .aload_n 0, 1, 0, 0, 0), (1, .iload_n 2, 1, 0, 0, 0), (2, .ifCond .ne 12, 3, 0, 14, 0), (5, .aload_n 1, 1, 0, 0, 0), (6, .getfield 93, 3, 1, 2, 128), (9, .bipush 12, 2, 0, 0, 0), (11, .if_icmp .lt 7, 3, 0, 18, 0), (14, .iconst 1, 1, 0, 0, 0), (15, .goto 4, 3, 0, 19, 0), (18, .iconst 0, 1, 0, 0, 0), (19, .invokestatic 75, 3, 33, 1, 815), (22, .ifCond .eq 27, 3, 0, 49, 0), (25, .aload_n 1, 1, 0, 0, 0), (26, .getfield 96, 3, 1, 7, 146), (29, .aload_n 1, 1, 0, 0, 0), (30, .getfield 93, 3, 1, 2, 128)],
  [(33, .aload_n 0, 1, 0, 0, 0), (34, .aload_n 1, 1, 0, 0, 0), (35, .invokestatic 100, 3, 41, 1, 823), (38, .lastore, 1, 0, 0, 0), (39, .aload_n 1, 1, 0, 0, 0), (40, .dup, 1, 0, 0, 0), (41, .getfield 93, 3, 1, 2, 128), (44, .iconst 1, 1, 0, 0, 0), (45, .iadd, 1, 0, 0, 0), (46, .putfield 93, 3, 1, 2, 128), (49, .return_, 1, 0, 0, 0)]]
set_option maxRecDepth 100000 in
noncomputable def mjT38 : List (List (Nat × mjX)) := [[(0, .aload_n 0, 1, 0, 0, 0), (1, .iload_n 2, 1, 0, 0, 0), (2, .ifCond .ne 11, 3, 0, 13, 0), (5, .aload_n 1, 1, 0, 0, 0), (6, .getfield 106, 3, 1, 4, 135), (9, .iconst 5, 1, 0, 0, 0), (10, .if_icmp .lt 7, 3, 0, 17, 0), (13, .iconst 1, 1, 0, 0, 0), (14, .goto 4, 3, 0, 18, 0), (17, .iconst 0, 1, 0, 0, 0), (18, .invokestatic 75, 3, 33, 1, 815), (21, .ifCond .eq 30, 3, 0, 51, 0), (24, .aload_n 1, 1, 0, 0, 0), (25, .getfield 96, 3, 1, 7, 146), (28, .bipush 12, 2, 0, 0, 0), (30, .aload_n 1, 1, 0, 0, 0), (31, .getfield 106, 3, 1, 4, 135)],
  [(34, .iadd, 1, 0, 0, 0), (35, .aload_n 0, 1, 0, 0, 0), (36, .aload_n 1, 1, 0, 0, 0), (37, .invokestatic 100, 3, 41, 1, 823), (40, .lastore, 1, 0, 0, 0), (41, .aload_n 1, 1, 0, 0, 0), (42, .dup, 1, 0, 0, 0), (43, .getfield 106, 3, 1, 4, 135), (46, .iconst 1, 1, 0, 0, 0), (47, .iadd, 1, 0, 0, 0), (48, .putfield 106, 3, 1, 4, 135), (51, .return_, 1, 0, 0, 0)]]
set_option maxRecDepth 100000 in
noncomputable def mjT39 : List (List (Nat × mjX)) := [[(0, .aload_n 0, 1, 0, 0, 0), (1, .iload_n 2, 1, 0, 0, 0), (2, .ifCond .ne 12, 3, 0, 14, 0), (5, .aload_n 1, 1, 0, 0, 0), (6, .getfield 109, 3, 1, 3, 132), (9, .bipush 12, 2, 0, 0, 0), (11, .if_icmp .lt 7, 3, 0, 18, 0), (14, .iconst 1, 1, 0, 0, 0), (15, .goto 4, 3, 0, 19, 0), (18, .iconst 0, 1, 0, 0, 0), (19, .invokestatic 75, 3, 33, 1, 815), (22, .ifCond .eq 43, 3, 0, 65, 0), (25, .aload_n 1, 1, 0, 0, 0), (26, .getfield 112, 3, 1, 10, 154), (29, .aload_n 1, 1, 0, 0, 0), (30, .getfield 109, 3, 1, 3, 132)],
  [(33, .aload_n 0, 1, 0, 0, 0), (34, .iconst 0, 1, 0, 0, 0), (35, .bipush 51, 2, 0, 0, 0), (37, .invokevirtual 79, 3, 92, 0, 894), (40, .iastore, 1, 0, 0, 0), (41, .aload_n 1, 1, 0, 0, 0), (42, .getfield 116, 3, 1, 9, 152), (45, .aload_n 1, 1, 0, 0, 0), (46, .getfield 109, 3, 1, 3, 132), (49, .aload_n 0, 1, 0, 0, 0), (50, .aload_n 1, 1, 0, 0, 0), (51, .invokestatic 100, 3, 41, 1, 823), (54, .lastore, 1, 0, 0, 0), (55, .aload_n 1, 1, 0, 0, 0), (56, .dup, 1, 0, 0, 0), (57, .getfield 109, 3, 1, 3, 132), (60, .iconst 1, 1, 0, 0, 0), (61, .iadd, 1, 0, 0, 0), (62, .putfield 109, 3, 1, 3, 132)],
  [(65, .return_, 1, 0, 0, 0)]]
set_option maxRecDepth 100000 in
noncomputable def mjT40 : List (List (Nat × mjX)) := [[(0, .aload_n 0, 1, 0, 0, 0), (1, .aload_n 1, 1, 0, 0, 0), (2, .invokestatic 9, 3, 41, 1, 864), (5, .lstore_n 2, 1, 0, 0, 0), (6, .aload_n 0, 1, 0, 0, 0), (7, .invokevirtual 15, 3, 84, 0, 939), (10, .ifCond .eq 8, 3, 0, 18, 0), (13, .aload_n 0, 1, 0, 0, 0), (14, .iconst 1, 1, 0, 0, 0), (15, .invokevirtual 21, 3, 89, 0, 877), (18, .lload_n 2, 1, 0, 0, 0), (19, .lreturn, 1, 0, 0, 0)]]
set_option maxRecDepth 100000 in
noncomputable def mjT41 : List (List (Nat × mjX)) := [[(0, .aload_n 0, 1, 0, 0, 0), (1, .aload_n 1, 1, 0, 0, 0), (2, .invokestatic 25, 3, 42, 1, 826), (5, .lstore_n 2, 1, 0, 0, 0), (6, .iconst 0, 1, 0, 0, 0), (7, .istore 4, 2, 0, 0, 0), (9, .iload 4, 2, 0, 0, 0), (11, .sipush 600, 3, 0, 0, 0), (14, .if_icmp .ge 30, 3, 0, 44, 0), (17, .aload_n 0, 1, 0, 0, 0), (18, .ldc 28, 2, 6, 1, 889), (20, .invokevirtual 30, 3, 85, 0, 833), (23, .ifCond .eq 21, 3, 0, 44, 0), (26, .aload_n 0, 1, 0, 0, 0), (27, .invokevirtual 34, 3, 83, 0, 878), (30, .lload_n 2, 1, 0, 0, 0), (31, .aload_n 0, 1, 0, 0, 0)],
  [(32, .aload_n 1, 1, 0, 0, 0), (33, .invokestatic 25, 3, 42, 1, 826), (36, .lor, 1, 0, 0, 0), (37, .lstore_n 2, 1, 0, 0, 0), (38, .iinc 4 1, 3, 0, 0, 0), (41, .goto (-32), 3, 0, 9, 0), (44, .lload_n 2, 1, 0, 0, 0), (45, .lreturn, 1, 0, 0, 0)]]
set_option maxRecDepth 100000 in
noncomputable def mjT42 : List (List (Nat × mjX)) := [[(0, .aload_n 0, 1, 0, 0, 0), (1, .aload_n 1, 1, 0, 0, 0), (2, .invokestatic 37, 3, 43, 1, 829), (5, .lstore_n 2, 1, 0, 0, 0), (6, .iconst 0, 1, 0, 0, 0), (7, .istore 4, 2, 0, 0, 0), (9, .iload 4, 2, 0, 0, 0), (11, .sipush 600, 3, 0, 0, 0), (14, .if_icmp .ge 30, 3, 0, 44, 0), (17, .aload_n 0, 1, 0, 0, 0), (18, .ldc 40, 2, 5, 1, 888), (20, .invokevirtual 30, 3, 85, 0, 833), (23, .ifCond .eq 21, 3, 0, 44, 0), (26, .aload_n 0, 1, 0, 0, 0), (27, .invokevirtual 34, 3, 83, 0, 878), (30, .lload_n 2, 1, 0, 0, 0), (31, .aload_n 0, 1, 0, 0, 0)],
  [(32, .aload_n 1, 1, 0, 0, 0), (33, .invokestatic 37, 3, 43, 1, 829), (36, .land, 1, 0, 0, 0), (37, .lstore_n 2, 1, 0, 0, 0), (38, .iinc 4 1, 3, 0, 0, 0), (41, .goto (-32), 3, 0, 9, 0), (44, .lload_n 2, 1, 0, 0, 0), (45, .lreturn, 1, 0, 0, 0)]]
set_option maxRecDepth 100000 in
noncomputable def mjT43 : List (List (Nat × mjX)) := [[(0, .aload_n 0, 1, 0, 0, 0), (1, .ldc 42, 2, 2, 1, 832), (3, .invokevirtual 30, 3, 85, 0, 833), (6, .ifCond .eq 9, 3, 0, 15, 0), (9, .aload_n 0, 1, 0, 0, 0), (10, .aload_n 1, 1, 0, 0, 0), (11, .invokestatic 44, 3, 44, 1, 834), (14, .lreturn, 1, 0, 0, 0), (15, .aload_n 0, 1, 0, 0, 0), (16, .ldc 47, 2, 3, 1, 847), (18, .invokevirtual 30, 3, 85, 0, 833), (21, .ifCond .eq 9, 3, 0, 30, 0), (24, .aload_n 0, 1, 0, 0, 0), (25, .aload_n 1, 1, 0, 0, 0), (26, .invokestatic 49, 3, 45, 1, 848), (29, .lreturn, 1, 0, 0, 0), (30, .aload_n 0, 1, 0, 0, 0), (31, .bipush 91, 2, 0, 0, 0)],
  [(33, .invokevirtual 52, 3, 86, 0, 857), (36, .ifCond .eq 9, 3, 0, 45, 0), (39, .aload_n 0, 1, 0, 0, 0), (40, .aload_n 1, 1, 0, 0, 0), (41, .invokestatic 56, 3, 46, 1, 861), (44, .lreturn, 1, 0, 0, 0), (45, .aload_n 0, 1, 0, 0, 0), (46, .aload_n 1, 1, 0, 0, 0), (47, .invokestatic 59, 3, 47, 1, 870), (50, .lreturn, 1, 0, 0, 0)]]
set_option maxRecDepth 100000 in
noncomputable def mjT44 : List (List (Nat × mjX)) := [[(0, .aload_n 0, 1, 0, 0, 0), (1, .invokevirtual 62, 3, 93, 0, 837), (4, .ifCond .ne 5, 3, 0, 9, 0), (7, .lconst 0, 1, 0, 0, 0), (8, .lreturn, 1, 0, 0, 0), (9, .aload_n 0, 1, 0, 0, 0), (10, .aload_n 1, 1, 0, 0, 0), (11, .invokestatic 37, 3, 43, 1, 829), (14, .ldc2_w 65, 3, 18446744073709551615, 0, 842), (17, .lxor, 1, 0, 0, 0), (18, .aload_n 1, 1, 0, 0, 0), (19, .getfield 67, 3, 1, 1, 123), (22, .land, 1, 0, 0, 0), (23, .lstore_n 2, 1, 0, 0, 0), (24, .aload_n 0, 1, 0, 0, 0), (25, .invokevirtual 73, 3, 94, 0, 843), (28, .lload_n 2, 1, 0, 0, 0), (29, .lreturn, 1, 0, 0, 0)]]
set_option maxRecDepth 100000 in
noncomputable def mjT45 : List (List (Nat × mjX)) := [[(0, .aload_n 0, 1, 0, 0, 0), (1, .invokevirtual 62, 3, 93, 0, 837), (4, .ifCond .ne 5, 3, 0, 9, 0), (7, .lconst 0, 1, 0, 0, 0), (8, .lreturn, 1, 0, 0, 0), (9, .aload_n 0, 1, 0, 0, 0), (10, .aload_n 1, 1, 0, 0, 0), (11, .invokestatic 37, 3, 43, 1, 829), (14, .ldc2_w 65, 3, 18446744073709551615, 0, 842), (17, .lxor, 1, 0, 0, 0), (18, .aload_n 1, 1, 0, 0, 0), (19, .getfield 67, 3, 1, 1, 123), (22, .land, 1, 0, 0, 0), (23, .lstore_n 2, 1, 0, 0, 0), (24, .aload_n 0, 1, 0, 0, 0), (25, .ldc 76, 2, 4, 1, 851), (27, .invokevirtual 78, 3, 91, 0, 852), (30, .lload_n 2, 1, 0, 0, 0), (31, .aload_n 0, 1, 0, 0, 0)],
  [(32, .aload_n 1, 1, 0, 0, 0), (33, .invokestatic 37, 3, 43, 1, 829), (36, .lor, 1, 0, 0, 0), (37, .lstore_n 2, 1, 0, 0, 0), (38, .aload_n 0, 1, 0, 0, 0), (39, .invokevirtual 73, 3, 94, 0, 843), (42, .lload_n 2, 1, 0, 0, 0), (43, .lreturn, 1, 0, 0, 0)]]
set_option maxRecDepth 100000 in
noncomputable def mjT46 : List (List (Nat × mjX)) := [[(0, .aload_n 0, 1, 0, 0, 0), (1, .invokevirtual 62, 3, 93, 0, 837), (4, .ifCond .ne 5, 3, 0, 9, 0), (7, .lconst 0, 1, 0, 0, 0), (8, .lreturn, 1, 0, 0, 0), (9, .aload_n 0, 1, 0, 0, 0), (10, .aload_n 1, 1, 0, 0, 0), (11, .invokestatic 9, 3, 41, 1, 864), (14, .lstore_n 2, 1, 0, 0, 0), (15, .aload_n 0, 1, 0, 0, 0), (16, .bipush 93, 2, 0, 0, 0), (18, .invokevirtual 82, 3, 90, 0, 865), (21, .aload_n 0, 1, 0, 0, 0), (22, .invokevirtual 73, 3, 94, 0, 843), (25, .lload_n 2, 1, 0, 0, 0), (26, .lreturn, 1, 0, 0, 0)]]
set_option maxRecDepth 100000 in
noncomputable def mjT47 : List (List (Nat × mjX)) := [[(0, .aload_n 0, 1, 0, 0, 0), (1, .invokevirtual 86, 3, 88, 0, 873), (4, .istore_n 2, 1, 0, 0, 0), (5, .iload_n 2, 1, 0, 0, 0), (6, .ifCond .lt 11, 3, 0, 17, 0), (9, .iload_n 2, 1, 0, 0, 0), (10, .aload_n 1, 1, 0, 0, 0), (11, .getfield 90, 3, 1, 0, 120), (14, .if_icmp .lt 10, 3, 0, 24, 0), (17, .aload_n 0, 1, 0, 0, 0), (18, .iconst 1, 1, 0, 0, 0), (19, .invokevirtual 21, 3, 89, 0, 877), (22, .lconst 0, 1, 0, 0, 0), (23, .lreturn, 1, 0, 0, 0), (24, .aload_n 0, 1, 0, 0, 0), (25, .invokevirtual 34, 3, 83, 0, 878), (28, .iload_n 2, 1, 0, 0, 0), (29, .invokestatic 94, 3, 24, 1, 879)],
  [(32, .aload_n 1, 1, 0, 0, 0), (33, .getfield 67, 3, 1, 1, 123), (36, .land, 1, 0, 0, 0), (37, .lreturn, 1, 0, 0, 0)]]
set_option maxRecDepth 100000 in
noncomputable def mjT48 : List (List (Nat × mjX)) := [[(0, .aload_n 0, 1, 0, 0, 0), (1, .invokespecial 3, 3, 998, 4, 224), (4, .aload_n 0, 1, 0, 0, 0), (5, .bipush 12, 2, 0, 0, 0), (7, .newarray .int, 2, 0, 0, 194), (9, .putfield 9, 3, 2, 0, 225), (12, .aload_n 0, 1, 0, 0, 0), (13, .iconst 0, 1, 0, 0, 0), (14, .putfield 15, 3, 2, 1, 227), (17, .aload_n 0, 1, 0, 0, 0), (18, .iconst 0, 1, 0, 0, 0), (19, .putfield 19, 3, 2, 2, 229), (22, .return_, 1, 0, 0, 0)]]
set_option maxRecDepth 100000 in
noncomputable def mjT49 : List (List (Nat × mjX)) := [[(0, .iconst 0, 1, 0, 0, 0), (1, .istore_n 2, 1, 0, 0, 0), (2, .iload_n 2, 1, 0, 0, 0), (3, .aload_n 0, 1, 0, 0, 0), (4, .getfield 9, 3, 2, 0, 225), (7, .arraylength, 1, 0, 0, 0), (8, .if_icmp .ge 16, 3, 0, 24, 0), (11, .aload_n 0, 1, 0, 0, 0), (12, .getfield 9, 3, 2, 0, 225), (15, .iload_n 2, 1, 0, 0, 0), (16, .iload_n 2, 1, 0, 0, 0), (17, .iastore, 1, 0, 0, 0), (18, .iinc 2 1, 3, 0, 0, 0), (21, .goto (-19), 3, 0, 2, 0), (24, .aload_n 0, 1, 0, 0, 0), (25, .aload_n 1, 1, 0, 0, 0), (26, .getfield 22, 3, 1, 6, 139), (29, .putfield 15, 3, 2, 1, 227)],
  [(32, .aload_n 0, 1, 0, 0, 0), (33, .aload_n 1, 1, 0, 0, 0), (34, .getfield 25, 3, 1, 5, 136), (37, .putfield 19, 3, 2, 2, 229), (40, .return_, 1, 0, 0, 0)]]
set_option maxRecDepth 100000 in
noncomputable def mjT50 : List (List (Nat × mjX)) := [[(0, .iconst 0, 1, 0, 0, 0), (1, .istore_n 2, 1, 0, 0, 0), (2, .iload_n 2, 1, 0, 0, 0), (3, .aload_n 0, 1, 0, 0, 0), (4, .getfield 9, 3, 2, 0, 225), (7, .arraylength, 1, 0, 0, 0), (8, .if_icmp .ge 21, 3, 0, 29, 0), (11, .aload_n 0, 1, 0, 0, 0), (12, .getfield 9, 3, 2, 0, 225), (15, .iload_n 2, 1, 0, 0, 0), (16, .aload_n 1, 1, 0, 0, 0), (17, .getfield 9, 3, 2, 0, 225), (20, .iload_n 2, 1, 0, 0, 0), (21, .iaload, 1, 0, 0, 0), (22, .iastore, 1, 0, 0, 0), (23, .iinc 2 1, 3, 0, 0, 0), (26, .goto (-24), 3, 0, 2, 0), (29, .aload_n 0, 1, 0, 0, 0), (30, .aload_n 1, 1, 0, 0, 0), (31, .getfield 15, 3, 2, 1, 227)],
  [(34, .putfield 15, 3, 2, 1, 227), (37, .aload_n 0, 1, 0, 0, 0), (38, .aload_n 1, 1, 0, 0, 0), (39, .getfield 19, 3, 2, 2, 229), (42, .putfield 19, 3, 2, 2, 229), (45, .return_, 1, 0, 0, 0)]]
set_option maxRecDepth 100000 in
noncomputable def mjT51 : List (List (Nat × mjX)) := [[(0, .aload_n 0, 1, 0, 0, 0), (1, .invokespecial 1, 3, 998, 4, 331), (4, .aload_n 0, 1, 0, 0, 0), (5, .iconst 0, 1, 0, 0, 0), (6, .putfield 7, 3, 3, 0, 332), (9, .aload_n 0, 1, 0, 0, 0), (10, .sipush 256, 3, 0, 0, 0), (13, .newarray .int, 2, 0, 0, 194), (15, .putfield 13, 3, 3, 1, 333), (18, .aload_n 0, 1, 0, 0, 0), (19, .sipush 256, 3, 0, 0, 0), (22, .newarray .int, 2, 0, 0, 194), (24, .putfield 17, 3, 3, 2, 334), (27, .aload_n 0, 1, 0, 0, 0), (28, .bipush 66, 2, 0, 0, 0), (30, .newarray .int, 2, 0, 0, 194)],
  [(32, .putfield 20, 3, 3, 3, 335), (35, .aload_n 0, 1, 0, 0, 0), (36, .iconst 0, 1, 0, 0, 0), (37, .putfield 23, 3, 3, 4, 336), (40, .return_, 1, 0, 0, 0)]]
set_option maxRecDepth 100000 in
noncomputable def mjT52 : List (List (Nat × mjX)) := [[(0, .aload_n 0, 1, 0, 0, 0), (1, .getfield 7, 3, 3, 0, 332), (4, .iload_n 1, 1, 0, 0, 0), (5, .if_icmp .eq 8, 3, 0, 13, 0), (8, .aload_n 0, 1, 0, 0, 0), (9, .iload_n 1, 1, 0, 0, 0), (10, .invokevirtual 26, 3, 53, 0, 1502), (13, .lload_n 2, 1, 0, 0, 0), (14, .lconst 0, 1, 0, 0, 0), (15, .lcmp, 1, 0, 0, 0), (16, .ifCond .lt 14, 3, 0, 30, 0), (19, .lload_n 2, 1, 0, 0, 0), (20, .aload_n 0, 1, 0, 0, 0), (21, .getfield 13, 3, 3, 1, 333), (24, .arraylength, 1, 0, 0, 0), (25, .i2l, 1, 0, 0, 0), (26, .lcmp, 1, 0, 0, 0), (27, .ifCond .lt 7, 3, 0, 34, 0), (30, .iconst 0, 1, 0, 0, 0), (31, .goto 10, 3, 0, 41, 0)],
  [(34, .aload_n 0, 1, 0, 0, 0), (35, .getfield 13, 3, 3, 1, 333), (38, .lload_n 2, 1, 0, 0, 0), (39, .l2i, 1, 0, 0, 0), (40, .iaload, 1, 0, 0, 0), (41, .ireturn, 1, 0, 0, 0)]]
set_option maxRecDepth 100000 in
noncomputable def mjT53 : List (List (Nat × mjX)) := [[(0, .aload_n 0, 1, 0, 0, 0), (1, .iload_n 1, 1, 0, 0, 0), (2, .putfield 7, 3, 3, 0, 332), (5, .aload_n 0, 1, 0, 0, 0), (6, .iconst 0, 1, 0, 0, 0), (7, .putfield 23, 3, 3, 4, 336), (10, .iconst 0, 1, 0, 0, 0), (11, .istore_n 2, 1, 0, 0, 0), (12, .iload_n 2, 1, 0, 0, 0), (13, .aload_n 0, 1, 0, 0, 0), (14, .getfield 13, 3, 3, 1, 333), (17, .arraylength, 1, 0, 0, 0), (18, .if_icmp .ge 16, 3, 0, 34, 0), (21, .aload_n 0, 1, 0, 0, 0), (22, .getfield 13, 3, 3, 1, 333), (25, .iload_n 2, 1, 0, 0, 0), (26, .iconst 0, 1, 0, 0, 0), (27, .iastore, 1, 0, 0, 0), (28, .iinc 2 1, 3, 0, 0, 0), (31, .goto (-19), 3, 0, 12, 0)],
  [(34, .iconst 1, 1, 0, 0, 0), (35, .iconst 1, 1, 0, 0, 0), (36, .iload_n 1, 1, 0, 0, 0), (37, .ishl, 1, 0, 0, 0), (38, .ishl, 1, 0, 0, 0), (39, .iconst 1, 1, 0, 0, 0), (40, .isub, 1, 0, 0, 0), (41, .istore_n 2, 1, 0, 0, 0), (42, .aload_n 0, 1, 0, 0, 0), (43, .getfield 20, 3, 3, 3, 335), (46, .iconst 1, 1, 0, 0, 0), (47, .iconst 0, 1, 0, 0, 0), (48, .iastore, 1, 0, 0, 0), (49, .iconst 0, 1, 0, 0, 0), (50, .istore_n 3, 1, 0, 0, 0), (51, .iload_n 3, 1, 0, 0, 0), (52, .iload_n 1, 1, 0, 0, 0), (53, .if_icmp .ge 21, 3, 0, 74, 0), (56, .aload_n 0, 1, 0, 0, 0), (57, .iload_n 3, 1, 0, 0, 0), (58, .invokestatic 30, 3, 24, 1, 1506), (61, .l2i, 1, 0, 0, 0), (62, .iload_n 2, 1, 0, 0, 0), (63, .iand, 1, 0, 0, 0)],
  [(64, .iconst 1, 1, 0, 0, 0), (65, .invokevirtual 36, 3, 54, 0, 1507), (68, .iinc 3 1, 3, 0, 0, 0), (71, .goto (-20), 3, 0, 51, 0), (74, .iconst 2, 1, 0, 0, 0), (75, .istore_n 3, 1, 0, 0, 0), (76, .iload_n 3, 1, 0, 0, 0), (77, .bipush 64, 2, 0, 0, 0), (79, .if_icmp .gt 65, 3, 0, 144, 0), (82, .aload_n 0, 1, 0, 0, 0), (83, .getfield 23, 3, 3, 4, 336), (86, .iload_n 2, 1, 0, 0, 0), (87, .if_icmp .gt 57, 3, 0, 144, 0), (90, .aload_n 0, 1, 0, 0, 0), (91, .getfield 20, 3, 3, 3, 335), (94, .iload_n 3, 1, 0, 0, 0), (95, .aload_n 0, 1, 0, 0, 0)],
  [(96, .getfield 23, 3, 3, 4, 336), (99, .iastore, 1, 0, 0, 0), (100, .aload_n 0, 1, 0, 0, 0), (101, .iload_n 3, 1, 0, 0, 0), (102, .iload_n 2, 1, 0, 0, 0), (103, .invokevirtual 40, 3, 55, 0, 1511), (106, .iconst 1, 1, 0, 0, 0), (107, .istore 4, 2, 0, 0, 0), (109, .iconst 2, 1, 0, 0, 0), (110, .iload 4, 2, 0, 0, 0), (112, .imul, 1, 0, 0, 0), (113, .iload_n 3, 1, 0, 0, 0), (114, .iconst 1, 1, 0, 0, 0), (115, .isub, 1, 0, 0, 0), (116, .if_icmp .gt 22, 3, 0, 138, 0), (119, .aload_n 0, 1, 0, 0, 0), (120, .iload 4, 2, 0, 0, 0), (122, .iload_n 3, 1, 0, 0, 0), (123, .iconst 1, 1, 0, 0, 0), (124, .isub, 1, 0, 0, 0), (125, .iload 4, 2, 0, 0, 0), (127, .isub, 1, 0, 0, 0)],
  [(128, .iload_n 3, 1, 0, 0, 0), (129, .invokevirtual 43, 3, 56, 0, 1515), (132, .iinc 4 1, 3, 0, 0, 0), (135, .goto (-26), 3, 0, 109, 0), (138, .iinc 3 1, 3, 0, 0, 0), (141, .goto (-65), 3, 0, 76, 0), (144, .return_, 1, 0, 0, 0)]]
set_option maxRecDepth 100000 in
noncomputable def mjT54 : List (List (Nat × mjX)) := [[(0, .iload_n 1, 1, 0, 0, 0), (1, .ifCond .lt 28, 3, 0, 29, 0), (4, .iload_n 1, 1, 0, 0, 0), (5, .aload_n 0, 1, 0, 0, 0), (6, .getfield 13, 3, 3, 1, 333), (9, .arraylength, 1, 0, 0, 0), (10, .if_icmp .ge 19, 3, 0, 29, 0), (13, .aload_n 0, 1, 0, 0, 0), (14, .getfield 23, 3, 3, 4, 336), (17, .aload_n 0, 1, 0, 0, 0), (18, .getfield 17, 3, 3, 2, 334), (21, .arraylength, 1, 0, 0, 0), (22, .if_icmp .ge 7, 3, 0, 29, 0), (25, .iconst 1, 1, 0, 0, 0), (26, .goto 4, 3, 0, 30, 0), (29, .iconst 0, 1, 0, 0, 0), (30, .istore_n 3, 1, 0, 0, 0), (31, .iload_n 3, 1, 0, 0, 0)],
  [(32, .ifCond .eq 39, 3, 0, 71, 0), (35, .aload_n 0, 1, 0, 0, 0), (36, .getfield 13, 3, 3, 1, 333), (39, .iload_n 1, 1, 0, 0, 0), (40, .iaload, 1, 0, 0, 0), (41, .ifCond .ne 30, 3, 0, 71, 0), (44, .aload_n 0, 1, 0, 0, 0), (45, .getfield 13, 3, 3, 1, 333), (48, .iload_n 1, 1, 0, 0, 0), (49, .iload_n 2, 1, 0, 0, 0), (50, .iastore, 1, 0, 0, 0), (51, .aload_n 0, 1, 0, 0, 0), (52, .getfield 17, 3, 3, 2, 334), (55, .aload_n 0, 1, 0, 0, 0), (56, .getfield 23, 3, 3, 4, 336), (59, .iload_n 1, 1, 0, 0, 0), (60, .iastore, 1, 0, 0, 0), (61, .aload_n 0, 1, 0, 0, 0), (62, .dup, 1, 0, 0, 0), (63, .getfield 23, 3, 3, 4, 336)],
  [(66, .iconst 1, 1, 0, 0, 0), (67, .iadd, 1, 0, 0, 0), (68, .putfield 23, 3, 3, 4, 336), (71, .return_, 1, 0, 0, 0)]]
set_option maxRecDepth 100000 in
noncomputable def mjT55 : List (List (Nat × mjX)) := [[(0, .aload_n 0, 1, 0, 0, 0), (1, .getfield 20, 3, 3, 3, 335), (4, .iload_n 1, 1, 0, 0, 0), (5, .iconst 1, 1, 0, 0, 0), (6, .isub, 1, 0, 0, 0), (7, .iaload, 1, 0, 0, 0), (8, .istore_n 3, 1, 0, 0, 0), (9, .iload_n 3, 1, 0, 0, 0), (10, .aload_n 0, 1, 0, 0, 0), (11, .getfield 20, 3, 3, 3, 335), (14, .iload_n 1, 1, 0, 0, 0), (15, .iaload, 1, 0, 0, 0), (16, .if_icmp .ge 24, 3, 0, 40, 0), (19, .aload_n 0, 1, 0, 0, 0), (20, .aload_n 0, 1, 0, 0, 0), (21, .getfield 17, 3, 3, 2, 334), (24, .iload_n 3, 1, 0, 0, 0), (25, .iaload, 1, 0, 0, 0), (26, .iconst (-1), 1, 0, 0, 0), (27, .ixor, 1, 0, 0, 0), (28, .iload_n 2, 1, 0, 0, 0), (29, .iand, 1, 0, 0, 0), (30, .iload_n 1, 1, 0, 0, 0), (31, .invokevirtual 36, 3, 54, 0, 1507)],
  [(34, .iinc 3 1, 3, 0, 0, 0), (37, .goto (-28), 3, 0, 9, 0), (40, .return_, 1, 0, 0, 0)]]
set_option maxRecDepth 100000 in
noncomputable def mjT56 : List (List (Nat × mjX)) := [[(0, .aload_n 0, 1, 0, 0, 0), (1, .getfield 20, 3, 3, 3, 335), (4, .iload_n 1, 1, 0, 0, 0), (5, .iaload, 1, 0, 0, 0), (6, .istore 4, 2, 0, 0, 0), (8, .iload 4, 2, 0, 0, 0), (10, .aload_n 0, 1, 0, 0, 0), (11, .getfield 20, 3, 3, 3, 335), (14, .iload_n 1, 1, 0, 0, 0), (15, .iconst 1, 1, 0, 0, 0), (16, .iadd, 1, 0, 0, 0), (17, .iaload, 1, 0, 0, 0), (18, .if_icmp .ge 76, 3, 0, 94, 0), (21, .aload_n 0, 1, 0, 0, 0), (22, .getfield 20, 3, 3, 3, 335), (25, .iload_n 2, 1, 0, 0, 0), (26, .iaload, 1, 0, 0, 0), (27, .istore 5, 2, 0, 0, 0), (29, .iload 5, 2, 0, 0, 0), (31, .aload_n 0, 1, 0, 0, 0)],
  [(32, .getfield 20, 3, 3, 3, 335), (35, .iload_n 2, 1, 0, 0, 0), (36, .iconst 1, 1, 0, 0, 0), (37, .iadd, 1, 0, 0, 0), (38, .iaload, 1, 0, 0, 0), (39, .if_icmp .ge 49, 3, 0, 88, 0), (42, .aload_n 0, 1, 0, 0, 0), (43, .aload_n 0, 1, 0, 0, 0), (44, .getfield 17, 3, 3, 2, 334), (47, .iload 4, 2, 0, 0, 0), (49, .iaload, 1, 0, 0, 0), (50, .aload_n 0, 1, 0, 0, 0), (51, .getfield 17, 3, 3, 2, 334), (54, .iload 5, 2, 0, 0, 0), (56, .iaload, 1, 0, 0, 0), (57, .iand, 1, 0, 0, 0), (58, .iload_n 3, 1, 0, 0, 0), (59, .invokevirtual 36, 3, 54, 0, 1507), (62, .aload_n 0, 1, 0, 0, 0), (63, .aload_n 0, 1, 0, 0, 0)],
  [(64, .getfield 17, 3, 3, 2, 334), (67, .iload 4, 2, 0, 0, 0), (69, .iaload, 1, 0, 0, 0), (70, .aload_n 0, 1, 0, 0, 0), (71, .getfield 17, 3, 3, 2, 334), (74, .iload 5, 2, 0, 0, 0), (76, .iaload, 1, 0, 0, 0), (77, .ior, 1, 0, 0, 0), (78, .iload_n 3, 1, 0, 0, 0), (79, .invokevirtual 36, 3, 54, 0, 1507), (82, .iinc 5 1, 3, 0, 0, 0), (85, .goto (-56), 3, 0, 29, 0), (88, .iinc 4 1, 3, 0, 0, 0), (91, .goto (-83), 3, 0, 8, 0), (94, .return_, 1, 0, 0, 0)]]
set_option maxRecDepth 100000 in
noncomputable def mjT57 : List (List (Nat × mjX)) := [[(0, .aload_n 0, 1, 0, 0, 0), (1, .invokespecial 3, 3, 998, 4, 312), (4, .aload_n 0, 1, 0, 0, 0), (5, .sipush 4096, 3, 0, 0, 0), (8, .newarray .long, 2, 1, 0, 193), (10, .putfield 9, 3, 4, 0, 313), (13, .aload_n 0, 1, 0, 0, 0), (14, .iconst 0, 1, 0, 0, 0), (15, .putfield 15, 3, 4, 1, 314), (18, .aload_n 0, 1, 0, 0, 0), (19, .iconst 1, 1, 0, 0, 0), (20, .putfield 19, 3, 4, 2, 315), (23, .aload_n 0, 1, 0, 0, 0), (24, .bipush 12, 2, 0, 0, 0), (26, .newarray .int, 2, 0, 0, 194), (28, .putfield 22, 3, 4, 3, 316), (31, .return_, 1, 0, 0, 0)]]
set_option maxRecDepth 100000 in
noncomputable def mjT58 : List (List (Nat × mjX)) := [[(0, .aload_n 0, 1, 0, 0, 0), (1, .aload_n 1, 1, 0, 0, 0), (2, .getfield 26, 3, 1, 2, 124), (5, .putfield 15, 3, 4, 1, 314), (8, .aload_n 0, 1, 0, 0, 0), (9, .iconst 1, 1, 0, 0, 0), (10, .aload_n 0, 1, 0, 0, 0), (11, .getfield 15, 3, 4, 1, 314), (14, .ishl, 1, 0, 0, 0), (15, .aload_n 0, 1, 0, 0, 0), (16, .getfield 9, 3, 4, 0, 313), (19, .arraylength, 1, 0, 0, 0), (20, .invokestatic 29, 3, 331, 1, 1299), (23, .putfield 19, 3, 4, 2, 315), (26, .aload_n 0, 1, 0, 0, 0), (27, .getfield 9, 3, 4, 0, 313), (30, .iconst 0, 1, 0, 0, 0), (31, .aload_n 1, 1, 0, 0, 0)],
  [(32, .getfield 35, 3, 1, 11, 157), (35, .iload_n 2, 1, 0, 0, 0), (36, .laload, 1, 0, 0, 0), (37, .lastore, 1, 0, 0, 0), (38, .iconst 0, 1, 0, 0, 0), (39, .istore_n 3, 1, 0, 0, 0), (40, .iload_n 3, 1, 0, 0, 0), (41, .aload_n 0, 1, 0, 0, 0), (42, .getfield 15, 3, 4, 1, 314), (45, .if_icmp .ge 67, 3, 0, 112, 0), (48, .iconst 1, 1, 0, 0, 0), (49, .iload_n 3, 1, 0, 0, 0), (50, .ishl, 1, 0, 0, 0), (51, .istore 4, 2, 0, 0, 0), (53, .iconst 0, 1, 0, 0, 0), (54, .istore 5, 2, 0, 0, 0), (56, .iload 5, 2, 0, 0, 0), (58, .iload 4, 2, 0, 0, 0), (60, .if_icmp .ge 46, 3, 0, 106, 0), (63, .iload 4, 2, 0, 0, 0)],
  [(65, .iload 5, 2, 0, 0, 0), (67, .iadd, 1, 0, 0, 0), (68, .aload_n 0, 1, 0, 0, 0), (69, .getfield 9, 3, 4, 0, 313), (72, .arraylength, 1, 0, 0, 0), (73, .if_icmp .ge 33, 3, 0, 106, 0), (76, .aload_n 0, 1, 0, 0, 0), (77, .getfield 9, 3, 4, 0, 313), (80, .iload 4, 2, 0, 0, 0), (82, .iload 5, 2, 0, 0, 0), (84, .iadd, 1, 0, 0, 0), (85, .aload_n 0, 1, 0, 0, 0), (86, .getfield 9, 3, 4, 0, 313), (89, .iload 5, 2, 0, 0, 0), (91, .laload, 1, 0, 0, 0), (92, .aload_n 1, 1, 0, 0, 0), (93, .getfield 38, 3, 1, 7, 143)],
  [(96, .iload_n 3, 1, 0, 0, 0), (97, .laload, 1, 0, 0, 0), (98, .land, 1, 0, 0, 0), (99, .lastore, 1, 0, 0, 0), (100, .iinc 5 1, 3, 0, 0, 0), (103, .goto (-47), 3, 0, 56, 0), (106, .iinc 3 1, 3, 0, 0, 0), (109, .goto (-69), 3, 0, 40, 0), (112, .return_, 1, 0, 0, 0)]]
set_option maxRecDepth 100000 in
noncomputable def mjT59 : List (List (Nat × mjX)) := [[(0, .iconst 0, 1, 0, 0, 0), (1, .istore_n 1, 1, 0, 0, 0), (2, .iconst 0, 1, 0, 0, 0), (3, .istore_n 2, 1, 0, 0, 0), (4, .iload_n 2, 1, 0, 0, 0), (5, .aload_n 0, 1, 0, 0, 0), (6, .getfield 19, 3, 4, 2, 315), (9, .if_icmp .ge 23, 3, 0, 32, 0), (12, .aload_n 0, 1, 0, 0, 0), (13, .getfield 9, 3, 4, 0, 313), (16, .iload_n 2, 1, 0, 0, 0), (17, .laload, 1, 0, 0, 0), (18, .lconst 0, 1, 0, 0, 0), (19, .lcmp, 1, 0, 0, 0), (20, .ifCond .eq 6, 3, 0, 26, 0), (23, .iinc 1 1, 3, 0, 0, 0), (26, .iinc 2 1, 3, 0, 0, 0), (29, .goto (-25), 3, 0, 4, 0)],
  [(32, .iload_n 1, 1, 0, 0, 0), (33, .ireturn, 1, 0, 0, 0)]]
set_option maxRecDepth 100000 in
noncomputable def mjT60 : List (List (Nat × mjX)) := [[(0, .iconst (-1), 1, 0, 0, 0), (1, .istore_n 1, 1, 0, 0, 0), (2, .iconst (-1), 1, 0, 0, 0), (3, .istore_n 2, 1, 0, 0, 0), (4, .iconst 0, 1, 0, 0, 0), (5, .istore_n 3, 1, 0, 0, 0), (6, .iload_n 3, 1, 0, 0, 0), (7, .aload_n 0, 1, 0, 0, 0), (8, .getfield 19, 3, 4, 2, 315), (11, .if_icmp .ge 35, 3, 0, 46, 0), (14, .aload_n 0, 1, 0, 0, 0), (15, .getfield 9, 3, 4, 0, 313), (18, .iload_n 3, 1, 0, 0, 0), (19, .laload, 1, 0, 0, 0), (20, .lconst 0, 1, 0, 0, 0), (21, .lcmp, 1, 0, 0, 0), (22, .ifCond .eq 18, 3, 0, 40, 0), (25, .iload_n 3, 1, 0, 0, 0), (26, .invokestatic 41, 3, 328, 1, 1308), (29, .iload_n 2, 1, 0, 0, 0), (30, .if_icmp .le 10, 3, 0, 40, 0)],
  [(33, .iload_n 3, 1, 0, 0, 0), (34, .invokestatic 41, 3, 328, 1, 1308), (37, .istore_n 2, 1, 0, 0, 0), (38, .iload_n 3, 1, 0, 0, 0), (39, .istore_n 1, 1, 0, 0, 0), (40, .iinc 3 1, 3, 0, 0, 0), (43, .goto (-37), 3, 0, 6, 0), (46, .iload_n 1, 1, 0, 0, 0), (47, .ireturn, 1, 0, 0, 0)]]
set_option maxRecDepth 100000 in
noncomputable def mjT61 : List (List (Nat × mjX)) := [[(0, .iconst (-1), 1, 0, 0, 0), (1, .istore_n 1, 1, 0, 0, 0), (2, .bipush 13, 2, 0, 0, 0), (4, .istore_n 2, 1, 0, 0, 0), (5, .iconst 0, 1, 0, 0, 0), (6, .istore_n 3, 1, 0, 0, 0), (7, .iload_n 3, 1, 0, 0, 0), (8, .aload_n 0, 1, 0, 0, 0), (9, .getfield 19, 3, 4, 2, 315), (12, .if_icmp .ge 35, 3, 0, 47, 0), (15, .aload_n 0, 1, 0, 0, 0), (16, .getfield 9, 3, 4, 0, 313), (19, .iload_n 3, 1, 0, 0, 0), (20, .laload, 1, 0, 0, 0), (21, .lconst 0, 1, 0, 0, 0), (22, .lcmp, 1, 0, 0, 0), (23, .ifCond .ne 18, 3, 0, 41, 0), (26, .iload_n 3, 1, 0, 0, 0), (27, .invokestatic 41, 3, 328, 1, 1308), (30, .iload_n 2, 1, 0, 0, 0), (31, .if_icmp .ge 10, 3, 0, 41, 0)],
  [(34, .iload_n 3, 1, 0, 0, 0), (35, .invokestatic 41, 3, 328, 1, 1308), (38, .istore_n 2, 1, 0, 0, 0), (39, .iload_n 3, 1, 0, 0, 0), (40, .istore_n 1, 1, 0, 0, 0), (41, .iinc 3 1, 3, 0, 0, 0), (44, .goto (-37), 3, 0, 7, 0), (47, .iload_n 1, 1, 0, 0, 0), (48, .ireturn, 1, 0, 0, 0)]]
set_option maxRecDepth 100000 in
noncomputable def mjT62 : List (List (Nat × mjX)) := [[(0, .iconst (-1), 1, 0, 0, 0), (1, .istore_n 3, 1, 0, 0, 0), (2, .bipush 13, 2, 0, 0, 0), (4, .istore 4, 2, 0, 0, 0), (6, .iconst 0, 1, 0, 0, 0), (7, .istore 5, 2, 0, 0, 0), (9, .iload 5, 2, 0, 0, 0), (11, .aload_n 0, 1, 0, 0, 0), (12, .getfield 19, 3, 4, 2, 315), (15, .if_icmp .ge 71, 3, 0, 86, 0), (18, .aload_n 0, 1, 0, 0, 0), (19, .getfield 9, 3, 4, 0, 313), (22, .iload 5, 2, 0, 0, 0), (24, .laload, 1, 0, 0, 0), (25, .lconst 0, 1, 0, 0, 0), (26, .lcmp, 1, 0, 0, 0), (27, .ifCond .eq 25, 3, 0, 52, 0), (30, .aload_n 0, 1, 0, 0, 0), (31, .getfield 9, 3, 4, 0, 313)],
  [(34, .iload 5, 2, 0, 0, 0), (36, .laload, 1, 0, 0, 0), (37, .lload_n 1, 1, 0, 0, 0), (38, .ldc2_w 47, 3, 18446744073709551615, 0, 1343), (41, .lxor, 1, 0, 0, 0), (42, .land, 1, 0, 0, 0), (43, .lconst 0, 1, 0, 0, 0), (44, .lcmp, 1, 0, 0, 0), (45, .ifCond .ne 7, 3, 0, 52, 0), (48, .iconst 1, 1, 0, 0, 0), (49, .goto 4, 3, 0, 53, 0), (52, .iconst 0, 1, 0, 0, 0), (53, .istore 6, 2, 0, 0, 0), (55, .iload 6, 2, 0, 0, 0), (57, .ifCond .eq 23, 3, 0, 80, 0), (60, .iload 5, 2, 0, 0, 0), (62, .invokestatic 41, 3, 328, 1, 1308)],
  [(65, .iload 4, 2, 0, 0, 0), (67, .if_icmp .ge 13, 3, 0, 80, 0), (70, .iload 5, 2, 0, 0, 0), (72, .invokestatic 41, 3, 328, 1, 1308), (75, .istore 4, 2, 0, 0, 0), (77, .iload 5, 2, 0, 0, 0), (79, .istore_n 3, 1, 0, 0, 0), (80, .iinc 5 1, 3, 0, 0, 0), (83, .goto (-74), 3, 0, 9, 0), (86, .iload_n 3, 1, 0, 0, 0), (87, .ireturn, 1, 0, 0, 0)]]
set_option maxRecDepth 100000 in
noncomputable def mjT63 : List (List (Nat × mjX)) := [[(0, .iconst 0, 1, 0, 0, 0), (1, .istore_n 1, 1, 0, 0, 0), (2, .iconst 0, 1, 0, 0, 0), (3, .istore_n 2, 1, 0, 0, 0), (4, .iload_n 2, 1, 0, 0, 0), (5, .aload_n 0, 1, 0, 0, 0), (6, .getfield 19, 3, 4, 2, 315), (9, .if_icmp .ge 20, 3, 0, 29, 0), (12, .aload_n 0, 1, 0, 0, 0), (13, .iload_n 2, 1, 0, 0, 0), (14, .invokevirtual 49, 3, 65, 0, 1313), (17, .ifCond .eq 6, 3, 0, 23, 0), (20, .iinc 1 1, 3, 0, 0, 0), (23, .iinc 2 1, 3, 0, 0, 0), (26, .goto (-22), 3, 0, 4, 0), (29, .iload_n 1, 1, 0, 0, 0), (30, .ireturn, 1, 0, 0, 0)]]
set_option maxRecDepth 100000 in
noncomputable def mjT64 : List (List (Nat × mjX)) := [[(0, .iconst 0, 1, 0, 0, 0), (1, .istore_n 2, 1, 0, 0, 0), (2, .iconst 0, 1, 0, 0, 0), (3, .istore_n 3, 1, 0, 0, 0), (4, .iload_n 3, 1, 0, 0, 0), (5, .aload_n 0, 1, 0, 0, 0), (6, .getfield 19, 3, 4, 2, 315), (9, .if_icmp .ge 27, 3, 0, 36, 0), (12, .aload_n 0, 1, 0, 0, 0), (13, .iload_n 3, 1, 0, 0, 0), (14, .invokevirtual 49, 3, 65, 0, 1313), (17, .ifCond .eq 13, 3, 0, 30, 0), (20, .iload_n 2, 1, 0, 0, 0), (21, .iload_n 1, 1, 0, 0, 0), (22, .if_icmp .ne 5, 3, 0, 27, 0), (25, .iload_n 3, 1, 0, 0, 0), (26, .ireturn, 1, 0, 0, 0), (27, .iinc 2 1, 3, 0, 0, 0), (30, .iinc 3 1, 3, 0, 0, 0)],
  [(33, .goto (-29), 3, 0, 4, 0), (36, .iconst (-1), 1, 0, 0, 0), (37, .ireturn, 1, 0, 0, 0)]]
set_option maxRecDepth 100000 in
noncomputable def mjT65 : List (List (Nat × mjX)) := [[(0, .aload_n 0, 1, 0, 0, 0), (1, .getfield 9, 3, 4, 0, 313), (4, .iload_n 1, 1, 0, 0, 0), (5, .laload, 1, 0, 0, 0), (6, .lconst 0, 1, 0, 0, 0), (7, .lcmp, 1, 0, 0, 0), (8, .ifCond .ne 5, 3, 0, 13, 0), (11, .iconst 0, 1, 0, 0, 0), (12, .ireturn, 1, 0, 0, 0), (13, .iconst 0, 1, 0, 0, 0), (14, .istore_n 2, 1, 0, 0, 0), (15, .iload_n 2, 1, 0, 0, 0), (16, .aload_n 0, 1, 0, 0, 0), (17, .getfield 15, 3, 4, 1, 314), (20, .if_icmp .ge 42, 3, 0, 62, 0), (23, .iload_n 1, 1, 0, 0, 0), (24, .iconst 1, 1, 0, 0, 0), (25, .iload_n 2, 1, 0, 0, 0), (26, .ishl, 1, 0, 0, 0), (27, .ior, 1, 0, 0, 0), (28, .istore_n 3, 1, 0, 0, 0), (29, .iload_n 3, 1, 0, 0, 0), (30, .iload_n 1, 1, 0, 0, 0), (31, .if_icmp .eq 25, 3, 0, 56, 0)],
  [(34, .iload_n 3, 1, 0, 0, 0), (35, .aload_n 0, 1, 0, 0, 0), (36, .getfield 9, 3, 4, 0, 313), (39, .arraylength, 1, 0, 0, 0), (40, .if_icmp .ge 16, 3, 0, 56, 0), (43, .aload_n 0, 1, 0, 0, 0), (44, .getfield 9, 3, 4, 0, 313), (47, .iload_n 3, 1, 0, 0, 0), (48, .laload, 1, 0, 0, 0), (49, .lconst 0, 1, 0, 0, 0), (50, .lcmp, 1, 0, 0, 0), (51, .ifCond .eq 5, 3, 0, 56, 0), (54, .iconst 0, 1, 0, 0, 0), (55, .ireturn, 1, 0, 0, 0), (56, .iinc 2 1, 3, 0, 0, 0), (59, .goto (-44), 3, 0, 15, 0), (62, .iconst 1, 1, 0, 0, 0), (63, .ireturn, 1, 0, 0, 0)]]
set_option maxRecDepth 100000 in
noncomputable def mjT66 : List (List (Nat × mjX)) := [[(0, .iconst 0, 1, 0, 0, 0), (1, .istore_n 3, 1, 0, 0, 0), (2, .iload_n 3, 1, 0, 0, 0), (3, .aload_n 1, 1, 0, 0, 0), (4, .getfield 26, 3, 1, 2, 124), (7, .if_icmp .ge 58, 3, 0, 65, 0), (10, .aload_n 0, 1, 0, 0, 0), (11, .getfield 22, 3, 4, 3, 316), (14, .iload_n 3, 1, 0, 0, 0), (15, .iconst 0, 1, 0, 0, 0), (16, .iastore, 1, 0, 0, 0), (17, .iconst 0, 1, 0, 0, 0), (18, .istore 4, 2, 0, 0, 0), (20, .iload 4, 2, 0, 0, 0), (22, .aload_n 1, 1, 0, 0, 0), (23, .getfield 26, 3, 1, 2, 124), (26, .if_icmp .ge 33, 3, 0, 59, 0), (29, .aload_n 1, 1, 0, 0, 0), (30, .iload_n 3, 1, 0, 0, 0), (31, .iload 4, 2, 0, 0, 0)],
  [(33, .iload_n 2, 1, 0, 0, 0), (34, .invokevirtual 53, 3, 27, 0, 1464), (37, .ifCond .ne 16, 3, 0, 53, 0), (40, .aload_n 0, 1, 0, 0, 0), (41, .getfield 22, 3, 4, 3, 316), (44, .iload_n 3, 1, 0, 0, 0), (45, .dup2, 1, 0, 0, 0), (46, .iaload, 1, 0, 0, 0), (47, .iconst 1, 1, 0, 0, 0), (48, .iload 4, 2, 0, 0, 0), (50, .ishl, 1, 0, 0, 0), (51, .ior, 1, 0, 0, 0), (52, .iastore, 1, 0, 0, 0), (53, .iinc 4 1, 3, 0, 0, 0), (56, .goto (-36), 3, 0, 20, 0), (59, .iinc 3 1, 3, 0, 0, 0), (62, .goto (-60), 3, 0, 2, 0)],
  [(65, .iconst 0, 1, 0, 0, 0), (66, .istore_n 3, 1, 0, 0, 0), (67, .iconst 0, 1, 0, 0, 0), (68, .istore 4, 2, 0, 0, 0), (70, .iconst 1, 1, 0, 0, 0), (71, .istore 5, 2, 0, 0, 0), (73, .iload 5, 2, 0, 0, 0), (75, .iconst 1, 1, 0, 0, 0), (76, .aload_n 1, 1, 0, 0, 0), (77, .getfield 26, 3, 1, 2, 124), (80, .ishl, 1, 0, 0, 0), (81, .if_icmp .ge 42, 3, 0, 123, 0), (84, .iload 5, 2, 0, 0, 0), (86, .invokestatic 41, 3, 328, 1, 1308), (89, .iload 4, 2, 0, 0, 0), (91, .if_icmp .le 26, 3, 0, 117, 0), (94, .aload_n 0, 1, 0, 0, 0), (95, .iload 5, 2, 0, 0, 0)],
  [(97, .aload_n 1, 1, 0, 0, 0), (98, .getfield 26, 3, 1, 2, 124), (101, .invokevirtual 57, 3, 67, 0, 1465), (104, .ifCond .eq 13, 3, 0, 117, 0), (107, .iload 5, 2, 0, 0, 0), (109, .invokestatic 41, 3, 328, 1, 1308), (112, .istore 4, 2, 0, 0, 0), (114, .iload 5, 2, 0, 0, 0), (116, .istore_n 3, 1, 0, 0, 0), (117, .iinc 5 1, 3, 0, 0, 0), (120, .goto (-47), 3, 0, 73, 0), (123, .iload_n 3, 1, 0, 0, 0), (124, .ireturn, 1, 0, 0, 0)]]
set_option maxRecDepth 100000 in
noncomputable def mjT67 : List (List (Nat × mjX)) := [[(0, .iconst 0, 1, 0, 0, 0), (1, .istore_n 3, 1, 0, 0, 0), (2, .iload_n 3, 1, 0, 0, 0), (3, .iload_n 2, 1, 0, 0, 0), (4, .if_icmp .ge 32, 3, 0, 36, 0), (7, .iload_n 1, 1, 0, 0, 0), (8, .iload_n 3, 1, 0, 0, 0), (9, .ishr, 1, 0, 0, 0), (10, .iconst 1, 1, 0, 0, 0), (11, .iand, 1, 0, 0, 0), (12, .ifCond .eq 18, 3, 0, 30, 0), (15, .iload_n 1, 1, 0, 0, 0), (16, .aload_n 0, 1, 0, 0, 0), (17, .getfield 22, 3, 4, 3, 316), (20, .iload_n 3, 1, 0, 0, 0), (21, .iaload, 1, 0, 0, 0), (22, .iconst (-1), 1, 0, 0, 0), (23, .ixor, 1, 0, 0, 0), (24, .iand, 1, 0, 0, 0), (25, .ifCond .eq 5, 3, 0, 30, 0), (28, .iconst 0, 1, 0, 0, 0), (29, .ireturn, 1, 0, 0, 0), (30, .iinc 3 1, 3, 0, 0, 0)],
  [(33, .goto (-31), 3, 0, 2, 0), (36, .iconst 1, 1, 0, 0, 0), (37, .ireturn, 1, 0, 0, 0)]]
set_option maxRecDepth 100000 in
noncomputable def mjT68 : List (List (Nat × mjX)) := [[(0, .aload_n 0, 1, 0, 0, 0), (1, .invokespecial 3, 3, 998, 4, 352), (4, .aload_n 0, 1, 0, 0, 0), (5, .iconst 0, 1, 0, 0, 0), (6, .putfield 9, 3, 5, 1, 354), (9, .aload_n 0, 1, 0, 0, 0), (10, .iconst 0, 1, 0, 0, 0), (11, .putfield 15, 3, 5, 2, 356), (14, .aload_n 0, 1, 0, 0, 0), (15, .sipush 128, 3, 0, 0, 0), (18, .newarray .int, 2, 0, 0, 194), (20, .putfield 19, 3, 5, 3, 357), (23, .aload_n 0, 1, 0, 0, 0), (24, .sipush 128, 3, 0, 0, 0), (27, .newarray .long, 2, 1, 0, 193), (29, .putfield 23, 3, 5, 4, 358)],
  [(32, .aload_n 0, 1, 0, 0, 0), (33, .iconst (-1), 1, 0, 0, 0), (34, .putfield 27, 3, 5, 5, 359), (37, .aload_n 0, 1, 0, 0, 0), (38, .lconst 0, 1, 0, 0, 0), (39, .putfield 30, 3, 5, 6, 361), (42, .aload_n 0, 1, 0, 0, 0), (43, .bipush 7, 2, 0, 0, 0), (45, .newarray .int, 2, 0, 0, 194), (47, .putfield 34, 3, 5, 7, 363), (50, .aload_n 0, 1, 0, 0, 0), (51, .iload_n 1, 1, 0, 0, 0), (52, .putfield 37, 3, 5, 0, 353), (55, .return_, 1, 0, 0, 0)]]
set_option maxRecDepth 100000 in
noncomputable def mjT69 : List (List (Nat × mjX)) := [[(0, .aload_n 0, 1, 0, 0, 0), (1, .getfield 9, 3, 5, 1, 354), (4, .ifCond .eq 12, 3, 0, 16, 0), (7, .aload_n 0, 1, 0, 0, 0), (8, .getfield 15, 3, 5, 2, 356), (11, .iload_n 3, 1, 0, 0, 0), (12, .if_icmp .ne 4, 3, 0, 16, 0), (15, .return_, 1, 0, 0, 0), (16, .aload_n 0, 1, 0, 0, 0), (17, .iconst 1, 1, 0, 0, 0), (18, .putfield 9, 3, 5, 1, 354), (21, .aload_n 0, 1, 0, 0, 0), (22, .iload_n 3, 1, 0, 0, 0), (23, .putfield 15, 3, 5, 2, 356), (26, .aload_n 0, 1, 0, 0, 0), (27, .iconst (-1), 1, 0, 0, 0), (28, .putfield 27, 3, 5, 5, 359), (31, .iconst 0, 1, 0, 0, 0)],
  [(32, .istore 5, 2, 0, 0, 0), (34, .iload 5, 2, 0, 0, 0), (36, .aload_n 0, 1, 0, 0, 0), (37, .getfield 19, 3, 5, 3, 357), (40, .arraylength, 1, 0, 0, 0), (41, .if_icmp .ge 17, 3, 0, 58, 0), (44, .aload_n 0, 1, 0, 0, 0), (45, .getfield 19, 3, 5, 3, 357), (48, .iload 5, 2, 0, 0, 0), (50, .iconst 0, 1, 0, 0, 0), (51, .iastore, 1, 0, 0, 0), (52, .iinc 5 1, 3, 0, 0, 0), (55, .goto (-21), 3, 0, 34, 0), (58, .aload_n 1, 1, 0, 0, 0), (59, .getfield 40, 3, 1, 2, 126), (62, .aload_n 0, 1, 0, 0, 0), (63, .getfield 34, 3, 5, 7, 363)],
  [(66, .arraylength, 1, 0, 0, 0), (67, .invokestatic 45, 3, 331, 1, 1202), (70, .istore 5, 2, 0, 0, 0), (72, .iconst 0, 1, 0, 0, 0), (73, .istore 6, 2, 0, 0, 0), (75, .iload 6, 2, 0, 0, 0), (77, .iload 5, 2, 0, 0, 0), (79, .if_icmp .ge 18, 3, 0, 97, 0), (82, .aload_n 0, 1, 0, 0, 0), (83, .getfield 34, 3, 5, 7, 363), (86, .iload 6, 2, 0, 0, 0), (88, .iload 6, 2, 0, 0, 0), (90, .iastore, 1, 0, 0, 0), (91, .iinc 6 1, 3, 0, 0, 0), (94, .goto (-19), 3, 0, 75, 0)],
  [(97, .aload 4, 2, 0, 0, 0), (99, .aload_n 1, 1, 0, 0, 0), (100, .aload_n 2, 1, 0, 0, 0), (101, .aload_n 0, 1, 0, 0, 0), (102, .getfield 37, 3, 5, 0, 353), (105, .iload_n 3, 1, 0, 0, 0), (106, .invokevirtual 51, 3, 1, 0, 1203), (109, .iconst 0, 1, 0, 0, 0), (110, .istore 6, 2, 0, 0, 0), (112, .iconst 0, 1, 0, 0, 0), (113, .istore 7, 2, 0, 0, 0), (115, .iload 7, 2, 0, 0, 0), (117, .sipush 5040, 3, 0, 0, 0), (120, .if_icmp .ge 52, 3, 0, 172, 0), (123, .iload 6, 2, 0, 0, 0), (125, .iconst (-1), 1, 0, 0, 0), (126, .if_icmp .eq 46, 3, 0, 172, 0)],
  [(129, .aload 4, 2, 0, 0, 0), (131, .aload_n 0, 1, 0, 0, 0), (132, .getfield 34, 3, 5, 7, 363), (135, .iload 5, 2, 0, 0, 0), (137, .iload 6, 2, 0, 0, 0), (139, .invokevirtual 57, 3, 2, 0, 1204), (142, .aload_n 0, 1, 0, 0, 0), (143, .aload 4, 2, 0, 0, 0), (145, .getfield 61, 3, 0, 8, 274), (148, .aload 4, 2, 0, 0, 0), (150, .invokevirtual 64, 3, 12, 0, 1205), (153, .iload 5, 2, 0, 0, 0), (155, .invokevirtual 68, 3, 70, 0, 1206), (158, .aload_n 0, 1, 0, 0, 0), (159, .iload 5, 2, 0, 0, 0)],
  [(161, .invokevirtual 72, 3, 72, 0, 1214), (164, .istore 6, 2, 0, 0, 0), (166, .iinc 7 1, 3, 0, 0, 0), (169, .goto (-54), 3, 0, 115, 0), (172, .return_, 1, 0, 0, 0)]]
set_option maxRecDepth 100000 in
noncomputable def mjT70 : List (List (Nat × mjX)) := [[(0, .iload_n 1, 1, 0, 0, 0), (1, .ifCond .lt 42, 3, 0, 43, 0), (4, .iload_n 1, 1, 0, 0, 0), (5, .aload_n 0, 1, 0, 0, 0), (6, .getfield 19, 3, 5, 3, 357), (9, .arraylength, 1, 0, 0, 0), (10, .if_icmp .ge 33, 3, 0, 43, 0), (13, .aload_n 0, 1, 0, 0, 0), (14, .getfield 19, 3, 5, 3, 357), (17, .iload_n 1, 1, 0, 0, 0), (18, .iaload, 1, 0, 0, 0), (19, .ifCond .ne 14, 3, 0, 33, 0), (22, .aload_n 0, 1, 0, 0, 0), (23, .getfield 23, 3, 5, 4, 358), (26, .iload_n 1, 1, 0, 0, 0), (27, .aload_n 0, 1, 0, 0, 0), (28, .iload_n 3, 1, 0, 0, 0), (29, .invokevirtual 76, 3, 71, 0, 1210)],
  [(32, .lastore, 1, 0, 0, 0), (33, .aload_n 0, 1, 0, 0, 0), (34, .getfield 19, 3, 5, 3, 357), (37, .iload_n 1, 1, 0, 0, 0), (38, .dup2, 1, 0, 0, 0), (39, .iaload, 1, 0, 0, 0), (40, .iconst 1, 1, 0, 0, 0), (41, .iadd, 1, 0, 0, 0), (42, .iastore, 1, 0, 0, 0), (43, .iload_n 2, 1, 0, 0, 0), (44, .aload_n 0, 1, 0, 0, 0), (45, .getfield 27, 3, 5, 5, 359), (48, .if_icmp .le 17, 3, 0, 65, 0), (51, .aload_n 0, 1, 0, 0, 0), (52, .iload_n 2, 1, 0, 0, 0), (53, .putfield 27, 3, 5, 5, 359), (56, .aload_n 0, 1, 0, 0, 0), (57, .aload_n 0, 1, 0, 0, 0), (58, .iload_n 3, 1, 0, 0, 0), (59, .invokevirtual 76, 3, 71, 0, 1210), (62, .putfield 30, 3, 5, 6, 361)],
  [(65, .return_, 1, 0, 0, 0)]]
set_option maxRecDepth 100000 in
noncomputable def mjT71 : List (List (Nat × mjX)) := [[(0, .lconst 0, 1, 0, 0, 0), (1, .lstore_n 2, 1, 0, 0, 0), (2, .iconst 0, 1, 0, 0, 0), (3, .istore 4, 2, 0, 0, 0), (5, .iload 4, 2, 0, 0, 0), (7, .iload_n 1, 1, 0, 0, 0), (8, .if_icmp .ge 22, 3, 0, 30, 0), (11, .lload_n 2, 1, 0, 0, 0), (12, .iconst 4, 1, 0, 0, 0), (13, .lshl, 1, 0, 0, 0), (14, .aload_n 0, 1, 0, 0, 0), (15, .getfield 34, 3, 5, 7, 363), (18, .iload 4, 2, 0, 0, 0), (20, .iaload, 1, 0, 0, 0), (21, .i2l, 1, 0, 0, 0), (22, .lor, 1, 0, 0, 0), (23, .lstore_n 2, 1, 0, 0, 0), (24, .iinc 4 1, 3, 0, 0, 0), (27, .goto (-22), 3, 0, 5, 0), (30, .lload_n 2, 1, 0, 0, 0), (31, .lreturn, 1, 0, 0, 0)]]
set_option maxRecDepth 100000 in
noncomputable def mjT72 : List (List (Nat × mjX)) := [[(0, .iload_n 1, 1, 0, 0, 0), (1, .iconst 2, 1, 0, 0, 0), (2, .isub, 1, 0, 0, 0), (3, .istore_n 2, 1, 0, 0, 0), (4, .iload_n 2, 1, 0, 0, 0), (5, .ifCond .lt 26, 3, 0, 31, 0), (8, .aload_n 0, 1, 0, 0, 0), (9, .getfield 34, 3, 5, 7, 363), (12, .iload_n 2, 1, 0, 0, 0), (13, .iaload, 1, 0, 0, 0), (14, .aload_n 0, 1, 0, 0, 0), (15, .getfield 34, 3, 5, 7, 363), (18, .iload_n 2, 1, 0, 0, 0), (19, .iconst 1, 1, 0, 0, 0), (20, .iadd, 1, 0, 0, 0), (21, .iaload, 1, 0, 0, 0), (22, .if_icmp .le 9, 3, 0, 31, 0), (25, .iinc 2 (-1), 3, 0, 0, 0), (28, .goto (-24), 3, 0, 4, 0), (31, .iload_n 2, 1, 0, 0, 0)],
  [(32, .ifCond .ge 5, 3, 0, 37, 0), (35, .iconst (-1), 1, 0, 0, 0), (36, .ireturn, 1, 0, 0, 0), (37, .iload_n 1, 1, 0, 0, 0), (38, .iconst 1, 1, 0, 0, 0), (39, .isub, 1, 0, 0, 0), (40, .istore_n 3, 1, 0, 0, 0), (41, .iload_n 3, 1, 0, 0, 0), (42, .iload_n 2, 1, 0, 0, 0), (43, .if_icmp .le 24, 3, 0, 67, 0), (46, .aload_n 0, 1, 0, 0, 0), (47, .getfield 34, 3, 5, 7, 363), (50, .iload_n 3, 1, 0, 0, 0), (51, .iaload, 1, 0, 0, 0), (52, .aload_n 0, 1, 0, 0, 0), (53, .getfield 34, 3, 5, 7, 363), (56, .iload_n 2, 1, 0, 0, 0), (57, .iaload, 1, 0, 0, 0), (58, .if_icmp .ge 9, 3, 0, 67, 0), (61, .iinc 3 (-1), 3, 0, 0, 0)],
  [(64, .goto (-23), 3, 0, 41, 0), (67, .aload_n 0, 1, 0, 0, 0), (68, .iload_n 2, 1, 0, 0, 0), (69, .iload_n 3, 1, 0, 0, 0), (70, .invokevirtual 80, 3, 73, 0, 1218), (73, .iload_n 2, 1, 0, 0, 0), (74, .iconst 1, 1, 0, 0, 0), (75, .iadd, 1, 0, 0, 0), (76, .istore 4, 2, 0, 0, 0), (78, .iload_n 1, 1, 0, 0, 0), (79, .iconst 1, 1, 0, 0, 0), (80, .isub, 1, 0, 0, 0), (81, .istore 5, 2, 0, 0, 0), (83, .iload 4, 2, 0, 0, 0), (85, .iload 5, 2, 0, 0, 0), (87, .if_icmp .ge 20, 3, 0, 107, 0), (90, .aload_n 0, 1, 0, 0, 0), (91, .iload 4, 2, 0, 0, 0), (93, .iload 5, 2, 0, 0, 0), (95, .invokevirtual 80, 3, 73, 0, 1218)],
  [(98, .iinc 4 1, 3, 0, 0, 0), (101, .iinc 5 (-1), 3, 0, 0, 0), (104, .goto (-21), 3, 0, 83, 0), (107, .iload_n 2, 1, 0, 0, 0), (108, .ireturn, 1, 0, 0, 0)]]
set_option maxRecDepth 100000 in
noncomputable def mjT73 : List (List (Nat × mjX)) := [[(0, .aload_n 0, 1, 0, 0, 0), (1, .getfield 34, 3, 5, 7, 363), (4, .iload_n 1, 1, 0, 0, 0), (5, .iaload, 1, 0, 0, 0), (6, .istore_n 3, 1, 0, 0, 0), (7, .aload_n 0, 1, 0, 0, 0), (8, .getfield 34, 3, 5, 7, 363), (11, .iload_n 1, 1, 0, 0, 0), (12, .aload_n 0, 1, 0, 0, 0), (13, .getfield 34, 3, 5, 7, 363), (16, .iload_n 2, 1, 0, 0, 0), (17, .iaload, 1, 0, 0, 0), (18, .iastore, 1, 0, 0, 0), (19, .aload_n 0, 1, 0, 0, 0), (20, .getfield 34, 3, 5, 7, 363), (23, .iload_n 2, 1, 0, 0, 0), (24, .iload_n 3, 1, 0, 0, 0), (25, .iastore, 1, 0, 0, 0), (26, .return_, 1, 0, 0, 0)]]
set_option maxRecDepth 100000 in
noncomputable def mjT74 : List (List (Nat × mjX)) := [[(0, .iconst 0, 1, 0, 0, 0), (1, .istore_n 1, 1, 0, 0, 0), (2, .iconst 0, 1, 0, 0, 0), (3, .istore_n 2, 1, 0, 0, 0), (4, .iload_n 2, 1, 0, 0, 0), (5, .aload_n 0, 1, 0, 0, 0), (6, .getfield 19, 3, 5, 3, 357), (9, .arraylength, 1, 0, 0, 0), (10, .if_icmp .ge 21, 3, 0, 31, 0), (13, .aload_n 0, 1, 0, 0, 0), (14, .getfield 19, 3, 5, 3, 357), (17, .iload_n 2, 1, 0, 0, 0), (18, .iaload, 1, 0, 0, 0), (19, .ifCond .le 6, 3, 0, 25, 0), (22, .iinc 1 1, 3, 0, 0, 0), (25, .iinc 2 1, 3, 0, 0, 0), (28, .goto (-24), 3, 0, 4, 0), (31, .iload_n 1, 1, 0, 0, 0)],
  [(32, .ireturn, 1, 0, 0, 0)]]
set_option maxRecDepth 100000 in
noncomputable def mjT75 : List (List (Nat × mjX)) := [[(0, .iconst 1, 1, 0, 0, 0), (1, .iload_n 1, 1, 0, 0, 0), (2, .ishl, 1, 0, 0, 0), (3, .iconst 1, 1, 0, 0, 0), (4, .isub, 1, 0, 0, 0), (5, .istore_n 2, 1, 0, 0, 0), (6, .iconst 0, 1, 0, 0, 0), (7, .istore_n 3, 1, 0, 0, 0), (8, .iload_n 3, 1, 0, 0, 0), (9, .aload_n 0, 1, 0, 0, 0), (10, .getfield 19, 3, 5, 3, 357), (13, .arraylength, 1, 0, 0, 0), (14, .if_icmp .ge 22, 3, 0, 36, 0), (17, .aload_n 0, 1, 0, 0, 0), (18, .getfield 19, 3, 5, 3, 357), (21, .iload_n 3, 1, 0, 0, 0), (22, .iaload, 1, 0, 0, 0), (23, .ifCond .le 7, 3, 0, 30, 0), (26, .iload_n 2, 1, 0, 0, 0), (27, .iload_n 3, 1, 0, 0, 0), (28, .iand, 1, 0, 0, 0), (29, .istore_n 2, 1, 0, 0, 0), (30, .iinc 3 1, 3, 0, 0, 0)],
  [(33, .goto (-25), 3, 0, 8, 0), (36, .iload_n 2, 1, 0, 0, 0), (37, .ireturn, 1, 0, 0, 0)]]
set_option maxRecDepth 100000 in
noncomputable def mjT76 : List (List (Nat × mjX)) := [[(0, .iconst 1, 1, 0, 0, 0), (1, .iload_n 1, 1, 0, 0, 0), (2, .ishl, 1, 0, 0, 0), (3, .iconst 1, 1, 0, 0, 0), (4, .isub, 1, 0, 0, 0), (5, .istore_n 2, 1, 0, 0, 0), (6, .iconst 0, 1, 0, 0, 0), (7, .istore_n 3, 1, 0, 0, 0), (8, .iload_n 3, 1, 0, 0, 0), (9, .aload_n 0, 1, 0, 0, 0), (10, .getfield 19, 3, 5, 3, 357), (13, .arraylength, 1, 0, 0, 0), (14, .if_icmp .ge 24, 3, 0, 38, 0), (17, .aload_n 0, 1, 0, 0, 0), (18, .getfield 19, 3, 5, 3, 357), (21, .iload_n 3, 1, 0, 0, 0), (22, .iaload, 1, 0, 0, 0), (23, .ifCond .le 9, 3, 0, 32, 0), (26, .iload_n 2, 1, 0, 0, 0), (27, .iload_n 3, 1, 0, 0, 0), (28, .iconst (-1), 1, 0, 0, 0), (29, .ixor, 1, 0, 0, 0), (30, .iand, 1, 0, 0, 0), (31, .istore_n 2, 1, 0, 0, 0)],
  [(32, .iinc 3 1, 3, 0, 0, 0), (35, .goto (-27), 3, 0, 8, 0), (38, .iload_n 2, 1, 0, 0, 0), (39, .ireturn, 1, 0, 0, 0)]]
set_option maxRecDepth 100000 in
noncomputable def mjT77 : List (List (Nat × mjX)) := [[(0, .iconst 0, 1, 0, 0, 0), (1, .istore_n 2, 1, 0, 0, 0), (2, .iconst 0, 1, 0, 0, 0), (3, .istore_n 3, 1, 0, 0, 0), (4, .iload_n 3, 1, 0, 0, 0), (5, .aload_n 0, 1, 0, 0, 0), (6, .getfield 19, 3, 5, 3, 357), (9, .arraylength, 1, 0, 0, 0), (10, .if_icmp .ge 25, 3, 0, 35, 0), (13, .iload_n 2, 1, 0, 0, 0), (14, .aload_n 0, 1, 0, 0, 0), (15, .getfield 19, 3, 5, 3, 357), (18, .iload_n 3, 1, 0, 0, 0), (19, .iaload, 1, 0, 0, 0), (20, .iload_n 3, 1, 0, 0, 0), (21, .iload_n 1, 1, 0, 0, 0), (22, .iand, 1, 0, 0, 0), (23, .invokestatic 84, 3, 328, 1, 1245), (26, .imul, 1, 0, 0, 0), (27, .iadd, 1, 0, 0, 0), (28, .istore_n 2, 1, 0, 0, 0), (29, .iinc 3 1, 3, 0, 0, 0)],
  [(32, .goto (-28), 3, 0, 4, 0), (35, .iload_n 2, 1, 0, 0, 0), (36, .ireturn, 1, 0, 0, 0)]]
set_option maxRecDepth 100000 in
noncomputable def mjT78 : List (List (Nat × mjX)) := [[(0, .iconst 0, 1, 0, 0, 0), (1, .istore_n 2, 1, 0, 0, 0), (2, .iconst (-1), 1, 0, 0, 0), (3, .istore_n 3, 1, 0, 0, 0), (4, .iconst 0, 1, 0, 0, 0), (5, .istore 4, 2, 0, 0, 0), (7, .iload 4, 2, 0, 0, 0), (9, .aload_n 0, 1, 0, 0, 0), (10, .getfield 19, 3, 5, 3, 357), (13, .arraylength, 1, 0, 0, 0), (14, .if_icmp .ge 63, 3, 0, 77, 0), (17, .iload 4, 2, 0, 0, 0), (19, .iload_n 1, 1, 0, 0, 0), (20, .iand, 1, 0, 0, 0), (21, .invokestatic 84, 3, 328, 1, 1245), (24, .istore 5, 2, 0, 0, 0), (26, .aload_n 0, 1, 0, 0, 0), (27, .getfield 19, 3, 5, 3, 357), (30, .iload 4, 2, 0, 0, 0)],
  [(32, .iaload, 1, 0, 0, 0), (33, .ifCond .le 38, 3, 0, 71, 0), (36, .iload 5, 2, 0, 0, 0), (38, .iload_n 3, 1, 0, 0, 0), (39, .if_icmp .gt 26, 3, 0, 65, 0), (42, .iload 5, 2, 0, 0, 0), (44, .iload_n 3, 1, 0, 0, 0), (45, .if_icmp .ne 26, 3, 0, 71, 0), (48, .aload_n 0, 1, 0, 0, 0), (49, .getfield 23, 3, 5, 4, 358), (52, .iload 4, 2, 0, 0, 0), (54, .laload, 1, 0, 0, 0), (55, .aload_n 0, 1, 0, 0, 0), (56, .getfield 23, 3, 5, 4, 358), (59, .iload_n 2, 1, 0, 0, 0), (60, .laload, 1, 0, 0, 0), (61, .lcmp, 1, 0, 0, 0), (62, .ifCond .ge 9, 3, 0, 71, 0)],
  [(65, .iload 5, 2, 0, 0, 0), (67, .istore_n 3, 1, 0, 0, 0), (68, .iload 4, 2, 0, 0, 0), (70, .istore_n 2, 1, 0, 0, 0), (71, .iinc 4 1, 3, 0, 0, 0), (74, .goto (-67), 3, 0, 7, 0), (77, .iload_n 2, 1, 0, 0, 0), (78, .ireturn, 1, 0, 0, 0)]]
set_option maxRecDepth 100000 in
noncomputable def mjT79 : List (List (Nat × mjX)) := [[(0, .iload_n 1, 1, 0, 0, 0), (1, .ifCond .lt 12, 3, 0, 13, 0), (4, .iload_n 1, 1, 0, 0, 0), (5, .aload_n 0, 1, 0, 0, 0), (6, .getfield 23, 3, 5, 4, 358), (9, .arraylength, 1, 0, 0, 0), (10, .if_icmp .lt 7, 3, 0, 17, 0), (13, .lconst 0, 1, 0, 0, 0), (14, .goto 9, 3, 0, 23, 0), (17, .aload_n 0, 1, 0, 0, 0), (18, .getfield 23, 3, 5, 4, 358), (21, .iload_n 1, 1, 0, 0, 0), (22, .laload, 1, 0, 0, 0), (23, .lreturn, 1, 0, 0, 0)]]
set_option maxRecDepth 100000 in
noncomputable def mjT80 : List (List (Nat × mjX)) := [[(0, .aload_n 0, 1, 0, 0, 0), (1, .invokespecial 3, 3, 998, 4, 40), (4, .aload_n 0, 1, 0, 0, 0), (5, .sipush 600, 3, 0, 0, 0), (8, .newarray .byte, 2, 2, 0, 75), (10, .putfield 9, 3, 6, 0, 41), (13, .aload_n 0, 1, 0, 0, 0), (14, .iconst 0, 1, 0, 0, 0), (15, .putfield 15, 3, 6, 1, 42), (18, .aload_n 0, 1, 0, 0, 0), (19, .iconst 0, 1, 0, 0, 0), (20, .putfield 19, 3, 6, 2, 44), (23, .aload_n 0, 1, 0, 0, 0), (24, .iconst 0, 1, 0, 0, 0), (25, .putfield 22, 3, 6, 3, 45), (28, .aload_n 0, 1, 0, 0, 0), (29, .iconst 0, 1, 0, 0, 0), (30, .putfield 25, 3, 6, 4, 46)],
  [(33, .aload_n 0, 1, 0, 0, 0), (34, .iconst 0, 1, 0, 0, 0), (35, .putfield 28, 3, 6, 5, 47), (38, .aload_n 0, 1, 0, 0, 0), (39, .iconst 0, 1, 0, 0, 0), (40, .putfield 31, 3, 6, 6, 48), (43, .aload_n 0, 1, 0, 0, 0), (44, .iconst 0, 1, 0, 0, 0), (45, .putfield 34, 3, 6, 7, 49), (48, .aload_n 0, 1, 0, 0, 0), (49, .iconst 0, 1, 0, 0, 0), (50, .putfield 37, 3, 6, 8, 50), (53, .aload_n 0, 1, 0, 0, 0), (54, .iconst (-1), 1, 0, 0, 0), (55, .putfield 40, 3, 6, 9, 52), (58, .return_, 1, 0, 0, 0)]]
set_option maxRecDepth 100000 in
noncomputable def mjT81 : List (List (Nat × mjX)) := [[(0, .bipush 24, 2, 0, 0, 0), (2, .istore_n 2, 1, 0, 0, 0), (3, .iload_n 2, 1, 0, 0, 0), (4, .ifCond .lt 44, 3, 0, 48, 0), (7, .aload_n 0, 1, 0, 0, 0), (8, .getfield 15, 3, 6, 1, 42), (11, .aload_n 0, 1, 0, 0, 0), (12, .getfield 9, 3, 6, 0, 41), (15, .arraylength, 1, 0, 0, 0), (16, .if_icmp .ge 32, 3, 0, 48, 0), (19, .aload_n 0, 1, 0, 0, 0), (20, .getfield 9, 3, 6, 0, 41), (23, .aload_n 0, 1, 0, 0, 0), (24, .getfield 15, 3, 6, 1, 42), (27, .iload_n 1, 1, 0, 0, 0), (28, .iload_n 2, 1, 0, 0, 0), (29, .iushr, 1, 0, 0, 0), (30, .i2b, 1, 0, 0, 0), (31, .bastore, 1, 0, 0, 0)],
  [(32, .aload_n 0, 1, 0, 0, 0), (33, .dup, 1, 0, 0, 0), (34, .getfield 15, 3, 6, 1, 42), (37, .iconst 1, 1, 0, 0, 0), (38, .iadd, 1, 0, 0, 0), (39, .putfield 15, 3, 6, 1, 42), (42, .iinc 2 (-8), 3, 0, 0, 0), (45, .goto (-42), 3, 0, 3, 0), (48, .return_, 1, 0, 0, 0)]]
set_option maxRecDepth 100000 in
noncomputable def mjT82 : List (List (Nat × mjX)) := [[(0, .aload_n 0, 1, 0, 0, 0), (1, .iconst 0, 1, 0, 0, 0), (2, .putfield 15, 3, 6, 1, 42), (5, .aload_n 0, 1, 0, 0, 0), (6, .iconst 0, 1, 0, 0, 0), (7, .iload_n 1, 1, 0, 0, 0), (8, .aload_n 0, 1, 0, 0, 0), (9, .getfield 9, 3, 6, 0, 41), (12, .arraylength, 1, 0, 0, 0), (13, .invokestatic 43, 3, 331, 1, 721), (16, .invokestatic 49, 3, 330, 1, 724), (19, .putfield 19, 3, 6, 2, 44), (22, .aload_n 0, 1, 0, 0, 0), (23, .iconst 0, 1, 0, 0, 0), (24, .putfield 22, 3, 6, 3, 45), (27, .aload_n 0, 1, 0, 0, 0), (28, .iconst 0, 1, 0, 0, 0), (29, .putfield 28, 3, 6, 5, 47)],
  [(32, .aload_n 0, 1, 0, 0, 0), (33, .iconst 0, 1, 0, 0, 0), (34, .putfield 34, 3, 6, 7, 49), (37, .aload_n 0, 1, 0, 0, 0), (38, .iconst 0, 1, 0, 0, 0), (39, .putfield 37, 3, 6, 8, 50), (42, .aload_n 0, 1, 0, 0, 0), (43, .iconst (-1), 1, 0, 0, 0), (44, .putfield 40, 3, 6, 9, 52), (47, .aload_n 0, 1, 0, 0, 0), (48, .invokevirtual 52, 3, 83, 0, 727), (51, .return_, 1, 0, 0, 0)]]
set_option maxRecDepth 100000 in
noncomputable def mjT83 : List (List (Nat × mjX)) := [[(0, .aload_n 0, 1, 0, 0, 0), (1, .getfield 22, 3, 6, 3, 45), (4, .iconst 4, 1, 0, 0, 0), (5, .if_icmp .ne 4, 3, 0, 9, 0), (8, .return_, 1, 0, 0, 0), (9, .aload_n 0, 1, 0, 0, 0), (10, .getfield 28, 3, 6, 5, 47), (13, .istore_n 1, 1, 0, 0, 0), (14, .iload_n 1, 1, 0, 0, 0), (15, .aload_n 0, 1, 0, 0, 0), (16, .getfield 19, 3, 6, 2, 44), (19, .if_icmp .ge 20, 3, 0, 39, 0), (22, .aload_n 0, 1, 0, 0, 0), (23, .getfield 9, 3, 6, 0, 41), (26, .iload_n 1, 1, 0, 0, 0), (27, .baload, 1, 0, 0, 0), (28, .bipush 32, 2, 0, 0, 0), (30, .if_icmp .ne 9, 3, 0, 39, 0)],
  [(33, .iinc 1 1, 3, 0, 0, 0), (36, .goto (-22), 3, 0, 14, 0), (39, .aload_n 0, 1, 0, 0, 0), (40, .iload_n 1, 1, 0, 0, 0), (41, .putfield 25, 3, 6, 4, 46), (44, .aload_n 0, 1, 0, 0, 0), (45, .iload_n 1, 1, 0, 0, 0), (46, .aload_n 0, 1, 0, 0, 0), (47, .getfield 19, 3, 6, 2, 44), (50, .if_icmp .ge 16, 3, 0, 66, 0), (53, .aload_n 0, 1, 0, 0, 0), (54, .getfield 9, 3, 6, 0, 41), (57, .iload_n 1, 1, 0, 0, 0), (58, .baload, 1, 0, 0, 0), (59, .sipush 255, 3, 0, 0, 0), (62, .iand, 1, 0, 0, 0), (63, .goto 4, 3, 0, 67, 0)],
  [(66, .iconst 0, 1, 0, 0, 0), (67, .putfield 31, 3, 6, 6, 48), (70, .iload_n 1, 1, 0, 0, 0), (71, .aload_n 0, 1, 0, 0, 0), (72, .getfield 19, 3, 6, 2, 44), (75, .if_icmp .lt 11, 3, 0, 86, 0), (78, .aload_n 0, 1, 0, 0, 0), (79, .iconst 0, 1, 0, 0, 0), (80, .putfield 22, 3, 6, 3, 45), (83, .goto 160, 3, 0, 243, 0), (86, .aload_n 0, 1, 0, 0, 0), (87, .getfield 31, 3, 6, 6, 48), (90, .bipush 97, 2, 0, 0, 0), (92, .if_icmp .lt 53, 3, 0, 145, 0), (95, .aload_n 0, 1, 0, 0, 0)],
  [(96, .getfield 31, 3, 6, 6, 48), (99, .bipush 122, 2, 0, 0, 0), (101, .if_icmp .gt 44, 3, 0, 145, 0), (104, .aload_n 0, 1, 0, 0, 0), (105, .iconst 1, 1, 0, 0, 0), (106, .putfield 22, 3, 6, 3, 45), (109, .iload_n 1, 1, 0, 0, 0), (110, .aload_n 0, 1, 0, 0, 0), (111, .getfield 19, 3, 6, 2, 44), (114, .if_icmp .ge 129, 3, 0, 243, 0), (117, .aload_n 0, 1, 0, 0, 0), (118, .getfield 9, 3, 6, 0, 41), (121, .iload_n 1, 1, 0, 0, 0), (122, .baload, 1, 0, 0, 0), (123, .bipush 97, 2, 0, 0, 0), (125, .if_icmp .lt 118, 3, 0, 243, 0)],
  [(128, .aload_n 0, 1, 0, 0, 0), (129, .getfield 9, 3, 6, 0, 41), (132, .iload_n 1, 1, 0, 0, 0), (133, .baload, 1, 0, 0, 0), (134, .bipush 122, 2, 0, 0, 0), (136, .if_icmp .gt 107, 3, 0, 243, 0), (139, .iinc 1 1, 3, 0, 0, 0), (142, .goto (-33), 3, 0, 109, 0), (145, .aload_n 0, 1, 0, 0, 0), (146, .getfield 31, 3, 6, 6, 48), (149, .bipush 48, 2, 0, 0, 0), (151, .if_icmp .lt 84, 3, 0, 235, 0), (154, .aload_n 0, 1, 0, 0, 0), (155, .getfield 31, 3, 6, 6, 48), (158, .bipush 57, 2, 0, 0, 0)],
  [(160, .if_icmp .gt 75, 3, 0, 235, 0), (163, .aload_n 0, 1, 0, 0, 0), (164, .iconst 2, 1, 0, 0, 0), (165, .putfield 22, 3, 6, 3, 45), (168, .aload_n 0, 1, 0, 0, 0), (169, .iconst 0, 1, 0, 0, 0), (170, .putfield 31, 3, 6, 6, 48), (173, .iload_n 1, 1, 0, 0, 0), (174, .aload_n 0, 1, 0, 0, 0), (175, .getfield 19, 3, 6, 2, 44), (178, .if_icmp .ge 65, 3, 0, 243, 0), (181, .aload_n 0, 1, 0, 0, 0), (182, .getfield 9, 3, 6, 0, 41), (185, .iload_n 1, 1, 0, 0, 0), (186, .baload, 1, 0, 0, 0), (187, .bipush 48, 2, 0, 0, 0), (189, .if_icmp .lt 54, 3, 0, 243, 0)],
  [(192, .aload_n 0, 1, 0, 0, 0), (193, .getfield 9, 3, 6, 0, 41), (196, .iload_n 1, 1, 0, 0, 0), (197, .baload, 1, 0, 0, 0), (198, .bipush 57, 2, 0, 0, 0), (200, .if_icmp .gt 43, 3, 0, 243, 0), (203, .aload_n 0, 1, 0, 0, 0), (204, .aload_n 0, 1, 0, 0, 0), (205, .getfield 31, 3, 6, 6, 48), (208, .bipush 10, 2, 0, 0, 0), (210, .imul, 1, 0, 0, 0), (211, .aload_n 0, 1, 0, 0, 0), (212, .getfield 9, 3, 6, 0, 41), (215, .iload_n 1, 1, 0, 0, 0), (216, .baload, 1, 0, 0, 0), (217, .iadd, 1, 0, 0, 0), (218, .bipush 48, 2, 0, 0, 0), (220, .isub, 1, 0, 0, 0), (221, .ldc 55, 2, 1000000, 0, 731), (223, .invokestatic 43, 3, 331, 1, 721)],
  [(226, .putfield 31, 3, 6, 6, 48), (229, .iinc 1 1, 3, 0, 0, 0), (232, .goto (-59), 3, 0, 173, 0), (235, .aload_n 0, 1, 0, 0, 0), (236, .iconst 3, 1, 0, 0, 0), (237, .putfield 22, 3, 6, 3, 45), (240, .iinc 1 1, 3, 0, 0, 0), (243, .aload_n 0, 1, 0, 0, 0), (244, .iload_n 1, 1, 0, 0, 0), (245, .putfield 28, 3, 6, 5, 47), (248, .return_, 1, 0, 0, 0)]]
set_option maxRecDepth 100000 in
noncomputable def mjT84 : List (List (Nat × mjX)) := [[(0, .aload_n 0, 1, 0, 0, 0), (1, .getfield 22, 3, 6, 3, 45), (4, .ifCond .eq 15, 3, 0, 19, 0), (7, .aload_n 0, 1, 0, 0, 0), (8, .getfield 22, 3, 6, 3, 45), (11, .iconst 4, 1, 0, 0, 0), (12, .if_icmp .eq 7, 3, 0, 19, 0), (15, .iconst 1, 1, 0, 0, 0), (16, .goto 4, 3, 0, 20, 0), (19, .iconst 0, 1, 0, 0, 0), (20, .ireturn, 1, 0, 0, 0)]]
set_option maxRecDepth 100000 in
noncomputable def mjT85 : List (List (Nat × mjX)) := [[(0, .aload_n 0, 1, 0, 0, 0), (1, .getfield 22, 3, 6, 3, 45), (4, .iconst 1, 1, 0, 0, 0), (5, .if_icmp .ne 19, 3, 0, 24, 0), (8, .aload_n 0, 1, 0, 0, 0), (9, .getfield 28, 3, 6, 5, 47), (12, .aload_n 0, 1, 0, 0, 0), (13, .getfield 25, 3, 6, 4, 46), (16, .isub, 1, 0, 0, 0), (17, .aload_n 1, 1, 0, 0, 0), (18, .invokevirtual 56, 3, 900, 0, 748), (21, .if_icmp .eq 5, 3, 0, 26, 0), (24, .iconst 0, 1, 0, 0, 0), (25, .ireturn, 1, 0, 0, 0), (26, .iconst 0, 1, 0, 0, 0), (27, .istore_n 2, 1, 0, 0, 0), (28, .iload_n 2, 1, 0, 0, 0), (29, .aload_n 1, 1, 0, 0, 0), (30, .invokevirtual 56, 3, 900, 0, 748)],
  [(33, .if_icmp .ge 47, 3, 0, 80, 0), (36, .aload_n 0, 1, 0, 0, 0), (37, .getfield 25, 3, 6, 4, 46), (40, .iload_n 2, 1, 0, 0, 0), (41, .iadd, 1, 0, 0, 0), (42, .aload_n 0, 1, 0, 0, 0), (43, .getfield 19, 3, 6, 2, 44), (46, .if_icmp .ge 34, 3, 0, 80, 0), (49, .aload_n 0, 1, 0, 0, 0), (50, .getfield 9, 3, 6, 0, 41), (53, .aload_n 0, 1, 0, 0, 0), (54, .getfield 25, 3, 6, 4, 46), (57, .iload_n 2, 1, 0, 0, 0), (58, .iadd, 1, 0, 0, 0), (59, .baload, 1, 0, 0, 0), (60, .sipush 255, 3, 0, 0, 0), (63, .iand, 1, 0, 0, 0)],
  [(64, .aload_n 1, 1, 0, 0, 0), (65, .iload_n 2, 1, 0, 0, 0), (66, .invokevirtual 61, 3, 901, 0, 774), (69, .if_icmp .eq 5, 3, 0, 74, 0), (72, .iconst 0, 1, 0, 0, 0), (73, .ireturn, 1, 0, 0, 0), (74, .iinc 2 1, 3, 0, 0, 0), (77, .goto (-49), 3, 0, 28, 0), (80, .iconst 1, 1, 0, 0, 0), (81, .ireturn, 1, 0, 0, 0)]]
set_option maxRecDepth 100000 in
noncomputable def mjT86 : List (List (Nat × mjX)) := [[(0, .aload_n 0, 1, 0, 0, 0), (1, .getfield 22, 3, 6, 3, 45), (4, .iconst 3, 1, 0, 0, 0), (5, .if_icmp .ne 15, 3, 0, 20, 0), (8, .aload_n 0, 1, 0, 0, 0), (9, .getfield 31, 3, 6, 6, 48), (12, .iload_n 1, 1, 0, 0, 0), (13, .if_icmp .ne 7, 3, 0, 20, 0), (16, .iconst 1, 1, 0, 0, 0), (17, .goto 4, 3, 0, 21, 0), (20, .iconst 0, 1, 0, 0, 0), (21, .ireturn, 1, 0, 0, 0)]]
set_option maxRecDepth 100000 in
noncomputable def mjT87 : List (List (Nat × mjX)) := [[(0, .aload_n 0, 1, 0, 0, 0), (1, .getfield 22, 3, 6, 3, 45), (4, .iconst 2, 1, 0, 0, 0), (5, .if_icmp .ne 7, 3, 0, 12, 0), (8, .iconst 1, 1, 0, 0, 0), (9, .goto 4, 3, 0, 13, 0), (12, .iconst 0, 1, 0, 0, 0), (13, .ireturn, 1, 0, 0, 0)]]
set_option maxRecDepth 100000 in
noncomputable def mjT88 : List (List (Nat × mjX)) := [[(0, .aload_n 0, 1, 0, 0, 0), (1, .getfield 22, 3, 6, 3, 45), (4, .iconst 1, 1, 0, 0, 0), (5, .if_icmp .ne 26, 3, 0, 31, 0), (8, .aload_n 0, 1, 0, 0, 0), (9, .getfield 28, 3, 6, 5, 47), (12, .aload_n 0, 1, 0, 0, 0), (13, .getfield 25, 3, 6, 4, 46), (16, .isub, 1, 0, 0, 0), (17, .iconst 1, 1, 0, 0, 0), (18, .if_icmp .ne 13, 3, 0, 31, 0), (21, .aload_n 0, 1, 0, 0, 0), (22, .getfield 31, 3, 6, 6, 48), (25, .bipush 97, 2, 0, 0, 0), (27, .isub, 1, 0, 0, 0), (28, .goto 4, 3, 0, 32, 0), (31, .iconst (-1), 1, 0, 0, 0)],
  [(32, .ireturn, 1, 0, 0, 0)]]
set_option maxRecDepth 100000 in
noncomputable def mjT89 : List (List (Nat × mjX)) := [[(0, .aload_n 0, 1, 0, 0, 0), (1, .getfield 22, 3, 6, 3, 45), (4, .iconst 4, 1, 0, 0, 0), (5, .if_icmp .eq 21, 3, 0, 26, 0), (8, .aload_n 0, 1, 0, 0, 0), (9, .iconst 4, 1, 0, 0, 0), (10, .putfield 22, 3, 6, 3, 45), (13, .aload_n 0, 1, 0, 0, 0), (14, .iload_n 1, 1, 0, 0, 0), (15, .putfield 37, 3, 6, 8, 50), (18, .aload_n 0, 1, 0, 0, 0), (19, .aload_n 0, 1, 0, 0, 0), (20, .getfield 25, 3, 6, 4, 46), (23, .putfield 40, 3, 6, 9, 52), (26, .return_, 1, 0, 0, 0)]]
set_option maxRecDepth 100000 in
noncomputable def mjT90 : List (List (Nat × mjX)) := [[(0, .aload_n 0, 1, 0, 0, 0), (1, .iload_n 1, 1, 0, 0, 0), (2, .invokevirtual 65, 3, 86, 0, 869), (5, .ifCond .eq 10, 3, 0, 15, 0), (8, .aload_n 0, 1, 0, 0, 0), (9, .invokevirtual 52, 3, 83, 0, 727), (12, .goto 8, 3, 0, 20, 0), (15, .aload_n 0, 1, 0, 0, 0), (16, .iconst 1, 1, 0, 0, 0), (17, .invokevirtual 69, 3, 89, 0, 841), (20, .return_, 1, 0, 0, 0)]]
set_option maxRecDepth 100000 in
noncomputable def mjT91 : List (List (Nat × mjX)) := [[(0, .aload_n 0, 1, 0, 0, 0), (1, .aload_n 1, 1, 0, 0, 0), (2, .invokevirtual 73, 3, 85, 0, 856), (5, .ifCond .eq 10, 3, 0, 15, 0), (8, .aload_n 0, 1, 0, 0, 0), (9, .invokevirtual 52, 3, 83, 0, 727), (12, .goto 8, 3, 0, 20, 0), (15, .aload_n 0, 1, 0, 0, 0), (16, .iconst 1, 1, 0, 0, 0), (17, .invokevirtual 69, 3, 89, 0, 841), (20, .return_, 1, 0, 0, 0)]]
set_option maxRecDepth 100000 in
noncomputable def mjT92 : List (List (Nat × mjX)) := [[(0, .iload_n 1, 1, 0, 0, 0), (1, .istore_n 3, 1, 0, 0, 0), (2, .aload_n 0, 1, 0, 0, 0), (3, .getfield 22, 3, 6, 3, 45), (6, .iconst 2, 1, 0, 0, 0), (7, .if_icmp .eq 11, 3, 0, 18, 0), (10, .aload_n 0, 1, 0, 0, 0), (11, .iconst 1, 1, 0, 0, 0), (12, .invokevirtual 69, 3, 89, 0, 841), (15, .goto 36, 3, 0, 51, 0), (18, .aload_n 0, 1, 0, 0, 0), (19, .getfield 31, 3, 6, 6, 48), (22, .iload_n 1, 1, 0, 0, 0), (23, .if_icmp .lt 11, 3, 0, 34, 0), (26, .aload_n 0, 1, 0, 0, 0), (27, .getfield 31, 3, 6, 6, 48), (30, .iload_n 2, 1, 0, 0, 0), (31, .if_icmp .le 11, 3, 0, 42, 0)],
  [(34, .aload_n 0, 1, 0, 0, 0), (35, .iconst 2, 1, 0, 0, 0), (36, .invokevirtual 69, 3, 89, 0, 841), (39, .goto 12, 3, 0, 51, 0), (42, .aload_n 0, 1, 0, 0, 0), (43, .getfield 31, 3, 6, 6, 48), (46, .istore_n 3, 1, 0, 0, 0), (47, .aload_n 0, 1, 0, 0, 0), (48, .invokevirtual 52, 3, 83, 0, 727), (51, .iload_n 3, 1, 0, 0, 0), (52, .ireturn, 1, 0, 0, 0)]]
set_option maxRecDepth 100000 in
noncomputable def mjT93 : List (List (Nat × mjX)) := [[(0, .aload_n 0, 1, 0, 0, 0), (1, .getfield 34, 3, 6, 7, 49), (4, .bipush 6, 2, 0, 0, 0), (6, .if_icmp .lt 10, 3, 0, 16, 0), (9, .aload_n 0, 1, 0, 0, 0), (10, .iconst 3, 1, 0, 0, 0), (11, .invokevirtual 69, 3, 89, 0, 841), (14, .iconst 0, 1, 0, 0, 0), (15, .ireturn, 1, 0, 0, 0), (16, .aload_n 0, 1, 0, 0, 0), (17, .dup, 1, 0, 0, 0), (18, .getfield 34, 3, 6, 7, 49), (21, .iconst 1, 1, 0, 0, 0), (22, .iadd, 1, 0, 0, 0), (23, .putfield 34, 3, 6, 7, 49), (26, .aload_n 0, 1, 0, 0, 0), (27, .invokevirtual 52, 3, 83, 0, 727), (30, .iconst 1, 1, 0, 0, 0), (31, .ireturn, 1, 0, 0, 0)]]
set_option maxRecDepth 100000 in
noncomputable def mjT94 : List (List (Nat × mjX)) := [[(0, .aload_n 0, 1, 0, 0, 0), (1, .dup, 1, 0, 0, 0), (2, .getfield 34, 3, 6, 7, 49), (5, .iconst 1, 1, 0, 0, 0), (6, .isub, 1, 0, 0, 0), (7, .putfield 34, 3, 6, 7, 49), (10, .return_, 1, 0, 0, 0)]]
set_option maxRecDepth 100000 in
noncomputable def mjT95 : List (List (Nat × mjX)) := [[(0, .aload_n 0, 1, 0, 0, 0), (1, .invokespecial 3, 3, 998, 4, 200), (4, .aload_n 0, 1, 0, 0, 0), (5, .iconst 0, 1, 0, 0, 0), (6, .putfield 9, 3, 7, 0, 201), (9, .aload_n 0, 1, 0, 0, 0), (10, .sipush 201, 3, 0, 0, 0), (13, .newarray .int, 2, 0, 0, 194), (15, .putfield 15, 3, 7, 1, 204), (18, .aload_n 0, 1, 0, 0, 0), (19, .iconst 0, 1, 0, 0, 0), (20, .putfield 19, 3, 7, 2, 205), (23, .aload_n 0, 1, 0, 0, 0), (24, .bipush 10, 2, 0, 0, 0), (26, .newarray .int, 2, 0, 0, 194), (28, .putfield 22, 3, 7, 3, 206), (31, .aload_n 0, 1, 0, 0, 0)],
  [(32, .bipush 64, 2, 0, 0, 0), (34, .newarray .int, 2, 0, 0, 194), (36, .putfield 25, 3, 7, 4, 207), (39, .return_, 1, 0, 0, 0)]]
set_option maxRecDepth 100000 in
noncomputable def mjT96 : List (List (Nat × mjX)) := [[(0, .aload_n 0, 1, 0, 0, 0), (1, .iconst 0, 1, 0, 0, 0), (2, .putfield 9, 3, 7, 0, 201), (5, .aload_n 0, 1, 0, 0, 0), (6, .iconst 0, 1, 0, 0, 0), (7, .putfield 19, 3, 7, 2, 205), (10, .return_, 1, 0, 0, 0)]]
set_option maxRecDepth 100000 in
noncomputable def mjT97 : List (List (Nat × mjX)) := [[(0, .aload_n 0, 1, 0, 0, 0), (1, .getfield 19, 3, 7, 2, 205), (4, .aload_n 0, 1, 0, 0, 0), (5, .getfield 15, 3, 7, 1, 204), (8, .arraylength, 1, 0, 0, 0), (9, .if_icmp .ge 23, 3, 0, 32, 0), (12, .aload_n 0, 1, 0, 0, 0), (13, .getfield 15, 3, 7, 1, 204), (16, .aload_n 0, 1, 0, 0, 0), (17, .getfield 19, 3, 7, 2, 205), (20, .iload_n 1, 1, 0, 0, 0), (21, .iastore, 1, 0, 0, 0), (22, .aload_n 0, 1, 0, 0, 0), (23, .dup, 1, 0, 0, 0), (24, .getfield 19, 3, 7, 2, 205), (27, .iconst 1, 1, 0, 0, 0), (28, .iadd, 1, 0, 0, 0), (29, .putfield 19, 3, 7, 2, 205)],
  [(32, .return_, 1, 0, 0, 0)]]
set_option maxRecDepth 100000 in
noncomputable def mjT98 : List (List (Nat × mjX)) := [[(0, .aload_n 0, 1, 0, 0, 0), (1, .getfield 22, 3, 7, 3, 206), (4, .iconst 0, 1, 0, 0, 0), (5, .iload 4, 2, 0, 0, 0), (7, .iastore, 1, 0, 0, 0), (8, .aload_n 0, 1, 0, 0, 0), (9, .getfield 22, 3, 7, 3, 206), (12, .iconst 1, 1, 0, 0, 0), (13, .iload 5, 2, 0, 0, 0), (15, .iastore, 1, 0, 0, 0), (16, .aload_n 0, 1, 0, 0, 0), (17, .getfield 22, 3, 7, 3, 206), (20, .iconst 2, 1, 0, 0, 0), (21, .aload_n 1, 1, 0, 0, 0), (22, .getfield 28, 3, 1, 8, 148), (25, .iload_n 2, 1, 0, 0, 0), (26, .iaload, 1, 0, 0, 0), (27, .iastore, 1, 0, 0, 0), (28, .aload_n 0, 1, 0, 0, 0), (29, .getfield 22, 3, 7, 3, 206)],
  [(32, .iconst 3, 1, 0, 0, 0), (33, .aload_n 1, 1, 0, 0, 0), (34, .getfield 28, 3, 1, 8, 148), (37, .iload_n 3, 1, 0, 0, 0), (38, .iaload, 1, 0, 0, 0), (39, .iastore, 1, 0, 0, 0), (40, .aload_n 0, 1, 0, 0, 0), (41, .getfield 22, 3, 7, 3, 206), (44, .iconst 4, 1, 0, 0, 0), (45, .iload_n 2, 1, 0, 0, 0), (46, .iastore, 1, 0, 0, 0), (47, .aload_n 0, 1, 0, 0, 0), (48, .getfield 22, 3, 7, 3, 206), (51, .iconst 5, 1, 0, 0, 0), (52, .iload_n 3, 1, 0, 0, 0), (53, .iastore, 1, 0, 0, 0), (54, .aload_n 0, 1, 0, 0, 0), (55, .getfield 22, 3, 7, 3, 206), (58, .bipush 6, 2, 0, 0, 0), (60, .iload 6, 2, 0, 0, 0), (62, .iastore, 1, 0, 0, 0), (63, .aload_n 0, 1, 0, 0, 0)],
  [(64, .getfield 22, 3, 7, 3, 206), (67, .bipush 7, 2, 0, 0, 0), (69, .iload 7, 2, 0, 0, 0), (71, .iastore, 1, 0, 0, 0), (72, .aload_n 0, 1, 0, 0, 0), (73, .getfield 22, 3, 7, 3, 206), (76, .bipush 8, 2, 0, 0, 0), (78, .aload_n 1, 1, 0, 0, 0), (79, .getfield 33, 3, 1, 11, 158), (82, .iload 6, 2, 0, 0, 0), (84, .laload, 1, 0, 0, 0), (85, .invokestatic 37, 3, 329, 1, 546), (88, .iastore, 1, 0, 0, 0), (89, .aload_n 0, 1, 0, 0, 0), (90, .getfield 22, 3, 7, 3, 206), (93, .bipush 9, 2, 0, 0, 0), (95, .aload_n 1, 1, 0, 0, 0)],
  [(96, .getfield 43, 3, 1, 7, 144), (99, .iload_n 2, 1, 0, 0, 0), (100, .laload, 1, 0, 0, 0), (101, .aload_n 1, 1, 0, 0, 0), (102, .getfield 43, 3, 1, 7, 144), (105, .iload_n 3, 1, 0, 0, 0), (106, .laload, 1, 0, 0, 0), (107, .land, 1, 0, 0, 0), (108, .invokestatic 37, 3, 329, 1, 546), (111, .iastore, 1, 0, 0, 0), (112, .return_, 1, 0, 0, 0)]]
set_option maxRecDepth 100000 in
noncomputable def mjT99 : List (List (Nat × mjX)) := [[(0, .iconst 0, 1, 0, 0, 0), (1, .istore_n 1, 1, 0, 0, 0), (2, .iconst 0, 1, 0, 0, 0), (3, .istore_n 2, 1, 0, 0, 0), (4, .iload_n 2, 1, 0, 0, 0), (5, .aload_n 0, 1, 0, 0, 0), (6, .getfield 19, 3, 7, 2, 205), (9, .if_icmp .ge 148, 3, 0, 157, 0), (12, .aload_n 0, 1, 0, 0, 0), (13, .getfield 15, 3, 7, 1, 204), (16, .iload_n 2, 1, 0, 0, 0), (17, .iaload, 1, 0, 0, 0), (18, .istore_n 3, 1, 0, 0, 0), (19, .iload_n 3, 1, 0, 0, 0), (20, .sipush 2000, 3, 0, 0, 0), (23, .if_icmp .ge 29, 3, 0, 52, 0), (26, .iload_n 1, 1, 0, 0, 0), (27, .aload_n 0, 1, 0, 0, 0), (28, .getfield 25, 3, 7, 4, 207), (31, .arraylength, 1, 0, 0, 0)],
  [(32, .if_icmp .ge 20, 3, 0, 52, 0), (35, .aload_n 0, 1, 0, 0, 0), (36, .getfield 25, 3, 7, 4, 207), (39, .iload_n 1, 1, 0, 0, 0), (40, .aload_n 0, 1, 0, 0, 0), (41, .iload_n 3, 1, 0, 0, 0), (42, .invokevirtual 46, 3, 100, 0, 551), (45, .iastore, 1, 0, 0, 0), (46, .iinc 1 1, 3, 0, 0, 0), (49, .goto 102, 3, 0, 151, 0), (52, .iload_n 3, 1, 0, 0, 0), (53, .sipush 2008, 3, 0, 0, 0), (56, .if_icmp .ne 22, 3, 0, 78, 0), (59, .iload_n 1, 1, 0, 0, 0), (60, .ifCond .le 18, 3, 0, 78, 0), (63, .aload_n 0, 1, 0, 0, 0)],
  [(64, .getfield 25, 3, 7, 4, 207), (67, .iload_n 1, 1, 0, 0, 0), (68, .iconst 1, 1, 0, 0, 0), (69, .isub, 1, 0, 0, 0), (70, .dup2, 1, 0, 0, 0), (71, .iaload, 1, 0, 0, 0), (72, .iconst 1, 1, 0, 0, 0), (73, .ixor, 1, 0, 0, 0), (74, .iastore, 1, 0, 0, 0), (75, .goto 76, 3, 0, 151, 0), (78, .iload_n 3, 1, 0, 0, 0), (79, .sipush 3000, 3, 0, 0, 0), (82, .if_icmp .ge 40, 3, 0, 122, 0), (85, .iload_n 1, 1, 0, 0, 0), (86, .iconst 1, 1, 0, 0, 0), (87, .if_icmp .le 35, 3, 0, 122, 0), (90, .iinc 1 (-1), 3, 0, 0, 0), (93, .aload_n 0, 1, 0, 0, 0), (94, .getfield 25, 3, 7, 4, 207)],
  [(97, .iload_n 1, 1, 0, 0, 0), (98, .iconst 1, 1, 0, 0, 0), (99, .isub, 1, 0, 0, 0), (100, .iload_n 3, 1, 0, 0, 0), (101, .aload_n 0, 1, 0, 0, 0), (102, .getfield 25, 3, 7, 4, 207), (105, .iload_n 1, 1, 0, 0, 0), (106, .iconst 1, 1, 0, 0, 0), (107, .isub, 1, 0, 0, 0), (108, .iaload, 1, 0, 0, 0), (109, .aload_n 0, 1, 0, 0, 0), (110, .getfield 25, 3, 7, 4, 207), (113, .iload_n 1, 1, 0, 0, 0), (114, .iaload, 1, 0, 0, 0), (115, .invokestatic 50, 3, 101, 1, 555), (118, .iastore, 1, 0, 0, 0), (119, .goto 32, 3, 0, 151, 0), (122, .iload_n 3, 1, 0, 0, 0), (123, .sipush 3000, 3, 0, 0, 0), (126, .if_icmp .lt 25, 3, 0, 151, 0)],
  [(129, .iload_n 1, 1, 0, 0, 0), (130, .ifCond .le 21, 3, 0, 151, 0), (133, .iinc 1 (-1), 3, 0, 0, 0), (136, .aload_n 0, 1, 0, 0, 0), (137, .getfield 25, 3, 7, 4, 207), (140, .iload_n 1, 1, 0, 0, 0), (141, .iaload, 1, 0, 0, 0), (142, .ifCond .eq 9, 3, 0, 151, 0), (145, .iload_n 3, 1, 0, 0, 0), (146, .sipush 3000, 3, 0, 0, 0), (149, .isub, 1, 0, 0, 0), (150, .ireturn, 1, 0, 0, 0), (151, .iinc 2 1, 3, 0, 0, 0), (154, .goto (-150), 3, 0, 4, 0), (157, .iconst 0, 1, 0, 0, 0), (158, .ireturn, 1, 0, 0, 0)]]
set_option maxRecDepth 100000 in
noncomputable def mjT100 : List (List (Nat × mjX)) := [[(0, .iload_n 1, 1, 0, 0, 0), (1, .sipush 1000, 3, 0, 0, 0), (4, .isub, 1, 0, 0, 0), (5, .istore_n 2, 1, 0, 0, 0), (6, .iload_n 2, 1, 0, 0, 0), (7, .ifCond .lt 21, 3, 0, 28, 0), (10, .iload_n 2, 1, 0, 0, 0), (11, .aload_n 0, 1, 0, 0, 0), (12, .getfield 22, 3, 7, 3, 206), (15, .arraylength, 1, 0, 0, 0), (16, .if_icmp .ge 12, 3, 0, 28, 0), (19, .aload_n 0, 1, 0, 0, 0), (20, .getfield 22, 3, 7, 3, 206), (23, .iload_n 2, 1, 0, 0, 0), (24, .iaload, 1, 0, 0, 0), (25, .goto 4, 3, 0, 29, 0), (28, .iload_n 1, 1, 0, 0, 0), (29, .ireturn, 1, 0, 0, 0)]]
set_option maxRecDepth 100000 in
noncomputable def mjT101 : List (List (Nat × mjX)) := [[(0, .iload_n 0, 1, 0, 0, 0), (1, .tableswitch 92 2000 2006 #[43, 47, 51, 55, 66, 77, 88], 43, 0, 0, 0)],
  [(44, .iload_n 1, 1, 0, 0, 0), (45, .iload_n 2, 1, 0, 0, 0), (46, .iadd, 1, 0, 0, 0), (47, .ireturn, 1, 0, 0, 0), (48, .iload_n 1, 1, 0, 0, 0), (49, .iload_n 2, 1, 0, 0, 0), (50, .isub, 1, 0, 0, 0), (51, .ireturn, 1, 0, 0, 0), (52, .iload_n 1, 1, 0, 0, 0), (53, .iload_n 2, 1, 0, 0, 0), (54, .imul, 1, 0, 0, 0), (55, .ireturn, 1, 0, 0, 0), (56, .iload_n 1, 1, 0, 0, 0), (57, .iload_n 2, 1, 0, 0, 0), (58, .if_icmp .ge 7, 3, 0, 65, 0), (61, .iconst 1, 1, 0, 0, 0), (62, .goto 4, 3, 0, 66, 0)],
  [(65, .iconst 0, 1, 0, 0, 0), (66, .ireturn, 1, 0, 0, 0), (67, .iload_n 1, 1, 0, 0, 0), (68, .iload_n 2, 1, 0, 0, 0), (69, .if_icmp .le 7, 3, 0, 76, 0), (72, .iconst 1, 1, 0, 0, 0), (73, .goto 4, 3, 0, 77, 0), (76, .iconst 0, 1, 0, 0, 0), (77, .ireturn, 1, 0, 0, 0), (78, .iload_n 1, 1, 0, 0, 0), (79, .iload_n 2, 1, 0, 0, 0), (80, .if_icmp .ne 7, 3, 0, 87, 0), (83, .iconst 1, 1, 0, 0, 0), (84, .goto 4, 3, 0, 88, 0), (87, .iconst 0, 1, 0, 0, 0), (88, .ireturn, 1, 0, 0, 0), (89, .iload_n 1, 1, 0, 0, 0), (90, .iload_n 2, 1, 0, 0, 0), (91, .iand, 1, 0, 0, 0), (92, .ireturn, 1, 0, 0, 0), (93, .iload_n 1, 1, 0, 0, 0), (94, .iload_n 2, 1, 0, 0, 0), (95, .ior, 1, 0, 0, 0)],
  [(96, .ireturn, 1, 0, 0, 0)]]
set_option maxRecDepth 100000 in
noncomputable def mjT102 : List (List (Nat × mjX)) := [[(0, .aload_n 1, 1, 0, 0, 0), (1, .invokevirtual 9, 3, 96, 0, 951), (4, .iconst 0, 1, 0, 0, 0), (5, .istore_n 2, 1, 0, 0, 0), (6, .iload_n 2, 1, 0, 0, 0), (7, .sipush 200, 3, 0, 0, 0), (10, .if_icmp .ge 85, 3, 0, 95, 0), (13, .aload_n 0, 1, 0, 0, 0), (14, .invokevirtual 14, 3, 84, 0, 952), (17, .ifCond .eq 78, 3, 0, 95, 0), (20, .aload_n 0, 1, 0, 0, 0), (21, .invokestatic 20, 3, 103, 1, 953), (24, .istore_n 3, 1, 0, 0, 0), (25, .iload_n 3, 1, 0, 0, 0), (26, .iconst (-1), 1, 0, 0, 0), (27, .if_icmp .ne 11, 3, 0, 38, 0), (30, .aload_n 0, 1, 0, 0, 0), (31, .iconst 1, 1, 0, 0, 0)],
  [(32, .invokevirtual 26, 3, 89, 0, 960), (35, .goto 54, 3, 0, 89, 0), (38, .aload_n 1, 1, 0, 0, 0), (39, .getfield 30, 3, 7, 0, 202), (42, .bipush 10, 2, 0, 0, 0), (44, .if_icmp .lt 11, 3, 0, 55, 0), (47, .aload_n 0, 1, 0, 0, 0), (48, .iconst 3, 1, 0, 0, 0), (49, .invokevirtual 26, 3, 89, 0, 960), (52, .goto 37, 3, 0, 89, 0), (55, .aload_n 0, 1, 0, 0, 0), (56, .invokevirtual 34, 3, 83, 0, 961), (59, .aload_n 0, 1, 0, 0, 0), (60, .aload_n 1, 1, 0, 0, 0), (61, .invokestatic 37, 3, 104, 1, 962)],
  [(64, .aload_n 0, 1, 0, 0, 0), (65, .bipush 59, 2, 0, 0, 0), (67, .invokevirtual 41, 3, 90, 0, 979), (70, .aload_n 1, 1, 0, 0, 0), (71, .sipush 3000, 3, 0, 0, 0), (74, .iload_n 3, 1, 0, 0, 0), (75, .iadd, 1, 0, 0, 0), (76, .invokevirtual 45, 3, 97, 0, 974), (79, .aload_n 1, 1, 0, 0, 0), (80, .dup, 1, 0, 0, 0), (81, .getfield 30, 3, 7, 0, 202), (84, .iconst 1, 1, 0, 0, 0), (85, .iadd, 1, 0, 0, 0), (86, .putfield 30, 3, 7, 0, 202), (89, .iinc 2 1, 3, 0, 0, 0), (92, .goto (-86), 3, 0, 6, 0), (95, .return_, 1, 0, 0, 0)]]
set_option maxRecDepth 100000 in
noncomputable def mjT103 : List (List (Nat × mjX)) := [[(0, .aload_n 0, 1, 0, 0, 0), (1, .ldc 48, 2, 12, 1, 956), (3, .invokevirtual 50, 3, 85, 0, 957), (6, .ifCond .eq 5, 3, 0, 11, 0), (9, .iconst 0, 1, 0, 0, 0), (10, .ireturn, 1, 0, 0, 0), (11, .aload_n 0, 1, 0, 0, 0), (12, .ldc 54, 2, 13, 1, 958), (14, .invokevirtual 50, 3, 85, 0, 957), (17, .ifCond .eq 5, 3, 0, 22, 0), (20, .iconst 1, 1, 0, 0, 0), (21, .ireturn, 1, 0, 0, 0), (22, .aload_n 0, 1, 0, 0, 0), (23, .ldc 56, 2, 14, 1, 959), (25, .invokevirtual 50, 3, 85, 0, 957), (28, .ifCond .eq 7, 3, 0, 35, 0), (31, .iconst 2, 1, 0, 0, 0)],
  [(32, .goto 4, 3, 0, 36, 0), (35, .iconst (-1), 1, 0, 0, 0), (36, .ireturn, 1, 0, 0, 0)]]
set_option maxRecDepth 100000 in
noncomputable def mjT104 : List (List (Nat × mjX)) := [[(0, .aload_n 0, 1, 0, 0, 0), (1, .aload_n 1, 1, 0, 0, 0), (2, .invokestatic 58, 3, 105, 1, 965), (5, .iconst 0, 1, 0, 0, 0), (6, .istore_n 2, 1, 0, 0, 0), (7, .iload_n 2, 1, 0, 0, 0), (8, .sipush 200, 3, 0, 0, 0), (11, .if_icmp .ge 34, 3, 0, 45, 0), (14, .aload_n 0, 1, 0, 0, 0), (15, .ldc 61, 2, 27, 1, 1027), (17, .invokevirtual 50, 3, 85, 0, 957), (20, .ifCond .eq 25, 3, 0, 45, 0), (23, .aload_n 0, 1, 0, 0, 0), (24, .invokevirtual 34, 3, 83, 0, 961), (27, .aload_n 0, 1, 0, 0, 0), (28, .aload_n 1, 1, 0, 0, 0), (29, .invokestatic 58, 3, 105, 1, 965)],
  [(32, .aload_n 1, 1, 0, 0, 0), (33, .sipush 2007, 3, 0, 0, 0), (36, .invokevirtual 45, 3, 97, 0, 974), (39, .iinc 2 1, 3, 0, 0, 0), (42, .goto (-35), 3, 0, 7, 0), (45, .return_, 1, 0, 0, 0)]]
set_option maxRecDepth 100000 in
noncomputable def mjT105 : List (List (Nat × mjX)) := [[(0, .aload_n 0, 1, 0, 0, 0), (1, .aload_n 1, 1, 0, 0, 0), (2, .invokestatic 63, 3, 106, 1, 968), (5, .iconst 0, 1, 0, 0, 0), (6, .istore_n 2, 1, 0, 0, 0), (7, .iload_n 2, 1, 0, 0, 0), (8, .sipush 200, 3, 0, 0, 0), (11, .if_icmp .ge 34, 3, 0, 45, 0), (14, .aload_n 0, 1, 0, 0, 0), (15, .ldc 66, 2, 26, 1, 1026), (17, .invokevirtual 50, 3, 85, 0, 957), (20, .ifCond .eq 25, 3, 0, 45, 0), (23, .aload_n 0, 1, 0, 0, 0), (24, .invokevirtual 34, 3, 83, 0, 961), (27, .aload_n 0, 1, 0, 0, 0), (28, .aload_n 1, 1, 0, 0, 0), (29, .invokestatic 63, 3, 106, 1, 968)],
  [(32, .aload_n 1, 1, 0, 0, 0), (33, .sipush 2006, 3, 0, 0, 0), (36, .invokevirtual 45, 3, 97, 0, 974), (39, .iinc 2 1, 3, 0, 0, 0), (42, .goto (-35), 3, 0, 7, 0), (45, .return_, 1, 0, 0, 0)]]
set_option maxRecDepth 100000 in
noncomputable def mjT106 : List (List (Nat × mjX)) := [[(0, .aload_n 0, 1, 0, 0, 0), (1, .ldc 68, 2, 15, 1, 971), (3, .invokevirtual 50, 3, 85, 0, 957), (6, .ifCond .eq 29, 3, 0, 35, 0), (9, .aload_n 0, 1, 0, 0, 0), (10, .invokevirtual 70, 3, 93, 0, 972), (13, .ifCond .eq 61, 3, 0, 74, 0), (16, .aload_n 0, 1, 0, 0, 0), (17, .aload_n 1, 1, 0, 0, 0), (18, .invokestatic 63, 3, 106, 1, 968), (21, .aload_n 0, 1, 0, 0, 0), (22, .invokevirtual 73, 3, 94, 0, 973), (25, .aload_n 1, 1, 0, 0, 0), (26, .sipush 2008, 3, 0, 0, 0), (29, .invokevirtual 45, 3, 97, 0, 974)],
  [(32, .goto 42, 3, 0, 74, 0), (35, .aload_n 0, 1, 0, 0, 0), (36, .bipush 91, 2, 0, 0, 0), (38, .invokevirtual 76, 3, 86, 0, 978), (41, .ifCond .eq 28, 3, 0, 69, 0), (44, .aload_n 0, 1, 0, 0, 0), (45, .invokevirtual 70, 3, 93, 0, 972), (48, .ifCond .eq 26, 3, 0, 74, 0), (51, .aload_n 0, 1, 0, 0, 0), (52, .aload_n 1, 1, 0, 0, 0), (53, .invokestatic 37, 3, 104, 1, 962), (56, .aload_n 0, 1, 0, 0, 0), (57, .bipush 93, 2, 0, 0, 0), (59, .invokevirtual 41, 3, 90, 0, 979), (62, .aload_n 0, 1, 0, 0, 0), (63, .invokevirtual 73, 3, 94, 0, 973)],
  [(66, .goto 8, 3, 0, 74, 0), (69, .aload_n 0, 1, 0, 0, 0), (70, .aload_n 1, 1, 0, 0, 0), (71, .invokestatic 80, 3, 107, 1, 980), (74, .return_, 1, 0, 0, 0)]]
set_option maxRecDepth 100000 in
noncomputable def mjT107 : List (List (Nat × mjX)) := [[(0, .aload_n 0, 1, 0, 0, 0), (1, .aload_n 1, 1, 0, 0, 0), (2, .invokestatic 83, 3, 108, 1, 983), (5, .sipush 2005, 3, 0, 0, 0), (8, .istore_n 2, 1, 0, 0, 0), (9, .aload_n 0, 1, 0, 0, 0), (10, .bipush 60, 2, 0, 0, 0), (12, .invokevirtual 76, 3, 86, 0, 978), (15, .ifCond .eq 10, 3, 0, 25, 0), (18, .sipush 2003, 3, 0, 0, 0), (21, .istore_n 2, 1, 0, 0, 0), (22, .goto 33, 3, 0, 55, 0), (25, .aload_n 0, 1, 0, 0, 0), (26, .bipush 62, 2, 0, 0, 0), (28, .invokevirtual 76, 3, 86, 0, 978), (31, .ifCond .eq 10, 3, 0, 41, 0)],
  [(34, .sipush 2004, 3, 0, 0, 0), (37, .istore_n 2, 1, 0, 0, 0), (38, .goto 17, 3, 0, 55, 0), (41, .aload_n 0, 1, 0, 0, 0), (42, .bipush 61, 2, 0, 0, 0), (44, .invokevirtual 76, 3, 86, 0, 978), (47, .ifCond .ne 8, 3, 0, 55, 0), (50, .aload_n 0, 1, 0, 0, 0), (51, .iconst 1, 1, 0, 0, 0), (52, .invokevirtual 26, 3, 89, 0, 960), (55, .aload_n 0, 1, 0, 0, 0), (56, .invokevirtual 34, 3, 83, 0, 961), (59, .aload_n 0, 1, 0, 0, 0), (60, .aload_n 1, 1, 0, 0, 0), (61, .invokestatic 83, 3, 108, 1, 983)],
  [(64, .aload_n 1, 1, 0, 0, 0), (65, .iload_n 2, 1, 0, 0, 0), (66, .invokevirtual 45, 3, 97, 0, 974), (69, .return_, 1, 0, 0, 0)]]
set_option maxRecDepth 100000 in
noncomputable def mjT108 : List (List (Nat × mjX)) := [[(0, .aload_n 0, 1, 0, 0, 0), (1, .aload_n 1, 1, 0, 0, 0), (2, .invokestatic 86, 3, 109, 1, 986), (5, .iconst 0, 1, 0, 0, 0), (6, .istore_n 2, 1, 0, 0, 0), (7, .iload_n 2, 1, 0, 0, 0), (8, .sipush 200, 3, 0, 0, 0), (11, .if_icmp .ge 60, 3, 0, 71, 0), (14, .aload_n 0, 1, 0, 0, 0), (15, .bipush 43, 2, 0, 0, 0), (17, .invokevirtual 76, 3, 86, 0, 978), (20, .ifCond .ne 12, 3, 0, 32, 0), (23, .aload_n 0, 1, 0, 0, 0), (24, .bipush 45, 2, 0, 0, 0), (26, .invokevirtual 76, 3, 86, 0, 978), (29, .ifCond .eq 42, 3, 0, 71, 0)],
  [(32, .aload_n 0, 1, 0, 0, 0), (33, .bipush 43, 2, 0, 0, 0), (35, .invokevirtual 76, 3, 86, 0, 978), (38, .ifCond .eq 9, 3, 0, 47, 0), (41, .sipush 2000, 3, 0, 0, 0), (44, .goto 6, 3, 0, 50, 0), (47, .sipush 2001, 3, 0, 0, 0), (50, .istore_n 3, 1, 0, 0, 0), (51, .aload_n 0, 1, 0, 0, 0), (52, .invokevirtual 34, 3, 83, 0, 961), (55, .aload_n 0, 1, 0, 0, 0), (56, .aload_n 1, 1, 0, 0, 0), (57, .invokestatic 86, 3, 109, 1, 986), (60, .aload_n 1, 1, 0, 0, 0), (61, .iload_n 3, 1, 0, 0, 0), (62, .invokevirtual 45, 3, 97, 0, 974)],
  [(65, .iinc 2 1, 3, 0, 0, 0), (68, .goto (-61), 3, 0, 7, 0), (71, .return_, 1, 0, 0, 0)]]
set_option maxRecDepth 100000 in
noncomputable def mjT109 : List (List (Nat × mjX)) := [[(0, .aload_n 0, 1, 0, 0, 0), (1, .aload_n 1, 1, 0, 0, 0), (2, .invokestatic 89, 3, 110, 1, 989), (5, .iconst 0, 1, 0, 0, 0), (6, .istore_n 2, 1, 0, 0, 0), (7, .iload_n 2, 1, 0, 0, 0), (8, .sipush 200, 3, 0, 0, 0), (11, .if_icmp .ge 34, 3, 0, 45, 0), (14, .aload_n 0, 1, 0, 0, 0), (15, .bipush 42, 2, 0, 0, 0), (17, .invokevirtual 76, 3, 86, 0, 978), (20, .ifCond .eq 25, 3, 0, 45, 0), (23, .aload_n 0, 1, 0, 0, 0), (24, .invokevirtual 34, 3, 83, 0, 961), (27, .aload_n 0, 1, 0, 0, 0), (28, .aload_n 1, 1, 0, 0, 0), (29, .invokestatic 89, 3, 110, 1, 989)],
  [(32, .aload_n 1, 1, 0, 0, 0), (33, .sipush 2002, 3, 0, 0, 0), (36, .invokevirtual 45, 3, 97, 0, 974), (39, .iinc 2 1, 3, 0, 0, 0), (42, .goto (-35), 3, 0, 7, 0), (45, .return_, 1, 0, 0, 0)]]
set_option maxRecDepth 100000 in
noncomputable def mjT110 : List (List (Nat × mjX)) := [[(0, .aload_n 0, 1, 0, 0, 0), (1, .bipush 40, 2, 0, 0, 0), (3, .invokevirtual 76, 3, 86, 0, 978), (6, .ifCond .eq 28, 3, 0, 34, 0), (9, .aload_n 0, 1, 0, 0, 0), (10, .invokevirtual 70, 3, 93, 0, 972), (13, .ifCond .eq 71, 3, 0, 84, 0), (16, .aload_n 0, 1, 0, 0, 0), (17, .aload_n 1, 1, 0, 0, 0), (18, .invokestatic 83, 3, 108, 1, 983), (21, .aload_n 0, 1, 0, 0, 0), (22, .bipush 41, 2, 0, 0, 0), (24, .invokevirtual 41, 3, 90, 0, 979), (27, .aload_n 0, 1, 0, 0, 0), (28, .invokevirtual 73, 3, 94, 0, 973), (31, .goto 53, 3, 0, 84, 0)],
  [(34, .aload_n 0, 1, 0, 0, 0), (35, .invokevirtual 92, 3, 87, 0, 992), (38, .ifCond .eq 18, 3, 0, 56, 0), (41, .aload_n 1, 1, 0, 0, 0), (42, .aload_n 0, 1, 0, 0, 0), (43, .iconst 0, 1, 0, 0, 0), (44, .sipush 999, 3, 0, 0, 0), (47, .invokevirtual 95, 3, 92, 0, 996), (50, .invokevirtual 45, 3, 97, 0, 974), (53, .goto 31, 3, 0, 84, 0), (56, .aload_n 0, 1, 0, 0, 0), (57, .invokestatic 99, 3, 111, 1, 997), (60, .istore_n 2, 1, 0, 0, 0), (61, .iload_n 2, 1, 0, 0, 0), (62, .iconst (-1), 1, 0, 0, 0), (63, .if_icmp .ne 8, 3, 0, 71, 0)],
  [(66, .aload_n 0, 1, 0, 0, 0), (67, .iconst 1, 1, 0, 0, 0), (68, .invokevirtual 26, 3, 89, 0, 960), (71, .aload_n 0, 1, 0, 0, 0), (72, .invokevirtual 34, 3, 83, 0, 961), (75, .aload_n 1, 1, 0, 0, 0), (76, .sipush 1000, 3, 0, 0, 0), (79, .iload_n 2, 1, 0, 0, 0), (80, .iadd, 1, 0, 0, 0), (81, .invokevirtual 45, 3, 97, 0, 974), (84, .return_, 1, 0, 0, 0)]]
set_option maxRecDepth 100000 in
noncomputable def mjT111 : List (List (Nat × mjX)) := [[(0, .aload_n 0, 1, 0, 0, 0), (1, .ldc 102, 2, 16, 1, 1000), (3, .invokevirtual 50, 3, 85, 0, 957), (6, .ifCond .eq 5, 3, 0, 11, 0), (9, .iconst 0, 1, 0, 0, 0), (10, .ireturn, 1, 0, 0, 0), (11, .aload_n 0, 1, 0, 0, 0), (12, .ldc 104, 2, 17, 1, 1001), (14, .invokevirtual 50, 3, 85, 0, 957), (17, .ifCond .eq 5, 3, 0, 22, 0), (20, .iconst 1, 1, 0, 0, 0), (21, .ireturn, 1, 0, 0, 0), (22, .aload_n 0, 1, 0, 0, 0), (23, .ldc 106, 2, 18, 1, 1002), (25, .invokevirtual 50, 3, 85, 0, 957), (28, .ifCond .eq 5, 3, 0, 33, 0), (31, .iconst 2, 1, 0, 0, 0)],
  [(32, .ireturn, 1, 0, 0, 0), (33, .aload_n 0, 1, 0, 0, 0), (34, .ldc 108, 2, 19, 1, 1003), (36, .invokevirtual 50, 3, 85, 0, 957), (39, .ifCond .eq 5, 3, 0, 44, 0), (42, .iconst 3, 1, 0, 0, 0), (43, .ireturn, 1, 0, 0, 0), (44, .aload_n 0, 1, 0, 0, 0), (45, .ldc 110, 2, 20, 1, 1004), (47, .invokevirtual 50, 3, 85, 0, 957), (50, .ifCond .eq 5, 3, 0, 55, 0), (53, .iconst 4, 1, 0, 0, 0), (54, .ireturn, 1, 0, 0, 0), (55, .aload_n 0, 1, 0, 0, 0), (56, .ldc 112, 2, 21, 1, 1005), (58, .invokevirtual 50, 3, 85, 0, 957), (61, .ifCond .eq 5, 3, 0, 66, 0)],
  [(64, .iconst 5, 1, 0, 0, 0), (65, .ireturn, 1, 0, 0, 0), (66, .aload_n 0, 1, 0, 0, 0), (67, .ldc 114, 2, 22, 1, 1006), (69, .invokevirtual 50, 3, 85, 0, 957), (72, .ifCond .eq 6, 3, 0, 78, 0), (75, .bipush 6, 2, 0, 0, 0), (77, .ireturn, 1, 0, 0, 0), (78, .aload_n 0, 1, 0, 0, 0), (79, .ldc 116, 2, 23, 1, 1007), (81, .invokevirtual 50, 3, 85, 0, 957), (84, .ifCond .eq 6, 3, 0, 90, 0), (87, .bipush 7, 2, 0, 0, 0), (89, .ireturn, 1, 0, 0, 0), (90, .aload_n 0, 1, 0, 0, 0), (91, .ldc 118, 2, 24, 1, 1024), (93, .invokevirtual 50, 3, 85, 0, 957)],
  [(96, .ifCond .eq 6, 3, 0, 102, 0), (99, .bipush 8, 2, 0, 0, 0), (101, .ireturn, 1, 0, 0, 0), (102, .aload_n 0, 1, 0, 0, 0), (103, .ldc 120, 2, 25, 1, 1025), (105, .invokevirtual 50, 3, 85, 0, 957), (108, .ifCond .eq 8, 3, 0, 116, 0), (111, .bipush 9, 2, 0, 0, 0), (113, .goto 4, 3, 0, 117, 0), (116, .iconst (-1), 1, 0, 0, 0), (117, .ireturn, 1, 0, 0, 0)]]
set_option maxRecDepth 100000 in
noncomputable def mjT112 : List (List (Nat × mjX)) := [[(0, .aload_n 0, 1, 0, 0, 0), (1, .invokespecial 1, 3, 998, 4, 32), (4, .aload_n 0, 1, 0, 0, 0), (5, .new 7, 3, 6, 0, 35), (8, .dup, 1, 0, 0, 0), (9, .invokespecial 9, 3, 80, 3, 37), (12, .putfield 10, 3, 8, 0, 381), (15, .aload_n 0, 1, 0, 0, 0), (16, .iconst (-1), 1, 0, 0, 0), (17, .putfield 16, 3, 8, 1, 382), (20, .aload_n 0, 1, 0, 0, 0), (21, .new 20, 3, 1, 0, 76), (24, .dup, 1, 0, 0, 0), (25, .invokespecial 22, 3, 15, 2, 78), (28, .putfield 23, 3, 8, 2, 383), (31, .aload_n 0, 1, 0, 0, 0)],
  [(32, .new 20, 3, 1, 0, 76), (35, .dup, 1, 0, 0, 0), (36, .invokespecial 22, 3, 15, 2, 78), (39, .putfield 27, 3, 8, 3, 384), (42, .aload_n 0, 1, 0, 0, 0), (43, .new 30, 3, 7, 0, 195), (46, .dup, 1, 0, 0, 0), (47, .invokespecial 32, 3, 95, 3, 197), (50, .putfield 33, 3, 8, 4, 385), (53, .aload_n 0, 1, 0, 0, 0), (54, .new 30, 3, 7, 0, 195), (57, .dup, 1, 0, 0, 0), (58, .invokespecial 32, 3, 95, 3, 197), (61, .putfield 37, 3, 8, 5, 386)],
  [(64, .aload_n 0, 1, 0, 0, 0), (65, .aload_n 0, 1, 0, 0, 0), (66, .getfield 23, 3, 8, 2, 383), (69, .getfield 40, 3, 1, 1, 121), (72, .putfield 44, 3, 8, 6, 387), (75, .aload_n 0, 1, 0, 0, 0), (76, .new 47, 3, 2, 0, 219), (79, .dup, 1, 0, 0, 0), (80, .invokespecial 49, 3, 48, 3, 221), (83, .putfield 50, 3, 8, 7, 388), (86, .aload_n 0, 1, 0, 0, 0), (87, .iconst 3, 1, 0, 0, 0), (88, .anewarray 47, 3, 4, 0, 219), (91, .putfield 54, 3, 8, 8, 389), (94, .aload_n 0, 1, 0, 0, 0), (95, .iconst 0, 1, 0, 0, 0)],
  [(96, .putfield 58, 3, 8, 9, 390), (99, .aload_n 0, 1, 0, 0, 0), (100, .iconst 3, 1, 0, 0, 0), (101, .newarray .int, 2, 0, 0, 194), (103, .putfield 61, 3, 8, 10, 391), (106, .aload_n 0, 1, 0, 0, 0), (107, .bipush 17, 2, 0, 0, 0), (109, .newarray .int, 2, 0, 0, 194), (111, .putfield 65, 3, 8, 11, 392), (114, .aload_n 0, 1, 0, 0, 0), (115, .new 68, 3, 0, 0, 239), (118, .dup, 1, 0, 0, 0), (119, .aload_n 0, 1, 0, 0, 0), (120, .getfield 23, 3, 8, 2, 383), (123, .aload_n 0, 1, 0, 0, 0), (124, .getfield 33, 3, 8, 4, 385), (127, .invokespecial 70, 3, 0, 2, 257)],
  [(130, .putfield 73, 3, 8, 12, 393), (133, .aload_n 0, 1, 0, 0, 0), (134, .new 68, 3, 0, 0, 239), (137, .dup, 1, 0, 0, 0), (138, .aload_n 0, 1, 0, 0, 0), (139, .getfield 23, 3, 8, 2, 383), (142, .aload_n 0, 1, 0, 0, 0), (143, .getfield 33, 3, 8, 4, 385), (146, .invokespecial 70, 3, 0, 2, 257), (149, .putfield 77, 3, 8, 13, 394), (152, .aload_n 0, 1, 0, 0, 0), (153, .iconst 5, 1, 0, 0, 0), (154, .anewarray 80, 3, 5, 0, 305), (157, .putfield 82, 3, 8, 14, 395)],
  [(160, .aload_n 0, 1, 0, 0, 0), (161, .new 86, 3, 4, 0, 307), (164, .dup, 1, 0, 0, 0), (165, .invokespecial 88, 3, 57, 3, 309), (168, .putfield 89, 3, 8, 15, 396), (171, .aload_n 0, 1, 0, 0, 0), (172, .new 93, 3, 3, 0, 326), (175, .dup, 1, 0, 0, 0), (176, .invokespecial 95, 3, 51, 3, 328), (179, .putfield 96, 3, 8, 16, 397), (182, .iconst 0, 1, 0, 0, 0), (183, .istore_n 1, 1, 0, 0, 0), (184, .iload_n 1, 1, 0, 0, 0), (185, .aload_n 0, 1, 0, 0, 0), (186, .getfield 54, 3, 8, 8, 389), (189, .arraylength, 1, 0, 0, 0), (190, .if_icmp .ge 22, 3, 0, 212, 0)],
  [(193, .aload_n 0, 1, 0, 0, 0), (194, .getfield 54, 3, 8, 8, 389), (197, .iload_n 1, 1, 0, 0, 0), (198, .new 47, 3, 2, 0, 219), (201, .dup, 1, 0, 0, 0), (202, .invokespecial 49, 3, 48, 3, 221), (205, .aastore, 1, 0, 0, 0), (206, .iinc 1 1, 3, 0, 0, 0), (209, .goto (-25), 3, 0, 184, 0), (212, .iconst 0, 1, 0, 0, 0), (213, .istore_n 1, 1, 0, 0, 0), (214, .iload_n 1, 1, 0, 0, 0), (215, .aload_n 0, 1, 0, 0, 0), (216, .getfield 82, 3, 8, 14, 395), (219, .arraylength, 1, 0, 0, 0), (220, .if_icmp .ge 23, 3, 0, 243, 0), (223, .aload_n 0, 1, 0, 0, 0)],
  [(224, .getfield 82, 3, 8, 14, 395), (227, .iload_n 1, 1, 0, 0, 0), (228, .new 80, 3, 5, 0, 305), (231, .dup, 1, 0, 0, 0), (232, .iload_n 1, 1, 0, 0, 0), (233, .invokespecial 100, 3, 68, 2, 349), (236, .aastore, 1, 0, 0, 0), (237, .iinc 1 1, 3, 0, 0, 0), (240, .goto (-26), 3, 0, 214, 0), (243, .return_, 1, 0, 0, 0)]]
set_option maxRecDepth 100000 in
noncomputable def mjT113 : List (List (Nat × mjX)) := [[(0, .aload_n 0, 1, 0, 0, 0), (1, .getfield 10, 3, 8, 0, 381), (4, .getfield 103, 3, 6, 1, 43), (7, .bipush 20, 2, 0, 0, 0), (9, .iadd, 1, 0, 0, 0), (10, .sipush 600, 3, 0, 0, 0), (13, .if_icmp .le 5, 3, 0, 18, 0), (16, .iconst (-1), 1, 0, 0, 0), (17, .ireturn, 1, 0, 0, 0), (18, .aload_n 0, 1, 0, 0, 0), (19, .getfield 10, 3, 8, 0, 381), (22, .iload_n 1, 1, 0, 0, 0), (23, .invokevirtual 106, 3, 81, 0, 437), (26, .aload_n 0, 1, 0, 0, 0), (27, .getfield 10, 3, 8, 0, 381), (30, .iload_n 2, 1, 0, 0, 0), (31, .invokevirtual 106, 3, 81, 0, 437)],
  [(34, .aload_n 0, 1, 0, 0, 0), (35, .getfield 10, 3, 8, 0, 381), (38, .iload_n 3, 1, 0, 0, 0), (39, .invokevirtual 106, 3, 81, 0, 437), (42, .aload_n 0, 1, 0, 0, 0), (43, .getfield 10, 3, 8, 0, 381), (46, .iload 4, 2, 0, 0, 0), (48, .invokevirtual 106, 3, 81, 0, 437), (51, .aload_n 0, 1, 0, 0, 0), (52, .getfield 10, 3, 8, 0, 381), (55, .iload 5, 2, 0, 0, 0), (57, .invokevirtual 106, 3, 81, 0, 437), (60, .aload_n 0, 1, 0, 0, 0), (61, .getfield 10, 3, 8, 0, 381)],
  [(64, .getfield 103, 3, 6, 1, 43), (67, .ireturn, 1, 0, 0, 0)]]
set_option maxRecDepth 100000 in
noncomputable def mjT114 : List (List (Nat × mjX)) := [[(0, .aload_n 0, 1, 0, 0, 0), (1, .iload_n 1, 1, 0, 0, 0), (2, .sipush 600, 3, 0, 0, 0), (5, .invokevirtual 109, 3, 179, 0, 642), (8, .aload_n 0, 1, 0, 0, 0), (9, .getfield 10, 3, 8, 0, 381), (12, .iload_n 1, 1, 0, 0, 0), (13, .invokevirtual 113, 3, 82, 0, 717), (16, .aload_n 0, 1, 0, 0, 0), (17, .getfield 10, 3, 8, 0, 381), (20, .aload_n 0, 1, 0, 0, 0), (21, .getfield 27, 3, 8, 3, 384), (24, .invokestatic 116, 3, 31, 1, 732), (27, .aload_n 0, 1, 0, 0, 0), (28, .aload_n 0, 1, 0, 0, 0), (29, .getfield 10, 3, 8, 0, 381)],
  [(32, .getfield 122, 3, 6, 9, 53), (35, .putfield 16, 3, 8, 1, 382), (38, .aload_n 0, 1, 0, 0, 0), (39, .getfield 10, 3, 8, 0, 381), (42, .getfield 125, 3, 6, 8, 51), (45, .ifCond .eq 14, 3, 0, 59, 0), (48, .aload_n 0, 1, 0, 0, 0), (49, .getfield 10, 3, 8, 0, 381), (52, .getfield 125, 3, 6, 8, 51), (55, .bipush 10, 2, 0, 0, 0), (57, .isub, 1, 0, 0, 0), (58, .ireturn, 1, 0, 0, 0), (59, .aload_n 0, 1, 0, 0, 0), (60, .getfield 23, 3, 8, 2, 383), (63, .astore_n 2, 1, 0, 0, 0)],
  [(64, .aload_n 0, 1, 0, 0, 0), (65, .aload_n 0, 1, 0, 0, 0), (66, .getfield 27, 3, 8, 3, 384), (69, .putfield 23, 3, 8, 2, 383), (72, .aload_n 0, 1, 0, 0, 0), (73, .aload_n 2, 1, 0, 0, 0), (74, .putfield 27, 3, 8, 3, 384), (77, .aload_n 0, 1, 0, 0, 0), (78, .getfield 50, 3, 8, 7, 388), (81, .aload_n 0, 1, 0, 0, 0), (82, .getfield 23, 3, 8, 2, 383), (85, .invokevirtual 128, 3, 49, 0, 917), (88, .aload_n 0, 1, 0, 0, 0), (89, .getfield 33, 3, 8, 4, 385), (92, .invokevirtual 131, 3, 96, 0, 921), (95, .aload_n 0, 1, 0, 0, 0)],
  [(96, .aload_n 0, 1, 0, 0, 0), (97, .getfield 23, 3, 8, 2, 383), (100, .getfield 40, 3, 1, 1, 121), (103, .putfield 44, 3, 8, 6, 387), (106, .aload_n 0, 1, 0, 0, 0), (107, .iconst 0, 1, 0, 0, 0), (108, .putfield 58, 3, 8, 9, 390), (111, .aload_n 0, 1, 0, 0, 0), (112, .invokevirtual 134, 3, 191, 0, 925), (115, .aload_n 0, 1, 0, 0, 0), (116, .getfield 23, 3, 8, 2, 383), (119, .getfield 137, 3, 1, 2, 127), (122, .ireturn, 1, 0, 0, 0)]]
set_option maxRecDepth 100000 in
noncomputable def mjT115 : List (List (Nat × mjX)) := [[(0, .aload_n 0, 1, 0, 0, 0), (1, .iload_n 1, 1, 0, 0, 0), (2, .sipush 200, 3, 0, 0, 0), (5, .invokevirtual 109, 3, 179, 0, 642), (8, .aload_n 0, 1, 0, 0, 0), (9, .getfield 10, 3, 8, 0, 381), (12, .iload_n 1, 1, 0, 0, 0), (13, .invokevirtual 113, 3, 82, 0, 717), (16, .aload_n 0, 1, 0, 0, 0), (17, .getfield 10, 3, 8, 0, 381), (20, .aload_n 0, 1, 0, 0, 0), (21, .getfield 23, 3, 8, 2, 383), (24, .invokestatic 140, 3, 40, 1, 936), (27, .lstore_n 2, 1, 0, 0, 0), (28, .aload_n 0, 1, 0, 0, 0), (29, .aload_n 0, 1, 0, 0, 0), (30, .getfield 10, 3, 8, 0, 381)],
  [(33, .getfield 122, 3, 6, 9, 53), (36, .putfield 16, 3, 8, 1, 382), (39, .aload_n 0, 1, 0, 0, 0), (40, .getfield 10, 3, 8, 0, 381), (43, .getfield 125, 3, 6, 8, 51), (46, .ifCond .eq 14, 3, 0, 60, 0), (49, .aload_n 0, 1, 0, 0, 0), (50, .getfield 10, 3, 8, 0, 381), (53, .getfield 125, 3, 6, 8, 51), (56, .bipush 10, 2, 0, 0, 0), (58, .isub, 1, 0, 0, 0), (59, .ireturn, 1, 0, 0, 0), (60, .aload_n 0, 1, 0, 0, 0), (61, .lload_n 2, 1, 0, 0, 0), (62, .putfield 44, 3, 8, 6, 387)],
  [(65, .aload_n 0, 1, 0, 0, 0), (66, .getfield 44, 3, 8, 6, 387), (69, .invokestatic 146, 3, 329, 1, 940), (72, .ireturn, 1, 0, 0, 0)]]
set_option maxRecDepth 100000 in
noncomputable def mjT116 : List (List (Nat × mjX)) := [[(0, .aload_n 0, 1, 0, 0, 0), (1, .iload_n 1, 1, 0, 0, 0), (2, .sipush 200, 3, 0, 0, 0), (5, .invokevirtual 109, 3, 179, 0, 642), (8, .aload_n 0, 1, 0, 0, 0), (9, .getfield 10, 3, 8, 0, 381), (12, .iload_n 1, 1, 0, 0, 0), (13, .invokevirtual 113, 3, 82, 0, 717), (16, .aload_n 0, 1, 0, 0, 0), (17, .getfield 10, 3, 8, 0, 381), (20, .aload_n 0, 1, 0, 0, 0), (21, .getfield 37, 3, 8, 5, 386), (24, .invokestatic 152, 3, 102, 1, 948), (27, .aload_n 0, 1, 0, 0, 0), (28, .aload_n 0, 1, 0, 0, 0), (29, .getfield 10, 3, 8, 0, 381)],
  [(32, .getfield 122, 3, 6, 9, 53), (35, .putfield 16, 3, 8, 1, 382), (38, .aload_n 0, 1, 0, 0, 0), (39, .getfield 10, 3, 8, 0, 381), (42, .getfield 125, 3, 6, 8, 51), (45, .ifCond .eq 14, 3, 0, 59, 0), (48, .aload_n 0, 1, 0, 0, 0), (49, .getfield 10, 3, 8, 0, 381), (52, .getfield 125, 3, 6, 8, 51), (55, .bipush 10, 2, 0, 0, 0), (57, .isub, 1, 0, 0, 0), (58, .ireturn, 1, 0, 0, 0), (59, .aload_n 0, 1, 0, 0, 0), (60, .getfield 33, 3, 8, 4, 385), (63, .astore_n 2, 1, 0, 0, 0)],
  [(64, .aload_n 0, 1, 0, 0, 0), (65, .aload_n 0, 1, 0, 0, 0), (66, .getfield 37, 3, 8, 5, 386), (69, .putfield 33, 3, 8, 4, 385), (72, .aload_n 0, 1, 0, 0, 0), (73, .aload_n 2, 1, 0, 0, 0), (74, .putfield 37, 3, 8, 5, 386), (77, .aload_n 0, 1, 0, 0, 0), (78, .invokevirtual 134, 3, 191, 0, 925), (81, .aload_n 0, 1, 0, 0, 0), (82, .getfield 33, 3, 8, 4, 385), (85, .getfield 157, 3, 7, 0, 203), (88, .ireturn, 1, 0, 0, 0)]]
set_option maxRecDepth 100000 in
noncomputable def mjT117 : List (List (Nat × mjX)) := [[(0, .aload_n 0, 1, 0, 0, 0), (1, .getfield 16, 3, 8, 1, 382), (4, .ireturn, 1, 0, 0, 0)]]
set_option maxRecDepth 100000 in
noncomputable def mjT118 : List (List (Nat × mjX)) := [[(0, .aload_n 0, 1, 0, 0, 0), (1, .iload_n 1, 1, 0, 0, 0), (2, .bipush 6, 2, 0, 0, 0), (4, .invokevirtual 160, 3, 175, 0, 1035), (7, .iload_n 1, 1, 0, 0, 0), (8, .tableswitch 76 0 4 #[36, 44, 52, 60, 68], 36, 0, 0, 0)],
  [(44, .aload_n 0, 1, 0, 0, 0), (45, .getfield 23, 3, 8, 2, 383), (48, .getfield 163, 3, 1, 0, 119), (51, .ireturn, 1, 0, 0, 0), (52, .aload_n 0, 1, 0, 0, 0), (53, .getfield 23, 3, 8, 2, 383), (56, .getfield 137, 3, 1, 2, 127), (59, .ireturn, 1, 0, 0, 0), (60, .aload_n 0, 1, 0, 0, 0), (61, .getfield 23, 3, 8, 2, 383)],
  [(64, .getfield 166, 3, 1, 3, 131), (67, .ireturn, 1, 0, 0, 0), (68, .aload_n 0, 1, 0, 0, 0), (69, .getfield 23, 3, 8, 2, 383), (72, .getfield 169, 3, 1, 4, 134), (75, .ireturn, 1, 0, 0, 0), (76, .aload_n 0, 1, 0, 0, 0), (77, .getfield 50, 3, 8, 7, 388), (80, .getfield 172, 3, 2, 2, 230), (83, .ireturn, 1, 0, 0, 0), (84, .aload_n 0, 1, 0, 0, 0), (85, .getfield 50, 3, 8, 7, 388), (88, .getfield 175, 3, 2, 1, 228), (91, .ireturn, 1, 0, 0, 0)]]
set_option maxRecDepth 100000 in
noncomputable def mjT119 : List (List (Nat × mjX)) := [[(0, .aload_n 0, 1, 0, 0, 0), (1, .iload_n 1, 1, 0, 0, 0), (2, .invokevirtual 178, 3, 174, 0, 1047), (5, .aload_n 0, 1, 0, 0, 0), (6, .getfield 23, 3, 8, 2, 383), (9, .getfield 181, 3, 1, 7, 145), (12, .iload_n 1, 1, 0, 0, 0), (13, .laload, 1, 0, 0, 0), (14, .lreturn, 1, 0, 0, 0)]]
set_option maxRecDepth 100000 in
noncomputable def mjT120 : List (List (Nat × mjX)) := [[(0, .iload_n 1, 1, 0, 0, 0), (1, .ifCond .lt 14, 3, 0, 15, 0), (4, .iload_n 1, 1, 0, 0, 0), (5, .aload_n 0, 1, 0, 0, 0), (6, .getfield 23, 3, 8, 2, 383), (9, .getfield 166, 3, 1, 3, 131), (12, .if_icmp .lt 7, 3, 0, 19, 0), (15, .aload_n 0, 1, 0, 0, 0), (16, .invokevirtual 185, 3, 171, 0, 1051), (19, .aload_n 0, 1, 0, 0, 0), (20, .getfield 23, 3, 8, 2, 383), (23, .getfield 188, 3, 1, 9, 151), (26, .iload_n 1, 1, 0, 0, 0), (27, .laload, 1, 0, 0, 0), (28, .lreturn, 1, 0, 0, 0)]]
set_option maxRecDepth 100000 in
noncomputable def mjT121 : List (List (Nat × mjX)) := [[(0, .aload_n 0, 1, 0, 0, 0), (1, .iload_n 1, 1, 0, 0, 0), (2, .invokevirtual 191, 3, 176, 0, 1085), (5, .aload_n 0, 1, 0, 0, 0), (6, .getfield 23, 3, 8, 2, 383), (9, .getfield 194, 3, 1, 11, 159), (12, .iload_n 1, 1, 0, 0, 0), (13, .laload, 1, 0, 0, 0), (14, .lreturn, 1, 0, 0, 0)]]
set_option maxRecDepth 100000 in
noncomputable def mjT122 : List (List (Nat × mjX)) := [[(0, .aload_n 0, 1, 0, 0, 0), (1, .iload_n 1, 1, 0, 0, 0), (2, .invokevirtual 178, 3, 174, 0, 1047), (5, .aload_n 0, 1, 0, 0, 0), (6, .iload_n 2, 1, 0, 0, 0), (7, .invokevirtual 178, 3, 174, 0, 1047), (10, .aload_n 0, 1, 0, 0, 0), (11, .getfield 23, 3, 8, 2, 383), (14, .getfield 181, 3, 1, 7, 145), (17, .iload_n 1, 1, 0, 0, 0), (18, .laload, 1, 0, 0, 0), (19, .lstore_n 3, 1, 0, 0, 0), (20, .aload_n 0, 1, 0, 0, 0), (21, .getfield 23, 3, 8, 2, 383), (24, .getfield 181, 3, 1, 7, 145), (27, .iload_n 2, 1, 0, 0, 0), (28, .laload, 1, 0, 0, 0), (29, .lstore 5, 2, 0, 0, 0), (31, .lload_n 3, 1, 0, 0, 0)],
  [(32, .lload 5, 2, 0, 0, 0), (34, .lcmp, 1, 0, 0, 0), (35, .ifCond .ne 5, 3, 0, 40, 0), (38, .iconst 0, 1, 0, 0, 0), (39, .ireturn, 1, 0, 0, 0), (40, .lload_n 3, 1, 0, 0, 0), (41, .lload 5, 2, 0, 0, 0), (43, .ldc2_w 197, 3, 18446744073709551615, 0, 1096), (46, .lxor, 1, 0, 0, 0), (47, .land, 1, 0, 0, 0), (48, .lconst 0, 1, 0, 0, 0), (49, .lcmp, 1, 0, 0, 0), (50, .ifCond .ne 5, 3, 0, 55, 0), (53, .iconst 1, 1, 0, 0, 0), (54, .ireturn, 1, 0, 0, 0), (55, .lload 5, 2, 0, 0, 0), (57, .lload_n 3, 1, 0, 0, 0), (58, .ldc2_w 197, 3, 18446744073709551615, 0, 1096), (61, .lxor, 1, 0, 0, 0), (62, .land, 1, 0, 0, 0), (63, .lconst 0, 1, 0, 0, 0)],
  [(64, .lcmp, 1, 0, 0, 0), (65, .ifCond .ne 5, 3, 0, 70, 0), (68, .iconst 2, 1, 0, 0, 0), (69, .ireturn, 1, 0, 0, 0), (70, .lload_n 3, 1, 0, 0, 0), (71, .lload 5, 2, 0, 0, 0), (73, .land, 1, 0, 0, 0), (74, .lconst 0, 1, 0, 0, 0), (75, .lcmp, 1, 0, 0, 0), (76, .ifCond .ne 7, 3, 0, 83, 0), (79, .iconst 3, 1, 0, 0, 0), (80, .goto 4, 3, 0, 84, 0), (83, .iconst 4, 1, 0, 0, 0), (84, .ireturn, 1, 0, 0, 0)]]
set_option maxRecDepth 100000 in
noncomputable def mjT123 : List (List (Nat × mjX)) := [[(0, .aload_n 0, 1, 0, 0, 0), (1, .iload_n 1, 1, 0, 0, 0), (2, .invokevirtual 178, 3, 174, 0, 1047), (5, .aload_n 0, 1, 0, 0, 0), (6, .iload_n 2, 1, 0, 0, 0), (7, .invokevirtual 178, 3, 174, 0, 1047), (10, .aload_n 0, 1, 0, 0, 0), (11, .iload_n 3, 1, 0, 0, 0), (12, .invokevirtual 191, 3, 176, 0, 1085), (15, .aload_n 0, 1, 0, 0, 0), (16, .getfield 23, 3, 8, 2, 383), (19, .iload_n 1, 1, 0, 0, 0), (20, .iload_n 2, 1, 0, 0, 0), (21, .iload_n 3, 1, 0, 0, 0), (22, .invokevirtual 199, 3, 27, 0, 1104), (25, .ireturn, 1, 0, 0, 0)]]
set_option maxRecDepth 100000 in
noncomputable def mjT124 : List (List (Nat × mjX)) := [[(0, .aload_n 0, 1, 0, 0, 0), (1, .getfield 23, 3, 8, 2, 383), (4, .aload_n 0, 1, 0, 0, 0), (5, .getfield 50, 3, 8, 7, 388), (8, .getfield 172, 3, 2, 2, 230), (11, .invokevirtual 203, 3, 26, 0, 449), (14, .ireturn, 1, 0, 0, 0)]]
set_option maxRecDepth 100000 in
noncomputable def mjT125 : List (List (Nat × mjX)) := [[(0, .iconst 0, 1, 0, 0, 0), (1, .istore_n 1, 1, 0, 0, 0), (2, .iconst 0, 1, 0, 0, 0), (3, .istore_n 2, 1, 0, 0, 0), (4, .iload_n 2, 1, 0, 0, 0), (5, .aload_n 0, 1, 0, 0, 0), (6, .getfield 23, 3, 8, 2, 383), (9, .getfield 137, 3, 1, 2, 127), (12, .if_icmp .ge 42, 3, 0, 54, 0), (15, .aload_n 0, 1, 0, 0, 0), (16, .getfield 23, 3, 8, 2, 383), (19, .getfield 166, 3, 1, 3, 131), (22, .ifCond .eq 20, 3, 0, 42, 0), (25, .aload_n 0, 1, 0, 0, 0), (26, .getfield 23, 3, 8, 2, 383), (29, .getfield 207, 3, 1, 12, 162)],
  [(32, .bipush 51, 2, 0, 0, 0), (34, .iaload, 1, 0, 0, 0), (35, .iload_n 2, 1, 0, 0, 0), (36, .ishr, 1, 0, 0, 0), (37, .iconst 1, 1, 0, 0, 0), (38, .iand, 1, 0, 0, 0), (39, .ifCond .ne 9, 3, 0, 48, 0), (42, .iload_n 1, 1, 0, 0, 0), (43, .iconst 1, 1, 0, 0, 0), (44, .iload_n 2, 1, 0, 0, 0), (45, .ishl, 1, 0, 0, 0), (46, .ior, 1, 0, 0, 0), (47, .istore_n 1, 1, 0, 0, 0), (48, .iinc 2 1, 3, 0, 0, 0), (51, .goto (-47), 3, 0, 4, 0), (54, .iload_n 1, 1, 0, 0, 0), (55, .ireturn, 1, 0, 0, 0)]]
set_option maxRecDepth 100000 in
noncomputable def mjT126 : List (List (Nat × mjX)) := [[(0, .lload_n 1, 1, 0, 0, 0), (1, .iconst 4, 1, 0, 0, 0), (2, .aload_n 0, 1, 0, 0, 0), (3, .getfield 23, 3, 8, 2, 383), (6, .getfield 137, 3, 1, 2, 127), (9, .imul, 1, 0, 0, 0), (10, .lushr, 1, 0, 0, 0), (11, .lconst 0, 1, 0, 0, 0), (12, .lcmp, 1, 0, 0, 0), (13, .ifCond .eq 5, 3, 0, 18, 0), (16, .iconst 0, 1, 0, 0, 0), (17, .ireturn, 1, 0, 0, 0), (18, .iconst 0, 1, 0, 0, 0), (19, .istore_n 3, 1, 0, 0, 0), (20, .iconst 0, 1, 0, 0, 0), (21, .istore 4, 2, 0, 0, 0), (23, .iload 4, 2, 0, 0, 0), (25, .aload_n 0, 1, 0, 0, 0), (26, .getfield 23, 3, 8, 2, 383), (29, .getfield 137, 3, 1, 2, 127)],
  [(32, .if_icmp .ge 48, 3, 0, 80, 0), (35, .aload_n 0, 1, 0, 0, 0), (36, .lload_n 1, 1, 0, 0, 0), (37, .iload 4, 2, 0, 0, 0), (39, .invokevirtual 210, 3, 181, 0, 465), (42, .istore 5, 2, 0, 0, 0), (44, .iload 5, 2, 0, 0, 0), (46, .aload_n 0, 1, 0, 0, 0), (47, .getfield 23, 3, 8, 2, 383), (50, .getfield 137, 3, 1, 2, 127), (53, .if_icmp .ge 12, 3, 0, 65, 0), (56, .iload_n 3, 1, 0, 0, 0), (57, .iload 5, 2, 0, 0, 0), (59, .ishr, 1, 0, 0, 0), (60, .iconst 1, 1, 0, 0, 0), (61, .iand, 1, 0, 0, 0), (62, .ifCond .eq 5, 3, 0, 67, 0)],
  [(65, .iconst 0, 1, 0, 0, 0), (66, .ireturn, 1, 0, 0, 0), (67, .iload_n 3, 1, 0, 0, 0), (68, .iconst 1, 1, 0, 0, 0), (69, .iload 5, 2, 0, 0, 0), (71, .ishl, 1, 0, 0, 0), (72, .ior, 1, 0, 0, 0), (73, .istore_n 3, 1, 0, 0, 0), (74, .iinc 4 1, 3, 0, 0, 0), (77, .goto (-54), 3, 0, 23, 0), (80, .aload_n 0, 1, 0, 0, 0), (81, .lload_n 1, 1, 0, 0, 0), (82, .invokevirtual 214, 3, 182, 0, 469), (85, .iconst 1, 1, 0, 0, 0), (86, .ireturn, 1, 0, 0, 0)]]
set_option maxRecDepth 100000 in
noncomputable def mjT127 : List (List (Nat × mjX)) := [[(0, .iload_n 1, 1, 0, 0, 0), (1, .ifCond .lt 14, 3, 0, 15, 0), (4, .iload_n 1, 1, 0, 0, 0), (5, .aload_n 0, 1, 0, 0, 0), (6, .getfield 23, 3, 8, 2, 383), (9, .getfield 137, 3, 1, 2, 127), (12, .if_icmp .lt 7, 3, 0, 19, 0), (15, .iconst (-1), 1, 0, 0, 0), (16, .goto 12, 3, 0, 28, 0), (19, .aload_n 0, 1, 0, 0, 0), (20, .getfield 50, 3, 8, 7, 388), (23, .getfield 218, 3, 2, 0, 226), (26, .iload_n 1, 1, 0, 0, 0), (27, .iaload, 1, 0, 0, 0), (28, .ireturn, 1, 0, 0, 0)]]
set_option maxRecDepth 100000 in
noncomputable def mjT128 : List (List (Nat × mjX)) := [[(0, .aload_n 0, 1, 0, 0, 0), (1, .iload_n 1, 1, 0, 0, 0), (2, .iconst 5, 1, 0, 0, 0), (3, .invokevirtual 160, 3, 175, 0, 1035), (6, .aload_n 0, 1, 0, 0, 0), (7, .getfield 50, 3, 8, 7, 388), (10, .getfield 175, 3, 2, 1, 228), (13, .istore_n 2, 1, 0, 0, 0), (14, .aload_n 0, 1, 0, 0, 0), (15, .getfield 50, 3, 8, 7, 388), (18, .iload_n 1, 1, 0, 0, 0), (19, .putfield 175, 3, 2, 1, 228), (22, .iload_n 2, 1, 0, 0, 0), (23, .ireturn, 1, 0, 0, 0)]]
set_option maxRecDepth 100000 in
noncomputable def mjT129 : List (List (Nat × mjX)) := [[(0, .aload_n 0, 1, 0, 0, 0), (1, .iload_n 1, 1, 0, 0, 0), (2, .iconst 1, 1, 0, 0, 0), (3, .aload_n 0, 1, 0, 0, 0), (4, .getfield 23, 3, 8, 2, 383), (7, .getfield 163, 3, 1, 0, 119), (10, .ishl, 1, 0, 0, 0), (11, .invokevirtual 160, 3, 175, 0, 1035), (14, .aload_n 0, 1, 0, 0, 0), (15, .getfield 50, 3, 8, 7, 388), (18, .getfield 172, 3, 2, 2, 230), (21, .istore_n 2, 1, 0, 0, 0), (22, .aload_n 0, 1, 0, 0, 0), (23, .getfield 50, 3, 8, 7, 388), (26, .iload_n 1, 1, 0, 0, 0), (27, .putfield 172, 3, 2, 2, 230), (30, .iload_n 2, 1, 0, 0, 0), (31, .ireturn, 1, 0, 0, 0)]]
set_option maxRecDepth 100000 in
noncomputable def mjT130 : List (List (Nat × mjX)) := [[(0, .aload_n 0, 1, 0, 0, 0), (1, .iload_n 1, 1, 0, 0, 0), (2, .invokevirtual 191, 3, 176, 0, 1085), (5, .aload_n 0, 1, 0, 0, 0), (6, .invokevirtual 221, 3, 186, 0, 481), (9, .aload_n 0, 1, 0, 0, 0), (10, .getfield 73, 3, 8, 12, 393), (13, .iload_n 1, 1, 0, 0, 0), (14, .invokevirtual 224, 3, 14, 0, 1126), (17, .ireturn, 1, 0, 0, 0)]]
set_option maxRecDepth 100000 in
noncomputable def mjT131 : List (List (Nat × mjX)) := [[(0, .aload_n 0, 1, 0, 0, 0), (1, .iload_n 1, 1, 0, 0, 0), (2, .invokevirtual 178, 3, 174, 0, 1047), (5, .aload_n 0, 1, 0, 0, 0), (6, .iload_n 2, 1, 0, 0, 0), (7, .iconst 5, 1, 0, 0, 0), (8, .invokevirtual 160, 3, 175, 0, 1035), (11, .aload_n 0, 1, 0, 0, 0), (12, .invokevirtual 221, 3, 186, 0, 481), (15, .iload_n 2, 1, 0, 0, 0), (16, .tableswitch 89 0 3 #[32, 42, 70, 80], 32, 0, 0, 0)],
  [(48, .aload_n 0, 1, 0, 0, 0), (49, .getfield 73, 3, 8, 12, 393), (52, .getfield 227, 3, 0, 4, 266), (55, .iload_n 1, 1, 0, 0, 0), (56, .iaload, 1, 0, 0, 0), (57, .ireturn, 1, 0, 0, 0), (58, .aload_n 0, 1, 0, 0, 0), (59, .getfield 73, 3, 8, 12, 393), (62, .getfield 230, 3, 0, 5, 268)],
  [(65, .iload_n 1, 1, 0, 0, 0), (66, .iaload, 1, 0, 0, 0), (67, .bipush 52, 2, 0, 0, 0), (69, .if_icmp .ge 15, 3, 0, 84, 0), (72, .aload_n 0, 1, 0, 0, 0), (73, .getfield 73, 3, 8, 12, 393), (76, .getfield 230, 3, 0, 5, 268), (79, .iload_n 1, 1, 0, 0, 0), (80, .iaload, 1, 0, 0, 0), (81, .goto 4, 3, 0, 85, 0), (84, .iconst (-1), 1, 0, 0, 0), (85, .ireturn, 1, 0, 0, 0), (86, .aload_n 0, 1, 0, 0, 0), (87, .getfield 73, 3, 8, 12, 393), (90, .getfield 233, 3, 0, 6, 270), (93, .iload_n 1, 1, 0, 0, 0), (94, .iaload, 1, 0, 0, 0), (95, .ireturn, 1, 0, 0, 0)],
  [(96, .aload_n 0, 1, 0, 0, 0), (97, .getfield 73, 3, 8, 12, 393), (100, .iload_n 1, 1, 0, 0, 0), (101, .invokevirtual 236, 3, 10, 0, 591), (104, .ireturn, 1, 0, 0, 0), (105, .aload_n 0, 1, 0, 0, 0), (106, .getfield 73, 3, 8, 12, 393), (109, .iload_n 1, 1, 0, 0, 0), (110, .invokevirtual 239, 3, 11, 0, 1137), (113, .ireturn, 1, 0, 0, 0)]]
set_option maxRecDepth 100000 in
noncomputable def mjT132 : List (List (Nat × mjX)) := [[(0, .aload_n 0, 1, 0, 0, 0), (1, .iload_n 1, 1, 0, 0, 0), (2, .bipush 6, 2, 0, 0, 0), (4, .invokevirtual 160, 3, 175, 0, 1035), (7, .aload_n 0, 1, 0, 0, 0), (8, .invokevirtual 221, 3, 186, 0, 481), (11, .iload_n 1, 1, 0, 0, 0), (12, .tableswitch 96 0 4 #[36, 44, 53, 62, 70], 36, 0, 0, 0)],
  [(48, .aload_n 0, 1, 0, 0, 0), (49, .getfield 73, 3, 8, 12, 393), (52, .getfield 242, 3, 0, 8, 275), (55, .ireturn, 1, 0, 0, 0), (56, .aload_n 0, 1, 0, 0, 0), (57, .getfield 73, 3, 8, 12, 393), (60, .iconst 0, 1, 0, 0, 0), (61, .invokevirtual 245, 3, 13, 0, 1149)],
  [(64, .ireturn, 1, 0, 0, 0), (65, .aload_n 0, 1, 0, 0, 0), (66, .getfield 73, 3, 8, 12, 393), (69, .iconst 1, 1, 0, 0, 0), (70, .invokevirtual 245, 3, 13, 0, 1149), (73, .ireturn, 1, 0, 0, 0), (74, .aload_n 0, 1, 0, 0, 0), (75, .getfield 73, 3, 8, 12, 393), (78, .invokevirtual 249, 3, 12, 0, 1153), (81, .ireturn, 1, 0, 0, 0), (82, .aload_n 0, 1, 0, 0, 0), (83, .getfield 73, 3, 8, 12, 393), (86, .getfield 242, 3, 0, 8, 275), (89, .aload_n 0, 1, 0, 0, 0), (90, .getfield 23, 3, 8, 2, 383), (93, .aload_n 0, 1, 0, 0, 0), (94, .getfield 50, 3, 8, 7, 388)],
  [(97, .getfield 172, 3, 2, 2, 230), (100, .invokevirtual 203, 3, 26, 0, 449), (103, .iand, 1, 0, 0, 0), (104, .invokestatic 253, 3, 328, 1, 599), (107, .ireturn, 1, 0, 0, 0), (108, .aload_n 0, 1, 0, 0, 0), (109, .getfield 23, 3, 8, 2, 383), (112, .aload_n 0, 1, 0, 0, 0), (113, .getfield 73, 3, 8, 12, 393), (116, .getfield 242, 3, 0, 8, 275), (119, .bipush 51, 2, 0, 0, 0), (121, .invokevirtual 257, 3, 28, 0, 1158), (124, .lconst 0, 1, 0, 0, 0), (125, .lcmp, 1, 0, 0, 0), (126, .ifCond .eq 7, 3, 0, 133, 0)],
  [(129, .iconst 1, 1, 0, 0, 0), (130, .goto 4, 3, 0, 134, 0), (133, .iconst 0, 1, 0, 0, 0), (134, .ireturn, 1, 0, 0, 0)]]
set_option maxRecDepth 100000 in
noncomputable def mjT133 : List (List (Nat × mjX)) := [[(0, .aload_n 0, 1, 0, 0, 0), (1, .invokevirtual 221, 3, 186, 0, 481), (4, .aload_n 0, 1, 0, 0, 0), (5, .getfield 73, 3, 8, 12, 393), (8, .getfield 242, 3, 0, 8, 275), (11, .istore_n 1, 1, 0, 0, 0), (12, .iconst 0, 1, 0, 0, 0), (13, .istore_n 2, 1, 0, 0, 0), (14, .aload_n 0, 1, 0, 0, 0), (15, .iconst 0, 1, 0, 0, 0), (16, .invokevirtual 261, 3, 183, 0, 562), (19, .iconst 0, 1, 0, 0, 0), (20, .istore_n 3, 1, 0, 0, 0), (21, .iload_n 3, 1, 0, 0, 0), (22, .iconst 1, 1, 0, 0, 0), (23, .iadd, 1, 0, 0, 0), (24, .aload_n 0, 1, 0, 0, 0), (25, .getfield 23, 3, 8, 2, 383), (28, .getfield 137, 3, 1, 2, 127), (31, .if_icmp .ge 50, 3, 0, 81, 0)],
  [(34, .aload_n 0, 1, 0, 0, 0), (35, .iload_n 3, 1, 0, 0, 0), (36, .iload_n 3, 1, 0, 0, 0), (37, .iconst 1, 1, 0, 0, 0), (38, .iadd, 1, 0, 0, 0), (39, .invokevirtual 264, 3, 184, 0, 566), (42, .aload_n 0, 1, 0, 0, 0), (43, .aload_n 0, 1, 0, 0, 0), (44, .getfield 50, 3, 8, 7, 388), (47, .getfield 175, 3, 2, 1, 228), (50, .aload_n 0, 1, 0, 0, 0), (51, .getfield 23, 3, 8, 2, 383), (54, .getfield 137, 3, 1, 2, 127), (57, .invokevirtual 267, 3, 187, 0, 570), (60, .iload_n 1, 1, 0, 0, 0), (61, .if_icmp .eq 6, 3, 0, 67, 0)],
  [(64, .iinc 2 1, 3, 0, 0, 0), (67, .aload_n 0, 1, 0, 0, 0), (68, .iload_n 3, 1, 0, 0, 0), (69, .iload_n 3, 1, 0, 0, 0), (70, .iconst 1, 1, 0, 0, 0), (71, .iadd, 1, 0, 0, 0), (72, .invokevirtual 264, 3, 184, 0, 566), (75, .iinc 3 1, 3, 0, 0, 0), (78, .goto (-57), 3, 0, 21, 0), (81, .iload_n 2, 1, 0, 0, 0), (82, .ireturn, 1, 0, 0, 0)]]
set_option maxRecDepth 100000 in
noncomputable def mjT134 : List (List (Nat × mjX)) := [[(0, .aload_n 0, 1, 0, 0, 0), (1, .iload_n 1, 1, 0, 0, 0), (2, .iconst 3, 1, 0, 0, 0), (3, .invokevirtual 160, 3, 175, 0, 1035), (6, .aload_n 0, 1, 0, 0, 0), (7, .invokevirtual 271, 3, 180, 0, 1170), (10, .aload_n 0, 1, 0, 0, 0), (11, .aload_n 0, 1, 0, 0, 0), (12, .getfield 50, 3, 8, 7, 388), (15, .getfield 175, 3, 2, 1, 228), (18, .invokevirtual 274, 3, 190, 0, 1194), (21, .astore_n 2, 1, 0, 0, 0), (22, .aload_n 2, 1, 0, 0, 0), (23, .aload_n 0, 1, 0, 0, 0), (24, .getfield 23, 3, 8, 2, 383), (27, .aload_n 0, 1, 0, 0, 0), (28, .getfield 33, 3, 8, 4, 385), (31, .aload_n 0, 1, 0, 0, 0)],
  [(32, .getfield 50, 3, 8, 7, 388), (35, .getfield 172, 3, 2, 2, 230), (38, .aload_n 0, 1, 0, 0, 0), (39, .getfield 73, 3, 8, 12, 393), (42, .invokevirtual 278, 3, 69, 0, 1198), (45, .iload_n 1, 1, 0, 0, 0), (46, .lookupswitch 43 #[(0, 26), (1, 31)], 26, 0, 0, 0)],
  [(72, .aload_n 2, 1, 0, 0, 0), (73, .invokevirtual 282, 3, 74, 0, 1222), (76, .ireturn, 1, 0, 0, 0), (77, .aload_n 2, 1, 0, 0, 0), (78, .aload_n 0, 1, 0, 0, 0), (79, .getfield 23, 3, 8, 2, 383), (82, .getfield 137, 3, 1, 2, 127), (85, .invokevirtual 285, 3, 75, 0, 1226), (88, .ireturn, 1, 0, 0, 0), (89, .aload_n 2, 1, 0, 0, 0), (90, .aload_n 0, 1, 0, 0, 0), (91, .getfield 23, 3, 8, 2, 383), (94, .getfield 137, 3, 1, 2, 127)],
  [(97, .invokevirtual 288, 3, 76, 0, 1230), (100, .ireturn, 1, 0, 0, 0)]]
set_option maxRecDepth 100000 in
noncomputable def mjT135 : List (List (Nat × mjX)) := [[(0, .aload_n 0, 1, 0, 0, 0), (1, .iload_n 1, 1, 0, 0, 0), (2, .invokevirtual 178, 3, 174, 0, 1047), (5, .aload_n 0, 1, 0, 0, 0), (6, .invokevirtual 271, 3, 180, 0, 1170), (9, .aload_n 0, 1, 0, 0, 0), (10, .aload_n 0, 1, 0, 0, 0), (11, .getfield 50, 3, 8, 7, 388), (14, .getfield 175, 3, 2, 1, 228), (17, .invokevirtual 274, 3, 190, 0, 1194), (20, .astore_n 2, 1, 0, 0, 0), (21, .aload_n 2, 1, 0, 0, 0), (22, .aload_n 0, 1, 0, 0, 0), (23, .getfield 23, 3, 8, 2, 383), (26, .aload_n 0, 1, 0, 0, 0), (27, .getfield 33, 3, 8, 4, 385), (30, .aload_n 0, 1, 0, 0, 0), (31, .getfield 50, 3, 8, 7, 388)],
  [(34, .getfield 172, 3, 2, 2, 230), (37, .aload_n 0, 1, 0, 0, 0), (38, .getfield 73, 3, 8, 12, 393), (41, .invokevirtual 278, 3, 69, 0, 1198), (44, .aload_n 2, 1, 0, 0, 0), (45, .iconst 1, 1, 0, 0, 0), (46, .iload_n 1, 1, 0, 0, 0), (47, .ishl, 1, 0, 0, 0), (48, .invokevirtual 291, 3, 77, 0, 1241), (51, .ireturn, 1, 0, 0, 0)]]
set_option maxRecDepth 100000 in
noncomputable def mjT136 : List (List (Nat × mjX)) := [[(0, .aload_n 0, 1, 0, 0, 0), (1, .invokevirtual 271, 3, 180, 0, 1170), (4, .aload_n 0, 1, 0, 0, 0), (5, .aload_n 0, 1, 0, 0, 0), (6, .getfield 50, 3, 8, 7, 388), (9, .getfield 175, 3, 2, 1, 228), (12, .invokevirtual 274, 3, 190, 0, 1194), (15, .astore_n 1, 1, 0, 0, 0), (16, .aload_n 1, 1, 0, 0, 0), (17, .aload_n 0, 1, 0, 0, 0), (18, .getfield 23, 3, 8, 2, 383), (21, .aload_n 0, 1, 0, 0, 0), (22, .getfield 33, 3, 8, 4, 385), (25, .aload_n 0, 1, 0, 0, 0), (26, .getfield 50, 3, 8, 7, 388), (29, .getfield 172, 3, 2, 2, 230)],
  [(32, .aload_n 0, 1, 0, 0, 0), (33, .getfield 73, 3, 8, 12, 393), (36, .invokevirtual 278, 3, 69, 0, 1198), (39, .aload_n 0, 1, 0, 0, 0), (40, .getfield 23, 3, 8, 2, 383), (43, .aload_n 0, 1, 0, 0, 0), (44, .getfield 50, 3, 8, 7, 388), (47, .getfield 172, 3, 2, 2, 230), (50, .invokevirtual 203, 3, 26, 0, 449), (53, .istore_n 2, 1, 0, 0, 0), (54, .aload_n 1, 1, 0, 0, 0), (55, .iload_n 2, 1, 0, 0, 0), (56, .invokevirtual 294, 3, 78, 0, 1253), (59, .istore_n 3, 1, 0, 0, 0), (60, .aload_n 0, 1, 0, 0, 0), (61, .aload_n 1, 1, 0, 0, 0), (62, .iload_n 3, 1, 0, 0, 0), (63, .invokevirtual 297, 3, 79, 0, 1257)],
  [(66, .invokevirtual 214, 3, 182, 0, 469), (69, .iload_n 3, 1, 0, 0, 0), (70, .iload_n 2, 1, 0, 0, 0), (71, .iand, 1, 0, 0, 0), (72, .invokestatic 253, 3, 328, 1, 599), (75, .ireturn, 1, 0, 0, 0)]]
set_option maxRecDepth 100000 in
noncomputable def mjT137 : List (List (Nat × mjX)) := [[(0, .aload_n 0, 1, 0, 0, 0), (1, .iload_n 1, 1, 0, 0, 0), (2, .aload_n 0, 1, 0, 0, 0), (3, .getfield 23, 3, 8, 2, 383), (6, .getfield 137, 3, 1, 2, 127), (9, .invokevirtual 301, 3, 177, 0, 1284), (12, .aload_n 0, 1, 0, 0, 0), (13, .iload_n 2, 1, 0, 0, 0), (14, .invokevirtual 191, 3, 176, 0, 1085), (17, .aload_n 0, 1, 0, 0, 0), (18, .getfield 23, 3, 8, 2, 383), (21, .iload_n 1, 1, 0, 0, 0), (22, .iload_n 2, 1, 0, 0, 0), (23, .invokevirtual 257, 3, 28, 0, 1158), (26, .lconst 0, 1, 0, 0, 0), (27, .lcmp, 1, 0, 0, 0), (28, .ifCond .eq 7, 3, 0, 35, 0), (31, .iconst 1, 1, 0, 0, 0)],
  [(32, .goto 4, 3, 0, 36, 0), (35, .iconst 0, 1, 0, 0, 0), (36, .ireturn, 1, 0, 0, 0)]]
set_option maxRecDepth 100000 in
noncomputable def mjT138 : List (List (Nat × mjX)) := [[(0, .aload_n 0, 1, 0, 0, 0), (1, .iload_n 1, 1, 0, 0, 0), (2, .invokevirtual 191, 3, 176, 0, 1085), (5, .aload_n 0, 1, 0, 0, 0), (6, .iload_n 2, 1, 0, 0, 0), (7, .iconst 4, 1, 0, 0, 0), (8, .invokevirtual 160, 3, 175, 0, 1035), (11, .aload_n 0, 1, 0, 0, 0), (12, .getfield 89, 3, 8, 15, 396), (15, .aload_n 0, 1, 0, 0, 0), (16, .getfield 23, 3, 8, 2, 383), (19, .iload_n 1, 1, 0, 0, 0), (20, .invokevirtual 304, 3, 58, 0, 1295), (23, .iload_n 2, 1, 0, 0, 0), (24, .tableswitch 52 0 2 #[28, 36, 44], 28, 0, 0, 0)],
  [(52, .aload_n 0, 1, 0, 0, 0), (53, .getfield 89, 3, 8, 15, 396), (56, .invokevirtual 308, 3, 59, 0, 1300), (59, .ireturn, 1, 0, 0, 0), (60, .aload_n 0, 1, 0, 0, 0), (61, .getfield 89, 3, 8, 15, 396)],
  [(64, .invokevirtual 311, 3, 60, 0, 1304), (67, .ireturn, 1, 0, 0, 0), (68, .aload_n 0, 1, 0, 0, 0), (69, .getfield 89, 3, 8, 15, 396), (72, .invokevirtual 314, 3, 63, 0, 1309), (75, .ireturn, 1, 0, 0, 0), (76, .aload_n 0, 1, 0, 0, 0), (77, .getfield 89, 3, 8, 15, 396), (80, .invokevirtual 317, 3, 61, 0, 1317), (83, .ireturn, 1, 0, 0, 0)]]
set_option maxRecDepth 100000 in
noncomputable def mjT139 : List (List (Nat × mjX)) := [[(0, .aload_n 0, 1, 0, 0, 0), (1, .iload_n 1, 1, 0, 0, 0), (2, .invokevirtual 191, 3, 176, 0, 1085), (5, .aload_n 0, 1, 0, 0, 0), (6, .getfield 89, 3, 8, 15, 396), (9, .aload_n 0, 1, 0, 0, 0), (10, .getfield 23, 3, 8, 2, 383), (13, .iload_n 1, 1, 0, 0, 0), (14, .invokevirtual 304, 3, 58, 0, 1295), (17, .aload_n 0, 1, 0, 0, 0), (18, .getfield 89, 3, 8, 15, 396), (21, .iload_n 2, 1, 0, 0, 0), (22, .invokevirtual 320, 3, 64, 0, 1328), (25, .ireturn, 1, 0, 0, 0)]]
set_option maxRecDepth 100000 in
noncomputable def mjT140 : List (List (Nat × mjX)) := [[(0, .aload_n 0, 1, 0, 0, 0), (1, .iload_n 1, 1, 0, 0, 0), (2, .invokevirtual 191, 3, 176, 0, 1085), (5, .aload_n 0, 1, 0, 0, 0), (6, .getfield 89, 3, 8, 15, 396), (9, .aload_n 0, 1, 0, 0, 0), (10, .getfield 23, 3, 8, 2, 383), (13, .iload_n 1, 1, 0, 0, 0), (14, .invokevirtual 304, 3, 58, 0, 1295), (17, .aload_n 0, 1, 0, 0, 0), (18, .getfield 89, 3, 8, 15, 396), (21, .aload_n 0, 1, 0, 0, 0), (22, .getfield 44, 3, 8, 6, 387), (25, .invokevirtual 323, 3, 62, 0, 1339), (28, .ireturn, 1, 0, 0, 0)]]
set_option maxRecDepth 100000 in
noncomputable def mjT141 : List (List (Nat × mjX)) := [[(0, .aload_n 0, 1, 0, 0, 0), (1, .iload_n 1, 1, 0, 0, 0), (2, .invokevirtual 191, 3, 176, 0, 1085), (5, .aload_n 0, 1, 0, 0, 0), (6, .iload_n 2, 1, 0, 0, 0), (7, .iconst 2, 1, 0, 0, 0), (8, .invokevirtual 160, 3, 175, 0, 1035), (11, .iconst 0, 1, 0, 0, 0), (12, .istore_n 3, 1, 0, 0, 0), (13, .aload_n 0, 1, 0, 0, 0), (14, .getfield 23, 3, 8, 2, 383), (17, .iconst 0, 1, 0, 0, 0), (18, .iload_n 1, 1, 0, 0, 0), (19, .invokevirtual 326, 3, 29, 0, 1351), (22, .istore 4, 2, 0, 0, 0), (24, .iconst 1, 1, 0, 0, 0), (25, .istore 5, 2, 0, 0, 0), (27, .iload 5, 2, 0, 0, 0), (29, .aload_n 0, 1, 0, 0, 0), (30, .getfield 23, 3, 8, 2, 383)],
  [(33, .getfield 163, 3, 1, 0, 119), (36, .if_icmp .ge 35, 3, 0, 71, 0), (39, .aload_n 0, 1, 0, 0, 0), (40, .getfield 23, 3, 8, 2, 383), (43, .iload 5, 2, 0, 0, 0), (45, .iload_n 1, 1, 0, 0, 0), (46, .invokevirtual 326, 3, 29, 0, 1351), (49, .istore 6, 2, 0, 0, 0), (51, .iload 6, 2, 0, 0, 0), (53, .iload 4, 2, 0, 0, 0), (55, .if_icmp .ge 10, 3, 0, 65, 0), (58, .iload 6, 2, 0, 0, 0), (60, .istore 4, 2, 0, 0, 0), (62, .iload 5, 2, 0, 0, 0)],
  [(64, .istore_n 3, 1, 0, 0, 0), (65, .iinc 5 1, 3, 0, 0, 0), (68, .goto (-41), 3, 0, 27, 0), (71, .iload_n 2, 1, 0, 0, 0), (72, .ifCond .ne 7, 3, 0, 79, 0), (75, .iload_n 3, 1, 0, 0, 0), (76, .goto 5, 3, 0, 81, 0), (79, .iload 4, 2, 0, 0, 0), (81, .ireturn, 1, 0, 0, 0)]]
set_option maxRecDepth 100000 in
noncomputable def mjT142 : List (List (Nat × mjX)) := [[(0, .aload_n 0, 1, 0, 0, 0), (1, .iload_n 1, 1, 0, 0, 0), (2, .invokevirtual 191, 3, 176, 0, 1085), (5, .iconst (-1), 1, 0, 0, 0), (6, .istore_n 2, 1, 0, 0, 0), (7, .iconst (-1), 1, 0, 0, 0), (8, .istore_n 3, 1, 0, 0, 0), (9, .iconst 0, 1, 0, 0, 0), (10, .istore 4, 2, 0, 0, 0), (12, .iload 4, 2, 0, 0, 0), (14, .iconst 1, 1, 0, 0, 0), (15, .aload_n 0, 1, 0, 0, 0), (16, .getfield 23, 3, 8, 2, 383), (19, .getfield 163, 3, 1, 0, 119), (22, .ishl, 1, 0, 0, 0), (23, .if_icmp .ge 54, 3, 0, 77, 0), (26, .aload_n 0, 1, 0, 0, 0), (27, .getfield 23, 3, 8, 2, 383), (30, .getfield 194, 3, 1, 11, 159)],
  [(33, .iload_n 1, 1, 0, 0, 0), (34, .laload, 1, 0, 0, 0), (35, .iload 4, 2, 0, 0, 0), (37, .lushr, 1, 0, 0, 0), (38, .lconst 1, 1, 0, 0, 0), (39, .land, 1, 0, 0, 0), (40, .lconst 0, 1, 0, 0, 0), (41, .lcmp, 1, 0, 0, 0), (42, .ifCond .eq 29, 3, 0, 71, 0), (45, .aload_n 0, 1, 0, 0, 0), (46, .getfield 23, 3, 8, 2, 383), (49, .iload 4, 2, 0, 0, 0), (51, .invokevirtual 203, 3, 26, 0, 449), (54, .invokestatic 253, 3, 328, 1, 599), (57, .istore 5, 2, 0, 0, 0), (59, .iload 5, 2, 0, 0, 0), (61, .iload_n 3, 1, 0, 0, 0), (62, .if_icmp .le 9, 3, 0, 71, 0)],
  [(65, .iload 5, 2, 0, 0, 0), (67, .istore_n 3, 1, 0, 0, 0), (68, .iload 4, 2, 0, 0, 0), (70, .istore_n 2, 1, 0, 0, 0), (71, .iinc 4 1, 3, 0, 0, 0), (74, .goto (-62), 3, 0, 12, 0), (77, .iload_n 2, 1, 0, 0, 0), (78, .ireturn, 1, 0, 0, 0)]]
set_option maxRecDepth 100000 in
noncomputable def mjT143 : List (List (Nat × mjX)) := [[(0, .aload_n 0, 1, 0, 0, 0), (1, .iload_n 1, 1, 0, 0, 0), (2, .aload_n 0, 1, 0, 0, 0), (3, .getfield 23, 3, 8, 2, 383), (6, .getfield 137, 3, 1, 2, 127), (9, .invokevirtual 301, 3, 177, 0, 1284), (12, .iconst (-1), 1, 0, 0, 0), (13, .istore_n 2, 1, 0, 0, 0), (14, .bipush 6, 2, 0, 0, 0), (16, .istore_n 3, 1, 0, 0, 0), (17, .iconst 0, 1, 0, 0, 0), (18, .istore 4, 2, 0, 0, 0), (20, .iload 4, 2, 0, 0, 0), (22, .iconst 1, 1, 0, 0, 0), (23, .aload_n 0, 1, 0, 0, 0), (24, .getfield 23, 3, 8, 2, 383), (27, .getfield 169, 3, 1, 4, 134), (30, .ishl, 1, 0, 0, 0), (31, .if_icmp .ge 51, 3, 0, 82, 0)],
  [(34, .iload 4, 2, 0, 0, 0), (36, .invokestatic 253, 3, 328, 1, 599), (39, .istore 5, 2, 0, 0, 0), (41, .iload 5, 2, 0, 0, 0), (43, .iload_n 3, 1, 0, 0, 0), (44, .if_icmp .ge 32, 3, 0, 76, 0), (47, .aload_n 0, 1, 0, 0, 0), (48, .aload_n 0, 1, 0, 0, 0), (49, .getfield 50, 3, 8, 7, 388), (52, .getfield 175, 3, 2, 1, 228), (55, .aload_n 0, 1, 0, 0, 0), (56, .iload 4, 2, 0, 0, 0), (58, .invokevirtual 329, 3, 188, 0, 1371), (61, .invokevirtual 267, 3, 187, 0, 570)],
  [(64, .iload_n 1, 1, 0, 0, 0), (65, .iand, 1, 0, 0, 0), (66, .iload_n 1, 1, 0, 0, 0), (67, .if_icmp .ne 9, 3, 0, 76, 0), (70, .iload 5, 2, 0, 0, 0), (72, .istore_n 3, 1, 0, 0, 0), (73, .iload 4, 2, 0, 0, 0), (75, .istore_n 2, 1, 0, 0, 0), (76, .iinc 4 1, 3, 0, 0, 0), (79, .goto (-59), 3, 0, 20, 0), (82, .iload_n 2, 1, 0, 0, 0), (83, .ireturn, 1, 0, 0, 0)]]
set_option maxRecDepth 100000 in
noncomputable def mjT144 : List (List (Nat × mjX)) := [[(0, .aload_n 0, 1, 0, 0, 0), (1, .iload_n 1, 1, 0, 0, 0), (2, .aload_n 0, 1, 0, 0, 0), (3, .getfield 23, 3, 8, 2, 383), (6, .getfield 169, 3, 1, 4, 134), (9, .invokevirtual 301, 3, 177, 0, 1284), (12, .aload_n 0, 1, 0, 0, 0), (13, .aload_n 0, 1, 0, 0, 0), (14, .getfield 50, 3, 8, 7, 388), (17, .getfield 175, 3, 2, 1, 228), (20, .aload_n 0, 1, 0, 0, 0), (21, .iload_n 1, 1, 0, 0, 0), (22, .invokevirtual 329, 3, 188, 0, 1371), (25, .invokevirtual 267, 3, 187, 0, 570), (28, .ireturn, 1, 0, 0, 0)]]
set_option maxRecDepth 100000 in
noncomputable def mjT145 : List (List (Nat × mjX)) := [[(0, .aload_n 0, 1, 0, 0, 0), (1, .iload_n 1, 1, 0, 0, 0), (2, .iconst 5, 1, 0, 0, 0), (3, .invokevirtual 160, 3, 175, 0, 1035), (6, .aload_n 0, 1, 0, 0, 0), (7, .invokevirtual 271, 3, 180, 0, 1170), (10, .aload_n 0, 1, 0, 0, 0), (11, .iload_n 1, 1, 0, 0, 0), (12, .invokevirtual 274, 3, 190, 0, 1194), (15, .astore_n 2, 1, 0, 0, 0), (16, .aload_n 2, 1, 0, 0, 0), (17, .aload_n 0, 1, 0, 0, 0), (18, .getfield 23, 3, 8, 2, 383), (21, .aload_n 0, 1, 0, 0, 0), (22, .getfield 33, 3, 8, 4, 385), (25, .aload_n 0, 1, 0, 0, 0), (26, .getfield 50, 3, 8, 7, 388), (29, .getfield 172, 3, 2, 2, 230)],
  [(32, .aload_n 0, 1, 0, 0, 0), (33, .getfield 73, 3, 8, 12, 393), (36, .invokevirtual 278, 3, 69, 0, 1198), (39, .aload_n 2, 1, 0, 0, 0), (40, .aload_n 0, 1, 0, 0, 0), (41, .getfield 23, 3, 8, 2, 383), (44, .aload_n 0, 1, 0, 0, 0), (45, .getfield 50, 3, 8, 7, 388), (48, .getfield 172, 3, 2, 2, 230), (51, .invokevirtual 203, 3, 26, 0, 449), (54, .invokevirtual 291, 3, 77, 0, 1241), (57, .ireturn, 1, 0, 0, 0)]]
set_option maxRecDepth 100000 in
noncomputable def mjT146 : List (List (Nat × mjX)) := [[(0, .aload_n 0, 1, 0, 0, 0), (1, .iload_n 1, 1, 0, 0, 0), (2, .iconst 5, 1, 0, 0, 0), (3, .invokevirtual 160, 3, 175, 0, 1035), (6, .aload_n 0, 1, 0, 0, 0), (7, .iload_n 3, 1, 0, 0, 0), (8, .invokevirtual 332, 3, 178, 0, 1396), (11, .aload_n 0, 1, 0, 0, 0), (12, .getfield 23, 3, 8, 2, 383), (15, .aload_n 0, 1, 0, 0, 0), (16, .getfield 50, 3, 8, 7, 388), (19, .getfield 172, 3, 2, 2, 230), (22, .invokevirtual 203, 3, 26, 0, 449), (25, .istore 4, 2, 0, 0, 0), (27, .iconst 0, 1, 0, 0, 0), (28, .istore 5, 2, 0, 0, 0), (30, .iconst 0, 1, 0, 0, 0), (31, .istore 6, 2, 0, 0, 0)],
  [(33, .iload 6, 2, 0, 0, 0), (35, .iload_n 3, 1, 0, 0, 0), (36, .if_icmp .ge 40, 3, 0, 76, 0), (39, .aload_n 0, 1, 0, 0, 0), (40, .iload_n 2, 1, 0, 0, 0), (41, .iload 6, 2, 0, 0, 0), (43, .iadd, 1, 0, 0, 0), (44, .invokevirtual 335, 3, 185, 0, 578), (47, .iload 5, 2, 0, 0, 0), (49, .aload_n 0, 1, 0, 0, 0), (50, .iload_n 1, 1, 0, 0, 0), (51, .aload_n 0, 1, 0, 0, 0), (52, .getfield 23, 3, 8, 2, 383), (55, .getfield 137, 3, 1, 2, 127), (58, .invokevirtual 267, 3, 187, 0, 570), (61, .iload 4, 2, 0, 0, 0), (63, .iand, 1, 0, 0, 0)],
  [(64, .invokestatic 253, 3, 328, 1, 599), (67, .iadd, 1, 0, 0, 0), (68, .istore 5, 2, 0, 0, 0), (70, .iinc 6 1, 3, 0, 0, 0), (73, .goto (-40), 3, 0, 33, 0), (76, .iload 5, 2, 0, 0, 0), (78, .ireturn, 1, 0, 0, 0)]]
set_option maxRecDepth 100000 in
noncomputable def mjT147 : List (List (Nat × mjX)) := [[(0, .iload_n 2, 1, 0, 0, 0), (1, .ifCond .lt 14, 3, 0, 15, 0), (4, .iload_n 2, 1, 0, 0, 0), (5, .aload_n 0, 1, 0, 0, 0), (6, .getfield 23, 3, 8, 2, 383), (9, .getfield 137, 3, 1, 2, 127), (12, .if_icmp .lt 5, 3, 0, 17, 0), (15, .iconst (-1), 1, 0, 0, 0), (16, .ireturn, 1, 0, 0, 0), (17, .aload_n 0, 1, 0, 0, 0), (18, .iload_n 1, 1, 0, 0, 0), (19, .invokevirtual 335, 3, 185, 0, 578), (22, .aload_n 0, 1, 0, 0, 0), (23, .getfield 65, 3, 8, 11, 392), (26, .iload_n 2, 1, 0, 0, 0), (27, .iaload, 1, 0, 0, 0), (28, .ireturn, 1, 0, 0, 0)]]
set_option maxRecDepth 100000 in
noncomputable def mjT148 : List (List (Nat × mjX)) := [[(0, .aload_n 0, 1, 0, 0, 0), (1, .iload_n 1, 1, 0, 0, 0), (2, .invokevirtual 178, 3, 174, 0, 1047), (5, .aload_n 0, 1, 0, 0, 0), (6, .iload_n 3, 1, 0, 0, 0), (7, .invokevirtual 332, 3, 178, 0, 1396), (10, .iconst 0, 1, 0, 0, 0), (11, .istore 4, 2, 0, 0, 0), (13, .iconst 0, 1, 0, 0, 0), (14, .istore 5, 2, 0, 0, 0), (16, .iload 5, 2, 0, 0, 0), (18, .iload_n 3, 1, 0, 0, 0), (19, .if_icmp .ge 44, 3, 0, 63, 0), (22, .aload_n 0, 1, 0, 0, 0), (23, .iload_n 2, 1, 0, 0, 0), (24, .iload 5, 2, 0, 0, 0), (26, .iadd, 1, 0, 0, 0), (27, .invokevirtual 335, 3, 185, 0, 578), (30, .iload 4, 2, 0, 0, 0)],
  [(32, .aload_n 0, 1, 0, 0, 0), (33, .aload_n 0, 1, 0, 0, 0), (34, .getfield 50, 3, 8, 7, 388), (37, .getfield 175, 3, 2, 1, 228), (40, .aload_n 0, 1, 0, 0, 0), (41, .getfield 23, 3, 8, 2, 383), (44, .getfield 137, 3, 1, 2, 127), (47, .invokevirtual 267, 3, 187, 0, 570), (50, .iload_n 1, 1, 0, 0, 0), (51, .ishr, 1, 0, 0, 0), (52, .iconst 1, 1, 0, 0, 0), (53, .iand, 1, 0, 0, 0), (54, .iadd, 1, 0, 0, 0), (55, .istore 4, 2, 0, 0, 0), (57, .iinc 5 1, 3, 0, 0, 0), (60, .goto (-44), 3, 0, 16, 0), (63, .iload 4, 2, 0, 0, 0)],
  [(65, .ireturn, 1, 0, 0, 0)]]
set_option maxRecDepth 100000 in
noncomputable def mjT149 : List (List (Nat × mjX)) := [[(0, .aload_n 0, 1, 0, 0, 0), (1, .iload_n 1, 1, 0, 0, 0), (2, .iconst 2, 1, 0, 0, 0), (3, .invokevirtual 160, 3, 175, 0, 1035), (6, .aload_n 0, 1, 0, 0, 0), (7, .iload_n 2, 1, 0, 0, 0), (8, .invokevirtual 191, 3, 176, 0, 1085), (11, .aload_n 0, 1, 0, 0, 0), (12, .aload_n 0, 1, 0, 0, 0), (13, .getfield 73, 3, 8, 12, 393), (16, .iload_n 1, 1, 0, 0, 0), (17, .invokevirtual 338, 3, 189, 0, 1407), (20, .aload_n 0, 1, 0, 0, 0), (21, .getfield 73, 3, 8, 12, 393), (24, .iload_n 2, 1, 0, 0, 0), (25, .invokevirtual 224, 3, 14, 0, 1126), (28, .ireturn, 1, 0, 0, 0)]]
set_option maxRecDepth 100000 in
noncomputable def mjT150 : List (List (Nat × mjX)) := [[(0, .aload_n 0, 1, 0, 0, 0), (1, .iload_n 1, 1, 0, 0, 0), (2, .iconst 2, 1, 0, 0, 0), (3, .invokevirtual 160, 3, 175, 0, 1035), (6, .aload_n 0, 1, 0, 0, 0), (7, .aload_n 0, 1, 0, 0, 0), (8, .getfield 73, 3, 8, 12, 393), (11, .iload_n 1, 1, 0, 0, 0), (12, .invokevirtual 338, 3, 189, 0, 1407), (15, .iconst 0, 1, 0, 0, 0), (16, .istore_n 2, 1, 0, 0, 0), (17, .iload_n 2, 1, 0, 0, 0), (18, .bipush 52, 2, 0, 0, 0), (20, .if_icmp .ge 40, 3, 0, 60, 0), (23, .aload_n 0, 1, 0, 0, 0), (24, .getfield 23, 3, 8, 2, 383), (27, .aload_n 0, 1, 0, 0, 0), (28, .getfield 73, 3, 8, 12, 393), (31, .iload_n 2, 1, 0, 0, 0)],
  [(32, .invokevirtual 224, 3, 14, 0, 1126), (35, .iload_n 2, 1, 0, 0, 0), (36, .invokevirtual 257, 3, 28, 0, 1158), (39, .lconst 1, 1, 0, 0, 0), (40, .aload_n 0, 1, 0, 0, 0), (41, .getfield 50, 3, 8, 7, 388), (44, .getfield 172, 3, 2, 2, 230), (47, .lshl, 1, 0, 0, 0), (48, .lcmp, 1, 0, 0, 0), (49, .ifCond .ne 5, 3, 0, 54, 0), (52, .iload_n 2, 1, 0, 0, 0), (53, .ireturn, 1, 0, 0, 0), (54, .iinc 2 1, 3, 0, 0, 0), (57, .goto (-40), 3, 0, 17, 0), (60, .iconst (-1), 1, 0, 0, 0), (61, .ireturn, 1, 0, 0, 0)]]
set_option maxRecDepth 100000 in
noncomputable def mjT151 : List (List (Nat × mjX)) := [[(0, .aload_n 0, 1, 0, 0, 0), (1, .iload_n 1, 1, 0, 0, 0), (2, .iconst 2, 1, 0, 0, 0), (3, .invokevirtual 160, 3, 175, 0, 1035), (6, .aload_n 0, 1, 0, 0, 0), (7, .aload_n 0, 1, 0, 0, 0), (8, .getfield 73, 3, 8, 12, 393), (11, .iconst 0, 1, 0, 0, 0), (12, .invokevirtual 338, 3, 189, 0, 1407), (15, .aload_n 0, 1, 0, 0, 0), (16, .aload_n 0, 1, 0, 0, 0), (17, .getfield 77, 3, 8, 13, 394), (20, .iconst 1, 1, 0, 0, 0), (21, .invokevirtual 338, 3, 189, 0, 1407), (24, .iconst 0, 1, 0, 0, 0), (25, .istore_n 2, 1, 0, 0, 0), (26, .iconst (-1), 1, 0, 0, 0), (27, .istore_n 3, 1, 0, 0, 0), (28, .iconst 0, 1, 0, 0, 0), (29, .istore 4, 2, 0, 0, 0), (31, .iload 4, 2, 0, 0, 0)],
  [(33, .bipush 52, 2, 0, 0, 0), (35, .if_icmp .ge 61, 3, 0, 96, 0), (38, .aload_n 0, 1, 0, 0, 0), (39, .getfield 73, 3, 8, 12, 393), (42, .iload 4, 2, 0, 0, 0), (44, .invokevirtual 224, 3, 14, 0, 1126), (47, .aload_n 0, 1, 0, 0, 0), (48, .getfield 77, 3, 8, 13, 394), (51, .iload 4, 2, 0, 0, 0), (53, .invokevirtual 224, 3, 14, 0, 1126), (56, .ior, 1, 0, 0, 0), (57, .istore 5, 2, 0, 0, 0), (59, .aload_n 0, 1, 0, 0, 0), (60, .getfield 23, 3, 8, 2, 383), (63, .iload 5, 2, 0, 0, 0)],
  [(65, .iload 4, 2, 0, 0, 0), (67, .invokevirtual 257, 3, 28, 0, 1158), (70, .lconst 0, 1, 0, 0, 0), (71, .lcmp, 1, 0, 0, 0), (72, .ifCond .ne 18, 3, 0, 90, 0), (75, .iinc 2 1, 3, 0, 0, 0), (78, .iload_n 3, 1, 0, 0, 0), (79, .iconst (-1), 1, 0, 0, 0), (80, .if_icmp .ne 8, 3, 0, 88, 0), (83, .iload 4, 2, 0, 0, 0), (85, .goto 4, 3, 0, 89, 0), (88, .iload_n 3, 1, 0, 0, 0), (89, .istore_n 3, 1, 0, 0, 0), (90, .iinc 4 1, 3, 0, 0, 0), (93, .goto (-62), 3, 0, 31, 0)],
  [(96, .iload_n 1, 1, 0, 0, 0), (97, .ifCond .ne 7, 3, 0, 104, 0), (100, .iload_n 2, 1, 0, 0, 0), (101, .goto 4, 3, 0, 105, 0), (104, .iload_n 3, 1, 0, 0, 0), (105, .ireturn, 1, 0, 0, 0)]]
set_option maxRecDepth 100000 in
noncomputable def mjT152 : List (List (Nat × mjX)) := [[(0, .aload_n 0, 1, 0, 0, 0), (1, .iload_n 1, 1, 0, 0, 0), (2, .invokevirtual 178, 3, 174, 0, 1047), (5, .aload_n 0, 1, 0, 0, 0), (6, .invokevirtual 221, 3, 186, 0, 481), (9, .aload_n 0, 1, 0, 0, 0), (10, .getfield 73, 3, 8, 12, 393), (13, .getfield 342, 3, 0, 7, 272), (16, .iload_n 1, 1, 0, 0, 0), (17, .baload, 1, 0, 0, 0), (18, .ifCond .ne 5, 3, 0, 23, 0), (21, .iconst (-1), 1, 0, 0, 0), (22, .ireturn, 1, 0, 0, 0), (23, .aload_n 0, 1, 0, 0, 0), (24, .getfield 23, 3, 8, 2, 383), (27, .getfield 181, 3, 1, 7, 145), (30, .iload_n 1, 1, 0, 0, 0), (31, .laload, 1, 0, 0, 0)],
  [(32, .lstore_n 2, 1, 0, 0, 0), (33, .iconst 0, 1, 0, 0, 0), (34, .istore 4, 2, 0, 0, 0), (36, .iload 4, 2, 0, 0, 0), (38, .aload_n 0, 1, 0, 0, 0), (39, .getfield 23, 3, 8, 2, 383), (42, .getfield 166, 3, 1, 3, 131), (45, .if_icmp .ge 53, 3, 0, 98, 0), (48, .aload_n 0, 1, 0, 0, 0), (49, .getfield 23, 3, 8, 2, 383), (52, .getfield 346, 3, 1, 10, 155), (55, .iload 4, 2, 0, 0, 0), (57, .iaload, 1, 0, 0, 0), (58, .aload_n 0, 1, 0, 0, 0), (59, .getfield 73, 3, 8, 12, 393), (62, .getfield 230, 3, 0, 5, 268)],
  [(65, .iload_n 1, 1, 0, 0, 0), (66, .iaload, 1, 0, 0, 0), (67, .if_icmp .gt 25, 3, 0, 92, 0), (70, .lload_n 2, 1, 0, 0, 0), (71, .aload_n 0, 1, 0, 0, 0), (72, .getfield 23, 3, 8, 2, 383), (75, .getfield 188, 3, 1, 9, 151), (78, .iload 4, 2, 0, 0, 0), (80, .laload, 1, 0, 0, 0), (81, .land, 1, 0, 0, 0), (82, .lstore_n 2, 1, 0, 0, 0), (83, .lload_n 2, 1, 0, 0, 0), (84, .lconst 0, 1, 0, 0, 0), (85, .lcmp, 1, 0, 0, 0), (86, .ifCond .ne 6, 3, 0, 92, 0), (89, .iload 4, 2, 0, 0, 0), (91, .ireturn, 1, 0, 0, 0), (92, .iinc 4 1, 3, 0, 0, 0), (95, .goto (-59), 3, 0, 36, 0)],
  [(98, .iconst (-1), 1, 0, 0, 0), (99, .ireturn, 1, 0, 0, 0)]]
set_option maxRecDepth 100000 in
noncomputable def mjT153 : List (List (Nat × mjX)) := [[(0, .aload_n 0, 1, 0, 0, 0), (1, .iload_n 1, 1, 0, 0, 0), (2, .aload_n 0, 1, 0, 0, 0), (3, .getfield 23, 3, 8, 2, 383), (6, .getfield 137, 3, 1, 2, 127), (9, .invokevirtual 301, 3, 177, 0, 1284), (12, .aload_n 0, 1, 0, 0, 0), (13, .iload_n 2, 1, 0, 0, 0), (14, .invokevirtual 191, 3, 176, 0, 1085), (17, .aload_n 0, 1, 0, 0, 0), (18, .getfield 23, 3, 8, 2, 383), (21, .iload_n 1, 1, 0, 0, 0), (22, .iload_n 2, 1, 0, 0, 0), (23, .invokevirtual 257, 3, 28, 0, 1158), (26, .lreturn, 1, 0, 0, 0)]]
set_option maxRecDepth 100000 in
noncomputable def mjT154 : List (List (Nat × mjX)) := [[(0, .aload_n 0, 1, 0, 0, 0), (1, .iload_n 1, 1, 0, 0, 0), (2, .aload_n 0, 1, 0, 0, 0), (3, .getfield 23, 3, 8, 2, 383), (6, .getfield 137, 3, 1, 2, 127), (9, .invokevirtual 301, 3, 177, 0, 1284), (12, .aload_n 0, 1, 0, 0, 0), (13, .iload_n 2, 1, 0, 0, 0), (14, .invokevirtual 191, 3, 176, 0, 1085), (17, .aload_n 0, 1, 0, 0, 0), (18, .getfield 23, 3, 8, 2, 383), (21, .iload_n 1, 1, 0, 0, 0), (22, .iload_n 2, 1, 0, 0, 0), (23, .invokevirtual 257, 3, 28, 0, 1158), (26, .lstore_n 3, 1, 0, 0, 0), (27, .iconst 0, 1, 0, 0, 0), (28, .istore 5, 2, 0, 0, 0), (30, .iconst 0, 1, 0, 0, 0), (31, .istore 6, 2, 0, 0, 0)],
  [(33, .iload 6, 2, 0, 0, 0), (35, .aload_n 0, 1, 0, 0, 0), (36, .getfield 23, 3, 8, 2, 383), (39, .getfield 137, 3, 1, 2, 127), (42, .if_icmp .ge 39, 3, 0, 81, 0), (45, .lload_n 3, 1, 0, 0, 0), (46, .aload_n 0, 1, 0, 0, 0), (47, .getfield 23, 3, 8, 2, 383), (50, .getfield 181, 3, 1, 7, 145), (53, .iload 6, 2, 0, 0, 0), (55, .laload, 1, 0, 0, 0), (56, .ldc2_w 197, 3, 18446744073709551615, 0, 1096), (59, .lxor, 1, 0, 0, 0), (60, .land, 1, 0, 0, 0), (61, .lconst 0, 1, 0, 0, 0), (62, .lcmp, 1, 0, 0, 0), (63, .ifCond .ne 12, 3, 0, 75, 0)],
  [(66, .iload 5, 2, 0, 0, 0), (68, .iconst 1, 1, 0, 0, 0), (69, .iload 6, 2, 0, 0, 0), (71, .ishl, 1, 0, 0, 0), (72, .ior, 1, 0, 0, 0), (73, .istore 5, 2, 0, 0, 0), (75, .iinc 6 1, 3, 0, 0, 0), (78, .goto (-45), 3, 0, 33, 0), (81, .iload 5, 2, 0, 0, 0), (83, .ireturn, 1, 0, 0, 0)]]
set_option maxRecDepth 100000 in
noncomputable def mjT155 : List (List (Nat × mjX)) := [[(0, .aload_n 0, 1, 0, 0, 0), (1, .iload_n 1, 1, 0, 0, 0), (2, .invokevirtual 191, 3, 176, 0, 1085), (5, .aload_n 0, 1, 0, 0, 0), (6, .invokevirtual 221, 3, 186, 0, 481), (9, .aload_n 0, 1, 0, 0, 0), (10, .getfield 73, 3, 8, 12, 393), (13, .iload_n 1, 1, 0, 0, 0), (14, .invokevirtual 224, 3, 14, 0, 1126), (17, .istore_n 2, 1, 0, 0, 0), (18, .iconst 0, 1, 0, 0, 0), (19, .istore_n 3, 1, 0, 0, 0), (20, .iload_n 3, 1, 0, 0, 0), (21, .aload_n 0, 1, 0, 0, 0), (22, .getfield 23, 3, 8, 2, 383), (25, .getfield 137, 3, 1, 2, 127), (28, .if_icmp .ge 32, 3, 0, 60, 0), (31, .aload_n 0, 1, 0, 0, 0)],
  [(32, .getfield 50, 3, 8, 7, 388), (35, .getfield 218, 3, 2, 0, 226), (38, .iload_n 3, 1, 0, 0, 0), (39, .iaload, 1, 0, 0, 0), (40, .istore 4, 2, 0, 0, 0), (42, .iload_n 2, 1, 0, 0, 0), (43, .iload 4, 2, 0, 0, 0), (45, .ishr, 1, 0, 0, 0), (46, .iconst 1, 1, 0, 0, 0), (47, .iand, 1, 0, 0, 0), (48, .ifCond .eq 6, 3, 0, 54, 0), (51, .iload 4, 2, 0, 0, 0), (53, .ireturn, 1, 0, 0, 0), (54, .iinc 3 1, 3, 0, 0, 0), (57, .goto (-37), 3, 0, 20, 0), (60, .iconst (-1), 1, 0, 0, 0), (61, .ireturn, 1, 0, 0, 0)]]
set_option maxRecDepth 100000 in
noncomputable def mjT156 : List (List (Nat × mjX)) := [[(0, .aload_n 0, 1, 0, 0, 0), (1, .iload_n 1, 1, 0, 0, 0), (2, .invokevirtual 191, 3, 176, 0, 1085), (5, .iconst 0, 1, 0, 0, 0), (6, .istore_n 2, 1, 0, 0, 0), (7, .iconst 0, 1, 0, 0, 0), (8, .istore_n 3, 1, 0, 0, 0), (9, .iload_n 3, 1, 0, 0, 0), (10, .aload_n 0, 1, 0, 0, 0), (11, .getfield 23, 3, 8, 2, 383), (14, .getfield 137, 3, 1, 2, 127), (17, .if_icmp .ge 49, 3, 0, 66, 0), (20, .iload_n 3, 1, 0, 0, 0), (21, .iconst 1, 1, 0, 0, 0), (22, .iadd, 1, 0, 0, 0), (23, .istore 4, 2, 0, 0, 0), (25, .iload 4, 2, 0, 0, 0), (27, .aload_n 0, 1, 0, 0, 0), (28, .getfield 23, 3, 8, 2, 383), (31, .getfield 137, 3, 1, 2, 127)],
  [(34, .if_icmp .ge 26, 3, 0, 60, 0), (37, .aload_n 0, 1, 0, 0, 0), (38, .getfield 23, 3, 8, 2, 383), (41, .iload_n 3, 1, 0, 0, 0), (42, .iload 4, 2, 0, 0, 0), (44, .iload_n 1, 1, 0, 0, 0), (45, .invokevirtual 199, 3, 27, 0, 1104), (48, .ifCond .eq 6, 3, 0, 54, 0), (51, .iinc 2 1, 3, 0, 0, 0), (54, .iinc 4 1, 3, 0, 0, 0), (57, .goto (-32), 3, 0, 25, 0), (60, .iinc 3 1, 3, 0, 0, 0), (63, .goto (-54), 3, 0, 9, 0)],
  [(66, .iload_n 2, 1, 0, 0, 0), (67, .ireturn, 1, 0, 0, 0)]]
set_option maxRecDepth 100000 in
noncomputable def mjT157 : List (List (Nat × mjX)) := [[(0, .aload_n 0, 1, 0, 0, 0), (1, .iload_n 1, 1, 0, 0, 0), (2, .invokevirtual 191, 3, 176, 0, 1085), (5, .aload_n 0, 1, 0, 0, 0), (6, .getfield 89, 3, 8, 15, 396), (9, .aload_n 0, 1, 0, 0, 0), (10, .getfield 23, 3, 8, 2, 383), (13, .iload_n 1, 1, 0, 0, 0), (14, .invokevirtual 349, 3, 66, 0, 1460), (17, .ireturn, 1, 0, 0, 0)]]
set_option maxRecDepth 100000 in
noncomputable def mjT158 : List (List (Nat × mjX)) := [[(0, .aload_n 0, 1, 0, 0, 0), (1, .iload_n 1, 1, 0, 0, 0), (2, .iconst 2, 1, 0, 0, 0), (3, .invokevirtual 160, 3, 175, 0, 1035), (6, .aload_n 0, 1, 0, 0, 0), (7, .invokevirtual 271, 3, 180, 0, 1170), (10, .aload_n 0, 1, 0, 0, 0), (11, .aload_n 0, 1, 0, 0, 0), (12, .getfield 50, 3, 8, 7, 388), (15, .getfield 175, 3, 2, 1, 228), (18, .invokevirtual 274, 3, 190, 0, 1194), (21, .astore_n 2, 1, 0, 0, 0), (22, .aload_n 2, 1, 0, 0, 0), (23, .aload_n 0, 1, 0, 0, 0), (24, .getfield 23, 3, 8, 2, 383), (27, .aload_n 0, 1, 0, 0, 0), (28, .getfield 33, 3, 8, 4, 385), (31, .aload_n 0, 1, 0, 0, 0)],
  [(32, .getfield 50, 3, 8, 7, 388), (35, .getfield 172, 3, 2, 2, 230), (38, .aload_n 0, 1, 0, 0, 0), (39, .getfield 73, 3, 8, 12, 393), (42, .invokevirtual 278, 3, 69, 0, 1198), (45, .iload_n 1, 1, 0, 0, 0), (46, .ifCond .ne 11, 3, 0, 57, 0), (49, .aload_n 2, 1, 0, 0, 0), (50, .getfield 353, 3, 5, 5, 360), (53, .i2l, 1, 0, 0, 0), (54, .goto 7, 3, 0, 61, 0), (57, .aload_n 2, 1, 0, 0, 0), (58, .getfield 356, 3, 5, 6, 362), (61, .lreturn, 1, 0, 0, 0)]]
set_option maxRecDepth 100000 in
noncomputable def mjT159 : List (List (Nat × mjX)) := [[(0, .aload_n 0, 1, 0, 0, 0), (1, .iload_n 1, 1, 0, 0, 0), (2, .aload_n 0, 1, 0, 0, 0), (3, .getfield 23, 3, 8, 2, 383), (6, .getfield 163, 3, 1, 0, 119), (9, .invokevirtual 160, 3, 175, 0, 1035), (12, .aload_n 0, 1, 0, 0, 0), (13, .iload_n 2, 1, 0, 0, 0), (14, .invokevirtual 191, 3, 176, 0, 1085), (17, .aload_n 0, 1, 0, 0, 0), (18, .getfield 23, 3, 8, 2, 383), (21, .getfield 194, 3, 1, 11, 159), (24, .iload_n 2, 1, 0, 0, 0), (25, .laload, 1, 0, 0, 0), (26, .lstore_n 3, 1, 0, 0, 0), (27, .lload_n 3, 1, 0, 0, 0), (28, .lconst 0, 1, 0, 0, 0), (29, .lcmp, 1, 0, 0, 0), (30, .ifCond .ne 5, 3, 0, 35, 0)],
  [(33, .iconst (-1), 1, 0, 0, 0), (34, .ireturn, 1, 0, 0, 0), (35, .lload_n 3, 1, 0, 0, 0), (36, .iload_n 1, 1, 0, 0, 0), (37, .invokestatic 359, 3, 24, 1, 1490), (40, .land, 1, 0, 0, 0), (41, .lstore 5, 2, 0, 0, 0), (43, .lload 5, 2, 0, 0, 0), (45, .lload_n 3, 1, 0, 0, 0), (46, .lcmp, 1, 0, 0, 0), (47, .ifCond .ne 5, 3, 0, 52, 0), (50, .iconst 1, 1, 0, 0, 0), (51, .ireturn, 1, 0, 0, 0), (52, .lload 5, 2, 0, 0, 0), (54, .lconst 0, 1, 0, 0, 0), (55, .lcmp, 1, 0, 0, 0), (56, .ifCond .ne 7, 3, 0, 63, 0), (59, .iconst 0, 1, 0, 0, 0), (60, .goto 4, 3, 0, 64, 0), (63, .iconst 2, 1, 0, 0, 0)],
  [(64, .ireturn, 1, 0, 0, 0)]]
set_option maxRecDepth 100000 in
noncomputable def mjT160 : List (List (Nat × mjX)) := [[(0, .aload_n 0, 1, 0, 0, 0), (1, .iload_n 1, 1, 0, 0, 0), (2, .invokevirtual 178, 3, 174, 0, 1047), (5, .aload_n 0, 1, 0, 0, 0), (6, .getfield 23, 3, 8, 2, 383), (9, .getfield 163, 3, 1, 0, 119), (12, .iconst 3, 1, 0, 0, 0), (13, .if_icmp .le 7, 3, 0, 20, 0), (16, .aload_n 0, 1, 0, 0, 0), (17, .invokevirtual 362, 3, 173, 0, 1174), (20, .aload_n 0, 1, 0, 0, 0), (21, .getfield 96, 3, 8, 16, 397), (24, .aload_n 0, 1, 0, 0, 0), (25, .getfield 23, 3, 8, 2, 383), (28, .getfield 163, 3, 1, 0, 119), (31, .aload_n 0, 1, 0, 0, 0)],
  [(32, .getfield 23, 3, 8, 2, 383), (35, .getfield 181, 3, 1, 7, 145), (38, .iload_n 1, 1, 0, 0, 0), (39, .laload, 1, 0, 0, 0), (40, .invokevirtual 365, 3, 52, 0, 1498), (43, .ireturn, 1, 0, 0, 0)]]
set_option maxRecDepth 100000 in
noncomputable def mjT161 : List (List (Nat × mjX)) := [[(0, .aload_n 0, 1, 0, 0, 0), (1, .iload_n 1, 1, 0, 0, 0), (2, .invokevirtual 191, 3, 176, 0, 1085), (5, .iconst (-1), 1, 0, 0, 0), (6, .istore_n 2, 1, 0, 0, 0), (7, .bipush 7, 2, 0, 0, 0), (9, .istore_n 3, 1, 0, 0, 0), (10, .iconst 0, 1, 0, 0, 0), (11, .istore 4, 2, 0, 0, 0), (13, .iload 4, 2, 0, 0, 0), (15, .iconst 1, 1, 0, 0, 0), (16, .aload_n 0, 1, 0, 0, 0), (17, .getfield 23, 3, 8, 2, 383), (20, .getfield 163, 3, 1, 0, 119), (23, .ishl, 1, 0, 0, 0), (24, .if_icmp .ge 58, 3, 0, 82, 0), (27, .iload 4, 2, 0, 0, 0), (29, .invokestatic 253, 3, 328, 1, 599)],
  [(32, .istore 5, 2, 0, 0, 0), (34, .iload 5, 2, 0, 0, 0), (36, .iload_n 3, 1, 0, 0, 0), (37, .if_icmp .ge 39, 3, 0, 76, 0), (40, .aload_n 0, 1, 0, 0, 0), (41, .getfield 23, 3, 8, 2, 383), (44, .iload 4, 2, 0, 0, 0), (46, .aload_n 0, 1, 0, 0, 0), (47, .getfield 50, 3, 8, 7, 388), (50, .getfield 172, 3, 2, 2, 230), (53, .iload_n 1, 1, 0, 0, 0), (54, .invokevirtual 369, 3, 30, 0, 1542), (57, .lconst 1, 1, 0, 0, 0), (58, .aload_n 0, 1, 0, 0, 0), (59, .getfield 50, 3, 8, 7, 388), (62, .getfield 172, 3, 2, 2, 230)],
  [(65, .lshl, 1, 0, 0, 0), (66, .lcmp, 1, 0, 0, 0), (67, .ifCond .ne 9, 3, 0, 76, 0), (70, .iload 5, 2, 0, 0, 0), (72, .istore_n 3, 1, 0, 0, 0), (73, .iload 4, 2, 0, 0, 0), (75, .istore_n 2, 1, 0, 0, 0), (76, .iinc 4 1, 3, 0, 0, 0), (79, .goto (-66), 3, 0, 13, 0), (82, .iload_n 2, 1, 0, 0, 0), (83, .ireturn, 1, 0, 0, 0)]]
set_option maxRecDepth 100000 in
noncomputable def mjT162 : List (List (Nat × mjX)) := [[(0, .aload_n 0, 1, 0, 0, 0), (1, .invokevirtual 221, 3, 186, 0, 481), (4, .iconst 0, 1, 0, 0, 0), (5, .istore_n 2, 1, 0, 0, 0), (6, .iload_n 2, 1, 0, 0, 0), (7, .aload_n 0, 1, 0, 0, 0), (8, .getfield 23, 3, 8, 2, 383), (11, .getfield 137, 3, 1, 2, 127), (14, .if_icmp .ge 34, 3, 0, 48, 0), (17, .aload_n 0, 1, 0, 0, 0), (18, .getfield 73, 3, 8, 12, 393), (21, .getfield 230, 3, 0, 5, 268), (24, .iload_n 2, 1, 0, 0, 0), (25, .iaload, 1, 0, 0, 0), (26, .bipush 52, 2, 0, 0, 0), (28, .if_icmp .ge 14, 3, 0, 42, 0), (31, .aload_n 0, 1, 0, 0, 0)],
  [(32, .iload_n 2, 1, 0, 0, 0), (33, .invokevirtual 373, 3, 192, 0, 587), (36, .iload_n 1, 1, 0, 0, 0), (37, .if_icmp .ne 5, 3, 0, 42, 0), (40, .iload_n 2, 1, 0, 0, 0), (41, .ireturn, 1, 0, 0, 0), (42, .iinc 2 1, 3, 0, 0, 0), (45, .goto (-39), 3, 0, 6, 0), (48, .iconst (-1), 1, 0, 0, 0), (49, .ireturn, 1, 0, 0, 0)]]
set_option maxRecDepth 100000 in
noncomputable def mjT163 : List (List (Nat × mjX)) := [[(0, .aload_n 0, 1, 0, 0, 0), (1, .iload_n 1, 1, 0, 0, 0), (2, .bipush 53, 2, 0, 0, 0), (4, .invokevirtual 160, 3, 175, 0, 1035), (7, .aload_n 0, 1, 0, 0, 0), (8, .invokevirtual 221, 3, 186, 0, 481), (11, .iconst 0, 1, 0, 0, 0), (12, .istore_n 2, 1, 0, 0, 0), (13, .iconst 0, 1, 0, 0, 0), (14, .istore_n 3, 1, 0, 0, 0), (15, .iload_n 3, 1, 0, 0, 0), (16, .aload_n 0, 1, 0, 0, 0), (17, .getfield 23, 3, 8, 2, 383), (20, .getfield 137, 3, 1, 2, 127), (23, .if_icmp .ge 64, 3, 0, 87, 0), (26, .aload_n 0, 1, 0, 0, 0), (27, .getfield 73, 3, 8, 12, 393), (30, .getfield 242, 3, 0, 8, 275)],
  [(33, .iload_n 3, 1, 0, 0, 0), (34, .ishr, 1, 0, 0, 0), (35, .iconst 1, 1, 0, 0, 0), (36, .iand, 1, 0, 0, 0), (37, .ifCond .eq 7, 3, 0, 44, 0), (40, .iconst 1, 1, 0, 0, 0), (41, .goto 4, 3, 0, 45, 0), (44, .iconst 0, 1, 0, 0, 0), (45, .istore 4, 2, 0, 0, 0), (47, .iload 4, 2, 0, 0, 0), (49, .ifCond .eq 32, 3, 0, 81, 0), (52, .aload_n 0, 1, 0, 0, 0), (53, .getfield 73, 3, 8, 12, 393), (56, .iload_n 3, 1, 0, 0, 0), (57, .invokevirtual 236, 3, 10, 0, 591), (60, .iload_n 1, 1, 0, 0, 0), (61, .if_icmp .lt 20, 3, 0, 81, 0)],
  [(64, .aload_n 0, 1, 0, 0, 0), (65, .getfield 73, 3, 8, 12, 393), (68, .iload_n 3, 1, 0, 0, 0), (69, .invokevirtual 239, 3, 11, 0, 1137), (72, .ifCond .ne 9, 3, 0, 81, 0), (75, .iload_n 2, 1, 0, 0, 0), (76, .iconst 1, 1, 0, 0, 0), (77, .iload_n 3, 1, 0, 0, 0), (78, .ishl, 1, 0, 0, 0), (79, .ior, 1, 0, 0, 0), (80, .istore_n 2, 1, 0, 0, 0), (81, .iinc 3 1, 3, 0, 0, 0), (84, .goto (-69), 3, 0, 15, 0), (87, .iload_n 2, 1, 0, 0, 0), (88, .ireturn, 1, 0, 0, 0)]]
set_option maxRecDepth 100000 in
noncomputable def mjT164 : List (List (Nat × mjX)) := [[(0, .aload_n 0, 1, 0, 0, 0), (1, .getfield 23, 3, 8, 2, 383), (4, .aload_n 0, 1, 0, 0, 0), (5, .getfield 50, 3, 8, 7, 388), (8, .getfield 172, 3, 2, 2, 230), (11, .invokevirtual 203, 3, 26, 0, 449), (14, .istore_n 1, 1, 0, 0, 0), (15, .aload_n 0, 1, 0, 0, 0), (16, .invokevirtual 221, 3, 186, 0, 481), (19, .aload_n 0, 1, 0, 0, 0), (20, .getfield 73, 3, 8, 12, 393), (23, .getfield 242, 3, 0, 8, 275), (26, .iload_n 1, 1, 0, 0, 0), (27, .iand, 1, 0, 0, 0), (28, .invokestatic 253, 3, 328, 1, 599), (31, .istore_n 2, 1, 0, 0, 0)],
  [(32, .iconst (-1), 1, 0, 0, 0), (33, .istore_n 3, 1, 0, 0, 0), (34, .aload_n 0, 1, 0, 0, 0), (35, .iconst 0, 1, 0, 0, 0), (36, .invokevirtual 261, 3, 183, 0, 562), (39, .iconst 0, 1, 0, 0, 0), (40, .istore 4, 2, 0, 0, 0), (42, .iload 4, 2, 0, 0, 0), (44, .aload_n 0, 1, 0, 0, 0), (45, .getfield 23, 3, 8, 2, 383), (48, .getfield 137, 3, 1, 2, 127), (51, .if_icmp .ge 92, 3, 0, 143, 0), (54, .iload 4, 2, 0, 0, 0), (56, .iconst 1, 1, 0, 0, 0), (57, .iadd, 1, 0, 0, 0), (58, .istore 5, 2, 0, 0, 0), (60, .iload 5, 2, 0, 0, 0), (62, .aload_n 0, 1, 0, 0, 0), (63, .getfield 23, 3, 8, 2, 383)],
  [(66, .getfield 137, 3, 1, 2, 127), (69, .if_icmp .ge 68, 3, 0, 137, 0), (72, .aload_n 0, 1, 0, 0, 0), (73, .iload 4, 2, 0, 0, 0), (75, .iload 5, 2, 0, 0, 0), (77, .invokevirtual 264, 3, 184, 0, 566), (80, .aload_n 0, 1, 0, 0, 0), (81, .aload_n 0, 1, 0, 0, 0), (82, .getfield 50, 3, 8, 7, 388), (85, .getfield 175, 3, 2, 1, 228), (88, .aload_n 0, 1, 0, 0, 0), (89, .getfield 23, 3, 8, 2, 383), (92, .getfield 137, 3, 1, 2, 127), (95, .invokevirtual 267, 3, 187, 0, 570)],
  [(98, .iload_n 1, 1, 0, 0, 0), (99, .iand, 1, 0, 0, 0), (100, .invokestatic 253, 3, 328, 1, 599), (103, .istore 6, 2, 0, 0, 0), (105, .aload_n 0, 1, 0, 0, 0), (106, .iload 4, 2, 0, 0, 0), (108, .iload 5, 2, 0, 0, 0), (110, .invokevirtual 264, 3, 184, 0, 566), (113, .iload 6, 2, 0, 0, 0), (115, .iload_n 2, 1, 0, 0, 0), (116, .if_icmp .le 15, 3, 0, 131, 0), (119, .iload 6, 2, 0, 0, 0), (121, .istore_n 2, 1, 0, 0, 0), (122, .bipush 16, 2, 0, 0, 0), (124, .iload 4, 2, 0, 0, 0), (126, .imul, 1, 0, 0, 0), (127, .iload 5, 2, 0, 0, 0)],
  [(129, .iadd, 1, 0, 0, 0), (130, .istore_n 3, 1, 0, 0, 0), (131, .iinc 5 1, 3, 0, 0, 0), (134, .goto (-74), 3, 0, 60, 0), (137, .iinc 4 1, 3, 0, 0, 0), (140, .goto (-98), 3, 0, 42, 0), (143, .iload_n 3, 1, 0, 0, 0), (144, .ireturn, 1, 0, 0, 0)]]
set_option maxRecDepth 100000 in
noncomputable def mjT165 : List (List (Nat × mjX)) := [[(0, .iconst 1, 1, 0, 0, 0), (1, .aload_n 0, 1, 0, 0, 0), (2, .getfield 23, 3, 8, 2, 383), (5, .getfield 137, 3, 1, 2, 127), (8, .ishl, 1, 0, 0, 0), (9, .iconst 1, 1, 0, 0, 0), (10, .isub, 1, 0, 0, 0), (11, .istore_n 1, 1, 0, 0, 0), (12, .aload_n 0, 1, 0, 0, 0), (13, .getfield 23, 3, 8, 2, 383), (16, .getfield 137, 3, 1, 2, 127), (19, .istore_n 2, 1, 0, 0, 0), (20, .iconst 0, 1, 0, 0, 0), (21, .istore_n 3, 1, 0, 0, 0), (22, .iload_n 3, 1, 0, 0, 0), (23, .iconst 1, 1, 0, 0, 0), (24, .aload_n 0, 1, 0, 0, 0), (25, .getfield 23, 3, 8, 2, 383), (28, .getfield 137, 3, 1, 2, 127), (31, .ishl, 1, 0, 0, 0)],
  [(32, .if_icmp .ge 34, 3, 0, 66, 0), (35, .iload_n 3, 1, 0, 0, 0), (36, .invokestatic 253, 3, 328, 1, 599), (39, .istore 4, 2, 0, 0, 0), (41, .iload 4, 2, 0, 0, 0), (43, .iload_n 2, 1, 0, 0, 0), (44, .if_icmp .ge 16, 3, 0, 60, 0), (47, .aload_n 0, 1, 0, 0, 0), (48, .iload_n 3, 1, 0, 0, 0), (49, .invokevirtual 376, 3, 193, 0, 609), (52, .ifCond .eq 8, 3, 0, 60, 0), (55, .iload 4, 2, 0, 0, 0), (57, .istore_n 2, 1, 0, 0, 0), (58, .iload_n 3, 1, 0, 0, 0), (59, .istore_n 1, 1, 0, 0, 0), (60, .iinc 3 1, 3, 0, 0, 0), (63, .goto (-41), 3, 0, 22, 0)],
  [(66, .iload_n 1, 1, 0, 0, 0), (67, .ireturn, 1, 0, 0, 0)]]
set_option maxRecDepth 100000 in
noncomputable def mjT166 : List (List (Nat × mjX)) := [[(0, .aload_n 0, 1, 0, 0, 0), (1, .iload_n 1, 1, 0, 0, 0), (2, .invokevirtual 178, 3, 174, 0, 1047), (5, .aload_n 0, 1, 0, 0, 0), (6, .iload_n 2, 1, 0, 0, 0), (7, .invokevirtual 178, 3, 174, 0, 1047), (10, .aload_n 0, 1, 0, 0, 0), (11, .iload_n 3, 1, 0, 0, 0), (12, .bipush 53, 2, 0, 0, 0), (14, .invokevirtual 160, 3, 175, 0, 1035), (17, .aload_n 0, 1, 0, 0, 0), (18, .iload 4, 2, 0, 0, 0), (20, .invokevirtual 191, 3, 176, 0, 1085), (23, .aload_n 0, 1, 0, 0, 0), (24, .getfield 33, 3, 8, 4, 385), (27, .aload_n 0, 1, 0, 0, 0), (28, .getfield 23, 3, 8, 2, 383), (31, .iload_n 1, 1, 0, 0, 0)],
  [(32, .iload_n 2, 1, 0, 0, 0), (33, .iload_n 3, 1, 0, 0, 0), (34, .iconst 0, 1, 0, 0, 0), (35, .iload 4, 2, 0, 0, 0), (37, .iconst 1, 1, 0, 0, 0), (38, .invokevirtual 380, 3, 98, 0, 1567), (41, .aload_n 0, 1, 0, 0, 0), (42, .getfield 33, 3, 8, 4, 385), (45, .invokevirtual 384, 3, 99, 0, 1568), (48, .ireturn, 1, 0, 0, 0)]]
set_option maxRecDepth 100000 in
noncomputable def mjT167 : List (List (Nat × mjX)) := [[(0, .aload_n 0, 1, 0, 0, 0), (1, .getfield 58, 3, 8, 9, 390), (4, .aload_n 0, 1, 0, 0, 0), (5, .getfield 54, 3, 8, 8, 389), (8, .arraylength, 1, 0, 0, 0), (9, .if_icmp .lt 5, 3, 0, 14, 0), (12, .iconst (-1), 1, 0, 0, 0), (13, .ireturn, 1, 0, 0, 0), (14, .aload_n 0, 1, 0, 0, 0), (15, .getfield 54, 3, 8, 8, 389), (18, .aload_n 0, 1, 0, 0, 0), (19, .getfield 58, 3, 8, 9, 390), (22, .aaload, 1, 0, 0, 0), (23, .aload_n 0, 1, 0, 0, 0), (24, .getfield 50, 3, 8, 7, 388), (27, .invokevirtual 387, 3, 50, 0, 618), (30, .aload_n 0, 1, 0, 0, 0), (31, .dup, 1, 0, 0, 0)],
  [(32, .getfield 58, 3, 8, 9, 390), (35, .iconst 1, 1, 0, 0, 0), (36, .iadd, 1, 0, 0, 0), (37, .putfield 58, 3, 8, 9, 390), (40, .aload_n 0, 1, 0, 0, 0), (41, .getfield 58, 3, 8, 9, 390), (44, .ireturn, 1, 0, 0, 0)]]
set_option maxRecDepth 100000 in
noncomputable def mjT168 : List (List (Nat × mjX)) := [[(0, .aload_n 0, 1, 0, 0, 0), (1, .getfield 58, 3, 8, 9, 390), (4, .ifCond .le 15, 3, 0, 19, 0), (7, .aload_n 0, 1, 0, 0, 0), (8, .getfield 58, 3, 8, 9, 390), (11, .aload_n 0, 1, 0, 0, 0), (12, .getfield 54, 3, 8, 8, 389), (15, .arraylength, 1, 0, 0, 0), (16, .if_icmp .le 5, 3, 0, 21, 0), (19, .iconst (-1), 1, 0, 0, 0), (20, .ireturn, 1, 0, 0, 0), (21, .aload_n 0, 1, 0, 0, 0), (22, .dup, 1, 0, 0, 0), (23, .getfield 58, 3, 8, 9, 390), (26, .iconst 1, 1, 0, 0, 0), (27, .isub, 1, 0, 0, 0), (28, .putfield 58, 3, 8, 9, 390), (31, .aload_n 0, 1, 0, 0, 0)],
  [(32, .getfield 50, 3, 8, 7, 388), (35, .aload_n 0, 1, 0, 0, 0), (36, .getfield 54, 3, 8, 8, 389), (39, .aload_n 0, 1, 0, 0, 0), (40, .getfield 58, 3, 8, 9, 390), (43, .aaload, 1, 0, 0, 0), (44, .invokevirtual 387, 3, 50, 0, 618), (47, .aload_n 0, 1, 0, 0, 0), (48, .getfield 58, 3, 8, 9, 390), (51, .ireturn, 1, 0, 0, 0)]]
set_option maxRecDepth 100000 in
noncomputable def mjT169 : List (List (Nat × mjX)) := [[(0, .iload_n 1, 1, 0, 0, 0), (1, .ifCond .lt 12, 3, 0, 13, 0), (4, .iload_n 1, 1, 0, 0, 0), (5, .aload_n 0, 1, 0, 0, 0), (6, .getfield 61, 3, 8, 10, 391), (9, .arraylength, 1, 0, 0, 0), (10, .if_icmp .lt 7, 3, 0, 17, 0), (13, .iconst (-1), 1, 0, 0, 0), (14, .goto 9, 3, 0, 23, 0), (17, .aload_n 0, 1, 0, 0, 0), (18, .getfield 61, 3, 8, 10, 391), (21, .iload_n 1, 1, 0, 0, 0), (22, .iaload, 1, 0, 0, 0), (23, .ireturn, 1, 0, 0, 0)]]
set_option maxRecDepth 100000 in
noncomputable def mjT170 : List (List (Nat × mjX)) := [[(0, .iload_n 1, 1, 0, 0, 0), (1, .lookupswitch 40 #[(0, 27), (1, 32)], 27, 0, 0, 0), (28, .aload_n 0, 1, 0, 0, 0), (29, .getfield 58, 3, 8, 9, 390)],
  [(32, .ireturn, 1, 0, 0, 0), (33, .aload_n 0, 1, 0, 0, 0), (34, .getfield 10, 3, 8, 0, 381), (37, .getfield 103, 3, 6, 1, 43), (40, .ireturn, 1, 0, 0, 0), (41, .iconst (-1), 1, 0, 0, 0), (42, .ireturn, 1, 0, 0, 0)]]
set_option maxRecDepth 100000 in
noncomputable def mjT171 : List (List (Nat × mjX)) := [[(0, .aload_n 0, 1, 0, 0, 0), (1, .getfield 61, 3, 8, 10, 391), (4, .iconst 0, 1, 0, 0, 0), (5, .dup2, 1, 0, 0, 0), (6, .iaload, 1, 0, 0, 0), (7, .iconst 1, 1, 0, 0, 0), (8, .iadd, 1, 0, 0, 0), (9, .iastore, 1, 0, 0, 0), (10, .new 391, 3, 0, 1, 1055), (13, .dup, 1, 0, 0, 0), (14, .ldc_w 393, 3, 28, 1, 1064), (17, .invokespecial 395, 3, 999, 5, 1065), (20, .athrow, 1, 0, 0, 0)]]
set_option maxRecDepth 100000 in
noncomputable def mjT172 : List (List (Nat × mjX)) := [[(0, .aload_n 0, 1, 0, 0, 0), (1, .getfield 61, 3, 8, 10, 391), (4, .iconst 1, 1, 0, 0, 0), (5, .dup2, 1, 0, 0, 0), (6, .iaload, 1, 0, 0, 0), (7, .iconst 1, 1, 0, 0, 0), (8, .iadd, 1, 0, 0, 0), (9, .iastore, 1, 0, 0, 0), (10, .new 398, 3, 1, 1, 650), (13, .dup, 1, 0, 0, 0), (14, .ldc_w 400, 3, 0, 1, 691), (17, .invokespecial 402, 3, 999, 5, 692), (20, .athrow, 1, 0, 0, 0)]]
set_option maxRecDepth 100000 in
noncomputable def mjT173 : List (List (Nat × mjX)) := [[(0, .aload_n 0, 1, 0, 0, 0), (1, .getfield 61, 3, 8, 10, 391), (4, .iconst 2, 1, 0, 0, 0), (5, .dup2, 1, 0, 0, 0), (6, .iaload, 1, 0, 0, 0), (7, .iconst 1, 1, 0, 0, 0), (8, .iadd, 1, 0, 0, 0), (9, .iastore, 1, 0, 0, 0), (10, .new 403, 3, 2, 1, 1178), (13, .dup, 1, 0, 0, 0), (14, .ldc_w 405, 3, 29, 1, 1187), (17, .invokespecial 407, 3, 999, 5, 1188), (20, .athrow, 1, 0, 0, 0)]]
set_option maxRecDepth 100000 in
noncomputable def mjT174 : List (List (Nat × mjX)) := [[(0, .iload_n 1, 1, 0, 0, 0), (1, .ifCond .lt 14, 3, 0, 15, 0), (4, .iload_n 1, 1, 0, 0, 0), (5, .aload_n 0, 1, 0, 0, 0), (6, .getfield 23, 3, 8, 2, 383), (9, .getfield 137, 3, 1, 2, 127), (12, .if_icmp .lt 7, 3, 0, 19, 0), (15, .aload_n 0, 1, 0, 0, 0), (16, .invokevirtual 185, 3, 171, 0, 1051), (19, .return_, 1, 0, 0, 0)]]
set_option maxRecDepth 100000 in
noncomputable def mjT175 : List (List (Nat × mjX)) := [[(0, .iload_n 1, 1, 0, 0, 0), (1, .ifCond .lt 8, 3, 0, 9, 0), (4, .iload_n 1, 1, 0, 0, 0), (5, .iload_n 2, 1, 0, 0, 0), (6, .if_icmp .lt 7, 3, 0, 13, 0), (9, .aload_n 0, 1, 0, 0, 0), (10, .invokevirtual 408, 3, 172, 0, 646), (13, .return_, 1, 0, 0, 0)]]
set_option maxRecDepth 100000 in
noncomputable def mjT176 : List (List (Nat × mjX)) := [[(0, .aload_n 0, 1, 0, 0, 0), (1, .iload_n 1, 1, 0, 0, 0), (2, .bipush 52, 2, 0, 0, 0), (4, .invokevirtual 160, 3, 175, 0, 1035), (7, .return_, 1, 0, 0, 0)]]
set_option maxRecDepth 100000 in
noncomputable def mjT177 : List (List (Nat × mjX)) := [[(0, .aload_n 0, 1, 0, 0, 0), (1, .iload_n 1, 1, 0, 0, 0), (2, .iconst 1, 1, 0, 0, 0), (3, .iload_n 2, 1, 0, 0, 0), (4, .ishl, 1, 0, 0, 0), (5, .invokevirtual 160, 3, 175, 0, 1035), (8, .return_, 1, 0, 0, 0)]]
set_option maxRecDepth 100000 in
noncomputable def mjT178 : List (List (Nat × mjX)) := [[(0, .iload_n 1, 1, 0, 0, 0), (1, .iconst 1, 1, 0, 0, 0), (2, .if_icmp .lt 9, 3, 0, 11, 0), (5, .iload_n 1, 1, 0, 0, 0), (6, .bipush 60, 2, 0, 0, 0), (8, .if_icmp .le 7, 3, 0, 15, 0), (11, .aload_n 0, 1, 0, 0, 0), (12, .invokevirtual 408, 3, 172, 0, 646), (15, .return_, 1, 0, 0, 0)]]
set_option maxRecDepth 100000 in
noncomputable def mjT179 : List (List (Nat × mjX)) := [[(0, .iload_n 1, 1, 0, 0, 0), (1, .ifCond .lt 19, 3, 0, 20, 0), (4, .iload_n 1, 1, 0, 0, 0), (5, .aload_n 0, 1, 0, 0, 0), (6, .getfield 10, 3, 8, 0, 381), (9, .getfield 103, 3, 6, 1, 43), (12, .if_icmp .gt 8, 3, 0, 20, 0), (15, .iload_n 1, 1, 0, 0, 0), (16, .iload_n 2, 1, 0, 0, 0), (17, .if_icmp .le 7, 3, 0, 24, 0), (20, .aload_n 0, 1, 0, 0, 0), (21, .invokevirtual 408, 3, 172, 0, 646), (24, .return_, 1, 0, 0, 0)]]
set_option maxRecDepth 100000 in
noncomputable def mjT180 : List (List (Nat × mjX)) := [[(0, .aload_n 0, 1, 0, 0, 0), (1, .getfield 23, 3, 8, 2, 383), (4, .getfield 137, 3, 1, 2, 127), (7, .bipush 7, 2, 0, 0, 0), (9, .if_icmp .le 7, 3, 0, 16, 0), (12, .aload_n 0, 1, 0, 0, 0), (13, .invokevirtual 362, 3, 173, 0, 1174), (16, .return_, 1, 0, 0, 0)]]
set_option maxRecDepth 100000 in
noncomputable def mjT181 : List (List (Nat × mjX)) := [[(0, .lload_n 1, 1, 0, 0, 0), (1, .iconst 4, 1, 0, 0, 0), (2, .aload_n 0, 1, 0, 0, 0), (3, .getfield 23, 3, 8, 2, 383), (6, .getfield 137, 3, 1, 2, 127), (9, .iconst 1, 1, 0, 0, 0), (10, .isub, 1, 0, 0, 0), (11, .iload_n 3, 1, 0, 0, 0), (12, .isub, 1, 0, 0, 0), (13, .imul, 1, 0, 0, 0), (14, .lushr, 1, 0, 0, 0), (15, .l2i, 1, 0, 0, 0), (16, .bipush 15, 2, 0, 0, 0), (18, .iand, 1, 0, 0, 0), (19, .ireturn, 1, 0, 0, 0)]]
set_option maxRecDepth 100000 in
noncomputable def mjT182 : List (List (Nat × mjX)) := [[(0, .iconst 0, 1, 0, 0, 0), (1, .istore_n 3, 1, 0, 0, 0), (2, .iload_n 3, 1, 0, 0, 0), (3, .aload_n 0, 1, 0, 0, 0), (4, .getfield 23, 3, 8, 2, 383), (7, .getfield 137, 3, 1, 2, 127), (10, .if_icmp .ge 24, 3, 0, 34, 0), (13, .aload_n 0, 1, 0, 0, 0), (14, .getfield 50, 3, 8, 7, 388), (17, .getfield 218, 3, 2, 0, 226), (20, .iload_n 3, 1, 0, 0, 0), (21, .aload_n 0, 1, 0, 0, 0), (22, .lload_n 1, 1, 0, 0, 0), (23, .iload_n 3, 1, 0, 0, 0), (24, .invokevirtual 210, 3, 181, 0, 465), (27, .iastore, 1, 0, 0, 0), (28, .iinc 3 1, 3, 0, 0, 0), (31, .goto (-29), 3, 0, 2, 0)],
  [(34, .return_, 1, 0, 0, 0)]]
set_option maxRecDepth 100000 in
noncomputable def mjT183 : List (List (Nat × mjX)) := [[(0, .iconst 0, 1, 0, 0, 0), (1, .istore_n 2, 1, 0, 0, 0), (2, .iload_n 2, 1, 0, 0, 0), (3, .aload_n 0, 1, 0, 0, 0), (4, .getfield 23, 3, 8, 2, 383), (7, .getfield 137, 3, 1, 2, 127), (10, .if_icmp .ge 37, 3, 0, 47, 0), (13, .iload_n 1, 1, 0, 0, 0), (14, .iload_n 2, 1, 0, 0, 0), (15, .iadd, 1, 0, 0, 0), (16, .aload_n 0, 1, 0, 0, 0), (17, .getfield 65, 3, 8, 11, 392), (20, .arraylength, 1, 0, 0, 0), (21, .if_icmp .ge 26, 3, 0, 47, 0), (24, .aload_n 0, 1, 0, 0, 0), (25, .getfield 65, 3, 8, 11, 392), (28, .iload_n 1, 1, 0, 0, 0), (29, .iload_n 2, 1, 0, 0, 0), (30, .iadd, 1, 0, 0, 0), (31, .aload_n 0, 1, 0, 0, 0)],
  [(32, .getfield 50, 3, 8, 7, 388), (35, .getfield 218, 3, 2, 0, 226), (38, .iload_n 2, 1, 0, 0, 0), (39, .iaload, 1, 0, 0, 0), (40, .iastore, 1, 0, 0, 0), (41, .iinc 2 1, 3, 0, 0, 0), (44, .goto (-42), 3, 0, 2, 0), (47, .return_, 1, 0, 0, 0)]]
set_option maxRecDepth 100000 in
noncomputable def mjT184 : List (List (Nat × mjX)) := [[(0, .aload_n 0, 1, 0, 0, 0), (1, .getfield 65, 3, 8, 11, 392), (4, .iload_n 1, 1, 0, 0, 0), (5, .iaload, 1, 0, 0, 0), (6, .istore_n 3, 1, 0, 0, 0), (7, .aload_n 0, 1, 0, 0, 0), (8, .getfield 65, 3, 8, 11, 392), (11, .iload_n 1, 1, 0, 0, 0), (12, .aload_n 0, 1, 0, 0, 0), (13, .getfield 65, 3, 8, 11, 392), (16, .iload_n 2, 1, 0, 0, 0), (17, .iaload, 1, 0, 0, 0), (18, .iastore, 1, 0, 0, 0), (19, .aload_n 0, 1, 0, 0, 0), (20, .getfield 65, 3, 8, 11, 392), (23, .iload_n 2, 1, 0, 0, 0), (24, .iload_n 3, 1, 0, 0, 0), (25, .iastore, 1, 0, 0, 0), (26, .return_, 1, 0, 0, 0)]]
set_option maxRecDepth 100000 in
noncomputable def mjT185 : List (List (Nat × mjX)) := [[(0, .iconst 0, 1, 0, 0, 0), (1, .istore_n 2, 1, 0, 0, 0), (2, .iload_n 2, 1, 0, 0, 0), (3, .aload_n 0, 1, 0, 0, 0), (4, .getfield 23, 3, 8, 2, 383), (7, .getfield 137, 3, 1, 2, 127), (10, .if_icmp .ge 16, 3, 0, 26, 0), (13, .aload_n 0, 1, 0, 0, 0), (14, .getfield 65, 3, 8, 11, 392), (17, .iload_n 2, 1, 0, 0, 0), (18, .iload_n 2, 1, 0, 0, 0), (19, .iastore, 1, 0, 0, 0), (20, .iinc 2 1, 3, 0, 0, 0), (23, .goto (-21), 3, 0, 2, 0), (26, .iload_n 1, 1, 0, 0, 0), (27, .istore_n 2, 1, 0, 0, 0), (28, .aload_n 0, 1, 0, 0, 0), (29, .getfield 23, 3, 8, 2, 383)],
  [(32, .getfield 137, 3, 1, 2, 127), (35, .iconst 1, 1, 0, 0, 0), (36, .isub, 1, 0, 0, 0), (37, .istore_n 3, 1, 0, 0, 0), (38, .iload_n 3, 1, 0, 0, 0), (39, .iconst 1, 1, 0, 0, 0), (40, .if_icmp .lt 36, 3, 0, 76, 0), (43, .iload_n 2, 1, 0, 0, 0), (44, .ldc_w 411, 3, 1103515245, 0, 582), (47, .imul, 1, 0, 0, 0), (48, .sipush 12345, 3, 0, 0, 0), (51, .iadd, 1, 0, 0, 0), (52, .istore_n 2, 1, 0, 0, 0), (53, .aload_n 0, 1, 0, 0, 0), (54, .iload_n 3, 1, 0, 0, 0), (55, .iload_n 2, 1, 0, 0, 0), (56, .bipush 16, 2, 0, 0, 0), (58, .iushr, 1, 0, 0, 0), (59, .sipush 32767, 3, 0, 0, 0), (62, .iand, 1, 0, 0, 0), (63, .iload_n 3, 1, 0, 0, 0)],
  [(64, .iconst 1, 1, 0, 0, 0), (65, .iadd, 1, 0, 0, 0), (66, .irem, 1, 0, 0, 0), (67, .invokevirtual 264, 3, 184, 0, 566), (70, .iinc 3 (-1), 3, 0, 0, 0), (73, .goto (-35), 3, 0, 38, 0), (76, .return_, 1, 0, 0, 0)]]
set_option maxRecDepth 100000 in
noncomputable def mjT186 : List (List (Nat × mjX)) := [[(0, .aload_n 0, 1, 0, 0, 0), (1, .getfield 73, 3, 8, 12, 393), (4, .aload_n 0, 1, 0, 0, 0), (5, .getfield 23, 3, 8, 2, 383), (8, .aload_n 0, 1, 0, 0, 0), (9, .getfield 33, 3, 8, 4, 385), (12, .aload_n 0, 1, 0, 0, 0), (13, .getfield 50, 3, 8, 7, 388), (16, .getfield 175, 3, 2, 1, 228), (19, .aload_n 0, 1, 0, 0, 0), (20, .getfield 50, 3, 8, 7, 388), (23, .getfield 172, 3, 2, 2, 230), (26, .invokevirtual 412, 3, 1, 0, 485), (29, .aload_n 0, 1, 0, 0, 0), (30, .getfield 73, 3, 8, 12, 393)],
  [(33, .aload_n 0, 1, 0, 0, 0), (34, .getfield 50, 3, 8, 7, 388), (37, .getfield 218, 3, 2, 0, 226), (40, .aload_n 0, 1, 0, 0, 0), (41, .getfield 23, 3, 8, 2, 383), (44, .getfield 137, 3, 1, 2, 127), (47, .iconst 0, 1, 0, 0, 0), (48, .invokevirtual 415, 3, 2, 0, 489), (51, .return_, 1, 0, 0, 0)]]
set_option maxRecDepth 100000 in
noncomputable def mjT187 : List (List (Nat × mjX)) := [[(0, .aload_n 0, 1, 0, 0, 0), (1, .getfield 73, 3, 8, 12, 393), (4, .aload_n 0, 1, 0, 0, 0), (5, .getfield 23, 3, 8, 2, 383), (8, .aload_n 0, 1, 0, 0, 0), (9, .getfield 33, 3, 8, 4, 385), (12, .iload_n 1, 1, 0, 0, 0), (13, .aload_n 0, 1, 0, 0, 0), (14, .getfield 50, 3, 8, 7, 388), (17, .getfield 172, 3, 2, 2, 230), (20, .invokevirtual 412, 3, 1, 0, 485), (23, .aload_n 0, 1, 0, 0, 0), (24, .getfield 73, 3, 8, 12, 393), (27, .aload_n 0, 1, 0, 0, 0), (28, .getfield 65, 3, 8, 11, 392), (31, .iload_n 2, 1, 0, 0, 0)],
  [(32, .iconst 0, 1, 0, 0, 0), (33, .invokevirtual 415, 3, 2, 0, 489), (36, .aload_n 0, 1, 0, 0, 0), (37, .getfield 73, 3, 8, 12, 393), (40, .getfield 242, 3, 0, 8, 275), (43, .ireturn, 1, 0, 0, 0)]]
set_option maxRecDepth 100000 in
noncomputable def mjT188 : List (List (Nat × mjX)) := [[(0, .iconst 0, 1, 0, 0, 0), (1, .istore_n 2, 1, 0, 0, 0), (2, .iconst 0, 1, 0, 0, 0), (3, .istore_n 3, 1, 0, 0, 0), (4, .iload_n 3, 1, 0, 0, 0), (5, .aload_n 0, 1, 0, 0, 0), (6, .getfield 23, 3, 8, 2, 383), (9, .getfield 169, 3, 1, 4, 134), (12, .if_icmp .ge 30, 3, 0, 42, 0), (15, .iload_n 1, 1, 0, 0, 0), (16, .iload_n 3, 1, 0, 0, 0), (17, .ishr, 1, 0, 0, 0), (18, .iconst 1, 1, 0, 0, 0), (19, .iand, 1, 0, 0, 0), (20, .ifCond .eq 16, 3, 0, 36, 0), (23, .aload_n 0, 1, 0, 0, 0), (24, .getfield 65, 3, 8, 11, 392), (27, .iload_n 2, 1, 0, 0, 0), (28, .bipush 12, 2, 0, 0, 0), (30, .iload_n 3, 1, 0, 0, 0), (31, .iadd, 1, 0, 0, 0)],
  [(32, .iastore, 1, 0, 0, 0), (33, .iinc 2 1, 3, 0, 0, 0), (36, .iinc 3 1, 3, 0, 0, 0), (39, .goto (-35), 3, 0, 4, 0), (42, .aload_n 0, 1, 0, 0, 0), (43, .iload_n 2, 1, 0, 0, 0), (44, .invokevirtual 261, 3, 183, 0, 562), (47, .iload_n 2, 1, 0, 0, 0), (48, .aload_n 0, 1, 0, 0, 0), (49, .getfield 23, 3, 8, 2, 383), (52, .getfield 137, 3, 1, 2, 127), (55, .iadd, 1, 0, 0, 0), (56, .ireturn, 1, 0, 0, 0)]]
set_option maxRecDepth 100000 in
noncomputable def mjT189 : List (List (Nat × mjX)) := [[(0, .iconst 0, 1, 0, 0, 0), (1, .istore_n 3, 1, 0, 0, 0), (2, .iload_n 3, 1, 0, 0, 0), (3, .aload_n 0, 1, 0, 0, 0), (4, .getfield 23, 3, 8, 2, 383), (7, .getfield 137, 3, 1, 2, 127), (10, .if_icmp .ge 35, 3, 0, 45, 0), (13, .aload_n 0, 1, 0, 0, 0), (14, .getfield 65, 3, 8, 11, 392), (17, .iload_n 3, 1, 0, 0, 0), (18, .iload_n 3, 1, 0, 0, 0), (19, .iconst 1, 1, 0, 0, 0), (20, .iand, 1, 0, 0, 0), (21, .iload_n 2, 1, 0, 0, 0), (22, .if_icmp .ne 15, 3, 0, 37, 0), (25, .aload_n 0, 1, 0, 0, 0), (26, .getfield 50, 3, 8, 7, 388), (29, .getfield 218, 3, 2, 0, 226)],
  [(32, .iload_n 3, 1, 0, 0, 0), (33, .iaload, 1, 0, 0, 0), (34, .goto 4, 3, 0, 38, 0), (37, .iconst (-1), 1, 0, 0, 0), (38, .iastore, 1, 0, 0, 0), (39, .iinc 3 1, 3, 0, 0, 0), (42, .goto (-40), 3, 0, 2, 0), (45, .aload_n 1, 1, 0, 0, 0), (46, .aload_n 0, 1, 0, 0, 0), (47, .getfield 23, 3, 8, 2, 383), (50, .aload_n 0, 1, 0, 0, 0), (51, .getfield 33, 3, 8, 4, 385), (54, .aload_n 0, 1, 0, 0, 0), (55, .getfield 50, 3, 8, 7, 388), (58, .getfield 175, 3, 2, 1, 228), (61, .aload_n 0, 1, 0, 0, 0), (62, .getfield 50, 3, 8, 7, 388)],
  [(65, .getfield 172, 3, 2, 2, 230), (68, .invokevirtual 412, 3, 1, 0, 485), (71, .aload_n 1, 1, 0, 0, 0), (72, .aload_n 0, 1, 0, 0, 0), (73, .getfield 65, 3, 8, 11, 392), (76, .aload_n 0, 1, 0, 0, 0), (77, .getfield 23, 3, 8, 2, 383), (80, .getfield 137, 3, 1, 2, 127), (83, .iconst 0, 1, 0, 0, 0), (84, .invokevirtual 415, 3, 2, 0, 489), (87, .return_, 1, 0, 0, 0)]]
set_option maxRecDepth 100000 in
noncomputable def mjT190 : List (List (Nat × mjX)) := [[(0, .aload_n 0, 1, 0, 0, 0), (1, .getfield 82, 3, 8, 14, 395), (4, .iload_n 1, 1, 0, 0, 0), (5, .ifCond .lt 16, 3, 0, 21, 0), (8, .iload_n 1, 1, 0, 0, 0), (9, .aload_n 0, 1, 0, 0, 0), (10, .getfield 82, 3, 8, 14, 395), (13, .arraylength, 1, 0, 0, 0), (14, .if_icmp .ge 7, 3, 0, 21, 0), (17, .iload_n 1, 1, 0, 0, 0), (18, .goto 4, 3, 0, 22, 0), (21, .iconst 0, 1, 0, 0, 0), (22, .aaload, 1, 0, 0, 0), (23, .areturn, 1, 0, 0, 0)]]
set_option maxRecDepth 100000 in
noncomputable def mjT191 : List (List (Nat × mjX)) := [[(0, .iconst 0, 1, 0, 0, 0), (1, .istore_n 1, 1, 0, 0, 0), (2, .iload_n 1, 1, 0, 0, 0), (3, .aload_n 0, 1, 0, 0, 0), (4, .getfield 82, 3, 8, 14, 395), (7, .arraylength, 1, 0, 0, 0), (8, .if_icmp .ge 19, 3, 0, 27, 0), (11, .aload_n 0, 1, 0, 0, 0), (12, .getfield 82, 3, 8, 14, 395), (15, .iload_n 1, 1, 0, 0, 0), (16, .aaload, 1, 0, 0, 0), (17, .iconst 0, 1, 0, 0, 0), (18, .putfield 419, 3, 5, 1, 355), (21, .iinc 1 1, 3, 0, 0, 0), (24, .goto (-22), 3, 0, 2, 0), (27, .return_, 1, 0, 0, 0)]]
set_option maxRecDepth 100000 in
noncomputable def mjT192 : List (List (Nat × mjX)) := [[(0, .iconst 0, 1, 0, 0, 0), (1, .istore_n 2, 1, 0, 0, 0), (2, .aload_n 0, 1, 0, 0, 0), (3, .getfield 73, 3, 8, 12, 393), (6, .iload_n 1, 1, 0, 0, 0), (7, .invokevirtual 236, 3, 10, 0, 591), (10, .istore_n 3, 1, 0, 0, 0), (11, .iconst 0, 1, 0, 0, 0), (12, .istore 4, 2, 0, 0, 0), (14, .iload 4, 2, 0, 0, 0), (16, .aload_n 0, 1, 0, 0, 0), (17, .getfield 23, 3, 8, 2, 383), (20, .getfield 137, 3, 1, 2, 127), (23, .if_icmp .ge 56, 3, 0, 79, 0), (26, .aload_n 0, 1, 0, 0, 0), (27, .getfield 73, 3, 8, 12, 393), (30, .getfield 230, 3, 0, 5, 268)],
  [(33, .iload 4, 2, 0, 0, 0), (35, .iaload, 1, 0, 0, 0), (36, .bipush 52, 2, 0, 0, 0), (38, .if_icmp .ge 35, 3, 0, 73, 0), (41, .aload_n 0, 1, 0, 0, 0), (42, .getfield 73, 3, 8, 12, 393), (45, .iload 4, 2, 0, 0, 0), (47, .invokevirtual 236, 3, 10, 0, 591), (50, .iload_n 3, 1, 0, 0, 0), (51, .isub, 1, 0, 0, 0), (52, .istore 5, 2, 0, 0, 0), (54, .iload 5, 2, 0, 0, 0), (56, .ifCond .gt 14, 3, 0, 70, 0), (59, .iload 5, 2, 0, 0, 0), (61, .ifCond .ne 12, 3, 0, 73, 0)],
  [(64, .iload 4, 2, 0, 0, 0), (66, .iload_n 1, 1, 0, 0, 0), (67, .if_icmp .ge 6, 3, 0, 73, 0), (70, .iinc 2 1, 3, 0, 0, 0), (73, .iinc 4 1, 3, 0, 0, 0), (76, .goto (-62), 3, 0, 14, 0), (79, .iload_n 2, 1, 0, 0, 0), (80, .ireturn, 1, 0, 0, 0)]]
set_option maxRecDepth 100000 in
noncomputable def mjT193 : List (List (Nat × mjX)) := [[(0, .iconst 0, 1, 0, 0, 0), (1, .istore_n 2, 1, 0, 0, 0), (2, .iconst 0, 1, 0, 0, 0), (3, .istore_n 3, 1, 0, 0, 0), (4, .iconst 0, 1, 0, 0, 0), (5, .istore 4, 2, 0, 0, 0), (7, .iload 4, 2, 0, 0, 0), (9, .aload_n 0, 1, 0, 0, 0), (10, .getfield 23, 3, 8, 2, 383), (13, .getfield 137, 3, 1, 2, 127), (16, .if_icmp .ge 57, 3, 0, 73, 0), (19, .aload_n 0, 1, 0, 0, 0), (20, .getfield 50, 3, 8, 7, 388), (23, .getfield 218, 3, 2, 0, 226), (26, .iload 4, 2, 0, 0, 0), (28, .iaload, 1, 0, 0, 0), (29, .istore 5, 2, 0, 0, 0), (31, .iload_n 1, 1, 0, 0, 0)],
  [(32, .iload 5, 2, 0, 0, 0), (34, .ishr, 1, 0, 0, 0), (35, .iconst 1, 1, 0, 0, 0), (36, .iand, 1, 0, 0, 0), (37, .ifCond .ne 30, 3, 0, 67, 0), (40, .iload_n 3, 1, 0, 0, 0), (41, .aload_n 0, 1, 0, 0, 0), (42, .getfield 23, 3, 8, 2, 383), (45, .iload 5, 2, 0, 0, 0), (47, .iload_n 2, 1, 0, 0, 0), (48, .invokevirtual 423, 3, 23, 0, 613), (51, .iand, 1, 0, 0, 0), (52, .ifCond .eq 5, 3, 0, 57, 0), (55, .iconst 0, 1, 0, 0, 0), (56, .ireturn, 1, 0, 0, 0), (57, .iload_n 3, 1, 0, 0, 0), (58, .iconst 1, 1, 0, 0, 0), (59, .iload 5, 2, 0, 0, 0), (61, .ishl, 1, 0, 0, 0), (62, .ior, 1, 0, 0, 0), (63, .istore_n 3, 1, 0, 0, 0)],
  [(64, .iinc 2 1, 3, 0, 0, 0), (67, .iinc 4 1, 3, 0, 0, 0), (70, .goto (-63), 3, 0, 7, 0), (73, .iload_n 3, 1, 0, 0, 0), (74, .aload_n 0, 1, 0, 0, 0), (75, .getfield 23, 3, 8, 2, 383), (78, .getfield 207, 3, 1, 12, 162), (81, .bipush 51, 2, 0, 0, 0), (83, .iaload, 1, 0, 0, 0), (84, .iand, 1, 0, 0, 0), (85, .ifCond .ne 7, 3, 0, 92, 0), (88, .iconst 1, 1, 0, 0, 0), (89, .goto 4, 3, 0, 93, 0), (92, .iconst 0, 1, 0, 0, 0), (93, .ireturn, 1, 0, 0, 0)]]
set_option maxRecDepth 100000 in
noncomputable def mjT194 : List (List (Nat × mjX)) := [[(0, .aload_n 0, 1, 0, 0, 0), (1, .invokespecial 3, 3, 998, 4, 1574), (4, .aload_n 0, 1, 0, 0, 0), (5, .iconst (-1), 1, 0, 0, 0), (6, .putfield 9, 3, 9, 3, 1592), (9, .aload_n 0, 1, 0, 0, 0), (10, .sipush 600, 3, 0, 0, 0), (13, .newarray .int, 2, 0, 0, 194), (15, .putfield 13, 3, 9, 9, 1598), (18, .aload_n 0, 1, 0, 0, 0), (19, .iconst 3, 1, 0, 0, 0), (20, .newarray .int, 2, 0, 0, 194), (22, .putfield 17, 3, 9, 10, 1599), (25, .aload_n 0, 1, 0, 0, 0), (26, .bipush 6, 2, 0, 0, 0), (28, .newarray .int, 2, 0, 0, 194), (30, .putfield 20, 3, 9, 11, 1600)],
  [(33, .aload_n 0, 1, 0, 0, 0), (34, .bipush 6, 2, 0, 0, 0), (36, .newarray .int, 2, 0, 0, 194), (38, .putfield 23, 3, 9, 12, 1601), (41, .aload_n 0, 1, 0, 0, 0), (42, .bipush 12, 2, 0, 0, 0), (44, .newarray .int, 2, 0, 0, 194), (46, .putfield 26, 3, 9, 13, 1602), (49, .aload_n 0, 1, 0, 0, 0), (50, .bipush 12, 2, 0, 0, 0), (52, .newarray .int, 2, 0, 0, 194), (54, .putfield 29, 3, 9, 14, 1603), (57, .aload_n 0, 1, 0, 0, 0), (58, .bipush 17, 2, 0, 0, 0), (60, .newarray .long, 2, 1, 0, 193), (62, .putfield 32, 3, 9, 15, 1604)],
  [(65, .aload_n 0, 1, 0, 0, 0), (66, .bipush 17, 2, 0, 0, 0), (68, .newarray .long, 2, 1, 0, 193), (70, .putfield 36, 3, 9, 16, 1605), (73, .aload_n 0, 1, 0, 0, 0), (74, .bipush 12, 2, 0, 0, 0), (76, .newarray .long, 2, 1, 0, 193), (78, .putfield 39, 3, 9, 17, 1606), (81, .aload_n 0, 1, 0, 0, 0), (82, .bipush 12, 2, 0, 0, 0), (84, .newarray .long, 2, 1, 0, 193), (86, .putfield 42, 3, 9, 18, 1607), (89, .aload_n 0, 1, 0, 0, 0), (90, .bipush 52, 2, 0, 0, 0), (92, .newarray .long, 2, 1, 0, 193), (94, .putfield 45, 3, 9, 19, 1608)],
  [(97, .aload_n 0, 1, 0, 0, 0), (98, .ldc2_w 48, 3, 18446744073709551615, 0, 1575), (101, .putfield 50, 3, 9, 20, 1609), (104, .aload_n 0, 1, 0, 0, 0), (105, .bipush 12, 2, 0, 0, 0), (107, .newarray .int, 2, 0, 0, 194), (109, .putfield 54, 3, 9, 21, 1610), (112, .aload_n 0, 1, 0, 0, 0), (113, .iconst 3, 1, 0, 0, 0), (114, .bipush 14, 2, 0, 0, 0), (116, .multianewarray 57 2, 4, 6, 0, 1576), (120, .putfield 59, 3, 9, 24, 1613), (123, .aload_n 0, 1, 0, 0, 0), (124, .bipush 10, 2, 0, 0, 0), (126, .iconst 3, 1, 0, 0, 0), (127, .multianewarray 57 2, 4, 6, 0, 1576)],
  [(131, .putfield 62, 3, 9, 29, 1618), (134, .aload_n 0, 1, 0, 0, 0), (135, .bipush 10, 2, 0, 0, 0), (137, .iconst 3, 1, 0, 0, 0), (138, .multianewarray 57 2, 4, 6, 0, 1576), (142, .putfield 65, 3, 9, 30, 1619), (145, .aload_n 0, 1, 0, 0, 0), (146, .sipush 220, 3, 0, 0, 0), (149, .iconst 2, 1, 0, 0, 0), (150, .multianewarray 57 2, 4, 6, 0, 1576), (154, .putfield 68, 3, 9, 31, 1620), (157, .aload_n 0, 1, 0, 0, 0), (158, .sipush 220, 3, 0, 0, 0)],
  [(161, .iconst 2, 1, 0, 0, 0), (162, .multianewarray 57 2, 4, 6, 0, 1576), (166, .putfield 71, 3, 9, 32, 1621), (169, .aload_n 0, 1, 0, 0, 0), (170, .sipush 220, 3, 0, 0, 0), (173, .newarray .int, 2, 0, 0, 194), (175, .putfield 74, 3, 9, 33, 1622), (178, .aload_n 0, 1, 0, 0, 0), (179, .bipush 17, 2, 0, 0, 0), (181, .newarray .int, 2, 0, 0, 194), (183, .putfield 77, 3, 9, 34, 1623), (186, .aload_n 0, 1, 0, 0, 0), (187, .bipush 17, 2, 0, 0, 0), (189, .newarray .int, 2, 0, 0, 194), (191, .putfield 80, 3, 9, 35, 1624)],
  [(194, .aload_n 0, 1, 0, 0, 0), (195, .bipush 17, 2, 0, 0, 0), (197, .newarray .int, 2, 0, 0, 194), (199, .putfield 83, 3, 9, 36, 1625), (202, .aload_n 0, 1, 0, 0, 0), (203, .bipush 17, 2, 0, 0, 0), (205, .newarray .int, 2, 0, 0, 194), (207, .putfield 86, 3, 9, 37, 1626), (210, .aload_n 0, 1, 0, 0, 0), (211, .bipush 17, 2, 0, 0, 0), (213, .newarray .int, 2, 0, 0, 194), (215, .putfield 89, 3, 9, 38, 1627), (218, .aload_n 0, 1, 0, 0, 0), (219, .bipush 17, 2, 0, 0, 0), (221, .newarray .int, 2, 0, 0, 194), (223, .putfield 92, 3, 9, 39, 1628)],
  [(226, .aload_n 0, 1, 0, 0, 0), (227, .bipush 17, 2, 0, 0, 0), (229, .newarray .int, 2, 0, 0, 194), (231, .putfield 95, 3, 9, 40, 1629), (234, .aload_n 0, 1, 0, 0, 0), (235, .bipush 52, 2, 0, 0, 0), (237, .newarray .int, 2, 0, 0, 194), (239, .putfield 98, 3, 9, 41, 1630), (242, .aload_n 0, 1, 0, 0, 0), (243, .bipush 52, 2, 0, 0, 0), (245, .newarray .int, 2, 0, 0, 194), (247, .putfield 101, 3, 9, 42, 1631), (250, .aload_n 0, 1, 0, 0, 0), (251, .bipush 6, 2, 0, 0, 0), (253, .newarray .int, 2, 0, 0, 194), (255, .putfield 104, 3, 9, 49, 1638)],
  [(258, .aload_n 0, 1, 0, 0, 0), (259, .sipush 128, 3, 0, 0, 0), (262, .newarray .boolean, 2, 3, 0, 304), (264, .putfield 107, 3, 9, 50, 1639), (267, .aload_n 0, 1, 0, 0, 0), (268, .bipush 7, 2, 0, 0, 0), (270, .newarray .int, 2, 0, 0, 194), (272, .putfield 111, 3, 9, 51, 1640), (275, .aload_n 0, 1, 0, 0, 0), (276, .bipush 12, 2, 0, 0, 0), (278, .newarray .int, 2, 0, 0, 194), (280, .putfield 114, 3, 9, 58, 1647), (283, .aload_n 0, 1, 0, 0, 0), (284, .bipush 12, 2, 0, 0, 0), (286, .newarray .int, 2, 0, 0, 194)],
  [(288, .putfield 117, 3, 9, 59, 1648), (291, .aload_n 0, 1, 0, 0, 0), (292, .iconst 2, 1, 0, 0, 0), (293, .bipush 52, 2, 0, 0, 0), (295, .multianewarray 57 2, 4, 6, 0, 1576), (299, .putfield 120, 3, 9, 60, 1649), (302, .aload_n 0, 1, 0, 0, 0), (303, .sipush 256, 3, 0, 0, 0), (306, .newarray .int, 2, 0, 0, 194), (308, .putfield 123, 3, 9, 61, 1650), (311, .aload_n 0, 1, 0, 0, 0), (312, .invokevirtual 126, 3, 195, 0, 1578), (315, .aload_n 0, 1, 0, 0, 0), (316, .invokevirtual 129, 3, 224, 0, 1582), (319, .return_, 1, 0, 0, 0)]]
set_option maxRecDepth 100000 in
noncomputable def mjT195 : List (List (Nat × mjX)) := [[(0, .iconst 0, 1, 0, 0, 0), (1, .istore_n 1, 1, 0, 0, 0), (2, .iload_n 1, 1, 0, 0, 0), (3, .bipush 6, 2, 0, 0, 0), (5, .if_icmp .ge 16, 3, 0, 21, 0), (8, .aload_n 0, 1, 0, 0, 0), (9, .getfield 20, 3, 9, 11, 1600), (12, .iload_n 1, 1, 0, 0, 0), (13, .iconst 0, 1, 0, 0, 0), (14, .iastore, 1, 0, 0, 0), (15, .iinc 1 1, 3, 0, 0, 0), (18, .goto (-16), 3, 0, 2, 0), (21, .aload_n 0, 1, 0, 0, 0), (22, .getfield 20, 3, 9, 11, 1600), (25, .iconst 0, 1, 0, 0, 0), (26, .iconst 4, 1, 0, 0, 0), (27, .iastore, 1, 0, 0, 0), (28, .return_, 1, 0, 0, 0)]]
set_option maxRecDepth 100000 in
noncomputable def mjT196 : List (List (Nat × mjX)) := [[(0, .aload_n 0, 1, 0, 0, 0), (1, .getfield 132, 3, 9, 0, 1589), (4, .ireturn, 1, 0, 0, 0)]]
set_option maxRecDepth 100000 in
noncomputable def mjT197 : List (List (Nat × mjX)) := [[(0, .iload_n 1, 1, 0, 0, 0), (1, .ifCond .eq 25, 3, 0, 26, 0), (4, .aload_n 0, 1, 0, 0, 0), (5, .getfield 132, 3, 9, 0, 1589), (8, .ifCond .ne 18, 3, 0, 26, 0), (11, .aload_n 0, 1, 0, 0, 0), (12, .iload_n 2, 1, 0, 0, 0), (13, .putfield 132, 3, 9, 0, 1589), (16, .aload_n 0, 1, 0, 0, 0), (17, .getfield 17, 3, 9, 10, 1599), (20, .iload_n 3, 1, 0, 0, 0), (21, .dup2, 1, 0, 0, 0), (22, .iaload, 1, 0, 0, 0), (23, .iconst 1, 1, 0, 0, 0), (24, .iadd, 1, 0, 0, 0), (25, .iastore, 1, 0, 0, 0), (26, .aload_n 0, 1, 0, 0, 0), (27, .getfield 132, 3, 9, 0, 1589), (30, .ifCond .eq 7, 3, 0, 37, 0)],
  [(33, .iconst 1, 1, 0, 0, 0), (34, .goto 4, 3, 0, 38, 0), (37, .iconst 0, 1, 0, 0, 0), (38, .ireturn, 1, 0, 0, 0)]]
set_option maxRecDepth 100000 in
noncomputable def mjT198 : List (List (Nat × mjX)) := [[(0, .iload_n 0, 1, 0, 0, 0), (1, .iload_n 1, 1, 0, 0, 0), (2, .if_icmp .lt 12, 3, 0, 14, 0), (5, .iload_n 0, 1, 0, 0, 0), (6, .iload_n 2, 1, 0, 0, 0), (7, .if_icmp .gt 7, 3, 0, 14, 0), (10, .iconst 1, 1, 0, 0, 0), (11, .goto 4, 3, 0, 15, 0), (14, .iconst 0, 1, 0, 0, 0), (15, .ireturn, 1, 0, 0, 0)]]
set_option maxRecDepth 100000 in
noncomputable def mjT199 : List (List (Nat × mjX)) := [[(0, .aload_n 0, 1, 0, 0, 0), (1, .iconst 0, 1, 0, 0, 0), (2, .putfield 132, 3, 9, 0, 1589), (5, .aload_n 0, 1, 0, 0, 0), (6, .getfield 135, 3, 9, 1, 1590), (9, .bipush 20, 2, 0, 0, 0), (11, .iadd, 1, 0, 0, 0), (12, .sipush 600, 3, 0, 0, 0), (15, .if_icmp .le 5, 3, 0, 20, 0), (18, .iconst (-1), 1, 0, 0, 0), (19, .ireturn, 1, 0, 0, 0), (20, .iconst 0, 1, 0, 0, 0), (21, .istore 6, 2, 0, 0, 0), (23, .iload 6, 2, 0, 0, 0), (25, .bipush 20, 2, 0, 0, 0), (27, .if_icmp .ge 93, 3, 0, 120, 0), (30, .iload 6, 2, 0, 0, 0)],
  [(32, .iconst 4, 1, 0, 0, 0), (33, .if_icmp .ge 7, 3, 0, 40, 0), (36, .iload_n 1, 1, 0, 0, 0), (37, .goto 39, 3, 0, 76, 0), (40, .iload 6, 2, 0, 0, 0), (42, .bipush 8, 2, 0, 0, 0), (44, .if_icmp .ge 7, 3, 0, 51, 0), (47, .iload_n 2, 1, 0, 0, 0), (48, .goto 28, 3, 0, 76, 0), (51, .iload 6, 2, 0, 0, 0), (53, .bipush 12, 2, 0, 0, 0), (55, .if_icmp .ge 7, 3, 0, 62, 0), (58, .iload_n 3, 1, 0, 0, 0), (59, .goto 17, 3, 0, 76, 0), (62, .iload 6, 2, 0, 0, 0)],
  [(64, .bipush 16, 2, 0, 0, 0), (66, .if_icmp .ge 8, 3, 0, 74, 0), (69, .iload 4, 2, 0, 0, 0), (71, .goto 5, 3, 0, 76, 0), (74, .iload 5, 2, 0, 0, 0), (76, .istore 7, 2, 0, 0, 0), (78, .aload_n 0, 1, 0, 0, 0), (79, .getfield 13, 3, 9, 9, 1598), (82, .aload_n 0, 1, 0, 0, 0), (83, .getfield 135, 3, 9, 1, 1590), (86, .iload 7, 2, 0, 0, 0), (88, .bipush 24, 2, 0, 0, 0), (90, .bipush 8, 2, 0, 0, 0), (92, .iload 6, 2, 0, 0, 0), (94, .iconst 4, 1, 0, 0, 0), (95, .irem, 1, 0, 0, 0)],
  [(96, .imul, 1, 0, 0, 0), (97, .isub, 1, 0, 0, 0), (98, .ishr, 1, 0, 0, 0), (99, .sipush 255, 3, 0, 0, 0), (102, .iand, 1, 0, 0, 0), (103, .iastore, 1, 0, 0, 0), (104, .aload_n 0, 1, 0, 0, 0), (105, .dup, 1, 0, 0, 0), (106, .getfield 135, 3, 9, 1, 1590), (109, .iconst 1, 1, 0, 0, 0), (110, .iadd, 1, 0, 0, 0), (111, .putfield 135, 3, 9, 1, 1590), (114, .iinc 6 1, 3, 0, 0, 0), (117, .goto (-94), 3, 0, 23, 0), (120, .aload_n 0, 1, 0, 0, 0), (121, .getfield 135, 3, 9, 1, 1590), (124, .ireturn, 1, 0, 0, 0)]]
set_option maxRecDepth 100000 in
noncomputable def mjT200 : List (List (Nat × mjX)) := [[(0, .iload_n 1, 1, 0, 0, 0), (1, .aload_n 0, 1, 0, 0, 0), (2, .getfield 138, 3, 9, 2, 1591), (5, .if_icmp .lt 7, 3, 0, 12, 0), (8, .iconst (-1), 1, 0, 0, 0), (9, .goto 9, 3, 0, 18, 0), (12, .aload_n 0, 1, 0, 0, 0), (13, .getfield 13, 3, 9, 9, 1598), (16, .iload_n 1, 1, 0, 0, 0), (17, .iaload, 1, 0, 0, 0), (18, .ireturn, 1, 0, 0, 0)]]
set_option maxRecDepth 100000 in
noncomputable def mjT201 : List (List (Nat × mjX)) := [[(0, .aload_n 0, 1, 0, 0, 0), (1, .aload_n 0, 1, 0, 0, 0), (2, .getfield 141, 3, 9, 4, 1593), (5, .invokevirtual 144, 3, 200, 0, 1819), (8, .bipush 32, 2, 0, 0, 0), (10, .if_icmp .ne 16, 3, 0, 26, 0), (13, .aload_n 0, 1, 0, 0, 0), (14, .dup, 1, 0, 0, 0), (15, .getfield 141, 3, 9, 4, 1593), (18, .iconst 1, 1, 0, 0, 0), (19, .iadd, 1, 0, 0, 0), (20, .putfield 141, 3, 9, 4, 1593), (23, .goto (-23), 3, 0, 0, 0), (26, .return_, 1, 0, 0, 0)]]
set_option maxRecDepth 100000 in
noncomputable def mjT202 : List (List (Nat × mjX)) := [[(0, .aload_n 0, 1, 0, 0, 0), (1, .getfield 148, 3, 9, 5, 1594), (4, .ifCond .ne 13, 3, 0, 17, 0), (7, .aload_n 0, 1, 0, 0, 0), (8, .iload_n 1, 1, 0, 0, 0), (9, .putfield 148, 3, 9, 5, 1594), (12, .aload_n 0, 1, 0, 0, 0), (13, .iload_n 2, 1, 0, 0, 0), (14, .putfield 151, 3, 9, 6, 1595), (17, .return_, 1, 0, 0, 0)]]
set_option maxRecDepth 100000 in
noncomputable def mjT203 : List (List (Nat × mjX)) := [[(0, .iload_n 0, 1, 0, 0, 0), (1, .bipush 48, 2, 0, 0, 0), (3, .if_icmp .lt 13, 3, 0, 16, 0), (6, .iload_n 0, 1, 0, 0, 0), (7, .bipush 57, 2, 0, 0, 0), (9, .if_icmp .gt 7, 3, 0, 16, 0), (12, .iconst 1, 1, 0, 0, 0), (13, .goto 4, 3, 0, 17, 0), (16, .iconst 0, 1, 0, 0, 0), (17, .ireturn, 1, 0, 0, 0)]]
set_option maxRecDepth 100000 in
noncomputable def mjT204 : List (List (Nat × mjX)) := [[(0, .iload_n 0, 1, 0, 0, 0), (1, .bipush 97, 2, 0, 0, 0), (3, .if_icmp .lt 13, 3, 0, 16, 0), (6, .iload_n 0, 1, 0, 0, 0), (7, .bipush 122, 2, 0, 0, 0), (9, .if_icmp .gt 7, 3, 0, 16, 0), (12, .iconst 1, 1, 0, 0, 0), (13, .goto 4, 3, 0, 17, 0), (16, .iconst 0, 1, 0, 0, 0), (17, .ireturn, 1, 0, 0, 0)]]
set_option maxRecDepth 100000 in
noncomputable def mjT205 : List (List (Nat × mjX)) := [[(0, .aload_n 0, 1, 0, 0, 0), (1, .getfield 148, 3, 9, 5, 1594), (4, .ifCond .eq 5, 3, 0, 9, 0), (7, .iconst 0, 1, 0, 0, 0), (8, .ireturn, 1, 0, 0, 0), (9, .aload_n 0, 1, 0, 0, 0), (10, .invokevirtual 154, 3, 201, 0, 1815), (13, .aload_n 0, 1, 0, 0, 0), (14, .getfield 141, 3, 9, 4, 1593), (17, .istore_n 3, 1, 0, 0, 0), (18, .iconst 0, 1, 0, 0, 0), (19, .istore 4, 2, 0, 0, 0), (21, .aload_n 0, 1, 0, 0, 0), (22, .aload_n 0, 1, 0, 0, 0), (23, .getfield 141, 3, 9, 4, 1593), (26, .invokevirtual 144, 3, 200, 0, 1819), (29, .invokestatic 157, 3, 203, 1, 1861)],
  [(32, .ifCond .ne 12, 3, 0, 44, 0), (35, .aload_n 0, 1, 0, 0, 0), (36, .iconst 1, 1, 0, 0, 0), (37, .aload_n 0, 1, 0, 0, 0), (38, .getfield 141, 3, 9, 4, 1593), (41, .invokevirtual 161, 3, 202, 0, 1845), (44, .aload_n 0, 1, 0, 0, 0), (45, .aload_n 0, 1, 0, 0, 0), (46, .getfield 141, 3, 9, 4, 1593), (49, .invokevirtual 144, 3, 200, 0, 1819), (52, .invokestatic 157, 3, 203, 1, 1861), (55, .ifCond .eq 51, 3, 0, 106, 0), (58, .bipush 10, 2, 0, 0, 0), (60, .iload 4, 2, 0, 0, 0), (62, .imul, 1, 0, 0, 0), (63, .aload_n 0, 1, 0, 0, 0)],
  [(64, .aload_n 0, 1, 0, 0, 0), (65, .getfield 141, 3, 9, 4, 1593), (68, .invokevirtual 144, 3, 200, 0, 1819), (71, .iadd, 1, 0, 0, 0), (72, .bipush 48, 2, 0, 0, 0), (74, .isub, 1, 0, 0, 0), (75, .istore 4, 2, 0, 0, 0), (77, .iload 4, 2, 0, 0, 0), (79, .ldc 165, 2, 100000, 0, 1864), (81, .if_icmp .le 8, 3, 0, 89, 0), (84, .ldc 165, 2, 100000, 0, 1864), (86, .goto 5, 3, 0, 91, 0), (89, .iload 4, 2, 0, 0, 0), (91, .istore 4, 2, 0, 0, 0), (93, .aload_n 0, 1, 0, 0, 0), (94, .dup, 1, 0, 0, 0), (95, .getfield 141, 3, 9, 4, 1593)],
  [(98, .iconst 1, 1, 0, 0, 0), (99, .iadd, 1, 0, 0, 0), (100, .putfield 141, 3, 9, 4, 1593), (103, .goto (-59), 3, 0, 44, 0), (106, .iload 4, 2, 0, 0, 0), (108, .iload_n 1, 1, 0, 0, 0), (109, .iload_n 2, 1, 0, 0, 0), (110, .invokestatic 166, 3, 198, 1, 1804), (113, .ifCond .ne 9, 3, 0, 122, 0), (116, .aload_n 0, 1, 0, 0, 0), (117, .iconst 2, 1, 0, 0, 0), (118, .iload_n 3, 1, 0, 0, 0), (119, .invokevirtual 161, 3, 202, 0, 1845), (122, .aload_n 0, 1, 0, 0, 0), (123, .getfield 148, 3, 9, 5, 1594), (126, .ifCond .ne 8, 3, 0, 134, 0)],
  [(129, .iload 4, 2, 0, 0, 0), (131, .goto 4, 3, 0, 135, 0), (134, .iconst 0, 1, 0, 0, 0), (135, .ireturn, 1, 0, 0, 0)]]
set_option maxRecDepth 100000 in
noncomputable def mjT206 : List (List (Nat × mjX)) := [[(0, .aload_n 0, 1, 0, 0, 0), (1, .invokevirtual 154, 3, 201, 0, 1815), (4, .iconst 0, 1, 0, 0, 0), (5, .istore_n 1, 1, 0, 0, 0), (6, .iconst 0, 1, 0, 0, 0), (7, .istore_n 2, 1, 0, 0, 0), (8, .aload_n 0, 1, 0, 0, 0), (9, .aload_n 0, 1, 0, 0, 0), (10, .getfield 141, 3, 9, 4, 1593), (13, .iload_n 2, 1, 0, 0, 0), (14, .iadd, 1, 0, 0, 0), (15, .invokevirtual 144, 3, 200, 0, 1819), (18, .invokestatic 170, 3, 204, 1, 1839), (21, .ifCond .eq 40, 3, 0, 61, 0), (24, .iload_n 2, 1, 0, 0, 0), (25, .bipush 6, 2, 0, 0, 0), (27, .if_icmp .ge 26, 3, 0, 53, 0), (30, .bipush 27, 2, 0, 0, 0)],
  [(32, .iload_n 1, 1, 0, 0, 0), (33, .imul, 1, 0, 0, 0), (34, .aload_n 0, 1, 0, 0, 0), (35, .aload_n 0, 1, 0, 0, 0), (36, .getfield 141, 3, 9, 4, 1593), (39, .iload_n 2, 1, 0, 0, 0), (40, .iadd, 1, 0, 0, 0), (41, .invokevirtual 144, 3, 200, 0, 1819), (44, .iadd, 1, 0, 0, 0), (45, .bipush 97, 2, 0, 0, 0), (47, .isub, 1, 0, 0, 0), (48, .iconst 1, 1, 0, 0, 0), (49, .iadd, 1, 0, 0, 0), (50, .goto 4, 3, 0, 54, 0), (53, .iload_n 1, 1, 0, 0, 0), (54, .istore_n 1, 1, 0, 0, 0), (55, .iinc 2 1, 3, 0, 0, 0), (58, .goto (-50), 3, 0, 8, 0), (61, .iload_n 2, 1, 0, 0, 0), (62, .bipush 6, 2, 0, 0, 0)],
  [(64, .if_icmp .le 7, 3, 0, 71, 0), (67, .iconst (-1), 1, 0, 0, 0), (68, .goto 4, 3, 0, 72, 0), (71, .iload_n 1, 1, 0, 0, 0), (72, .ireturn, 1, 0, 0, 0)]]
set_option maxRecDepth 100000 in
noncomputable def mjT207 : List (List (Nat × mjX)) := [[(0, .bipush 27, 2, 0, 0, 0), (2, .iload_n 0, 1, 0, 0, 0), (3, .imul, 1, 0, 0, 0), (4, .iload_n 1, 1, 0, 0, 0), (5, .iadd, 1, 0, 0, 0), (6, .istore 6, 2, 0, 0, 0), (8, .iload_n 2, 1, 0, 0, 0), (9, .ifCond .ne 8, 3, 0, 17, 0), (12, .iload 6, 2, 0, 0, 0), (14, .goto 10, 3, 0, 24, 0), (17, .bipush 27, 2, 0, 0, 0), (19, .iload 6, 2, 0, 0, 0), (21, .imul, 1, 0, 0, 0), (22, .iload_n 2, 1, 0, 0, 0), (23, .iadd, 1, 0, 0, 0), (24, .istore 6, 2, 0, 0, 0), (26, .iload_n 3, 1, 0, 0, 0), (27, .ifCond .ne 8, 3, 0, 35, 0), (30, .iload 6, 2, 0, 0, 0)],
  [(32, .goto 10, 3, 0, 42, 0), (35, .bipush 27, 2, 0, 0, 0), (37, .iload 6, 2, 0, 0, 0), (39, .imul, 1, 0, 0, 0), (40, .iload_n 3, 1, 0, 0, 0), (41, .iadd, 1, 0, 0, 0), (42, .istore 6, 2, 0, 0, 0), (44, .iload 4, 2, 0, 0, 0), (46, .ifCond .ne 8, 3, 0, 54, 0), (49, .iload 6, 2, 0, 0, 0), (51, .goto 11, 3, 0, 62, 0), (54, .bipush 27, 2, 0, 0, 0), (56, .iload 6, 2, 0, 0, 0), (58, .imul, 1, 0, 0, 0), (59, .iload 4, 2, 0, 0, 0), (61, .iadd, 1, 0, 0, 0), (62, .istore 6, 2, 0, 0, 0)],
  [(64, .iload 5, 2, 0, 0, 0), (66, .ifCond .ne 8, 3, 0, 74, 0), (69, .iload 6, 2, 0, 0, 0), (71, .goto 11, 3, 0, 82, 0), (74, .bipush 27, 2, 0, 0, 0), (76, .iload 6, 2, 0, 0, 0), (78, .imul, 1, 0, 0, 0), (79, .iload 5, 2, 0, 0, 0), (81, .iadd, 1, 0, 0, 0), (82, .ireturn, 1, 0, 0, 0)]]
set_option maxRecDepth 100000 in
noncomputable def mjT208 : List (List (Nat × mjX)) := [[(0, .aload_n 0, 1, 0, 0, 0), (1, .getfield 148, 3, 9, 5, 1594), (4, .ifCond .ne 26, 3, 0, 30, 0), (7, .aload_n 0, 1, 0, 0, 0), (8, .invokevirtual 173, 3, 206, 0, 1835), (11, .iload_n 1, 1, 0, 0, 0), (12, .iload_n 2, 1, 0, 0, 0), (13, .iload_n 3, 1, 0, 0, 0), (14, .iload 4, 2, 0, 0, 0), (16, .iload 5, 2, 0, 0, 0), (18, .iload 6, 2, 0, 0, 0), (20, .invokestatic 177, 3, 207, 1, 1842), (23, .if_icmp .ne 7, 3, 0, 30, 0), (26, .iconst 1, 1, 0, 0, 0), (27, .goto 4, 3, 0, 31, 0), (30, .iconst 0, 1, 0, 0, 0), (31, .ireturn, 1, 0, 0, 0)]]
set_option maxRecDepth 100000 in
noncomputable def mjT209 : List (List (Nat × mjX)) := [[(0, .aload_n 0, 1, 0, 0, 0), (1, .aload_n 0, 1, 0, 0, 0), (2, .getfield 141, 3, 9, 4, 1593), (5, .invokevirtual 144, 3, 200, 0, 1819), (8, .invokestatic 170, 3, 204, 1, 1839), (11, .ifCond .eq 16, 3, 0, 27, 0), (14, .aload_n 0, 1, 0, 0, 0), (15, .dup, 1, 0, 0, 0), (16, .getfield 141, 3, 9, 4, 1593), (19, .iconst 1, 1, 0, 0, 0), (20, .iadd, 1, 0, 0, 0), (21, .putfield 141, 3, 9, 4, 1593), (24, .goto (-24), 3, 0, 0, 0), (27, .return_, 1, 0, 0, 0)]]
set_option maxRecDepth 100000 in
noncomputable def mjT210 : List (List (Nat × mjX)) := [[(0, .aload_n 0, 1, 0, 0, 0), (1, .iload_n 1, 1, 0, 0, 0), (2, .iload_n 2, 1, 0, 0, 0), (3, .iload_n 3, 1, 0, 0, 0), (4, .iload 4, 2, 0, 0, 0), (6, .iload 5, 2, 0, 0, 0), (8, .iload 6, 2, 0, 0, 0), (10, .invokevirtual 181, 3, 208, 0, 1831), (13, .istore 7, 2, 0, 0, 0), (15, .iload 7, 2, 0, 0, 0), (17, .ifCond .eq 7, 3, 0, 24, 0), (20, .aload_n 0, 1, 0, 0, 0), (21, .invokevirtual 185, 3, 209, 0, 1853), (24, .iload 7, 2, 0, 0, 0), (26, .ireturn, 1, 0, 0, 0)]]
set_option maxRecDepth 100000 in
noncomputable def mjT211 : List (List (Nat × mjX)) := [[(0, .aload_n 0, 1, 0, 0, 0), (1, .getfield 148, 3, 9, 5, 1594), (4, .ifCond .eq 4, 3, 0, 8, 0), (7, .return_, 1, 0, 0, 0), (8, .aload_n 0, 1, 0, 0, 0), (9, .invokevirtual 154, 3, 201, 0, 1815), (12, .aload_n 0, 1, 0, 0, 0), (13, .aload_n 0, 1, 0, 0, 0), (14, .getfield 141, 3, 9, 4, 1593), (17, .invokevirtual 144, 3, 200, 0, 1819), (20, .iload_n 1, 1, 0, 0, 0), (21, .if_icmp .ne 16, 3, 0, 37, 0), (24, .aload_n 0, 1, 0, 0, 0), (25, .dup, 1, 0, 0, 0), (26, .getfield 141, 3, 9, 4, 1593), (29, .iconst 1, 1, 0, 0, 0), (30, .iadd, 1, 0, 0, 0), (31, .putfield 141, 3, 9, 4, 1593)],
  [(34, .goto 12, 3, 0, 46, 0), (37, .aload_n 0, 1, 0, 0, 0), (38, .iconst 1, 1, 0, 0, 0), (39, .aload_n 0, 1, 0, 0, 0), (40, .getfield 141, 3, 9, 4, 1593), (43, .invokevirtual 161, 3, 202, 0, 1845), (46, .return_, 1, 0, 0, 0)]]
set_option maxRecDepth 100000 in
noncomputable def mjT212 : List (List (Nat × mjX)) := [[(0, .aload_n 0, 1, 0, 0, 0), (1, .getfield 148, 3, 9, 5, 1594), (4, .ifCond .eq 5, 3, 0, 9, 0), (7, .iconst 0, 1, 0, 0, 0), (8, .ireturn, 1, 0, 0, 0), (9, .aload_n 0, 1, 0, 0, 0), (10, .invokevirtual 154, 3, 201, 0, 1815), (13, .aload_n 0, 1, 0, 0, 0), (14, .aload_n 0, 1, 0, 0, 0), (15, .getfield 141, 3, 9, 4, 1593), (18, .invokevirtual 144, 3, 200, 0, 1819), (21, .iload_n 1, 1, 0, 0, 0), (22, .if_icmp .ne 7, 3, 0, 29, 0), (25, .iconst 1, 1, 0, 0, 0), (26, .goto 4, 3, 0, 30, 0), (29, .iconst 0, 1, 0, 0, 0), (30, .istore_n 2, 1, 0, 0, 0), (31, .iload_n 2, 1, 0, 0, 0)],
  [(32, .ifCond .eq 13, 3, 0, 45, 0), (35, .aload_n 0, 1, 0, 0, 0), (36, .dup, 1, 0, 0, 0), (37, .getfield 141, 3, 9, 4, 1593), (40, .iconst 1, 1, 0, 0, 0), (41, .iadd, 1, 0, 0, 0), (42, .putfield 141, 3, 9, 4, 1593), (45, .iload_n 2, 1, 0, 0, 0), (46, .ireturn, 1, 0, 0, 0)]]
set_option maxRecDepth 100000 in
noncomputable def mjT213 : List (List (Nat × mjX)) := [[(0, .aload_n 0, 1, 0, 0, 0), (1, .getfield 148, 3, 9, 5, 1594), (4, .ifCond .ne 24, 3, 0, 28, 0), (7, .aload_n 0, 1, 0, 0, 0), (8, .getfield 188, 3, 9, 8, 1597), (11, .bipush 6, 2, 0, 0, 0), (13, .if_icmp .ne 15, 3, 0, 28, 0), (16, .aload_n 0, 1, 0, 0, 0), (17, .iconst 3, 1, 0, 0, 0), (18, .aload_n 0, 1, 0, 0, 0), (19, .getfield 141, 3, 9, 4, 1593), (22, .invokevirtual 161, 3, 202, 0, 1845), (25, .goto 20, 3, 0, 45, 0), (28, .aload_n 0, 1, 0, 0, 0), (29, .getfield 148, 3, 9, 5, 1594)],
  [(32, .ifCond .ne 13, 3, 0, 45, 0), (35, .aload_n 0, 1, 0, 0, 0), (36, .dup, 1, 0, 0, 0), (37, .getfield 188, 3, 9, 8, 1597), (40, .iconst 1, 1, 0, 0, 0), (41, .iadd, 1, 0, 0, 0), (42, .putfield 188, 3, 9, 8, 1597), (45, .aload_n 0, 1, 0, 0, 0), (46, .getfield 148, 3, 9, 5, 1594), (49, .ifCond .ne 7, 3, 0, 56, 0), (52, .iconst 1, 1, 0, 0, 0), (53, .goto 4, 3, 0, 57, 0), (56, .iconst 0, 1, 0, 0, 0), (57, .ireturn, 1, 0, 0, 0)]]
set_option maxRecDepth 100000 in
noncomputable def mjT214 : List (List (Nat × mjX)) := [[(0, .aload_n 0, 1, 0, 0, 0), (1, .iconst 0, 1, 0, 0, 0), (2, .putfield 135, 3, 9, 1, 1590), (5, .aload_n 0, 1, 0, 0, 0), (6, .iload_n 1, 1, 0, 0, 0), (7, .putfield 138, 3, 9, 2, 1591), (10, .aload_n 0, 1, 0, 0, 0), (11, .iconst 0, 1, 0, 0, 0), (12, .putfield 141, 3, 9, 4, 1593), (15, .aload_n 0, 1, 0, 0, 0), (16, .iconst 0, 1, 0, 0, 0), (17, .putfield 148, 3, 9, 5, 1594), (20, .aload_n 0, 1, 0, 0, 0), (21, .iconst (-1), 1, 0, 0, 0), (22, .putfield 151, 3, 9, 6, 1595), (25, .aload_n 0, 1, 0, 0, 0), (26, .iconst 0, 1, 0, 0, 0), (27, .putfield 191, 3, 9, 7, 1596), (30, .aload_n 0, 1, 0, 0, 0), (31, .iconst 0, 1, 0, 0, 0)],
  [(32, .putfield 188, 3, 9, 8, 1597), (35, .aload_n 0, 1, 0, 0, 0), (36, .invokevirtual 154, 3, 201, 0, 1815), (39, .return_, 1, 0, 0, 0)]]
set_option maxRecDepth 100000 in
noncomputable def mjT215 : List (List (Nat × mjX)) := [[(0, .iload_n 0, 1, 0, 0, 0), (1, .bipush 6, 2, 0, 0, 0), (3, .if_icmp .ne 9, 3, 0, 12, 0), (6, .ldc2_w 48, 3, 18446744073709551615, 0, 1575), (9, .goto 10, 3, 0, 19, 0), (12, .lconst 1, 1, 0, 0, 0), (13, .iconst 1, 1, 0, 0, 0), (14, .iload_n 0, 1, 0, 0, 0), (15, .ishl, 1, 0, 0, 0), (16, .lshl, 1, 0, 0, 0), (17, .lconst 1, 1, 0, 0, 0), (18, .lsub, 1, 0, 0, 0), (19, .lreturn, 1, 0, 0, 0)]]
set_option maxRecDepth 100000 in
noncomputable def mjT216 : List (List (Nat × mjX)) := [[(0, .lconst 0, 1, 0, 0, 0), (1, .lstore_n 2, 1, 0, 0, 0), (2, .iconst 0, 1, 0, 0, 0), (3, .istore 4, 2, 0, 0, 0), (5, .iload 4, 2, 0, 0, 0), (7, .iconst 1, 1, 0, 0, 0), (8, .iload_n 1, 1, 0, 0, 0), (9, .ishl, 1, 0, 0, 0), (10, .if_icmp .ge 22, 3, 0, 32, 0), (13, .lload_n 2, 1, 0, 0, 0), (14, .iload 4, 2, 0, 0, 0), (16, .iload_n 0, 1, 0, 0, 0), (17, .ishr, 1, 0, 0, 0), (18, .iconst 1, 1, 0, 0, 0), (19, .iand, 1, 0, 0, 0), (20, .i2l, 1, 0, 0, 0), (21, .iload 4, 2, 0, 0, 0), (23, .lshl, 1, 0, 0, 0), (24, .lor, 1, 0, 0, 0), (25, .lstore_n 2, 1, 0, 0, 0), (26, .iinc 4 1, 3, 0, 0, 0), (29, .goto (-24), 3, 0, 5, 0)],
  [(32, .lload_n 2, 1, 0, 0, 0), (33, .lreturn, 1, 0, 0, 0)]]
set_option maxRecDepth 100000 in
noncomputable def mjT217 : List (List (Nat × mjX)) := [[(0, .aload_n 0, 1, 0, 0, 0), (1, .invokevirtual 194, 3, 218, 0, 1869), (4, .lstore_n 1, 1, 0, 0, 0), (5, .aload_n 0, 1, 0, 0, 0), (6, .bipush 15, 2, 0, 0, 0), (8, .bipush 18, 2, 0, 0, 0), (10, .iconst 0, 1, 0, 0, 0), (11, .iconst 0, 1, 0, 0, 0), (12, .iconst 0, 1, 0, 0, 0), (13, .iconst 0, 1, 0, 0, 0), (14, .invokevirtual 198, 3, 210, 0, 1885), (17, .ifCond .eq 13, 3, 0, 30, 0), (20, .lload_n 1, 1, 0, 0, 0), (21, .aload_n 0, 1, 0, 0, 0), (22, .invokevirtual 194, 3, 218, 0, 1869), (25, .lor, 1, 0, 0, 0), (26, .lstore_n 1, 1, 0, 0, 0), (27, .goto (-22), 3, 0, 5, 0), (30, .lload_n 1, 1, 0, 0, 0), (31, .lreturn, 1, 0, 0, 0)]]
set_option maxRecDepth 100000 in
noncomputable def mjT218 : List (List (Nat × mjX)) := [[(0, .aload_n 0, 1, 0, 0, 0), (1, .invokevirtual 201, 3, 219, 0, 1873), (4, .lstore_n 1, 1, 0, 0, 0), (5, .aload_n 0, 1, 0, 0, 0), (6, .iconst 1, 1, 0, 0, 0), (7, .bipush 14, 2, 0, 0, 0), (9, .iconst 4, 1, 0, 0, 0), (10, .iconst 0, 1, 0, 0, 0), (11, .iconst 0, 1, 0, 0, 0), (12, .iconst 0, 1, 0, 0, 0), (13, .invokevirtual 198, 3, 210, 0, 1885), (16, .ifCond .eq 13, 3, 0, 29, 0), (19, .lload_n 1, 1, 0, 0, 0), (20, .aload_n 0, 1, 0, 0, 0), (21, .invokevirtual 201, 3, 219, 0, 1873), (24, .land, 1, 0, 0, 0), (25, .lstore_n 1, 1, 0, 0, 0), (26, .goto (-21), 3, 0, 5, 0), (29, .lload_n 1, 1, 0, 0, 0), (30, .lreturn, 1, 0, 0, 0)]]
set_option maxRecDepth 100000 in
noncomputable def mjT219 : List (List (Nat × mjX)) := [[(0, .aload_n 0, 1, 0, 0, 0), (1, .getfield 148, 3, 9, 5, 1594), (4, .ifCond .eq 5, 3, 0, 9, 0), (7, .lconst 0, 1, 0, 0, 0), (8, .lreturn, 1, 0, 0, 0), (9, .aload_n 0, 1, 0, 0, 0), (10, .invokevirtual 154, 3, 201, 0, 1815), (13, .aload_n 0, 1, 0, 0, 0), (14, .getfield 20, 3, 9, 11, 1600), (17, .iconst 0, 1, 0, 0, 0), (18, .iaload, 1, 0, 0, 0), (19, .invokestatic 204, 3, 215, 1, 1586), (22, .lstore_n 1, 1, 0, 0, 0), (23, .lconst 0, 1, 0, 0, 0), (24, .lstore_n 3, 1, 0, 0, 0), (25, .aload_n 0, 1, 0, 0, 0), (26, .bipush 14, 2, 0, 0, 0), (28, .bipush 15, 2, 0, 0, 0), (30, .bipush 20, 2, 0, 0, 0)],
  [(32, .iconst 0, 1, 0, 0, 0), (33, .iconst 0, 1, 0, 0, 0), (34, .iconst 0, 1, 0, 0, 0), (35, .invokevirtual 181, 3, 208, 0, 1831), (38, .ifCond .eq 40, 3, 0, 78, 0), (41, .aload_n 0, 1, 0, 0, 0), (42, .invokevirtual 208, 3, 213, 0, 1877), (45, .ifCond .ne 5, 3, 0, 50, 0), (48, .lconst 0, 1, 0, 0, 0), (49, .lreturn, 1, 0, 0, 0), (50, .aload_n 0, 1, 0, 0, 0), (51, .invokevirtual 185, 3, 209, 0, 1853), (54, .lload_n 1, 1, 0, 0, 0), (55, .aload_n 0, 1, 0, 0, 0), (56, .invokevirtual 201, 3, 219, 0, 1873), (59, .ldc2_w 48, 3, 18446744073709551615, 0, 1575), (62, .lxor, 1, 0, 0, 0), (63, .land, 1, 0, 0, 0)],
  [(64, .lstore_n 3, 1, 0, 0, 0), (65, .aload_n 0, 1, 0, 0, 0), (66, .dup, 1, 0, 0, 0), (67, .getfield 188, 3, 9, 8, 1597), (70, .iconst 1, 1, 0, 0, 0), (71, .isub, 1, 0, 0, 0), (72, .putfield 188, 3, 9, 8, 1597), (75, .goto 234, 3, 0, 309, 0), (78, .aload_n 0, 1, 0, 0, 0), (79, .aload_n 0, 1, 0, 0, 0), (80, .getfield 141, 3, 9, 4, 1593), (83, .invokevirtual 144, 3, 200, 0, 1819), (86, .bipush 91, 2, 0, 0, 0), (88, .if_icmp .ne 46, 3, 0, 134, 0), (91, .aload_n 0, 1, 0, 0, 0), (92, .invokevirtual 208, 3, 213, 0, 1877), (95, .ifCond .ne 5, 3, 0, 100, 0)],
  [(98, .lconst 0, 1, 0, 0, 0), (99, .lreturn, 1, 0, 0, 0), (100, .aload_n 0, 1, 0, 0, 0), (101, .dup, 1, 0, 0, 0), (102, .getfield 141, 3, 9, 4, 1593), (105, .iconst 1, 1, 0, 0, 0), (106, .iadd, 1, 0, 0, 0), (107, .putfield 141, 3, 9, 4, 1593), (110, .aload_n 0, 1, 0, 0, 0), (111, .invokevirtual 212, 3, 217, 0, 1865), (114, .lstore_n 3, 1, 0, 0, 0), (115, .aload_n 0, 1, 0, 0, 0), (116, .bipush 93, 2, 0, 0, 0), (118, .invokevirtual 215, 3, 211, 0, 1881), (121, .aload_n 0, 1, 0, 0, 0), (122, .dup, 1, 0, 0, 0), (123, .getfield 188, 3, 9, 8, 1597), (126, .iconst 1, 1, 0, 0, 0), (127, .isub, 1, 0, 0, 0)],
  [(128, .putfield 188, 3, 9, 8, 1597), (131, .goto 178, 3, 0, 309, 0), (134, .aload_n 0, 1, 0, 0, 0), (135, .bipush 9, 2, 0, 0, 0), (137, .bipush 6, 2, 0, 0, 0), (139, .iconst 0, 1, 0, 0, 0), (140, .iconst 0, 1, 0, 0, 0), (141, .iconst 0, 1, 0, 0, 0), (142, .iconst 0, 1, 0, 0, 0), (143, .invokevirtual 181, 3, 208, 0, 1831), (146, .ifCond .eq 72, 3, 0, 218, 0), (149, .aload_n 0, 1, 0, 0, 0), (150, .invokevirtual 208, 3, 213, 0, 1877), (153, .ifCond .ne 5, 3, 0, 158, 0), (156, .lconst 0, 1, 0, 0, 0), (157, .lreturn, 1, 0, 0, 0), (158, .aload_n 0, 1, 0, 0, 0), (159, .invokevirtual 185, 3, 209, 0, 1853)],
  [(162, .lload_n 1, 1, 0, 0, 0), (163, .aload_n 0, 1, 0, 0, 0), (164, .invokevirtual 201, 3, 219, 0, 1873), (167, .ldc2_w 48, 3, 18446744073709551615, 0, 1575), (170, .lxor, 1, 0, 0, 0), (171, .land, 1, 0, 0, 0), (172, .lstore_n 3, 1, 0, 0, 0), (173, .aload_n 0, 1, 0, 0, 0), (174, .bipush 20, 2, 0, 0, 0), (176, .bipush 8, 2, 0, 0, 0), (178, .iconst 5, 1, 0, 0, 0), (179, .bipush 14, 2, 0, 0, 0), (181, .iconst 0, 1, 0, 0, 0), (182, .iconst 0, 1, 0, 0, 0), (183, .invokevirtual 198, 3, 210, 0, 1885), (186, .ifCond .ne 12, 3, 0, 198, 0), (189, .aload_n 0, 1, 0, 0, 0), (190, .iconst 1, 1, 0, 0, 0), (191, .aload_n 0, 1, 0, 0, 0)],
  [(192, .getfield 141, 3, 9, 4, 1593), (195, .invokevirtual 161, 3, 202, 0, 1845), (198, .lload_n 3, 1, 0, 0, 0), (199, .aload_n 0, 1, 0, 0, 0), (200, .invokevirtual 201, 3, 219, 0, 1873), (203, .lor, 1, 0, 0, 0), (204, .lstore_n 3, 1, 0, 0, 0), (205, .aload_n 0, 1, 0, 0, 0), (206, .dup, 1, 0, 0, 0), (207, .getfield 188, 3, 9, 8, 1597), (210, .iconst 1, 1, 0, 0, 0), (211, .isub, 1, 0, 0, 0), (212, .putfield 188, 3, 9, 8, 1597), (215, .goto 94, 3, 0, 309, 0), (218, .aload_n 0, 1, 0, 0, 0), (219, .aload_n 0, 1, 0, 0, 0), (220, .getfield 141, 3, 9, 4, 1593), (223, .invokevirtual 144, 3, 200, 0, 1819)],
  [(226, .bipush 97, 2, 0, 0, 0), (228, .isub, 1, 0, 0, 0), (229, .istore 5, 2, 0, 0, 0), (231, .iload 5, 2, 0, 0, 0), (233, .iconst 0, 1, 0, 0, 0), (234, .aload_n 0, 1, 0, 0, 0), (235, .getfield 20, 3, 9, 11, 1600), (238, .iconst 0, 1, 0, 0, 0), (239, .iaload, 1, 0, 0, 0), (240, .iconst 1, 1, 0, 0, 0), (241, .isub, 1, 0, 0, 0), (242, .invokestatic 166, 3, 198, 1, 1804), (245, .ifCond .eq 19, 3, 0, 264, 0), (248, .aload_n 0, 1, 0, 0, 0), (249, .aload_n 0, 1, 0, 0, 0), (250, .getfield 141, 3, 9, 4, 1593), (253, .iconst 1, 1, 0, 0, 0), (254, .iadd, 1, 0, 0, 0), (255, .invokevirtual 144, 3, 200, 0, 1819)],
  [(258, .invokestatic 170, 3, 204, 1, 1839), (261, .ifCond .eq 15, 3, 0, 276, 0), (264, .aload_n 0, 1, 0, 0, 0), (265, .iconst 1, 1, 0, 0, 0), (266, .aload_n 0, 1, 0, 0, 0), (267, .getfield 141, 3, 9, 4, 1593), (270, .invokevirtual 161, 3, 202, 0, 1845), (273, .goto 15, 3, 0, 288, 0), (276, .iload 5, 2, 0, 0, 0), (278, .aload_n 0, 1, 0, 0, 0), (279, .getfield 20, 3, 9, 11, 1600), (282, .iconst 0, 1, 0, 0, 0), (283, .iaload, 1, 0, 0, 0), (284, .invokestatic 219, 3, 216, 1, 1889), (287, .lstore_n 3, 1, 0, 0, 0)],
  [(288, .aload_n 0, 1, 0, 0, 0), (289, .dup, 1, 0, 0, 0), (290, .getfield 141, 3, 9, 4, 1593), (293, .aload_n 0, 1, 0, 0, 0), (294, .getfield 148, 3, 9, 5, 1594), (297, .ifCond .ne 7, 3, 0, 304, 0), (300, .iconst 1, 1, 0, 0, 0), (301, .goto 4, 3, 0, 305, 0), (304, .iconst 0, 1, 0, 0, 0), (305, .iadd, 1, 0, 0, 0), (306, .putfield 141, 3, 9, 4, 1593), (309, .lload_n 3, 1, 0, 0, 0), (310, .lreturn, 1, 0, 0, 0)]]
set_option maxRecDepth 100000 in
noncomputable def mjT220 : List (List (Nat × mjX)) := [[(0, .aload_n 0, 1, 0, 0, 0), (1, .iconst 1, 1, 0, 0, 0), (2, .bipush 20, 2, 0, 0, 0), (4, .bipush 15, 2, 0, 0, 0), (6, .bipush 13, 2, 0, 0, 0), (8, .bipush 19, 2, 0, 0, 0), (10, .iconst 0, 1, 0, 0, 0), (11, .invokevirtual 181, 3, 208, 0, 1831), (14, .ifCond .eq 5, 3, 0, 19, 0), (17, .iconst 0, 1, 0, 0, 0), (18, .ireturn, 1, 0, 0, 0), (19, .aload_n 0, 1, 0, 0, 0), (20, .bipush 19, 2, 0, 0, 0), (22, .bipush 12, 2, 0, 0, 0), (24, .bipush 9, 2, 0, 0, 0), (26, .bipush 16, 2, 0, 0, 0), (28, .iconst 0, 1, 0, 0, 0), (29, .iconst 0, 1, 0, 0, 0), (30, .invokevirtual 181, 3, 208, 0, 1831)],
  [(33, .ifCond .eq 5, 3, 0, 38, 0), (36, .iconst 1, 1, 0, 0, 0), (37, .ireturn, 1, 0, 0, 0), (38, .aload_n 0, 1, 0, 0, 0), (39, .bipush 19, 2, 0, 0, 0), (41, .iconst 5, 1, 0, 0, 0), (42, .iconst 5, 1, 0, 0, 0), (43, .iconst 0, 1, 0, 0, 0), (44, .iconst 0, 1, 0, 0, 0), (45, .iconst 0, 1, 0, 0, 0), (46, .invokevirtual 181, 3, 208, 0, 1831), (49, .ifCond .eq 5, 3, 0, 54, 0), (52, .iconst 2, 1, 0, 0, 0), (53, .ireturn, 1, 0, 0, 0), (54, .aload_n 0, 1, 0, 0, 0), (55, .bipush 19, 2, 0, 0, 0), (57, .iconst 1, 1, 0, 0, 0), (58, .bipush 12, 2, 0, 0, 0), (60, .bipush 20, 2, 0, 0, 0), (62, .iconst 0, 1, 0, 0, 0), (63, .iconst 0, 1, 0, 0, 0)],
  [(64, .invokevirtual 181, 3, 208, 0, 1831), (67, .ifCond .eq 5, 3, 0, 72, 0), (70, .iconst 3, 1, 0, 0, 0), (71, .ireturn, 1, 0, 0, 0), (72, .aload_n 0, 1, 0, 0, 0), (73, .bipush 23, 2, 0, 0, 0), (75, .bipush 15, 2, 0, 0, 0), (77, .bipush 18, 2, 0, 0, 0), (79, .bipush 12, 2, 0, 0, 0), (81, .iconst 4, 1, 0, 0, 0), (82, .iconst 0, 1, 0, 0, 0), (83, .invokevirtual 181, 3, 208, 0, 1831), (86, .ifCond .eq 5, 3, 0, 91, 0), (89, .iconst 4, 1, 0, 0, 0), (90, .ireturn, 1, 0, 0, 0), (91, .aload_n 0, 1, 0, 0, 0), (92, .bipush 12, 2, 0, 0, 0), (94, .iconst 1, 1, 0, 0, 0), (95, .bipush 23, 2, 0, 0, 0)],
  [(97, .iconst 0, 1, 0, 0, 0), (98, .iconst 0, 1, 0, 0, 0), (99, .iconst 0, 1, 0, 0, 0), (100, .invokevirtual 181, 3, 208, 0, 1831), (103, .ifCond .eq 7, 3, 0, 110, 0), (106, .iconst 5, 1, 0, 0, 0), (107, .goto 4, 3, 0, 111, 0), (110, .iconst (-1), 1, 0, 0, 0), (111, .ireturn, 1, 0, 0, 0)]]
set_option maxRecDepth 100000 in
noncomputable def mjT221 : List (List (Nat × mjX)) := [[(0, .iload_n 1, 1, 0, 0, 0), (1, .iconst 1, 1, 0, 0, 0), (2, .if_icmp .ne 14, 3, 0, 16, 0), (5, .aload_n 0, 1, 0, 0, 0), (6, .getfield 20, 3, 9, 11, 1600), (9, .iconst 1, 1, 0, 0, 0), (10, .iaload, 1, 0, 0, 0), (11, .bipush 12, 2, 0, 0, 0), (13, .if_icmp .eq 34, 3, 0, 47, 0), (16, .iload_n 1, 1, 0, 0, 0), (17, .iconst 2, 1, 0, 0, 0), (18, .if_icmp .ne 14, 3, 0, 32, 0), (21, .aload_n 0, 1, 0, 0, 0), (22, .getfield 20, 3, 9, 11, 1600), (25, .iconst 2, 1, 0, 0, 0), (26, .iaload, 1, 0, 0, 0), (27, .bipush 12, 2, 0, 0, 0), (29, .if_icmp .eq 18, 3, 0, 47, 0)],
  [(32, .iload_n 1, 1, 0, 0, 0), (33, .iconst 3, 1, 0, 0, 0), (34, .if_icmp .ne 17, 3, 0, 51, 0), (37, .aload_n 0, 1, 0, 0, 0), (38, .getfield 20, 3, 9, 11, 1600), (41, .iconst 3, 1, 0, 0, 0), (42, .iaload, 1, 0, 0, 0), (43, .iconst 5, 1, 0, 0, 0), (44, .if_icmp .ne 7, 3, 0, 51, 0), (47, .iconst 1, 1, 0, 0, 0), (48, .goto 4, 3, 0, 52, 0), (51, .iconst 0, 1, 0, 0, 0), (52, .ireturn, 1, 0, 0, 0)]]
set_option maxRecDepth 100000 in
noncomputable def mjT222 : List (List (Nat × mjX)) := [[(0, .aload_n 0, 1, 0, 0, 0), (1, .invokevirtual 223, 3, 220, 0, 1827), (4, .istore_n 1, 1, 0, 0, 0), (5, .iload_n 1, 1, 0, 0, 0), (6, .iconst (-1), 1, 0, 0, 0), (7, .if_icmp .ne 15, 3, 0, 22, 0), (10, .aload_n 0, 1, 0, 0, 0), (11, .iconst 1, 1, 0, 0, 0), (12, .aload_n 0, 1, 0, 0, 0), (13, .getfield 141, 3, 9, 4, 1593), (16, .invokevirtual 161, 3, 202, 0, 1845), (19, .goto 52, 3, 0, 71, 0), (22, .aload_n 0, 1, 0, 0, 0), (23, .getfield 191, 3, 9, 7, 1596), (26, .bipush 60, 2, 0, 0, 0), (28, .if_icmp .eq 11, 3, 0, 39, 0), (31, .aload_n 0, 1, 0, 0, 0)],
  [(32, .iload_n 1, 1, 0, 0, 0), (33, .invokevirtual 226, 3, 221, 0, 1849), (36, .ifCond .eq 15, 3, 0, 51, 0), (39, .aload_n 0, 1, 0, 0, 0), (40, .iconst 3, 1, 0, 0, 0), (41, .aload_n 0, 1, 0, 0, 0), (42, .getfield 141, 3, 9, 4, 1593), (45, .invokevirtual 161, 3, 202, 0, 1845), (48, .goto 23, 3, 0, 71, 0), (51, .iload_n 1, 1, 0, 0, 0), (52, .ifCond .ne 19, 3, 0, 71, 0), (55, .aload_n 0, 1, 0, 0, 0), (56, .getfield 191, 3, 9, 7, 1596), (59, .ifCond .le 12, 3, 0, 71, 0), (62, .aload_n 0, 1, 0, 0, 0), (63, .iconst 4, 1, 0, 0, 0)],
  [(64, .aload_n 0, 1, 0, 0, 0), (65, .getfield 141, 3, 9, 4, 1593), (68, .invokevirtual 161, 3, 202, 0, 1845), (71, .aload_n 0, 1, 0, 0, 0), (72, .getfield 148, 3, 9, 5, 1594), (75, .ifCond .eq 4, 3, 0, 79, 0), (78, .return_, 1, 0, 0, 0), (79, .aload_n 0, 1, 0, 0, 0), (80, .invokevirtual 185, 3, 209, 0, 1853), (83, .aload_n 0, 1, 0, 0, 0), (84, .dup, 1, 0, 0, 0), (85, .getfield 191, 3, 9, 7, 1596), (88, .iconst 1, 1, 0, 0, 0), (89, .iadd, 1, 0, 0, 0), (90, .putfield 191, 3, 9, 7, 1596), (93, .iload_n 1, 1, 0, 0, 0), (94, .tableswitch 179 0 4 #[34, 50, 78, 124, 155], 34, 0, 0, 0)],
  [],
  [(128, .aload_n 0, 1, 0, 0, 0), (129, .getfield 20, 3, 9, 11, 1600), (132, .iconst 0, 1, 0, 0, 0), (133, .aload_n 0, 1, 0, 0, 0), (134, .iconst 1, 1, 0, 0, 0), (135, .bipush 6, 2, 0, 0, 0), (137, .invokevirtual 229, 3, 205, 0, 1857), (140, .iastore, 1, 0, 0, 0), (141, .goto 144, 3, 0, 285, 0), (144, .aload_n 0, 1, 0, 0, 0), (145, .getfield 32, 3, 9, 15, 1604), (148, .aload_n 0, 1, 0, 0, 0), (149, .getfield 20, 3, 9, 11, 1600), (152, .iconst 1, 1, 0, 0, 0), (153, .iaload, 1, 0, 0, 0), (154, .aload_n 0, 1, 0, 0, 0), (155, .invokevirtual 212, 3, 217, 0, 1865), (158, .lastore, 1, 0, 0, 0), (159, .aload_n 0, 1, 0, 0, 0)],
  [(160, .getfield 20, 3, 9, 11, 1600), (163, .iconst 1, 1, 0, 0, 0), (164, .dup2, 1, 0, 0, 0), (165, .iaload, 1, 0, 0, 0), (166, .iconst 1, 1, 0, 0, 0), (167, .iadd, 1, 0, 0, 0), (168, .iastore, 1, 0, 0, 0), (169, .goto 116, 3, 0, 285, 0), (172, .aload_n 0, 1, 0, 0, 0), (173, .getfield 26, 3, 9, 13, 1602), (176, .aload_n 0, 1, 0, 0, 0), (177, .getfield 20, 3, 9, 11, 1600), (180, .iconst 2, 1, 0, 0, 0), (181, .iaload, 1, 0, 0, 0), (182, .aload_n 0, 1, 0, 0, 0), (183, .iconst 0, 1, 0, 0, 0), (184, .bipush 51, 2, 0, 0, 0), (186, .invokevirtual 229, 3, 205, 0, 1857), (189, .iastore, 1, 0, 0, 0), (190, .aload_n 0, 1, 0, 0, 0), (191, .getfield 39, 3, 9, 17, 1606)],
  [(194, .aload_n 0, 1, 0, 0, 0), (195, .getfield 20, 3, 9, 11, 1600), (198, .iconst 2, 1, 0, 0, 0), (199, .iaload, 1, 0, 0, 0), (200, .aload_n 0, 1, 0, 0, 0), (201, .invokevirtual 212, 3, 217, 0, 1865), (204, .lastore, 1, 0, 0, 0), (205, .aload_n 0, 1, 0, 0, 0), (206, .getfield 20, 3, 9, 11, 1600), (209, .iconst 2, 1, 0, 0, 0), (210, .dup2, 1, 0, 0, 0), (211, .iaload, 1, 0, 0, 0), (212, .iconst 1, 1, 0, 0, 0), (213, .iadd, 1, 0, 0, 0), (214, .iastore, 1, 0, 0, 0), (215, .goto 70, 3, 0, 285, 0), (218, .aload_n 0, 1, 0, 0, 0), (219, .getfield 32, 3, 9, 15, 1604), (222, .bipush 12, 2, 0, 0, 0)],
  [(224, .aload_n 0, 1, 0, 0, 0), (225, .getfield 20, 3, 9, 11, 1600), (228, .iconst 3, 1, 0, 0, 0), (229, .iaload, 1, 0, 0, 0), (230, .iadd, 1, 0, 0, 0), (231, .aload_n 0, 1, 0, 0, 0), (232, .invokevirtual 212, 3, 217, 0, 1865), (235, .lastore, 1, 0, 0, 0), (236, .aload_n 0, 1, 0, 0, 0), (237, .getfield 20, 3, 9, 11, 1600), (240, .iconst 3, 1, 0, 0, 0), (241, .dup2, 1, 0, 0, 0), (242, .iaload, 1, 0, 0, 0), (243, .iconst 1, 1, 0, 0, 0), (244, .iadd, 1, 0, 0, 0), (245, .iastore, 1, 0, 0, 0), (246, .goto 39, 3, 0, 285, 0), (249, .aload_n 0, 1, 0, 0, 0), (250, .getfield 20, 3, 9, 11, 1600), (253, .iconst 4, 1, 0, 0, 0), (254, .aload_n 0, 1, 0, 0, 0), (255, .iconst 0, 1, 0, 0, 0)],
  [(256, .iconst 1, 1, 0, 0, 0), (257, .aload_n 0, 1, 0, 0, 0), (258, .getfield 20, 3, 9, 11, 1600), (261, .iconst 0, 1, 0, 0, 0), (262, .iaload, 1, 0, 0, 0), (263, .ishl, 1, 0, 0, 0), (264, .iconst 1, 1, 0, 0, 0), (265, .isub, 1, 0, 0, 0), (266, .invokevirtual 229, 3, 205, 0, 1857), (269, .iastore, 1, 0, 0, 0), (270, .goto 15, 3, 0, 285, 0), (273, .aload_n 0, 1, 0, 0, 0), (274, .getfield 20, 3, 9, 11, 1600), (277, .iconst 5, 1, 0, 0, 0), (278, .aload_n 0, 1, 0, 0, 0), (279, .iconst 0, 1, 0, 0, 0), (280, .iconst 4, 1, 0, 0, 0), (281, .invokevirtual 229, 3, 205, 0, 1857), (284, .iastore, 1, 0, 0, 0), (285, .aload_n 0, 1, 0, 0, 0), (286, .bipush 59, 2, 0, 0, 0)],
  [(288, .invokevirtual 215, 3, 211, 0, 1881), (291, .return_, 1, 0, 0, 0)]]
set_option maxRecDepth 100000 in
noncomputable def mjT223 : List (List (Nat × mjX)) := [[(0, .aload_n 0, 1, 0, 0, 0), (1, .iconst 0, 1, 0, 0, 0), (2, .putfield 132, 3, 9, 0, 1589), (5, .aload_n 0, 1, 0, 0, 0), (6, .iload_n 1, 1, 0, 0, 0), (7, .iconst 0, 1, 0, 0, 0), (8, .aload_n 0, 1, 0, 0, 0), (9, .getfield 135, 3, 9, 1, 1590), (12, .invokestatic 166, 3, 198, 1, 1804), (15, .ifCond .ne 7, 3, 0, 22, 0), (18, .iconst 1, 1, 0, 0, 0), (19, .goto 4, 3, 0, 23, 0), (22, .iconst 0, 1, 0, 0, 0), (23, .iconst 1, 1, 0, 0, 0), (24, .iconst 1, 1, 0, 0, 0), (25, .invokevirtual 233, 3, 197, 0, 1807), (28, .ifCond .eq 5, 3, 0, 33, 0), (31, .iconst 0, 1, 0, 0, 0)],
  [(32, .ireturn, 1, 0, 0, 0), (33, .aload_n 0, 1, 0, 0, 0), (34, .iload_n 1, 1, 0, 0, 0), (35, .invokevirtual 237, 3, 214, 0, 1811), (38, .aload_n 0, 1, 0, 0, 0), (39, .invokevirtual 126, 3, 195, 0, 1578), (42, .aload_n 0, 1, 0, 0, 0), (43, .getfield 148, 3, 9, 5, 1594), (46, .ifCond .ne 25, 3, 0, 71, 0), (49, .aload_n 0, 1, 0, 0, 0), (50, .getfield 141, 3, 9, 4, 1593), (53, .aload_n 0, 1, 0, 0, 0), (54, .getfield 138, 3, 9, 2, 1591), (57, .if_icmp .ge 14, 3, 0, 71, 0), (60, .aload_n 0, 1, 0, 0, 0), (61, .invokevirtual 240, 3, 222, 0, 1823)],
  [(64, .aload_n 0, 1, 0, 0, 0), (65, .invokevirtual 154, 3, 201, 0, 1815), (68, .goto (-26), 3, 0, 42, 0), (71, .aload_n 0, 1, 0, 0, 0), (72, .aload_n 0, 1, 0, 0, 0), (73, .getfield 151, 3, 9, 6, 1595), (76, .putfield 9, 3, 9, 3, 1592), (79, .aload_n 0, 1, 0, 0, 0), (80, .getfield 148, 3, 9, 5, 1594), (83, .ifCond .eq 11, 3, 0, 94, 0), (86, .aload_n 0, 1, 0, 0, 0), (87, .getfield 148, 3, 9, 5, 1594), (90, .bipush 10, 2, 0, 0, 0), (92, .isub, 1, 0, 0, 0), (93, .ireturn, 1, 0, 0, 0), (94, .aload_n 0, 1, 0, 0, 0), (95, .invokevirtual 129, 3, 224, 0, 1582)],
  [(98, .aload_n 0, 1, 0, 0, 0), (99, .getfield 23, 3, 9, 12, 1601), (102, .iconst 1, 1, 0, 0, 0), (103, .iaload, 1, 0, 0, 0), (104, .ireturn, 1, 0, 0, 0)]]
set_option maxRecDepth 100000 in
noncomputable def mjT224 : List (List (Nat × mjX)) := [[(0, .iconst 0, 1, 0, 0, 0), (1, .istore_n 1, 1, 0, 0, 0), (2, .iload_n 1, 1, 0, 0, 0), (3, .bipush 6, 2, 0, 0, 0), (5, .if_icmp .ge 21, 3, 0, 26, 0), (8, .aload_n 0, 1, 0, 0, 0), (9, .getfield 23, 3, 9, 12, 1601), (12, .iload_n 1, 1, 0, 0, 0), (13, .aload_n 0, 1, 0, 0, 0), (14, .getfield 20, 3, 9, 11, 1600), (17, .iload_n 1, 1, 0, 0, 0), (18, .iaload, 1, 0, 0, 0), (19, .iastore, 1, 0, 0, 0), (20, .iinc 1 1, 3, 0, 0, 0), (23, .goto (-21), 3, 0, 2, 0), (26, .iconst 0, 1, 0, 0, 0), (27, .istore_n 1, 1, 0, 0, 0), (28, .iload_n 1, 1, 0, 0, 0), (29, .bipush 17, 2, 0, 0, 0), (31, .if_icmp .ge 21, 3, 0, 52, 0)],
  [(34, .aload_n 0, 1, 0, 0, 0), (35, .getfield 36, 3, 9, 16, 1605), (38, .iload_n 1, 1, 0, 0, 0), (39, .aload_n 0, 1, 0, 0, 0), (40, .getfield 32, 3, 9, 15, 1604), (43, .iload_n 1, 1, 0, 0, 0), (44, .laload, 1, 0, 0, 0), (45, .lastore, 1, 0, 0, 0), (46, .iinc 1 1, 3, 0, 0, 0), (49, .goto (-21), 3, 0, 28, 0), (52, .iconst 0, 1, 0, 0, 0), (53, .istore_n 1, 1, 0, 0, 0), (54, .iload_n 1, 1, 0, 0, 0), (55, .aload_n 0, 1, 0, 0, 0), (56, .getfield 23, 3, 9, 12, 1601), (59, .iconst 2, 1, 0, 0, 0), (60, .iaload, 1, 0, 0, 0), (61, .if_icmp .ge 33, 3, 0, 94, 0)],
  [(64, .aload_n 0, 1, 0, 0, 0), (65, .getfield 29, 3, 9, 14, 1603), (68, .iload_n 1, 1, 0, 0, 0), (69, .aload_n 0, 1, 0, 0, 0), (70, .getfield 26, 3, 9, 13, 1602), (73, .iload_n 1, 1, 0, 0, 0), (74, .iaload, 1, 0, 0, 0), (75, .iastore, 1, 0, 0, 0), (76, .aload_n 0, 1, 0, 0, 0), (77, .getfield 42, 3, 9, 18, 1607), (80, .iload_n 1, 1, 0, 0, 0), (81, .aload_n 0, 1, 0, 0, 0), (82, .getfield 39, 3, 9, 17, 1606), (85, .iload_n 1, 1, 0, 0, 0), (86, .laload, 1, 0, 0, 0), (87, .lastore, 1, 0, 0, 0), (88, .iinc 1 1, 3, 0, 0, 0), (91, .goto (-37), 3, 0, 54, 0), (94, .iconst 0, 1, 0, 0, 0), (95, .istore_n 1, 1, 0, 0, 0)],
  [(96, .iload_n 1, 1, 0, 0, 0), (97, .bipush 52, 2, 0, 0, 0), (99, .if_icmp .ge 73, 3, 0, 172, 0), (102, .aload_n 0, 1, 0, 0, 0), (103, .getfield 45, 3, 9, 19, 1608), (106, .iload_n 1, 1, 0, 0, 0), (107, .aload_n 0, 1, 0, 0, 0), (108, .getfield 23, 3, 9, 12, 1601), (111, .iconst 0, 1, 0, 0, 0), (112, .iaload, 1, 0, 0, 0), (113, .invokestatic 204, 3, 215, 1, 1586), (116, .lastore, 1, 0, 0, 0), (117, .iconst 0, 1, 0, 0, 0), (118, .istore_n 2, 1, 0, 0, 0), (119, .iload_n 2, 1, 0, 0, 0), (120, .aload_n 0, 1, 0, 0, 0), (121, .getfield 23, 3, 9, 12, 1601), (124, .iconst 2, 1, 0, 0, 0), (125, .iaload, 1, 0, 0, 0), (126, .if_icmp .ge 40, 3, 0, 166, 0)],
  [(129, .aload_n 0, 1, 0, 0, 0), (130, .getfield 45, 3, 9, 19, 1608), (133, .iload_n 1, 1, 0, 0, 0), (134, .dup2, 1, 0, 0, 0), (135, .laload, 1, 0, 0, 0), (136, .aload_n 0, 1, 0, 0, 0), (137, .getfield 29, 3, 9, 14, 1603), (140, .iload_n 2, 1, 0, 0, 0), (141, .iaload, 1, 0, 0, 0), (142, .iload_n 1, 1, 0, 0, 0), (143, .if_icmp .gt 12, 3, 0, 155, 0), (146, .aload_n 0, 1, 0, 0, 0), (147, .getfield 42, 3, 9, 18, 1607), (150, .iload_n 2, 1, 0, 0, 0), (151, .laload, 1, 0, 0, 0), (152, .goto 6, 3, 0, 158, 0), (155, .ldc2_w 48, 3, 18446744073709551615, 0, 1575), (158, .land, 1, 0, 0, 0), (159, .lastore, 1, 0, 0, 0)],
  [(160, .iinc 2 1, 3, 0, 0, 0), (163, .goto (-44), 3, 0, 119, 0), (166, .iinc 1 1, 3, 0, 0, 0), (169, .goto (-73), 3, 0, 96, 0), (172, .iconst 0, 1, 0, 0, 0), (173, .istore_n 1, 1, 0, 0, 0), (174, .iload_n 1, 1, 0, 0, 0), (175, .bipush 12, 2, 0, 0, 0), (177, .if_icmp .ge 16, 3, 0, 193, 0), (180, .aload_n 0, 1, 0, 0, 0), (181, .getfield 54, 3, 9, 21, 1610), (184, .iload_n 1, 1, 0, 0, 0), (185, .iload_n 1, 1, 0, 0, 0), (186, .iastore, 1, 0, 0, 0), (187, .iinc 1 1, 3, 0, 0, 0), (190, .goto (-16), 3, 0, 174, 0)],
  [(193, .aload_n 0, 1, 0, 0, 0), (194, .aload_n 0, 1, 0, 0, 0), (195, .getfield 23, 3, 9, 12, 1601), (198, .iconst 0, 1, 0, 0, 0), (199, .iaload, 1, 0, 0, 0), (200, .invokestatic 204, 3, 215, 1, 1586), (203, .putfield 50, 3, 9, 20, 1609), (206, .aload_n 0, 1, 0, 0, 0), (207, .iconst 0, 1, 0, 0, 0), (208, .putfield 243, 3, 9, 25, 1614), (211, .aload_n 0, 1, 0, 0, 0), (212, .iconst 0, 1, 0, 0, 0), (213, .putfield 246, 3, 9, 22, 1611), (216, .return_, 1, 0, 0, 0)]]
set_option maxRecDepth 100000 in
noncomputable def mjT225 : List (List (Nat × mjX)) := [[(0, .iconst 0, 1, 0, 0, 0), (1, .istore_n 2, 1, 0, 0, 0), (2, .iconst 0, 1, 0, 0, 0), (3, .istore_n 3, 1, 0, 0, 0), (4, .iload_n 3, 1, 0, 0, 0), (5, .bipush 64, 2, 0, 0, 0), (7, .if_icmp .ge 18, 3, 0, 25, 0), (10, .iload_n 2, 1, 0, 0, 0), (11, .lload_n 0, 1, 0, 0, 0), (12, .iload_n 3, 1, 0, 0, 0), (13, .lshr, 1, 0, 0, 0), (14, .lconst 1, 1, 0, 0, 0), (15, .land, 1, 0, 0, 0), (16, .l2i, 1, 0, 0, 0), (17, .iadd, 1, 0, 0, 0), (18, .istore_n 2, 1, 0, 0, 0), (19, .iinc 3 1, 3, 0, 0, 0), (22, .goto (-18), 3, 0, 4, 0), (25, .iload_n 2, 1, 0, 0, 0), (26, .ireturn, 1, 0, 0, 0)]]
set_option maxRecDepth 100000 in
noncomputable def mjT226 : List (List (Nat × mjX)) := [[(0, .aload_n 0, 1, 0, 0, 0), (1, .iconst 0, 1, 0, 0, 0), (2, .putfield 132, 3, 9, 0, 1589), (5, .aload_n 0, 1, 0, 0, 0), (6, .iload_n 1, 1, 0, 0, 0), (7, .iconst 0, 1, 0, 0, 0), (8, .aload_n 0, 1, 0, 0, 0), (9, .getfield 135, 3, 9, 1, 1590), (12, .invokestatic 166, 3, 198, 1, 1804), (15, .ifCond .eq 10, 3, 0, 25, 0), (18, .iload_n 1, 1, 0, 0, 0), (19, .sipush 200, 3, 0, 0, 0), (22, .if_icmp .le 7, 3, 0, 29, 0), (25, .iconst 1, 1, 0, 0, 0), (26, .goto 4, 3, 0, 30, 0), (29, .iconst 0, 1, 0, 0, 0), (30, .iconst 1, 1, 0, 0, 0), (31, .iconst 1, 1, 0, 0, 0)],
  [(32, .invokevirtual 233, 3, 197, 0, 1807), (35, .ifCond .eq 5, 3, 0, 40, 0), (38, .iconst 0, 1, 0, 0, 0), (39, .ireturn, 1, 0, 0, 0), (40, .aload_n 0, 1, 0, 0, 0), (41, .iload_n 1, 1, 0, 0, 0), (42, .invokevirtual 237, 3, 214, 0, 1811), (45, .aload_n 0, 1, 0, 0, 0), (46, .getfield 20, 3, 9, 11, 1600), (49, .iconst 0, 1, 0, 0, 0), (50, .aload_n 0, 1, 0, 0, 0), (51, .getfield 23, 3, 9, 12, 1601), (54, .iconst 0, 1, 0, 0, 0), (55, .iaload, 1, 0, 0, 0), (56, .iastore, 1, 0, 0, 0), (57, .aload_n 0, 1, 0, 0, 0), (58, .invokevirtual 212, 3, 217, 0, 1865), (61, .lstore_n 2, 1, 0, 0, 0), (62, .aload_n 0, 1, 0, 0, 0), (63, .invokevirtual 154, 3, 201, 0, 1815)],
  [(66, .aload_n 0, 1, 0, 0, 0), (67, .getfield 148, 3, 9, 5, 1594), (70, .ifCond .ne 23, 3, 0, 93, 0), (73, .aload_n 0, 1, 0, 0, 0), (74, .getfield 141, 3, 9, 4, 1593), (77, .aload_n 0, 1, 0, 0, 0), (78, .getfield 138, 3, 9, 2, 1591), (81, .if_icmp .ge 12, 3, 0, 93, 0), (84, .aload_n 0, 1, 0, 0, 0), (85, .iconst 1, 1, 0, 0, 0), (86, .aload_n 0, 1, 0, 0, 0), (87, .getfield 141, 3, 9, 4, 1593), (90, .invokevirtual 161, 3, 202, 0, 1845), (93, .aload_n 0, 1, 0, 0, 0), (94, .aload_n 0, 1, 0, 0, 0), (95, .getfield 151, 3, 9, 6, 1595)],
  [(98, .putfield 9, 3, 9, 3, 1592), (101, .aload_n 0, 1, 0, 0, 0), (102, .getfield 148, 3, 9, 5, 1594), (105, .ifCond .eq 11, 3, 0, 116, 0), (108, .aload_n 0, 1, 0, 0, 0), (109, .getfield 148, 3, 9, 5, 1594), (112, .bipush 10, 2, 0, 0, 0), (114, .isub, 1, 0, 0, 0), (115, .ireturn, 1, 0, 0, 0), (116, .aload_n 0, 1, 0, 0, 0), (117, .lload_n 2, 1, 0, 0, 0), (118, .putfield 50, 3, 9, 20, 1609), (121, .lload_n 2, 1, 0, 0, 0), (122, .invokestatic 249, 3, 225, 1, 1896), (125, .ireturn, 1, 0, 0, 0)]]
set_option maxRecDepth 100000 in
noncomputable def mjT227 : List (List (Nat × mjX)) := [[(0, .aload_n 0, 1, 0, 0, 0), (1, .getfield 148, 3, 9, 5, 1594), (4, .ifCond .eq 4, 3, 0, 8, 0), (7, .return_, 1, 0, 0, 0), (8, .aload_n 0, 1, 0, 0, 0), (9, .getfield 71, 3, 9, 32, 1621), (12, .aload_n 0, 1, 0, 0, 0), (13, .getfield 253, 3, 9, 28, 1617), (16, .aaload, 1, 0, 0, 0), (17, .iconst 0, 1, 0, 0, 0), (18, .iload_n 1, 1, 0, 0, 0), (19, .iastore, 1, 0, 0, 0), (20, .aload_n 0, 1, 0, 0, 0), (21, .getfield 71, 3, 9, 32, 1621), (24, .aload_n 0, 1, 0, 0, 0), (25, .getfield 253, 3, 9, 28, 1617), (28, .aaload, 1, 0, 0, 0), (29, .iconst 1, 1, 0, 0, 0), (30, .iload_n 2, 1, 0, 0, 0), (31, .iastore, 1, 0, 0, 0)],
  [(32, .aload_n 0, 1, 0, 0, 0), (33, .dup, 1, 0, 0, 0), (34, .getfield 253, 3, 9, 28, 1617), (37, .iconst 1, 1, 0, 0, 0), (38, .iadd, 1, 0, 0, 0), (39, .putfield 253, 3, 9, 28, 1617), (42, .return_, 1, 0, 0, 0)]]
set_option maxRecDepth 100000 in
noncomputable def mjT228 : List (List (Nat × mjX)) := [[(0, .aload_n 0, 1, 0, 0, 0), (1, .invokevirtual 256, 3, 229, 0, 1911), (4, .aload_n 0, 1, 0, 0, 0), (5, .bipush 15, 2, 0, 0, 0), (7, .bipush 18, 2, 0, 0, 0), (9, .iconst 0, 1, 0, 0, 0), (10, .iconst 0, 1, 0, 0, 0), (11, .iconst 0, 1, 0, 0, 0), (12, .iconst 0, 1, 0, 0, 0), (13, .invokevirtual 198, 3, 210, 0, 1885), (16, .ifCond .eq 17, 3, 0, 33, 0), (19, .aload_n 0, 1, 0, 0, 0), (20, .invokevirtual 256, 3, 229, 0, 1911), (23, .aload_n 0, 1, 0, 0, 0), (24, .bipush 10, 2, 0, 0, 0), (26, .iconst 0, 1, 0, 0, 0), (27, .invokevirtual 259, 3, 227, 0, 1919), (30, .goto (-26), 3, 0, 4, 0)],
  [(33, .return_, 1, 0, 0, 0)]]
set_option maxRecDepth 100000 in
noncomputable def mjT229 : List (List (Nat × mjX)) := [[(0, .aload_n 0, 1, 0, 0, 0), (1, .invokevirtual 262, 3, 230, 0, 1915), (4, .aload_n 0, 1, 0, 0, 0), (5, .iconst 1, 1, 0, 0, 0), (6, .bipush 14, 2, 0, 0, 0), (8, .iconst 4, 1, 0, 0, 0), (9, .iconst 0, 1, 0, 0, 0), (10, .iconst 0, 1, 0, 0, 0), (11, .iconst 0, 1, 0, 0, 0), (12, .invokevirtual 198, 3, 210, 0, 1885), (15, .ifCond .eq 17, 3, 0, 32, 0), (18, .aload_n 0, 1, 0, 0, 0), (19, .invokevirtual 262, 3, 230, 0, 1915), (22, .aload_n 0, 1, 0, 0, 0), (23, .bipush 9, 2, 0, 0, 0), (25, .iconst 0, 1, 0, 0, 0), (26, .invokevirtual 259, 3, 227, 0, 1919), (29, .goto (-25), 3, 0, 4, 0)],
  [(32, .return_, 1, 0, 0, 0)]]
set_option maxRecDepth 100000 in
noncomputable def mjT230 : List (List (Nat × mjX)) := [[(0, .aload_n 0, 1, 0, 0, 0), (1, .getfield 148, 3, 9, 5, 1594), (4, .ifCond .eq 4, 3, 0, 8, 0), (7, .return_, 1, 0, 0, 0), (8, .aload_n 0, 1, 0, 0, 0), (9, .invokevirtual 154, 3, 201, 0, 1815), (12, .aload_n 0, 1, 0, 0, 0), (13, .bipush 14, 2, 0, 0, 0), (15, .bipush 15, 2, 0, 0, 0), (17, .bipush 20, 2, 0, 0, 0), (19, .iconst 0, 1, 0, 0, 0), (20, .iconst 0, 1, 0, 0, 0), (21, .iconst 0, 1, 0, 0, 0), (22, .invokevirtual 181, 3, 208, 0, 1831), (25, .ifCond .eq 37, 3, 0, 62, 0), (28, .aload_n 0, 1, 0, 0, 0), (29, .invokevirtual 208, 3, 213, 0, 1877)],
  [(32, .ifCond .ne 4, 3, 0, 36, 0), (35, .return_, 1, 0, 0, 0), (36, .aload_n 0, 1, 0, 0, 0), (37, .invokevirtual 185, 3, 209, 0, 1853), (40, .aload_n 0, 1, 0, 0, 0), (41, .invokevirtual 262, 3, 230, 0, 1915), (44, .aload_n 0, 1, 0, 0, 0), (45, .bipush 8, 2, 0, 0, 0), (47, .iconst 0, 1, 0, 0, 0), (48, .invokevirtual 259, 3, 227, 0, 1919), (51, .aload_n 0, 1, 0, 0, 0), (52, .dup, 1, 0, 0, 0), (53, .getfield 188, 3, 9, 8, 1597), (56, .iconst 1, 1, 0, 0, 0), (57, .isub, 1, 0, 0, 0), (58, .putfield 188, 3, 9, 8, 1597), (61, .return_, 1, 0, 0, 0), (62, .aload_n 0, 1, 0, 0, 0), (63, .aload_n 0, 1, 0, 0, 0)],
  [(64, .getfield 141, 3, 9, 4, 1593), (67, .invokevirtual 144, 3, 200, 0, 1819), (70, .bipush 91, 2, 0, 0, 0), (72, .if_icmp .ne 42, 3, 0, 114, 0), (75, .aload_n 0, 1, 0, 0, 0), (76, .invokevirtual 208, 3, 213, 0, 1877), (79, .ifCond .ne 4, 3, 0, 83, 0), (82, .return_, 1, 0, 0, 0), (83, .aload_n 0, 1, 0, 0, 0), (84, .dup, 1, 0, 0, 0), (85, .getfield 141, 3, 9, 4, 1593), (88, .iconst 1, 1, 0, 0, 0), (89, .iadd, 1, 0, 0, 0), (90, .putfield 141, 3, 9, 4, 1593), (93, .aload_n 0, 1, 0, 0, 0), (94, .invokevirtual 265, 3, 228, 0, 1907)],
  [(97, .aload_n 0, 1, 0, 0, 0), (98, .bipush 93, 2, 0, 0, 0), (100, .invokevirtual 215, 3, 211, 0, 1881), (103, .aload_n 0, 1, 0, 0, 0), (104, .dup, 1, 0, 0, 0), (105, .getfield 188, 3, 9, 8, 1597), (108, .iconst 1, 1, 0, 0, 0), (109, .isub, 1, 0, 0, 0), (110, .putfield 188, 3, 9, 8, 1597), (113, .return_, 1, 0, 0, 0), (114, .aload_n 0, 1, 0, 0, 0), (115, .invokevirtual 268, 3, 231, 0, 1923), (118, .aload_n 0, 1, 0, 0, 0), (119, .bipush 60, 2, 0, 0, 0), (121, .invokevirtual 271, 3, 212, 0, 1939), (124, .ifCond .eq 7, 3, 0, 131, 0), (127, .iconst 5, 1, 0, 0, 0)],
  [(128, .goto 32, 3, 0, 160, 0), (131, .aload_n 0, 1, 0, 0, 0), (132, .bipush 62, 2, 0, 0, 0), (134, .invokevirtual 271, 3, 212, 0, 1939), (137, .ifCond .eq 8, 3, 0, 145, 0), (140, .bipush 6, 2, 0, 0, 0), (142, .goto 18, 3, 0, 160, 0), (145, .aload_n 0, 1, 0, 0, 0), (146, .bipush 61, 2, 0, 0, 0), (148, .invokevirtual 271, 3, 212, 0, 1939), (151, .ifCond .eq 8, 3, 0, 159, 0), (154, .bipush 7, 2, 0, 0, 0), (156, .goto 4, 3, 0, 160, 0), (159, .iconst (-1), 1, 0, 0, 0)],
  [(160, .istore_n 1, 1, 0, 0, 0), (161, .iload_n 1, 1, 0, 0, 0), (162, .iconst (-1), 1, 0, 0, 0), (163, .if_icmp .ne 12, 3, 0, 175, 0), (166, .aload_n 0, 1, 0, 0, 0), (167, .iconst 1, 1, 0, 0, 0), (168, .aload_n 0, 1, 0, 0, 0), (169, .getfield 141, 3, 9, 4, 1593), (172, .invokevirtual 161, 3, 202, 0, 1845), (175, .aload_n 0, 1, 0, 0, 0), (176, .invokevirtual 268, 3, 231, 0, 1923), (179, .aload_n 0, 1, 0, 0, 0), (180, .iload_n 1, 1, 0, 0, 0), (181, .iconst 0, 1, 0, 0, 0), (182, .invokevirtual 259, 3, 227, 0, 1919), (185, .return_, 1, 0, 0, 0)]]
set_option maxRecDepth 100000 in
noncomputable def mjT231 : List (List (Nat × mjX)) := [[(0, .aload_n 0, 1, 0, 0, 0), (1, .invokevirtual 274, 3, 232, 0, 1927), (4, .aload_n 0, 1, 0, 0, 0), (5, .getfield 148, 3, 9, 5, 1594), (8, .ifCond .ne 50, 3, 0, 58, 0), (11, .aload_n 0, 1, 0, 0, 0), (12, .bipush 43, 2, 0, 0, 0), (14, .invokevirtual 271, 3, 212, 0, 1939), (17, .ifCond .eq 7, 3, 0, 24, 0), (20, .iconst 2, 1, 0, 0, 0), (21, .goto 17, 3, 0, 38, 0), (24, .aload_n 0, 1, 0, 0, 0), (25, .bipush 45, 2, 0, 0, 0), (27, .invokevirtual 271, 3, 212, 0, 1939), (30, .ifCond .eq 7, 3, 0, 37, 0)],
  [(33, .iconst 3, 1, 0, 0, 0), (34, .goto 4, 3, 0, 38, 0), (37, .iconst (-1), 1, 0, 0, 0), (38, .istore_n 1, 1, 0, 0, 0), (39, .iload_n 1, 1, 0, 0, 0), (40, .iconst (-1), 1, 0, 0, 0), (41, .if_icmp .ne 4, 3, 0, 45, 0), (44, .return_, 1, 0, 0, 0), (45, .aload_n 0, 1, 0, 0, 0), (46, .invokevirtual 274, 3, 232, 0, 1927), (49, .aload_n 0, 1, 0, 0, 0), (50, .iload_n 1, 1, 0, 0, 0), (51, .iconst 0, 1, 0, 0, 0), (52, .invokevirtual 259, 3, 227, 0, 1919), (55, .goto (-51), 3, 0, 4, 0), (58, .return_, 1, 0, 0, 0)]]
set_option maxRecDepth 100000 in
noncomputable def mjT232 : List (List (Nat × mjX)) := [[(0, .aload_n 0, 1, 0, 0, 0), (1, .invokevirtual 277, 3, 234, 0, 1931), (4, .aload_n 0, 1, 0, 0, 0), (5, .bipush 42, 2, 0, 0, 0), (7, .invokevirtual 271, 3, 212, 0, 1939), (10, .ifCond .eq 16, 3, 0, 26, 0), (13, .aload_n 0, 1, 0, 0, 0), (14, .invokevirtual 277, 3, 234, 0, 1931), (17, .aload_n 0, 1, 0, 0, 0), (18, .iconst 4, 1, 0, 0, 0), (19, .iconst 0, 1, 0, 0, 0), (20, .invokevirtual 259, 3, 227, 0, 1919), (23, .goto (-19), 3, 0, 4, 0), (26, .return_, 1, 0, 0, 0)]]
set_option maxRecDepth 100000 in
noncomputable def mjT233 : List (List (Nat × mjX)) := [[(0, .aload_n 0, 1, 0, 0, 0), (1, .iconst 1, 1, 0, 0, 0), (2, .bipush 7, 2, 0, 0, 0), (4, .iconst 5, 1, 0, 0, 0), (5, .iconst 0, 1, 0, 0, 0), (6, .iconst 0, 1, 0, 0, 0), (7, .iconst 0, 1, 0, 0, 0), (8, .invokevirtual 198, 3, 210, 0, 1885), (11, .ifCond .eq 5, 3, 0, 16, 0), (14, .iconst 0, 1, 0, 0, 0), (15, .ireturn, 1, 0, 0, 0), (16, .aload_n 0, 1, 0, 0, 0), (17, .bipush 8, 2, 0, 0, 0), (19, .bipush 21, 2, 0, 0, 0), (21, .bipush 18, 2, 0, 0, 0), (23, .bipush 20, 2, 0, 0, 0), (25, .bipush 19, 2, 0, 0, 0), (27, .iconst 0, 1, 0, 0, 0), (28, .invokevirtual 198, 3, 210, 0, 1885), (31, .ifCond .eq 5, 3, 0, 36, 0)],
  [(34, .iconst 1, 1, 0, 0, 0), (35, .ireturn, 1, 0, 0, 0), (36, .aload_n 0, 1, 0, 0, 0), (37, .bipush 15, 2, 0, 0, 0), (39, .bipush 12, 2, 0, 0, 0), (41, .iconst 4, 1, 0, 0, 0), (42, .bipush 19, 2, 0, 0, 0), (44, .iconst 0, 1, 0, 0, 0), (45, .iconst 0, 1, 0, 0, 0), (46, .invokevirtual 198, 3, 210, 0, 1885), (49, .ifCond .eq 5, 3, 0, 54, 0), (52, .iconst 2, 1, 0, 0, 0), (53, .ireturn, 1, 0, 0, 0), (54, .aload_n 0, 1, 0, 0, 0), (55, .bipush 14, 2, 0, 0, 0), (57, .iconst 5, 1, 0, 0, 0), (58, .bipush 23, 2, 0, 0, 0), (60, .bipush 19, 2, 0, 0, 0), (62, .iconst 0, 1, 0, 0, 0), (63, .iconst 0, 1, 0, 0, 0)],
  [(64, .invokevirtual 198, 3, 210, 0, 1885), (67, .ifCond .eq 5, 3, 0, 72, 0), (70, .iconst 3, 1, 0, 0, 0), (71, .ireturn, 1, 0, 0, 0), (72, .aload_n 0, 1, 0, 0, 0), (73, .bipush 15, 2, 0, 0, 0), (75, .bipush 12, 2, 0, 0, 0), (77, .iconst 4, 1, 0, 0, 0), (78, .bipush 14, 2, 0, 0, 0), (80, .iconst 0, 1, 0, 0, 0), (81, .iconst 0, 1, 0, 0, 0), (82, .invokevirtual 198, 3, 210, 0, 1885), (85, .ifCond .eq 5, 3, 0, 90, 0), (88, .iconst 4, 1, 0, 0, 0), (89, .ireturn, 1, 0, 0, 0), (90, .aload_n 0, 1, 0, 0, 0), (91, .bipush 14, 2, 0, 0, 0), (93, .iconst 5, 1, 0, 0, 0), (94, .bipush 23, 2, 0, 0, 0)],
  [(96, .bipush 14, 2, 0, 0, 0), (98, .iconst 0, 1, 0, 0, 0), (99, .iconst 0, 1, 0, 0, 0), (100, .invokevirtual 198, 3, 210, 0, 1885), (103, .ifCond .eq 5, 3, 0, 108, 0), (106, .iconst 5, 1, 0, 0, 0), (107, .ireturn, 1, 0, 0, 0), (108, .aload_n 0, 1, 0, 0, 0), (109, .bipush 23, 2, 0, 0, 0), (111, .iconst 5, 1, 0, 0, 0), (112, .iconst 5, 1, 0, 0, 0), (113, .bipush 11, 2, 0, 0, 0), (115, .iconst 0, 1, 0, 0, 0), (116, .iconst 0, 1, 0, 0, 0), (117, .invokevirtual 198, 3, 210, 0, 1885), (120, .ifCond .eq 6, 3, 0, 126, 0), (123, .bipush 6, 2, 0, 0, 0), (125, .ireturn, 1, 0, 0, 0), (126, .aload_n 0, 1, 0, 0, 0), (127, .bipush 8, 2, 0, 0, 0)],
  [(129, .iconst 5, 1, 0, 0, 0), (130, .bipush 12, 2, 0, 0, 0), (132, .iconst 4, 1, 0, 0, 0), (133, .iconst 0, 1, 0, 0, 0), (134, .iconst 0, 1, 0, 0, 0), (135, .invokevirtual 198, 3, 210, 0, 1885), (138, .ifCond .eq 6, 3, 0, 144, 0), (141, .bipush 7, 2, 0, 0, 0), (143, .ireturn, 1, 0, 0, 0), (144, .aload_n 0, 1, 0, 0, 0), (145, .bipush 12, 2, 0, 0, 0), (147, .iconst 5, 1, 0, 0, 0), (148, .bipush 6, 2, 0, 0, 0), (150, .bipush 20, 2, 0, 0, 0), (152, .iconst 0, 1, 0, 0, 0), (153, .iconst 0, 1, 0, 0, 0), (154, .invokevirtual 198, 3, 210, 0, 1885), (157, .ifCond .eq 6, 3, 0, 163, 0)],
  [(160, .bipush 8, 2, 0, 0, 0), (162, .ireturn, 1, 0, 0, 0), (163, .aload_n 0, 1, 0, 0, 0), (164, .bipush 19, 2, 0, 0, 0), (166, .bipush 8, 2, 0, 0, 0), (168, .iconst 1, 1, 0, 0, 0), (169, .bipush 18, 2, 0, 0, 0), (171, .iconst 5, 1, 0, 0, 0), (172, .iconst 4, 1, 0, 0, 0), (173, .invokevirtual 198, 3, 210, 0, 1885), (176, .ifCond .eq 8, 3, 0, 184, 0), (179, .bipush 9, 2, 0, 0, 0), (181, .goto 4, 3, 0, 185, 0), (184, .iconst (-1), 1, 0, 0, 0), (185, .ireturn, 1, 0, 0, 0)]]
set_option maxRecDepth 100000 in
noncomputable def mjT234 : List (List (Nat × mjX)) := [[(0, .aload_n 0, 1, 0, 0, 0), (1, .getfield 148, 3, 9, 5, 1594), (4, .ifCond .eq 4, 3, 0, 8, 0), (7, .return_, 1, 0, 0, 0), (8, .aload_n 0, 1, 0, 0, 0), (9, .invokevirtual 154, 3, 201, 0, 1815), (12, .aload_n 0, 1, 0, 0, 0), (13, .aload_n 0, 1, 0, 0, 0), (14, .getfield 141, 3, 9, 4, 1593), (17, .invokevirtual 144, 3, 200, 0, 1819), (20, .bipush 40, 2, 0, 0, 0), (22, .if_icmp .ne 42, 3, 0, 64, 0), (25, .aload_n 0, 1, 0, 0, 0), (26, .invokevirtual 208, 3, 213, 0, 1877), (29, .ifCond .ne 4, 3, 0, 33, 0)],
  [(32, .return_, 1, 0, 0, 0), (33, .aload_n 0, 1, 0, 0, 0), (34, .dup, 1, 0, 0, 0), (35, .getfield 141, 3, 9, 4, 1593), (38, .iconst 1, 1, 0, 0, 0), (39, .iadd, 1, 0, 0, 0), (40, .putfield 141, 3, 9, 4, 1593), (43, .aload_n 0, 1, 0, 0, 0), (44, .invokevirtual 268, 3, 231, 0, 1923), (47, .aload_n 0, 1, 0, 0, 0), (48, .bipush 41, 2, 0, 0, 0), (50, .invokevirtual 215, 3, 211, 0, 1881), (53, .aload_n 0, 1, 0, 0, 0), (54, .dup, 1, 0, 0, 0), (55, .getfield 188, 3, 9, 8, 1597), (58, .iconst 1, 1, 0, 0, 0), (59, .isub, 1, 0, 0, 0), (60, .putfield 188, 3, 9, 8, 1597), (63, .return_, 1, 0, 0, 0)],
  [(64, .aload_n 0, 1, 0, 0, 0), (65, .aload_n 0, 1, 0, 0, 0), (66, .getfield 141, 3, 9, 4, 1593), (69, .invokevirtual 144, 3, 200, 0, 1819), (72, .invokestatic 157, 3, 203, 1, 1861), (75, .ifCond .eq 17, 3, 0, 92, 0), (78, .aload_n 0, 1, 0, 0, 0), (79, .iconst 0, 1, 0, 0, 0), (80, .aload_n 0, 1, 0, 0, 0), (81, .iconst 0, 1, 0, 0, 0), (82, .sipush 999, 3, 0, 0, 0), (85, .invokevirtual 229, 3, 205, 0, 1857), (88, .invokevirtual 259, 3, 227, 0, 1919), (91, .return_, 1, 0, 0, 0), (92, .aload_n 0, 1, 0, 0, 0), (93, .invokevirtual 280, 3, 233, 0, 1935)],
  [(96, .istore_n 1, 1, 0, 0, 0), (97, .iload_n 1, 1, 0, 0, 0), (98, .iconst (-1), 1, 0, 0, 0), (99, .if_icmp .ne 12, 3, 0, 111, 0), (102, .aload_n 0, 1, 0, 0, 0), (103, .iconst 1, 1, 0, 0, 0), (104, .aload_n 0, 1, 0, 0, 0), (105, .getfield 141, 3, 9, 4, 1593), (108, .invokevirtual 161, 3, 202, 0, 1845), (111, .aload_n 0, 1, 0, 0, 0), (112, .iconst 1, 1, 0, 0, 0), (113, .iload_n 1, 1, 0, 0, 0), (114, .invokevirtual 259, 3, 227, 0, 1919), (117, .return_, 1, 0, 0, 0)]]
set_option maxRecDepth 100000 in
noncomputable def mjT235 : List (List (Nat × mjX)) := [[(0, .aload_n 0, 1, 0, 0, 0), (1, .iconst 2, 1, 0, 0, 0), (2, .bipush 15, 2, 0, 0, 0), (4, .bipush 20, 2, 0, 0, 0), (6, .bipush 8, 2, 0, 0, 0), (8, .iconst 0, 1, 0, 0, 0), (9, .iconst 0, 1, 0, 0, 0), (10, .invokevirtual 181, 3, 208, 0, 1831), (13, .ifCond .eq 7, 3, 0, 20, 0), (16, .iconst 0, 1, 0, 0, 0), (17, .goto 42, 3, 0, 59, 0), (20, .aload_n 0, 1, 0, 0, 0), (21, .bipush 14, 2, 0, 0, 0), (23, .iconst 5, 1, 0, 0, 0), (24, .bipush 23, 2, 0, 0, 0), (26, .iconst 0, 1, 0, 0, 0), (27, .iconst 0, 1, 0, 0, 0), (28, .iconst 0, 1, 0, 0, 0), (29, .invokevirtual 181, 3, 208, 0, 1831)],
  [(32, .ifCond .eq 7, 3, 0, 39, 0), (35, .iconst 1, 1, 0, 0, 0), (36, .goto 23, 3, 0, 59, 0), (39, .aload_n 0, 1, 0, 0, 0), (40, .bipush 15, 2, 0, 0, 0), (42, .bipush 12, 2, 0, 0, 0), (44, .iconst 4, 1, 0, 0, 0), (45, .iconst 0, 1, 0, 0, 0), (46, .iconst 0, 1, 0, 0, 0), (47, .iconst 0, 1, 0, 0, 0), (48, .invokevirtual 181, 3, 208, 0, 1831), (51, .ifCond .eq 7, 3, 0, 58, 0), (54, .iconst 2, 1, 0, 0, 0), (55, .goto 4, 3, 0, 59, 0), (58, .iconst (-1), 1, 0, 0, 0), (59, .istore_n 1, 1, 0, 0, 0), (60, .iload_n 1, 1, 0, 0, 0), (61, .iconst (-1), 1, 0, 0, 0), (62, .if_icmp .ne 15, 3, 0, 77, 0)],
  [(65, .aload_n 0, 1, 0, 0, 0), (66, .iconst 1, 1, 0, 0, 0), (67, .aload_n 0, 1, 0, 0, 0), (68, .getfield 141, 3, 9, 4, 1593), (71, .invokevirtual 161, 3, 202, 0, 1845), (74, .goto 21, 3, 0, 95, 0), (77, .aload_n 0, 1, 0, 0, 0), (78, .getfield 283, 3, 9, 26, 1615), (81, .bipush 10, 2, 0, 0, 0), (83, .if_icmp .ne 12, 3, 0, 95, 0), (86, .aload_n 0, 1, 0, 0, 0), (87, .iconst 3, 1, 0, 0, 0), (88, .aload_n 0, 1, 0, 0, 0), (89, .getfield 141, 3, 9, 4, 1593), (92, .invokevirtual 161, 3, 202, 0, 1845), (95, .aload_n 0, 1, 0, 0, 0)],
  [(96, .getfield 148, 3, 9, 5, 1594), (99, .ifCond .eq 4, 3, 0, 103, 0), (102, .return_, 1, 0, 0, 0), (103, .aload_n 0, 1, 0, 0, 0), (104, .invokevirtual 185, 3, 209, 0, 1853), (107, .aload_n 0, 1, 0, 0, 0), (108, .getfield 65, 3, 9, 30, 1619), (111, .aload_n 0, 1, 0, 0, 0), (112, .getfield 283, 3, 9, 26, 1615), (115, .aaload, 1, 0, 0, 0), (116, .iconst 0, 1, 0, 0, 0), (117, .iload_n 1, 1, 0, 0, 0), (118, .iastore, 1, 0, 0, 0), (119, .aload_n 0, 1, 0, 0, 0), (120, .getfield 65, 3, 9, 30, 1619), (123, .aload_n 0, 1, 0, 0, 0), (124, .getfield 283, 3, 9, 26, 1615), (127, .aaload, 1, 0, 0, 0)],
  [(128, .iconst 1, 1, 0, 0, 0), (129, .aload_n 0, 1, 0, 0, 0), (130, .getfield 253, 3, 9, 28, 1617), (133, .iastore, 1, 0, 0, 0), (134, .aload_n 0, 1, 0, 0, 0), (135, .invokevirtual 265, 3, 228, 0, 1907), (138, .aload_n 0, 1, 0, 0, 0), (139, .getfield 65, 3, 9, 30, 1619), (142, .aload_n 0, 1, 0, 0, 0), (143, .getfield 283, 3, 9, 26, 1615), (146, .aaload, 1, 0, 0, 0), (147, .iconst 2, 1, 0, 0, 0), (148, .aload_n 0, 1, 0, 0, 0), (149, .getfield 253, 3, 9, 28, 1617), (152, .iastore, 1, 0, 0, 0), (153, .aload_n 0, 1, 0, 0, 0), (154, .dup, 1, 0, 0, 0), (155, .getfield 283, 3, 9, 26, 1615), (158, .iconst 1, 1, 0, 0, 0), (159, .iadd, 1, 0, 0, 0)],
  [(160, .putfield 283, 3, 9, 26, 1615), (163, .aload_n 0, 1, 0, 0, 0), (164, .bipush 59, 2, 0, 0, 0), (166, .invokevirtual 215, 3, 211, 0, 1881), (169, .return_, 1, 0, 0, 0)]]
set_option maxRecDepth 100000 in
noncomputable def mjT236 : List (List (Nat × mjX)) := [[(0, .aload_n 0, 1, 0, 0, 0), (1, .iconst 0, 1, 0, 0, 0), (2, .putfield 132, 3, 9, 0, 1589), (5, .aload_n 0, 1, 0, 0, 0), (6, .iload_n 1, 1, 0, 0, 0), (7, .iconst 0, 1, 0, 0, 0), (8, .aload_n 0, 1, 0, 0, 0), (9, .getfield 135, 3, 9, 1, 1590), (12, .invokestatic 166, 3, 198, 1, 1804), (15, .ifCond .eq 10, 3, 0, 25, 0), (18, .iload_n 1, 1, 0, 0, 0), (19, .sipush 200, 3, 0, 0, 0), (22, .if_icmp .le 7, 3, 0, 29, 0), (25, .iconst 1, 1, 0, 0, 0), (26, .goto 4, 3, 0, 30, 0), (29, .iconst 0, 1, 0, 0, 0), (30, .iconst 1, 1, 0, 0, 0), (31, .iconst 1, 1, 0, 0, 0)],
  [(32, .invokevirtual 233, 3, 197, 0, 1807), (35, .ifCond .eq 5, 3, 0, 40, 0), (38, .iconst 0, 1, 0, 0, 0), (39, .ireturn, 1, 0, 0, 0), (40, .aload_n 0, 1, 0, 0, 0), (41, .iload_n 1, 1, 0, 0, 0), (42, .invokevirtual 237, 3, 214, 0, 1811), (45, .aload_n 0, 1, 0, 0, 0), (46, .iconst 0, 1, 0, 0, 0), (47, .putfield 283, 3, 9, 26, 1615), (50, .aload_n 0, 1, 0, 0, 0), (51, .iconst 0, 1, 0, 0, 0), (52, .putfield 253, 3, 9, 28, 1617), (55, .aload_n 0, 1, 0, 0, 0), (56, .getfield 148, 3, 9, 5, 1594), (59, .ifCond .ne 25, 3, 0, 84, 0), (62, .aload_n 0, 1, 0, 0, 0), (63, .getfield 141, 3, 9, 4, 1593)],
  [(66, .aload_n 0, 1, 0, 0, 0), (67, .getfield 138, 3, 9, 2, 1591), (70, .if_icmp .ge 14, 3, 0, 84, 0), (73, .aload_n 0, 1, 0, 0, 0), (74, .invokevirtual 286, 3, 235, 0, 1903), (77, .aload_n 0, 1, 0, 0, 0), (78, .invokevirtual 154, 3, 201, 0, 1815), (81, .goto (-26), 3, 0, 55, 0), (84, .aload_n 0, 1, 0, 0, 0), (85, .aload_n 0, 1, 0, 0, 0), (86, .getfield 151, 3, 9, 6, 1595), (89, .putfield 9, 3, 9, 3, 1592), (92, .aload_n 0, 1, 0, 0, 0), (93, .getfield 148, 3, 9, 5, 1594)],
  [(96, .ifCond .eq 11, 3, 0, 107, 0), (99, .aload_n 0, 1, 0, 0, 0), (100, .getfield 148, 3, 9, 5, 1594), (103, .bipush 10, 2, 0, 0, 0), (105, .isub, 1, 0, 0, 0), (106, .ireturn, 1, 0, 0, 0), (107, .aload_n 0, 1, 0, 0, 0), (108, .aload_n 0, 1, 0, 0, 0), (109, .getfield 283, 3, 9, 26, 1615), (112, .putfield 243, 3, 9, 25, 1614), (115, .aload_n 0, 1, 0, 0, 0), (116, .aload_n 0, 1, 0, 0, 0), (117, .getfield 253, 3, 9, 28, 1617), (120, .putfield 289, 3, 9, 27, 1616), (123, .iconst 0, 1, 0, 0, 0), (124, .istore_n 2, 1, 0, 0, 0), (125, .iload_n 2, 1, 0, 0, 0), (126, .aload_n 0, 1, 0, 0, 0), (127, .getfield 243, 3, 9, 25, 1614)],
  [(130, .if_icmp .ge 38, 3, 0, 168, 0), (133, .iconst 0, 1, 0, 0, 0), (134, .istore_n 3, 1, 0, 0, 0), (135, .iload_n 3, 1, 0, 0, 0), (136, .iconst 3, 1, 0, 0, 0), (137, .if_icmp .ge 25, 3, 0, 162, 0), (140, .aload_n 0, 1, 0, 0, 0), (141, .getfield 62, 3, 9, 29, 1618), (144, .iload_n 2, 1, 0, 0, 0), (145, .aaload, 1, 0, 0, 0), (146, .iload_n 3, 1, 0, 0, 0), (147, .aload_n 0, 1, 0, 0, 0), (148, .getfield 65, 3, 9, 30, 1619), (151, .iload_n 2, 1, 0, 0, 0), (152, .aaload, 1, 0, 0, 0), (153, .iload_n 3, 1, 0, 0, 0), (154, .iaload, 1, 0, 0, 0), (155, .iastore, 1, 0, 0, 0), (156, .iinc 3 1, 3, 0, 0, 0), (159, .goto (-24), 3, 0, 135, 0)],
  [(162, .iinc 2 1, 3, 0, 0, 0), (165, .goto (-40), 3, 0, 125, 0), (168, .iconst 0, 1, 0, 0, 0), (169, .istore_n 2, 1, 0, 0, 0), (170, .iload_n 2, 1, 0, 0, 0), (171, .aload_n 0, 1, 0, 0, 0), (172, .getfield 289, 3, 9, 27, 1616), (175, .if_icmp .ge 38, 3, 0, 213, 0), (178, .iconst 0, 1, 0, 0, 0), (179, .istore_n 3, 1, 0, 0, 0), (180, .iload_n 3, 1, 0, 0, 0), (181, .iconst 2, 1, 0, 0, 0), (182, .if_icmp .ge 25, 3, 0, 207, 0), (185, .aload_n 0, 1, 0, 0, 0), (186, .getfield 68, 3, 9, 31, 1620), (189, .iload_n 2, 1, 0, 0, 0), (190, .aaload, 1, 0, 0, 0), (191, .iload_n 3, 1, 0, 0, 0)],
  [(192, .aload_n 0, 1, 0, 0, 0), (193, .getfield 71, 3, 9, 32, 1621), (196, .iload_n 2, 1, 0, 0, 0), (197, .aaload, 1, 0, 0, 0), (198, .iload_n 3, 1, 0, 0, 0), (199, .iaload, 1, 0, 0, 0), (200, .iastore, 1, 0, 0, 0), (201, .iinc 3 1, 3, 0, 0, 0), (204, .goto (-24), 3, 0, 180, 0), (207, .iinc 2 1, 3, 0, 0, 0), (210, .goto (-40), 3, 0, 170, 0), (213, .aload_n 0, 1, 0, 0, 0), (214, .getfield 243, 3, 9, 25, 1614), (217, .ireturn, 1, 0, 0, 0)]]
set_option maxRecDepth 100000 in
noncomputable def mjT237 : List (List (Nat × mjX)) := [[(0, .iload_n 1, 1, 0, 0, 0), (1, .tableswitch 138 0 8 #[51, 58, 65, 80, 95, 102, 109, 116, 123], 51, 0, 0, 0)],
  [(52, .aload_n 0, 1, 0, 0, 0), (53, .getfield 104, 3, 9, 49, 1638), (56, .iconst 2, 1, 0, 0, 0), (57, .iaload, 1, 0, 0, 0), (58, .ireturn, 1, 0, 0, 0), (59, .aload_n 0, 1, 0, 0, 0), (60, .getfield 104, 3, 9, 49, 1638), (63, .iconst 3, 1, 0, 0, 0)],
  [(64, .iaload, 1, 0, 0, 0), (65, .ireturn, 1, 0, 0, 0), (66, .aload_n 0, 1, 0, 0, 0), (67, .getfield 36, 3, 9, 16, 1605), (70, .aload_n 0, 1, 0, 0, 0), (71, .getfield 104, 3, 9, 49, 1638), (74, .iconst 0, 1, 0, 0, 0), (75, .iaload, 1, 0, 0, 0), (76, .laload, 1, 0, 0, 0), (77, .invokestatic 249, 3, 225, 1, 1896), (80, .ireturn, 1, 0, 0, 0), (81, .aload_n 0, 1, 0, 0, 0), (82, .getfield 36, 3, 9, 16, 1605), (85, .aload_n 0, 1, 0, 0, 0), (86, .getfield 104, 3, 9, 49, 1638), (89, .iconst 1, 1, 0, 0, 0), (90, .iaload, 1, 0, 0, 0), (91, .laload, 1, 0, 0, 0), (92, .invokestatic 249, 3, 225, 1, 1896), (95, .ireturn, 1, 0, 0, 0)],
  [(96, .aload_n 0, 1, 0, 0, 0), (97, .getfield 104, 3, 9, 49, 1638), (100, .iconst 0, 1, 0, 0, 0), (101, .iaload, 1, 0, 0, 0), (102, .ireturn, 1, 0, 0, 0), (103, .aload_n 0, 1, 0, 0, 0), (104, .getfield 104, 3, 9, 49, 1638), (107, .iconst 1, 1, 0, 0, 0), (108, .iaload, 1, 0, 0, 0), (109, .ireturn, 1, 0, 0, 0), (110, .aload_n 0, 1, 0, 0, 0), (111, .getfield 104, 3, 9, 49, 1638), (114, .iconst 5, 1, 0, 0, 0), (115, .iaload, 1, 0, 0, 0), (116, .ireturn, 1, 0, 0, 0), (117, .aload_n 0, 1, 0, 0, 0), (118, .getfield 104, 3, 9, 49, 1638), (121, .iconst 4, 1, 0, 0, 0), (122, .iaload, 1, 0, 0, 0), (123, .ireturn, 1, 0, 0, 0), (124, .aload_n 0, 1, 0, 0, 0), (125, .getfield 45, 3, 9, 19, 1608)],
  [(128, .aload_n 0, 1, 0, 0, 0), (129, .getfield 104, 3, 9, 49, 1638), (132, .iconst 5, 1, 0, 0, 0), (133, .iaload, 1, 0, 0, 0), (134, .laload, 1, 0, 0, 0), (135, .invokestatic 249, 3, 225, 1, 1896), (138, .ireturn, 1, 0, 0, 0), (139, .aload_n 0, 1, 0, 0, 0), (140, .getfield 36, 3, 9, 16, 1605), (143, .aload_n 0, 1, 0, 0, 0), (144, .getfield 104, 3, 9, 49, 1638), (147, .iconst 0, 1, 0, 0, 0), (148, .iaload, 1, 0, 0, 0), (149, .laload, 1, 0, 0, 0), (150, .aload_n 0, 1, 0, 0, 0), (151, .getfield 36, 3, 9, 16, 1605), (154, .aload_n 0, 1, 0, 0, 0), (155, .getfield 104, 3, 9, 49, 1638), (158, .iconst 1, 1, 0, 0, 0), (159, .iaload, 1, 0, 0, 0)],
  [(160, .laload, 1, 0, 0, 0), (161, .land, 1, 0, 0, 0), (162, .invokestatic 249, 3, 225, 1, 1896), (165, .ireturn, 1, 0, 0, 0)]]
set_option maxRecDepth 100000 in
noncomputable def mjT238 : List (List (Nat × mjX)) := [[(0, .iload_n 0, 1, 0, 0, 0), (1, .tableswitch 96 2 9 #[47, 51, 55, 59, 70, 81, 96, 92], 47, 0, 0, 0)],
  [(48, .iload_n 1, 1, 0, 0, 0), (49, .iload_n 2, 1, 0, 0, 0), (50, .iadd, 1, 0, 0, 0), (51, .ireturn, 1, 0, 0, 0), (52, .iload_n 1, 1, 0, 0, 0), (53, .iload_n 2, 1, 0, 0, 0), (54, .isub, 1, 0, 0, 0), (55, .ireturn, 1, 0, 0, 0), (56, .iload_n 1, 1, 0, 0, 0), (57, .iload_n 2, 1, 0, 0, 0), (58, .imul, 1, 0, 0, 0), (59, .ireturn, 1, 0, 0, 0), (60, .iload_n 1, 1, 0, 0, 0), (61, .iload_n 2, 1, 0, 0, 0), (62, .if_icmp .ge 7, 3, 0, 69, 0)],
  [(65, .iconst 1, 1, 0, 0, 0), (66, .goto 4, 3, 0, 70, 0), (69, .iconst 0, 1, 0, 0, 0), (70, .ireturn, 1, 0, 0, 0), (71, .iload_n 1, 1, 0, 0, 0), (72, .iload_n 2, 1, 0, 0, 0), (73, .if_icmp .le 7, 3, 0, 80, 0), (76, .iconst 1, 1, 0, 0, 0), (77, .goto 4, 3, 0, 81, 0), (80, .iconst 0, 1, 0, 0, 0), (81, .ireturn, 1, 0, 0, 0), (82, .iload_n 1, 1, 0, 0, 0), (83, .iload_n 2, 1, 0, 0, 0), (84, .if_icmp .ne 7, 3, 0, 91, 0), (87, .iconst 1, 1, 0, 0, 0), (88, .goto 4, 3, 0, 92, 0), (91, .iconst 0, 1, 0, 0, 0), (92, .ireturn, 1, 0, 0, 0), (93, .iload_n 1, 1, 0, 0, 0), (94, .iload_n 2, 1, 0, 0, 0), (95, .imul, 1, 0, 0, 0)],
  [(96, .ireturn, 1, 0, 0, 0), (97, .iload_n 1, 1, 0, 0, 0), (98, .iload_n 2, 1, 0, 0, 0), (99, .iadd, 1, 0, 0, 0), (100, .ifCond .le 7, 3, 0, 107, 0), (103, .iconst 1, 1, 0, 0, 0), (104, .goto 4, 3, 0, 108, 0), (107, .iconst 0, 1, 0, 0, 0), (108, .ireturn, 1, 0, 0, 0)]]
set_option maxRecDepth 100000 in
noncomputable def mjT239 : List (List (Nat × mjX)) := [[(0, .iconst 0, 1, 0, 0, 0), (1, .istore_n 3, 1, 0, 0, 0), (2, .iload_n 1, 1, 0, 0, 0), (3, .istore 4, 2, 0, 0, 0), (5, .iload 4, 2, 0, 0, 0), (7, .iload_n 2, 1, 0, 0, 0), (8, .if_icmp .ge 126, 3, 0, 134, 0), (11, .aload_n 0, 1, 0, 0, 0), (12, .getfield 68, 3, 9, 31, 1620), (15, .iload 4, 2, 0, 0, 0), (17, .aaload, 1, 0, 0, 0), (18, .iconst 0, 1, 0, 0, 0), (19, .iaload, 1, 0, 0, 0), (20, .istore 5, 2, 0, 0, 0), (22, .iload 5, 2, 0, 0, 0), (24, .iconst 2, 1, 0, 0, 0), (25, .if_icmp .ge 45, 3, 0, 70, 0), (28, .aload_n 0, 1, 0, 0, 0), (29, .getfield 74, 3, 9, 33, 1622)],
  [(32, .iload_n 3, 1, 0, 0, 0), (33, .iload 5, 2, 0, 0, 0), (35, .ifCond .ne 15, 3, 0, 50, 0), (38, .aload_n 0, 1, 0, 0, 0), (39, .getfield 68, 3, 9, 31, 1620), (42, .iload 4, 2, 0, 0, 0), (44, .aaload, 1, 0, 0, 0), (45, .iconst 1, 1, 0, 0, 0), (46, .iaload, 1, 0, 0, 0), (47, .goto 16, 3, 0, 63, 0), (50, .aload_n 0, 1, 0, 0, 0), (51, .aload_n 0, 1, 0, 0, 0), (52, .getfield 68, 3, 9, 31, 1620), (55, .iload 4, 2, 0, 0, 0), (57, .aaload, 1, 0, 0, 0), (58, .iconst 1, 1, 0, 0, 0), (59, .iaload, 1, 0, 0, 0), (60, .invokevirtual 292, 3, 237, 0, 2079), (63, .iastore, 1, 0, 0, 0)],
  [(64, .iinc 3 1, 3, 0, 0, 0), (67, .goto 61, 3, 0, 128, 0), (70, .iload 5, 2, 0, 0, 0), (72, .bipush 8, 2, 0, 0, 0), (74, .if_icmp .ne 24, 3, 0, 98, 0), (77, .aload_n 0, 1, 0, 0, 0), (78, .getfield 74, 3, 9, 33, 1622), (81, .iload_n 3, 1, 0, 0, 0), (82, .iconst 1, 1, 0, 0, 0), (83, .isub, 1, 0, 0, 0), (84, .iconst 1, 1, 0, 0, 0), (85, .aload_n 0, 1, 0, 0, 0), (86, .getfield 74, 3, 9, 33, 1622), (89, .iload_n 3, 1, 0, 0, 0), (90, .iconst 1, 1, 0, 0, 0), (91, .isub, 1, 0, 0, 0), (92, .iaload, 1, 0, 0, 0), (93, .isub, 1, 0, 0, 0), (94, .iastore, 1, 0, 0, 0), (95, .goto 33, 3, 0, 128, 0)],
  [(98, .iinc 3 (-1), 3, 0, 0, 0), (101, .aload_n 0, 1, 0, 0, 0), (102, .getfield 74, 3, 9, 33, 1622), (105, .iload_n 3, 1, 0, 0, 0), (106, .iconst 1, 1, 0, 0, 0), (107, .isub, 1, 0, 0, 0), (108, .iload 5, 2, 0, 0, 0), (110, .aload_n 0, 1, 0, 0, 0), (111, .getfield 74, 3, 9, 33, 1622), (114, .iload_n 3, 1, 0, 0, 0), (115, .iconst 1, 1, 0, 0, 0), (116, .isub, 1, 0, 0, 0), (117, .iaload, 1, 0, 0, 0), (118, .aload_n 0, 1, 0, 0, 0), (119, .getfield 74, 3, 9, 33, 1622), (122, .iload_n 3, 1, 0, 0, 0), (123, .iaload, 1, 0, 0, 0), (124, .invokestatic 295, 3, 238, 1, 2083), (127, .iastore, 1, 0, 0, 0)],
  [(128, .iinc 4 1, 3, 0, 0, 0), (131, .goto (-126), 3, 0, 5, 0), (134, .aload_n 0, 1, 0, 0, 0), (135, .getfield 74, 3, 9, 33, 1622), (138, .iconst 0, 1, 0, 0, 0), (139, .iaload, 1, 0, 0, 0), (140, .iconst 1, 1, 0, 0, 0), (141, .if_icmp .ne 7, 3, 0, 148, 0), (144, .iconst 1, 1, 0, 0, 0), (145, .goto 4, 3, 0, 149, 0), (148, .iconst 0, 1, 0, 0, 0), (149, .ireturn, 1, 0, 0, 0)]]
set_option maxRecDepth 100000 in
noncomputable def mjT240 : List (List (Nat × mjX)) := [[(0, .aload_n 0, 1, 0, 0, 0), (1, .getfield 104, 3, 9, 49, 1638), (4, .iconst 0, 1, 0, 0, 0), (5, .iload_n 1, 1, 0, 0, 0), (6, .iastore, 1, 0, 0, 0), (7, .aload_n 0, 1, 0, 0, 0), (8, .getfield 104, 3, 9, 49, 1638), (11, .iconst 1, 1, 0, 0, 0), (12, .iload_n 2, 1, 0, 0, 0), (13, .iastore, 1, 0, 0, 0), (14, .aload_n 0, 1, 0, 0, 0), (15, .getfield 104, 3, 9, 49, 1638), (18, .iconst 2, 1, 0, 0, 0), (19, .iload_n 3, 1, 0, 0, 0), (20, .iastore, 1, 0, 0, 0), (21, .aload_n 0, 1, 0, 0, 0), (22, .getfield 104, 3, 9, 49, 1638), (25, .iconst 3, 1, 0, 0, 0), (26, .iload 4, 2, 0, 0, 0), (28, .iastore, 1, 0, 0, 0), (29, .aload_n 0, 1, 0, 0, 0), (30, .getfield 104, 3, 9, 49, 1638)],
  [(33, .iconst 4, 1, 0, 0, 0), (34, .iload 5, 2, 0, 0, 0), (36, .iastore, 1, 0, 0, 0), (37, .aload_n 0, 1, 0, 0, 0), (38, .getfield 104, 3, 9, 49, 1638), (41, .iconst 5, 1, 0, 0, 0), (42, .iload 6, 2, 0, 0, 0), (44, .iastore, 1, 0, 0, 0), (45, .iconst 0, 1, 0, 0, 0), (46, .istore 7, 2, 0, 0, 0), (48, .iload 7, 2, 0, 0, 0), (50, .aload_n 0, 1, 0, 0, 0), (51, .getfield 243, 3, 9, 25, 1614), (54, .if_icmp .ge 44, 3, 0, 98, 0), (57, .aload_n 0, 1, 0, 0, 0), (58, .aload_n 0, 1, 0, 0, 0), (59, .getfield 62, 3, 9, 29, 1618), (62, .iload 7, 2, 0, 0, 0)],
  [(64, .aaload, 1, 0, 0, 0), (65, .iconst 1, 1, 0, 0, 0), (66, .iaload, 1, 0, 0, 0), (67, .aload_n 0, 1, 0, 0, 0), (68, .getfield 62, 3, 9, 29, 1618), (71, .iload 7, 2, 0, 0, 0), (73, .aaload, 1, 0, 0, 0), (74, .iconst 2, 1, 0, 0, 0), (75, .iaload, 1, 0, 0, 0), (76, .invokevirtual 299, 3, 239, 0, 2075), (79, .ifCond .eq 13, 3, 0, 92, 0), (82, .aload_n 0, 1, 0, 0, 0), (83, .getfield 62, 3, 9, 29, 1618), (86, .iload 7, 2, 0, 0, 0), (88, .aaload, 1, 0, 0, 0), (89, .iconst 0, 1, 0, 0, 0), (90, .iaload, 1, 0, 0, 0), (91, .ireturn, 1, 0, 0, 0), (92, .iinc 7 1, 3, 0, 0, 0), (95, .goto (-47), 3, 0, 48, 0)],
  [(98, .iconst 0, 1, 0, 0, 0), (99, .ireturn, 1, 0, 0, 0)]]
set_option maxRecDepth 100000 in
noncomputable def mjT241 : List (List (Nat × mjX)) := [[(0, .aload_n 0, 1, 0, 0, 0), (1, .iconst 0, 1, 0, 0, 0), (2, .putfield 132, 3, 9, 0, 1589), (5, .aload_n 0, 1, 0, 0, 0), (6, .getfield 9, 3, 9, 3, 1592), (9, .ireturn, 1, 0, 0, 0)]]
set_option maxRecDepth 100000 in
noncomputable def mjT242 : List (List (Nat × mjX)) := [[(0, .aload_n 0, 1, 0, 0, 0), (1, .iconst 0, 1, 0, 0, 0), (2, .putfield 132, 3, 9, 0, 1589), (5, .aload_n 0, 1, 0, 0, 0), (6, .iload_n 1, 1, 0, 0, 0), (7, .iconst 0, 1, 0, 0, 0), (8, .iconst 5, 1, 0, 0, 0), (9, .invokestatic 166, 3, 198, 1, 1804), (12, .ifCond .ne 7, 3, 0, 19, 0), (15, .iconst 1, 1, 0, 0, 0), (16, .goto 4, 3, 0, 20, 0), (19, .iconst 0, 1, 0, 0, 0), (20, .iconst 1, 1, 0, 0, 0), (21, .iconst 1, 1, 0, 0, 0), (22, .invokevirtual 233, 3, 197, 0, 1807), (25, .ifCond .eq 5, 3, 0, 30, 0), (28, .iconst 0, 1, 0, 0, 0), (29, .ireturn, 1, 0, 0, 0), (30, .aload_n 0, 1, 0, 0, 0), (31, .getfield 23, 3, 9, 12, 1601)],
  [(34, .iload_n 1, 1, 0, 0, 0), (35, .iaload, 1, 0, 0, 0), (36, .ireturn, 1, 0, 0, 0)]]
set_option maxRecDepth 100000 in
noncomputable def mjT243 : List (List (Nat × mjX)) := [[(0, .iload_n 1, 1, 0, 0, 0), (1, .iconst 0, 1, 0, 0, 0), (2, .aload_n 0, 1, 0, 0, 0), (3, .getfield 23, 3, 9, 12, 1601), (6, .iconst 1, 1, 0, 0, 0), (7, .iaload, 1, 0, 0, 0), (8, .iconst 1, 1, 0, 0, 0), (9, .isub, 1, 0, 0, 0), (10, .invokestatic 166, 3, 198, 1, 1804), (13, .ireturn, 1, 0, 0, 0)]]
set_option maxRecDepth 100000 in
noncomputable def mjT244 : List (List (Nat × mjX)) := [[(0, .iload_n 0, 1, 0, 0, 0), (1, .iconst 0, 1, 0, 0, 0), (2, .bipush 51, 2, 0, 0, 0), (4, .invokestatic 166, 3, 198, 1, 1804), (7, .ireturn, 1, 0, 0, 0)]]
set_option maxRecDepth 100000 in
noncomputable def mjT245 : List (List (Nat × mjX)) := [[(0, .iload_n 1, 1, 0, 0, 0), (1, .iconst 0, 1, 0, 0, 0), (2, .iconst 1, 1, 0, 0, 0), (3, .aload_n 0, 1, 0, 0, 0), (4, .getfield 23, 3, 9, 12, 1601), (7, .iconst 1, 1, 0, 0, 0), (8, .iaload, 1, 0, 0, 0), (9, .ishl, 1, 0, 0, 0), (10, .iconst 1, 1, 0, 0, 0), (11, .isub, 1, 0, 0, 0), (12, .invokestatic 166, 3, 198, 1, 1804), (15, .ireturn, 1, 0, 0, 0)]]
set_option maxRecDepth 100000 in
noncomputable def mjT246 : List (List (Nat × mjX)) := [[(0, .aload_n 0, 1, 0, 0, 0), (1, .iconst 0, 1, 0, 0, 0), (2, .putfield 132, 3, 9, 0, 1589), (5, .aload_n 0, 1, 0, 0, 0), (6, .aload_n 0, 1, 0, 0, 0), (7, .iload_n 1, 1, 0, 0, 0), (8, .invokevirtual 303, 3, 243, 0, 1955), (11, .ifCond .ne 7, 3, 0, 18, 0), (14, .iconst 1, 1, 0, 0, 0), (15, .goto 4, 3, 0, 19, 0), (18, .iconst 0, 1, 0, 0, 0), (19, .iconst 1, 1, 0, 0, 0), (20, .iconst 0, 1, 0, 0, 0), (21, .invokevirtual 233, 3, 197, 0, 1807), (24, .ifCond .eq 5, 3, 0, 29, 0), (27, .lconst 0, 1, 0, 0, 0), (28, .lreturn, 1, 0, 0, 0), (29, .aload_n 0, 1, 0, 0, 0), (30, .getfield 36, 3, 9, 16, 1605)],
  [(33, .iload_n 1, 1, 0, 0, 0), (34, .laload, 1, 0, 0, 0), (35, .lreturn, 1, 0, 0, 0)]]
set_option maxRecDepth 100000 in
noncomputable def mjT247 : List (List (Nat × mjX)) := [[(0, .aload_n 0, 1, 0, 0, 0), (1, .iconst 0, 1, 0, 0, 0), (2, .putfield 132, 3, 9, 0, 1589), (5, .aload_n 0, 1, 0, 0, 0), (6, .iload_n 1, 1, 0, 0, 0), (7, .iconst 0, 1, 0, 0, 0), (8, .aload_n 0, 1, 0, 0, 0), (9, .getfield 23, 3, 9, 12, 1601), (12, .iconst 2, 1, 0, 0, 0), (13, .iaload, 1, 0, 0, 0), (14, .iconst 1, 1, 0, 0, 0), (15, .isub, 1, 0, 0, 0), (16, .invokestatic 166, 3, 198, 1, 1804), (19, .ifCond .ne 7, 3, 0, 26, 0), (22, .iconst 1, 1, 0, 0, 0), (23, .goto 4, 3, 0, 27, 0), (26, .iconst 0, 1, 0, 0, 0), (27, .iconst 1, 1, 0, 0, 0), (28, .iconst 0, 1, 0, 0, 0), (29, .invokevirtual 233, 3, 197, 0, 1807)],
  [(32, .ifCond .eq 5, 3, 0, 37, 0), (35, .lconst 0, 1, 0, 0, 0), (36, .lreturn, 1, 0, 0, 0), (37, .aload_n 0, 1, 0, 0, 0), (38, .getfield 42, 3, 9, 18, 1607), (41, .iload_n 1, 1, 0, 0, 0), (42, .laload, 1, 0, 0, 0), (43, .lreturn, 1, 0, 0, 0)]]
set_option maxRecDepth 100000 in
noncomputable def mjT248 : List (List (Nat × mjX)) := [[(0, .aload_n 0, 1, 0, 0, 0), (1, .iconst 0, 1, 0, 0, 0), (2, .putfield 132, 3, 9, 0, 1589), (5, .aload_n 0, 1, 0, 0, 0), (6, .iload_n 1, 1, 0, 0, 0), (7, .invokestatic 306, 3, 244, 1, 1967), (10, .ifCond .ne 7, 3, 0, 17, 0), (13, .iconst 1, 1, 0, 0, 0), (14, .goto 4, 3, 0, 18, 0), (17, .iconst 0, 1, 0, 0, 0), (18, .iconst 1, 1, 0, 0, 0), (19, .iconst 1, 1, 0, 0, 0), (20, .invokevirtual 233, 3, 197, 0, 1807), (23, .ifCond .eq 5, 3, 0, 28, 0), (26, .lconst 0, 1, 0, 0, 0), (27, .lreturn, 1, 0, 0, 0), (28, .aload_n 0, 1, 0, 0, 0), (29, .getfield 45, 3, 9, 19, 1608)],
  [(32, .iload_n 1, 1, 0, 0, 0), (33, .laload, 1, 0, 0, 0), (34, .lreturn, 1, 0, 0, 0)]]
set_option maxRecDepth 100000 in
noncomputable def mjT249 : List (List (Nat × mjX)) := [[(0, .aload_n 0, 1, 0, 0, 0), (1, .iconst 0, 1, 0, 0, 0), (2, .putfield 132, 3, 9, 0, 1589), (5, .aload_n 0, 1, 0, 0, 0), (6, .aload_n 0, 1, 0, 0, 0), (7, .iload_n 1, 1, 0, 0, 0), (8, .invokevirtual 303, 3, 243, 0, 1955), (11, .ifCond .eq 11, 3, 0, 22, 0), (14, .aload_n 0, 1, 0, 0, 0), (15, .iload_n 2, 1, 0, 0, 0), (16, .invokevirtual 303, 3, 243, 0, 1955), (19, .ifCond .ne 7, 3, 0, 26, 0), (22, .iconst 1, 1, 0, 0, 0), (23, .goto 4, 3, 0, 27, 0), (26, .iconst 0, 1, 0, 0, 0), (27, .iconst 1, 1, 0, 0, 0), (28, .iconst 0, 1, 0, 0, 0), (29, .invokevirtual 233, 3, 197, 0, 1807)],
  [(32, .ifCond .eq 5, 3, 0, 37, 0), (35, .iconst 0, 1, 0, 0, 0), (36, .ireturn, 1, 0, 0, 0), (37, .aload_n 0, 1, 0, 0, 0), (38, .getfield 36, 3, 9, 16, 1605), (41, .iload_n 1, 1, 0, 0, 0), (42, .laload, 1, 0, 0, 0), (43, .aload_n 0, 1, 0, 0, 0), (44, .getfield 36, 3, 9, 16, 1605), (47, .iload_n 2, 1, 0, 0, 0), (48, .laload, 1, 0, 0, 0), (49, .land, 1, 0, 0, 0), (50, .lstore_n 3, 1, 0, 0, 0), (51, .aload_n 0, 1, 0, 0, 0), (52, .getfield 36, 3, 9, 16, 1605), (55, .iload_n 1, 1, 0, 0, 0), (56, .laload, 1, 0, 0, 0), (57, .aload_n 0, 1, 0, 0, 0), (58, .getfield 36, 3, 9, 16, 1605), (61, .iload_n 2, 1, 0, 0, 0), (62, .laload, 1, 0, 0, 0), (63, .lcmp, 1, 0, 0, 0)],
  [(64, .ifCond .ne 7, 3, 0, 71, 0), (67, .iconst 0, 1, 0, 0, 0), (68, .goto 44, 3, 0, 112, 0), (71, .lload_n 3, 1, 0, 0, 0), (72, .aload_n 0, 1, 0, 0, 0), (73, .getfield 36, 3, 9, 16, 1605), (76, .iload_n 1, 1, 0, 0, 0), (77, .laload, 1, 0, 0, 0), (78, .lcmp, 1, 0, 0, 0), (79, .ifCond .ne 7, 3, 0, 86, 0), (82, .iconst 1, 1, 0, 0, 0), (83, .goto 29, 3, 0, 112, 0), (86, .lload_n 3, 1, 0, 0, 0), (87, .aload_n 0, 1, 0, 0, 0), (88, .getfield 36, 3, 9, 16, 1605), (91, .iload_n 2, 1, 0, 0, 0), (92, .laload, 1, 0, 0, 0), (93, .lcmp, 1, 0, 0, 0), (94, .ifCond .ne 7, 3, 0, 101, 0)],
  [(97, .iconst 2, 1, 0, 0, 0), (98, .goto 14, 3, 0, 112, 0), (101, .lload_n 3, 1, 0, 0, 0), (102, .lconst 0, 1, 0, 0, 0), (103, .lcmp, 1, 0, 0, 0), (104, .ifCond .ne 7, 3, 0, 111, 0), (107, .iconst 3, 1, 0, 0, 0), (108, .goto 4, 3, 0, 112, 0), (111, .iconst 4, 1, 0, 0, 0), (112, .ireturn, 1, 0, 0, 0)]]
set_option maxRecDepth 100000 in
noncomputable def mjT250 : List (List (Nat × mjX)) := [[(0, .aload_n 0, 1, 0, 0, 0), (1, .getfield 36, 3, 9, 16, 1605), (4, .iload_n 1, 1, 0, 0, 0), (5, .laload, 1, 0, 0, 0), (6, .aload_n 0, 1, 0, 0, 0), (7, .getfield 36, 3, 9, 16, 1605), (10, .iload_n 2, 1, 0, 0, 0), (11, .laload, 1, 0, 0, 0), (12, .land, 1, 0, 0, 0), (13, .aload_n 0, 1, 0, 0, 0), (14, .getfield 45, 3, 9, 19, 1608), (17, .iload_n 3, 1, 0, 0, 0), (18, .laload, 1, 0, 0, 0), (19, .land, 1, 0, 0, 0), (20, .lconst 0, 1, 0, 0, 0), (21, .lcmp, 1, 0, 0, 0), (22, .ifCond .ne 7, 3, 0, 29, 0), (25, .iconst 1, 1, 0, 0, 0), (26, .goto 4, 3, 0, 30, 0), (29, .iconst 0, 1, 0, 0, 0), (30, .ireturn, 1, 0, 0, 0)]]
set_option maxRecDepth 100000 in
noncomputable def mjT251 : List (List (Nat × mjX)) := [[(0, .aload_n 0, 1, 0, 0, 0), (1, .iconst 0, 1, 0, 0, 0), (2, .putfield 132, 3, 9, 0, 1589), (5, .aload_n 0, 1, 0, 0, 0), (6, .aload_n 0, 1, 0, 0, 0), (7, .iload_n 1, 1, 0, 0, 0), (8, .invokevirtual 303, 3, 243, 0, 1955), (11, .ifCond .eq 11, 3, 0, 22, 0), (14, .aload_n 0, 1, 0, 0, 0), (15, .iload_n 2, 1, 0, 0, 0), (16, .invokevirtual 303, 3, 243, 0, 1955), (19, .ifCond .ne 7, 3, 0, 26, 0), (22, .iconst 1, 1, 0, 0, 0), (23, .goto 4, 3, 0, 27, 0), (26, .iconst 0, 1, 0, 0, 0), (27, .iconst 1, 1, 0, 0, 0), (28, .iconst 0, 1, 0, 0, 0), (29, .invokevirtual 233, 3, 197, 0, 1807)],
  [(32, .ifCond .ne 24, 3, 0, 56, 0), (35, .aload_n 0, 1, 0, 0, 0), (36, .iload_n 3, 1, 0, 0, 0), (37, .invokestatic 306, 3, 244, 1, 1967), (40, .ifCond .ne 7, 3, 0, 47, 0), (43, .iconst 1, 1, 0, 0, 0), (44, .goto 4, 3, 0, 48, 0), (47, .iconst 0, 1, 0, 0, 0), (48, .iconst 2, 1, 0, 0, 0), (49, .iconst 1, 1, 0, 0, 0), (50, .invokevirtual 233, 3, 197, 0, 1807), (53, .ifCond .eq 5, 3, 0, 58, 0), (56, .iconst 0, 1, 0, 0, 0), (57, .ireturn, 1, 0, 0, 0), (58, .aload_n 0, 1, 0, 0, 0), (59, .iload_n 1, 1, 0, 0, 0), (60, .iload_n 2, 1, 0, 0, 0), (61, .iload_n 3, 1, 0, 0, 0), (62, .invokevirtual 309, 3, 250, 0, 1978)],
  [(65, .ireturn, 1, 0, 0, 0)]]
set_option maxRecDepth 100000 in
noncomputable def mjT252 : List (List (Nat × mjX)) := [[(0, .aload_n 0, 1, 0, 0, 0), (1, .getfield 36, 3, 9, 16, 1605), (4, .iload_n 1, 1, 0, 0, 0), (5, .laload, 1, 0, 0, 0), (6, .aload_n 0, 1, 0, 0, 0), (7, .getfield 23, 3, 9, 12, 1601), (10, .iconst 4, 1, 0, 0, 0), (11, .iaload, 1, 0, 0, 0), (12, .lshr, 1, 0, 0, 0), (13, .lconst 1, 1, 0, 0, 0), (14, .land, 1, 0, 0, 0), (15, .lconst 1, 1, 0, 0, 0), (16, .lcmp, 1, 0, 0, 0), (17, .ifCond .ne 7, 3, 0, 24, 0), (20, .iconst 1, 1, 0, 0, 0), (21, .goto 4, 3, 0, 25, 0), (24, .iconst 0, 1, 0, 0, 0), (25, .ireturn, 1, 0, 0, 0)]]
set_option maxRecDepth 100000 in
noncomputable def mjT253 : List (List (Nat × mjX)) := [[(0, .iconst 0, 1, 0, 0, 0), (1, .istore_n 1, 1, 0, 0, 0), (2, .iconst 0, 1, 0, 0, 0), (3, .istore_n 2, 1, 0, 0, 0), (4, .iload_n 2, 1, 0, 0, 0), (5, .aload_n 0, 1, 0, 0, 0), (6, .getfield 23, 3, 9, 12, 1601), (9, .iconst 1, 1, 0, 0, 0), (10, .iaload, 1, 0, 0, 0), (11, .if_icmp .ge 27, 3, 0, 38, 0), (14, .iload_n 1, 1, 0, 0, 0), (15, .aload_n 0, 1, 0, 0, 0), (16, .iload_n 2, 1, 0, 0, 0), (17, .invokevirtual 312, 3, 252, 0, 1990), (20, .ifCond .eq 9, 3, 0, 29, 0), (23, .iconst 1, 1, 0, 0, 0), (24, .iload_n 2, 1, 0, 0, 0), (25, .ishl, 1, 0, 0, 0), (26, .goto 4, 3, 0, 30, 0), (29, .iconst 0, 1, 0, 0, 0), (30, .ior, 1, 0, 0, 0), (31, .istore_n 1, 1, 0, 0, 0)],
  [(32, .iinc 2 1, 3, 0, 0, 0), (35, .goto (-31), 3, 0, 4, 0), (38, .iload_n 1, 1, 0, 0, 0), (39, .ireturn, 1, 0, 0, 0)]]
set_option maxRecDepth 100000 in
noncomputable def mjT254 : List (List (Nat × mjX)) := [[(0, .aload_n 0, 1, 0, 0, 0), (1, .iconst 0, 1, 0, 0, 0), (2, .putfield 132, 3, 9, 0, 1589), (5, .aload_n 0, 1, 0, 0, 0), (6, .invokevirtual 315, 3, 253, 0, 1986), (9, .ireturn, 1, 0, 0, 0)]]
set_option maxRecDepth 100000 in
noncomputable def mjT255 : List (List (Nat × mjX)) := [[(0, .aload_n 0, 1, 0, 0, 0), (1, .iconst 0, 1, 0, 0, 0), (2, .putfield 132, 3, 9, 0, 1589), (5, .iconst 0, 1, 0, 0, 0), (6, .istore_n 1, 1, 0, 0, 0), (7, .iconst 0, 1, 0, 0, 0), (8, .istore_n 2, 1, 0, 0, 0), (9, .iload_n 2, 1, 0, 0, 0), (10, .aload_n 0, 1, 0, 0, 0), (11, .getfield 23, 3, 9, 12, 1601), (14, .iconst 1, 1, 0, 0, 0), (15, .iaload, 1, 0, 0, 0), (16, .if_icmp .ge 38, 3, 0, 54, 0), (19, .iload_n 1, 1, 0, 0, 0), (20, .aload_n 0, 1, 0, 0, 0), (21, .getfield 36, 3, 9, 16, 1605), (24, .iload_n 2, 1, 0, 0, 0), (25, .laload, 1, 0, 0, 0), (26, .aload_n 0, 1, 0, 0, 0), (27, .getfield 45, 3, 9, 19, 1608), (30, .bipush 51, 2, 0, 0, 0)],
  [(32, .laload, 1, 0, 0, 0), (33, .land, 1, 0, 0, 0), (34, .lconst 0, 1, 0, 0, 0), (35, .lcmp, 1, 0, 0, 0), (36, .ifCond .eq 9, 3, 0, 45, 0), (39, .iconst 1, 1, 0, 0, 0), (40, .iload_n 2, 1, 0, 0, 0), (41, .ishl, 1, 0, 0, 0), (42, .goto 4, 3, 0, 46, 0), (45, .iconst 0, 1, 0, 0, 0), (46, .ior, 1, 0, 0, 0), (47, .istore_n 1, 1, 0, 0, 0), (48, .iinc 2 1, 3, 0, 0, 0), (51, .goto (-42), 3, 0, 9, 0), (54, .iload_n 1, 1, 0, 0, 0), (55, .ireturn, 1, 0, 0, 0)]]
set_option maxRecDepth 100000 in
noncomputable def mjT256 : List (List (Nat × mjX)) := [[(0, .aload_n 0, 1, 0, 0, 0), (1, .iconst 0, 1, 0, 0, 0), (2, .putfield 132, 3, 9, 0, 1589), (5, .lload_n 1, 1, 0, 0, 0), (6, .lstore_n 3, 1, 0, 0, 0), (7, .iconst 0, 1, 0, 0, 0), (8, .istore 5, 2, 0, 0, 0), (10, .aload_n 0, 1, 0, 0, 0), (11, .getfield 23, 3, 9, 12, 1601), (14, .iconst 1, 1, 0, 0, 0), (15, .iaload, 1, 0, 0, 0), (16, .iconst 1, 1, 0, 0, 0), (17, .isub, 1, 0, 0, 0), (18, .istore 6, 2, 0, 0, 0), (20, .iload 6, 2, 0, 0, 0), (22, .ifCond .lt 58, 3, 0, 80, 0), (25, .aload_n 0, 1, 0, 0, 0), (26, .getfield 77, 3, 9, 34, 1623), (29, .iload 6, 2, 0, 0, 0), (31, .lload_n 3, 1, 0, 0, 0)],
  [(32, .ldc2_w 318, 3, 15, 0, 2002), (35, .land, 1, 0, 0, 0), (36, .l2i, 1, 0, 0, 0), (37, .iastore, 1, 0, 0, 0), (38, .lload_n 3, 1, 0, 0, 0), (39, .iconst 4, 1, 0, 0, 0), (40, .lshr, 1, 0, 0, 0), (41, .lstore_n 3, 1, 0, 0, 0), (42, .iload 5, 2, 0, 0, 0), (44, .aload_n 0, 1, 0, 0, 0), (45, .aload_n 0, 1, 0, 0, 0), (46, .getfield 77, 3, 9, 34, 1623), (49, .iload 6, 2, 0, 0, 0), (51, .iaload, 1, 0, 0, 0), (52, .invokevirtual 303, 3, 243, 0, 1955), (55, .ifCond .eq 15, 3, 0, 70, 0), (58, .iconst 1, 1, 0, 0, 0), (59, .aload_n 0, 1, 0, 0, 0), (60, .getfield 77, 3, 9, 34, 1623), (63, .iload 6, 2, 0, 0, 0)],
  [(65, .iaload, 1, 0, 0, 0), (66, .ishl, 1, 0, 0, 0), (67, .goto 4, 3, 0, 71, 0), (70, .iconst 0, 1, 0, 0, 0), (71, .ior, 1, 0, 0, 0), (72, .istore 5, 2, 0, 0, 0), (74, .iinc 6 (-1), 3, 0, 0, 0), (77, .goto (-57), 3, 0, 20, 0), (80, .lload_n 1, 1, 0, 0, 0), (81, .lconst 0, 1, 0, 0, 0), (82, .lcmp, 1, 0, 0, 0), (83, .ifCond .lt 24, 3, 0, 107, 0), (86, .lload_n 3, 1, 0, 0, 0), (87, .lconst 0, 1, 0, 0, 0), (88, .lcmp, 1, 0, 0, 0), (89, .ifCond .ne 18, 3, 0, 107, 0), (92, .iload 5, 2, 0, 0, 0), (94, .iconst 1, 1, 0, 0, 0), (95, .aload_n 0, 1, 0, 0, 0)],
  [(96, .getfield 23, 3, 9, 12, 1601), (99, .iconst 1, 1, 0, 0, 0), (100, .iaload, 1, 0, 0, 0), (101, .ishl, 1, 0, 0, 0), (102, .iconst 1, 1, 0, 0, 0), (103, .isub, 1, 0, 0, 0), (104, .if_icmp .eq 5, 3, 0, 109, 0), (107, .iconst 0, 1, 0, 0, 0), (108, .ireturn, 1, 0, 0, 0), (109, .iconst 0, 1, 0, 0, 0), (110, .istore 6, 2, 0, 0, 0), (112, .iload 6, 2, 0, 0, 0), (114, .aload_n 0, 1, 0, 0, 0), (115, .getfield 23, 3, 9, 12, 1601), (118, .iconst 1, 1, 0, 0, 0), (119, .iaload, 1, 0, 0, 0), (120, .if_icmp .ge 23, 3, 0, 143, 0), (123, .aload_n 0, 1, 0, 0, 0), (124, .getfield 54, 3, 9, 21, 1610), (127, .iload 6, 2, 0, 0, 0)],
  [(129, .aload_n 0, 1, 0, 0, 0), (130, .getfield 77, 3, 9, 34, 1623), (133, .iload 6, 2, 0, 0, 0), (135, .iaload, 1, 0, 0, 0), (136, .iastore, 1, 0, 0, 0), (137, .iinc 6 1, 3, 0, 0, 0), (140, .goto (-28), 3, 0, 112, 0), (143, .iconst 1, 1, 0, 0, 0), (144, .ireturn, 1, 0, 0, 0)]]
set_option maxRecDepth 100000 in
noncomputable def mjT257 : List (List (Nat × mjX)) := [[(0, .aload_n 0, 1, 0, 0, 0), (1, .iconst 0, 1, 0, 0, 0), (2, .putfield 132, 3, 9, 0, 1589), (5, .iload_n 1, 1, 0, 0, 0), (6, .iconst 0, 1, 0, 0, 0), (7, .aload_n 0, 1, 0, 0, 0), (8, .getfield 23, 3, 9, 12, 1601), (11, .iconst 1, 1, 0, 0, 0), (12, .iaload, 1, 0, 0, 0), (13, .iconst 1, 1, 0, 0, 0), (14, .isub, 1, 0, 0, 0), (15, .invokestatic 166, 3, 198, 1, 1804), (18, .ifCond .eq 12, 3, 0, 30, 0), (21, .aload_n 0, 1, 0, 0, 0), (22, .getfield 54, 3, 9, 21, 1610), (25, .iload_n 1, 1, 0, 0, 0), (26, .iaload, 1, 0, 0, 0), (27, .goto 4, 3, 0, 31, 0), (30, .iconst (-1), 1, 0, 0, 0), (31, .ireturn, 1, 0, 0, 0)]]
set_option maxRecDepth 100000 in
noncomputable def mjT258 : List (List (Nat × mjX)) := [[(0, .aload_n 0, 1, 0, 0, 0), (1, .iconst 0, 1, 0, 0, 0), (2, .putfield 132, 3, 9, 0, 1589), (5, .aload_n 0, 1, 0, 0, 0), (6, .iload_n 1, 1, 0, 0, 0), (7, .iconst 0, 1, 0, 0, 0), (8, .iconst 4, 1, 0, 0, 0), (9, .invokestatic 166, 3, 198, 1, 1804), (12, .ifCond .ne 7, 3, 0, 19, 0), (15, .iconst 1, 1, 0, 0, 0), (16, .goto 4, 3, 0, 20, 0), (19, .iconst 0, 1, 0, 0, 0), (20, .iconst 1, 1, 0, 0, 0), (21, .iconst 1, 1, 0, 0, 0), (22, .invokevirtual 233, 3, 197, 0, 1807), (25, .ifCond .eq 5, 3, 0, 30, 0), (28, .iconst 0, 1, 0, 0, 0), (29, .ireturn, 1, 0, 0, 0), (30, .aload_n 0, 1, 0, 0, 0), (31, .getfield 23, 3, 9, 12, 1601)],
  [(34, .iconst 5, 1, 0, 0, 0), (35, .iaload, 1, 0, 0, 0), (36, .istore_n 2, 1, 0, 0, 0), (37, .aload_n 0, 1, 0, 0, 0), (38, .getfield 23, 3, 9, 12, 1601), (41, .iconst 5, 1, 0, 0, 0), (42, .iload_n 1, 1, 0, 0, 0), (43, .iastore, 1, 0, 0, 0), (44, .iload_n 2, 1, 0, 0, 0), (45, .ireturn, 1, 0, 0, 0)]]
set_option maxRecDepth 100000 in
noncomputable def mjT259 : List (List (Nat × mjX)) := [[(0, .aload_n 0, 1, 0, 0, 0), (1, .iconst 0, 1, 0, 0, 0), (2, .putfield 132, 3, 9, 0, 1589), (5, .aload_n 0, 1, 0, 0, 0), (6, .iload_n 1, 1, 0, 0, 0), (7, .iconst 0, 1, 0, 0, 0), (8, .iconst 1, 1, 0, 0, 0), (9, .aload_n 0, 1, 0, 0, 0), (10, .getfield 23, 3, 9, 12, 1601), (13, .iconst 0, 1, 0, 0, 0), (14, .iaload, 1, 0, 0, 0), (15, .ishl, 1, 0, 0, 0), (16, .iconst 1, 1, 0, 0, 0), (17, .isub, 1, 0, 0, 0), (18, .invokestatic 166, 3, 198, 1, 1804), (21, .ifCond .ne 7, 3, 0, 28, 0), (24, .iconst 1, 1, 0, 0, 0), (25, .goto 4, 3, 0, 29, 0), (28, .iconst 0, 1, 0, 0, 0), (29, .iconst 1, 1, 0, 0, 0), (30, .iconst 1, 1, 0, 0, 0), (31, .invokevirtual 233, 3, 197, 0, 1807)],
  [(34, .ifCond .eq 5, 3, 0, 39, 0), (37, .iconst 0, 1, 0, 0, 0), (38, .ireturn, 1, 0, 0, 0), (39, .aload_n 0, 1, 0, 0, 0), (40, .getfield 23, 3, 9, 12, 1601), (43, .iconst 4, 1, 0, 0, 0), (44, .iaload, 1, 0, 0, 0), (45, .istore_n 2, 1, 0, 0, 0), (46, .aload_n 0, 1, 0, 0, 0), (47, .getfield 23, 3, 9, 12, 1601), (50, .iconst 4, 1, 0, 0, 0), (51, .iload_n 1, 1, 0, 0, 0), (52, .iastore, 1, 0, 0, 0), (53, .iload_n 2, 1, 0, 0, 0), (54, .ireturn, 1, 0, 0, 0)]]
set_option maxRecDepth 100000 in
noncomputable def mjT260 : List (List (Nat × mjX)) := [[(0, .aload_n 0, 1, 0, 0, 0), (1, .iload_n 1, 1, 0, 0, 0), (2, .putfield 320, 3, 9, 48, 1637), (5, .aload_n 0, 1, 0, 0, 0), (6, .iconst 0, 1, 0, 0, 0), (7, .putfield 323, 3, 9, 44, 1633), (10, .aload_n 0, 1, 0, 0, 0), (11, .iconst 0, 1, 0, 0, 0), (12, .putfield 326, 3, 9, 45, 1634), (15, .aload_n 0, 1, 0, 0, 0), (16, .iconst 0, 1, 0, 0, 0), (17, .putfield 329, 3, 9, 46, 1635), (20, .aload_n 0, 1, 0, 0, 0), (21, .iconst 0, 1, 0, 0, 0), (22, .putfield 332, 3, 9, 47, 1636), (25, .iconst 0, 1, 0, 0, 0), (26, .istore_n 2, 1, 0, 0, 0), (27, .iload_n 2, 1, 0, 0, 0), (28, .bipush 17, 2, 0, 0, 0), (30, .if_icmp .ge 44, 3, 0, 74, 0)],
  [(33, .aload_n 0, 1, 0, 0, 0), (34, .getfield 83, 3, 9, 36, 1625), (37, .iload_n 2, 1, 0, 0, 0), (38, .iconst (-1), 1, 0, 0, 0), (39, .iastore, 1, 0, 0, 0), (40, .aload_n 0, 1, 0, 0, 0), (41, .getfield 86, 3, 9, 37, 1626), (44, .iload_n 2, 1, 0, 0, 0), (45, .iconst (-1), 1, 0, 0, 0), (46, .iastore, 1, 0, 0, 0), (47, .aload_n 0, 1, 0, 0, 0), (48, .getfield 89, 3, 9, 38, 1627), (51, .iload_n 2, 1, 0, 0, 0), (52, .iconst (-1), 1, 0, 0, 0), (53, .iastore, 1, 0, 0, 0), (54, .aload_n 0, 1, 0, 0, 0), (55, .getfield 92, 3, 9, 39, 1628), (58, .iload_n 2, 1, 0, 0, 0), (59, .iconst 0, 1, 0, 0, 0), (60, .iastore, 1, 0, 0, 0), (61, .aload_n 0, 1, 0, 0, 0), (62, .getfield 95, 3, 9, 40, 1629)],
  [(65, .iload_n 2, 1, 0, 0, 0), (66, .iconst 0, 1, 0, 0, 0), (67, .iastore, 1, 0, 0, 0), (68, .iinc 2 1, 3, 0, 0, 0), (71, .goto (-44), 3, 0, 27, 0), (74, .return_, 1, 0, 0, 0)]]
set_option maxRecDepth 100000 in
noncomputable def mjT261 : List (List (Nat × mjX)) := [[(0, .aload_n 0, 1, 0, 0, 0), (1, .getfield 36, 3, 9, 16, 1605), (4, .iload_n 1, 1, 0, 0, 0), (5, .laload, 1, 0, 0, 0), (6, .aload_n 0, 1, 0, 0, 0), (7, .getfield 45, 3, 9, 19, 1608), (10, .iload_n 2, 1, 0, 0, 0), (11, .laload, 1, 0, 0, 0), (12, .land, 1, 0, 0, 0), (13, .lconst 0, 1, 0, 0, 0), (14, .lcmp, 1, 0, 0, 0), (15, .ifCond .ne 7, 3, 0, 22, 0), (18, .iconst 1, 1, 0, 0, 0), (19, .goto 4, 3, 0, 23, 0), (22, .iconst 0, 1, 0, 0, 0), (23, .ireturn, 1, 0, 0, 0)]]
set_option maxRecDepth 100000 in
noncomputable def mjT262 : List (List (Nat × mjX)) := [[(0, .aload_n 0, 1, 0, 0, 0), (1, .dup, 1, 0, 0, 0), (2, .getfield 323, 3, 9, 44, 1633), (5, .iconst 1, 1, 0, 0, 0), (6, .isub, 1, 0, 0, 0), (7, .putfield 323, 3, 9, 44, 1633), (10, .iload_n 1, 1, 0, 0, 0), (11, .istore_n 2, 1, 0, 0, 0), (12, .iload_n 2, 1, 0, 0, 0), (13, .aload_n 0, 1, 0, 0, 0), (14, .getfield 323, 3, 9, 44, 1633), (17, .if_icmp .ge 23, 3, 0, 40, 0), (20, .aload_n 0, 1, 0, 0, 0), (21, .getfield 80, 3, 9, 35, 1624), (24, .iload_n 2, 1, 0, 0, 0), (25, .aload_n 0, 1, 0, 0, 0), (26, .getfield 80, 3, 9, 35, 1624), (29, .iload_n 2, 1, 0, 0, 0), (30, .iconst 1, 1, 0, 0, 0), (31, .iadd, 1, 0, 0, 0)],
  [(32, .iaload, 1, 0, 0, 0), (33, .iastore, 1, 0, 0, 0), (34, .iinc 2 1, 3, 0, 0, 0), (37, .goto (-25), 3, 0, 12, 0), (40, .return_, 1, 0, 0, 0)]]
set_option maxRecDepth 100000 in
noncomputable def mjT263 : List (List (Nat × mjX)) := [[(0, .iconst 0, 1, 0, 0, 0), (1, .istore_n 2, 1, 0, 0, 0), (2, .iload_n 2, 1, 0, 0, 0), (3, .aload_n 0, 1, 0, 0, 0), (4, .getfield 323, 3, 9, 44, 1633), (7, .if_icmp .ge 50, 3, 0, 57, 0), (10, .aload_n 0, 1, 0, 0, 0), (11, .getfield 80, 3, 9, 35, 1624), (14, .iload_n 2, 1, 0, 0, 0), (15, .iaload, 1, 0, 0, 0), (16, .istore_n 3, 1, 0, 0, 0), (17, .aload_n 0, 1, 0, 0, 0), (18, .iload_n 3, 1, 0, 0, 0), (19, .iload_n 1, 1, 0, 0, 0), (20, .invokevirtual 335, 3, 261, 0, 2055), (23, .ifCond .eq 28, 3, 0, 51, 0), (26, .aload_n 0, 1, 0, 0, 0), (27, .getfield 86, 3, 9, 37, 1626), (30, .iload_n 3, 1, 0, 0, 0), (31, .iload_n 1, 1, 0, 0, 0)],
  [(32, .iastore, 1, 0, 0, 0), (33, .aload_n 0, 1, 0, 0, 0), (34, .dup, 1, 0, 0, 0), (35, .getfield 329, 3, 9, 46, 1635), (38, .iconst 1, 1, 0, 0, 0), (39, .iadd, 1, 0, 0, 0), (40, .putfield 329, 3, 9, 46, 1635), (43, .aload_n 0, 1, 0, 0, 0), (44, .iload_n 2, 1, 0, 0, 0), (45, .invokevirtual 338, 3, 262, 0, 2059), (48, .goto 6, 3, 0, 54, 0), (51, .iinc 2 1, 3, 0, 0, 0), (54, .goto (-52), 3, 0, 2, 0), (57, .return_, 1, 0, 0, 0)]]
set_option maxRecDepth 100000 in
noncomputable def mjT264 : List (List (Nat × mjX)) := [[(0, .aload_n 0, 1, 0, 0, 0), (1, .getfield 320, 3, 9, 48, 1637), (4, .tableswitch 65 0 3 #[32, 34, 36, 38], 32, 0, 0, 0)],
  [(36, .iconst 0, 1, 0, 0, 0), (37, .ireturn, 1, 0, 0, 0), (38, .iconst 1, 1, 0, 0, 0), (39, .ireturn, 1, 0, 0, 0), (40, .iconst 2, 1, 0, 0, 0), (41, .ireturn, 1, 0, 0, 0), (42, .aload_n 0, 1, 0, 0, 0), (43, .getfield 36, 3, 9, 16, 1605), (46, .iload_n 1, 1, 0, 0, 0), (47, .laload, 1, 0, 0, 0), (48, .invokestatic 249, 3, 225, 1, 1896), (51, .aload_n 0, 1, 0, 0, 0), (52, .getfield 36, 3, 9, 16, 1605), (55, .iload_n 2, 1, 0, 0, 0), (56, .laload, 1, 0, 0, 0), (57, .invokestatic 249, 3, 225, 1, 1896), (60, .if_icmp .ge 7, 3, 0, 67, 0), (63, .iconst 2, 1, 0, 0, 0)],
  [(64, .goto 4, 3, 0, 68, 0), (67, .iconst 1, 1, 0, 0, 0), (68, .ireturn, 1, 0, 0, 0), (69, .aload_n 0, 1, 0, 0, 0), (70, .iload_n 1, 1, 0, 0, 0), (71, .iload_n 2, 1, 0, 0, 0), (72, .aload_n 0, 1, 0, 0, 0), (73, .getfield 92, 3, 9, 39, 1628), (76, .iload_n 1, 1, 0, 0, 0), (77, .iaload, 1, 0, 0, 0), (78, .aload_n 0, 1, 0, 0, 0), (79, .getfield 95, 3, 9, 40, 1629), (82, .iload_n 1, 1, 0, 0, 0), (83, .iaload, 1, 0, 0, 0), (84, .aload_n 0, 1, 0, 0, 0), (85, .getfield 323, 3, 9, 44, 1633), (88, .iload_n 3, 1, 0, 0, 0), (89, .invokevirtual 341, 3, 240, 0, 2071), (92, .ireturn, 1, 0, 0, 0)]]
set_option maxRecDepth 100000 in
noncomputable def mjT265 : List (List (Nat × mjX)) := [[(0, .aload_n 0, 1, 0, 0, 0), (1, .getfield 86, 3, 9, 37, 1626), (4, .iload_n 1, 1, 0, 0, 0), (5, .iload_n 3, 1, 0, 0, 0), (6, .iastore, 1, 0, 0, 0), (7, .aload_n 0, 1, 0, 0, 0), (8, .getfield 89, 3, 9, 38, 1627), (11, .iload_n 1, 1, 0, 0, 0), (12, .iload_n 2, 1, 0, 0, 0), (13, .iastore, 1, 0, 0, 0), (14, .aload_n 0, 1, 0, 0, 0), (15, .dup, 1, 0, 0, 0), (16, .getfield 326, 3, 9, 45, 1634), (19, .iconst 1, 1, 0, 0, 0), (20, .iadd, 1, 0, 0, 0), (21, .putfield 326, 3, 9, 45, 1634), (24, .return_, 1, 0, 0, 0)]]
set_option maxRecDepth 100000 in
noncomputable def mjT266 : List (List (Nat × mjX)) := [[(0, .aload_n 0, 1, 0, 0, 0), (1, .getfield 83, 3, 9, 36, 1625), (4, .iload_n 1, 1, 0, 0, 0), (5, .iload_n 2, 1, 0, 0, 0), (6, .iastore, 1, 0, 0, 0), (7, .aload_n 0, 1, 0, 0, 0), (8, .iload_n 1, 1, 0, 0, 0), (9, .iload_n 2, 1, 0, 0, 0), (10, .invokevirtual 335, 3, 261, 0, 2055), (13, .ifCond .eq 21, 3, 0, 34, 0), (16, .aload_n 0, 1, 0, 0, 0), (17, .getfield 86, 3, 9, 37, 1626), (20, .iload_n 1, 1, 0, 0, 0), (21, .iload_n 2, 1, 0, 0, 0), (22, .iastore, 1, 0, 0, 0), (23, .aload_n 0, 1, 0, 0, 0), (24, .dup, 1, 0, 0, 0), (25, .getfield 329, 3, 9, 46, 1635), (28, .iconst 1, 1, 0, 0, 0), (29, .iadd, 1, 0, 0, 0), (30, .putfield 329, 3, 9, 46, 1635)],
  [(33, .return_, 1, 0, 0, 0), (34, .iconst 0, 1, 0, 0, 0), (35, .istore_n 3, 1, 0, 0, 0), (36, .iload_n 3, 1, 0, 0, 0), (37, .aload_n 0, 1, 0, 0, 0), (38, .getfield 323, 3, 9, 44, 1633), (41, .if_icmp .ge 90, 3, 0, 131, 0), (44, .aload_n 0, 1, 0, 0, 0), (45, .getfield 86, 3, 9, 37, 1626), (48, .iload_n 1, 1, 0, 0, 0), (49, .iaload, 1, 0, 0, 0), (50, .iconst (-1), 1, 0, 0, 0), (51, .if_icmp .ne 80, 3, 0, 131, 0), (54, .aload_n 0, 1, 0, 0, 0), (55, .getfield 80, 3, 9, 35, 1624), (58, .iload_n 3, 1, 0, 0, 0), (59, .iaload, 1, 0, 0, 0), (60, .istore 4, 2, 0, 0, 0), (62, .aload_n 0, 1, 0, 0, 0), (63, .iload 4, 2, 0, 0, 0)],
  [(65, .iload_n 1, 1, 0, 0, 0), (66, .iload_n 2, 1, 0, 0, 0), (67, .invokevirtual 309, 3, 250, 0, 1978), (70, .ifCond .ne 9, 3, 0, 79, 0), (73, .iinc 3 1, 3, 0, 0, 0), (76, .goto (-40), 3, 0, 36, 0), (79, .aload_n 0, 1, 0, 0, 0), (80, .iload 4, 2, 0, 0, 0), (82, .iload_n 1, 1, 0, 0, 0), (83, .iload_n 2, 1, 0, 0, 0), (84, .invokevirtual 344, 3, 264, 0, 2067), (87, .istore 5, 2, 0, 0, 0), (89, .iload 5, 2, 0, 0, 0), (91, .iconst 2, 1, 0, 0, 0), (92, .if_icmp .eq 11, 3, 0, 103, 0), (95, .aload_n 0, 1, 0, 0, 0)],
  [(96, .iload_n 1, 1, 0, 0, 0), (97, .iload 4, 2, 0, 0, 0), (99, .iload_n 2, 1, 0, 0, 0), (100, .invokevirtual 347, 3, 265, 0, 2086), (103, .iload 5, 2, 0, 0, 0), (105, .iconst 1, 1, 0, 0, 0), (106, .if_icmp .ne 9, 3, 0, 115, 0), (109, .iinc 3 1, 3, 0, 0, 0), (112, .goto (-76), 3, 0, 36, 0), (115, .aload_n 0, 1, 0, 0, 0), (116, .iload 4, 2, 0, 0, 0), (118, .iload_n 1, 1, 0, 0, 0), (119, .iload_n 2, 1, 0, 0, 0), (120, .invokevirtual 347, 3, 265, 0, 2086), (123, .aload_n 0, 1, 0, 0, 0), (124, .iload_n 3, 1, 0, 0, 0), (125, .invokevirtual 338, 3, 262, 0, 2059)],
  [(128, .goto (-92), 3, 0, 36, 0), (131, .aload_n 0, 1, 0, 0, 0), (132, .getfield 86, 3, 9, 37, 1626), (135, .iload_n 1, 1, 0, 0, 0), (136, .iaload, 1, 0, 0, 0), (137, .iconst (-1), 1, 0, 0, 0), (138, .if_icmp .eq 4, 3, 0, 142, 0), (141, .return_, 1, 0, 0, 0), (142, .aload_n 0, 1, 0, 0, 0), (143, .getfield 80, 3, 9, 35, 1624), (146, .aload_n 0, 1, 0, 0, 0), (147, .getfield 323, 3, 9, 44, 1633), (150, .iload_n 1, 1, 0, 0, 0), (151, .iastore, 1, 0, 0, 0), (152, .aload_n 0, 1, 0, 0, 0), (153, .dup, 1, 0, 0, 0), (154, .getfield 323, 3, 9, 44, 1633), (157, .iconst 1, 1, 0, 0, 0), (158, .iadd, 1, 0, 0, 0), (159, .putfield 323, 3, 9, 44, 1633)],
  [(162, .return_, 1, 0, 0, 0)]]
set_option maxRecDepth 100000 in
noncomputable def mjT267 : List (List (Nat × mjX)) := [[(0, .iconst 0, 1, 0, 0, 0), (1, .istore_n 1, 1, 0, 0, 0), (2, .iload_n 1, 1, 0, 0, 0), (3, .aload_n 0, 1, 0, 0, 0), (4, .getfield 323, 3, 9, 44, 1633), (7, .if_icmp .ge 57, 3, 0, 64, 0), (10, .aload_n 0, 1, 0, 0, 0), (11, .getfield 80, 3, 9, 35, 1624), (14, .iload_n 1, 1, 0, 0, 0), (15, .iaload, 1, 0, 0, 0), (16, .istore_n 2, 1, 0, 0, 0), (17, .aload_n 0, 1, 0, 0, 0), (18, .getfield 92, 3, 9, 39, 1628), (21, .iload_n 2, 1, 0, 0, 0), (22, .dup2, 1, 0, 0, 0), (23, .iaload, 1, 0, 0, 0), (24, .iconst 1, 1, 0, 0, 0), (25, .iadd, 1, 0, 0, 0), (26, .iastore, 1, 0, 0, 0), (27, .aload_n 0, 1, 0, 0, 0), (28, .iload_n 2, 1, 0, 0, 0), (29, .invokevirtual 312, 3, 252, 0, 1990)],
  [(32, .ifCond .eq 6, 3, 0, 38, 0), (35, .goto 23, 3, 0, 58, 0), (38, .aload_n 0, 1, 0, 0, 0), (39, .getfield 95, 3, 9, 40, 1629), (42, .iload_n 2, 1, 0, 0, 0), (43, .dup2, 1, 0, 0, 0), (44, .iaload, 1, 0, 0, 0), (45, .iconst 1, 1, 0, 0, 0), (46, .iadd, 1, 0, 0, 0), (47, .iastore, 1, 0, 0, 0), (48, .aload_n 0, 1, 0, 0, 0), (49, .dup, 1, 0, 0, 0), (50, .getfield 332, 3, 9, 47, 1636), (53, .iconst 1, 1, 0, 0, 0), (54, .iadd, 1, 0, 0, 0), (55, .putfield 332, 3, 9, 47, 1636), (58, .iinc 1 1, 3, 0, 0, 0), (61, .goto (-59), 3, 0, 2, 0)],
  [(64, .return_, 1, 0, 0, 0)]]
set_option maxRecDepth 100000 in
noncomputable def mjT268 : List (List (Nat × mjX)) := [[(0, .iconst 0, 1, 0, 0, 0), (1, .istore_n 1, 1, 0, 0, 0), (2, .iconst 0, 1, 0, 0, 0), (3, .istore_n 2, 1, 0, 0, 0), (4, .iload_n 2, 1, 0, 0, 0), (5, .aload_n 0, 1, 0, 0, 0), (6, .getfield 323, 3, 9, 44, 1633), (9, .if_icmp .ge 20, 3, 0, 29, 0), (12, .iload_n 1, 1, 0, 0, 0), (13, .iconst 1, 1, 0, 0, 0), (14, .aload_n 0, 1, 0, 0, 0), (15, .getfield 80, 3, 9, 35, 1624), (18, .iload_n 2, 1, 0, 0, 0), (19, .iaload, 1, 0, 0, 0), (20, .ishl, 1, 0, 0, 0), (21, .ior, 1, 0, 0, 0), (22, .istore_n 1, 1, 0, 0, 0), (23, .iinc 2 1, 3, 0, 0, 0), (26, .goto (-22), 3, 0, 4, 0), (29, .iload_n 1, 1, 0, 0, 0), (30, .ireturn, 1, 0, 0, 0)]]
set_option maxRecDepth 100000 in
noncomputable def mjT269 : List (List (Nat × mjX)) := [[(0, .aload_n 0, 1, 0, 0, 0), (1, .iload_n 1, 1, 0, 0, 0), (2, .invokevirtual 351, 3, 260, 0, 2031), (5, .iconst 0, 1, 0, 0, 0), (6, .istore_n 2, 1, 0, 0, 0), (7, .iload_n 2, 1, 0, 0, 0), (8, .bipush 52, 2, 0, 0, 0), (10, .if_icmp .ge 70, 3, 0, 80, 0), (13, .aload_n 0, 1, 0, 0, 0), (14, .iload_n 2, 1, 0, 0, 0), (15, .invokevirtual 354, 3, 263, 0, 2051), (18, .iload_n 2, 1, 0, 0, 0), (19, .aload_n 0, 1, 0, 0, 0), (20, .getfield 357, 3, 9, 43, 1632), (23, .if_icmp .ge 14, 3, 0, 37, 0), (26, .aload_n 0, 1, 0, 0, 0), (27, .aload_n 0, 1, 0, 0, 0), (28, .getfield 77, 3, 9, 34, 1623), (31, .iload_n 2, 1, 0, 0, 0)],
  [(32, .iaload, 1, 0, 0, 0), (33, .iload_n 2, 1, 0, 0, 0), (34, .invokevirtual 360, 3, 266, 0, 2063), (37, .aload_n 0, 1, 0, 0, 0), (38, .invokevirtual 363, 3, 267, 0, 2090), (41, .aload_n 0, 1, 0, 0, 0), (42, .getfield 98, 3, 9, 41, 1630), (45, .iload_n 2, 1, 0, 0, 0), (46, .aload_n 0, 1, 0, 0, 0), (47, .invokevirtual 366, 3, 268, 0, 2094), (50, .iastore, 1, 0, 0, 0), (51, .aload_n 0, 1, 0, 0, 0), (52, .getfield 101, 3, 9, 42, 1631), (55, .iload_n 2, 1, 0, 0, 0), (56, .aload_n 0, 1, 0, 0, 0), (57, .getfield 323, 3, 9, 44, 1633), (60, .ifCond .ne 7, 3, 0, 67, 0), (63, .iconst (-1), 1, 0, 0, 0)],
  [(64, .goto 9, 3, 0, 73, 0), (67, .aload_n 0, 1, 0, 0, 0), (68, .getfield 80, 3, 9, 35, 1624), (71, .iconst 0, 1, 0, 0, 0), (72, .iaload, 1, 0, 0, 0), (73, .iastore, 1, 0, 0, 0), (74, .iinc 2 1, 3, 0, 0, 0), (77, .goto (-70), 3, 0, 7, 0), (80, .aload_n 0, 1, 0, 0, 0), (81, .getfield 98, 3, 9, 41, 1630), (84, .bipush 51, 2, 0, 0, 0), (86, .iaload, 1, 0, 0, 0), (87, .sipush 4095, 3, 0, 0, 0), (90, .iand, 1, 0, 0, 0), (91, .ireturn, 1, 0, 0, 0)]]
set_option maxRecDepth 100000 in
noncomputable def mjT270 : List (List (Nat × mjX)) := [[(0, .aload_n 0, 1, 0, 0, 0), (1, .aload_n 0, 1, 0, 0, 0), (2, .getfield 23, 3, 9, 12, 1601), (5, .iconst 1, 1, 0, 0, 0), (6, .iaload, 1, 0, 0, 0), (7, .putfield 357, 3, 9, 43, 1632), (10, .iconst 0, 1, 0, 0, 0), (11, .istore_n 1, 1, 0, 0, 0), (12, .iload_n 1, 1, 0, 0, 0), (13, .aload_n 0, 1, 0, 0, 0), (14, .getfield 357, 3, 9, 43, 1632), (17, .if_icmp .ge 21, 3, 0, 38, 0), (20, .aload_n 0, 1, 0, 0, 0), (21, .getfield 77, 3, 9, 34, 1623), (24, .iload_n 1, 1, 0, 0, 0), (25, .aload_n 0, 1, 0, 0, 0), (26, .getfield 54, 3, 9, 21, 1610), (29, .iload_n 1, 1, 0, 0, 0), (30, .iaload, 1, 0, 0, 0), (31, .iastore, 1, 0, 0, 0)],
  [(32, .iinc 1 1, 3, 0, 0, 0), (35, .goto (-23), 3, 0, 12, 0), (38, .return_, 1, 0, 0, 0)]]
set_option maxRecDepth 100000 in
noncomputable def mjT271 : List (List (Nat × mjX)) := [[(0, .aload_n 0, 1, 0, 0, 0), (1, .invokevirtual 369, 3, 270, 0, 2023), (4, .aload_n 0, 1, 0, 0, 0), (5, .aload_n 0, 1, 0, 0, 0), (6, .getfield 23, 3, 9, 12, 1601), (9, .iconst 5, 1, 0, 0, 0), (10, .iaload, 1, 0, 0, 0), (11, .invokevirtual 372, 3, 269, 0, 2027), (14, .ireturn, 1, 0, 0, 0)]]
set_option maxRecDepth 100000 in
noncomputable def mjT272 : List (List (Nat × mjX)) := [[(0, .aload_n 0, 1, 0, 0, 0), (1, .iconst 0, 1, 0, 0, 0), (2, .putfield 132, 3, 9, 0, 1589), (5, .aload_n 0, 1, 0, 0, 0), (6, .iload_n 1, 1, 0, 0, 0), (7, .invokestatic 306, 3, 244, 1, 1967), (10, .ifCond .ne 7, 3, 0, 17, 0), (13, .iconst 1, 1, 0, 0, 0), (14, .goto 4, 3, 0, 18, 0), (17, .iconst 0, 1, 0, 0, 0), (18, .iconst 1, 1, 0, 0, 0), (19, .iconst 1, 1, 0, 0, 0), (20, .invokevirtual 233, 3, 197, 0, 1807), (23, .ifCond .eq 5, 3, 0, 28, 0), (26, .iconst 0, 1, 0, 0, 0), (27, .ireturn, 1, 0, 0, 0), (28, .aload_n 0, 1, 0, 0, 0), (29, .invokevirtual 375, 3, 271, 0, 2019)],
  [(32, .pop, 1, 0, 0, 0), (33, .aload_n 0, 1, 0, 0, 0), (34, .getfield 98, 3, 9, 41, 1630), (37, .iload_n 1, 1, 0, 0, 0), (38, .iaload, 1, 0, 0, 0), (39, .ireturn, 1, 0, 0, 0)]]
set_option maxRecDepth 100000 in
noncomputable def mjT273 : List (List (Nat × mjX)) := [[(0, .aload_n 0, 1, 0, 0, 0), (1, .iconst 0, 1, 0, 0, 0), (2, .putfield 132, 3, 9, 0, 1589), (5, .aload_n 0, 1, 0, 0, 0), (6, .iload_n 1, 1, 0, 0, 0), (7, .invokestatic 306, 3, 244, 1, 1967), (10, .ifCond .ne 7, 3, 0, 17, 0), (13, .iconst 1, 1, 0, 0, 0), (14, .goto 4, 3, 0, 18, 0), (17, .iconst 0, 1, 0, 0, 0), (18, .iconst 1, 1, 0, 0, 0), (19, .iconst 1, 1, 0, 0, 0), (20, .invokevirtual 233, 3, 197, 0, 1807), (23, .ifCond .eq 5, 3, 0, 28, 0), (26, .iconst 0, 1, 0, 0, 0), (27, .ireturn, 1, 0, 0, 0), (28, .aload_n 0, 1, 0, 0, 0), (29, .invokevirtual 375, 3, 271, 0, 2019)],
  [(32, .pop, 1, 0, 0, 0), (33, .aload_n 0, 1, 0, 0, 0), (34, .getfield 101, 3, 9, 42, 1631), (37, .iload_n 1, 1, 0, 0, 0), (38, .iaload, 1, 0, 0, 0), (39, .ireturn, 1, 0, 0, 0)]]
set_option maxRecDepth 100000 in
noncomputable def mjT274 : List (List (Nat × mjX)) := [[(0, .aload_n 0, 1, 0, 0, 0), (1, .iconst 0, 1, 0, 0, 0), (2, .putfield 132, 3, 9, 0, 1589), (5, .aload_n 0, 1, 0, 0, 0), (6, .aload_n 0, 1, 0, 0, 0), (7, .iload_n 1, 1, 0, 0, 0), (8, .invokevirtual 303, 3, 243, 0, 1955), (11, .ifCond .ne 7, 3, 0, 18, 0), (14, .iconst 1, 1, 0, 0, 0), (15, .goto 4, 3, 0, 19, 0), (18, .iconst 0, 1, 0, 0, 0), (19, .iconst 1, 1, 0, 0, 0), (20, .iconst 0, 1, 0, 0, 0), (21, .invokevirtual 233, 3, 197, 0, 1807), (24, .ifCond .ne 26, 3, 0, 50, 0), (27, .aload_n 0, 1, 0, 0, 0), (28, .iload_n 2, 1, 0, 0, 0), (29, .iconst 0, 1, 0, 0, 0), (30, .iconst 4, 1, 0, 0, 0), (31, .invokestatic 166, 3, 198, 1, 1804)],
  [(34, .ifCond .ne 7, 3, 0, 41, 0), (37, .iconst 1, 1, 0, 0, 0), (38, .goto 4, 3, 0, 42, 0), (41, .iconst 0, 1, 0, 0, 0), (42, .iconst 2, 1, 0, 0, 0), (43, .iconst 1, 1, 0, 0, 0), (44, .invokevirtual 233, 3, 197, 0, 1807), (47, .ifCond .eq 5, 3, 0, 52, 0), (50, .iconst 0, 1, 0, 0, 0), (51, .ireturn, 1, 0, 0, 0), (52, .aload_n 0, 1, 0, 0, 0), (53, .invokevirtual 375, 3, 271, 0, 2019), (56, .pop, 1, 0, 0, 0), (57, .iload_n 2, 1, 0, 0, 0), (58, .tableswitch 58 0 3 #[30, 37, 44, 51], 30, 0, 0, 0)],
  [(88, .aload_n 0, 1, 0, 0, 0), (89, .getfield 83, 3, 9, 36, 1625), (92, .iload_n 1, 1, 0, 0, 0), (93, .iaload, 1, 0, 0, 0), (94, .ireturn, 1, 0, 0, 0), (95, .aload_n 0, 1, 0, 0, 0)],
  [(96, .getfield 86, 3, 9, 37, 1626), (99, .iload_n 1, 1, 0, 0, 0), (100, .iaload, 1, 0, 0, 0), (101, .ireturn, 1, 0, 0, 0), (102, .aload_n 0, 1, 0, 0, 0), (103, .getfield 89, 3, 9, 38, 1627), (106, .iload_n 1, 1, 0, 0, 0), (107, .iaload, 1, 0, 0, 0), (108, .ireturn, 1, 0, 0, 0), (109, .aload_n 0, 1, 0, 0, 0), (110, .getfield 92, 3, 9, 39, 1628), (113, .iload_n 1, 1, 0, 0, 0), (114, .iaload, 1, 0, 0, 0), (115, .ireturn, 1, 0, 0, 0), (116, .aload_n 0, 1, 0, 0, 0), (117, .getfield 95, 3, 9, 40, 1629), (120, .iload_n 1, 1, 0, 0, 0), (121, .iaload, 1, 0, 0, 0), (122, .ireturn, 1, 0, 0, 0)]]
set_option maxRecDepth 100000 in
noncomputable def mjT275 : List (List (Nat × mjX)) := [[(0, .aload_n 0, 1, 0, 0, 0), (1, .getfield 45, 3, 9, 19, 1608), (4, .iload_n 2, 1, 0, 0, 0), (5, .laload, 1, 0, 0, 0), (6, .lstore_n 3, 1, 0, 0, 0), (7, .iconst 0, 1, 0, 0, 0), (8, .istore 5, 2, 0, 0, 0), (10, .iload 5, 2, 0, 0, 0), (12, .aload_n 0, 1, 0, 0, 0), (13, .getfield 23, 3, 9, 12, 1601), (16, .iconst 1, 1, 0, 0, 0), (17, .iaload, 1, 0, 0, 0), (18, .if_icmp .ge 35, 3, 0, 53, 0), (21, .lload_n 3, 1, 0, 0, 0), (22, .iload_n 1, 1, 0, 0, 0), (23, .iload 5, 2, 0, 0, 0), (25, .ishr, 1, 0, 0, 0), (26, .iconst 1, 1, 0, 0, 0), (27, .iand, 1, 0, 0, 0), (28, .iconst 1, 1, 0, 0, 0), (29, .if_icmp .ne 13, 3, 0, 42, 0)],
  [(32, .aload_n 0, 1, 0, 0, 0), (33, .getfield 36, 3, 9, 16, 1605), (36, .iload 5, 2, 0, 0, 0), (38, .laload, 1, 0, 0, 0), (39, .goto 6, 3, 0, 45, 0), (42, .ldc2_w 48, 3, 18446744073709551615, 0, 1575), (45, .land, 1, 0, 0, 0), (46, .lstore_n 3, 1, 0, 0, 0), (47, .iinc 5 1, 3, 0, 0, 0), (50, .goto (-40), 3, 0, 10, 0), (53, .lload_n 3, 1, 0, 0, 0), (54, .lreturn, 1, 0, 0, 0)]]
set_option maxRecDepth 100000 in
noncomputable def mjT276 : List (List (Nat × mjX)) := [[(0, .aload_n 0, 1, 0, 0, 0), (1, .iconst 0, 1, 0, 0, 0), (2, .putfield 132, 3, 9, 0, 1589), (5, .aload_n 0, 1, 0, 0, 0), (6, .iload_n 1, 1, 0, 0, 0), (7, .iconst 0, 1, 0, 0, 0), (8, .iconst 5, 1, 0, 0, 0), (9, .invokestatic 166, 3, 198, 1, 1804), (12, .ifCond .ne 7, 3, 0, 19, 0), (15, .iconst 1, 1, 0, 0, 0), (16, .goto 4, 3, 0, 20, 0), (19, .iconst 0, 1, 0, 0, 0), (20, .iconst 1, 1, 0, 0, 0), (21, .iconst 1, 1, 0, 0, 0), (22, .invokevirtual 233, 3, 197, 0, 1807), (25, .ifCond .eq 5, 3, 0, 30, 0), (28, .iconst 0, 1, 0, 0, 0), (29, .ireturn, 1, 0, 0, 0), (30, .aload_n 0, 1, 0, 0, 0), (31, .invokevirtual 375, 3, 271, 0, 2019)],
  [(34, .istore_n 2, 1, 0, 0, 0), (35, .iload_n 1, 1, 0, 0, 0), (36, .tableswitch 64 0 4 #[36, 38, 43, 48, 53], 36, 0, 0, 0)],
  [(72, .iload_n 2, 1, 0, 0, 0), (73, .ireturn, 1, 0, 0, 0), (74, .aload_n 0, 1, 0, 0, 0), (75, .getfield 326, 3, 9, 45, 1634), (78, .ireturn, 1, 0, 0, 0), (79, .aload_n 0, 1, 0, 0, 0), (80, .getfield 329, 3, 9, 46, 1635), (83, .ireturn, 1, 0, 0, 0), (84, .aload_n 0, 1, 0, 0, 0), (85, .getfield 332, 3, 9, 47, 1636), (88, .ireturn, 1, 0, 0, 0), (89, .iload_n 2, 1, 0, 0, 0), (90, .aload_n 0, 1, 0, 0, 0), (91, .invokevirtual 315, 3, 253, 0, 1986), (94, .iand, 1, 0, 0, 0), (95, .i2l, 1, 0, 0, 0)],
  [(96, .invokestatic 249, 3, 225, 1, 1896), (99, .ireturn, 1, 0, 0, 0), (100, .aload_n 0, 1, 0, 0, 0), (101, .iload_n 2, 1, 0, 0, 0), (102, .bipush 51, 2, 0, 0, 0), (104, .invokevirtual 378, 3, 275, 0, 2110), (107, .lconst 0, 1, 0, 0, 0), (108, .lcmp, 1, 0, 0, 0), (109, .ifCond .eq 7, 3, 0, 116, 0), (112, .iconst 1, 1, 0, 0, 0), (113, .goto 4, 3, 0, 117, 0), (116, .iconst 0, 1, 0, 0, 0), (117, .ireturn, 1, 0, 0, 0)]]
set_option maxRecDepth 100000 in
noncomputable def mjT277 : List (List (Nat × mjX)) := [[(0, .aload_n 0, 1, 0, 0, 0), (1, .getfield 54, 3, 9, 21, 1610), (4, .iload_n 1, 1, 0, 0, 0), (5, .iaload, 1, 0, 0, 0), (6, .istore_n 3, 1, 0, 0, 0), (7, .aload_n 0, 1, 0, 0, 0), (8, .getfield 54, 3, 9, 21, 1610), (11, .iload_n 1, 1, 0, 0, 0), (12, .aload_n 0, 1, 0, 0, 0), (13, .getfield 54, 3, 9, 21, 1610), (16, .iload_n 2, 1, 0, 0, 0), (17, .iaload, 1, 0, 0, 0), (18, .iastore, 1, 0, 0, 0), (19, .aload_n 0, 1, 0, 0, 0), (20, .getfield 54, 3, 9, 21, 1610), (23, .iload_n 2, 1, 0, 0, 0), (24, .iload_n 3, 1, 0, 0, 0), (25, .iastore, 1, 0, 0, 0), (26, .return_, 1, 0, 0, 0)]]
set_option maxRecDepth 100000 in
noncomputable def mjT278 : List (List (Nat × mjX)) := [[(0, .aload_n 0, 1, 0, 0, 0), (1, .iconst 0, 1, 0, 0, 0), (2, .putfield 132, 3, 9, 0, 1589), (5, .aload_n 0, 1, 0, 0, 0), (6, .invokevirtual 375, 3, 271, 0, 2019), (9, .istore_n 1, 1, 0, 0, 0), (10, .iconst 0, 1, 0, 0, 0), (11, .istore_n 2, 1, 0, 0, 0), (12, .iconst 0, 1, 0, 0, 0), (13, .istore_n 3, 1, 0, 0, 0), (14, .iload_n 3, 1, 0, 0, 0), (15, .iconst 1, 1, 0, 0, 0), (16, .iadd, 1, 0, 0, 0), (17, .aload_n 0, 1, 0, 0, 0), (18, .getfield 23, 3, 9, 12, 1601), (21, .iconst 1, 1, 0, 0, 0), (22, .iaload, 1, 0, 0, 0), (23, .if_icmp .ge 41, 3, 0, 64, 0), (26, .aload_n 0, 1, 0, 0, 0), (27, .iload_n 3, 1, 0, 0, 0), (28, .iload_n 3, 1, 0, 0, 0), (29, .iconst 1, 1, 0, 0, 0), (30, .iadd, 1, 0, 0, 0), (31, .invokevirtual 381, 3, 277, 0, 2118)],
  [(34, .iload_n 2, 1, 0, 0, 0), (35, .aload_n 0, 1, 0, 0, 0), (36, .invokevirtual 375, 3, 271, 0, 2019), (39, .iload_n 1, 1, 0, 0, 0), (40, .if_icmp .eq 7, 3, 0, 47, 0), (43, .iconst 1, 1, 0, 0, 0), (44, .goto 4, 3, 0, 48, 0), (47, .iconst 0, 1, 0, 0, 0), (48, .iadd, 1, 0, 0, 0), (49, .istore_n 2, 1, 0, 0, 0), (50, .aload_n 0, 1, 0, 0, 0), (51, .iload_n 3, 1, 0, 0, 0), (52, .iload_n 3, 1, 0, 0, 0), (53, .iconst 1, 1, 0, 0, 0), (54, .iadd, 1, 0, 0, 0), (55, .invokevirtual 381, 3, 277, 0, 2118), (58, .iinc 3 1, 3, 0, 0, 0), (61, .goto (-47), 3, 0, 14, 0)],
  [(64, .iload_n 2, 1, 0, 0, 0), (65, .ireturn, 1, 0, 0, 0)]]
set_option maxRecDepth 100000 in
noncomputable def mjT279 : List (List (Nat × mjX)) := [[(0, .aload_n 0, 1, 0, 0, 0), (1, .iconst 0, 1, 0, 0, 0), (2, .putfield 132, 3, 9, 0, 1589), (5, .aload_n 0, 1, 0, 0, 0), (6, .invokevirtual 375, 3, 271, 0, 2019), (9, .aload_n 0, 1, 0, 0, 0), (10, .invokevirtual 315, 3, 253, 0, 1986), (13, .iand, 1, 0, 0, 0), (14, .i2l, 1, 0, 0, 0), (15, .invokestatic 249, 3, 225, 1, 1896), (18, .istore_n 1, 1, 0, 0, 0), (19, .iconst (-1), 1, 0, 0, 0), (20, .istore_n 2, 1, 0, 0, 0), (21, .iconst 0, 1, 0, 0, 0), (22, .istore_n 3, 1, 0, 0, 0), (23, .iload_n 3, 1, 0, 0, 0), (24, .aload_n 0, 1, 0, 0, 0), (25, .getfield 23, 3, 9, 12, 1601), (28, .iconst 1, 1, 0, 0, 0), (29, .iaload, 1, 0, 0, 0), (30, .if_icmp .ge 80, 3, 0, 110, 0)],
  [(33, .iload_n 3, 1, 0, 0, 0), (34, .iconst 1, 1, 0, 0, 0), (35, .iadd, 1, 0, 0, 0), (36, .istore 4, 2, 0, 0, 0), (38, .iload 4, 2, 0, 0, 0), (40, .aload_n 0, 1, 0, 0, 0), (41, .getfield 23, 3, 9, 12, 1601), (44, .iconst 1, 1, 0, 0, 0), (45, .iaload, 1, 0, 0, 0), (46, .if_icmp .ge 58, 3, 0, 104, 0), (49, .aload_n 0, 1, 0, 0, 0), (50, .iload_n 3, 1, 0, 0, 0), (51, .iload 4, 2, 0, 0, 0), (53, .invokevirtual 381, 3, 277, 0, 2118), (56, .aload_n 0, 1, 0, 0, 0), (57, .invokevirtual 375, 3, 271, 0, 2019), (60, .aload_n 0, 1, 0, 0, 0), (61, .invokevirtual 315, 3, 253, 0, 1986)],
  [(64, .iand, 1, 0, 0, 0), (65, .i2l, 1, 0, 0, 0), (66, .invokestatic 249, 3, 225, 1, 1896), (69, .istore 5, 2, 0, 0, 0), (71, .aload_n 0, 1, 0, 0, 0), (72, .iload_n 3, 1, 0, 0, 0), (73, .iload 4, 2, 0, 0, 0), (75, .invokevirtual 381, 3, 277, 0, 2118), (78, .iload 5, 2, 0, 0, 0), (80, .iload_n 1, 1, 0, 0, 0), (81, .if_icmp .gt 6, 3, 0, 87, 0), (84, .goto 14, 3, 0, 98, 0), (87, .bipush 16, 2, 0, 0, 0), (89, .iload_n 3, 1, 0, 0, 0), (90, .imul, 1, 0, 0, 0), (91, .iload 4, 2, 0, 0, 0), (93, .iadd, 1, 0, 0, 0), (94, .istore_n 2, 1, 0, 0, 0), (95, .iload 5, 2, 0, 0, 0)],
  [(97, .istore_n 1, 1, 0, 0, 0), (98, .iinc 4 1, 3, 0, 0, 0), (101, .goto (-63), 3, 0, 38, 0), (104, .iinc 3 1, 3, 0, 0, 0), (107, .goto (-84), 3, 0, 23, 0), (110, .iload_n 2, 1, 0, 0, 0), (111, .ireturn, 1, 0, 0, 0)]]
set_option maxRecDepth 100000 in
noncomputable def mjT280 : List (List (Nat × mjX)) := [[(0, .aload_n 0, 1, 0, 0, 0), (1, .iconst 0, 1, 0, 0, 0), (2, .putfield 132, 3, 9, 0, 1589), (5, .iconst 1, 1, 0, 0, 0), (6, .aload_n 0, 1, 0, 0, 0), (7, .getfield 23, 3, 9, 12, 1601), (10, .iconst 1, 1, 0, 0, 0), (11, .iaload, 1, 0, 0, 0), (12, .ishl, 1, 0, 0, 0), (13, .iconst 1, 1, 0, 0, 0), (14, .isub, 1, 0, 0, 0), (15, .istore_n 1, 1, 0, 0, 0), (16, .iconst 0, 1, 0, 0, 0), (17, .istore_n 2, 1, 0, 0, 0), (18, .iload_n 2, 1, 0, 0, 0), (19, .iconst 1, 1, 0, 0, 0), (20, .aload_n 0, 1, 0, 0, 0), (21, .getfield 23, 3, 9, 12, 1601), (24, .iconst 1, 1, 0, 0, 0), (25, .iaload, 1, 0, 0, 0), (26, .ishl, 1, 0, 0, 0), (27, .if_icmp .ge 123, 3, 0, 150, 0), (30, .iload_n 2, 1, 0, 0, 0), (31, .i2l, 1, 0, 0, 0)],
  [(32, .invokestatic 249, 3, 225, 1, 1896), (35, .iload_n 1, 1, 0, 0, 0), (36, .i2l, 1, 0, 0, 0), (37, .invokestatic 249, 3, 225, 1, 1896), (40, .if_icmp .lt 6, 3, 0, 46, 0), (43, .goto 101, 3, 0, 144, 0), (46, .aload_n 0, 1, 0, 0, 0), (47, .iconst 0, 1, 0, 0, 0), (48, .putfield 357, 3, 9, 43, 1632), (51, .iconst 0, 1, 0, 0, 0), (52, .istore_n 3, 1, 0, 0, 0), (53, .iload_n 3, 1, 0, 0, 0), (54, .aload_n 0, 1, 0, 0, 0), (55, .getfield 23, 3, 9, 12, 1601), (58, .iconst 1, 1, 0, 0, 0), (59, .iaload, 1, 0, 0, 0), (60, .if_icmp .ge 51, 3, 0, 111, 0), (63, .iload_n 2, 1, 0, 0, 0)],
  [(64, .aload_n 0, 1, 0, 0, 0), (65, .getfield 54, 3, 9, 21, 1610), (68, .iload_n 3, 1, 0, 0, 0), (69, .iaload, 1, 0, 0, 0), (70, .ishr, 1, 0, 0, 0), (71, .iconst 1, 1, 0, 0, 0), (72, .iand, 1, 0, 0, 0), (73, .iconst 1, 1, 0, 0, 0), (74, .if_icmp .ne 6, 3, 0, 80, 0), (77, .goto 28, 3, 0, 105, 0), (80, .aload_n 0, 1, 0, 0, 0), (81, .getfield 77, 3, 9, 34, 1623), (84, .aload_n 0, 1, 0, 0, 0), (85, .getfield 357, 3, 9, 43, 1632), (88, .aload_n 0, 1, 0, 0, 0), (89, .getfield 54, 3, 9, 21, 1610), (92, .iload_n 3, 1, 0, 0, 0), (93, .iaload, 1, 0, 0, 0), (94, .iastore, 1, 0, 0, 0), (95, .aload_n 0, 1, 0, 0, 0)],
  [(96, .dup, 1, 0, 0, 0), (97, .getfield 357, 3, 9, 43, 1632), (100, .iconst 1, 1, 0, 0, 0), (101, .iadd, 1, 0, 0, 0), (102, .putfield 357, 3, 9, 43, 1632), (105, .iinc 3 1, 3, 0, 0, 0), (108, .goto (-55), 3, 0, 53, 0), (111, .aload_n 0, 1, 0, 0, 0), (112, .aload_n 0, 1, 0, 0, 0), (113, .getfield 23, 3, 9, 12, 1601), (116, .iconst 5, 1, 0, 0, 0), (117, .iaload, 1, 0, 0, 0), (118, .invokevirtual 372, 3, 269, 0, 2027), (121, .iconst 1, 1, 0, 0, 0), (122, .aload_n 0, 1, 0, 0, 0), (123, .getfield 23, 3, 9, 12, 1601), (126, .iconst 1, 1, 0, 0, 0), (127, .iaload, 1, 0, 0, 0)],
  [(128, .ishl, 1, 0, 0, 0), (129, .iconst 1, 1, 0, 0, 0), (130, .isub, 1, 0, 0, 0), (131, .iload_n 2, 1, 0, 0, 0), (132, .iconst (-1), 1, 0, 0, 0), (133, .ixor, 1, 0, 0, 0), (134, .iand, 1, 0, 0, 0), (135, .if_icmp .ne 7, 3, 0, 142, 0), (138, .iload_n 2, 1, 0, 0, 0), (139, .goto 4, 3, 0, 143, 0), (142, .iload_n 1, 1, 0, 0, 0), (143, .istore_n 1, 1, 0, 0, 0), (144, .iinc 2 1, 3, 0, 0, 0), (147, .goto (-129), 3, 0, 18, 0), (150, .iload_n 1, 1, 0, 0, 0), (151, .ireturn, 1, 0, 0, 0)]]
set_option maxRecDepth 100000 in
noncomputable def mjT281 : List (List (Nat × mjX)) := [[(0, .aload_n 0, 1, 0, 0, 0), (1, .iconst 0, 1, 0, 0, 0), (2, .putfield 132, 3, 9, 0, 1589), (5, .aload_n 0, 1, 0, 0, 0), (6, .aload_n 0, 1, 0, 0, 0), (7, .iload_n 1, 1, 0, 0, 0), (8, .invokevirtual 303, 3, 243, 0, 1955), (11, .ifCond .ne 7, 3, 0, 18, 0), (14, .iconst 1, 1, 0, 0, 0), (15, .goto 4, 3, 0, 19, 0), (18, .iconst 0, 1, 0, 0, 0), (19, .iconst 1, 1, 0, 0, 0), (20, .iconst 0, 1, 0, 0, 0), (21, .invokevirtual 233, 3, 197, 0, 1807), (24, .ifCond .eq 5, 3, 0, 29, 0), (27, .iconst 0, 1, 0, 0, 0), (28, .ireturn, 1, 0, 0, 0), (29, .aload_n 0, 1, 0, 0, 0), (30, .invokevirtual 375, 3, 271, 0, 2019)],
  [(33, .pop, 1, 0, 0, 0), (34, .aload_n 0, 1, 0, 0, 0), (35, .getfield 86, 3, 9, 37, 1626), (38, .iload_n 1, 1, 0, 0, 0), (39, .iaload, 1, 0, 0, 0), (40, .iconst (-1), 1, 0, 0, 0), (41, .if_icmp .eq 13, 3, 0, 54, 0), (44, .aload_n 0, 1, 0, 0, 0), (45, .getfield 89, 3, 9, 38, 1627), (48, .iload_n 1, 1, 0, 0, 0), (49, .iaload, 1, 0, 0, 0), (50, .iconst (-1), 1, 0, 0, 0), (51, .if_icmp .eq 5, 3, 0, 56, 0), (54, .iconst (-1), 1, 0, 0, 0), (55, .ireturn, 1, 0, 0, 0), (56, .aload_n 0, 1, 0, 0, 0), (57, .getfield 36, 3, 9, 16, 1605), (60, .iload_n 1, 1, 0, 0, 0), (61, .laload, 1, 0, 0, 0), (62, .lstore_n 2, 1, 0, 0, 0), (63, .iconst 0, 1, 0, 0, 0)],
  [(64, .istore 4, 2, 0, 0, 0), (66, .iload 4, 2, 0, 0, 0), (68, .aload_n 0, 1, 0, 0, 0), (69, .getfield 23, 3, 9, 12, 1601), (72, .iconst 2, 1, 0, 0, 0), (73, .iaload, 1, 0, 0, 0), (74, .if_icmp .ge 47, 3, 0, 121, 0), (77, .aload_n 0, 1, 0, 0, 0), (78, .getfield 29, 3, 9, 14, 1603), (81, .iload 4, 2, 0, 0, 0), (83, .iaload, 1, 0, 0, 0), (84, .aload_n 0, 1, 0, 0, 0), (85, .getfield 86, 3, 9, 37, 1626), (88, .iload_n 1, 1, 0, 0, 0), (89, .iaload, 1, 0, 0, 0), (90, .if_icmp .le 6, 3, 0, 96, 0), (93, .goto 22, 3, 0, 115, 0)],
  [(96, .lload_n 2, 1, 0, 0, 0), (97, .aload_n 0, 1, 0, 0, 0), (98, .getfield 42, 3, 9, 18, 1607), (101, .iload 4, 2, 0, 0, 0), (103, .laload, 1, 0, 0, 0), (104, .land, 1, 0, 0, 0), (105, .lstore_n 2, 1, 0, 0, 0), (106, .lload_n 2, 1, 0, 0, 0), (107, .lconst 0, 1, 0, 0, 0), (108, .lcmp, 1, 0, 0, 0), (109, .ifCond .ne 6, 3, 0, 115, 0), (112, .iload 4, 2, 0, 0, 0), (114, .ireturn, 1, 0, 0, 0), (115, .iinc 4 1, 3, 0, 0, 0), (118, .goto (-52), 3, 0, 66, 0), (121, .iconst (-1), 1, 0, 0, 0), (122, .ireturn, 1, 0, 0, 0)]]
set_option maxRecDepth 100000 in
noncomputable def mjT282 : List (List (Nat × mjX)) := [[(0, .aload_n 0, 1, 0, 0, 0), (1, .iconst 0, 1, 0, 0, 0), (2, .putfield 132, 3, 9, 0, 1589), (5, .aload_n 0, 1, 0, 0, 0), (6, .invokevirtual 375, 3, 271, 0, 2019), (9, .pop, 1, 0, 0, 0), (10, .iconst 0, 1, 0, 0, 0), (11, .istore_n 2, 1, 0, 0, 0), (12, .iload_n 2, 1, 0, 0, 0), (13, .aload_n 0, 1, 0, 0, 0), (14, .getfield 23, 3, 9, 12, 1601), (17, .iconst 1, 1, 0, 0, 0), (18, .iaload, 1, 0, 0, 0), (19, .if_icmp .ge 108, 3, 0, 127, 0), (22, .aload_n 0, 1, 0, 0, 0), (23, .getfield 86, 3, 9, 37, 1626), (26, .iload_n 2, 1, 0, 0, 0), (27, .iaload, 1, 0, 0, 0), (28, .iconst (-1), 1, 0, 0, 0), (29, .if_icmp .ne 6, 3, 0, 35, 0)],
  [(32, .goto 89, 3, 0, 121, 0), (35, .iconst 0, 1, 0, 0, 0), (36, .istore_n 3, 1, 0, 0, 0), (37, .iconst 0, 1, 0, 0, 0), (38, .istore 4, 2, 0, 0, 0), (40, .iload 4, 2, 0, 0, 0), (42, .aload_n 0, 1, 0, 0, 0), (43, .getfield 23, 3, 9, 12, 1601), (46, .iconst 1, 1, 0, 0, 0), (47, .iaload, 1, 0, 0, 0), (48, .if_icmp .ge 66, 3, 0, 114, 0), (51, .iload_n 3, 1, 0, 0, 0), (52, .aload_n 0, 1, 0, 0, 0), (53, .getfield 86, 3, 9, 37, 1626), (56, .iload 4, 2, 0, 0, 0), (58, .iaload, 1, 0, 0, 0), (59, .iconst (-1), 1, 0, 0, 0), (60, .if_icmp .eq 45, 3, 0, 105, 0), (63, .aload_n 0, 1, 0, 0, 0)],
  [(64, .getfield 92, 3, 9, 39, 1628), (67, .iload 4, 2, 0, 0, 0), (69, .iaload, 1, 0, 0, 0), (70, .aload_n 0, 1, 0, 0, 0), (71, .getfield 92, 3, 9, 39, 1628), (74, .iload_n 2, 1, 0, 0, 0), (75, .iaload, 1, 0, 0, 0), (76, .if_icmp .gt 25, 3, 0, 101, 0), (79, .aload_n 0, 1, 0, 0, 0), (80, .getfield 92, 3, 9, 39, 1628), (83, .iload 4, 2, 0, 0, 0), (85, .iaload, 1, 0, 0, 0), (86, .aload_n 0, 1, 0, 0, 0), (87, .getfield 92, 3, 9, 39, 1628), (90, .iload_n 2, 1, 0, 0, 0), (91, .iaload, 1, 0, 0, 0), (92, .if_icmp .ne 13, 3, 0, 105, 0), (95, .iload 4, 2, 0, 0, 0)],
  [(97, .iload_n 2, 1, 0, 0, 0), (98, .if_icmp .ge 7, 3, 0, 105, 0), (101, .iconst 1, 1, 0, 0, 0), (102, .goto 4, 3, 0, 106, 0), (105, .iconst 0, 1, 0, 0, 0), (106, .iadd, 1, 0, 0, 0), (107, .istore_n 3, 1, 0, 0, 0), (108, .iinc 4 1, 3, 0, 0, 0), (111, .goto (-71), 3, 0, 40, 0), (114, .iload_n 3, 1, 0, 0, 0), (115, .iload_n 1, 1, 0, 0, 0), (116, .if_icmp .ne 5, 3, 0, 121, 0), (119, .iload_n 2, 1, 0, 0, 0), (120, .ireturn, 1, 0, 0, 0), (121, .iinc 2 1, 3, 0, 0, 0), (124, .goto (-112), 3, 0, 12, 0), (127, .iconst (-1), 1, 0, 0, 0)],
  [(128, .ireturn, 1, 0, 0, 0)]]
set_option maxRecDepth 100000 in
noncomputable def mjT283 : List (List (Nat × mjX)) := [[(0, .aload_n 0, 1, 0, 0, 0), (1, .iconst 0, 1, 0, 0, 0), (2, .putfield 132, 3, 9, 0, 1589), (5, .aload_n 0, 1, 0, 0, 0), (6, .iload_n 1, 1, 0, 0, 0), (7, .iconst 0, 1, 0, 0, 0), (8, .bipush 52, 2, 0, 0, 0), (10, .invokestatic 166, 3, 198, 1, 1804), (13, .ifCond .ne 7, 3, 0, 20, 0), (16, .iconst 1, 1, 0, 0, 0), (17, .goto 4, 3, 0, 21, 0), (20, .iconst 0, 1, 0, 0, 0), (21, .iconst 1, 1, 0, 0, 0), (22, .iconst 1, 1, 0, 0, 0), (23, .invokevirtual 233, 3, 197, 0, 1807), (26, .ifCond .eq 5, 3, 0, 31, 0), (29, .iconst 0, 1, 0, 0, 0), (30, .ireturn, 1, 0, 0, 0), (31, .aload_n 0, 1, 0, 0, 0)],
  [(32, .invokevirtual 375, 3, 271, 0, 2019), (35, .istore_n 2, 1, 0, 0, 0), (36, .iconst 0, 1, 0, 0, 0), (37, .istore_n 3, 1, 0, 0, 0), (38, .iconst 0, 1, 0, 0, 0), (39, .istore 4, 2, 0, 0, 0), (41, .iload 4, 2, 0, 0, 0), (43, .aload_n 0, 1, 0, 0, 0), (44, .getfield 23, 3, 9, 12, 1601), (47, .iconst 1, 1, 0, 0, 0), (48, .iaload, 1, 0, 0, 0), (49, .if_icmp .ge 51, 3, 0, 100, 0), (52, .iload_n 3, 1, 0, 0, 0), (53, .iload_n 2, 1, 0, 0, 0), (54, .iload 4, 2, 0, 0, 0), (56, .ishr, 1, 0, 0, 0), (57, .iconst 1, 1, 0, 0, 0), (58, .iand, 1, 0, 0, 0), (59, .iconst 1, 1, 0, 0, 0), (60, .if_icmp .ne 31, 3, 0, 91, 0), (63, .aload_n 0, 1, 0, 0, 0)],
  [(64, .getfield 92, 3, 9, 39, 1628), (67, .iload 4, 2, 0, 0, 0), (69, .iaload, 1, 0, 0, 0), (70, .iload_n 1, 1, 0, 0, 0), (71, .if_icmp .lt 20, 3, 0, 91, 0), (74, .aload_n 0, 1, 0, 0, 0), (75, .getfield 95, 3, 9, 40, 1629), (78, .iload 4, 2, 0, 0, 0), (80, .iaload, 1, 0, 0, 0), (81, .ifCond .ne 10, 3, 0, 91, 0), (84, .iconst 1, 1, 0, 0, 0), (85, .iload 4, 2, 0, 0, 0), (87, .ishl, 1, 0, 0, 0), (88, .goto 4, 3, 0, 92, 0), (91, .iconst 0, 1, 0, 0, 0), (92, .ior, 1, 0, 0, 0), (93, .istore_n 3, 1, 0, 0, 0), (94, .iinc 4 1, 3, 0, 0, 0)],
  [(97, .goto (-56), 3, 0, 41, 0), (100, .iload_n 3, 1, 0, 0, 0), (101, .ireturn, 1, 0, 0, 0)]]
set_option maxRecDepth 100000 in
noncomputable def mjT284 : List (List (Nat × mjX)) := [[(0, .iconst 0, 1, 0, 0, 0), (1, .istore 4, 2, 0, 0, 0), (3, .iload 4, 2, 0, 0, 0), (5, .aload_n 0, 1, 0, 0, 0), (6, .getfield 23, 3, 9, 12, 1601), (9, .iconst 1, 1, 0, 0, 0), (10, .iaload, 1, 0, 0, 0), (11, .if_icmp .ge 54, 3, 0, 65, 0), (14, .iload_n 2, 1, 0, 0, 0), (15, .aload_n 0, 1, 0, 0, 0), (16, .getfield 23, 3, 9, 12, 1601), (19, .iconst 1, 1, 0, 0, 0), (20, .iaload, 1, 0, 0, 0), (21, .if_icmp .ge 44, 3, 0, 65, 0), (24, .iload_n 1, 1, 0, 0, 0), (25, .iload 4, 2, 0, 0, 0), (27, .ishr, 1, 0, 0, 0), (28, .iconst 1, 1, 0, 0, 0), (29, .iand, 1, 0, 0, 0), (30, .iconst 1, 1, 0, 0, 0), (31, .if_icmp .ne 6, 3, 0, 37, 0)],
  [(34, .goto 25, 3, 0, 59, 0), (37, .aload_n 0, 1, 0, 0, 0), (38, .getfield 77, 3, 9, 34, 1623), (41, .iload_n 2, 1, 0, 0, 0), (42, .iload 4, 2, 0, 0, 0), (44, .iastore, 1, 0, 0, 0), (45, .aload_n 0, 1, 0, 0, 0), (46, .iload_n 1, 1, 0, 0, 0), (47, .iconst 1, 1, 0, 0, 0), (48, .iload 4, 2, 0, 0, 0), (50, .ishl, 1, 0, 0, 0), (51, .ior, 1, 0, 0, 0), (52, .iload_n 2, 1, 0, 0, 0), (53, .iconst 1, 1, 0, 0, 0), (54, .iadd, 1, 0, 0, 0), (55, .iload_n 3, 1, 0, 0, 0), (56, .invokevirtual 384, 3, 284, 0, 2150), (59, .iinc 4 1, 3, 0, 0, 0), (62, .goto (-59), 3, 0, 3, 0)],
  [(65, .iload_n 2, 1, 0, 0, 0), (66, .aload_n 0, 1, 0, 0, 0), (67, .getfield 23, 3, 9, 12, 1601), (70, .iconst 1, 1, 0, 0, 0), (71, .iaload, 1, 0, 0, 0), (72, .if_icmp .ge 4, 3, 0, 76, 0), (75, .return_, 1, 0, 0, 0), (76, .aload_n 0, 1, 0, 0, 0), (77, .iload_n 2, 1, 0, 0, 0), (78, .putfield 357, 3, 9, 43, 1632), (81, .aload_n 0, 1, 0, 0, 0), (82, .iload_n 3, 1, 0, 0, 0), (83, .invokevirtual 372, 3, 269, 0, 2027), (86, .istore 4, 2, 0, 0, 0), (88, .iload 4, 2, 0, 0, 0), (90, .aload_n 0, 1, 0, 0, 0), (91, .invokevirtual 315, 3, 253, 0, 1986), (94, .iand, 1, 0, 0, 0), (95, .i2l, 1, 0, 0, 0)],
  [(96, .invokestatic 249, 3, 225, 1, 1896), (99, .istore 5, 2, 0, 0, 0), (101, .aload_n 0, 1, 0, 0, 0), (102, .dup, 1, 0, 0, 0), (103, .getfield 387, 3, 9, 54, 1643), (106, .aload_n 0, 1, 0, 0, 0), (107, .getfield 107, 3, 9, 50, 1639), (110, .iload 4, 2, 0, 0, 0), (112, .baload, 1, 0, 0, 0), (113, .ifCond .eq 7, 3, 0, 120, 0), (116, .iconst 0, 1, 0, 0, 0), (117, .goto 4, 3, 0, 121, 0), (120, .iconst 1, 1, 0, 0, 0), (121, .iadd, 1, 0, 0, 0), (122, .putfield 387, 3, 9, 54, 1643), (125, .aload_n 0, 1, 0, 0, 0), (126, .getfield 107, 3, 9, 50, 1639)],
  [(129, .iload 4, 2, 0, 0, 0), (131, .iconst 1, 1, 0, 0, 0), (132, .bastore, 1, 0, 0, 0), (133, .aload_n 0, 1, 0, 0, 0), (134, .dup, 1, 0, 0, 0), (135, .getfield 390, 3, 9, 52, 1641), (138, .iload 4, 2, 0, 0, 0), (140, .iand, 1, 0, 0, 0), (141, .putfield 390, 3, 9, 52, 1641), (144, .aload_n 0, 1, 0, 0, 0), (145, .dup, 1, 0, 0, 0), (146, .getfield 393, 3, 9, 53, 1642), (149, .iload 4, 2, 0, 0, 0), (151, .ior, 1, 0, 0, 0), (152, .putfield 393, 3, 9, 53, 1642), (155, .aload_n 0, 1, 0, 0, 0), (156, .dup, 1, 0, 0, 0), (157, .getfield 396, 3, 9, 55, 1644)],
  [(160, .iload 5, 2, 0, 0, 0), (162, .iadd, 1, 0, 0, 0), (163, .putfield 396, 3, 9, 55, 1644), (166, .iconst 0, 1, 0, 0, 0), (167, .istore 6, 2, 0, 0, 0), (169, .iload 6, 2, 0, 0, 0), (171, .iload_n 2, 1, 0, 0, 0), (172, .if_icmp .ge 26, 3, 0, 198, 0), (175, .aload_n 0, 1, 0, 0, 0), (176, .getfield 111, 3, 9, 51, 1640), (179, .iload 6, 2, 0, 0, 0), (181, .dup2, 1, 0, 0, 0), (182, .iaload, 1, 0, 0, 0), (183, .iload 4, 2, 0, 0, 0), (185, .iload 6, 2, 0, 0, 0), (187, .ishr, 1, 0, 0, 0), (188, .iconst 1, 1, 0, 0, 0), (189, .iand, 1, 0, 0, 0), (190, .iadd, 1, 0, 0, 0), (191, .iastore, 1, 0, 0, 0)],
  [(192, .iinc 6 1, 3, 0, 0, 0), (195, .goto (-26), 3, 0, 169, 0), (198, .iload 5, 2, 0, 0, 0), (200, .aload_n 0, 1, 0, 0, 0), (201, .getfield 399, 3, 9, 56, 1645), (204, .if_icmp .le 38, 3, 0, 242, 0), (207, .aload_n 0, 1, 0, 0, 0), (208, .iload 5, 2, 0, 0, 0), (210, .putfield 399, 3, 9, 56, 1645), (213, .iconst 0, 1, 0, 0, 0), (214, .istore 6, 2, 0, 0, 0), (216, .iload 6, 2, 0, 0, 0), (218, .iload_n 2, 1, 0, 0, 0), (219, .if_icmp .ge 23, 3, 0, 242, 0), (222, .aload_n 0, 1, 0, 0, 0), (223, .getfield 114, 3, 9, 58, 1647)],
  [(226, .iload 6, 2, 0, 0, 0), (228, .aload_n 0, 1, 0, 0, 0), (229, .getfield 77, 3, 9, 34, 1623), (232, .iload 6, 2, 0, 0, 0), (234, .iaload, 1, 0, 0, 0), (235, .iastore, 1, 0, 0, 0), (236, .iinc 6 1, 3, 0, 0, 0), (239, .goto (-23), 3, 0, 216, 0), (242, .aload_n 0, 1, 0, 0, 0), (243, .getfield 332, 3, 9, 47, 1636), (246, .aload_n 0, 1, 0, 0, 0), (247, .getfield 402, 3, 9, 57, 1646), (250, .if_icmp .le 40, 3, 0, 290, 0), (253, .aload_n 0, 1, 0, 0, 0), (254, .aload_n 0, 1, 0, 0, 0), (255, .getfield 332, 3, 9, 47, 1636)],
  [(258, .putfield 402, 3, 9, 57, 1646), (261, .iconst 0, 1, 0, 0, 0), (262, .istore 6, 2, 0, 0, 0), (264, .iload 6, 2, 0, 0, 0), (266, .iload_n 2, 1, 0, 0, 0), (267, .if_icmp .ge 23, 3, 0, 290, 0), (270, .aload_n 0, 1, 0, 0, 0), (271, .getfield 117, 3, 9, 59, 1648), (274, .iload 6, 2, 0, 0, 0), (276, .aload_n 0, 1, 0, 0, 0), (277, .getfield 77, 3, 9, 34, 1623), (280, .iload 6, 2, 0, 0, 0), (282, .iaload, 1, 0, 0, 0), (283, .iastore, 1, 0, 0, 0), (284, .iinc 6 1, 3, 0, 0, 0), (287, .goto (-23), 3, 0, 264, 0)],
  [(290, .return_, 1, 0, 0, 0)]]
set_option maxRecDepth 100000 in
noncomputable def mjT285 : List (List (Nat × mjX)) := [[(0, .iconst 0, 1, 0, 0, 0), (1, .istore_n 2, 1, 0, 0, 0), (2, .iload_n 2, 1, 0, 0, 0), (3, .sipush 128, 3, 0, 0, 0), (6, .if_icmp .ge 16, 3, 0, 22, 0), (9, .aload_n 0, 1, 0, 0, 0), (10, .getfield 107, 3, 9, 50, 1639), (13, .iload_n 2, 1, 0, 0, 0), (14, .iconst 0, 1, 0, 0, 0), (15, .bastore, 1, 0, 0, 0), (16, .iinc 2 1, 3, 0, 0, 0), (19, .goto (-17), 3, 0, 2, 0), (22, .iconst 0, 1, 0, 0, 0), (23, .istore_n 2, 1, 0, 0, 0), (24, .iload_n 2, 1, 0, 0, 0), (25, .bipush 7, 2, 0, 0, 0), (27, .if_icmp .ge 16, 3, 0, 43, 0), (30, .aload_n 0, 1, 0, 0, 0), (31, .getfield 111, 3, 9, 51, 1640)],
  [(34, .iload_n 2, 1, 0, 0, 0), (35, .iconst 0, 1, 0, 0, 0), (36, .iastore, 1, 0, 0, 0), (37, .iinc 2 1, 3, 0, 0, 0), (40, .goto (-16), 3, 0, 24, 0), (43, .aload_n 0, 1, 0, 0, 0), (44, .iconst 1, 1, 0, 0, 0), (45, .aload_n 0, 1, 0, 0, 0), (46, .getfield 23, 3, 9, 12, 1601), (49, .iconst 1, 1, 0, 0, 0), (50, .iaload, 1, 0, 0, 0), (51, .ishl, 1, 0, 0, 0), (52, .iconst 1, 1, 0, 0, 0), (53, .isub, 1, 0, 0, 0), (54, .putfield 390, 3, 9, 52, 1641), (57, .aload_n 0, 1, 0, 0, 0), (58, .iconst 0, 1, 0, 0, 0), (59, .putfield 393, 3, 9, 53, 1642), (62, .aload_n 0, 1, 0, 0, 0), (63, .iconst 0, 1, 0, 0, 0)],
  [(64, .putfield 387, 3, 9, 54, 1643), (67, .aload_n 0, 1, 0, 0, 0), (68, .iconst 0, 1, 0, 0, 0), (69, .putfield 396, 3, 9, 55, 1644), (72, .aload_n 0, 1, 0, 0, 0), (73, .iconst (-1), 1, 0, 0, 0), (74, .putfield 399, 3, 9, 56, 1645), (77, .aload_n 0, 1, 0, 0, 0), (78, .iconst (-1), 1, 0, 0, 0), (79, .putfield 402, 3, 9, 57, 1646), (82, .aload_n 0, 1, 0, 0, 0), (83, .iconst 0, 1, 0, 0, 0), (84, .iconst 0, 1, 0, 0, 0), (85, .iload_n 1, 1, 0, 0, 0), (86, .invokevirtual 384, 3, 284, 0, 2150), (89, .return_, 1, 0, 0, 0)]]
set_option maxRecDepth 100000 in
noncomputable def mjT286 : List (List (Nat × mjX)) := [[(0, .aload_n 0, 1, 0, 0, 0), (1, .iconst 0, 1, 0, 0, 0), (2, .putfield 132, 3, 9, 0, 1589), (5, .aload_n 0, 1, 0, 0, 0), (6, .iload_n 1, 1, 0, 0, 0), (7, .iconst 0, 1, 0, 0, 0), (8, .iconst 2, 1, 0, 0, 0), (9, .invokestatic 166, 3, 198, 1, 1804), (12, .ifCond .ne 7, 3, 0, 19, 0), (15, .iconst 1, 1, 0, 0, 0), (16, .goto 4, 3, 0, 20, 0), (19, .iconst 0, 1, 0, 0, 0), (20, .iconst 1, 1, 0, 0, 0), (21, .iconst 1, 1, 0, 0, 0), (22, .invokevirtual 233, 3, 197, 0, 1807), (25, .ifCond .ne 28, 3, 0, 53, 0), (28, .aload_n 0, 1, 0, 0, 0), (29, .aload_n 0, 1, 0, 0, 0), (30, .getfield 23, 3, 9, 12, 1601)],
  [(33, .iconst 1, 1, 0, 0, 0), (34, .iaload, 1, 0, 0, 0), (35, .bipush 7, 2, 0, 0, 0), (37, .if_icmp .le 7, 3, 0, 44, 0), (40, .iconst 1, 1, 0, 0, 0), (41, .goto 4, 3, 0, 45, 0), (44, .iconst 0, 1, 0, 0, 0), (45, .iconst 2, 1, 0, 0, 0), (46, .iconst 2, 1, 0, 0, 0), (47, .invokevirtual 233, 3, 197, 0, 1807), (50, .ifCond .eq 5, 3, 0, 55, 0), (53, .iconst 0, 1, 0, 0, 0), (54, .ireturn, 1, 0, 0, 0), (55, .aload_n 0, 1, 0, 0, 0), (56, .aload_n 0, 1, 0, 0, 0), (57, .getfield 23, 3, 9, 12, 1601), (60, .iconst 5, 1, 0, 0, 0), (61, .iaload, 1, 0, 0, 0), (62, .invokevirtual 405, 3, 285, 0, 2146)],
  [(65, .iload_n 1, 1, 0, 0, 0), (66, .ifCond .ne 10, 3, 0, 76, 0), (69, .aload_n 0, 1, 0, 0, 0), (70, .getfield 387, 3, 9, 54, 1643), (73, .goto 32, 3, 0, 105, 0), (76, .iload_n 1, 1, 0, 0, 0), (77, .iconst 1, 1, 0, 0, 0), (78, .if_icmp .ne 10, 3, 0, 88, 0), (81, .aload_n 0, 1, 0, 0, 0), (82, .getfield 390, 3, 9, 52, 1641), (85, .goto 20, 3, 0, 105, 0), (88, .iconst 1, 1, 0, 0, 0), (89, .aload_n 0, 1, 0, 0, 0), (90, .getfield 23, 3, 9, 12, 1601), (93, .iconst 1, 1, 0, 0, 0), (94, .iaload, 1, 0, 0, 0), (95, .ishl, 1, 0, 0, 0)],
  [(96, .iconst 1, 1, 0, 0, 0), (97, .isub, 1, 0, 0, 0), (98, .aload_n 0, 1, 0, 0, 0), (99, .getfield 393, 3, 9, 53, 1642), (102, .iconst (-1), 1, 0, 0, 0), (103, .ixor, 1, 0, 0, 0), (104, .iand, 1, 0, 0, 0), (105, .ireturn, 1, 0, 0, 0)]]
set_option maxRecDepth 100000 in
noncomputable def mjT287 : List (List (Nat × mjX)) := [[(0, .aload_n 0, 1, 0, 0, 0), (1, .iconst 0, 1, 0, 0, 0), (2, .putfield 132, 3, 9, 0, 1589), (5, .aload_n 0, 1, 0, 0, 0), (6, .aload_n 0, 1, 0, 0, 0), (7, .iload_n 1, 1, 0, 0, 0), (8, .invokevirtual 303, 3, 243, 0, 1955), (11, .ifCond .ne 7, 3, 0, 18, 0), (14, .iconst 1, 1, 0, 0, 0), (15, .goto 4, 3, 0, 19, 0), (18, .iconst 0, 1, 0, 0, 0), (19, .iconst 1, 1, 0, 0, 0), (20, .iconst 0, 1, 0, 0, 0), (21, .invokevirtual 233, 3, 197, 0, 1807), (24, .ifCond .ne 28, 3, 0, 52, 0), (27, .aload_n 0, 1, 0, 0, 0), (28, .aload_n 0, 1, 0, 0, 0), (29, .getfield 23, 3, 9, 12, 1601)],
  [(32, .iconst 1, 1, 0, 0, 0), (33, .iaload, 1, 0, 0, 0), (34, .bipush 7, 2, 0, 0, 0), (36, .if_icmp .le 7, 3, 0, 43, 0), (39, .iconst 1, 1, 0, 0, 0), (40, .goto 4, 3, 0, 44, 0), (43, .iconst 0, 1, 0, 0, 0), (44, .iconst 2, 1, 0, 0, 0), (45, .iconst 2, 1, 0, 0, 0), (46, .invokevirtual 233, 3, 197, 0, 1807), (49, .ifCond .eq 5, 3, 0, 54, 0), (52, .iconst 0, 1, 0, 0, 0), (53, .ireturn, 1, 0, 0, 0), (54, .aload_n 0, 1, 0, 0, 0), (55, .aload_n 0, 1, 0, 0, 0), (56, .getfield 23, 3, 9, 12, 1601), (59, .iconst 5, 1, 0, 0, 0), (60, .iaload, 1, 0, 0, 0), (61, .invokevirtual 405, 3, 285, 0, 2146)],
  [(64, .aload_n 0, 1, 0, 0, 0), (65, .getfield 111, 3, 9, 51, 1640), (68, .iload_n 1, 1, 0, 0, 0), (69, .iaload, 1, 0, 0, 0), (70, .ireturn, 1, 0, 0, 0)]]
set_option maxRecDepth 100000 in
noncomputable def mjT288 : List (List (Nat × mjX)) := [[(0, .aload_n 0, 1, 0, 0, 0), (1, .iconst 0, 1, 0, 0, 0), (2, .putfield 132, 3, 9, 0, 1589), (5, .aload_n 0, 1, 0, 0, 0), (6, .aload_n 0, 1, 0, 0, 0), (7, .getfield 23, 3, 9, 12, 1601), (10, .iconst 1, 1, 0, 0, 0), (11, .iaload, 1, 0, 0, 0), (12, .bipush 7, 2, 0, 0, 0), (14, .if_icmp .le 7, 3, 0, 21, 0), (17, .iconst 1, 1, 0, 0, 0), (18, .goto 4, 3, 0, 22, 0), (21, .iconst 0, 1, 0, 0, 0), (22, .iconst 1, 1, 0, 0, 0), (23, .iconst 2, 1, 0, 0, 0), (24, .invokevirtual 233, 3, 197, 0, 1807), (27, .ifCond .eq 5, 3, 0, 32, 0), (30, .iconst 0, 1, 0, 0, 0), (31, .ireturn, 1, 0, 0, 0)],
  [(32, .aload_n 0, 1, 0, 0, 0), (33, .aload_n 0, 1, 0, 0, 0), (34, .getfield 23, 3, 9, 12, 1601), (37, .iconst 5, 1, 0, 0, 0), (38, .iaload, 1, 0, 0, 0), (39, .invokevirtual 405, 3, 285, 0, 2146), (42, .iconst 0, 1, 0, 0, 0), (43, .istore_n 1, 1, 0, 0, 0), (44, .iload_n 1, 1, 0, 0, 0), (45, .aload_n 0, 1, 0, 0, 0), (46, .getfield 23, 3, 9, 12, 1601), (49, .iconst 1, 1, 0, 0, 0), (50, .iaload, 1, 0, 0, 0), (51, .if_icmp .ge 21, 3, 0, 72, 0), (54, .aload_n 0, 1, 0, 0, 0), (55, .getfield 54, 3, 9, 21, 1610), (58, .iload_n 1, 1, 0, 0, 0), (59, .aload_n 0, 1, 0, 0, 0), (60, .getfield 114, 3, 9, 58, 1647), (63, .iload_n 1, 1, 0, 0, 0)],
  [(64, .iaload, 1, 0, 0, 0), (65, .iastore, 1, 0, 0, 0), (66, .iinc 1 1, 3, 0, 0, 0), (69, .goto (-25), 3, 0, 44, 0), (72, .aload_n 0, 1, 0, 0, 0), (73, .getfield 399, 3, 9, 56, 1645), (76, .ireturn, 1, 0, 0, 0)]]
set_option maxRecDepth 100000 in
noncomputable def mjT289 : List (List (Nat × mjX)) := [[(0, .aload_n 0, 1, 0, 0, 0), (1, .iconst 0, 1, 0, 0, 0), (2, .putfield 132, 3, 9, 0, 1589), (5, .aload_n 0, 1, 0, 0, 0), (6, .iload_n 1, 1, 0, 0, 0), (7, .iconst 0, 1, 0, 0, 0), (8, .iconst 4, 1, 0, 0, 0), (9, .invokestatic 166, 3, 198, 1, 1804), (12, .ifCond .ne 7, 3, 0, 19, 0), (15, .iconst 1, 1, 0, 0, 0), (16, .goto 4, 3, 0, 20, 0), (19, .iconst 0, 1, 0, 0, 0), (20, .iconst 1, 1, 0, 0, 0), (21, .iconst 1, 1, 0, 0, 0), (22, .invokevirtual 233, 3, 197, 0, 1807), (25, .ifCond .ne 28, 3, 0, 53, 0), (28, .aload_n 0, 1, 0, 0, 0), (29, .aload_n 0, 1, 0, 0, 0), (30, .getfield 23, 3, 9, 12, 1601)],
  [(33, .iconst 1, 1, 0, 0, 0), (34, .iaload, 1, 0, 0, 0), (35, .bipush 7, 2, 0, 0, 0), (37, .if_icmp .le 7, 3, 0, 44, 0), (40, .iconst 1, 1, 0, 0, 0), (41, .goto 4, 3, 0, 45, 0), (44, .iconst 0, 1, 0, 0, 0), (45, .iconst 2, 1, 0, 0, 0), (46, .iconst 2, 1, 0, 0, 0), (47, .invokevirtual 233, 3, 197, 0, 1807), (50, .ifCond .eq 5, 3, 0, 55, 0), (53, .iconst 0, 1, 0, 0, 0), (54, .ireturn, 1, 0, 0, 0), (55, .aload_n 0, 1, 0, 0, 0), (56, .iload_n 1, 1, 0, 0, 0), (57, .invokevirtual 405, 3, 285, 0, 2146), (60, .aload_n 0, 1, 0, 0, 0), (61, .getfield 396, 3, 9, 55, 1644)],
  [(64, .ireturn, 1, 0, 0, 0)]]
set_option maxRecDepth 100000 in
noncomputable def mjT290 : List (List (Nat × mjX)) := [[(0, .aload_n 0, 1, 0, 0, 0), (1, .iconst 0, 1, 0, 0, 0), (2, .putfield 132, 3, 9, 0, 1589), (5, .aload_n 0, 1, 0, 0, 0), (6, .iload_n 1, 1, 0, 0, 0), (7, .iconst 0, 1, 0, 0, 0), (8, .iconst 1, 1, 0, 0, 0), (9, .invokestatic 166, 3, 198, 1, 1804), (12, .ifCond .ne 7, 3, 0, 19, 0), (15, .iconst 1, 1, 0, 0, 0), (16, .goto 4, 3, 0, 20, 0), (19, .iconst 0, 1, 0, 0, 0), (20, .iconst 1, 1, 0, 0, 0), (21, .iconst 1, 1, 0, 0, 0), (22, .invokevirtual 233, 3, 197, 0, 1807), (25, .ifCond .ne 28, 3, 0, 53, 0), (28, .aload_n 0, 1, 0, 0, 0), (29, .aload_n 0, 1, 0, 0, 0), (30, .getfield 23, 3, 9, 12, 1601)],
  [(33, .iconst 1, 1, 0, 0, 0), (34, .iaload, 1, 0, 0, 0), (35, .bipush 7, 2, 0, 0, 0), (37, .if_icmp .le 7, 3, 0, 44, 0), (40, .iconst 1, 1, 0, 0, 0), (41, .goto 4, 3, 0, 45, 0), (44, .iconst 0, 1, 0, 0, 0), (45, .iconst 2, 1, 0, 0, 0), (46, .iconst 2, 1, 0, 0, 0), (47, .invokevirtual 233, 3, 197, 0, 1807), (50, .ifCond .eq 5, 3, 0, 55, 0), (53, .lconst 0, 1, 0, 0, 0), (54, .lreturn, 1, 0, 0, 0), (55, .aload_n 0, 1, 0, 0, 0), (56, .aload_n 0, 1, 0, 0, 0), (57, .getfield 23, 3, 9, 12, 1601), (60, .iconst 5, 1, 0, 0, 0), (61, .iaload, 1, 0, 0, 0), (62, .invokevirtual 405, 3, 285, 0, 2146)],
  [(65, .iload_n 1, 1, 0, 0, 0), (66, .ifCond .ne 9, 3, 0, 75, 0), (69, .aload_n 0, 1, 0, 0, 0), (70, .getfield 402, 3, 9, 57, 1646), (73, .i2l, 1, 0, 0, 0), (74, .lreturn, 1, 0, 0, 0), (75, .lconst 0, 1, 0, 0, 0), (76, .lstore_n 2, 1, 0, 0, 0), (77, .iconst 0, 1, 0, 0, 0), (78, .istore 4, 2, 0, 0, 0), (80, .iload 4, 2, 0, 0, 0), (82, .aload_n 0, 1, 0, 0, 0), (83, .getfield 23, 3, 9, 12, 1601), (86, .iconst 1, 1, 0, 0, 0), (87, .iaload, 1, 0, 0, 0), (88, .if_icmp .ge 24, 3, 0, 112, 0), (91, .ldc2_w 408, 3, 16, 0, 2170), (94, .lload_n 2, 1, 0, 0, 0), (95, .lmul, 1, 0, 0, 0)],
  [(96, .aload_n 0, 1, 0, 0, 0), (97, .getfield 117, 3, 9, 59, 1648), (100, .iload 4, 2, 0, 0, 0), (102, .iaload, 1, 0, 0, 0), (103, .i2l, 1, 0, 0, 0), (104, .ladd, 1, 0, 0, 0), (105, .lstore_n 2, 1, 0, 0, 0), (106, .iinc 4 1, 3, 0, 0, 0), (109, .goto (-29), 3, 0, 80, 0), (112, .lload_n 2, 1, 0, 0, 0), (113, .lreturn, 1, 0, 0, 0)]]
set_option maxRecDepth 100000 in
noncomputable def mjT291 : List (List (Nat × mjX)) := [[(0, .iload_n 1, 1, 0, 0, 0), (1, .istore_n 2, 1, 0, 0, 0), (2, .aload_n 0, 1, 0, 0, 0), (3, .aload_n 0, 1, 0, 0, 0), (4, .getfield 23, 3, 9, 12, 1601), (7, .iconst 1, 1, 0, 0, 0), (8, .iaload, 1, 0, 0, 0), (9, .putfield 357, 3, 9, 43, 1632), (12, .iconst 0, 1, 0, 0, 0), (13, .istore_n 3, 1, 0, 0, 0), (14, .iload_n 3, 1, 0, 0, 0), (15, .aload_n 0, 1, 0, 0, 0), (16, .getfield 357, 3, 9, 43, 1632), (19, .if_icmp .ge 16, 3, 0, 35, 0), (22, .aload_n 0, 1, 0, 0, 0), (23, .getfield 77, 3, 9, 34, 1623), (26, .iload_n 3, 1, 0, 0, 0), (27, .iload_n 3, 1, 0, 0, 0), (28, .iastore, 1, 0, 0, 0), (29, .iinc 3 1, 3, 0, 0, 0)],
  [(32, .goto (-18), 3, 0, 14, 0), (35, .aload_n 0, 1, 0, 0, 0), (36, .getfield 357, 3, 9, 43, 1632), (39, .iconst 1, 1, 0, 0, 0), (40, .isub, 1, 0, 0, 0), (41, .istore_n 3, 1, 0, 0, 0), (42, .iload_n 3, 1, 0, 0, 0), (43, .ifCond .le 63, 3, 0, 106, 0), (46, .iload_n 2, 1, 0, 0, 0), (47, .ldc_w 410, 3, 1103515245, 0, 2179), (50, .imul, 1, 0, 0, 0), (51, .sipush 12345, 3, 0, 0, 0), (54, .iadd, 1, 0, 0, 0), (55, .istore_n 2, 1, 0, 0, 0), (56, .iload_n 2, 1, 0, 0, 0), (57, .bipush 16, 2, 0, 0, 0), (59, .ishr, 1, 0, 0, 0), (60, .sipush 32767, 3, 0, 0, 0), (63, .iand, 1, 0, 0, 0)],
  [(64, .iload_n 3, 1, 0, 0, 0), (65, .iconst 1, 1, 0, 0, 0), (66, .iadd, 1, 0, 0, 0), (67, .irem, 1, 0, 0, 0), (68, .istore 4, 2, 0, 0, 0), (70, .aload_n 0, 1, 0, 0, 0), (71, .getfield 77, 3, 9, 34, 1623), (74, .iload_n 3, 1, 0, 0, 0), (75, .iaload, 1, 0, 0, 0), (76, .istore 5, 2, 0, 0, 0), (78, .aload_n 0, 1, 0, 0, 0), (79, .getfield 77, 3, 9, 34, 1623), (82, .iload_n 3, 1, 0, 0, 0), (83, .aload_n 0, 1, 0, 0, 0), (84, .getfield 77, 3, 9, 34, 1623), (87, .iload 4, 2, 0, 0, 0), (89, .iaload, 1, 0, 0, 0), (90, .iastore, 1, 0, 0, 0), (91, .aload_n 0, 1, 0, 0, 0), (92, .getfield 77, 3, 9, 34, 1623), (95, .iload 4, 2, 0, 0, 0)],
  [(97, .iload 5, 2, 0, 0, 0), (99, .iastore, 1, 0, 0, 0), (100, .iinc 3 (-1), 3, 0, 0, 0), (103, .goto (-61), 3, 0, 42, 0), (106, .return_, 1, 0, 0, 0)]]
set_option maxRecDepth 100000 in
noncomputable def mjT292 : List (List (Nat × mjX)) := [[(0, .aload_n 0, 1, 0, 0, 0), (1, .iconst 0, 1, 0, 0, 0), (2, .putfield 132, 3, 9, 0, 1589), (5, .aload_n 0, 1, 0, 0, 0), (6, .iload_n 1, 1, 0, 0, 0), (7, .iconst 0, 1, 0, 0, 0), (8, .iconst 4, 1, 0, 0, 0), (9, .invokestatic 166, 3, 198, 1, 1804), (12, .ifCond .eq 13, 3, 0, 25, 0), (15, .iload_n 3, 1, 0, 0, 0), (16, .iconst 1, 1, 0, 0, 0), (17, .bipush 60, 2, 0, 0, 0), (19, .invokestatic 166, 3, 198, 1, 1804), (22, .ifCond .ne 7, 3, 0, 29, 0), (25, .iconst 1, 1, 0, 0, 0), (26, .goto 4, 3, 0, 30, 0), (29, .iconst 0, 1, 0, 0, 0), (30, .iconst 1, 1, 0, 0, 0), (31, .iconst 1, 1, 0, 0, 0)],
  [(32, .invokevirtual 233, 3, 197, 0, 1807), (35, .ifCond .eq 5, 3, 0, 40, 0), (38, .iconst 0, 1, 0, 0, 0), (39, .ireturn, 1, 0, 0, 0), (40, .iconst 0, 1, 0, 0, 0), (41, .istore 4, 2, 0, 0, 0), (43, .iconst 0, 1, 0, 0, 0), (44, .istore 5, 2, 0, 0, 0), (46, .iload 5, 2, 0, 0, 0), (48, .iload_n 3, 1, 0, 0, 0), (49, .if_icmp .ge 36, 3, 0, 85, 0), (52, .aload_n 0, 1, 0, 0, 0), (53, .iload_n 2, 1, 0, 0, 0), (54, .iload 5, 2, 0, 0, 0), (56, .iadd, 1, 0, 0, 0), (57, .invokevirtual 411, 3, 291, 0, 2175), (60, .iload 4, 2, 0, 0, 0), (62, .aload_n 0, 1, 0, 0, 0), (63, .iload_n 1, 1, 0, 0, 0)],
  [(64, .invokevirtual 372, 3, 269, 0, 2027), (67, .aload_n 0, 1, 0, 0, 0), (68, .invokevirtual 315, 3, 253, 0, 1986), (71, .iand, 1, 0, 0, 0), (72, .i2l, 1, 0, 0, 0), (73, .invokestatic 249, 3, 225, 1, 1896), (76, .iadd, 1, 0, 0, 0), (77, .istore 4, 2, 0, 0, 0), (79, .iinc 5 1, 3, 0, 0, 0), (82, .goto (-36), 3, 0, 46, 0), (85, .iload 4, 2, 0, 0, 0), (87, .ireturn, 1, 0, 0, 0)]]
set_option maxRecDepth 100000 in
noncomputable def mjT293 : List (List (Nat × mjX)) := [[(0, .aload_n 0, 1, 0, 0, 0), (1, .iconst 0, 1, 0, 0, 0), (2, .putfield 132, 3, 9, 0, 1589), (5, .iload_n 2, 1, 0, 0, 0), (6, .iconst 0, 1, 0, 0, 0), (7, .aload_n 0, 1, 0, 0, 0), (8, .getfield 23, 3, 9, 12, 1601), (11, .iconst 1, 1, 0, 0, 0), (12, .iaload, 1, 0, 0, 0), (13, .iconst 1, 1, 0, 0, 0), (14, .isub, 1, 0, 0, 0), (15, .invokestatic 166, 3, 198, 1, 1804), (18, .ifCond .ne 5, 3, 0, 23, 0), (21, .iconst (-1), 1, 0, 0, 0), (22, .ireturn, 1, 0, 0, 0), (23, .aload_n 0, 1, 0, 0, 0), (24, .iload_n 1, 1, 0, 0, 0), (25, .invokevirtual 411, 3, 291, 0, 2175), (28, .aload_n 0, 1, 0, 0, 0), (29, .getfield 77, 3, 9, 34, 1623)],
  [(32, .iload_n 2, 1, 0, 0, 0), (33, .iaload, 1, 0, 0, 0), (34, .ireturn, 1, 0, 0, 0)]]
set_option maxRecDepth 100000 in
noncomputable def mjT294 : List (List (Nat × mjX)) := [[(0, .aload_n 0, 1, 0, 0, 0), (1, .iconst 0, 1, 0, 0, 0), (2, .putfield 132, 3, 9, 0, 1589), (5, .aload_n 0, 1, 0, 0, 0), (6, .aload_n 0, 1, 0, 0, 0), (7, .iload_n 1, 1, 0, 0, 0), (8, .invokevirtual 303, 3, 243, 0, 1955), (11, .ifCond .ne 7, 3, 0, 18, 0), (14, .iconst 1, 1, 0, 0, 0), (15, .goto 4, 3, 0, 19, 0), (18, .iconst 0, 1, 0, 0, 0), (19, .iconst 1, 1, 0, 0, 0), (20, .iconst 0, 1, 0, 0, 0), (21, .invokevirtual 233, 3, 197, 0, 1807), (24, .ifCond .ne 27, 3, 0, 51, 0), (27, .aload_n 0, 1, 0, 0, 0), (28, .iload_n 3, 1, 0, 0, 0), (29, .iconst 1, 1, 0, 0, 0), (30, .bipush 60, 2, 0, 0, 0)],
  [(32, .invokestatic 166, 3, 198, 1, 1804), (35, .ifCond .ne 7, 3, 0, 42, 0), (38, .iconst 1, 1, 0, 0, 0), (39, .goto 4, 3, 0, 43, 0), (42, .iconst 0, 1, 0, 0, 0), (43, .iconst 2, 1, 0, 0, 0), (44, .iconst 1, 1, 0, 0, 0), (45, .invokevirtual 233, 3, 197, 0, 1807), (48, .ifCond .eq 5, 3, 0, 53, 0), (51, .iconst 0, 1, 0, 0, 0), (52, .ireturn, 1, 0, 0, 0), (53, .iconst 0, 1, 0, 0, 0), (54, .istore 4, 2, 0, 0, 0), (56, .iconst 0, 1, 0, 0, 0), (57, .istore 5, 2, 0, 0, 0), (59, .iload 5, 2, 0, 0, 0), (61, .iload_n 3, 1, 0, 0, 0), (62, .if_icmp .ge 36, 3, 0, 98, 0)],
  [(65, .aload_n 0, 1, 0, 0, 0), (66, .iload_n 2, 1, 0, 0, 0), (67, .iload 5, 2, 0, 0, 0), (69, .iadd, 1, 0, 0, 0), (70, .invokevirtual 411, 3, 291, 0, 2175), (73, .iload 4, 2, 0, 0, 0), (75, .aload_n 0, 1, 0, 0, 0), (76, .aload_n 0, 1, 0, 0, 0), (77, .getfield 23, 3, 9, 12, 1601), (80, .iconst 5, 1, 0, 0, 0), (81, .iaload, 1, 0, 0, 0), (82, .invokevirtual 372, 3, 269, 0, 2027), (85, .iload_n 1, 1, 0, 0, 0), (86, .ishr, 1, 0, 0, 0), (87, .iconst 1, 1, 0, 0, 0), (88, .iand, 1, 0, 0, 0), (89, .iadd, 1, 0, 0, 0), (90, .istore 4, 2, 0, 0, 0), (92, .iinc 5 1, 3, 0, 0, 0), (95, .goto (-36), 3, 0, 59, 0)],
  [(98, .iload 4, 2, 0, 0, 0), (100, .ireturn, 1, 0, 0, 0)]]
set_option maxRecDepth 100000 in
noncomputable def mjT295 : List (List (Nat × mjX)) := [[(0, .aload_n 0, 1, 0, 0, 0), (1, .aload_n 0, 1, 0, 0, 0), (2, .iload_n 1, 1, 0, 0, 0), (3, .invokevirtual 414, 3, 245, 0, 2196), (6, .ifCond .eq 10, 3, 0, 16, 0), (9, .iload_n 2, 1, 0, 0, 0), (10, .invokestatic 306, 3, 244, 1, 1967), (13, .ifCond .ne 7, 3, 0, 20, 0), (16, .iconst 1, 1, 0, 0, 0), (17, .goto 4, 3, 0, 21, 0), (20, .iconst 0, 1, 0, 0, 0), (21, .iconst 1, 1, 0, 0, 0), (22, .iconst 1, 1, 0, 0, 0), (23, .invokevirtual 233, 3, 197, 0, 1807), (26, .ireturn, 1, 0, 0, 0)]]
set_option maxRecDepth 100000 in
noncomputable def mjT296 : List (List (Nat × mjX)) := [[(0, .aload_n 0, 1, 0, 0, 0), (1, .iconst 0, 1, 0, 0, 0), (2, .putfield 132, 3, 9, 0, 1589), (5, .aload_n 0, 1, 0, 0, 0), (6, .iload_n 1, 1, 0, 0, 0), (7, .iload_n 2, 1, 0, 0, 0), (8, .invokevirtual 417, 3, 295, 0, 2192), (11, .ifCond .eq 5, 3, 0, 16, 0), (14, .iconst 0, 1, 0, 0, 0), (15, .ireturn, 1, 0, 0, 0), (16, .aload_n 0, 1, 0, 0, 0), (17, .iload_n 1, 1, 0, 0, 0), (18, .iload_n 2, 1, 0, 0, 0), (19, .invokevirtual 378, 3, 275, 0, 2110), (22, .lconst 0, 1, 0, 0, 0), (23, .lcmp, 1, 0, 0, 0), (24, .ifCond .eq 7, 3, 0, 31, 0), (27, .iconst 1, 1, 0, 0, 0), (28, .goto 4, 3, 0, 32, 0), (31, .iconst 0, 1, 0, 0, 0)],
  [(32, .ireturn, 1, 0, 0, 0)]]
set_option maxRecDepth 100000 in
noncomputable def mjT297 : List (List (Nat × mjX)) := [[(0, .aload_n 0, 1, 0, 0, 0), (1, .iconst 0, 1, 0, 0, 0), (2, .putfield 132, 3, 9, 0, 1589), (5, .aload_n 0, 1, 0, 0, 0), (6, .iload_n 1, 1, 0, 0, 0), (7, .iload_n 2, 1, 0, 0, 0), (8, .invokevirtual 417, 3, 295, 0, 2192), (11, .ifCond .eq 5, 3, 0, 16, 0), (14, .lconst 0, 1, 0, 0, 0), (15, .lreturn, 1, 0, 0, 0), (16, .aload_n 0, 1, 0, 0, 0), (17, .iload_n 1, 1, 0, 0, 0), (18, .iload_n 2, 1, 0, 0, 0), (19, .invokevirtual 378, 3, 275, 0, 2110), (22, .lreturn, 1, 0, 0, 0)]]
set_option maxRecDepth 100000 in
noncomputable def mjT298 : List (List (Nat × mjX)) := [[(0, .iconst 0, 1, 0, 0, 0), (1, .istore_n 3, 1, 0, 0, 0), (2, .iconst 0, 1, 0, 0, 0), (3, .istore 4, 2, 0, 0, 0), (5, .iload 4, 2, 0, 0, 0), (7, .aload_n 0, 1, 0, 0, 0), (8, .getfield 23, 3, 9, 12, 1601), (11, .iconst 1, 1, 0, 0, 0), (12, .iaload, 1, 0, 0, 0), (13, .if_icmp .ge 38, 3, 0, 51, 0), (16, .iload_n 3, 1, 0, 0, 0), (17, .lload_n 1, 1, 0, 0, 0), (18, .aload_n 0, 1, 0, 0, 0), (19, .getfield 36, 3, 9, 16, 1605), (22, .iload 4, 2, 0, 0, 0), (24, .laload, 1, 0, 0, 0), (25, .ldc2_w 48, 3, 18446744073709551615, 0, 1575), (28, .lxor, 1, 0, 0, 0), (29, .land, 1, 0, 0, 0), (30, .lconst 0, 1, 0, 0, 0), (31, .lcmp, 1, 0, 0, 0)],
  [(32, .ifCond .ne 10, 3, 0, 42, 0), (35, .iconst 1, 1, 0, 0, 0), (36, .iload 4, 2, 0, 0, 0), (38, .ishl, 1, 0, 0, 0), (39, .goto 4, 3, 0, 43, 0), (42, .iconst 0, 1, 0, 0, 0), (43, .ior, 1, 0, 0, 0), (44, .istore_n 3, 1, 0, 0, 0), (45, .iinc 4 1, 3, 0, 0, 0), (48, .goto (-43), 3, 0, 5, 0), (51, .iload_n 3, 1, 0, 0, 0), (52, .ireturn, 1, 0, 0, 0)]]
set_option maxRecDepth 100000 in
noncomputable def mjT299 : List (List (Nat × mjX)) := [[(0, .aload_n 0, 1, 0, 0, 0), (1, .iconst 0, 1, 0, 0, 0), (2, .putfield 132, 3, 9, 0, 1589), (5, .aload_n 0, 1, 0, 0, 0), (6, .iload_n 1, 1, 0, 0, 0), (7, .iload_n 2, 1, 0, 0, 0), (8, .invokevirtual 417, 3, 295, 0, 2192), (11, .ifCond .eq 5, 3, 0, 16, 0), (14, .iconst 0, 1, 0, 0, 0), (15, .ireturn, 1, 0, 0, 0), (16, .aload_n 0, 1, 0, 0, 0), (17, .aload_n 0, 1, 0, 0, 0), (18, .iload_n 1, 1, 0, 0, 0), (19, .iload_n 2, 1, 0, 0, 0), (20, .invokevirtual 378, 3, 275, 0, 2110), (23, .invokevirtual 420, 3, 298, 0, 2208), (26, .ireturn, 1, 0, 0, 0)]]
set_option maxRecDepth 100000 in
noncomputable def mjT300 : List (List (Nat × mjX)) := [[(0, .aload_n 0, 1, 0, 0, 0), (1, .iload_n 1, 1, 0, 0, 0), (2, .iload_n 2, 1, 0, 0, 0), (3, .invokevirtual 378, 3, 275, 0, 2110), (6, .lconst 0, 1, 0, 0, 0), (7, .lcmp, 1, 0, 0, 0), (8, .ifCond .ne 5, 3, 0, 13, 0), (11, .iconst 0, 1, 0, 0, 0), (12, .ireturn, 1, 0, 0, 0), (13, .iconst 0, 1, 0, 0, 0), (14, .istore_n 3, 1, 0, 0, 0), (15, .iload_n 3, 1, 0, 0, 0), (16, .aload_n 0, 1, 0, 0, 0), (17, .getfield 23, 3, 9, 12, 1601), (20, .iconst 1, 1, 0, 0, 0), (21, .iaload, 1, 0, 0, 0), (22, .if_icmp .ge 34, 3, 0, 56, 0), (25, .iload_n 1, 1, 0, 0, 0), (26, .iload_n 3, 1, 0, 0, 0), (27, .ishr, 1, 0, 0, 0), (28, .iconst 1, 1, 0, 0, 0), (29, .iand, 1, 0, 0, 0), (30, .ifCond .ne 20, 3, 0, 50, 0)],
  [(33, .aload_n 0, 1, 0, 0, 0), (34, .iload_n 1, 1, 0, 0, 0), (35, .iconst 1, 1, 0, 0, 0), (36, .iload_n 3, 1, 0, 0, 0), (37, .ishl, 1, 0, 0, 0), (38, .ior, 1, 0, 0, 0), (39, .iload_n 2, 1, 0, 0, 0), (40, .invokevirtual 378, 3, 275, 0, 2110), (43, .lconst 0, 1, 0, 0, 0), (44, .lcmp, 1, 0, 0, 0), (45, .ifCond .eq 5, 3, 0, 50, 0), (48, .iconst 0, 1, 0, 0, 0), (49, .ireturn, 1, 0, 0, 0), (50, .iinc 3 1, 3, 0, 0, 0), (53, .goto (-38), 3, 0, 15, 0), (56, .iconst 1, 1, 0, 0, 0), (57, .ireturn, 1, 0, 0, 0)]]
set_option maxRecDepth 100000 in
noncomputable def mjT301 : List (List (Nat × mjX)) := [[(0, .aload_n 0, 1, 0, 0, 0), (1, .iconst 0, 1, 0, 0, 0), (2, .putfield 132, 3, 9, 0, 1589), (5, .aload_n 0, 1, 0, 0, 0), (6, .iload_n 1, 1, 0, 0, 0), (7, .invokestatic 306, 3, 244, 1, 1967), (10, .ifCond .eq 12, 3, 0, 22, 0), (13, .iload_n 2, 1, 0, 0, 0), (14, .iconst 0, 1, 0, 0, 0), (15, .iconst 3, 1, 0, 0, 0), (16, .invokestatic 166, 3, 198, 1, 1804), (19, .ifCond .ne 7, 3, 0, 26, 0), (22, .iconst 1, 1, 0, 0, 0), (23, .goto 4, 3, 0, 27, 0), (26, .iconst 0, 1, 0, 0, 0), (27, .iconst 1, 1, 0, 0, 0), (28, .iconst 1, 1, 0, 0, 0), (29, .invokevirtual 233, 3, 197, 0, 1807)],
  [(32, .ifCond .eq 5, 3, 0, 37, 0), (35, .iconst 0, 1, 0, 0, 0), (36, .ireturn, 1, 0, 0, 0), (37, .iconst 0, 1, 0, 0, 0), (38, .istore_n 3, 1, 0, 0, 0), (39, .iconst (-1), 1, 0, 0, 0), (40, .istore 4, 2, 0, 0, 0), (42, .iconst 0, 1, 0, 0, 0), (43, .istore 5, 2, 0, 0, 0), (45, .iconst (-1), 1, 0, 0, 0), (46, .istore 6, 2, 0, 0, 0), (48, .iconst 0, 1, 0, 0, 0), (49, .istore 7, 2, 0, 0, 0), (51, .iload 7, 2, 0, 0, 0), (53, .iconst 1, 1, 0, 0, 0), (54, .aload_n 0, 1, 0, 0, 0), (55, .getfield 23, 3, 9, 12, 1601), (58, .iconst 1, 1, 0, 0, 0), (59, .iaload, 1, 0, 0, 0), (60, .ishl, 1, 0, 0, 0), (61, .if_icmp .ge 136, 3, 0, 197, 0)],
  [(64, .aload_n 0, 1, 0, 0, 0), (65, .iload 7, 2, 0, 0, 0), (67, .iload_n 1, 1, 0, 0, 0), (68, .invokevirtual 378, 3, 275, 0, 2110), (71, .lconst 0, 1, 0, 0, 0), (72, .lcmp, 1, 0, 0, 0), (73, .ifCond .eq 7, 3, 0, 80, 0), (76, .iconst 1, 1, 0, 0, 0), (77, .goto 4, 3, 0, 81, 0), (80, .iconst 0, 1, 0, 0, 0), (81, .istore 8, 2, 0, 0, 0), (83, .iload_n 3, 1, 0, 0, 0), (84, .iload 8, 2, 0, 0, 0), (86, .ifCond .eq 7, 3, 0, 93, 0), (89, .iconst 1, 1, 0, 0, 0), (90, .goto 4, 3, 0, 94, 0), (93, .iconst 0, 1, 0, 0, 0), (94, .iadd, 1, 0, 0, 0), (95, .istore_n 3, 1, 0, 0, 0)],
  [(96, .iload 8, 2, 0, 0, 0), (98, .ifCond .eq 29, 3, 0, 127, 0), (101, .iload 4, 2, 0, 0, 0), (103, .iconst (-1), 1, 0, 0, 0), (104, .if_icmp .eq 18, 3, 0, 122, 0), (107, .iload 7, 2, 0, 0, 0), (109, .i2l, 1, 0, 0, 0), (110, .invokestatic 249, 3, 225, 1, 1896), (113, .iload 4, 2, 0, 0, 0), (115, .i2l, 1, 0, 0, 0), (116, .invokestatic 249, 3, 225, 1, 1896), (119, .if_icmp .le 8, 3, 0, 127, 0), (122, .iload 7, 2, 0, 0, 0), (124, .goto 5, 3, 0, 129, 0), (127, .iload 4, 2, 0, 0, 0)],
  [(129, .istore 4, 2, 0, 0, 0), (131, .iload 8, 2, 0, 0, 0), (133, .ifCond .ne 29, 3, 0, 162, 0), (136, .iload 6, 2, 0, 0, 0), (138, .iconst (-1), 1, 0, 0, 0), (139, .if_icmp .eq 18, 3, 0, 157, 0), (142, .iload 7, 2, 0, 0, 0), (144, .i2l, 1, 0, 0, 0), (145, .invokestatic 249, 3, 225, 1, 1896), (148, .iload 6, 2, 0, 0, 0), (150, .i2l, 1, 0, 0, 0), (151, .invokestatic 249, 3, 225, 1, 1896), (154, .if_icmp .ge 8, 3, 0, 162, 0), (157, .iload 7, 2, 0, 0, 0), (159, .goto 5, 3, 0, 164, 0)],
  [(162, .iload 6, 2, 0, 0, 0), (164, .istore 6, 2, 0, 0, 0), (166, .iload 5, 2, 0, 0, 0), (168, .iload 8, 2, 0, 0, 0), (170, .ifCond .eq 17, 3, 0, 187, 0), (173, .aload_n 0, 1, 0, 0, 0), (174, .iload 7, 2, 0, 0, 0), (176, .iload_n 1, 1, 0, 0, 0), (177, .invokevirtual 423, 3, 300, 0, 2216), (180, .ifCond .eq 7, 3, 0, 187, 0), (183, .iconst 1, 1, 0, 0, 0), (184, .goto 4, 3, 0, 188, 0), (187, .iconst 0, 1, 0, 0, 0), (188, .iadd, 1, 0, 0, 0), (189, .istore 5, 2, 0, 0, 0), (191, .iinc 7 1, 3, 0, 0, 0)],
  [(194, .goto (-143), 3, 0, 51, 0), (197, .iload_n 2, 1, 0, 0, 0), (198, .ifCond .ne 7, 3, 0, 205, 0), (201, .iload_n 3, 1, 0, 0, 0), (202, .goto 25, 3, 0, 227, 0), (205, .iload_n 2, 1, 0, 0, 0), (206, .iconst 1, 1, 0, 0, 0), (207, .if_icmp .ne 8, 3, 0, 215, 0), (210, .iload 4, 2, 0, 0, 0), (212, .goto 15, 3, 0, 227, 0), (215, .iload_n 2, 1, 0, 0, 0), (216, .iconst 2, 1, 0, 0, 0), (217, .if_icmp .ne 8, 3, 0, 225, 0), (220, .iload 5, 2, 0, 0, 0), (222, .goto 5, 3, 0, 227, 0)],
  [(225, .iload 6, 2, 0, 0, 0), (227, .ireturn, 1, 0, 0, 0)]]
set_option maxRecDepth 100000 in
noncomputable def mjT302 : List (List (Nat × mjX)) := [[(0, .aload_n 0, 1, 0, 0, 0), (1, .iconst 0, 1, 0, 0, 0), (2, .putfield 132, 3, 9, 0, 1589), (5, .aload_n 0, 1, 0, 0, 0), (6, .iload_n 1, 1, 0, 0, 0), (7, .invokestatic 306, 3, 244, 1, 1967), (10, .ifCond .ne 7, 3, 0, 17, 0), (13, .iconst 1, 1, 0, 0, 0), (14, .goto 4, 3, 0, 18, 0), (17, .iconst 0, 1, 0, 0, 0), (18, .iconst 1, 1, 0, 0, 0), (19, .iconst 1, 1, 0, 0, 0), (20, .invokevirtual 233, 3, 197, 0, 1807), (23, .ifCond .eq 5, 3, 0, 28, 0), (26, .iconst 0, 1, 0, 0, 0), (27, .ireturn, 1, 0, 0, 0), (28, .iconst 0, 1, 0, 0, 0), (29, .istore_n 3, 1, 0, 0, 0), (30, .iconst 0, 1, 0, 0, 0), (31, .istore 4, 2, 0, 0, 0)],
  [(33, .iload 4, 2, 0, 0, 0), (35, .iconst 1, 1, 0, 0, 0), (36, .aload_n 0, 1, 0, 0, 0), (37, .getfield 23, 3, 9, 12, 1601), (40, .iconst 1, 1, 0, 0, 0), (41, .iaload, 1, 0, 0, 0), (42, .ishl, 1, 0, 0, 0), (43, .if_icmp .ge 33, 3, 0, 76, 0), (46, .aload_n 0, 1, 0, 0, 0), (47, .iload 4, 2, 0, 0, 0), (49, .iload_n 1, 1, 0, 0, 0), (50, .invokevirtual 423, 3, 300, 0, 2216), (53, .ifCond .ne 6, 3, 0, 59, 0), (56, .goto 14, 3, 0, 70, 0), (59, .iload_n 3, 1, 0, 0, 0), (60, .iload_n 2, 1, 0, 0, 0), (61, .if_icmp .ne 6, 3, 0, 67, 0)],
  [(64, .iload 4, 2, 0, 0, 0), (66, .ireturn, 1, 0, 0, 0), (67, .iinc 3 1, 3, 0, 0, 0), (70, .iinc 4 1, 3, 0, 0, 0), (73, .goto (-40), 3, 0, 33, 0), (76, .iconst (-1), 1, 0, 0, 0), (77, .ireturn, 1, 0, 0, 0)]]
set_option maxRecDepth 100000 in
noncomputable def mjT303 : List (List (Nat × mjX)) := [[(0, .aload_n 0, 1, 0, 0, 0), (1, .iconst 0, 1, 0, 0, 0), (2, .putfield 132, 3, 9, 0, 1589), (5, .aload_n 0, 1, 0, 0, 0), (6, .iload_n 1, 1, 0, 0, 0), (7, .invokestatic 306, 3, 244, 1, 1967), (10, .ifCond .ne 7, 3, 0, 17, 0), (13, .iconst 1, 1, 0, 0, 0), (14, .goto 4, 3, 0, 18, 0), (17, .iconst 0, 1, 0, 0, 0), (18, .iconst 1, 1, 0, 0, 0), (19, .iconst 1, 1, 0, 0, 0), (20, .invokevirtual 233, 3, 197, 0, 1807), (23, .ifCond .eq 5, 3, 0, 28, 0), (26, .iconst 0, 1, 0, 0, 0), (27, .ireturn, 1, 0, 0, 0), (28, .iconst (-1), 1, 0, 0, 0), (29, .istore_n 2, 1, 0, 0, 0), (30, .iconst 0, 1, 0, 0, 0), (31, .istore_n 3, 1, 0, 0, 0)],
  [(32, .iload_n 3, 1, 0, 0, 0), (33, .iconst 1, 1, 0, 0, 0), (34, .aload_n 0, 1, 0, 0, 0), (35, .getfield 23, 3, 9, 12, 1601), (38, .iconst 1, 1, 0, 0, 0), (39, .iaload, 1, 0, 0, 0), (40, .ishl, 1, 0, 0, 0), (41, .if_icmp .ge 63, 3, 0, 104, 0), (44, .aload_n 0, 1, 0, 0, 0), (45, .iload_n 3, 1, 0, 0, 0), (46, .iload_n 1, 1, 0, 0, 0), (47, .invokevirtual 378, 3, 275, 0, 2110), (50, .lstore 4, 2, 0, 0, 0), (52, .lload 4, 2, 0, 0, 0), (54, .lconst 0, 1, 0, 0, 0), (55, .lcmp, 1, 0, 0, 0), (56, .ifCond .eq 42, 3, 0, 98, 0), (59, .lload 4, 2, 0, 0, 0), (61, .aload_n 0, 1, 0, 0, 0), (62, .getfield 50, 3, 9, 20, 1609)],
  [(65, .ldc2_w 48, 3, 18446744073709551615, 0, 1575), (68, .lxor, 1, 0, 0, 0), (69, .land, 1, 0, 0, 0), (70, .lconst 0, 1, 0, 0, 0), (71, .lcmp, 1, 0, 0, 0), (72, .ifCond .ne 26, 3, 0, 98, 0), (75, .iload_n 2, 1, 0, 0, 0), (76, .iconst (-1), 1, 0, 0, 0), (77, .if_icmp .eq 19, 3, 0, 96, 0), (80, .iload_n 3, 1, 0, 0, 0), (81, .i2l, 1, 0, 0, 0), (82, .invokestatic 249, 3, 225, 1, 1896), (85, .iload_n 2, 1, 0, 0, 0), (86, .i2l, 1, 0, 0, 0), (87, .invokestatic 249, 3, 225, 1, 1896), (90, .if_icmp .lt 6, 3, 0, 96, 0), (93, .goto 5, 3, 0, 98, 0)],
  [(96, .iload_n 3, 1, 0, 0, 0), (97, .istore_n 2, 1, 0, 0, 0), (98, .iinc 3 1, 3, 0, 0, 0), (101, .goto (-69), 3, 0, 32, 0), (104, .iload_n 2, 1, 0, 0, 0), (105, .ireturn, 1, 0, 0, 0)]]
set_option maxRecDepth 100000 in
noncomputable def mjT304 : List (List (Nat × mjX)) := [[(0, .aload_n 0, 1, 0, 0, 0), (1, .iconst 0, 1, 0, 0, 0), (2, .putfield 132, 3, 9, 0, 1589), (5, .aload_n 0, 1, 0, 0, 0), (6, .iload_n 1, 1, 0, 0, 0), (7, .invokestatic 306, 3, 244, 1, 1967), (10, .ifCond .eq 12, 3, 0, 22, 0), (13, .iload_n 2, 1, 0, 0, 0), (14, .iconst 0, 1, 0, 0, 0), (15, .iconst 1, 1, 0, 0, 0), (16, .invokestatic 166, 3, 198, 1, 1804), (19, .ifCond .ne 7, 3, 0, 26, 0), (22, .iconst 1, 1, 0, 0, 0), (23, .goto 4, 3, 0, 27, 0), (26, .iconst 0, 1, 0, 0, 0), (27, .iconst 1, 1, 0, 0, 0), (28, .iconst 1, 1, 0, 0, 0), (29, .invokevirtual 233, 3, 197, 0, 1807)],
  [(32, .ifCond .eq 5, 3, 0, 37, 0), (35, .iconst 0, 1, 0, 0, 0), (36, .ireturn, 1, 0, 0, 0), (37, .iconst (-1), 1, 0, 0, 0), (38, .istore_n 3, 1, 0, 0, 0), (39, .iconst 0, 1, 0, 0, 0), (40, .istore 4, 2, 0, 0, 0), (42, .iconst 0, 1, 0, 0, 0), (43, .istore 5, 2, 0, 0, 0), (45, .iload 5, 2, 0, 0, 0), (47, .aload_n 0, 1, 0, 0, 0), (48, .getfield 23, 3, 9, 12, 1601), (51, .iconst 0, 1, 0, 0, 0), (52, .iaload, 1, 0, 0, 0), (53, .if_icmp .ge 84, 3, 0, 137, 0), (56, .aload_n 0, 1, 0, 0, 0), (57, .getfield 45, 3, 9, 19, 1608), (60, .iload_n 1, 1, 0, 0, 0), (61, .laload, 1, 0, 0, 0), (62, .iload 5, 2, 0, 0, 0)],
  [(64, .aload_n 0, 1, 0, 0, 0), (65, .getfield 23, 3, 9, 12, 1601), (68, .iconst 0, 1, 0, 0, 0), (69, .iaload, 1, 0, 0, 0), (70, .invokestatic 219, 3, 216, 1, 1889), (73, .land, 1, 0, 0, 0), (74, .invokestatic 249, 3, 225, 1, 1896), (77, .istore 6, 2, 0, 0, 0), (79, .aload_n 0, 1, 0, 0, 0), (80, .getfield 45, 3, 9, 19, 1608), (83, .iload_n 1, 1, 0, 0, 0), (84, .laload, 1, 0, 0, 0), (85, .invokestatic 249, 3, 225, 1, 1896), (88, .iload 6, 2, 0, 0, 0), (90, .isub, 1, 0, 0, 0), (91, .istore 7, 2, 0, 0, 0), (93, .iload 6, 2, 0, 0, 0), (95, .iload 7, 2, 0, 0, 0)],
  [(97, .if_icmp .le 8, 3, 0, 105, 0), (100, .iload 6, 2, 0, 0, 0), (102, .goto 5, 3, 0, 107, 0), (105, .iload 7, 2, 0, 0, 0), (107, .istore 8, 2, 0, 0, 0), (109, .iload_n 3, 1, 0, 0, 0), (110, .iconst (-1), 1, 0, 0, 0), (111, .if_icmp .eq 13, 3, 0, 124, 0), (114, .iload 8, 2, 0, 0, 0), (116, .iload 4, 2, 0, 0, 0), (118, .if_icmp .lt 6, 3, 0, 124, 0), (121, .goto 10, 3, 0, 131, 0), (124, .iload 5, 2, 0, 0, 0), (126, .istore_n 3, 1, 0, 0, 0), (127, .iload 8, 2, 0, 0, 0)],
  [(129, .istore 4, 2, 0, 0, 0), (131, .iinc 5 1, 3, 0, 0, 0), (134, .goto (-89), 3, 0, 45, 0), (137, .iload_n 2, 1, 0, 0, 0), (138, .ifCond .ne 7, 3, 0, 145, 0), (141, .iload_n 3, 1, 0, 0, 0), (142, .goto 5, 3, 0, 147, 0), (145, .iload 4, 2, 0, 0, 0), (147, .ireturn, 1, 0, 0, 0)]]
set_option maxRecDepth 100000 in
noncomputable def mjT305 : List (List (Nat × mjX)) := [[(0, .aload_n 0, 1, 0, 0, 0), (1, .iconst 0, 1, 0, 0, 0), (2, .putfield 132, 3, 9, 0, 1589), (5, .aload_n 0, 1, 0, 0, 0), (6, .iload_n 1, 1, 0, 0, 0), (7, .invokestatic 306, 3, 244, 1, 1967), (10, .ifCond .ne 7, 3, 0, 17, 0), (13, .iconst 1, 1, 0, 0, 0), (14, .goto 4, 3, 0, 18, 0), (17, .iconst 0, 1, 0, 0, 0), (18, .iconst 1, 1, 0, 0, 0), (19, .iconst 1, 1, 0, 0, 0), (20, .invokevirtual 233, 3, 197, 0, 1807), (23, .ifCond .eq 5, 3, 0, 28, 0), (26, .iconst 0, 1, 0, 0, 0), (27, .ireturn, 1, 0, 0, 0), (28, .iconst (-1), 1, 0, 0, 0), (29, .istore_n 2, 1, 0, 0, 0), (30, .iconst (-1), 1, 0, 0, 0), (31, .istore_n 3, 1, 0, 0, 0)],
  [(32, .iconst 0, 1, 0, 0, 0), (33, .istore 4, 2, 0, 0, 0), (35, .iload 4, 2, 0, 0, 0), (37, .iconst 1, 1, 0, 0, 0), (38, .aload_n 0, 1, 0, 0, 0), (39, .getfield 23, 3, 9, 12, 1601), (42, .iconst 0, 1, 0, 0, 0), (43, .iaload, 1, 0, 0, 0), (44, .ishl, 1, 0, 0, 0), (45, .if_icmp .ge 84, 3, 0, 129, 0), (48, .aload_n 0, 1, 0, 0, 0), (49, .getfield 45, 3, 9, 19, 1608), (52, .iload_n 1, 1, 0, 0, 0), (53, .laload, 1, 0, 0, 0), (54, .iload 4, 2, 0, 0, 0), (56, .lshr, 1, 0, 0, 0), (57, .lconst 1, 1, 0, 0, 0), (58, .land, 1, 0, 0, 0), (59, .lconst 0, 1, 0, 0, 0), (60, .lcmp, 1, 0, 0, 0), (61, .ifCond .ne 6, 3, 0, 67, 0)],
  [(64, .goto 59, 3, 0, 123, 0), (67, .iconst 0, 1, 0, 0, 0), (68, .istore 5, 2, 0, 0, 0), (70, .iconst 0, 1, 0, 0, 0), (71, .istore 6, 2, 0, 0, 0), (73, .iload 6, 2, 0, 0, 0), (75, .aload_n 0, 1, 0, 0, 0), (76, .getfield 23, 3, 9, 12, 1601), (79, .iconst 1, 1, 0, 0, 0), (80, .iaload, 1, 0, 0, 0), (81, .if_icmp .ge 27, 3, 0, 108, 0), (84, .iload 5, 2, 0, 0, 0), (86, .aload_n 0, 1, 0, 0, 0), (87, .getfield 36, 3, 9, 16, 1605), (90, .iload 6, 2, 0, 0, 0), (92, .laload, 1, 0, 0, 0), (93, .iload 4, 2, 0, 0, 0), (95, .lshr, 1, 0, 0, 0)],
  [(96, .lconst 1, 1, 0, 0, 0), (97, .land, 1, 0, 0, 0), (98, .l2i, 1, 0, 0, 0), (99, .iadd, 1, 0, 0, 0), (100, .istore 5, 2, 0, 0, 0), (102, .iinc 6 1, 3, 0, 0, 0), (105, .goto (-32), 3, 0, 73, 0), (108, .iload 5, 2, 0, 0, 0), (110, .iload_n 3, 1, 0, 0, 0), (111, .if_icmp .gt 6, 3, 0, 117, 0), (114, .goto 9, 3, 0, 123, 0), (117, .iload 4, 2, 0, 0, 0), (119, .istore_n 2, 1, 0, 0, 0), (120, .iload 5, 2, 0, 0, 0), (122, .istore_n 3, 1, 0, 0, 0), (123, .iinc 4 1, 3, 0, 0, 0), (126, .goto (-91), 3, 0, 35, 0)],
  [(129, .iload_n 2, 1, 0, 0, 0), (130, .ireturn, 1, 0, 0, 0)]]
set_option maxRecDepth 100000 in
noncomputable def mjT306 : List (List (Nat × mjX)) := [[(0, .aload_n 0, 1, 0, 0, 0), (1, .iconst 0, 1, 0, 0, 0), (2, .putfield 132, 3, 9, 0, 1589), (5, .aload_n 0, 1, 0, 0, 0), (6, .iload_n 1, 1, 0, 0, 0), (7, .iconst 0, 1, 0, 0, 0), (8, .aload_n 0, 1, 0, 0, 0), (9, .getfield 23, 3, 9, 12, 1601), (12, .iconst 0, 1, 0, 0, 0), (13, .iaload, 1, 0, 0, 0), (14, .iconst 1, 1, 0, 0, 0), (15, .isub, 1, 0, 0, 0), (16, .invokestatic 166, 3, 198, 1, 1804), (19, .ifCond .eq 10, 3, 0, 29, 0), (22, .iload_n 2, 1, 0, 0, 0), (23, .invokestatic 306, 3, 244, 1, 1967), (26, .ifCond .ne 7, 3, 0, 33, 0), (29, .iconst 1, 1, 0, 0, 0), (30, .goto 4, 3, 0, 34, 0)],
  [(33, .iconst 0, 1, 0, 0, 0), (34, .iconst 1, 1, 0, 0, 0), (35, .iconst 1, 1, 0, 0, 0), (36, .invokevirtual 233, 3, 197, 0, 1807), (39, .ifCond .eq 5, 3, 0, 44, 0), (42, .iconst 0, 1, 0, 0, 0), (43, .ireturn, 1, 0, 0, 0), (44, .aload_n 0, 1, 0, 0, 0), (45, .getfield 45, 3, 9, 19, 1608), (48, .iload_n 2, 1, 0, 0, 0), (49, .laload, 1, 0, 0, 0), (50, .iload_n 1, 1, 0, 0, 0), (51, .aload_n 0, 1, 0, 0, 0), (52, .getfield 23, 3, 9, 12, 1601), (55, .iconst 0, 1, 0, 0, 0), (56, .iaload, 1, 0, 0, 0), (57, .invokestatic 219, 3, 216, 1, 1889), (60, .land, 1, 0, 0, 0), (61, .lstore_n 3, 1, 0, 0, 0), (62, .aload_n 0, 1, 0, 0, 0), (63, .getfield 45, 3, 9, 19, 1608)],
  [(66, .iload_n 2, 1, 0, 0, 0), (67, .laload, 1, 0, 0, 0), (68, .lconst 0, 1, 0, 0, 0), (69, .lcmp, 1, 0, 0, 0), (70, .ifCond .ne 7, 3, 0, 77, 0), (73, .iconst (-1), 1, 0, 0, 0), (74, .goto 29, 3, 0, 103, 0), (77, .lload_n 3, 1, 0, 0, 0), (78, .aload_n 0, 1, 0, 0, 0), (79, .getfield 45, 3, 9, 19, 1608), (82, .iload_n 2, 1, 0, 0, 0), (83, .laload, 1, 0, 0, 0), (84, .lcmp, 1, 0, 0, 0), (85, .ifCond .ne 7, 3, 0, 92, 0), (88, .iconst 1, 1, 0, 0, 0), (89, .goto 14, 3, 0, 103, 0), (92, .lload_n 3, 1, 0, 0, 0), (93, .lconst 0, 1, 0, 0, 0), (94, .lcmp, 1, 0, 0, 0), (95, .ifCond .ne 7, 3, 0, 102, 0)],
  [(98, .iconst 0, 1, 0, 0, 0), (99, .goto 4, 3, 0, 103, 0), (102, .iconst 2, 1, 0, 0, 0), (103, .ireturn, 1, 0, 0, 0)]]
set_option maxRecDepth 100000 in
noncomputable def mjT307 : List (List (Nat × mjX)) := [[(0, .aload_n 0, 1, 0, 0, 0), (1, .iconst 0, 1, 0, 0, 0), (2, .putfield 132, 3, 9, 0, 1589), (5, .aload_n 0, 1, 0, 0, 0), (6, .iload_n 1, 1, 0, 0, 0), (7, .invokestatic 306, 3, 244, 1, 1967), (10, .ifCond .ne 7, 3, 0, 17, 0), (13, .iconst 1, 1, 0, 0, 0), (14, .goto 4, 3, 0, 18, 0), (17, .iconst 0, 1, 0, 0, 0), (18, .iconst 1, 1, 0, 0, 0), (19, .iconst 1, 1, 0, 0, 0), (20, .invokevirtual 233, 3, 197, 0, 1807), (23, .ifCond .eq 5, 3, 0, 28, 0), (26, .iconst 0, 1, 0, 0, 0), (27, .ireturn, 1, 0, 0, 0), (28, .lconst 1, 1, 0, 0, 0), (29, .aload_n 0, 1, 0, 0, 0), (30, .getfield 23, 3, 9, 12, 1601)],
  [(33, .iconst 4, 1, 0, 0, 0), (34, .iaload, 1, 0, 0, 0), (35, .lshl, 1, 0, 0, 0), (36, .lstore_n 2, 1, 0, 0, 0), (37, .aload_n 0, 1, 0, 0, 0), (38, .getfield 45, 3, 9, 19, 1608), (41, .iload_n 1, 1, 0, 0, 0), (42, .laload, 1, 0, 0, 0), (43, .lload_n 2, 1, 0, 0, 0), (44, .land, 1, 0, 0, 0), (45, .lconst 0, 1, 0, 0, 0), (46, .lcmp, 1, 0, 0, 0), (47, .ifCond .ne 5, 3, 0, 52, 0), (50, .iconst (-1), 1, 0, 0, 0), (51, .ireturn, 1, 0, 0, 0), (52, .iconst 1, 1, 0, 0, 0), (53, .aload_n 0, 1, 0, 0, 0), (54, .getfield 23, 3, 9, 12, 1601), (57, .iconst 0, 1, 0, 0, 0), (58, .iaload, 1, 0, 0, 0), (59, .ishl, 1, 0, 0, 0), (60, .iconst 1, 1, 0, 0, 0), (61, .isub, 1, 0, 0, 0), (62, .istore 4, 2, 0, 0, 0)],
  [(64, .iconst 0, 1, 0, 0, 0), (65, .istore 5, 2, 0, 0, 0), (67, .iload 5, 2, 0, 0, 0), (69, .iconst 1, 1, 0, 0, 0), (70, .aload_n 0, 1, 0, 0, 0), (71, .getfield 23, 3, 9, 12, 1601), (74, .iconst 0, 1, 0, 0, 0), (75, .iaload, 1, 0, 0, 0), (76, .ishl, 1, 0, 0, 0), (77, .if_icmp .ge 123, 3, 0, 200, 0), (80, .aload_n 0, 1, 0, 0, 0), (81, .getfield 45, 3, 9, 19, 1608), (84, .iload_n 1, 1, 0, 0, 0), (85, .laload, 1, 0, 0, 0), (86, .lstore 6, 2, 0, 0, 0), (88, .iconst 0, 1, 0, 0, 0), (89, .istore 8, 2, 0, 0, 0), (91, .iload 8, 2, 0, 0, 0), (93, .aload_n 0, 1, 0, 0, 0), (94, .getfield 23, 3, 9, 12, 1601)],
  [(97, .iconst 0, 1, 0, 0, 0), (98, .iaload, 1, 0, 0, 0), (99, .if_icmp .ge 69, 3, 0, 168, 0), (102, .iload 5, 2, 0, 0, 0), (104, .iload 8, 2, 0, 0, 0), (106, .ishr, 1, 0, 0, 0), (107, .iconst 1, 1, 0, 0, 0), (108, .iand, 1, 0, 0, 0), (109, .iconst 1, 1, 0, 0, 0), (110, .if_icmp .ne 52, 3, 0, 162, 0), (113, .lload 6, 2, 0, 0, 0), (115, .aload_n 0, 1, 0, 0, 0), (116, .getfield 23, 3, 9, 12, 1601), (119, .iconst 4, 1, 0, 0, 0), (120, .iaload, 1, 0, 0, 0), (121, .iload 8, 2, 0, 0, 0), (123, .ishr, 1, 0, 0, 0), (124, .iconst 1, 1, 0, 0, 0), (125, .iand, 1, 0, 0, 0), (126, .iconst 1, 1, 0, 0, 0), (127, .if_icmp .ne 17, 3, 0, 144, 0)],
  [(130, .iload 8, 2, 0, 0, 0), (132, .aload_n 0, 1, 0, 0, 0), (133, .getfield 23, 3, 9, 12, 1601), (136, .iconst 0, 1, 0, 0, 0), (137, .iaload, 1, 0, 0, 0), (138, .invokestatic 219, 3, 216, 1, 1889), (141, .goto 18, 3, 0, 159, 0), (144, .iload 8, 2, 0, 0, 0), (146, .aload_n 0, 1, 0, 0, 0), (147, .getfield 23, 3, 9, 12, 1601), (150, .iconst 0, 1, 0, 0, 0), (151, .iaload, 1, 0, 0, 0), (152, .invokestatic 219, 3, 216, 1, 1889), (155, .ldc2_w 48, 3, 18446744073709551615, 0, 1575), (158, .lxor, 1, 0, 0, 0), (159, .land, 1, 0, 0, 0)],
  [(160, .lstore 6, 2, 0, 0, 0), (162, .iinc 8 1, 3, 0, 0, 0), (165, .goto (-74), 3, 0, 91, 0), (168, .lload 6, 2, 0, 0, 0), (170, .lload_n 2, 1, 0, 0, 0), (171, .lcmp, 1, 0, 0, 0), (172, .ifCond .ne 22, 3, 0, 194, 0), (175, .iload 5, 2, 0, 0, 0), (177, .i2l, 1, 0, 0, 0), (178, .invokestatic 249, 3, 225, 1, 1896), (181, .iload 4, 2, 0, 0, 0), (183, .i2l, 1, 0, 0, 0), (184, .invokestatic 249, 3, 225, 1, 1896), (187, .if_icmp .ge 7, 3, 0, 194, 0), (190, .iload 5, 2, 0, 0, 0)],
  [(192, .istore 4, 2, 0, 0, 0), (194, .iinc 5 1, 3, 0, 0, 0), (197, .goto (-130), 3, 0, 67, 0), (200, .iload 4, 2, 0, 0, 0), (202, .ireturn, 1, 0, 0, 0)]]
set_option maxRecDepth 100000 in
noncomputable def mjT308 : List (List (Nat × mjX)) := [[(0, .aload_n 0, 1, 0, 0, 0), (1, .iconst 0, 1, 0, 0, 0), (2, .putfield 132, 3, 9, 0, 1589), (5, .aload_n 0, 1, 0, 0, 0), (6, .iload_n 1, 1, 0, 0, 0), (7, .invokestatic 306, 3, 244, 1, 1967), (10, .ifCond .ne 7, 3, 0, 17, 0), (13, .iconst 1, 1, 0, 0, 0), (14, .goto 4, 3, 0, 18, 0), (17, .iconst 0, 1, 0, 0, 0), (18, .iconst 1, 1, 0, 0, 0), (19, .iconst 1, 1, 0, 0, 0), (20, .invokevirtual 233, 3, 197, 0, 1807), (23, .ifCond .eq 5, 3, 0, 28, 0), (26, .iconst 0, 1, 0, 0, 0), (27, .ireturn, 1, 0, 0, 0), (28, .iconst 0, 1, 0, 0, 0), (29, .istore_n 2, 1, 0, 0, 0), (30, .iconst 0, 1, 0, 0, 0), (31, .istore_n 3, 1, 0, 0, 0)],
  [(32, .iload_n 3, 1, 0, 0, 0), (33, .aload_n 0, 1, 0, 0, 0), (34, .getfield 23, 3, 9, 12, 1601), (37, .iconst 1, 1, 0, 0, 0), (38, .iaload, 1, 0, 0, 0), (39, .if_icmp .ge 50, 3, 0, 89, 0), (42, .iload_n 3, 1, 0, 0, 0), (43, .iconst 1, 1, 0, 0, 0), (44, .iadd, 1, 0, 0, 0), (45, .istore 4, 2, 0, 0, 0), (47, .iload 4, 2, 0, 0, 0), (49, .aload_n 0, 1, 0, 0, 0), (50, .getfield 23, 3, 9, 12, 1601), (53, .iconst 1, 1, 0, 0, 0), (54, .iaload, 1, 0, 0, 0), (55, .if_icmp .ge 28, 3, 0, 83, 0), (58, .iload_n 2, 1, 0, 0, 0), (59, .aload_n 0, 1, 0, 0, 0), (60, .iload_n 3, 1, 0, 0, 0), (61, .iload 4, 2, 0, 0, 0), (63, .iload_n 1, 1, 0, 0, 0)],
  [(64, .invokevirtual 309, 3, 250, 0, 1978), (67, .ifCond .eq 7, 3, 0, 74, 0), (70, .iconst 1, 1, 0, 0, 0), (71, .goto 4, 3, 0, 75, 0), (74, .iconst 0, 1, 0, 0, 0), (75, .iadd, 1, 0, 0, 0), (76, .istore_n 2, 1, 0, 0, 0), (77, .iinc 4 1, 3, 0, 0, 0), (80, .goto (-33), 3, 0, 47, 0), (83, .iinc 3 1, 3, 0, 0, 0), (86, .goto (-54), 3, 0, 32, 0), (89, .iload_n 2, 1, 0, 0, 0), (90, .ireturn, 1, 0, 0, 0)]]
set_option maxRecDepth 100000 in
noncomputable def mjT309 : List (List (Nat × mjX)) := [[(0, .aload_n 0, 1, 0, 0, 0), (1, .iconst 0, 1, 0, 0, 0), (2, .putfield 132, 3, 9, 0, 1589), (5, .aload_n 0, 1, 0, 0, 0), (6, .iload_n 1, 1, 0, 0, 0), (7, .invokestatic 306, 3, 244, 1, 1967), (10, .ifCond .ne 7, 3, 0, 17, 0), (13, .iconst 1, 1, 0, 0, 0), (14, .goto 4, 3, 0, 18, 0), (17, .iconst 0, 1, 0, 0, 0), (18, .iconst 1, 1, 0, 0, 0), (19, .iconst 1, 1, 0, 0, 0), (20, .invokevirtual 233, 3, 197, 0, 1807), (23, .ifCond .eq 5, 3, 0, 28, 0), (26, .iconst 0, 1, 0, 0, 0), (27, .ireturn, 1, 0, 0, 0), (28, .iconst 0, 1, 0, 0, 0), (29, .istore_n 2, 1, 0, 0, 0), (30, .iconst 0, 1, 0, 0, 0), (31, .istore_n 3, 1, 0, 0, 0)],
  [(32, .iload_n 3, 1, 0, 0, 0), (33, .iconst 1, 1, 0, 0, 0), (34, .aload_n 0, 1, 0, 0, 0), (35, .getfield 23, 3, 9, 12, 1601), (38, .iconst 1, 1, 0, 0, 0), (39, .iaload, 1, 0, 0, 0), (40, .ishl, 1, 0, 0, 0), (41, .if_icmp .ge 118, 3, 0, 159, 0), (44, .iload_n 3, 1, 0, 0, 0), (45, .i2l, 1, 0, 0, 0), (46, .invokestatic 249, 3, 225, 1, 1896), (49, .iload_n 2, 1, 0, 0, 0), (50, .i2l, 1, 0, 0, 0), (51, .invokestatic 249, 3, 225, 1, 1896), (54, .if_icmp .gt 6, 3, 0, 60, 0), (57, .goto 96, 3, 0, 153, 0), (60, .iconst 1, 1, 0, 0, 0), (61, .istore 4, 2, 0, 0, 0), (63, .iconst 0, 1, 0, 0, 0)],
  [(64, .istore 5, 2, 0, 0, 0), (66, .iload 5, 2, 0, 0, 0), (68, .aload_n 0, 1, 0, 0, 0), (69, .getfield 23, 3, 9, 12, 1601), (72, .iconst 1, 1, 0, 0, 0), (73, .iaload, 1, 0, 0, 0), (74, .if_icmp .ge 68, 3, 0, 142, 0), (77, .iload 5, 2, 0, 0, 0), (79, .istore 6, 2, 0, 0, 0), (81, .iload 6, 2, 0, 0, 0), (83, .aload_n 0, 1, 0, 0, 0), (84, .getfield 23, 3, 9, 12, 1601), (87, .iconst 1, 1, 0, 0, 0), (88, .iaload, 1, 0, 0, 0), (89, .if_icmp .ge 47, 3, 0, 136, 0), (92, .iload 4, 2, 0, 0, 0), (94, .ifCond .eq 33, 3, 0, 127, 0)],
  [(97, .iload_n 3, 1, 0, 0, 0), (98, .iload 5, 2, 0, 0, 0), (100, .ishr, 1, 0, 0, 0), (101, .iload_n 3, 1, 0, 0, 0), (102, .iload 6, 2, 0, 0, 0), (104, .ishr, 1, 0, 0, 0), (105, .iand, 1, 0, 0, 0), (106, .iconst 1, 1, 0, 0, 0), (107, .iand, 1, 0, 0, 0), (108, .ifCond .eq 15, 3, 0, 123, 0), (111, .aload_n 0, 1, 0, 0, 0), (112, .iload 5, 2, 0, 0, 0), (114, .iload 6, 2, 0, 0, 0), (116, .iload_n 1, 1, 0, 0, 0), (117, .invokevirtual 309, 3, 250, 0, 1978), (120, .ifCond .ne 7, 3, 0, 127, 0), (123, .iconst 1, 1, 0, 0, 0), (124, .goto 4, 3, 0, 128, 0), (127, .iconst 0, 1, 0, 0, 0)],
  [(128, .istore 4, 2, 0, 0, 0), (130, .iinc 6 1, 3, 0, 0, 0), (133, .goto (-52), 3, 0, 81, 0), (136, .iinc 5 1, 3, 0, 0, 0), (139, .goto (-73), 3, 0, 66, 0), (142, .iload 4, 2, 0, 0, 0), (144, .ifCond .eq 7, 3, 0, 151, 0), (147, .iload_n 3, 1, 0, 0, 0), (148, .goto 4, 3, 0, 152, 0), (151, .iload_n 2, 1, 0, 0, 0), (152, .istore_n 2, 1, 0, 0, 0), (153, .iinc 3 1, 3, 0, 0, 0), (156, .goto (-124), 3, 0, 32, 0), (159, .iload_n 2, 1, 0, 0, 0)],
  [(160, .ireturn, 1, 0, 0, 0)]]
set_option maxRecDepth 100000 in
noncomputable def mjT310 : List (List (Nat × mjX)) := [[(0, .aload_n 0, 1, 0, 0, 0), (1, .iconst 0, 1, 0, 0, 0), (2, .putfield 357, 3, 9, 43, 1632), (5, .iconst 0, 1, 0, 0, 0), (6, .istore_n 2, 1, 0, 0, 0), (7, .iload_n 2, 1, 0, 0, 0), (8, .aload_n 0, 1, 0, 0, 0), (9, .getfield 23, 3, 9, 12, 1601), (12, .iconst 3, 1, 0, 0, 0), (13, .iaload, 1, 0, 0, 0), (14, .if_icmp .ge 43, 3, 0, 57, 0), (17, .iload_n 1, 1, 0, 0, 0), (18, .iload_n 2, 1, 0, 0, 0), (19, .ishr, 1, 0, 0, 0), (20, .iconst 1, 1, 0, 0, 0), (21, .iand, 1, 0, 0, 0), (22, .ifCond .ne 6, 3, 0, 28, 0), (25, .goto 26, 3, 0, 51, 0), (28, .aload_n 0, 1, 0, 0, 0), (29, .getfield 77, 3, 9, 34, 1623)],
  [(32, .aload_n 0, 1, 0, 0, 0), (33, .getfield 357, 3, 9, 43, 1632), (36, .bipush 12, 2, 0, 0, 0), (38, .iload_n 2, 1, 0, 0, 0), (39, .iadd, 1, 0, 0, 0), (40, .iastore, 1, 0, 0, 0), (41, .aload_n 0, 1, 0, 0, 0), (42, .dup, 1, 0, 0, 0), (43, .getfield 357, 3, 9, 43, 1632), (46, .iconst 1, 1, 0, 0, 0), (47, .iadd, 1, 0, 0, 0), (48, .putfield 357, 3, 9, 43, 1632), (51, .iinc 2 1, 3, 0, 0, 0), (54, .goto (-47), 3, 0, 7, 0), (57, .iconst 0, 1, 0, 0, 0), (58, .istore_n 2, 1, 0, 0, 0), (59, .iload_n 2, 1, 0, 0, 0), (60, .aload_n 0, 1, 0, 0, 0), (61, .getfield 23, 3, 9, 12, 1601)],
  [(64, .iconst 1, 1, 0, 0, 0), (65, .iaload, 1, 0, 0, 0), (66, .if_icmp .ge 34, 3, 0, 100, 0), (69, .aload_n 0, 1, 0, 0, 0), (70, .getfield 77, 3, 9, 34, 1623), (73, .aload_n 0, 1, 0, 0, 0), (74, .getfield 357, 3, 9, 43, 1632), (77, .aload_n 0, 1, 0, 0, 0), (78, .getfield 54, 3, 9, 21, 1610), (81, .iload_n 2, 1, 0, 0, 0), (82, .iaload, 1, 0, 0, 0), (83, .iastore, 1, 0, 0, 0), (84, .aload_n 0, 1, 0, 0, 0), (85, .dup, 1, 0, 0, 0), (86, .getfield 357, 3, 9, 43, 1632), (89, .iconst 1, 1, 0, 0, 0), (90, .iadd, 1, 0, 0, 0), (91, .putfield 357, 3, 9, 43, 1632), (94, .iinc 2 1, 3, 0, 0, 0)],
  [(97, .goto (-38), 3, 0, 59, 0), (100, .aload_n 0, 1, 0, 0, 0), (101, .aload_n 0, 1, 0, 0, 0), (102, .getfield 23, 3, 9, 12, 1601), (105, .iconst 5, 1, 0, 0, 0), (106, .iaload, 1, 0, 0, 0), (107, .invokevirtual 372, 3, 269, 0, 2027), (110, .ireturn, 1, 0, 0, 0)]]
set_option maxRecDepth 100000 in
noncomputable def mjT311 : List (List (Nat × mjX)) := [[(0, .aload_n 0, 1, 0, 0, 0), (1, .iconst 0, 1, 0, 0, 0), (2, .putfield 132, 3, 9, 0, 1589), (5, .aload_n 0, 1, 0, 0, 0), (6, .aload_n 0, 1, 0, 0, 0), (7, .iload_n 1, 1, 0, 0, 0), (8, .invokevirtual 414, 3, 245, 0, 2196), (11, .ifCond .ne 7, 3, 0, 18, 0), (14, .iconst 1, 1, 0, 0, 0), (15, .goto 4, 3, 0, 19, 0), (18, .iconst 0, 1, 0, 0, 0), (19, .iconst 1, 1, 0, 0, 0), (20, .iconst 1, 1, 0, 0, 0), (21, .invokevirtual 233, 3, 197, 0, 1807), (24, .ifCond .eq 5, 3, 0, 29, 0), (27, .iconst 0, 1, 0, 0, 0), (28, .ireturn, 1, 0, 0, 0), (29, .iconst (-1), 1, 0, 0, 0), (30, .istore_n 2, 1, 0, 0, 0), (31, .iconst 0, 1, 0, 0, 0)],
  [(32, .istore_n 3, 1, 0, 0, 0), (33, .iload_n 3, 1, 0, 0, 0), (34, .iconst 1, 1, 0, 0, 0), (35, .aload_n 0, 1, 0, 0, 0), (36, .getfield 23, 3, 9, 12, 1601), (39, .iconst 3, 1, 0, 0, 0), (40, .iaload, 1, 0, 0, 0), (41, .ishl, 1, 0, 0, 0), (42, .if_icmp .ge 47, 3, 0, 89, 0), (45, .iload_n 2, 1, 0, 0, 0), (46, .iconst (-1), 1, 0, 0, 0), (47, .if_icmp .eq 19, 3, 0, 66, 0), (50, .iload_n 3, 1, 0, 0, 0), (51, .i2l, 1, 0, 0, 0), (52, .invokestatic 249, 3, 225, 1, 1896), (55, .iload_n 2, 1, 0, 0, 0), (56, .i2l, 1, 0, 0, 0), (57, .invokestatic 249, 3, 225, 1, 1896), (60, .if_icmp .lt 6, 3, 0, 66, 0), (63, .goto 20, 3, 0, 83, 0)],
  [(66, .aload_n 0, 1, 0, 0, 0), (67, .iload_n 3, 1, 0, 0, 0), (68, .invokevirtual 426, 3, 310, 0, 2256), (71, .iload_n 1, 1, 0, 0, 0), (72, .iand, 1, 0, 0, 0), (73, .iload_n 1, 1, 0, 0, 0), (74, .if_icmp .ne 7, 3, 0, 81, 0), (77, .iload_n 3, 1, 0, 0, 0), (78, .goto 4, 3, 0, 82, 0), (81, .iload_n 2, 1, 0, 0, 0), (82, .istore_n 2, 1, 0, 0, 0), (83, .iinc 3 1, 3, 0, 0, 0), (86, .goto (-53), 3, 0, 33, 0), (89, .iload_n 2, 1, 0, 0, 0), (90, .ireturn, 1, 0, 0, 0)]]
set_option maxRecDepth 100000 in
noncomputable def mjT312 : List (List (Nat × mjX)) := [[(0, .aload_n 0, 1, 0, 0, 0), (1, .iconst 0, 1, 0, 0, 0), (2, .putfield 132, 3, 9, 0, 1589), (5, .aload_n 0, 1, 0, 0, 0), (6, .iload_n 1, 1, 0, 0, 0), (7, .iconst 0, 1, 0, 0, 0), (8, .iconst 1, 1, 0, 0, 0), (9, .aload_n 0, 1, 0, 0, 0), (10, .getfield 23, 3, 9, 12, 1601), (13, .iconst 3, 1, 0, 0, 0), (14, .iaload, 1, 0, 0, 0), (15, .ishl, 1, 0, 0, 0), (16, .iconst 1, 1, 0, 0, 0), (17, .isub, 1, 0, 0, 0), (18, .invokestatic 166, 3, 198, 1, 1804), (21, .ifCond .ne 7, 3, 0, 28, 0), (24, .iconst 1, 1, 0, 0, 0), (25, .goto 4, 3, 0, 29, 0), (28, .iconst 0, 1, 0, 0, 0), (29, .iconst 1, 1, 0, 0, 0), (30, .iconst 1, 1, 0, 0, 0), (31, .invokevirtual 233, 3, 197, 0, 1807)],
  [(34, .ifCond .eq 5, 3, 0, 39, 0), (37, .iconst 0, 1, 0, 0, 0), (38, .ireturn, 1, 0, 0, 0), (39, .aload_n 0, 1, 0, 0, 0), (40, .iload_n 1, 1, 0, 0, 0), (41, .invokevirtual 426, 3, 310, 0, 2256), (44, .ireturn, 1, 0, 0, 0)]]
set_option maxRecDepth 100000 in
noncomputable def mjT313 : List (List (Nat × mjX)) := [[(0, .iconst 0, 1, 0, 0, 0), (1, .istore_n 1, 1, 0, 0, 0), (2, .iload_n 1, 1, 0, 0, 0), (3, .iconst 2, 1, 0, 0, 0), (4, .if_icmp .ge 82, 3, 0, 86, 0), (7, .aload_n 0, 1, 0, 0, 0), (8, .aload_n 0, 1, 0, 0, 0), (9, .getfield 23, 3, 9, 12, 1601), (12, .iconst 5, 1, 0, 0, 0), (13, .iaload, 1, 0, 0, 0), (14, .invokevirtual 351, 3, 260, 0, 2031), (17, .iconst 0, 1, 0, 0, 0), (18, .istore_n 2, 1, 0, 0, 0), (19, .iload_n 2, 1, 0, 0, 0), (20, .bipush 52, 2, 0, 0, 0), (22, .if_icmp .ge 58, 3, 0, 80, 0), (25, .aload_n 0, 1, 0, 0, 0), (26, .iload_n 2, 1, 0, 0, 0), (27, .invokevirtual 354, 3, 263, 0, 2051), (30, .iload_n 2, 1, 0, 0, 0), (31, .aload_n 0, 1, 0, 0, 0)],
  [(32, .getfield 23, 3, 9, 12, 1601), (35, .iconst 1, 1, 0, 0, 0), (36, .iaload, 1, 0, 0, 0), (37, .if_icmp .ge 21, 3, 0, 58, 0), (40, .iload_n 2, 1, 0, 0, 0), (41, .iconst 2, 1, 0, 0, 0), (42, .irem, 1, 0, 0, 0), (43, .iload_n 1, 1, 0, 0, 0), (44, .if_icmp .ne 14, 3, 0, 58, 0), (47, .aload_n 0, 1, 0, 0, 0), (48, .aload_n 0, 1, 0, 0, 0), (49, .getfield 54, 3, 9, 21, 1610), (52, .iload_n 2, 1, 0, 0, 0), (53, .iaload, 1, 0, 0, 0), (54, .iload_n 2, 1, 0, 0, 0), (55, .invokevirtual 360, 3, 266, 0, 2063), (58, .aload_n 0, 1, 0, 0, 0), (59, .invokevirtual 363, 3, 267, 0, 2090), (62, .aload_n 0, 1, 0, 0, 0), (63, .getfield 120, 3, 9, 60, 1649)],
  [(66, .iload_n 1, 1, 0, 0, 0), (67, .aaload, 1, 0, 0, 0), (68, .iload_n 2, 1, 0, 0, 0), (69, .aload_n 0, 1, 0, 0, 0), (70, .invokevirtual 366, 3, 268, 0, 2094), (73, .iastore, 1, 0, 0, 0), (74, .iinc 2 1, 3, 0, 0, 0), (77, .goto (-58), 3, 0, 19, 0), (80, .iinc 1 1, 3, 0, 0, 0), (83, .goto (-81), 3, 0, 2, 0), (86, .return_, 1, 0, 0, 0)]]
set_option maxRecDepth 100000 in
noncomputable def mjT314 : List (List (Nat × mjX)) := [[(0, .iload_n 0, 1, 0, 0, 0), (1, .iconst 0, 1, 0, 0, 0), (2, .iconst 1, 1, 0, 0, 0), (3, .invokestatic 166, 3, 198, 1, 1804), (6, .ireturn, 1, 0, 0, 0)]]
set_option maxRecDepth 100000 in
noncomputable def mjT315 : List (List (Nat × mjX)) := [[(0, .aload_n 0, 1, 0, 0, 0), (1, .iconst 0, 1, 0, 0, 0), (2, .putfield 132, 3, 9, 0, 1589), (5, .aload_n 0, 1, 0, 0, 0), (6, .iload_n 1, 1, 0, 0, 0), (7, .invokestatic 429, 3, 314, 1, 2268), (10, .ifCond .eq 10, 3, 0, 20, 0), (13, .iload_n 2, 1, 0, 0, 0), (14, .invokestatic 306, 3, 244, 1, 1967), (17, .ifCond .ne 7, 3, 0, 24, 0), (20, .iconst 1, 1, 0, 0, 0), (21, .goto 4, 3, 0, 25, 0), (24, .iconst 0, 1, 0, 0, 0), (25, .iconst 1, 1, 0, 0, 0), (26, .iconst 1, 1, 0, 0, 0), (27, .invokevirtual 233, 3, 197, 0, 1807), (30, .ifCond .eq 5, 3, 0, 35, 0)],
  [(33, .iconst 0, 1, 0, 0, 0), (34, .ireturn, 1, 0, 0, 0), (35, .aload_n 0, 1, 0, 0, 0), (36, .invokevirtual 432, 3, 313, 0, 2271), (39, .aload_n 0, 1, 0, 0, 0), (40, .getfield 120, 3, 9, 60, 1649), (43, .iload_n 1, 1, 0, 0, 0), (44, .aaload, 1, 0, 0, 0), (45, .iload_n 2, 1, 0, 0, 0), (46, .iaload, 1, 0, 0, 0), (47, .ireturn, 1, 0, 0, 0)]]
set_option maxRecDepth 100000 in
noncomputable def mjT316 : List (List (Nat × mjX)) := [[(0, .aload_n 0, 1, 0, 0, 0), (1, .iconst 0, 1, 0, 0, 0), (2, .putfield 132, 3, 9, 0, 1589), (5, .aload_n 0, 1, 0, 0, 0), (6, .iload_n 1, 1, 0, 0, 0), (7, .invokestatic 429, 3, 314, 1, 2268), (10, .ifCond .ne 7, 3, 0, 17, 0), (13, .iconst 1, 1, 0, 0, 0), (14, .goto 4, 3, 0, 18, 0), (17, .iconst 0, 1, 0, 0, 0), (18, .iconst 1, 1, 0, 0, 0), (19, .iconst 1, 1, 0, 0, 0), (20, .invokevirtual 233, 3, 197, 0, 1807), (23, .ifCond .eq 5, 3, 0, 28, 0), (26, .iconst 0, 1, 0, 0, 0), (27, .ireturn, 1, 0, 0, 0), (28, .aload_n 0, 1, 0, 0, 0), (29, .invokevirtual 432, 3, 313, 0, 2271)],
  [(32, .iconst 0, 1, 0, 0, 0), (33, .istore_n 2, 1, 0, 0, 0), (34, .iload_n 2, 1, 0, 0, 0), (35, .bipush 52, 2, 0, 0, 0), (37, .if_icmp .ge 36, 3, 0, 73, 0), (40, .aload_n 0, 1, 0, 0, 0), (41, .aload_n 0, 1, 0, 0, 0), (42, .getfield 120, 3, 9, 60, 1649), (45, .iload_n 1, 1, 0, 0, 0), (46, .aaload, 1, 0, 0, 0), (47, .iload_n 2, 1, 0, 0, 0), (48, .iaload, 1, 0, 0, 0), (49, .iload_n 2, 1, 0, 0, 0), (50, .invokevirtual 378, 3, 275, 0, 2110), (53, .lconst 1, 1, 0, 0, 0), (54, .aload_n 0, 1, 0, 0, 0), (55, .getfield 23, 3, 9, 12, 1601), (58, .iconst 4, 1, 0, 0, 0), (59, .iaload, 1, 0, 0, 0), (60, .lshl, 1, 0, 0, 0), (61, .lcmp, 1, 0, 0, 0), (62, .ifCond .ne 5, 3, 0, 67, 0)],
  [(65, .iload_n 2, 1, 0, 0, 0), (66, .ireturn, 1, 0, 0, 0), (67, .iinc 2 1, 3, 0, 0, 0), (70, .goto (-36), 3, 0, 34, 0), (73, .iconst (-1), 1, 0, 0, 0), (74, .ireturn, 1, 0, 0, 0)]]
set_option maxRecDepth 100000 in
noncomputable def mjT317 : List (List (Nat × mjX)) := [[(0, .aload_n 0, 1, 0, 0, 0), (1, .iconst 0, 1, 0, 0, 0), (2, .putfield 132, 3, 9, 0, 1589), (5, .aload_n 0, 1, 0, 0, 0), (6, .iload_n 1, 1, 0, 0, 0), (7, .iconst 0, 1, 0, 0, 0), (8, .iconst 1, 1, 0, 0, 0), (9, .invokestatic 166, 3, 198, 1, 1804), (12, .ifCond .ne 7, 3, 0, 19, 0), (15, .iconst 1, 1, 0, 0, 0), (16, .goto 4, 3, 0, 20, 0), (19, .iconst 0, 1, 0, 0, 0), (20, .iconst 1, 1, 0, 0, 0), (21, .iconst 1, 1, 0, 0, 0), (22, .invokevirtual 233, 3, 197, 0, 1807), (25, .ifCond .eq 5, 3, 0, 30, 0), (28, .iconst 0, 1, 0, 0, 0), (29, .ireturn, 1, 0, 0, 0), (30, .aload_n 0, 1, 0, 0, 0), (31, .invokevirtual 432, 3, 313, 0, 2271)],
  [(34, .iconst 0, 1, 0, 0, 0), (35, .istore_n 2, 1, 0, 0, 0), (36, .iconst (-1), 1, 0, 0, 0), (37, .istore_n 3, 1, 0, 0, 0), (38, .iconst 0, 1, 0, 0, 0), (39, .istore 4, 2, 0, 0, 0), (41, .iload 4, 2, 0, 0, 0), (43, .bipush 52, 2, 0, 0, 0), (45, .if_icmp .ge 56, 3, 0, 101, 0), (48, .aload_n 0, 1, 0, 0, 0), (49, .aload_n 0, 1, 0, 0, 0), (50, .getfield 120, 3, 9, 60, 1649), (53, .iconst 0, 1, 0, 0, 0), (54, .aaload, 1, 0, 0, 0), (55, .iload 4, 2, 0, 0, 0), (57, .iaload, 1, 0, 0, 0), (58, .aload_n 0, 1, 0, 0, 0), (59, .getfield 120, 3, 9, 60, 1649), (62, .iconst 1, 1, 0, 0, 0), (63, .aaload, 1, 0, 0, 0)],
  [(64, .iload 4, 2, 0, 0, 0), (66, .iaload, 1, 0, 0, 0), (67, .ior, 1, 0, 0, 0), (68, .iload 4, 2, 0, 0, 0), (70, .invokevirtual 378, 3, 275, 0, 2110), (73, .lconst 0, 1, 0, 0, 0), (74, .lcmp, 1, 0, 0, 0), (75, .ifCond .eq 6, 3, 0, 81, 0), (78, .goto 17, 3, 0, 95, 0), (81, .iload_n 2, 1, 0, 0, 0), (82, .ifCond .ne 8, 3, 0, 90, 0), (85, .iload 4, 2, 0, 0, 0), (87, .goto 4, 3, 0, 91, 0), (90, .iload_n 3, 1, 0, 0, 0), (91, .istore_n 3, 1, 0, 0, 0), (92, .iinc 2 1, 3, 0, 0, 0), (95, .iinc 4 1, 3, 0, 0, 0)],
  [(98, .goto (-57), 3, 0, 41, 0), (101, .iload_n 1, 1, 0, 0, 0), (102, .ifCond .ne 7, 3, 0, 109, 0), (105, .iload_n 2, 1, 0, 0, 0), (106, .goto 4, 3, 0, 110, 0), (109, .iload_n 3, 1, 0, 0, 0), (110, .ireturn, 1, 0, 0, 0)]]
set_option maxRecDepth 100000 in
noncomputable def mjT318 : List (List (Nat × mjX)) := [[(0, .iconst 1, 1, 0, 0, 0), (1, .iconst 1, 1, 0, 0, 0), (2, .aload_n 0, 1, 0, 0, 0), (3, .getfield 23, 3, 9, 12, 1601), (6, .iconst 0, 1, 0, 0, 0), (7, .iaload, 1, 0, 0, 0), (8, .ishl, 1, 0, 0, 0), (9, .ishl, 1, 0, 0, 0), (10, .iconst 1, 1, 0, 0, 0), (11, .isub, 1, 0, 0, 0), (12, .istore_n 1, 1, 0, 0, 0), (13, .iconst 0, 1, 0, 0, 0), (14, .istore_n 2, 1, 0, 0, 0), (15, .iload_n 2, 1, 0, 0, 0), (16, .sipush 256, 3, 0, 0, 0), (19, .if_icmp .ge 16, 3, 0, 35, 0), (22, .aload_n 0, 1, 0, 0, 0), (23, .getfield 123, 3, 9, 61, 1650), (26, .iload_n 2, 1, 0, 0, 0), (27, .iconst 0, 1, 0, 0, 0), (28, .iastore, 1, 0, 0, 0), (29, .iinc 2 1, 3, 0, 0, 0)],
  [(32, .goto (-17), 3, 0, 15, 0), (35, .iconst 0, 1, 0, 0, 0), (36, .istore_n 2, 1, 0, 0, 0), (37, .iload_n 2, 1, 0, 0, 0), (38, .aload_n 0, 1, 0, 0, 0), (39, .getfield 23, 3, 9, 12, 1601), (42, .iconst 0, 1, 0, 0, 0), (43, .iaload, 1, 0, 0, 0), (44, .if_icmp .ge 26, 3, 0, 70, 0), (47, .aload_n 0, 1, 0, 0, 0), (48, .getfield 123, 3, 9, 61, 1650), (51, .iload_n 2, 1, 0, 0, 0), (52, .aload_n 0, 1, 0, 0, 0), (53, .getfield 23, 3, 9, 12, 1601), (56, .iconst 0, 1, 0, 0, 0), (57, .iaload, 1, 0, 0, 0), (58, .invokestatic 219, 3, 216, 1, 1889), (61, .l2i, 1, 0, 0, 0), (62, .iconst 1, 1, 0, 0, 0), (63, .iastore, 1, 0, 0, 0)],
  [(64, .iinc 2 1, 3, 0, 0, 0), (67, .goto (-30), 3, 0, 37, 0), (70, .iconst 2, 1, 0, 0, 0), (71, .istore_n 2, 1, 0, 0, 0), (72, .iload_n 2, 1, 0, 0, 0), (73, .bipush 40, 2, 0, 0, 0), (75, .if_icmp .ge 134, 3, 0, 209, 0), (78, .iconst 0, 1, 0, 0, 0), (79, .istore_n 3, 1, 0, 0, 0), (80, .iload_n 3, 1, 0, 0, 0), (81, .iload_n 1, 1, 0, 0, 0), (82, .if_icmp .gt 121, 3, 0, 203, 0), (85, .aload_n 0, 1, 0, 0, 0), (86, .getfield 123, 3, 9, 61, 1650), (89, .iload_n 3, 1, 0, 0, 0), (90, .iaload, 1, 0, 0, 0), (91, .ifCond .eq 106, 3, 0, 197, 0), (94, .aload_n 0, 1, 0, 0, 0), (95, .getfield 123, 3, 9, 61, 1650)],
  [(98, .iload_n 3, 1, 0, 0, 0), (99, .iaload, 1, 0, 0, 0), (100, .iload_n 2, 1, 0, 0, 0), (101, .iconst 1, 1, 0, 0, 0), (102, .isub, 1, 0, 0, 0), (103, .if_icmp .le 6, 3, 0, 109, 0), (106, .goto 91, 3, 0, 197, 0), (109, .aload_n 0, 1, 0, 0, 0), (110, .getfield 123, 3, 9, 61, 1650), (113, .iload_n 3, 1, 0, 0, 0), (114, .iaload, 1, 0, 0, 0), (115, .iload_n 2, 1, 0, 0, 0), (116, .iconst 1, 1, 0, 0, 0), (117, .isub, 1, 0, 0, 0), (118, .if_icmp .ne 13, 3, 0, 131, 0), (121, .aload_n 0, 1, 0, 0, 0), (122, .iload_n 1, 1, 0, 0, 0), (123, .iload_n 3, 1, 0, 0, 0), (124, .iconst (-1), 1, 0, 0, 0), (125, .ixor, 1, 0, 0, 0), (126, .iand, 1, 0, 0, 0), (127, .iload_n 2, 1, 0, 0, 0)],
  [(128, .invokevirtual 435, 3, 319, 0, 2307), (131, .iconst 0, 1, 0, 0, 0), (132, .istore 4, 2, 0, 0, 0), (134, .iload 4, 2, 0, 0, 0), (136, .iload_n 1, 1, 0, 0, 0), (137, .if_icmp .gt 60, 3, 0, 197, 0), (140, .aload_n 0, 1, 0, 0, 0), (141, .getfield 123, 3, 9, 61, 1650), (144, .iload 4, 2, 0, 0, 0), (146, .iaload, 1, 0, 0, 0), (147, .ifCond .eq 44, 3, 0, 191, 0), (150, .aload_n 0, 1, 0, 0, 0), (151, .getfield 123, 3, 9, 61, 1650), (154, .iload_n 3, 1, 0, 0, 0), (155, .iaload, 1, 0, 0, 0), (156, .aload_n 0, 1, 0, 0, 0), (157, .getfield 123, 3, 9, 61, 1650)],
  [(160, .iload 4, 2, 0, 0, 0), (162, .iaload, 1, 0, 0, 0), (163, .iadd, 1, 0, 0, 0), (164, .iconst 1, 1, 0, 0, 0), (165, .iadd, 1, 0, 0, 0), (166, .iload_n 2, 1, 0, 0, 0), (167, .if_icmp .eq 6, 3, 0, 173, 0), (170, .goto 21, 3, 0, 191, 0), (173, .aload_n 0, 1, 0, 0, 0), (174, .iload_n 3, 1, 0, 0, 0), (175, .iload 4, 2, 0, 0, 0), (177, .iand, 1, 0, 0, 0), (178, .iload_n 2, 1, 0, 0, 0), (179, .invokevirtual 435, 3, 319, 0, 2307), (182, .aload_n 0, 1, 0, 0, 0), (183, .iload_n 3, 1, 0, 0, 0), (184, .iload 4, 2, 0, 0, 0), (186, .ior, 1, 0, 0, 0), (187, .iload_n 2, 1, 0, 0, 0), (188, .invokevirtual 435, 3, 319, 0, 2307), (191, .iinc 4 1, 3, 0, 0, 0)],
  [(194, .goto (-60), 3, 0, 134, 0), (197, .iinc 3 1, 3, 0, 0, 0), (200, .goto (-120), 3, 0, 80, 0), (203, .iinc 2 1, 3, 0, 0, 0), (206, .goto (-134), 3, 0, 72, 0), (209, .return_, 1, 0, 0, 0)]]
set_option maxRecDepth 100000 in
noncomputable def mjT319 : List (List (Nat × mjX)) := [[(0, .aload_n 0, 1, 0, 0, 0), (1, .getfield 123, 3, 9, 61, 1650), (4, .iload_n 1, 1, 0, 0, 0), (5, .aload_n 0, 1, 0, 0, 0), (6, .getfield 123, 3, 9, 61, 1650), (9, .iload_n 1, 1, 0, 0, 0), (10, .iaload, 1, 0, 0, 0), (11, .ifCond .ne 7, 3, 0, 18, 0), (14, .iload_n 2, 1, 0, 0, 0), (15, .goto 9, 3, 0, 24, 0), (18, .aload_n 0, 1, 0, 0, 0), (19, .getfield 123, 3, 9, 61, 1650), (22, .iload_n 1, 1, 0, 0, 0), (23, .iaload, 1, 0, 0, 0), (24, .iastore, 1, 0, 0, 0), (25, .return_, 1, 0, 0, 0)]]
set_option maxRecDepth 100000 in
noncomputable def mjT320 : List (List (Nat × mjX)) := [[(0, .aload_n 0, 1, 0, 0, 0), (1, .iconst 0, 1, 0, 0, 0), (2, .putfield 132, 3, 9, 0, 1589), (5, .aload_n 0, 1, 0, 0, 0), (6, .aload_n 0, 1, 0, 0, 0), (7, .iload_n 1, 1, 0, 0, 0), (8, .invokevirtual 303, 3, 243, 0, 1955), (11, .ifCond .ne 7, 3, 0, 18, 0), (14, .iconst 1, 1, 0, 0, 0), (15, .goto 4, 3, 0, 19, 0), (18, .iconst 0, 1, 0, 0, 0), (19, .iconst 1, 1, 0, 0, 0), (20, .iconst 0, 1, 0, 0, 0), (21, .invokevirtual 233, 3, 197, 0, 1807), (24, .ifCond .ne 27, 3, 0, 51, 0), (27, .aload_n 0, 1, 0, 0, 0), (28, .aload_n 0, 1, 0, 0, 0), (29, .getfield 23, 3, 9, 12, 1601)],
  [(32, .iconst 0, 1, 0, 0, 0), (33, .iaload, 1, 0, 0, 0), (34, .iconst 3, 1, 0, 0, 0), (35, .if_icmp .le 7, 3, 0, 42, 0), (38, .iconst 1, 1, 0, 0, 0), (39, .goto 4, 3, 0, 43, 0), (42, .iconst 0, 1, 0, 0, 0), (43, .iconst 2, 1, 0, 0, 0), (44, .iconst 2, 1, 0, 0, 0), (45, .invokevirtual 233, 3, 197, 0, 1807), (48, .ifCond .eq 5, 3, 0, 53, 0), (51, .iconst 0, 1, 0, 0, 0), (52, .ireturn, 1, 0, 0, 0), (53, .aload_n 0, 1, 0, 0, 0), (54, .invokevirtual 438, 3, 318, 0, 2287), (57, .aload_n 0, 1, 0, 0, 0), (58, .getfield 123, 3, 9, 61, 1650), (61, .aload_n 0, 1, 0, 0, 0), (62, .getfield 36, 3, 9, 16, 1605)],
  [(65, .iload_n 1, 1, 0, 0, 0), (66, .laload, 1, 0, 0, 0), (67, .l2i, 1, 0, 0, 0), (68, .iaload, 1, 0, 0, 0), (69, .ireturn, 1, 0, 0, 0)]]
set_option maxRecDepth 100000 in
noncomputable def mjT321 : List (List (Nat × mjX)) := [[(0, .aload_n 0, 1, 0, 0, 0), (1, .iconst 0, 1, 0, 0, 0), (2, .putfield 132, 3, 9, 0, 1589), (5, .aload_n 0, 1, 0, 0, 0), (6, .aload_n 0, 1, 0, 0, 0), (7, .iload_n 1, 1, 0, 0, 0), (8, .invokevirtual 303, 3, 243, 0, 1955), (11, .ifCond .eq 11, 3, 0, 22, 0), (14, .aload_n 0, 1, 0, 0, 0), (15, .iload_n 2, 1, 0, 0, 0), (16, .invokevirtual 303, 3, 243, 0, 1955), (19, .ifCond .ne 7, 3, 0, 26, 0), (22, .iconst 1, 1, 0, 0, 0), (23, .goto 4, 3, 0, 27, 0), (26, .iconst 0, 1, 0, 0, 0), (27, .iconst 1, 1, 0, 0, 0), (28, .iconst 0, 1, 0, 0, 0), (29, .invokevirtual 233, 3, 197, 0, 1807)],
  [(32, .ifCond .ne 35, 3, 0, 67, 0), (35, .aload_n 0, 1, 0, 0, 0), (36, .iload_n 3, 1, 0, 0, 0), (37, .iconst 0, 1, 0, 0, 0), (38, .bipush 52, 2, 0, 0, 0), (40, .invokestatic 166, 3, 198, 1, 1804), (43, .ifCond .eq 11, 3, 0, 54, 0), (46, .iload 4, 2, 0, 0, 0), (48, .invokestatic 306, 3, 244, 1, 1967), (51, .ifCond .ne 7, 3, 0, 58, 0), (54, .iconst 1, 1, 0, 0, 0), (55, .goto 4, 3, 0, 59, 0), (58, .iconst 0, 1, 0, 0, 0), (59, .iconst 2, 1, 0, 0, 0), (60, .iconst 1, 1, 0, 0, 0), (61, .invokevirtual 233, 3, 197, 0, 1807)],
  [(64, .ifCond .eq 5, 3, 0, 69, 0), (67, .iconst 0, 1, 0, 0, 0), (68, .ireturn, 1, 0, 0, 0), (69, .aload_n 0, 1, 0, 0, 0), (70, .iload_n 1, 1, 0, 0, 0), (71, .iload_n 2, 1, 0, 0, 0), (72, .iload_n 3, 1, 0, 0, 0), (73, .iconst 0, 1, 0, 0, 0), (74, .iconst 1, 1, 0, 0, 0), (75, .iload 4, 2, 0, 0, 0), (77, .invokevirtual 341, 3, 240, 0, 2071), (80, .ireturn, 1, 0, 0, 0)]]
set_option maxRecDepth 100000 in
noncomputable def mjT322 : List (List (Nat × mjX)) := [[(0, .iload_n 3, 1, 0, 0, 0), (1, .ifCond .ne 10, 3, 0, 11, 0), (4, .aload_n 1, 1, 0, 0, 0), (5, .aload_n 0, 1, 0, 0, 0), (6, .getfield 441, 3, 9, 23, 1612), (9, .iload_n 2, 1, 0, 0, 0), (10, .iastore, 1, 0, 0, 0), (11, .aload_n 0, 1, 0, 0, 0), (12, .dup, 1, 0, 0, 0), (13, .getfield 441, 3, 9, 23, 1612), (16, .iconst 1, 1, 0, 0, 0), (17, .iadd, 1, 0, 0, 0), (18, .putfield 441, 3, 9, 23, 1612), (21, .aload_n 1, 1, 0, 0, 0), (22, .aload_n 0, 1, 0, 0, 0), (23, .getfield 441, 3, 9, 23, 1612), (26, .iconst 1, 1, 0, 0, 0), (27, .isub, 1, 0, 0, 0), (28, .iaload, 1, 0, 0, 0), (29, .ireturn, 1, 0, 0, 0)]]
set_option maxRecDepth 100000 in
noncomputable def mjT323 : List (List (Nat × mjX)) := [[(0, .aload_n 0, 1, 0, 0, 0), (1, .iconst 0, 1, 0, 0, 0), (2, .putfield 441, 3, 9, 23, 1612), (5, .aload_n 0, 1, 0, 0, 0), (6, .getfield 23, 3, 9, 12, 1601), (9, .iconst 4, 1, 0, 0, 0), (10, .aload_n 0, 1, 0, 0, 0), (11, .aload_n 1, 1, 0, 0, 0), (12, .aload_n 0, 1, 0, 0, 0), (13, .getfield 23, 3, 9, 12, 1601), (16, .iconst 4, 1, 0, 0, 0), (17, .iaload, 1, 0, 0, 0), (18, .iload_n 2, 1, 0, 0, 0), (19, .invokevirtual 444, 3, 322, 0, 2323), (22, .iastore, 1, 0, 0, 0), (23, .aload_n 0, 1, 0, 0, 0), (24, .getfield 23, 3, 9, 12, 1601), (27, .iconst 5, 1, 0, 0, 0), (28, .aload_n 0, 1, 0, 0, 0), (29, .aload_n 1, 1, 0, 0, 0), (30, .aload_n 0, 1, 0, 0, 0), (31, .getfield 23, 3, 9, 12, 1601)],
  [(34, .iconst 5, 1, 0, 0, 0), (35, .iaload, 1, 0, 0, 0), (36, .iload_n 2, 1, 0, 0, 0), (37, .invokevirtual 444, 3, 322, 0, 2323), (40, .iastore, 1, 0, 0, 0), (41, .iconst 0, 1, 0, 0, 0), (42, .istore_n 3, 1, 0, 0, 0), (43, .iload_n 3, 1, 0, 0, 0), (44, .bipush 12, 2, 0, 0, 0), (46, .if_icmp .ge 27, 3, 0, 73, 0), (49, .aload_n 0, 1, 0, 0, 0), (50, .getfield 54, 3, 9, 21, 1610), (53, .iload_n 3, 1, 0, 0, 0), (54, .aload_n 0, 1, 0, 0, 0), (55, .aload_n 1, 1, 0, 0, 0), (56, .aload_n 0, 1, 0, 0, 0), (57, .getfield 54, 3, 9, 21, 1610), (60, .iload_n 3, 1, 0, 0, 0), (61, .iaload, 1, 0, 0, 0), (62, .iload_n 2, 1, 0, 0, 0), (63, .invokevirtual 444, 3, 322, 0, 2323)],
  [(66, .iastore, 1, 0, 0, 0), (67, .iinc 3 1, 3, 0, 0, 0), (70, .goto (-27), 3, 0, 43, 0), (73, .return_, 1, 0, 0, 0)]]
set_option maxRecDepth 100000 in
noncomputable def mjT324 : List (List (Nat × mjX)) := [[(0, .aload_n 0, 1, 0, 0, 0), (1, .iconst 0, 1, 0, 0, 0), (2, .putfield 132, 3, 9, 0, 1589), (5, .aload_n 0, 1, 0, 0, 0), (6, .getfield 246, 3, 9, 22, 1611), (9, .iconst 3, 1, 0, 0, 0), (10, .if_icmp .ne 5, 3, 0, 15, 0), (13, .iconst (-1), 1, 0, 0, 0), (14, .ireturn, 1, 0, 0, 0), (15, .aload_n 0, 1, 0, 0, 0), (16, .aload_n 0, 1, 0, 0, 0), (17, .getfield 59, 3, 9, 24, 1613), (20, .aload_n 0, 1, 0, 0, 0), (21, .getfield 246, 3, 9, 22, 1611), (24, .aaload, 1, 0, 0, 0), (25, .iconst 0, 1, 0, 0, 0), (26, .invokevirtual 448, 3, 323, 0, 2319), (29, .aload_n 0, 1, 0, 0, 0), (30, .dup, 1, 0, 0, 0), (31, .getfield 246, 3, 9, 22, 1611)],
  [(34, .iconst 1, 1, 0, 0, 0), (35, .iadd, 1, 0, 0, 0), (36, .putfield 246, 3, 9, 22, 1611), (39, .aload_n 0, 1, 0, 0, 0), (40, .getfield 246, 3, 9, 22, 1611), (43, .ireturn, 1, 0, 0, 0)]]
set_option maxRecDepth 100000 in
noncomputable def mjT325 : List (List (Nat × mjX)) := [[(0, .aload_n 0, 1, 0, 0, 0), (1, .iconst 0, 1, 0, 0, 0), (2, .putfield 132, 3, 9, 0, 1589), (5, .aload_n 0, 1, 0, 0, 0), (6, .getfield 246, 3, 9, 22, 1611), (9, .ifCond .ne 5, 3, 0, 14, 0), (12, .iconst (-1), 1, 0, 0, 0), (13, .ireturn, 1, 0, 0, 0), (14, .aload_n 0, 1, 0, 0, 0), (15, .dup, 1, 0, 0, 0), (16, .getfield 246, 3, 9, 22, 1611), (19, .iconst 1, 1, 0, 0, 0), (20, .isub, 1, 0, 0, 0), (21, .putfield 246, 3, 9, 22, 1611), (24, .aload_n 0, 1, 0, 0, 0), (25, .aload_n 0, 1, 0, 0, 0), (26, .getfield 59, 3, 9, 24, 1613), (29, .aload_n 0, 1, 0, 0, 0), (30, .getfield 246, 3, 9, 22, 1611)],
  [(33, .aaload, 1, 0, 0, 0), (34, .iconst 1, 1, 0, 0, 0), (35, .invokevirtual 448, 3, 323, 0, 2319), (38, .aload_n 0, 1, 0, 0, 0), (39, .getfield 246, 3, 9, 22, 1611), (42, .ireturn, 1, 0, 0, 0)]]
set_option maxRecDepth 100000 in
noncomputable def mjT326 : List (List (Nat × mjX)) := [[(0, .aload_n 0, 1, 0, 0, 0), (1, .iconst 0, 1, 0, 0, 0), (2, .putfield 132, 3, 9, 0, 1589), (5, .iload_n 1, 1, 0, 0, 0), (6, .iconst 0, 1, 0, 0, 0), (7, .iconst 2, 1, 0, 0, 0), (8, .invokestatic 166, 3, 198, 1, 1804), (11, .ifCond .eq 12, 3, 0, 23, 0), (14, .aload_n 0, 1, 0, 0, 0), (15, .getfield 17, 3, 9, 10, 1599), (18, .iload_n 1, 1, 0, 0, 0), (19, .iaload, 1, 0, 0, 0), (20, .goto 4, 3, 0, 24, 0), (23, .iconst (-1), 1, 0, 0, 0), (24, .ireturn, 1, 0, 0, 0)]]
set_option maxRecDepth 100000 in
noncomputable def mjT327 : List (List (Nat × mjX)) := [[(0, .aload_n 0, 1, 0, 0, 0), (1, .iconst 0, 1, 0, 0, 0), (2, .putfield 132, 3, 9, 0, 1589), (5, .iload_n 1, 1, 0, 0, 0), (6, .ifCond .ne 10, 3, 0, 16, 0), (9, .aload_n 0, 1, 0, 0, 0), (10, .getfield 246, 3, 9, 22, 1611), (13, .goto 16, 3, 0, 29, 0), (16, .iload_n 1, 1, 0, 0, 0), (17, .iconst 1, 1, 0, 0, 0), (18, .if_icmp .ne 10, 3, 0, 28, 0), (21, .aload_n 0, 1, 0, 0, 0), (22, .getfield 135, 3, 9, 1, 1590), (25, .goto 4, 3, 0, 29, 0), (28, .iconst (-1), 1, 0, 0, 0), (29, .ireturn, 1, 0, 0, 0)]]
set_option maxRecDepth 100000 in
noncomputable def mjT328 : List (List (Nat × mjX)) := [[(0, .iload_n 0, 1, 0, 0, 0), (1, .iload_n 0, 1, 0, 0, 0), (2, .iconst 1, 1, 0, 0, 0), (3, .iushr, 1, 0, 0, 0), (4, .ldc_w 265, 3, 1431655765, 0, 602), (7, .iand, 1, 0, 0, 0), (8, .isub, 1, 0, 0, 0), (9, .istore_n 0, 1, 0, 0, 0), (10, .iload_n 0, 1, 0, 0, 0), (11, .ldc_w 266, 3, 858993459, 0, 603), (14, .iand, 1, 0, 0, 0), (15, .iload_n 0, 1, 0, 0, 0), (16, .iconst 2, 1, 0, 0, 0), (17, .iushr, 1, 0, 0, 0), (18, .ldc_w 266, 3, 858993459, 0, 603), (21, .iand, 1, 0, 0, 0), (22, .iadd, 1, 0, 0, 0), (23, .istore_n 0, 1, 0, 0, 0), (24, .iload_n 0, 1, 0, 0, 0), (25, .iload_n 0, 1, 0, 0, 0), (26, .iconst 4, 1, 0, 0, 0), (27, .iushr, 1, 0, 0, 0), (28, .iadd, 1, 0, 0, 0), (29, .ldc_w 267, 3, 252645135, 0, 604)],
  [(32, .iand, 1, 0, 0, 0), (33, .istore_n 0, 1, 0, 0, 0), (34, .iload_n 0, 1, 0, 0, 0), (35, .iload_n 0, 1, 0, 0, 0), (36, .bipush 8, 2, 0, 0, 0), (38, .iushr, 1, 0, 0, 0), (39, .iadd, 1, 0, 0, 0), (40, .istore_n 0, 1, 0, 0, 0), (41, .iload_n 0, 1, 0, 0, 0), (42, .iload_n 0, 1, 0, 0, 0), (43, .bipush 16, 2, 0, 0, 0), (45, .iushr, 1, 0, 0, 0), (46, .iadd, 1, 0, 0, 0), (47, .istore_n 0, 1, 0, 0, 0), (48, .iload_n 0, 1, 0, 0, 0), (49, .bipush 63, 2, 0, 0, 0), (51, .iand, 1, 0, 0, 0), (52, .ireturn, 1, 0, 0, 0)]]
set_option maxRecDepth 100000 in
noncomputable def mjT329 : List (List (Nat × mjX)) := [[(0, .lload_n 0, 1, 0, 0, 0), (1, .lload_n 0, 1, 0, 0, 0), (2, .iconst 1, 1, 0, 0, 0), (3, .lushr, 1, 0, 0, 0), (4, .ldc2_w 314, 3, 6148914691236517205, 0, 98), (7, .land, 1, 0, 0, 0), (8, .lsub, 1, 0, 0, 0), (9, .lstore_n 0, 1, 0, 0, 0), (10, .lload_n 0, 1, 0, 0, 0), (11, .ldc2_w 316, 3, 3689348814741910323, 0, 99), (14, .land, 1, 0, 0, 0), (15, .lload_n 0, 1, 0, 0, 0), (16, .iconst 2, 1, 0, 0, 0), (17, .lushr, 1, 0, 0, 0), (18, .ldc2_w 316, 3, 3689348814741910323, 0, 99), (21, .land, 1, 0, 0, 0), (22, .ladd, 1, 0, 0, 0), (23, .lstore_n 0, 1, 0, 0, 0), (24, .lload_n 0, 1, 0, 0, 0), (25, .lload_n 0, 1, 0, 0, 0), (26, .iconst 4, 1, 0, 0, 0), (27, .lushr, 1, 0, 0, 0), (28, .ladd, 1, 0, 0, 0), (29, .ldc2_w 318, 3, 1085102592571150095, 0, 100)],
  [(32, .land, 1, 0, 0, 0), (33, .lstore_n 0, 1, 0, 0, 0), (34, .lload_n 0, 1, 0, 0, 0), (35, .lload_n 0, 1, 0, 0, 0), (36, .bipush 8, 2, 0, 0, 0), (38, .lushr, 1, 0, 0, 0), (39, .ladd, 1, 0, 0, 0), (40, .lstore_n 0, 1, 0, 0, 0), (41, .lload_n 0, 1, 0, 0, 0), (42, .lload_n 0, 1, 0, 0, 0), (43, .bipush 16, 2, 0, 0, 0), (45, .lushr, 1, 0, 0, 0), (46, .ladd, 1, 0, 0, 0), (47, .lstore_n 0, 1, 0, 0, 0), (48, .lload_n 0, 1, 0, 0, 0), (49, .lload_n 0, 1, 0, 0, 0), (50, .bipush 32, 2, 0, 0, 0), (52, .lushr, 1, 0, 0, 0), (53, .ladd, 1, 0, 0, 0), (54, .lstore_n 0, 1, 0, 0, 0), (55, .lload_n 0, 1, 0, 0, 0), (56, .l2i, 1, 0, 0, 0), (57, .bipush 127, 2, 0, 0, 0), (59, .iand, 1, 0, 0, 0), (60, .ireturn, 1, 0, 0, 0)]]
set_option maxRecDepth 100000 in
noncomputable def mjT330 : List (List (Nat × mjX)) := [[(0, .iload_n 0, 1, 0, 0, 0), (1, .iload_n 1, 1, 0, 0, 0), (2, .if_icmp .lt 7, 3, 0, 9, 0), (5, .iload_n 0, 1, 0, 0, 0), (6, .goto 4, 3, 0, 10, 0), (9, .iload_n 1, 1, 0, 0, 0), (10, .ireturn, 1, 0, 0, 0)]]
set_option maxRecDepth 100000 in
noncomputable def mjT331 : List (List (Nat × mjX)) := [[(0, .iload_n 0, 1, 0, 0, 0), (1, .iload_n 1, 1, 0, 0, 0), (2, .if_icmp .gt 7, 3, 0, 9, 0), (5, .iload_n 0, 1, 0, 0, 0), (6, .goto 4, 3, 0, 10, 0), (9, .iload_n 1, 1, 0, 0, 0), (10, .ireturn, 1, 0, 0, 0)]]
set_option maxRecDepth 100000 in
noncomputable def mjT332 : List (List (Nat × mjX)) := [[(0, .aload_n 2, 1, 0, 0, 0), (1, .iconst 0, 1, 0, 0, 0), (2, .aload_n 0, 1, 0, 0, 0), (3, .iload_n 1, 1, 0, 0, 0), (4, .invokevirtual 7, 3, 114, 0, 638), (7, .i2l, 1, 0, 0, 0), (8, .lastore, 1, 0, 0, 0), (9, .goto 6, 3, 0, 15, 0), (12, .astore_n 3, 1, 0, 0, 0), (13, .iconst 1, 1, 0, 0, 0), (14, .ireturn, 1, 0, 0, 0), (15, .iconst 0, 1, 0, 0, 0), (16, .ireturn, 1, 0, 0, 0)]]
set_option maxRecDepth 100000 in
noncomputable def mjT333 : List (List (Nat × mjX)) := [[(0, .aload_n 2, 1, 0, 0, 0), (1, .iconst 0, 1, 0, 0, 0), (2, .aload_n 0, 1, 0, 0, 0), (3, .iload_n 1, 1, 0, 0, 0), (4, .invokevirtual 15, 3, 115, 0, 932), (7, .i2l, 1, 0, 0, 0), (8, .lastore, 1, 0, 0, 0), (9, .goto 6, 3, 0, 15, 0), (12, .astore_n 3, 1, 0, 0, 0), (13, .iconst 1, 1, 0, 0, 0), (14, .ireturn, 1, 0, 0, 0), (15, .iconst 0, 1, 0, 0, 0), (16, .ireturn, 1, 0, 0, 0)]]
set_option maxRecDepth 100000 in
noncomputable def mjT334 : List (List (Nat × mjX)) := [[(0, .aload_n 2, 1, 0, 0, 0), (1, .iconst 0, 1, 0, 0, 0), (2, .aload_n 0, 1, 0, 0, 0), (3, .iload_n 1, 1, 0, 0, 0), (4, .invokevirtual 18, 3, 116, 0, 944), (7, .i2l, 1, 0, 0, 0), (8, .lastore, 1, 0, 0, 0), (9, .goto 6, 3, 0, 15, 0), (12, .astore_n 3, 1, 0, 0, 0), (13, .iconst 1, 1, 0, 0, 0), (14, .ireturn, 1, 0, 0, 0), (15, .iconst 0, 1, 0, 0, 0), (16, .ireturn, 1, 0, 0, 0)]]
set_option maxRecDepth 100000 in
noncomputable def mjT335 : List (List (Nat × mjX)) := [[(0, .aload_n 2, 1, 0, 0, 0), (1, .iconst 0, 1, 0, 0, 0), (2, .aload_n 0, 1, 0, 0, 0), (3, .iload_n 1, 1, 0, 0, 0), (4, .invokevirtual 21, 3, 118, 0, 1031), (7, .i2l, 1, 0, 0, 0), (8, .lastore, 1, 0, 0, 0), (9, .goto 6, 3, 0, 15, 0), (12, .astore_n 3, 1, 0, 0, 0), (13, .iconst 1, 1, 0, 0, 0), (14, .ireturn, 1, 0, 0, 0), (15, .iconst 0, 1, 0, 0, 0), (16, .ireturn, 1, 0, 0, 0)]]
set_option maxRecDepth 100000 in
noncomputable def mjT336 : List (List (Nat × mjX)) := [[(0, .aload_n 2, 1, 0, 0, 0), (1, .iconst 0, 1, 0, 0, 0), (2, .aload_n 0, 1, 0, 0, 0), (3, .iload_n 1, 1, 0, 0, 0), (4, .invokevirtual 24, 3, 119, 0, 1043), (7, .lastore, 1, 0, 0, 0), (8, .goto 6, 3, 0, 14, 0), (11, .astore_n 3, 1, 0, 0, 0), (12, .iconst 1, 1, 0, 0, 0), (13, .ireturn, 1, 0, 0, 0), (14, .iconst 0, 1, 0, 0, 0), (15, .ireturn, 1, 0, 0, 0)]]
set_option maxRecDepth 100000 in
noncomputable def mjT337 : List (List (Nat × mjX)) := [[(0, .aload_n 2, 1, 0, 0, 0), (1, .iconst 0, 1, 0, 0, 0), (2, .aload_n 0, 1, 0, 0, 0), (3, .iload_n 1, 1, 0, 0, 0), (4, .invokevirtual 30, 3, 120, 0, 1074), (7, .lastore, 1, 0, 0, 0), (8, .goto 6, 3, 0, 14, 0), (11, .astore_n 3, 1, 0, 0, 0), (12, .iconst 1, 1, 0, 0, 0), (13, .ireturn, 1, 0, 0, 0), (14, .iconst 0, 1, 0, 0, 0), (15, .ireturn, 1, 0, 0, 0)]]
set_option maxRecDepth 100000 in
noncomputable def mjT338 : List (List (Nat × mjX)) := [[(0, .aload_n 2, 1, 0, 0, 0), (1, .iconst 0, 1, 0, 0, 0), (2, .aload_n 0, 1, 0, 0, 0), (3, .iload_n 1, 1, 0, 0, 0), (4, .invokevirtual 33, 3, 121, 0, 1081), (7, .lastore, 1, 0, 0, 0), (8, .goto 6, 3, 0, 14, 0), (11, .astore_n 3, 1, 0, 0, 0), (12, .iconst 1, 1, 0, 0, 0), (13, .ireturn, 1, 0, 0, 0), (14, .iconst 0, 1, 0, 0, 0), (15, .ireturn, 1, 0, 0, 0)]]
set_option maxRecDepth 100000 in
noncomputable def mjT339 : List (List (Nat × mjX)) := [[(0, .aload_n 3, 1, 0, 0, 0), (1, .iconst 0, 1, 0, 0, 0), (2, .aload_n 0, 1, 0, 0, 0), (3, .iload_n 1, 1, 0, 0, 0), (4, .iload_n 2, 1, 0, 0, 0), (5, .invokevirtual 36, 3, 122, 0, 1092), (8, .i2l, 1, 0, 0, 0), (9, .lastore, 1, 0, 0, 0), (10, .goto 7, 3, 0, 17, 0), (13, .astore 4, 2, 0, 0, 0), (15, .iconst 1, 1, 0, 0, 0), (16, .ireturn, 1, 0, 0, 0), (17, .iconst 0, 1, 0, 0, 0), (18, .ireturn, 1, 0, 0, 0)]]
set_option maxRecDepth 100000 in
noncomputable def mjT340 : List (List (Nat × mjX)) := [[(0, .aload 4, 2, 0, 0, 0), (2, .iconst 0, 1, 0, 0, 0), (3, .aload_n 0, 1, 0, 0, 0), (4, .iload_n 1, 1, 0, 0, 0), (5, .iload_n 2, 1, 0, 0, 0), (6, .iload_n 3, 1, 0, 0, 0), (7, .invokevirtual 40, 3, 123, 0, 1100), (10, .ifCond .eq 7, 3, 0, 17, 0), (13, .lconst 1, 1, 0, 0, 0), (14, .goto 4, 3, 0, 18, 0), (17, .lconst 0, 1, 0, 0, 0), (18, .lastore, 1, 0, 0, 0), (19, .goto 11, 3, 0, 30, 0), (22, .astore 5, 2, 0, 0, 0), (24, .iconst 1, 1, 0, 0, 0), (25, .ireturn, 1, 0, 0, 0), (26, .astore 5, 2, 0, 0, 0), (28, .iconst 2, 1, 0, 0, 0), (29, .ireturn, 1, 0, 0, 0), (30, .iconst 0, 1, 0, 0, 0), (31, .ireturn, 1, 0, 0, 0)]]
set_option maxRecDepth 100000 in
noncomputable def mjT341 : List (List (Nat × mjX)) := [[(0, .aload_n 2, 1, 0, 0, 0), (1, .iconst 0, 1, 0, 0, 0), (2, .aload_n 0, 1, 0, 0, 0), (3, .iload_n 1, 1, 0, 0, 0), (4, .invokevirtual 44, 3, 128, 0, 1108), (7, .i2l, 1, 0, 0, 0), (8, .lastore, 1, 0, 0, 0), (9, .goto 6, 3, 0, 15, 0), (12, .astore_n 3, 1, 0, 0, 0), (13, .iconst 1, 1, 0, 0, 0), (14, .ireturn, 1, 0, 0, 0), (15, .iconst 0, 1, 0, 0, 0), (16, .ireturn, 1, 0, 0, 0)]]
set_option maxRecDepth 100000 in
noncomputable def mjT342 : List (List (Nat × mjX)) := [[(0, .aload_n 2, 1, 0, 0, 0), (1, .iconst 0, 1, 0, 0, 0), (2, .aload_n 0, 1, 0, 0, 0), (3, .iload_n 1, 1, 0, 0, 0), (4, .invokevirtual 47, 3, 129, 0, 1115), (7, .i2l, 1, 0, 0, 0), (8, .lastore, 1, 0, 0, 0), (9, .goto 6, 3, 0, 15, 0), (12, .astore_n 3, 1, 0, 0, 0), (13, .iconst 1, 1, 0, 0, 0), (14, .ireturn, 1, 0, 0, 0), (15, .iconst 0, 1, 0, 0, 0), (16, .ireturn, 1, 0, 0, 0)]]
set_option maxRecDepth 100000 in
noncomputable def mjT343 : List (List (Nat × mjX)) := [[(0, .aload_n 2, 1, 0, 0, 0), (1, .iconst 0, 1, 0, 0, 0), (2, .aload_n 0, 1, 0, 0, 0), (3, .iload_n 1, 1, 0, 0, 0), (4, .invokevirtual 50, 3, 130, 0, 1122), (7, .i2l, 1, 0, 0, 0), (8, .lastore, 1, 0, 0, 0), (9, .goto 6, 3, 0, 15, 0), (12, .astore_n 3, 1, 0, 0, 0), (13, .iconst 1, 1, 0, 0, 0), (14, .ireturn, 1, 0, 0, 0), (15, .iconst 0, 1, 0, 0, 0), (16, .ireturn, 1, 0, 0, 0)]]
set_option maxRecDepth 100000 in
noncomputable def mjT344 : List (List (Nat × mjX)) := [[(0, .aload_n 3, 1, 0, 0, 0), (1, .iconst 0, 1, 0, 0, 0), (2, .aload_n 0, 1, 0, 0, 0), (3, .iload_n 1, 1, 0, 0, 0), (4, .iload_n 2, 1, 0, 0, 0), (5, .invokevirtual 53, 3, 131, 0, 1133), (8, .i2l, 1, 0, 0, 0), (9, .lastore, 1, 0, 0, 0), (10, .goto 11, 3, 0, 21, 0), (13, .astore 4, 2, 0, 0, 0), (15, .iconst 1, 1, 0, 0, 0), (16, .ireturn, 1, 0, 0, 0), (17, .astore 4, 2, 0, 0, 0), (19, .iconst 2, 1, 0, 0, 0), (20, .ireturn, 1, 0, 0, 0), (21, .iconst 0, 1, 0, 0, 0), (22, .ireturn, 1, 0, 0, 0)]]
set_option maxRecDepth 100000 in
noncomputable def mjT345 : List (List (Nat × mjX)) := [[(0, .aload_n 2, 1, 0, 0, 0), (1, .iconst 0, 1, 0, 0, 0), (2, .aload_n 0, 1, 0, 0, 0), (3, .iload_n 1, 1, 0, 0, 0), (4, .invokevirtual 56, 3, 132, 0, 1145), (7, .i2l, 1, 0, 0, 0), (8, .lastore, 1, 0, 0, 0), (9, .goto 6, 3, 0, 15, 0), (12, .astore_n 3, 1, 0, 0, 0), (13, .iconst 1, 1, 0, 0, 0), (14, .ireturn, 1, 0, 0, 0), (15, .iconst 0, 1, 0, 0, 0), (16, .ireturn, 1, 0, 0, 0)]]
set_option maxRecDepth 100000 in
noncomputable def mjT346 : List (List (Nat × mjX)) := [[(0, .aload_n 2, 1, 0, 0, 0), (1, .iconst 0, 1, 0, 0, 0), (2, .aload_n 0, 1, 0, 0, 0), (3, .iload_n 1, 1, 0, 0, 0), (4, .invokevirtual 59, 3, 134, 0, 1166), (7, .i2l, 1, 0, 0, 0), (8, .lastore, 1, 0, 0, 0), (9, .goto 9, 3, 0, 18, 0), (12, .astore_n 3, 1, 0, 0, 0), (13, .iconst 1, 1, 0, 0, 0), (14, .ireturn, 1, 0, 0, 0), (15, .astore_n 3, 1, 0, 0, 0), (16, .iconst 2, 1, 0, 0, 0), (17, .ireturn, 1, 0, 0, 0), (18, .iconst 0, 1, 0, 0, 0), (19, .ireturn, 1, 0, 0, 0)]]
set_option maxRecDepth 100000 in
noncomputable def mjT347 : List (List (Nat × mjX)) := [[(0, .aload_n 2, 1, 0, 0, 0), (1, .iconst 0, 1, 0, 0, 0), (2, .aload_n 0, 1, 0, 0, 0), (3, .iload_n 1, 1, 0, 0, 0), (4, .invokevirtual 64, 3, 135, 0, 1237), (7, .i2l, 1, 0, 0, 0), (8, .lastore, 1, 0, 0, 0), (9, .goto 9, 3, 0, 18, 0), (12, .astore_n 3, 1, 0, 0, 0), (13, .iconst 1, 1, 0, 0, 0), (14, .ireturn, 1, 0, 0, 0), (15, .astore_n 3, 1, 0, 0, 0), (16, .iconst 2, 1, 0, 0, 0), (17, .ireturn, 1, 0, 0, 0), (18, .iconst 0, 1, 0, 0, 0), (19, .ireturn, 1, 0, 0, 0)]]
set_option maxRecDepth 100000 in
noncomputable def mjT348 : List (List (Nat × mjX)) := [[(0, .aload_n 1, 1, 0, 0, 0), (1, .iconst 0, 1, 0, 0, 0), (2, .aload_n 0, 1, 0, 0, 0), (3, .invokevirtual 67, 3, 136, 0, 1249), (6, .i2l, 1, 0, 0, 0), (7, .lastore, 1, 0, 0, 0), (8, .goto 6, 3, 0, 14, 0), (11, .astore_n 2, 1, 0, 0, 0), (12, .iconst 1, 1, 0, 0, 0), (13, .ireturn, 1, 0, 0, 0), (14, .iconst 0, 1, 0, 0, 0), (15, .ireturn, 1, 0, 0, 0)]]
set_option maxRecDepth 100000 in
noncomputable def mjT349 : List (List (Nat × mjX)) := [[(0, .aload_n 3, 1, 0, 0, 0), (1, .iconst 0, 1, 0, 0, 0), (2, .aload_n 0, 1, 0, 0, 0), (3, .iload_n 1, 1, 0, 0, 0), (4, .iload_n 2, 1, 0, 0, 0), (5, .invokevirtual 71, 3, 137, 0, 1280), (8, .ifCond .eq 7, 3, 0, 15, 0), (11, .lconst 1, 1, 0, 0, 0), (12, .goto 4, 3, 0, 16, 0), (15, .lconst 0, 1, 0, 0, 0), (16, .lastore, 1, 0, 0, 0), (17, .goto 7, 3, 0, 24, 0), (20, .astore 4, 2, 0, 0, 0), (22, .iconst 1, 1, 0, 0, 0), (23, .ireturn, 1, 0, 0, 0), (24, .iconst 0, 1, 0, 0, 0), (25, .ireturn, 1, 0, 0, 0)]]
set_option maxRecDepth 100000 in
noncomputable def mjT350 : List (List (Nat × mjX)) := [[(0, .aload_n 3, 1, 0, 0, 0), (1, .iconst 0, 1, 0, 0, 0), (2, .aload_n 0, 1, 0, 0, 0), (3, .iload_n 1, 1, 0, 0, 0), (4, .iload_n 2, 1, 0, 0, 0), (5, .invokevirtual 75, 3, 138, 0, 1291), (8, .i2l, 1, 0, 0, 0), (9, .lastore, 1, 0, 0, 0), (10, .goto 7, 3, 0, 17, 0), (13, .astore 4, 2, 0, 0, 0), (15, .iconst 1, 1, 0, 0, 0), (16, .ireturn, 1, 0, 0, 0), (17, .iconst 0, 1, 0, 0, 0), (18, .ireturn, 1, 0, 0, 0)]]
set_option maxRecDepth 100000 in
noncomputable def mjT351 : List (List (Nat × mjX)) := [[(0, .aload_n 3, 1, 0, 0, 0), (1, .iconst 0, 1, 0, 0, 0), (2, .aload_n 0, 1, 0, 0, 0), (3, .iload_n 1, 1, 0, 0, 0), (4, .iload_n 2, 1, 0, 0, 0), (5, .invokevirtual 78, 3, 139, 0, 1324), (8, .i2l, 1, 0, 0, 0), (9, .lastore, 1, 0, 0, 0), (10, .goto 7, 3, 0, 17, 0), (13, .astore 4, 2, 0, 0, 0), (15, .iconst 1, 1, 0, 0, 0), (16, .ireturn, 1, 0, 0, 0), (17, .iconst 0, 1, 0, 0, 0), (18, .ireturn, 1, 0, 0, 0)]]
set_option maxRecDepth 100000 in
noncomputable def mjT352 : List (List (Nat × mjX)) := [[(0, .aload_n 2, 1, 0, 0, 0), (1, .iconst 0, 1, 0, 0, 0), (2, .aload_n 0, 1, 0, 0, 0), (3, .iload_n 1, 1, 0, 0, 0), (4, .invokevirtual 81, 3, 140, 0, 1335), (7, .i2l, 1, 0, 0, 0), (8, .lastore, 1, 0, 0, 0), (9, .goto 6, 3, 0, 15, 0), (12, .astore_n 3, 1, 0, 0, 0), (13, .iconst 1, 1, 0, 0, 0), (14, .ireturn, 1, 0, 0, 0), (15, .iconst 0, 1, 0, 0, 0), (16, .ireturn, 1, 0, 0, 0)]]
set_option maxRecDepth 100000 in
noncomputable def mjT353 : List (List (Nat × mjX)) := [[(0, .aload_n 3, 1, 0, 0, 0), (1, .iconst 0, 1, 0, 0, 0), (2, .aload_n 0, 1, 0, 0, 0), (3, .iload_n 1, 1, 0, 0, 0), (4, .iload_n 2, 1, 0, 0, 0), (5, .invokevirtual 84, 3, 141, 0, 1347), (8, .i2l, 1, 0, 0, 0), (9, .lastore, 1, 0, 0, 0), (10, .goto 7, 3, 0, 17, 0), (13, .astore 4, 2, 0, 0, 0), (15, .iconst 1, 1, 0, 0, 0), (16, .ireturn, 1, 0, 0, 0), (17, .iconst 0, 1, 0, 0, 0), (18, .ireturn, 1, 0, 0, 0)]]
set_option maxRecDepth 100000 in
noncomputable def mjT354 : List (List (Nat × mjX)) := [[(0, .aload_n 2, 1, 0, 0, 0), (1, .iconst 0, 1, 0, 0, 0), (2, .aload_n 0, 1, 0, 0, 0), (3, .iload_n 1, 1, 0, 0, 0), (4, .invokevirtual 87, 3, 142, 0, 1360), (7, .i2l, 1, 0, 0, 0), (8, .lastore, 1, 0, 0, 0), (9, .goto 6, 3, 0, 15, 0), (12, .astore_n 3, 1, 0, 0, 0), (13, .iconst 1, 1, 0, 0, 0), (14, .ireturn, 1, 0, 0, 0), (15, .iconst 0, 1, 0, 0, 0), (16, .ireturn, 1, 0, 0, 0)]]
set_option maxRecDepth 100000 in
noncomputable def mjT355 : List (List (Nat × mjX)) := [[(0, .aload_n 2, 1, 0, 0, 0), (1, .iconst 0, 1, 0, 0, 0), (2, .aload_n 0, 1, 0, 0, 0), (3, .iload_n 1, 1, 0, 0, 0), (4, .invokevirtual 90, 3, 143, 0, 1367), (7, .i2l, 1, 0, 0, 0), (8, .lastore, 1, 0, 0, 0), (9, .goto 6, 3, 0, 15, 0), (12, .astore_n 3, 1, 0, 0, 0), (13, .iconst 1, 1, 0, 0, 0), (14, .ireturn, 1, 0, 0, 0), (15, .iconst 0, 1, 0, 0, 0), (16, .ireturn, 1, 0, 0, 0)]]
set_option maxRecDepth 100000 in
noncomputable def mjT356 : List (List (Nat × mjX)) := [[(0, .aload_n 2, 1, 0, 0, 0), (1, .iconst 0, 1, 0, 0, 0), (2, .aload_n 0, 1, 0, 0, 0), (3, .iload_n 1, 1, 0, 0, 0), (4, .invokevirtual 93, 3, 144, 0, 1378), (7, .i2l, 1, 0, 0, 0), (8, .lastore, 1, 0, 0, 0), (9, .goto 6, 3, 0, 15, 0), (12, .astore_n 3, 1, 0, 0, 0), (13, .iconst 1, 1, 0, 0, 0), (14, .ireturn, 1, 0, 0, 0), (15, .iconst 0, 1, 0, 0, 0), (16, .ireturn, 1, 0, 0, 0)]]
set_option maxRecDepth 100000 in
noncomputable def mjT357 : List (List (Nat × mjX)) := [[(0, .aload_n 2, 1, 0, 0, 0), (1, .iconst 0, 1, 0, 0, 0), (2, .aload_n 0, 1, 0, 0, 0), (3, .iload_n 1, 1, 0, 0, 0), (4, .invokevirtual 96, 3, 145, 0, 1385), (7, .i2l, 1, 0, 0, 0), (8, .lastore, 1, 0, 0, 0), (9, .goto 9, 3, 0, 18, 0), (12, .astore_n 3, 1, 0, 0, 0), (13, .iconst 1, 1, 0, 0, 0), (14, .ireturn, 1, 0, 0, 0), (15, .astore_n 3, 1, 0, 0, 0), (16, .iconst 2, 1, 0, 0, 0), (17, .ireturn, 1, 0, 0, 0), (18, .iconst 0, 1, 0, 0, 0), (19, .ireturn, 1, 0, 0, 0)]]
set_option maxRecDepth 100000 in
noncomputable def mjT358 : List (List (Nat × mjX)) := [[(0, .aload 4, 2, 0, 0, 0), (2, .iconst 0, 1, 0, 0, 0), (3, .aload_n 0, 1, 0, 0, 0), (4, .iload_n 1, 1, 0, 0, 0), (5, .iload_n 2, 1, 0, 0, 0), (6, .iload_n 3, 1, 0, 0, 0), (7, .invokevirtual 99, 3, 146, 0, 1392), (10, .i2l, 1, 0, 0, 0), (11, .lastore, 1, 0, 0, 0), (12, .goto 7, 3, 0, 19, 0), (15, .astore 5, 2, 0, 0, 0), (17, .iconst 1, 1, 0, 0, 0), (18, .ireturn, 1, 0, 0, 0), (19, .iconst 0, 1, 0, 0, 0), (20, .ireturn, 1, 0, 0, 0)]]
set_option maxRecDepth 100000 in
noncomputable def mjT359 : List (List (Nat × mjX)) := [[(0, .aload_n 3, 1, 0, 0, 0), (1, .iconst 0, 1, 0, 0, 0), (2, .aload_n 0, 1, 0, 0, 0), (3, .iload_n 1, 1, 0, 0, 0), (4, .iload_n 2, 1, 0, 0, 0), (5, .invokevirtual 103, 3, 149, 0, 1403), (8, .i2l, 1, 0, 0, 0), (9, .lastore, 1, 0, 0, 0), (10, .goto 7, 3, 0, 17, 0), (13, .astore 4, 2, 0, 0, 0), (15, .iconst 1, 1, 0, 0, 0), (16, .ireturn, 1, 0, 0, 0), (17, .iconst 0, 1, 0, 0, 0), (18, .ireturn, 1, 0, 0, 0)]]
set_option maxRecDepth 100000 in
noncomputable def mjT360 : List (List (Nat × mjX)) := [[(0, .aload_n 2, 1, 0, 0, 0), (1, .iconst 0, 1, 0, 0, 0), (2, .aload_n 0, 1, 0, 0, 0), (3, .iload_n 1, 1, 0, 0, 0), (4, .invokevirtual 106, 3, 150, 0, 1414), (7, .i2l, 1, 0, 0, 0), (8, .lastore, 1, 0, 0, 0), (9, .goto 6, 3, 0, 15, 0), (12, .astore_n 3, 1, 0, 0, 0), (13, .iconst 1, 1, 0, 0, 0), (14, .ireturn, 1, 0, 0, 0), (15, .iconst 0, 1, 0, 0, 0), (16, .ireturn, 1, 0, 0, 0)]]
set_option maxRecDepth 100000 in
noncomputable def mjT361 : List (List (Nat × mjX)) := [[(0, .aload_n 2, 1, 0, 0, 0), (1, .iconst 0, 1, 0, 0, 0), (2, .aload_n 0, 1, 0, 0, 0), (3, .iload_n 1, 1, 0, 0, 0), (4, .invokevirtual 109, 3, 152, 0, 1421), (7, .i2l, 1, 0, 0, 0), (8, .lastore, 1, 0, 0, 0), (9, .goto 6, 3, 0, 15, 0), (12, .astore_n 3, 1, 0, 0, 0), (13, .iconst 1, 1, 0, 0, 0), (14, .ireturn, 1, 0, 0, 0), (15, .iconst 0, 1, 0, 0, 0), (16, .ireturn, 1, 0, 0, 0)]]
set_option maxRecDepth 100000 in
noncomputable def mjT362 : List (List (Nat × mjX)) := [[(0, .aload_n 3, 1, 0, 0, 0), (1, .iconst 0, 1, 0, 0, 0), (2, .aload_n 0, 1, 0, 0, 0), (3, .iload_n 1, 1, 0, 0, 0), (4, .iload_n 2, 1, 0, 0, 0), (5, .invokevirtual 112, 3, 153, 0, 1428), (8, .lastore, 1, 0, 0, 0), (9, .goto 7, 3, 0, 16, 0), (12, .astore 4, 2, 0, 0, 0), (14, .iconst 1, 1, 0, 0, 0), (15, .ireturn, 1, 0, 0, 0), (16, .iconst 0, 1, 0, 0, 0), (17, .ireturn, 1, 0, 0, 0)]]
set_option maxRecDepth 100000 in
noncomputable def mjT363 : List (List (Nat × mjX)) := [[(0, .aload_n 3, 1, 0, 0, 0), (1, .iconst 0, 1, 0, 0, 0), (2, .aload_n 0, 1, 0, 0, 0), (3, .iload_n 1, 1, 0, 0, 0), (4, .iload_n 2, 1, 0, 0, 0), (5, .invokevirtual 116, 3, 154, 0, 1435), (8, .i2l, 1, 0, 0, 0), (9, .lastore, 1, 0, 0, 0), (10, .goto 7, 3, 0, 17, 0), (13, .astore 4, 2, 0, 0, 0), (15, .iconst 1, 1, 0, 0, 0), (16, .ireturn, 1, 0, 0, 0), (17, .iconst 0, 1, 0, 0, 0), (18, .ireturn, 1, 0, 0, 0)]]
set_option maxRecDepth 100000 in
noncomputable def mjT364 : List (List (Nat × mjX)) := [[(0, .aload_n 2, 1, 0, 0, 0), (1, .iconst 0, 1, 0, 0, 0), (2, .aload_n 0, 1, 0, 0, 0), (3, .iload_n 1, 1, 0, 0, 0), (4, .invokevirtual 119, 3, 155, 0, 1442), (7, .i2l, 1, 0, 0, 0), (8, .lastore, 1, 0, 0, 0), (9, .goto 6, 3, 0, 15, 0), (12, .astore_n 3, 1, 0, 0, 0), (13, .iconst 1, 1, 0, 0, 0), (14, .ireturn, 1, 0, 0, 0), (15, .iconst 0, 1, 0, 0, 0), (16, .ireturn, 1, 0, 0, 0)]]
set_option maxRecDepth 100000 in
noncomputable def mjT365 : List (List (Nat × mjX)) := [[(0, .aload_n 2, 1, 0, 0, 0), (1, .iconst 0, 1, 0, 0, 0), (2, .aload_n 0, 1, 0, 0, 0), (3, .iload_n 1, 1, 0, 0, 0), (4, .invokevirtual 122, 3, 156, 0, 1449), (7, .i2l, 1, 0, 0, 0), (8, .lastore, 1, 0, 0, 0), (9, .goto 6, 3, 0, 15, 0), (12, .astore_n 3, 1, 0, 0, 0), (13, .iconst 1, 1, 0, 0, 0), (14, .ireturn, 1, 0, 0, 0), (15, .iconst 0, 1, 0, 0, 0), (16, .ireturn, 1, 0, 0, 0)]]
set_option maxRecDepth 100000 in
noncomputable def mjT366 : List (List (Nat × mjX)) := [[(0, .aload_n 2, 1, 0, 0, 0), (1, .iconst 0, 1, 0, 0, 0), (2, .aload_n 0, 1, 0, 0, 0), (3, .iload_n 1, 1, 0, 0, 0), (4, .invokevirtual 125, 3, 157, 0, 1456), (7, .i2l, 1, 0, 0, 0), (8, .lastore, 1, 0, 0, 0), (9, .goto 6, 3, 0, 15, 0), (12, .astore_n 3, 1, 0, 0, 0), (13, .iconst 1, 1, 0, 0, 0), (14, .ireturn, 1, 0, 0, 0), (15, .iconst 0, 1, 0, 0, 0), (16, .ireturn, 1, 0, 0, 0)]]
set_option maxRecDepth 100000 in
noncomputable def mjT367 : List (List (Nat × mjX)) := [[(0, .aload_n 2, 1, 0, 0, 0), (1, .iconst 0, 1, 0, 0, 0), (2, .aload_n 0, 1, 0, 0, 0), (3, .iload_n 1, 1, 0, 0, 0), (4, .invokevirtual 128, 3, 158, 0, 1472), (7, .lastore, 1, 0, 0, 0), (8, .goto 9, 3, 0, 17, 0), (11, .astore_n 3, 1, 0, 0, 0), (12, .iconst 1, 1, 0, 0, 0), (13, .ireturn, 1, 0, 0, 0), (14, .astore_n 3, 1, 0, 0, 0), (15, .iconst 2, 1, 0, 0, 0), (16, .ireturn, 1, 0, 0, 0), (17, .iconst 0, 1, 0, 0, 0), (18, .ireturn, 1, 0, 0, 0)]]
set_option maxRecDepth 100000 in
noncomputable def mjT368 : List (List (Nat × mjX)) := [[(0, .aload 4, 2, 0, 0, 0), (2, .iconst 0, 1, 0, 0, 0), (3, .aload_n 0, 1, 0, 0, 0), (4, .iload_n 1, 1, 0, 0, 0), (5, .iload_n 2, 1, 0, 0, 0), (6, .iload_n 3, 1, 0, 0, 0), (7, .invokevirtual 131, 3, 148, 0, 1479), (10, .i2l, 1, 0, 0, 0), (11, .lastore, 1, 0, 0, 0), (12, .goto 11, 3, 0, 23, 0), (15, .astore 5, 2, 0, 0, 0), (17, .iconst 1, 1, 0, 0, 0), (18, .ireturn, 1, 0, 0, 0), (19, .astore 5, 2, 0, 0, 0), (21, .iconst 2, 1, 0, 0, 0), (22, .ireturn, 1, 0, 0, 0), (23, .iconst 0, 1, 0, 0, 0), (24, .ireturn, 1, 0, 0, 0)]]
set_option maxRecDepth 100000 in
noncomputable def mjT369 : List (List (Nat × mjX)) := [[(0, .aload_n 3, 1, 0, 0, 0), (1, .iconst 0, 1, 0, 0, 0), (2, .aload_n 0, 1, 0, 0, 0), (3, .iload_n 1, 1, 0, 0, 0), (4, .iload_n 2, 1, 0, 0, 0), (5, .invokevirtual 134, 3, 159, 0, 1486), (8, .i2l, 1, 0, 0, 0), (9, .lastore, 1, 0, 0, 0), (10, .goto 7, 3, 0, 17, 0), (13, .astore 4, 2, 0, 0, 0), (15, .iconst 1, 1, 0, 0, 0), (16, .ireturn, 1, 0, 0, 0), (17, .iconst 0, 1, 0, 0, 0), (18, .ireturn, 1, 0, 0, 0)]]
set_option maxRecDepth 100000 in
noncomputable def mjT370 : List (List (Nat × mjX)) := [[(0, .aload_n 2, 1, 0, 0, 0), (1, .iconst 0, 1, 0, 0, 0), (2, .aload_n 0, 1, 0, 0, 0), (3, .iload_n 1, 1, 0, 0, 0), (4, .invokevirtual 137, 3, 160, 0, 1494), (7, .i2l, 1, 0, 0, 0), (8, .lastore, 1, 0, 0, 0), (9, .goto 9, 3, 0, 18, 0), (12, .astore_n 3, 1, 0, 0, 0), (13, .iconst 1, 1, 0, 0, 0), (14, .ireturn, 1, 0, 0, 0), (15, .astore_n 3, 1, 0, 0, 0), (16, .iconst 2, 1, 0, 0, 0), (17, .ireturn, 1, 0, 0, 0), (18, .iconst 0, 1, 0, 0, 0), (19, .ireturn, 1, 0, 0, 0)]]
set_option maxRecDepth 100000 in
noncomputable def mjT371 : List (List (Nat × mjX)) := [[(0, .aload_n 2, 1, 0, 0, 0), (1, .iconst 0, 1, 0, 0, 0), (2, .aload_n 0, 1, 0, 0, 0), (3, .iload_n 1, 1, 0, 0, 0), (4, .invokevirtual 140, 3, 161, 0, 1538), (7, .i2l, 1, 0, 0, 0), (8, .lastore, 1, 0, 0, 0), (9, .goto 6, 3, 0, 15, 0), (12, .astore_n 3, 1, 0, 0, 0), (13, .iconst 1, 1, 0, 0, 0), (14, .ireturn, 1, 0, 0, 0), (15, .iconst 0, 1, 0, 0, 0), (16, .ireturn, 1, 0, 0, 0)]]
set_option maxRecDepth 100000 in
noncomputable def mjT372 : List (List (Nat × mjX)) := [[(0, .aload_n 2, 1, 0, 0, 0), (1, .iconst 0, 1, 0, 0, 0), (2, .aload_n 0, 1, 0, 0, 0), (3, .iload_n 1, 1, 0, 0, 0), (4, .invokevirtual 143, 3, 151, 0, 1549), (7, .i2l, 1, 0, 0, 0), (8, .lastore, 1, 0, 0, 0), (9, .goto 6, 3, 0, 15, 0), (12, .astore_n 3, 1, 0, 0, 0), (13, .iconst 1, 1, 0, 0, 0), (14, .ireturn, 1, 0, 0, 0), (15, .iconst 0, 1, 0, 0, 0), (16, .ireturn, 1, 0, 0, 0)]]
set_option maxRecDepth 100000 in
noncomputable def mjT373 : List (List (Nat × mjX)) := [[(0, .aload_n 2, 1, 0, 0, 0), (1, .iconst 0, 1, 0, 0, 0), (2, .aload_n 0, 1, 0, 0, 0), (3, .iload_n 1, 1, 0, 0, 0), (4, .invokevirtual 146, 3, 163, 0, 1556), (7, .i2l, 1, 0, 0, 0), (8, .lastore, 1, 0, 0, 0), (9, .goto 6, 3, 0, 15, 0), (12, .astore_n 3, 1, 0, 0, 0), (13, .iconst 1, 1, 0, 0, 0), (14, .ireturn, 1, 0, 0, 0), (15, .iconst 0, 1, 0, 0, 0), (16, .ireturn, 1, 0, 0, 0)]]
set_option maxRecDepth 100000 in
noncomputable def mjT374 : List (List (Nat × mjX)) := [[(0, .aload 5, 2, 0, 0, 0), (2, .iconst 0, 1, 0, 0, 0), (3, .aload_n 0, 1, 0, 0, 0), (4, .iload_n 1, 1, 0, 0, 0), (5, .iload_n 2, 1, 0, 0, 0), (6, .iload_n 3, 1, 0, 0, 0), (7, .iload 4, 2, 0, 0, 0), (9, .invokevirtual 149, 3, 166, 0, 1563), (12, .i2l, 1, 0, 0, 0), (13, .lastore, 1, 0, 0, 0), (14, .goto 11, 3, 0, 25, 0), (17, .astore 6, 2, 0, 0, 0), (19, .iconst 1, 1, 0, 0, 0), (20, .ireturn, 1, 0, 0, 0), (21, .astore 6, 2, 0, 0, 0), (23, .iconst 2, 1, 0, 0, 0), (24, .ireturn, 1, 0, 0, 0), (25, .iconst 0, 1, 0, 0, 0), (26, .ireturn, 1, 0, 0, 0)]]
set_option maxRecDepth 100000 in
noncomputable def mjT375 : List (List (Nat × mjX)) := [[(0, .new 8, 3, 8, 0, 27), (3, .dup, 1, 0, 0, 0), (4, .invokespecial 153, 3, 112, 2, 29), (7, .astore_n 1, 1, 0, 0, 0), (8, .new 154, 3, 9, 0, 1569), (11, .dup, 1, 0, 0, 0), (12, .invokespecial 156, 3, 194, 2, 1571), (15, .astore_n 2, 1, 0, 0, 0), (16, .iconst 1, 1, 0, 0, 0), (17, .newarray .long, 2, 1, 0, 193), (19, .astore_n 3, 1, 0, 0, 0), (20, .iconst 0, 1, 0, 0, 0), (21, .istore 4, 2, 0, 0, 0), (23, .iload 4, 2, 0, 0, 0), (25, .aload_n 0, 1, 0, 0, 0), (26, .arraylength, 1, 0, 0, 0), (27, .bipush 6, 2, 0, 0, 0), (29, .isub, 1, 0, 0, 0), (30, .if_icmp .gt 3268, 3, 0, 3298, 0)],
  [(33, .aload_n 0, 1, 0, 0, 0), (34, .iload 4, 2, 0, 0, 0), (36, .iaload, 1, 0, 0, 0), (37, .bipush 63, 2, 0, 0, 0), (39, .iand, 1, 0, 0, 0), (40, .tableswitch 3252 0 57 #[248, 321, 377, 433, 489, 502, 558, 613, 668, 723, 791, 878, 891, 904, 961, 986, 1042, 1098, 1154, 1222, 1278, 1291, 1347, 1403, 1447, 1522, 1590, 1658, 1714, 1782, 1838, 1894, 1950, 2006, 2086, 2123, 2191, 2247, 2303, 2370, 2438, 2494, 2550, 2606, 2661, 2741, 2809, 2865, 2921, 2977, 3002, 3058, 3071, 3084, 3176, 3189, 3202, 3227], 248, 0, 0, 0)],
  [],
  [],
  [],
  [],
  [],
  [],
  [],
  [(288, .aload_n 1, 1, 0, 0, 0), (289, .aload_n 0, 1, 0, 0, 0), (290, .iload 4, 2, 0, 0, 0), (292, .iconst 1, 1, 0, 0, 0), (293, .iadd, 1, 0, 0, 0), (294, .iaload, 1, 0, 0, 0), (295, .aload_n 0, 1, 0, 0, 0), (296, .iload 4, 2, 0, 0, 0), (298, .iconst 2, 1, 0, 0, 0), (299, .iadd, 1, 0, 0, 0), (300, .iaload, 1, 0, 0, 0), (301, .aload_n 0, 1, 0, 0, 0), (302, .iload 4, 2, 0, 0, 0), (304, .iconst 3, 1, 0, 0, 0), (305, .iadd, 1, 0, 0, 0), (306, .iaload, 1, 0, 0, 0), (307, .aload_n 0, 1, 0, 0, 0), (308, .iload 4, 2, 0, 0, 0), (310, .iconst 4, 1, 0, 0, 0), (311, .iadd, 1, 0, 0, 0), (312, .iaload, 1, 0, 0, 0), (313, .aload_n 0, 1, 0, 0, 0), (314, .iload 4, 2, 0, 0, 0), (316, .iconst 5, 1, 0, 0, 0), (317, .iadd, 1, 0, 0, 0), (318, .iaload, 1, 0, 0, 0), (319, .invokevirtual 157, 3, 113, 0, 433)],
  [(322, .aload_n 2, 1, 0, 0, 0), (323, .aload_n 0, 1, 0, 0, 0), (324, .iload 4, 2, 0, 0, 0), (326, .iconst 1, 1, 0, 0, 0), (327, .iadd, 1, 0, 0, 0), (328, .iaload, 1, 0, 0, 0), (329, .aload_n 0, 1, 0, 0, 0), (330, .iload 4, 2, 0, 0, 0), (332, .iconst 2, 1, 0, 0, 0), (333, .iadd, 1, 0, 0, 0), (334, .iaload, 1, 0, 0, 0), (335, .aload_n 0, 1, 0, 0, 0), (336, .iload 4, 2, 0, 0, 0), (338, .iconst 3, 1, 0, 0, 0), (339, .iadd, 1, 0, 0, 0), (340, .iaload, 1, 0, 0, 0), (341, .aload_n 0, 1, 0, 0, 0), (342, .iload 4, 2, 0, 0, 0), (344, .iconst 4, 1, 0, 0, 0), (345, .iadd, 1, 0, 0, 0), (346, .iaload, 1, 0, 0, 0), (347, .aload_n 0, 1, 0, 0, 0), (348, .iload 4, 2, 0, 0, 0), (350, .iconst 5, 1, 0, 0, 0), (351, .iadd, 1, 0, 0, 0)],
  [(352, .iaload, 1, 0, 0, 0), (353, .invokevirtual 161, 3, 199, 0, 1796), (356, .if_icmp .eq 2936, 3, 0, 3292, 0), (359, .iconst 0, 1, 0, 0, 0), (360, .ireturn, 1, 0, 0, 0), (361, .aload_n 1, 1, 0, 0, 0), (362, .aload_n 0, 1, 0, 0, 0), (363, .iload 4, 2, 0, 0, 0), (365, .iconst 1, 1, 0, 0, 0), (366, .iadd, 1, 0, 0, 0), (367, .iaload, 1, 0, 0, 0), (368, .aload_n 3, 1, 0, 0, 0), (369, .invokestatic 162, 3, 332, 1, 634), (372, .istore 5, 2, 0, 0, 0), (374, .aload_n 2, 1, 0, 0, 0), (375, .aload_n 0, 1, 0, 0, 0), (376, .iload 4, 2, 0, 0, 0), (378, .iconst 1, 1, 0, 0, 0), (379, .iadd, 1, 0, 0, 0), (380, .iaload, 1, 0, 0, 0), (381, .invokevirtual 167, 3, 223, 0, 1800)],
  [(384, .istore 6, 2, 0, 0, 0), (386, .aload_n 2, 1, 0, 0, 0), (387, .invokevirtual 168, 3, 196, 0, 1792), (390, .iload 5, 2, 0, 0, 0), (392, .if_icmp .eq 5, 3, 0, 397, 0), (395, .iconst 0, 1, 0, 0, 0), (396, .ireturn, 1, 0, 0, 0), (397, .iload 5, 2, 0, 0, 0), (399, .ifCond .ne 15, 3, 0, 414, 0), (402, .aload_n 3, 1, 0, 0, 0), (403, .iconst 0, 1, 0, 0, 0), (404, .laload, 1, 0, 0, 0), (405, .iload 6, 2, 0, 0, 0), (407, .i2l, 1, 0, 0, 0), (408, .lcmp, 1, 0, 0, 0), (409, .ifCond .eq 5, 3, 0, 414, 0), (412, .iconst 0, 1, 0, 0, 0), (413, .ireturn, 1, 0, 0, 0), (414, .goto 2878, 3, 0, 3292, 0)],
  [(417, .aload_n 1, 1, 0, 0, 0), (418, .aload_n 0, 1, 0, 0, 0), (419, .iload 4, 2, 0, 0, 0), (421, .iconst 1, 1, 0, 0, 0), (422, .iadd, 1, 0, 0, 0), (423, .iaload, 1, 0, 0, 0), (424, .aload_n 3, 1, 0, 0, 0), (425, .invokestatic 171, 3, 333, 1, 929), (428, .istore 5, 2, 0, 0, 0), (430, .aload_n 2, 1, 0, 0, 0), (431, .aload_n 0, 1, 0, 0, 0), (432, .iload 4, 2, 0, 0, 0), (434, .iconst 1, 1, 0, 0, 0), (435, .iadd, 1, 0, 0, 0), (436, .iaload, 1, 0, 0, 0), (437, .invokevirtual 173, 3, 226, 0, 1892), (440, .istore 6, 2, 0, 0, 0), (442, .aload_n 2, 1, 0, 0, 0), (443, .invokevirtual 168, 3, 196, 0, 1792), (446, .iload 5, 2, 0, 0, 0)],
  [(448, .if_icmp .eq 5, 3, 0, 453, 0), (451, .iconst 0, 1, 0, 0, 0), (452, .ireturn, 1, 0, 0, 0), (453, .iload 5, 2, 0, 0, 0), (455, .ifCond .ne 15, 3, 0, 470, 0), (458, .aload_n 3, 1, 0, 0, 0), (459, .iconst 0, 1, 0, 0, 0), (460, .laload, 1, 0, 0, 0), (461, .iload 6, 2, 0, 0, 0), (463, .i2l, 1, 0, 0, 0), (464, .lcmp, 1, 0, 0, 0), (465, .ifCond .eq 5, 3, 0, 470, 0), (468, .iconst 0, 1, 0, 0, 0), (469, .ireturn, 1, 0, 0, 0), (470, .goto 2822, 3, 0, 3292, 0), (473, .aload_n 1, 1, 0, 0, 0), (474, .aload_n 0, 1, 0, 0, 0), (475, .iload 4, 2, 0, 0, 0), (477, .iconst 1, 1, 0, 0, 0), (478, .iadd, 1, 0, 0, 0), (479, .iaload, 1, 0, 0, 0)],
  [(480, .aload_n 3, 1, 0, 0, 0), (481, .invokestatic 174, 3, 334, 1, 941), (484, .istore 5, 2, 0, 0, 0), (486, .aload_n 2, 1, 0, 0, 0), (487, .aload_n 0, 1, 0, 0, 0), (488, .iload 4, 2, 0, 0, 0), (490, .iconst 1, 1, 0, 0, 0), (491, .iadd, 1, 0, 0, 0), (492, .iaload, 1, 0, 0, 0), (493, .invokevirtual 176, 3, 236, 0, 1899), (496, .istore 6, 2, 0, 0, 0), (498, .aload_n 2, 1, 0, 0, 0), (499, .invokevirtual 168, 3, 196, 0, 1792), (502, .iload 5, 2, 0, 0, 0), (504, .if_icmp .eq 5, 3, 0, 509, 0), (507, .iconst 0, 1, 0, 0, 0), (508, .ireturn, 1, 0, 0, 0), (509, .iload 5, 2, 0, 0, 0), (511, .ifCond .ne 15, 3, 0, 526, 0)],
  [(514, .aload_n 3, 1, 0, 0, 0), (515, .iconst 0, 1, 0, 0, 0), (516, .laload, 1, 0, 0, 0), (517, .iload 6, 2, 0, 0, 0), (519, .i2l, 1, 0, 0, 0), (520, .lcmp, 1, 0, 0, 0), (521, .ifCond .eq 5, 3, 0, 526, 0), (524, .iconst 0, 1, 0, 0, 0), (525, .ireturn, 1, 0, 0, 0), (526, .goto 2766, 3, 0, 3292, 0), (529, .aload_n 1, 1, 0, 0, 0), (530, .invokevirtual 177, 3, 117, 0, 441), (533, .aload_n 2, 1, 0, 0, 0), (534, .invokevirtual 180, 3, 241, 0, 1943), (537, .if_icmp .eq 2755, 3, 0, 3292, 0), (540, .iconst 0, 1, 0, 0, 0), (541, .ireturn, 1, 0, 0, 0), (542, .aload_n 1, 1, 0, 0, 0), (543, .aload_n 0, 1, 0, 0, 0)],
  [(544, .iload 4, 2, 0, 0, 0), (546, .iconst 1, 1, 0, 0, 0), (547, .iadd, 1, 0, 0, 0), (548, .iaload, 1, 0, 0, 0), (549, .aload_n 3, 1, 0, 0, 0), (550, .invokestatic 181, 3, 335, 1, 1028), (553, .istore 5, 2, 0, 0, 0), (555, .aload_n 2, 1, 0, 0, 0), (556, .aload_n 0, 1, 0, 0, 0), (557, .iload 4, 2, 0, 0, 0), (559, .iconst 1, 1, 0, 0, 0), (560, .iadd, 1, 0, 0, 0), (561, .iaload, 1, 0, 0, 0), (562, .invokevirtual 183, 3, 242, 0, 1947), (565, .istore 6, 2, 0, 0, 0), (567, .aload_n 2, 1, 0, 0, 0), (568, .invokevirtual 168, 3, 196, 0, 1792), (571, .iload 5, 2, 0, 0, 0), (573, .if_icmp .eq 5, 3, 0, 578, 0)],
  [(576, .iconst 0, 1, 0, 0, 0), (577, .ireturn, 1, 0, 0, 0), (578, .iload 5, 2, 0, 0, 0), (580, .ifCond .ne 15, 3, 0, 595, 0), (583, .aload_n 3, 1, 0, 0, 0), (584, .iconst 0, 1, 0, 0, 0), (585, .laload, 1, 0, 0, 0), (586, .iload 6, 2, 0, 0, 0), (588, .i2l, 1, 0, 0, 0), (589, .lcmp, 1, 0, 0, 0), (590, .ifCond .eq 5, 3, 0, 595, 0), (593, .iconst 0, 1, 0, 0, 0), (594, .ireturn, 1, 0, 0, 0), (595, .goto 2697, 3, 0, 3292, 0), (598, .aload_n 1, 1, 0, 0, 0), (599, .aload_n 0, 1, 0, 0, 0), (600, .iload 4, 2, 0, 0, 0), (602, .iconst 1, 1, 0, 0, 0), (603, .iadd, 1, 0, 0, 0), (604, .iaload, 1, 0, 0, 0), (605, .aload_n 3, 1, 0, 0, 0), (606, .invokestatic 184, 3, 336, 1, 1039)],
  [(609, .istore 5, 2, 0, 0, 0), (611, .aload_n 2, 1, 0, 0, 0), (612, .aload_n 0, 1, 0, 0, 0), (613, .iload 4, 2, 0, 0, 0), (615, .iconst 1, 1, 0, 0, 0), (616, .iadd, 1, 0, 0, 0), (617, .iaload, 1, 0, 0, 0), (618, .invokevirtual 186, 3, 246, 0, 1951), (621, .lstore 6, 2, 0, 0, 0), (623, .aload_n 2, 1, 0, 0, 0), (624, .invokevirtual 168, 3, 196, 0, 1792), (627, .iload 5, 2, 0, 0, 0), (629, .if_icmp .eq 5, 3, 0, 634, 0), (632, .iconst 0, 1, 0, 0, 0), (633, .ireturn, 1, 0, 0, 0), (634, .iload 5, 2, 0, 0, 0), (636, .ifCond .ne 14, 3, 0, 650, 0), (639, .aload_n 3, 1, 0, 0, 0)],
  [(640, .iconst 0, 1, 0, 0, 0), (641, .laload, 1, 0, 0, 0), (642, .lload 6, 2, 0, 0, 0), (644, .lcmp, 1, 0, 0, 0), (645, .ifCond .eq 5, 3, 0, 650, 0), (648, .iconst 0, 1, 0, 0, 0), (649, .ireturn, 1, 0, 0, 0), (650, .goto 2642, 3, 0, 3292, 0), (653, .aload_n 1, 1, 0, 0, 0), (654, .aload_n 0, 1, 0, 0, 0), (655, .iload 4, 2, 0, 0, 0), (657, .iconst 1, 1, 0, 0, 0), (658, .iadd, 1, 0, 0, 0), (659, .iaload, 1, 0, 0, 0), (660, .aload_n 3, 1, 0, 0, 0), (661, .invokestatic 187, 3, 337, 1, 1071), (664, .istore 5, 2, 0, 0, 0), (666, .aload_n 2, 1, 0, 0, 0), (667, .aload_n 0, 1, 0, 0, 0), (668, .iload 4, 2, 0, 0, 0), (670, .iconst 1, 1, 0, 0, 0), (671, .iadd, 1, 0, 0, 0)],
  [(672, .iaload, 1, 0, 0, 0), (673, .invokevirtual 189, 3, 247, 0, 1959), (676, .lstore 6, 2, 0, 0, 0), (678, .aload_n 2, 1, 0, 0, 0), (679, .invokevirtual 168, 3, 196, 0, 1792), (682, .iload 5, 2, 0, 0, 0), (684, .if_icmp .eq 5, 3, 0, 689, 0), (687, .iconst 0, 1, 0, 0, 0), (688, .ireturn, 1, 0, 0, 0), (689, .iload 5, 2, 0, 0, 0), (691, .ifCond .ne 14, 3, 0, 705, 0), (694, .aload_n 3, 1, 0, 0, 0), (695, .iconst 0, 1, 0, 0, 0), (696, .laload, 1, 0, 0, 0), (697, .lload 6, 2, 0, 0, 0), (699, .lcmp, 1, 0, 0, 0), (700, .ifCond .eq 5, 3, 0, 705, 0), (703, .iconst 0, 1, 0, 0, 0)],
  [(704, .ireturn, 1, 0, 0, 0), (705, .goto 2587, 3, 0, 3292, 0), (708, .aload_n 1, 1, 0, 0, 0), (709, .aload_n 0, 1, 0, 0, 0), (710, .iload 4, 2, 0, 0, 0), (712, .iconst 1, 1, 0, 0, 0), (713, .iadd, 1, 0, 0, 0), (714, .iaload, 1, 0, 0, 0), (715, .aload_n 3, 1, 0, 0, 0), (716, .invokestatic 190, 3, 338, 1, 1078), (719, .istore 5, 2, 0, 0, 0), (721, .aload_n 2, 1, 0, 0, 0), (722, .aload_n 0, 1, 0, 0, 0), (723, .iload 4, 2, 0, 0, 0), (725, .iconst 1, 1, 0, 0, 0), (726, .iadd, 1, 0, 0, 0), (727, .iaload, 1, 0, 0, 0), (728, .invokevirtual 192, 3, 248, 0, 1963), (731, .lstore 6, 2, 0, 0, 0), (733, .aload_n 2, 1, 0, 0, 0), (734, .invokevirtual 168, 3, 196, 0, 1792)],
  [(737, .iload 5, 2, 0, 0, 0), (739, .if_icmp .eq 5, 3, 0, 744, 0), (742, .iconst 0, 1, 0, 0, 0), (743, .ireturn, 1, 0, 0, 0), (744, .iload 5, 2, 0, 0, 0), (746, .ifCond .ne 14, 3, 0, 760, 0), (749, .aload_n 3, 1, 0, 0, 0), (750, .iconst 0, 1, 0, 0, 0), (751, .laload, 1, 0, 0, 0), (752, .lload 6, 2, 0, 0, 0), (754, .lcmp, 1, 0, 0, 0), (755, .ifCond .eq 5, 3, 0, 760, 0), (758, .iconst 0, 1, 0, 0, 0), (759, .ireturn, 1, 0, 0, 0), (760, .goto 2532, 3, 0, 3292, 0), (763, .aload_n 1, 1, 0, 0, 0), (764, .aload_n 0, 1, 0, 0, 0), (765, .iload 4, 2, 0, 0, 0), (767, .iconst 1, 1, 0, 0, 0)],
  [(768, .iadd, 1, 0, 0, 0), (769, .iaload, 1, 0, 0, 0), (770, .aload_n 0, 1, 0, 0, 0), (771, .iload 4, 2, 0, 0, 0), (773, .iconst 2, 1, 0, 0, 0), (774, .iadd, 1, 0, 0, 0), (775, .iaload, 1, 0, 0, 0), (776, .aload_n 3, 1, 0, 0, 0), (777, .invokestatic 193, 3, 339, 1, 1089), (780, .istore 5, 2, 0, 0, 0), (782, .aload_n 2, 1, 0, 0, 0), (783, .aload_n 0, 1, 0, 0, 0), (784, .iload 4, 2, 0, 0, 0), (786, .iconst 1, 1, 0, 0, 0), (787, .iadd, 1, 0, 0, 0), (788, .iaload, 1, 0, 0, 0), (789, .aload_n 0, 1, 0, 0, 0), (790, .iload 4, 2, 0, 0, 0), (792, .iconst 2, 1, 0, 0, 0), (793, .iadd, 1, 0, 0, 0), (794, .iaload, 1, 0, 0, 0), (795, .invokevirtual 196, 3, 249, 0, 1970), (798, .istore 6, 2, 0, 0, 0)],
  [(800, .aload_n 2, 1, 0, 0, 0), (801, .invokevirtual 168, 3, 196, 0, 1792), (804, .iload 5, 2, 0, 0, 0), (806, .if_icmp .eq 5, 3, 0, 811, 0), (809, .iconst 0, 1, 0, 0, 0), (810, .ireturn, 1, 0, 0, 0), (811, .iload 5, 2, 0, 0, 0), (813, .ifCond .ne 15, 3, 0, 828, 0), (816, .aload_n 3, 1, 0, 0, 0), (817, .iconst 0, 1, 0, 0, 0), (818, .laload, 1, 0, 0, 0), (819, .iload 6, 2, 0, 0, 0), (821, .i2l, 1, 0, 0, 0), (822, .lcmp, 1, 0, 0, 0), (823, .ifCond .eq 5, 3, 0, 828, 0), (826, .iconst 0, 1, 0, 0, 0), (827, .ireturn, 1, 0, 0, 0), (828, .goto 2464, 3, 0, 3292, 0), (831, .aload_n 1, 1, 0, 0, 0)],
  [(832, .aload_n 0, 1, 0, 0, 0), (833, .iload 4, 2, 0, 0, 0), (835, .iconst 1, 1, 0, 0, 0), (836, .iadd, 1, 0, 0, 0), (837, .iaload, 1, 0, 0, 0), (838, .aload_n 0, 1, 0, 0, 0), (839, .iload 4, 2, 0, 0, 0), (841, .iconst 2, 1, 0, 0, 0), (842, .iadd, 1, 0, 0, 0), (843, .iaload, 1, 0, 0, 0), (844, .aload_n 0, 1, 0, 0, 0), (845, .iload 4, 2, 0, 0, 0), (847, .iconst 3, 1, 0, 0, 0), (848, .iadd, 1, 0, 0, 0), (849, .iaload, 1, 0, 0, 0), (850, .aload_n 3, 1, 0, 0, 0), (851, .invokestatic 197, 3, 340, 1, 1097), (854, .istore 5, 2, 0, 0, 0), (856, .aload_n 2, 1, 0, 0, 0), (857, .aload_n 0, 1, 0, 0, 0), (858, .iload 4, 2, 0, 0, 0), (860, .iconst 1, 1, 0, 0, 0), (861, .iadd, 1, 0, 0, 0), (862, .iaload, 1, 0, 0, 0), (863, .aload_n 0, 1, 0, 0, 0)],
  [(864, .iload 4, 2, 0, 0, 0), (866, .iconst 2, 1, 0, 0, 0), (867, .iadd, 1, 0, 0, 0), (868, .iaload, 1, 0, 0, 0), (869, .aload_n 0, 1, 0, 0, 0), (870, .iload 4, 2, 0, 0, 0), (872, .iconst 3, 1, 0, 0, 0), (873, .iadd, 1, 0, 0, 0), (874, .iaload, 1, 0, 0, 0), (875, .invokevirtual 200, 3, 251, 0, 1974), (878, .istore 6, 2, 0, 0, 0), (880, .aload_n 2, 1, 0, 0, 0), (881, .invokevirtual 168, 3, 196, 0, 1792), (884, .iload 5, 2, 0, 0, 0), (886, .if_icmp .eq 5, 3, 0, 891, 0), (889, .iconst 0, 1, 0, 0, 0), (890, .ireturn, 1, 0, 0, 0), (891, .iload 5, 2, 0, 0, 0), (893, .ifCond .ne 22, 3, 0, 915, 0)],
  [(896, .aload_n 3, 1, 0, 0, 0), (897, .iconst 0, 1, 0, 0, 0), (898, .laload, 1, 0, 0, 0), (899, .iload 6, 2, 0, 0, 0), (901, .ifCond .eq 7, 3, 0, 908, 0), (904, .lconst 1, 1, 0, 0, 0), (905, .goto 4, 3, 0, 909, 0), (908, .lconst 0, 1, 0, 0, 0), (909, .lcmp, 1, 0, 0, 0), (910, .ifCond .eq 5, 3, 0, 915, 0), (913, .iconst 0, 1, 0, 0, 0), (914, .ireturn, 1, 0, 0, 0), (915, .goto 2377, 3, 0, 3292, 0), (918, .aload_n 1, 1, 0, 0, 0), (919, .invokevirtual 201, 3, 124, 0, 445), (922, .aload_n 2, 1, 0, 0, 0), (923, .invokevirtual 204, 3, 254, 0, 1982), (926, .if_icmp .eq 2366, 3, 0, 3292, 0)],
  [(929, .iconst 0, 1, 0, 0, 0), (930, .ireturn, 1, 0, 0, 0), (931, .aload_n 1, 1, 0, 0, 0), (932, .invokevirtual 205, 3, 125, 0, 457), (935, .aload_n 2, 1, 0, 0, 0), (936, .invokevirtual 208, 3, 255, 0, 1994), (939, .if_icmp .eq 2353, 3, 0, 3292, 0), (942, .iconst 0, 1, 0, 0, 0), (943, .ireturn, 1, 0, 0, 0), (944, .aload_n 1, 1, 0, 0, 0), (945, .aload_n 0, 1, 0, 0, 0), (946, .iload 4, 2, 0, 0, 0), (948, .iconst 1, 1, 0, 0, 0), (949, .iadd, 1, 0, 0, 0), (950, .iaload, 1, 0, 0, 0), (951, .i2l, 1, 0, 0, 0), (952, .bipush 32, 2, 0, 0, 0), (954, .lshl, 1, 0, 0, 0), (955, .aload_n 0, 1, 0, 0, 0), (956, .iload 4, 2, 0, 0, 0), (958, .iconst 2, 1, 0, 0, 0), (959, .iadd, 1, 0, 0, 0)],
  [(960, .iaload, 1, 0, 0, 0), (961, .i2l, 1, 0, 0, 0), (962, .ldc2_w 209, 3, 4294967295, 0, 2339), (965, .land, 1, 0, 0, 0), (966, .lor, 1, 0, 0, 0), (967, .invokevirtual 211, 3, 126, 0, 461), (970, .aload_n 2, 1, 0, 0, 0), (971, .aload_n 0, 1, 0, 0, 0), (972, .iload 4, 2, 0, 0, 0), (974, .iconst 1, 1, 0, 0, 0), (975, .iadd, 1, 0, 0, 0), (976, .iaload, 1, 0, 0, 0), (977, .i2l, 1, 0, 0, 0), (978, .bipush 32, 2, 0, 0, 0), (980, .lshl, 1, 0, 0, 0), (981, .aload_n 0, 1, 0, 0, 0), (982, .iload 4, 2, 0, 0, 0), (984, .iconst 2, 1, 0, 0, 0), (985, .iadd, 1, 0, 0, 0), (986, .iaload, 1, 0, 0, 0), (987, .i2l, 1, 0, 0, 0), (988, .ldc2_w 209, 3, 4294967295, 0, 2339), (991, .land, 1, 0, 0, 0)],
  [(992, .lor, 1, 0, 0, 0), (993, .invokevirtual 215, 3, 256, 0, 1998), (996, .if_icmp .eq 2296, 3, 0, 3292, 0), (999, .iconst 0, 1, 0, 0, 0), (1000, .ireturn, 1, 0, 0, 0), (1001, .aload_n 1, 1, 0, 0, 0), (1002, .aload_n 0, 1, 0, 0, 0), (1003, .iload 4, 2, 0, 0, 0), (1005, .iconst 1, 1, 0, 0, 0), (1006, .iadd, 1, 0, 0, 0), (1007, .iaload, 1, 0, 0, 0), (1008, .invokevirtual 216, 3, 127, 0, 473), (1011, .aload_n 2, 1, 0, 0, 0), (1012, .aload_n 0, 1, 0, 0, 0), (1013, .iload 4, 2, 0, 0, 0), (1015, .iconst 1, 1, 0, 0, 0), (1016, .iadd, 1, 0, 0, 0), (1017, .iaload, 1, 0, 0, 0), (1018, .invokevirtual 219, 3, 257, 0, 2003), (1021, .if_icmp .eq 2271, 3, 0, 3292, 0)],
  [(1024, .iconst 0, 1, 0, 0, 0), (1025, .ireturn, 1, 0, 0, 0), (1026, .aload_n 1, 1, 0, 0, 0), (1027, .aload_n 0, 1, 0, 0, 0), (1028, .iload 4, 2, 0, 0, 0), (1030, .iconst 1, 1, 0, 0, 0), (1031, .iadd, 1, 0, 0, 0), (1032, .iaload, 1, 0, 0, 0), (1033, .aload_n 3, 1, 0, 0, 0), (1034, .invokestatic 220, 3, 341, 1, 1105), (1037, .istore 5, 2, 0, 0, 0), (1039, .aload_n 2, 1, 0, 0, 0), (1040, .aload_n 0, 1, 0, 0, 0), (1041, .iload 4, 2, 0, 0, 0), (1043, .iconst 1, 1, 0, 0, 0), (1044, .iadd, 1, 0, 0, 0), (1045, .iaload, 1, 0, 0, 0), (1046, .invokevirtual 222, 3, 258, 0, 2007), (1049, .istore 6, 2, 0, 0, 0), (1051, .aload_n 2, 1, 0, 0, 0), (1052, .invokevirtual 168, 3, 196, 0, 1792), (1055, .iload 5, 2, 0, 0, 0)],
  [(1057, .if_icmp .eq 5, 3, 0, 1062, 0), (1060, .iconst 0, 1, 0, 0, 0), (1061, .ireturn, 1, 0, 0, 0), (1062, .iload 5, 2, 0, 0, 0), (1064, .ifCond .ne 15, 3, 0, 1079, 0), (1067, .aload_n 3, 1, 0, 0, 0), (1068, .iconst 0, 1, 0, 0, 0), (1069, .laload, 1, 0, 0, 0), (1070, .iload 6, 2, 0, 0, 0), (1072, .i2l, 1, 0, 0, 0), (1073, .lcmp, 1, 0, 0, 0), (1074, .ifCond .eq 5, 3, 0, 1079, 0), (1077, .iconst 0, 1, 0, 0, 0), (1078, .ireturn, 1, 0, 0, 0), (1079, .goto 2213, 3, 0, 3292, 0), (1082, .aload_n 1, 1, 0, 0, 0), (1083, .aload_n 0, 1, 0, 0, 0), (1084, .iload 4, 2, 0, 0, 0), (1086, .iconst 1, 1, 0, 0, 0), (1087, .iadd, 1, 0, 0, 0)],
  [(1088, .iaload, 1, 0, 0, 0), (1089, .aload_n 3, 1, 0, 0, 0), (1090, .invokestatic 223, 3, 342, 1, 1112), (1093, .istore 5, 2, 0, 0, 0), (1095, .aload_n 2, 1, 0, 0, 0), (1096, .aload_n 0, 1, 0, 0, 0), (1097, .iload 4, 2, 0, 0, 0), (1099, .iconst 1, 1, 0, 0, 0), (1100, .iadd, 1, 0, 0, 0), (1101, .iaload, 1, 0, 0, 0), (1102, .invokevirtual 225, 3, 259, 0, 2011), (1105, .istore 6, 2, 0, 0, 0), (1107, .aload_n 2, 1, 0, 0, 0), (1108, .invokevirtual 168, 3, 196, 0, 1792), (1111, .iload 5, 2, 0, 0, 0), (1113, .if_icmp .eq 5, 3, 0, 1118, 0), (1116, .iconst 0, 1, 0, 0, 0), (1117, .ireturn, 1, 0, 0, 0), (1118, .iload 5, 2, 0, 0, 0)],
  [(1120, .ifCond .ne 15, 3, 0, 1135, 0), (1123, .aload_n 3, 1, 0, 0, 0), (1124, .iconst 0, 1, 0, 0, 0), (1125, .laload, 1, 0, 0, 0), (1126, .iload 6, 2, 0, 0, 0), (1128, .i2l, 1, 0, 0, 0), (1129, .lcmp, 1, 0, 0, 0), (1130, .ifCond .eq 5, 3, 0, 1135, 0), (1133, .iconst 0, 1, 0, 0, 0), (1134, .ireturn, 1, 0, 0, 0), (1135, .goto 2157, 3, 0, 3292, 0), (1138, .aload_n 1, 1, 0, 0, 0), (1139, .aload_n 0, 1, 0, 0, 0), (1140, .iload 4, 2, 0, 0, 0), (1142, .iconst 1, 1, 0, 0, 0), (1143, .iadd, 1, 0, 0, 0), (1144, .iaload, 1, 0, 0, 0), (1145, .aload_n 3, 1, 0, 0, 0), (1146, .invokestatic 226, 3, 343, 1, 1119), (1149, .istore 5, 2, 0, 0, 0), (1151, .aload_n 2, 1, 0, 0, 0)],
  [(1152, .aload_n 0, 1, 0, 0, 0), (1153, .iload 4, 2, 0, 0, 0), (1155, .iconst 1, 1, 0, 0, 0), (1156, .iadd, 1, 0, 0, 0), (1157, .iaload, 1, 0, 0, 0), (1158, .invokevirtual 228, 3, 272, 0, 2015), (1161, .istore 6, 2, 0, 0, 0), (1163, .aload_n 2, 1, 0, 0, 0), (1164, .invokevirtual 168, 3, 196, 0, 1792), (1167, .iload 5, 2, 0, 0, 0), (1169, .if_icmp .eq 5, 3, 0, 1174, 0), (1172, .iconst 0, 1, 0, 0, 0), (1173, .ireturn, 1, 0, 0, 0), (1174, .iload 5, 2, 0, 0, 0), (1176, .ifCond .ne 15, 3, 0, 1191, 0), (1179, .aload_n 3, 1, 0, 0, 0), (1180, .iconst 0, 1, 0, 0, 0), (1181, .laload, 1, 0, 0, 0), (1182, .iload 6, 2, 0, 0, 0)],
  [(1184, .i2l, 1, 0, 0, 0), (1185, .lcmp, 1, 0, 0, 0), (1186, .ifCond .eq 5, 3, 0, 1191, 0), (1189, .iconst 0, 1, 0, 0, 0), (1190, .ireturn, 1, 0, 0, 0), (1191, .goto 2101, 3, 0, 3292, 0), (1194, .aload_n 1, 1, 0, 0, 0), (1195, .aload_n 0, 1, 0, 0, 0), (1196, .iload 4, 2, 0, 0, 0), (1198, .iconst 1, 1, 0, 0, 0), (1199, .iadd, 1, 0, 0, 0), (1200, .iaload, 1, 0, 0, 0), (1201, .aload_n 0, 1, 0, 0, 0), (1202, .iload 4, 2, 0, 0, 0), (1204, .iconst 2, 1, 0, 0, 0), (1205, .iadd, 1, 0, 0, 0), (1206, .iaload, 1, 0, 0, 0), (1207, .aload_n 3, 1, 0, 0, 0), (1208, .invokestatic 229, 3, 344, 1, 1130), (1211, .istore 5, 2, 0, 0, 0), (1213, .aload_n 2, 1, 0, 0, 0), (1214, .aload_n 0, 1, 0, 0, 0), (1215, .iload 4, 2, 0, 0, 0)],
  [(1217, .iconst 1, 1, 0, 0, 0), (1218, .iadd, 1, 0, 0, 0), (1219, .iaload, 1, 0, 0, 0), (1220, .aload_n 0, 1, 0, 0, 0), (1221, .iload 4, 2, 0, 0, 0), (1223, .iconst 2, 1, 0, 0, 0), (1224, .iadd, 1, 0, 0, 0), (1225, .iaload, 1, 0, 0, 0), (1226, .invokevirtual 231, 3, 274, 0, 2102), (1229, .istore 6, 2, 0, 0, 0), (1231, .aload_n 2, 1, 0, 0, 0), (1232, .invokevirtual 168, 3, 196, 0, 1792), (1235, .iload 5, 2, 0, 0, 0), (1237, .if_icmp .eq 5, 3, 0, 1242, 0), (1240, .iconst 0, 1, 0, 0, 0), (1241, .ireturn, 1, 0, 0, 0), (1242, .iload 5, 2, 0, 0, 0), (1244, .ifCond .ne 15, 3, 0, 1259, 0), (1247, .aload_n 3, 1, 0, 0, 0)],
  [(1248, .iconst 0, 1, 0, 0, 0), (1249, .laload, 1, 0, 0, 0), (1250, .iload 6, 2, 0, 0, 0), (1252, .i2l, 1, 0, 0, 0), (1253, .lcmp, 1, 0, 0, 0), (1254, .ifCond .eq 5, 3, 0, 1259, 0), (1257, .iconst 0, 1, 0, 0, 0), (1258, .ireturn, 1, 0, 0, 0), (1259, .goto 2033, 3, 0, 3292, 0), (1262, .aload_n 1, 1, 0, 0, 0), (1263, .aload_n 0, 1, 0, 0, 0), (1264, .iload 4, 2, 0, 0, 0), (1266, .iconst 1, 1, 0, 0, 0), (1267, .iadd, 1, 0, 0, 0), (1268, .iaload, 1, 0, 0, 0), (1269, .aload_n 3, 1, 0, 0, 0), (1270, .invokestatic 232, 3, 345, 1, 1142), (1273, .istore 5, 2, 0, 0, 0), (1275, .aload_n 2, 1, 0, 0, 0), (1276, .aload_n 0, 1, 0, 0, 0), (1277, .iload 4, 2, 0, 0, 0), (1279, .iconst 1, 1, 0, 0, 0)],
  [(1280, .iadd, 1, 0, 0, 0), (1281, .iaload, 1, 0, 0, 0), (1282, .invokevirtual 234, 3, 276, 0, 2106), (1285, .istore 6, 2, 0, 0, 0), (1287, .aload_n 2, 1, 0, 0, 0), (1288, .invokevirtual 168, 3, 196, 0, 1792), (1291, .iload 5, 2, 0, 0, 0), (1293, .if_icmp .eq 5, 3, 0, 1298, 0), (1296, .iconst 0, 1, 0, 0, 0), (1297, .ireturn, 1, 0, 0, 0), (1298, .iload 5, 2, 0, 0, 0), (1300, .ifCond .ne 15, 3, 0, 1315, 0), (1303, .aload_n 3, 1, 0, 0, 0), (1304, .iconst 0, 1, 0, 0, 0), (1305, .laload, 1, 0, 0, 0), (1306, .iload 6, 2, 0, 0, 0), (1308, .i2l, 1, 0, 0, 0), (1309, .lcmp, 1, 0, 0, 0), (1310, .ifCond .eq 5, 3, 0, 1315, 0)],
  [(1313, .iconst 0, 1, 0, 0, 0), (1314, .ireturn, 1, 0, 0, 0), (1315, .goto 1977, 3, 0, 3292, 0), (1318, .aload_n 1, 1, 0, 0, 0), (1319, .invokevirtual 235, 3, 133, 0, 477), (1322, .aload_n 2, 1, 0, 0, 0), (1323, .invokevirtual 238, 3, 278, 0, 2114), (1326, .if_icmp .eq 1966, 3, 0, 3292, 0), (1329, .iconst 0, 1, 0, 0, 0), (1330, .ireturn, 1, 0, 0, 0), (1331, .aload_n 1, 1, 0, 0, 0), (1332, .aload_n 0, 1, 0, 0, 0), (1333, .iload 4, 2, 0, 0, 0), (1335, .iconst 1, 1, 0, 0, 0), (1336, .iadd, 1, 0, 0, 0), (1337, .iaload, 1, 0, 0, 0), (1338, .aload_n 3, 1, 0, 0, 0), (1339, .invokestatic 239, 3, 346, 1, 1162), (1342, .istore 5, 2, 0, 0, 0)],
  [(1344, .aload_n 2, 1, 0, 0, 0), (1345, .aload_n 0, 1, 0, 0, 0), (1346, .iload 4, 2, 0, 0, 0), (1348, .iconst 1, 1, 0, 0, 0), (1349, .iadd, 1, 0, 0, 0), (1350, .iaload, 1, 0, 0, 0), (1351, .invokevirtual 241, 3, 286, 0, 2142), (1354, .istore 6, 2, 0, 0, 0), (1356, .aload_n 2, 1, 0, 0, 0), (1357, .invokevirtual 168, 3, 196, 0, 1792), (1360, .iload 5, 2, 0, 0, 0), (1362, .if_icmp .eq 5, 3, 0, 1367, 0), (1365, .iconst 0, 1, 0, 0, 0), (1366, .ireturn, 1, 0, 0, 0), (1367, .iload 5, 2, 0, 0, 0), (1369, .ifCond .ne 15, 3, 0, 1384, 0), (1372, .aload_n 3, 1, 0, 0, 0), (1373, .iconst 0, 1, 0, 0, 0), (1374, .laload, 1, 0, 0, 0), (1375, .iload 6, 2, 0, 0, 0)],
  [(1377, .i2l, 1, 0, 0, 0), (1378, .lcmp, 1, 0, 0, 0), (1379, .ifCond .eq 5, 3, 0, 1384, 0), (1382, .iconst 0, 1, 0, 0, 0), (1383, .ireturn, 1, 0, 0, 0), (1384, .goto 1908, 3, 0, 3292, 0), (1387, .aload_n 1, 1, 0, 0, 0), (1388, .aload_n 0, 1, 0, 0, 0), (1389, .iload 4, 2, 0, 0, 0), (1391, .iconst 1, 1, 0, 0, 0), (1392, .iadd, 1, 0, 0, 0), (1393, .iaload, 1, 0, 0, 0), (1394, .aload_n 3, 1, 0, 0, 0), (1395, .invokestatic 242, 3, 347, 1, 1234), (1398, .istore 5, 2, 0, 0, 0), (1400, .aload_n 2, 1, 0, 0, 0), (1401, .aload_n 0, 1, 0, 0, 0), (1402, .iload 4, 2, 0, 0, 0), (1404, .iconst 1, 1, 0, 0, 0), (1405, .iadd, 1, 0, 0, 0), (1406, .iaload, 1, 0, 0, 0), (1407, .invokevirtual 244, 3, 287, 0, 2154)],
  [(1410, .istore 6, 2, 0, 0, 0), (1412, .aload_n 2, 1, 0, 0, 0), (1413, .invokevirtual 168, 3, 196, 0, 1792), (1416, .iload 5, 2, 0, 0, 0), (1418, .if_icmp .eq 5, 3, 0, 1423, 0), (1421, .iconst 0, 1, 0, 0, 0), (1422, .ireturn, 1, 0, 0, 0), (1423, .iload 5, 2, 0, 0, 0), (1425, .ifCond .ne 15, 3, 0, 1440, 0), (1428, .aload_n 3, 1, 0, 0, 0), (1429, .iconst 0, 1, 0, 0, 0), (1430, .laload, 1, 0, 0, 0), (1431, .iload 6, 2, 0, 0, 0), (1433, .i2l, 1, 0, 0, 0), (1434, .lcmp, 1, 0, 0, 0), (1435, .ifCond .eq 5, 3, 0, 1440, 0), (1438, .iconst 0, 1, 0, 0, 0), (1439, .ireturn, 1, 0, 0, 0)],
  [(1440, .goto 1852, 3, 0, 3292, 0), (1443, .aload_n 1, 1, 0, 0, 0), (1444, .aload_n 3, 1, 0, 0, 0), (1445, .invokestatic 245, 3, 348, 1, 1246), (1448, .istore 5, 2, 0, 0, 0), (1450, .aload_n 2, 1, 0, 0, 0), (1451, .invokevirtual 248, 3, 288, 0, 2158), (1454, .istore 6, 2, 0, 0, 0), (1456, .aload_n 2, 1, 0, 0, 0), (1457, .invokevirtual 168, 3, 196, 0, 1792), (1460, .iload 5, 2, 0, 0, 0), (1462, .if_icmp .eq 5, 3, 0, 1467, 0), (1465, .iconst 0, 1, 0, 0, 0), (1466, .ireturn, 1, 0, 0, 0), (1467, .iload 5, 2, 0, 0, 0), (1469, .ifCond .ne 15, 3, 0, 1484, 0)],
  [(1472, .aload_n 3, 1, 0, 0, 0), (1473, .iconst 0, 1, 0, 0, 0), (1474, .laload, 1, 0, 0, 0), (1475, .iload 6, 2, 0, 0, 0), (1477, .i2l, 1, 0, 0, 0), (1478, .lcmp, 1, 0, 0, 0), (1479, .ifCond .eq 5, 3, 0, 1484, 0), (1482, .iconst 0, 1, 0, 0, 0), (1483, .ireturn, 1, 0, 0, 0), (1484, .goto 1808, 3, 0, 3292, 0), (1487, .aload_n 1, 1, 0, 0, 0), (1488, .aload_n 0, 1, 0, 0, 0), (1489, .iload 4, 2, 0, 0, 0), (1491, .iconst 1, 1, 0, 0, 0), (1492, .iadd, 1, 0, 0, 0), (1493, .iaload, 1, 0, 0, 0), (1494, .aload_n 0, 1, 0, 0, 0), (1495, .iload 4, 2, 0, 0, 0), (1497, .iconst 2, 1, 0, 0, 0), (1498, .iadd, 1, 0, 0, 0), (1499, .iaload, 1, 0, 0, 0), (1500, .aload_n 3, 1, 0, 0, 0), (1501, .invokestatic 249, 3, 349, 1, 1261)],
  [(1504, .istore 5, 2, 0, 0, 0), (1506, .aload_n 2, 1, 0, 0, 0), (1507, .aload_n 0, 1, 0, 0, 0), (1508, .iload 4, 2, 0, 0, 0), (1510, .iconst 1, 1, 0, 0, 0), (1511, .iadd, 1, 0, 0, 0), (1512, .iaload, 1, 0, 0, 0), (1513, .aload_n 0, 1, 0, 0, 0), (1514, .iload 4, 2, 0, 0, 0), (1516, .iconst 2, 1, 0, 0, 0), (1517, .iadd, 1, 0, 0, 0), (1518, .iaload, 1, 0, 0, 0), (1519, .invokevirtual 251, 3, 296, 0, 2188), (1522, .istore 6, 2, 0, 0, 0), (1524, .aload_n 2, 1, 0, 0, 0), (1525, .invokevirtual 168, 3, 196, 0, 1792), (1528, .iload 5, 2, 0, 0, 0), (1530, .if_icmp .eq 5, 3, 0, 1535, 0), (1533, .iconst 0, 1, 0, 0, 0), (1534, .ireturn, 1, 0, 0, 0), (1535, .iload 5, 2, 0, 0, 0)],
  [(1537, .ifCond .ne 22, 3, 0, 1559, 0), (1540, .aload_n 3, 1, 0, 0, 0), (1541, .iconst 0, 1, 0, 0, 0), (1542, .laload, 1, 0, 0, 0), (1543, .iload 6, 2, 0, 0, 0), (1545, .ifCond .eq 7, 3, 0, 1552, 0), (1548, .lconst 1, 1, 0, 0, 0), (1549, .goto 4, 3, 0, 1553, 0), (1552, .lconst 0, 1, 0, 0, 0), (1553, .lcmp, 1, 0, 0, 0), (1554, .ifCond .eq 5, 3, 0, 1559, 0), (1557, .iconst 0, 1, 0, 0, 0), (1558, .ireturn, 1, 0, 0, 0), (1559, .goto 1733, 3, 0, 3292, 0), (1562, .aload_n 1, 1, 0, 0, 0), (1563, .aload_n 0, 1, 0, 0, 0), (1564, .iload 4, 2, 0, 0, 0), (1566, .iconst 1, 1, 0, 0, 0), (1567, .iadd, 1, 0, 0, 0)],
  [(1568, .iaload, 1, 0, 0, 0), (1569, .aload_n 0, 1, 0, 0, 0), (1570, .iload 4, 2, 0, 0, 0), (1572, .iconst 2, 1, 0, 0, 0), (1573, .iadd, 1, 0, 0, 0), (1574, .iaload, 1, 0, 0, 0), (1575, .aload_n 3, 1, 0, 0, 0), (1576, .invokestatic 252, 3, 350, 1, 1288), (1579, .istore 5, 2, 0, 0, 0), (1581, .aload_n 2, 1, 0, 0, 0), (1582, .aload_n 0, 1, 0, 0, 0), (1583, .iload 4, 2, 0, 0, 0), (1585, .iconst 1, 1, 0, 0, 0), (1586, .iadd, 1, 0, 0, 0), (1587, .iaload, 1, 0, 0, 0), (1588, .aload_n 0, 1, 0, 0, 0), (1589, .iload 4, 2, 0, 0, 0), (1591, .iconst 2, 1, 0, 0, 0), (1592, .iadd, 1, 0, 0, 0), (1593, .iaload, 1, 0, 0, 0), (1594, .invokevirtual 254, 3, 301, 0, 2212), (1597, .istore 6, 2, 0, 0, 0), (1599, .aload_n 2, 1, 0, 0, 0)],
  [(1600, .invokevirtual 168, 3, 196, 0, 1792), (1603, .iload 5, 2, 0, 0, 0), (1605, .if_icmp .eq 5, 3, 0, 1610, 0), (1608, .iconst 0, 1, 0, 0, 0), (1609, .ireturn, 1, 0, 0, 0), (1610, .iload 5, 2, 0, 0, 0), (1612, .ifCond .ne 15, 3, 0, 1627, 0), (1615, .aload_n 3, 1, 0, 0, 0), (1616, .iconst 0, 1, 0, 0, 0), (1617, .laload, 1, 0, 0, 0), (1618, .iload 6, 2, 0, 0, 0), (1620, .i2l, 1, 0, 0, 0), (1621, .lcmp, 1, 0, 0, 0), (1622, .ifCond .eq 5, 3, 0, 1627, 0), (1625, .iconst 0, 1, 0, 0, 0), (1626, .ireturn, 1, 0, 0, 0), (1627, .goto 1665, 3, 0, 3292, 0), (1630, .aload_n 1, 1, 0, 0, 0), (1631, .aload_n 0, 1, 0, 0, 0)],
  [(1632, .iload 4, 2, 0, 0, 0), (1634, .iconst 1, 1, 0, 0, 0), (1635, .iadd, 1, 0, 0, 0), (1636, .iaload, 1, 0, 0, 0), (1637, .aload_n 0, 1, 0, 0, 0), (1638, .iload 4, 2, 0, 0, 0), (1640, .iconst 2, 1, 0, 0, 0), (1641, .iadd, 1, 0, 0, 0), (1642, .iaload, 1, 0, 0, 0), (1643, .aload_n 3, 1, 0, 0, 0), (1644, .invokestatic 255, 3, 351, 1, 1321), (1647, .istore 5, 2, 0, 0, 0), (1649, .aload_n 2, 1, 0, 0, 0), (1650, .aload_n 0, 1, 0, 0, 0), (1651, .iload 4, 2, 0, 0, 0), (1653, .iconst 1, 1, 0, 0, 0), (1654, .iadd, 1, 0, 0, 0), (1655, .iaload, 1, 0, 0, 0), (1656, .aload_n 0, 1, 0, 0, 0), (1657, .iload 4, 2, 0, 0, 0), (1659, .iconst 2, 1, 0, 0, 0), (1660, .iadd, 1, 0, 0, 0), (1661, .iaload, 1, 0, 0, 0), (1662, .invokevirtual 257, 3, 302, 0, 2220)],
  [(1665, .istore 6, 2, 0, 0, 0), (1667, .aload_n 2, 1, 0, 0, 0), (1668, .invokevirtual 168, 3, 196, 0, 1792), (1671, .iload 5, 2, 0, 0, 0), (1673, .if_icmp .eq 5, 3, 0, 1678, 0), (1676, .iconst 0, 1, 0, 0, 0), (1677, .ireturn, 1, 0, 0, 0), (1678, .iload 5, 2, 0, 0, 0), (1680, .ifCond .ne 15, 3, 0, 1695, 0), (1683, .aload_n 3, 1, 0, 0, 0), (1684, .iconst 0, 1, 0, 0, 0), (1685, .laload, 1, 0, 0, 0), (1686, .iload 6, 2, 0, 0, 0), (1688, .i2l, 1, 0, 0, 0), (1689, .lcmp, 1, 0, 0, 0), (1690, .ifCond .eq 5, 3, 0, 1695, 0), (1693, .iconst 0, 1, 0, 0, 0), (1694, .ireturn, 1, 0, 0, 0), (1695, .goto 1597, 3, 0, 3292, 0)],
  [(1698, .aload_n 1, 1, 0, 0, 0), (1699, .aload_n 0, 1, 0, 0, 0), (1700, .iload 4, 2, 0, 0, 0), (1702, .iconst 1, 1, 0, 0, 0), (1703, .iadd, 1, 0, 0, 0), (1704, .iaload, 1, 0, 0, 0), (1705, .aload_n 3, 1, 0, 0, 0), (1706, .invokestatic 258, 3, 352, 1, 1332), (1709, .istore 5, 2, 0, 0, 0), (1711, .aload_n 2, 1, 0, 0, 0), (1712, .aload_n 0, 1, 0, 0, 0), (1713, .iload 4, 2, 0, 0, 0), (1715, .iconst 1, 1, 0, 0, 0), (1716, .iadd, 1, 0, 0, 0), (1717, .iaload, 1, 0, 0, 0), (1718, .invokevirtual 260, 3, 303, 0, 2224), (1721, .istore 6, 2, 0, 0, 0), (1723, .aload_n 2, 1, 0, 0, 0), (1724, .invokevirtual 168, 3, 196, 0, 1792), (1727, .iload 5, 2, 0, 0, 0)],
  [(1729, .if_icmp .eq 5, 3, 0, 1734, 0), (1732, .iconst 0, 1, 0, 0, 0), (1733, .ireturn, 1, 0, 0, 0), (1734, .iload 5, 2, 0, 0, 0), (1736, .ifCond .ne 15, 3, 0, 1751, 0), (1739, .aload_n 3, 1, 0, 0, 0), (1740, .iconst 0, 1, 0, 0, 0), (1741, .laload, 1, 0, 0, 0), (1742, .iload 6, 2, 0, 0, 0), (1744, .i2l, 1, 0, 0, 0), (1745, .lcmp, 1, 0, 0, 0), (1746, .ifCond .eq 5, 3, 0, 1751, 0), (1749, .iconst 0, 1, 0, 0, 0), (1750, .ireturn, 1, 0, 0, 0), (1751, .goto 1541, 3, 0, 3292, 0), (1754, .aload_n 1, 1, 0, 0, 0), (1755, .aload_n 0, 1, 0, 0, 0), (1756, .iload 4, 2, 0, 0, 0), (1758, .iconst 1, 1, 0, 0, 0), (1759, .iadd, 1, 0, 0, 0)],
  [(1760, .iaload, 1, 0, 0, 0), (1761, .aload_n 0, 1, 0, 0, 0), (1762, .iload 4, 2, 0, 0, 0), (1764, .iconst 2, 1, 0, 0, 0), (1765, .iadd, 1, 0, 0, 0), (1766, .iaload, 1, 0, 0, 0), (1767, .aload_n 3, 1, 0, 0, 0), (1768, .invokestatic 261, 3, 353, 1, 1344), (1771, .istore 5, 2, 0, 0, 0), (1773, .aload_n 2, 1, 0, 0, 0), (1774, .aload_n 0, 1, 0, 0, 0), (1775, .iload 4, 2, 0, 0, 0), (1777, .iconst 1, 1, 0, 0, 0), (1778, .iadd, 1, 0, 0, 0), (1779, .iaload, 1, 0, 0, 0), (1780, .aload_n 0, 1, 0, 0, 0), (1781, .iload 4, 2, 0, 0, 0), (1783, .iconst 2, 1, 0, 0, 0), (1784, .iadd, 1, 0, 0, 0), (1785, .iaload, 1, 0, 0, 0), (1786, .invokevirtual 263, 3, 304, 0, 2228), (1789, .istore 6, 2, 0, 0, 0), (1791, .aload_n 2, 1, 0, 0, 0)],
  [(1792, .invokevirtual 168, 3, 196, 0, 1792), (1795, .iload 5, 2, 0, 0, 0), (1797, .if_icmp .eq 5, 3, 0, 1802, 0), (1800, .iconst 0, 1, 0, 0, 0), (1801, .ireturn, 1, 0, 0, 0), (1802, .iload 5, 2, 0, 0, 0), (1804, .ifCond .ne 15, 3, 0, 1819, 0), (1807, .aload_n 3, 1, 0, 0, 0), (1808, .iconst 0, 1, 0, 0, 0), (1809, .laload, 1, 0, 0, 0), (1810, .iload 6, 2, 0, 0, 0), (1812, .i2l, 1, 0, 0, 0), (1813, .lcmp, 1, 0, 0, 0), (1814, .ifCond .eq 5, 3, 0, 1819, 0), (1817, .iconst 0, 1, 0, 0, 0), (1818, .ireturn, 1, 0, 0, 0), (1819, .goto 1473, 3, 0, 3292, 0), (1822, .aload_n 1, 1, 0, 0, 0), (1823, .aload_n 0, 1, 0, 0, 0)],
  [(1824, .iload 4, 2, 0, 0, 0), (1826, .iconst 1, 1, 0, 0, 0), (1827, .iadd, 1, 0, 0, 0), (1828, .iaload, 1, 0, 0, 0), (1829, .aload_n 3, 1, 0, 0, 0), (1830, .invokestatic 264, 3, 354, 1, 1357), (1833, .istore 5, 2, 0, 0, 0), (1835, .aload_n 2, 1, 0, 0, 0), (1836, .aload_n 0, 1, 0, 0, 0), (1837, .iload 4, 2, 0, 0, 0), (1839, .iconst 1, 1, 0, 0, 0), (1840, .iadd, 1, 0, 0, 0), (1841, .iaload, 1, 0, 0, 0), (1842, .invokevirtual 266, 3, 305, 0, 2232), (1845, .istore 6, 2, 0, 0, 0), (1847, .aload_n 2, 1, 0, 0, 0), (1848, .invokevirtual 168, 3, 196, 0, 1792), (1851, .iload 5, 2, 0, 0, 0), (1853, .if_icmp .eq 5, 3, 0, 1858, 0)],
  [(1856, .iconst 0, 1, 0, 0, 0), (1857, .ireturn, 1, 0, 0, 0), (1858, .iload 5, 2, 0, 0, 0), (1860, .ifCond .ne 15, 3, 0, 1875, 0), (1863, .aload_n 3, 1, 0, 0, 0), (1864, .iconst 0, 1, 0, 0, 0), (1865, .laload, 1, 0, 0, 0), (1866, .iload 6, 2, 0, 0, 0), (1868, .i2l, 1, 0, 0, 0), (1869, .lcmp, 1, 0, 0, 0), (1870, .ifCond .eq 5, 3, 0, 1875, 0), (1873, .iconst 0, 1, 0, 0, 0), (1874, .ireturn, 1, 0, 0, 0), (1875, .goto 1417, 3, 0, 3292, 0), (1878, .aload_n 1, 1, 0, 0, 0), (1879, .aload_n 0, 1, 0, 0, 0), (1880, .iload 4, 2, 0, 0, 0), (1882, .iconst 1, 1, 0, 0, 0), (1883, .iadd, 1, 0, 0, 0), (1884, .iaload, 1, 0, 0, 0), (1885, .aload_n 3, 1, 0, 0, 0), (1886, .invokestatic 267, 3, 355, 1, 1364)],
  [(1889, .istore 5, 2, 0, 0, 0), (1891, .aload_n 2, 1, 0, 0, 0), (1892, .aload_n 0, 1, 0, 0, 0), (1893, .iload 4, 2, 0, 0, 0), (1895, .iconst 1, 1, 0, 0, 0), (1896, .iadd, 1, 0, 0, 0), (1897, .iaload, 1, 0, 0, 0), (1898, .invokevirtual 269, 3, 311, 0, 2252), (1901, .istore 6, 2, 0, 0, 0), (1903, .aload_n 2, 1, 0, 0, 0), (1904, .invokevirtual 168, 3, 196, 0, 1792), (1907, .iload 5, 2, 0, 0, 0), (1909, .if_icmp .eq 5, 3, 0, 1914, 0), (1912, .iconst 0, 1, 0, 0, 0), (1913, .ireturn, 1, 0, 0, 0), (1914, .iload 5, 2, 0, 0, 0), (1916, .ifCond .ne 15, 3, 0, 1931, 0), (1919, .aload_n 3, 1, 0, 0, 0)],
  [(1920, .iconst 0, 1, 0, 0, 0), (1921, .laload, 1, 0, 0, 0), (1922, .iload 6, 2, 0, 0, 0), (1924, .i2l, 1, 0, 0, 0), (1925, .lcmp, 1, 0, 0, 0), (1926, .ifCond .eq 5, 3, 0, 1931, 0), (1929, .iconst 0, 1, 0, 0, 0), (1930, .ireturn, 1, 0, 0, 0), (1931, .goto 1361, 3, 0, 3292, 0), (1934, .aload_n 1, 1, 0, 0, 0), (1935, .aload_n 0, 1, 0, 0, 0), (1936, .iload 4, 2, 0, 0, 0), (1938, .iconst 1, 1, 0, 0, 0), (1939, .iadd, 1, 0, 0, 0), (1940, .iaload, 1, 0, 0, 0), (1941, .aload_n 3, 1, 0, 0, 0), (1942, .invokestatic 270, 3, 356, 1, 1375), (1945, .istore 5, 2, 0, 0, 0), (1947, .aload_n 2, 1, 0, 0, 0), (1948, .aload_n 0, 1, 0, 0, 0), (1949, .iload 4, 2, 0, 0, 0), (1951, .iconst 1, 1, 0, 0, 0)],
  [(1952, .iadd, 1, 0, 0, 0), (1953, .iaload, 1, 0, 0, 0), (1954, .invokevirtual 272, 3, 312, 0, 2260), (1957, .istore 6, 2, 0, 0, 0), (1959, .aload_n 2, 1, 0, 0, 0), (1960, .invokevirtual 168, 3, 196, 0, 1792), (1963, .iload 5, 2, 0, 0, 0), (1965, .if_icmp .eq 5, 3, 0, 1970, 0), (1968, .iconst 0, 1, 0, 0, 0), (1969, .ireturn, 1, 0, 0, 0), (1970, .iload 5, 2, 0, 0, 0), (1972, .ifCond .ne 15, 3, 0, 1987, 0), (1975, .aload_n 3, 1, 0, 0, 0), (1976, .iconst 0, 1, 0, 0, 0), (1977, .laload, 1, 0, 0, 0), (1978, .iload 6, 2, 0, 0, 0), (1980, .i2l, 1, 0, 0, 0), (1981, .lcmp, 1, 0, 0, 0), (1982, .ifCond .eq 5, 3, 0, 1987, 0)],
  [(1985, .iconst 0, 1, 0, 0, 0), (1986, .ireturn, 1, 0, 0, 0), (1987, .goto 1305, 3, 0, 3292, 0), (1990, .aload_n 1, 1, 0, 0, 0), (1991, .aload_n 0, 1, 0, 0, 0), (1992, .iload 4, 2, 0, 0, 0), (1994, .iconst 1, 1, 0, 0, 0), (1995, .iadd, 1, 0, 0, 0), (1996, .iaload, 1, 0, 0, 0), (1997, .aload_n 3, 1, 0, 0, 0), (1998, .invokestatic 273, 3, 357, 1, 1382), (2001, .istore 5, 2, 0, 0, 0), (2003, .aload_n 2, 1, 0, 0, 0), (2004, .aload_n 0, 1, 0, 0, 0), (2005, .iload 4, 2, 0, 0, 0), (2007, .iconst 1, 1, 0, 0, 0), (2008, .iadd, 1, 0, 0, 0), (2009, .iaload, 1, 0, 0, 0), (2010, .invokevirtual 275, 3, 289, 0, 2162), (2013, .istore 6, 2, 0, 0, 0), (2015, .aload_n 2, 1, 0, 0, 0)],
  [(2016, .invokevirtual 168, 3, 196, 0, 1792), (2019, .iload 5, 2, 0, 0, 0), (2021, .if_icmp .eq 5, 3, 0, 2026, 0), (2024, .iconst 0, 1, 0, 0, 0), (2025, .ireturn, 1, 0, 0, 0), (2026, .iload 5, 2, 0, 0, 0), (2028, .ifCond .ne 15, 3, 0, 2043, 0), (2031, .aload_n 3, 1, 0, 0, 0), (2032, .iconst 0, 1, 0, 0, 0), (2033, .laload, 1, 0, 0, 0), (2034, .iload 6, 2, 0, 0, 0), (2036, .i2l, 1, 0, 0, 0), (2037, .lcmp, 1, 0, 0, 0), (2038, .ifCond .eq 5, 3, 0, 2043, 0), (2041, .iconst 0, 1, 0, 0, 0), (2042, .ireturn, 1, 0, 0, 0), (2043, .goto 1249, 3, 0, 3292, 0), (2046, .aload_n 1, 1, 0, 0, 0), (2047, .aload_n 0, 1, 0, 0, 0)],
  [(2048, .iload 4, 2, 0, 0, 0), (2050, .iconst 1, 1, 0, 0, 0), (2051, .iadd, 1, 0, 0, 0), (2052, .iaload, 1, 0, 0, 0), (2053, .aload_n 0, 1, 0, 0, 0), (2054, .iload 4, 2, 0, 0, 0), (2056, .iconst 2, 1, 0, 0, 0), (2057, .iadd, 1, 0, 0, 0), (2058, .iaload, 1, 0, 0, 0), (2059, .aload_n 0, 1, 0, 0, 0), (2060, .iload 4, 2, 0, 0, 0), (2062, .iconst 3, 1, 0, 0, 0), (2063, .iadd, 1, 0, 0, 0), (2064, .iaload, 1, 0, 0, 0), (2065, .aload_n 3, 1, 0, 0, 0), (2066, .invokestatic 276, 3, 358, 1, 1389), (2069, .istore 5, 2, 0, 0, 0), (2071, .aload_n 2, 1, 0, 0, 0), (2072, .aload_n 0, 1, 0, 0, 0), (2073, .iload 4, 2, 0, 0, 0), (2075, .iconst 1, 1, 0, 0, 0), (2076, .iadd, 1, 0, 0, 0), (2077, .iaload, 1, 0, 0, 0), (2078, .aload_n 0, 1, 0, 0, 0), (2079, .iload 4, 2, 0, 0, 0)],
  [(2081, .iconst 2, 1, 0, 0, 0), (2082, .iadd, 1, 0, 0, 0), (2083, .iaload, 1, 0, 0, 0), (2084, .aload_n 0, 1, 0, 0, 0), (2085, .iload 4, 2, 0, 0, 0), (2087, .iconst 3, 1, 0, 0, 0), (2088, .iadd, 1, 0, 0, 0), (2089, .iaload, 1, 0, 0, 0), (2090, .invokevirtual 278, 3, 292, 0, 2171), (2093, .istore 6, 2, 0, 0, 0), (2095, .aload_n 2, 1, 0, 0, 0), (2096, .invokevirtual 168, 3, 196, 0, 1792), (2099, .iload 5, 2, 0, 0, 0), (2101, .if_icmp .eq 5, 3, 0, 2106, 0), (2104, .iconst 0, 1, 0, 0, 0), (2105, .ireturn, 1, 0, 0, 0), (2106, .iload 5, 2, 0, 0, 0), (2108, .ifCond .ne 15, 3, 0, 2123, 0), (2111, .aload_n 3, 1, 0, 0, 0)],
  [(2112, .iconst 0, 1, 0, 0, 0), (2113, .laload, 1, 0, 0, 0), (2114, .iload 6, 2, 0, 0, 0), (2116, .i2l, 1, 0, 0, 0), (2117, .lcmp, 1, 0, 0, 0), (2118, .ifCond .eq 5, 3, 0, 2123, 0), (2121, .iconst 0, 1, 0, 0, 0), (2122, .ireturn, 1, 0, 0, 0), (2123, .goto 1169, 3, 0, 3292, 0), (2126, .aload_n 1, 1, 0, 0, 0), (2127, .aload_n 0, 1, 0, 0, 0), (2128, .iload 4, 2, 0, 0, 0), (2130, .iconst 1, 1, 0, 0, 0), (2131, .iadd, 1, 0, 0, 0), (2132, .iaload, 1, 0, 0, 0), (2133, .aload_n 0, 1, 0, 0, 0), (2134, .iload 4, 2, 0, 0, 0), (2136, .iconst 2, 1, 0, 0, 0), (2137, .iadd, 1, 0, 0, 0), (2138, .iaload, 1, 0, 0, 0), (2139, .invokevirtual 279, 3, 147, 0, 574), (2142, .aload_n 2, 1, 0, 0, 0), (2143, .aload_n 0, 1, 0, 0, 0)],
  [(2144, .iload 4, 2, 0, 0, 0), (2146, .iconst 1, 1, 0, 0, 0), (2147, .iadd, 1, 0, 0, 0), (2148, .iaload, 1, 0, 0, 0), (2149, .aload_n 0, 1, 0, 0, 0), (2150, .iload 4, 2, 0, 0, 0), (2152, .iconst 2, 1, 0, 0, 0), (2153, .iadd, 1, 0, 0, 0), (2154, .iaload, 1, 0, 0, 0), (2155, .invokevirtual 282, 3, 293, 0, 2180), (2158, .if_icmp .eq 1134, 3, 0, 3292, 0), (2161, .iconst 0, 1, 0, 0, 0), (2162, .ireturn, 1, 0, 0, 0), (2163, .aload_n 1, 1, 0, 0, 0), (2164, .aload_n 0, 1, 0, 0, 0), (2165, .iload 4, 2, 0, 0, 0), (2167, .iconst 1, 1, 0, 0, 0), (2168, .iadd, 1, 0, 0, 0), (2169, .iaload, 1, 0, 0, 0), (2170, .aload_n 0, 1, 0, 0, 0), (2171, .iload 4, 2, 0, 0, 0), (2173, .iconst 2, 1, 0, 0, 0), (2174, .iadd, 1, 0, 0, 0), (2175, .iaload, 1, 0, 0, 0)],
  [(2176, .aload_n 3, 1, 0, 0, 0), (2177, .invokestatic 283, 3, 359, 1, 1400), (2180, .istore 5, 2, 0, 0, 0), (2182, .aload_n 2, 1, 0, 0, 0), (2183, .aload_n 0, 1, 0, 0, 0), (2184, .iload 4, 2, 0, 0, 0), (2186, .iconst 1, 1, 0, 0, 0), (2187, .iadd, 1, 0, 0, 0), (2188, .iaload, 1, 0, 0, 0), (2189, .aload_n 0, 1, 0, 0, 0), (2190, .iload 4, 2, 0, 0, 0), (2192, .iconst 2, 1, 0, 0, 0), (2193, .iadd, 1, 0, 0, 0), (2194, .iaload, 1, 0, 0, 0), (2195, .invokevirtual 285, 3, 315, 0, 2264), (2198, .istore 6, 2, 0, 0, 0), (2200, .aload_n 2, 1, 0, 0, 0), (2201, .invokevirtual 168, 3, 196, 0, 1792), (2204, .iload 5, 2, 0, 0, 0), (2206, .if_icmp .eq 5, 3, 0, 2211, 0)],
  [(2209, .iconst 0, 1, 0, 0, 0), (2210, .ireturn, 1, 0, 0, 0), (2211, .iload 5, 2, 0, 0, 0), (2213, .ifCond .ne 15, 3, 0, 2228, 0), (2216, .aload_n 3, 1, 0, 0, 0), (2217, .iconst 0, 1, 0, 0, 0), (2218, .laload, 1, 0, 0, 0), (2219, .iload 6, 2, 0, 0, 0), (2221, .i2l, 1, 0, 0, 0), (2222, .lcmp, 1, 0, 0, 0), (2223, .ifCond .eq 5, 3, 0, 2228, 0), (2226, .iconst 0, 1, 0, 0, 0), (2227, .ireturn, 1, 0, 0, 0), (2228, .goto 1064, 3, 0, 3292, 0), (2231, .aload_n 1, 1, 0, 0, 0), (2232, .aload_n 0, 1, 0, 0, 0), (2233, .iload 4, 2, 0, 0, 0), (2235, .iconst 1, 1, 0, 0, 0), (2236, .iadd, 1, 0, 0, 0), (2237, .iaload, 1, 0, 0, 0), (2238, .aload_n 3, 1, 0, 0, 0), (2239, .invokestatic 286, 3, 360, 1, 1411)],
  [(2242, .istore 5, 2, 0, 0, 0), (2244, .aload_n 2, 1, 0, 0, 0), (2245, .aload_n 0, 1, 0, 0, 0), (2246, .iload 4, 2, 0, 0, 0), (2248, .iconst 1, 1, 0, 0, 0), (2249, .iadd, 1, 0, 0, 0), (2250, .iaload, 1, 0, 0, 0), (2251, .invokevirtual 288, 3, 316, 0, 2275), (2254, .istore 6, 2, 0, 0, 0), (2256, .aload_n 2, 1, 0, 0, 0), (2257, .invokevirtual 168, 3, 196, 0, 1792), (2260, .iload 5, 2, 0, 0, 0), (2262, .if_icmp .eq 5, 3, 0, 2267, 0), (2265, .iconst 0, 1, 0, 0, 0), (2266, .ireturn, 1, 0, 0, 0), (2267, .iload 5, 2, 0, 0, 0), (2269, .ifCond .ne 15, 3, 0, 2284, 0)],
  [(2272, .aload_n 3, 1, 0, 0, 0), (2273, .iconst 0, 1, 0, 0, 0), (2274, .laload, 1, 0, 0, 0), (2275, .iload 6, 2, 0, 0, 0), (2277, .i2l, 1, 0, 0, 0), (2278, .lcmp, 1, 0, 0, 0), (2279, .ifCond .eq 5, 3, 0, 2284, 0), (2282, .iconst 0, 1, 0, 0, 0), (2283, .ireturn, 1, 0, 0, 0), (2284, .goto 1008, 3, 0, 3292, 0), (2287, .aload_n 1, 1, 0, 0, 0), (2288, .aload_n 0, 1, 0, 0, 0), (2289, .iload 4, 2, 0, 0, 0), (2291, .iconst 1, 1, 0, 0, 0), (2292, .iadd, 1, 0, 0, 0), (2293, .iaload, 1, 0, 0, 0), (2294, .aload_n 3, 1, 0, 0, 0), (2295, .invokestatic 289, 3, 361, 1, 1418), (2298, .istore 5, 2, 0, 0, 0), (2300, .aload_n 2, 1, 0, 0, 0), (2301, .aload_n 0, 1, 0, 0, 0), (2302, .iload 4, 2, 0, 0, 0)],
  [(2304, .iconst 1, 1, 0, 0, 0), (2305, .iadd, 1, 0, 0, 0), (2306, .iaload, 1, 0, 0, 0), (2307, .invokevirtual 291, 3, 281, 0, 2130), (2310, .istore 6, 2, 0, 0, 0), (2312, .aload_n 2, 1, 0, 0, 0), (2313, .invokevirtual 168, 3, 196, 0, 1792), (2316, .iload 5, 2, 0, 0, 0), (2318, .if_icmp .eq 5, 3, 0, 2323, 0), (2321, .iconst 0, 1, 0, 0, 0), (2322, .ireturn, 1, 0, 0, 0), (2323, .iload 5, 2, 0, 0, 0), (2325, .ifCond .ne 15, 3, 0, 2340, 0), (2328, .aload_n 3, 1, 0, 0, 0), (2329, .iconst 0, 1, 0, 0, 0), (2330, .laload, 1, 0, 0, 0), (2331, .iload 6, 2, 0, 0, 0), (2333, .i2l, 1, 0, 0, 0), (2334, .lcmp, 1, 0, 0, 0), (2335, .ifCond .eq 5, 3, 0, 2340, 0)],
  [(2338, .iconst 0, 1, 0, 0, 0), (2339, .ireturn, 1, 0, 0, 0), (2340, .goto 952, 3, 0, 3292, 0), (2343, .aload_n 1, 1, 0, 0, 0), (2344, .aload_n 0, 1, 0, 0, 0), (2345, .iload 4, 2, 0, 0, 0), (2347, .iconst 1, 1, 0, 0, 0), (2348, .iadd, 1, 0, 0, 0), (2349, .iaload, 1, 0, 0, 0), (2350, .aload_n 0, 1, 0, 0, 0), (2351, .iload 4, 2, 0, 0, 0), (2353, .iconst 2, 1, 0, 0, 0), (2354, .iadd, 1, 0, 0, 0), (2355, .iaload, 1, 0, 0, 0), (2356, .aload_n 3, 1, 0, 0, 0), (2357, .invokestatic 292, 3, 362, 1, 1425), (2360, .istore 5, 2, 0, 0, 0), (2362, .aload_n 2, 1, 0, 0, 0), (2363, .aload_n 0, 1, 0, 0, 0), (2364, .iload 4, 2, 0, 0, 0), (2366, .iconst 1, 1, 0, 0, 0), (2367, .iadd, 1, 0, 0, 0)],
  [(2368, .iaload, 1, 0, 0, 0), (2369, .aload_n 0, 1, 0, 0, 0), (2370, .iload 4, 2, 0, 0, 0), (2372, .iconst 2, 1, 0, 0, 0), (2373, .iadd, 1, 0, 0, 0), (2374, .iaload, 1, 0, 0, 0), (2375, .invokevirtual 294, 3, 297, 0, 2200), (2378, .lstore 6, 2, 0, 0, 0), (2380, .aload_n 2, 1, 0, 0, 0), (2381, .invokevirtual 168, 3, 196, 0, 1792), (2384, .iload 5, 2, 0, 0, 0), (2386, .if_icmp .eq 5, 3, 0, 2391, 0), (2389, .iconst 0, 1, 0, 0, 0), (2390, .ireturn, 1, 0, 0, 0), (2391, .iload 5, 2, 0, 0, 0), (2393, .ifCond .ne 14, 3, 0, 2407, 0), (2396, .aload_n 3, 1, 0, 0, 0), (2397, .iconst 0, 1, 0, 0, 0), (2398, .laload, 1, 0, 0, 0), (2399, .lload 6, 2, 0, 0, 0)],
  [(2401, .lcmp, 1, 0, 0, 0), (2402, .ifCond .eq 5, 3, 0, 2407, 0), (2405, .iconst 0, 1, 0, 0, 0), (2406, .ireturn, 1, 0, 0, 0), (2407, .goto 885, 3, 0, 3292, 0), (2410, .aload_n 1, 1, 0, 0, 0), (2411, .aload_n 0, 1, 0, 0, 0), (2412, .iload 4, 2, 0, 0, 0), (2414, .iconst 1, 1, 0, 0, 0), (2415, .iadd, 1, 0, 0, 0), (2416, .iaload, 1, 0, 0, 0), (2417, .aload_n 0, 1, 0, 0, 0), (2418, .iload 4, 2, 0, 0, 0), (2420, .iconst 2, 1, 0, 0, 0), (2421, .iadd, 1, 0, 0, 0), (2422, .iaload, 1, 0, 0, 0), (2423, .aload_n 3, 1, 0, 0, 0), (2424, .invokestatic 295, 3, 363, 1, 1432), (2427, .istore 5, 2, 0, 0, 0), (2429, .aload_n 2, 1, 0, 0, 0), (2430, .aload_n 0, 1, 0, 0, 0), (2431, .iload 4, 2, 0, 0, 0)],
  [(2433, .iconst 1, 1, 0, 0, 0), (2434, .iadd, 1, 0, 0, 0), (2435, .iaload, 1, 0, 0, 0), (2436, .aload_n 0, 1, 0, 0, 0), (2437, .iload 4, 2, 0, 0, 0), (2439, .iconst 2, 1, 0, 0, 0), (2440, .iadd, 1, 0, 0, 0), (2441, .iaload, 1, 0, 0, 0), (2442, .invokevirtual 297, 3, 299, 0, 2204), (2445, .istore 6, 2, 0, 0, 0), (2447, .aload_n 2, 1, 0, 0, 0), (2448, .invokevirtual 168, 3, 196, 0, 1792), (2451, .iload 5, 2, 0, 0, 0), (2453, .if_icmp .eq 5, 3, 0, 2458, 0), (2456, .iconst 0, 1, 0, 0, 0), (2457, .ireturn, 1, 0, 0, 0), (2458, .iload 5, 2, 0, 0, 0), (2460, .ifCond .ne 15, 3, 0, 2475, 0), (2463, .aload_n 3, 1, 0, 0, 0)],
  [(2464, .iconst 0, 1, 0, 0, 0), (2465, .laload, 1, 0, 0, 0), (2466, .iload 6, 2, 0, 0, 0), (2468, .i2l, 1, 0, 0, 0), (2469, .lcmp, 1, 0, 0, 0), (2470, .ifCond .eq 5, 3, 0, 2475, 0), (2473, .iconst 0, 1, 0, 0, 0), (2474, .ireturn, 1, 0, 0, 0), (2475, .goto 817, 3, 0, 3292, 0), (2478, .aload_n 1, 1, 0, 0, 0), (2479, .aload_n 0, 1, 0, 0, 0), (2480, .iload 4, 2, 0, 0, 0), (2482, .iconst 1, 1, 0, 0, 0), (2483, .iadd, 1, 0, 0, 0), (2484, .iaload, 1, 0, 0, 0), (2485, .aload_n 3, 1, 0, 0, 0), (2486, .invokestatic 298, 3, 364, 1, 1439), (2489, .istore 5, 2, 0, 0, 0), (2491, .aload_n 2, 1, 0, 0, 0), (2492, .aload_n 0, 1, 0, 0, 0), (2493, .iload 4, 2, 0, 0, 0), (2495, .iconst 1, 1, 0, 0, 0)],
  [(2496, .iadd, 1, 0, 0, 0), (2497, .iaload, 1, 0, 0, 0), (2498, .invokevirtual 300, 3, 273, 0, 2098), (2501, .istore 6, 2, 0, 0, 0), (2503, .aload_n 2, 1, 0, 0, 0), (2504, .invokevirtual 168, 3, 196, 0, 1792), (2507, .iload 5, 2, 0, 0, 0), (2509, .if_icmp .eq 5, 3, 0, 2514, 0), (2512, .iconst 0, 1, 0, 0, 0), (2513, .ireturn, 1, 0, 0, 0), (2514, .iload 5, 2, 0, 0, 0), (2516, .ifCond .ne 15, 3, 0, 2531, 0), (2519, .aload_n 3, 1, 0, 0, 0), (2520, .iconst 0, 1, 0, 0, 0), (2521, .laload, 1, 0, 0, 0), (2522, .iload 6, 2, 0, 0, 0), (2524, .i2l, 1, 0, 0, 0), (2525, .lcmp, 1, 0, 0, 0), (2526, .ifCond .eq 5, 3, 0, 2531, 0)],
  [(2529, .iconst 0, 1, 0, 0, 0), (2530, .ireturn, 1, 0, 0, 0), (2531, .goto 761, 3, 0, 3292, 0), (2534, .aload_n 1, 1, 0, 0, 0), (2535, .aload_n 0, 1, 0, 0, 0), (2536, .iload 4, 2, 0, 0, 0), (2538, .iconst 1, 1, 0, 0, 0), (2539, .iadd, 1, 0, 0, 0), (2540, .iaload, 1, 0, 0, 0), (2541, .aload_n 3, 1, 0, 0, 0), (2542, .invokestatic 301, 3, 365, 1, 1446), (2545, .istore 5, 2, 0, 0, 0), (2547, .aload_n 2, 1, 0, 0, 0), (2548, .aload_n 0, 1, 0, 0, 0), (2549, .iload 4, 2, 0, 0, 0), (2551, .iconst 1, 1, 0, 0, 0), (2552, .iadd, 1, 0, 0, 0), (2553, .iaload, 1, 0, 0, 0), (2554, .invokevirtual 303, 3, 308, 0, 2244), (2557, .istore 6, 2, 0, 0, 0), (2559, .aload_n 2, 1, 0, 0, 0)],
  [(2560, .invokevirtual 168, 3, 196, 0, 1792), (2563, .iload 5, 2, 0, 0, 0), (2565, .if_icmp .eq 5, 3, 0, 2570, 0), (2568, .iconst 0, 1, 0, 0, 0), (2569, .ireturn, 1, 0, 0, 0), (2570, .iload 5, 2, 0, 0, 0), (2572, .ifCond .ne 15, 3, 0, 2587, 0), (2575, .aload_n 3, 1, 0, 0, 0), (2576, .iconst 0, 1, 0, 0, 0), (2577, .laload, 1, 0, 0, 0), (2578, .iload 6, 2, 0, 0, 0), (2580, .i2l, 1, 0, 0, 0), (2581, .lcmp, 1, 0, 0, 0), (2582, .ifCond .eq 5, 3, 0, 2587, 0), (2585, .iconst 0, 1, 0, 0, 0), (2586, .ireturn, 1, 0, 0, 0), (2587, .goto 705, 3, 0, 3292, 0), (2590, .aload_n 1, 1, 0, 0, 0), (2591, .aload_n 0, 1, 0, 0, 0)],
  [(2592, .iload 4, 2, 0, 0, 0), (2594, .iconst 1, 1, 0, 0, 0), (2595, .iadd, 1, 0, 0, 0), (2596, .iaload, 1, 0, 0, 0), (2597, .aload_n 3, 1, 0, 0, 0), (2598, .invokestatic 304, 3, 366, 1, 1453), (2601, .istore 5, 2, 0, 0, 0), (2603, .aload_n 2, 1, 0, 0, 0), (2604, .aload_n 0, 1, 0, 0, 0), (2605, .iload 4, 2, 0, 0, 0), (2607, .iconst 1, 1, 0, 0, 0), (2608, .iadd, 1, 0, 0, 0), (2609, .iaload, 1, 0, 0, 0), (2610, .invokevirtual 306, 3, 309, 0, 2248), (2613, .istore 6, 2, 0, 0, 0), (2615, .aload_n 2, 1, 0, 0, 0), (2616, .invokevirtual 168, 3, 196, 0, 1792), (2619, .iload 5, 2, 0, 0, 0), (2621, .if_icmp .eq 5, 3, 0, 2626, 0)],
  [(2624, .iconst 0, 1, 0, 0, 0), (2625, .ireturn, 1, 0, 0, 0), (2626, .iload 5, 2, 0, 0, 0), (2628, .ifCond .ne 15, 3, 0, 2643, 0), (2631, .aload_n 3, 1, 0, 0, 0), (2632, .iconst 0, 1, 0, 0, 0), (2633, .laload, 1, 0, 0, 0), (2634, .iload 6, 2, 0, 0, 0), (2636, .i2l, 1, 0, 0, 0), (2637, .lcmp, 1, 0, 0, 0), (2638, .ifCond .eq 5, 3, 0, 2643, 0), (2641, .iconst 0, 1, 0, 0, 0), (2642, .ireturn, 1, 0, 0, 0), (2643, .goto 649, 3, 0, 3292, 0), (2646, .aload_n 1, 1, 0, 0, 0), (2647, .aload_n 0, 1, 0, 0, 0), (2648, .iload 4, 2, 0, 0, 0), (2650, .iconst 1, 1, 0, 0, 0), (2651, .iadd, 1, 0, 0, 0), (2652, .iaload, 1, 0, 0, 0), (2653, .aload_n 3, 1, 0, 0, 0), (2654, .invokestatic 307, 3, 367, 1, 1469)],
  [(2657, .istore 5, 2, 0, 0, 0), (2659, .aload_n 2, 1, 0, 0, 0), (2660, .aload_n 0, 1, 0, 0, 0), (2661, .iload 4, 2, 0, 0, 0), (2663, .iconst 1, 1, 0, 0, 0), (2664, .iadd, 1, 0, 0, 0), (2665, .iaload, 1, 0, 0, 0), (2666, .invokevirtual 309, 3, 290, 0, 2166), (2669, .lstore 6, 2, 0, 0, 0), (2671, .aload_n 2, 1, 0, 0, 0), (2672, .invokevirtual 168, 3, 196, 0, 1792), (2675, .iload 5, 2, 0, 0, 0), (2677, .if_icmp .eq 5, 3, 0, 2682, 0), (2680, .iconst 0, 1, 0, 0, 0), (2681, .ireturn, 1, 0, 0, 0), (2682, .iload 5, 2, 0, 0, 0), (2684, .ifCond .ne 14, 3, 0, 2698, 0), (2687, .aload_n 3, 1, 0, 0, 0)],
  [(2688, .iconst 0, 1, 0, 0, 0), (2689, .laload, 1, 0, 0, 0), (2690, .lload 6, 2, 0, 0, 0), (2692, .lcmp, 1, 0, 0, 0), (2693, .ifCond .eq 5, 3, 0, 2698, 0), (2696, .iconst 0, 1, 0, 0, 0), (2697, .ireturn, 1, 0, 0, 0), (2698, .goto 594, 3, 0, 3292, 0), (2701, .aload_n 1, 1, 0, 0, 0), (2702, .aload_n 0, 1, 0, 0, 0), (2703, .iload 4, 2, 0, 0, 0), (2705, .iconst 1, 1, 0, 0, 0), (2706, .iadd, 1, 0, 0, 0), (2707, .iaload, 1, 0, 0, 0), (2708, .aload_n 0, 1, 0, 0, 0), (2709, .iload 4, 2, 0, 0, 0), (2711, .iconst 2, 1, 0, 0, 0), (2712, .iadd, 1, 0, 0, 0), (2713, .iaload, 1, 0, 0, 0), (2714, .aload_n 0, 1, 0, 0, 0), (2715, .iload 4, 2, 0, 0, 0), (2717, .iconst 3, 1, 0, 0, 0), (2718, .iadd, 1, 0, 0, 0), (2719, .iaload, 1, 0, 0, 0)],
  [(2720, .aload_n 3, 1, 0, 0, 0), (2721, .invokestatic 310, 3, 368, 1, 1476), (2724, .istore 5, 2, 0, 0, 0), (2726, .aload_n 2, 1, 0, 0, 0), (2727, .aload_n 0, 1, 0, 0, 0), (2728, .iload 4, 2, 0, 0, 0), (2730, .iconst 1, 1, 0, 0, 0), (2731, .iadd, 1, 0, 0, 0), (2732, .iaload, 1, 0, 0, 0), (2733, .aload_n 0, 1, 0, 0, 0), (2734, .iload 4, 2, 0, 0, 0), (2736, .iconst 2, 1, 0, 0, 0), (2737, .iadd, 1, 0, 0, 0), (2738, .iaload, 1, 0, 0, 0), (2739, .aload_n 0, 1, 0, 0, 0), (2740, .iload 4, 2, 0, 0, 0), (2742, .iconst 3, 1, 0, 0, 0), (2743, .iadd, 1, 0, 0, 0), (2744, .iaload, 1, 0, 0, 0), (2745, .invokevirtual 312, 3, 294, 0, 2184), (2748, .istore 6, 2, 0, 0, 0), (2750, .aload_n 2, 1, 0, 0, 0), (2751, .invokevirtual 168, 3, 196, 0, 1792)],
  [(2754, .iload 5, 2, 0, 0, 0), (2756, .if_icmp .eq 5, 3, 0, 2761, 0), (2759, .iconst 0, 1, 0, 0, 0), (2760, .ireturn, 1, 0, 0, 0), (2761, .iload 5, 2, 0, 0, 0), (2763, .ifCond .ne 15, 3, 0, 2778, 0), (2766, .aload_n 3, 1, 0, 0, 0), (2767, .iconst 0, 1, 0, 0, 0), (2768, .laload, 1, 0, 0, 0), (2769, .iload 6, 2, 0, 0, 0), (2771, .i2l, 1, 0, 0, 0), (2772, .lcmp, 1, 0, 0, 0), (2773, .ifCond .eq 5, 3, 0, 2778, 0), (2776, .iconst 0, 1, 0, 0, 0), (2777, .ireturn, 1, 0, 0, 0), (2778, .goto 514, 3, 0, 3292, 0), (2781, .aload_n 1, 1, 0, 0, 0), (2782, .aload_n 0, 1, 0, 0, 0), (2783, .iload 4, 2, 0, 0, 0)],
  [(2785, .iconst 1, 1, 0, 0, 0), (2786, .iadd, 1, 0, 0, 0), (2787, .iaload, 1, 0, 0, 0), (2788, .aload_n 0, 1, 0, 0, 0), (2789, .iload 4, 2, 0, 0, 0), (2791, .iconst 2, 1, 0, 0, 0), (2792, .iadd, 1, 0, 0, 0), (2793, .iaload, 1, 0, 0, 0), (2794, .aload_n 3, 1, 0, 0, 0), (2795, .invokestatic 313, 3, 369, 1, 1483), (2798, .istore 5, 2, 0, 0, 0), (2800, .aload_n 2, 1, 0, 0, 0), (2801, .aload_n 0, 1, 0, 0, 0), (2802, .iload 4, 2, 0, 0, 0), (2804, .iconst 1, 1, 0, 0, 0), (2805, .iadd, 1, 0, 0, 0), (2806, .iaload, 1, 0, 0, 0), (2807, .aload_n 0, 1, 0, 0, 0), (2808, .iload 4, 2, 0, 0, 0), (2810, .iconst 2, 1, 0, 0, 0), (2811, .iadd, 1, 0, 0, 0), (2812, .iaload, 1, 0, 0, 0), (2813, .invokevirtual 315, 3, 306, 0, 2236)],
  [(2816, .istore 6, 2, 0, 0, 0), (2818, .aload_n 2, 1, 0, 0, 0), (2819, .invokevirtual 168, 3, 196, 0, 1792), (2822, .iload 5, 2, 0, 0, 0), (2824, .if_icmp .eq 5, 3, 0, 2829, 0), (2827, .iconst 0, 1, 0, 0, 0), (2828, .ireturn, 1, 0, 0, 0), (2829, .iload 5, 2, 0, 0, 0), (2831, .ifCond .ne 15, 3, 0, 2846, 0), (2834, .aload_n 3, 1, 0, 0, 0), (2835, .iconst 0, 1, 0, 0, 0), (2836, .laload, 1, 0, 0, 0), (2837, .iload 6, 2, 0, 0, 0), (2839, .i2l, 1, 0, 0, 0), (2840, .lcmp, 1, 0, 0, 0), (2841, .ifCond .eq 5, 3, 0, 2846, 0), (2844, .iconst 0, 1, 0, 0, 0), (2845, .ireturn, 1, 0, 0, 0), (2846, .goto 446, 3, 0, 3292, 0)],
  [(2849, .aload_n 1, 1, 0, 0, 0), (2850, .aload_n 0, 1, 0, 0, 0), (2851, .iload 4, 2, 0, 0, 0), (2853, .iconst 1, 1, 0, 0, 0), (2854, .iadd, 1, 0, 0, 0), (2855, .iaload, 1, 0, 0, 0), (2856, .aload_n 3, 1, 0, 0, 0), (2857, .invokestatic 316, 3, 370, 1, 1491), (2860, .istore 5, 2, 0, 0, 0), (2862, .aload_n 2, 1, 0, 0, 0), (2863, .aload_n 0, 1, 0, 0, 0), (2864, .iload 4, 2, 0, 0, 0), (2866, .iconst 1, 1, 0, 0, 0), (2867, .iadd, 1, 0, 0, 0), (2868, .iaload, 1, 0, 0, 0), (2869, .invokevirtual 318, 3, 320, 0, 2283), (2872, .istore 6, 2, 0, 0, 0), (2874, .aload_n 2, 1, 0, 0, 0), (2875, .invokevirtual 168, 3, 196, 0, 1792), (2878, .iload 5, 2, 0, 0, 0)],
  [(2880, .if_icmp .eq 5, 3, 0, 2885, 0), (2883, .iconst 0, 1, 0, 0, 0), (2884, .ireturn, 1, 0, 0, 0), (2885, .iload 5, 2, 0, 0, 0), (2887, .ifCond .ne 15, 3, 0, 2902, 0), (2890, .aload_n 3, 1, 0, 0, 0), (2891, .iconst 0, 1, 0, 0, 0), (2892, .laload, 1, 0, 0, 0), (2893, .iload 6, 2, 0, 0, 0), (2895, .i2l, 1, 0, 0, 0), (2896, .lcmp, 1, 0, 0, 0), (2897, .ifCond .eq 5, 3, 0, 2902, 0), (2900, .iconst 0, 1, 0, 0, 0), (2901, .ireturn, 1, 0, 0, 0), (2902, .goto 390, 3, 0, 3292, 0), (2905, .aload_n 1, 1, 0, 0, 0), (2906, .aload_n 0, 1, 0, 0, 0), (2907, .iload 4, 2, 0, 0, 0), (2909, .iconst 1, 1, 0, 0, 0), (2910, .iadd, 1, 0, 0, 0), (2911, .iaload, 1, 0, 0, 0)],
  [(2912, .aload_n 3, 1, 0, 0, 0), (2913, .invokestatic 319, 3, 371, 1, 1519), (2916, .istore 5, 2, 0, 0, 0), (2918, .aload_n 2, 1, 0, 0, 0), (2919, .aload_n 0, 1, 0, 0, 0), (2920, .iload 4, 2, 0, 0, 0), (2922, .iconst 1, 1, 0, 0, 0), (2923, .iadd, 1, 0, 0, 0), (2924, .iaload, 1, 0, 0, 0), (2925, .invokevirtual 321, 3, 307, 0, 2240), (2928, .istore 6, 2, 0, 0, 0), (2930, .aload_n 2, 1, 0, 0, 0), (2931, .invokevirtual 168, 3, 196, 0, 1792), (2934, .iload 5, 2, 0, 0, 0), (2936, .if_icmp .eq 5, 3, 0, 2941, 0), (2939, .iconst 0, 1, 0, 0, 0), (2940, .ireturn, 1, 0, 0, 0), (2941, .iload 5, 2, 0, 0, 0), (2943, .ifCond .ne 15, 3, 0, 2958, 0)],
  [(2946, .aload_n 3, 1, 0, 0, 0), (2947, .iconst 0, 1, 0, 0, 0), (2948, .laload, 1, 0, 0, 0), (2949, .iload 6, 2, 0, 0, 0), (2951, .i2l, 1, 0, 0, 0), (2952, .lcmp, 1, 0, 0, 0), (2953, .ifCond .eq 5, 3, 0, 2958, 0), (2956, .iconst 0, 1, 0, 0, 0), (2957, .ireturn, 1, 0, 0, 0), (2958, .goto 334, 3, 0, 3292, 0), (2961, .aload_n 1, 1, 0, 0, 0), (2962, .aload_n 0, 1, 0, 0, 0), (2963, .iload 4, 2, 0, 0, 0), (2965, .iconst 1, 1, 0, 0, 0), (2966, .iadd, 1, 0, 0, 0), (2967, .iaload, 1, 0, 0, 0), (2968, .aload_n 3, 1, 0, 0, 0), (2969, .invokestatic 322, 3, 372, 1, 1546), (2972, .istore 5, 2, 0, 0, 0), (2974, .aload_n 2, 1, 0, 0, 0), (2975, .aload_n 0, 1, 0, 0, 0)],
  [(2976, .iload 4, 2, 0, 0, 0), (2978, .iconst 1, 1, 0, 0, 0), (2979, .iadd, 1, 0, 0, 0), (2980, .iaload, 1, 0, 0, 0), (2981, .invokevirtual 324, 3, 317, 0, 2279), (2984, .istore 6, 2, 0, 0, 0), (2986, .aload_n 2, 1, 0, 0, 0), (2987, .invokevirtual 168, 3, 196, 0, 1792), (2990, .iload 5, 2, 0, 0, 0), (2992, .if_icmp .eq 5, 3, 0, 2997, 0), (2995, .iconst 0, 1, 0, 0, 0), (2996, .ireturn, 1, 0, 0, 0), (2997, .iload 5, 2, 0, 0, 0), (2999, .ifCond .ne 15, 3, 0, 3014, 0), (3002, .aload_n 3, 1, 0, 0, 0), (3003, .iconst 0, 1, 0, 0, 0), (3004, .laload, 1, 0, 0, 0), (3005, .iload 6, 2, 0, 0, 0), (3007, .i2l, 1, 0, 0, 0)],
  [(3008, .lcmp, 1, 0, 0, 0), (3009, .ifCond .eq 5, 3, 0, 3014, 0), (3012, .iconst 0, 1, 0, 0, 0), (3013, .ireturn, 1, 0, 0, 0), (3014, .goto 278, 3, 0, 3292, 0), (3017, .aload_n 1, 1, 0, 0, 0), (3018, .aload_n 0, 1, 0, 0, 0), (3019, .iload 4, 2, 0, 0, 0), (3021, .iconst 1, 1, 0, 0, 0), (3022, .iadd, 1, 0, 0, 0), (3023, .iaload, 1, 0, 0, 0), (3024, .invokevirtual 325, 3, 162, 0, 583), (3027, .aload_n 2, 1, 0, 0, 0), (3028, .aload_n 0, 1, 0, 0, 0), (3029, .iload 4, 2, 0, 0, 0), (3031, .iconst 1, 1, 0, 0, 0), (3032, .iadd, 1, 0, 0, 0), (3033, .iaload, 1, 0, 0, 0), (3034, .invokevirtual 328, 3, 282, 0, 2134), (3037, .if_icmp .eq 255, 3, 0, 3292, 0)],
  [(3040, .iconst 0, 1, 0, 0, 0), (3041, .ireturn, 1, 0, 0, 0), (3042, .aload_n 1, 1, 0, 0, 0), (3043, .aload_n 0, 1, 0, 0, 0), (3044, .iload 4, 2, 0, 0, 0), (3046, .iconst 1, 1, 0, 0, 0), (3047, .iadd, 1, 0, 0, 0), (3048, .iaload, 1, 0, 0, 0), (3049, .aload_n 3, 1, 0, 0, 0), (3050, .invokestatic 329, 3, 373, 1, 1553), (3053, .istore 5, 2, 0, 0, 0), (3055, .aload_n 2, 1, 0, 0, 0), (3056, .aload_n 0, 1, 0, 0, 0), (3057, .iload 4, 2, 0, 0, 0), (3059, .iconst 1, 1, 0, 0, 0), (3060, .iadd, 1, 0, 0, 0), (3061, .iaload, 1, 0, 0, 0), (3062, .invokevirtual 331, 3, 283, 0, 2138), (3065, .istore 6, 2, 0, 0, 0), (3067, .aload_n 2, 1, 0, 0, 0), (3068, .invokevirtual 168, 3, 196, 0, 1792), (3071, .iload 5, 2, 0, 0, 0)],
  [(3073, .if_icmp .eq 5, 3, 0, 3078, 0), (3076, .iconst 0, 1, 0, 0, 0), (3077, .ireturn, 1, 0, 0, 0), (3078, .iload 5, 2, 0, 0, 0), (3080, .ifCond .ne 15, 3, 0, 3095, 0), (3083, .aload_n 3, 1, 0, 0, 0), (3084, .iconst 0, 1, 0, 0, 0), (3085, .laload, 1, 0, 0, 0), (3086, .iload 6, 2, 0, 0, 0), (3088, .i2l, 1, 0, 0, 0), (3089, .lcmp, 1, 0, 0, 0), (3090, .ifCond .eq 5, 3, 0, 3095, 0), (3093, .iconst 0, 1, 0, 0, 0), (3094, .ireturn, 1, 0, 0, 0), (3095, .goto 197, 3, 0, 3292, 0), (3098, .aload_n 1, 1, 0, 0, 0), (3099, .invokevirtual 332, 3, 164, 0, 595), (3102, .aload_n 2, 1, 0, 0, 0), (3103, .invokevirtual 335, 3, 279, 0, 2122)],
  [(3106, .if_icmp .eq 186, 3, 0, 3292, 0), (3109, .iconst 0, 1, 0, 0, 0), (3110, .ireturn, 1, 0, 0, 0), (3111, .aload_n 1, 1, 0, 0, 0), (3112, .invokevirtual 336, 3, 165, 0, 605), (3115, .aload_n 2, 1, 0, 0, 0), (3116, .invokevirtual 339, 3, 280, 0, 2126), (3119, .if_icmp .eq 173, 3, 0, 3292, 0), (3122, .iconst 0, 1, 0, 0, 0), (3123, .ireturn, 1, 0, 0, 0), (3124, .aload_n 1, 1, 0, 0, 0), (3125, .aload_n 0, 1, 0, 0, 0), (3126, .iload 4, 2, 0, 0, 0), (3128, .iconst 1, 1, 0, 0, 0), (3129, .iadd, 1, 0, 0, 0), (3130, .iaload, 1, 0, 0, 0), (3131, .aload_n 0, 1, 0, 0, 0), (3132, .iload 4, 2, 0, 0, 0), (3134, .iconst 2, 1, 0, 0, 0), (3135, .iadd, 1, 0, 0, 0)],
  [(3136, .iaload, 1, 0, 0, 0), (3137, .aload_n 0, 1, 0, 0, 0), (3138, .iload 4, 2, 0, 0, 0), (3140, .iconst 3, 1, 0, 0, 0), (3141, .iadd, 1, 0, 0, 0), (3142, .iaload, 1, 0, 0, 0), (3143, .aload_n 0, 1, 0, 0, 0), (3144, .iload 4, 2, 0, 0, 0), (3146, .iconst 4, 1, 0, 0, 0), (3147, .iadd, 1, 0, 0, 0), (3148, .iaload, 1, 0, 0, 0), (3149, .aload_n 3, 1, 0, 0, 0), (3150, .invokestatic 340, 3, 374, 1, 1560), (3153, .istore 5, 2, 0, 0, 0), (3155, .aload_n 2, 1, 0, 0, 0), (3156, .aload_n 0, 1, 0, 0, 0), (3157, .iload 4, 2, 0, 0, 0), (3159, .iconst 1, 1, 0, 0, 0), (3160, .iadd, 1, 0, 0, 0), (3161, .iaload, 1, 0, 0, 0), (3162, .aload_n 0, 1, 0, 0, 0), (3163, .iload 4, 2, 0, 0, 0), (3165, .iconst 2, 1, 0, 0, 0), (3166, .iadd, 1, 0, 0, 0), (3167, .iaload, 1, 0, 0, 0)],
  [(3168, .aload_n 0, 1, 0, 0, 0), (3169, .iload 4, 2, 0, 0, 0), (3171, .iconst 3, 1, 0, 0, 0), (3172, .iadd, 1, 0, 0, 0), (3173, .iaload, 1, 0, 0, 0), (3174, .aload_n 0, 1, 0, 0, 0), (3175, .iload 4, 2, 0, 0, 0), (3177, .iconst 4, 1, 0, 0, 0), (3178, .iadd, 1, 0, 0, 0), (3179, .iaload, 1, 0, 0, 0), (3180, .invokevirtual 343, 3, 321, 0, 2311), (3183, .istore 6, 2, 0, 0, 0), (3185, .aload_n 2, 1, 0, 0, 0), (3186, .invokevirtual 168, 3, 196, 0, 1792), (3189, .iload 5, 2, 0, 0, 0), (3191, .if_icmp .eq 5, 3, 0, 3196, 0), (3194, .iconst 0, 1, 0, 0, 0), (3195, .ireturn, 1, 0, 0, 0), (3196, .iload 5, 2, 0, 0, 0), (3198, .ifCond .ne 15, 3, 0, 3213, 0)],
  [(3201, .aload_n 3, 1, 0, 0, 0), (3202, .iconst 0, 1, 0, 0, 0), (3203, .laload, 1, 0, 0, 0), (3204, .iload 6, 2, 0, 0, 0), (3206, .i2l, 1, 0, 0, 0), (3207, .lcmp, 1, 0, 0, 0), (3208, .ifCond .eq 5, 3, 0, 3213, 0), (3211, .iconst 0, 1, 0, 0, 0), (3212, .ireturn, 1, 0, 0, 0), (3213, .goto 79, 3, 0, 3292, 0), (3216, .aload_n 1, 1, 0, 0, 0), (3217, .invokevirtual 344, 3, 167, 0, 614), (3220, .aload_n 2, 1, 0, 0, 0), (3221, .invokevirtual 347, 3, 324, 0, 2315), (3224, .if_icmp .eq 68, 3, 0, 3292, 0), (3227, .iconst 0, 1, 0, 0, 0), (3228, .ireturn, 1, 0, 0, 0), (3229, .aload_n 1, 1, 0, 0, 0), (3230, .invokevirtual 348, 3, 168, 0, 622)],
  [(3233, .aload_n 2, 1, 0, 0, 0), (3234, .invokevirtual 351, 3, 325, 0, 2327), (3237, .if_icmp .eq 55, 3, 0, 3292, 0), (3240, .iconst 0, 1, 0, 0, 0), (3241, .ireturn, 1, 0, 0, 0), (3242, .aload_n 1, 1, 0, 0, 0), (3243, .aload_n 0, 1, 0, 0, 0), (3244, .iload 4, 2, 0, 0, 0), (3246, .iconst 1, 1, 0, 0, 0), (3247, .iadd, 1, 0, 0, 0), (3248, .iaload, 1, 0, 0, 0), (3249, .invokevirtual 352, 3, 169, 0, 626), (3252, .aload_n 2, 1, 0, 0, 0), (3253, .aload_n 0, 1, 0, 0, 0), (3254, .iload 4, 2, 0, 0, 0), (3256, .iconst 1, 1, 0, 0, 0), (3257, .iadd, 1, 0, 0, 0), (3258, .iaload, 1, 0, 0, 0), (3259, .invokevirtual 355, 3, 326, 0, 2331), (3262, .if_icmp .eq 30, 3, 0, 3292, 0)],
  [(3265, .iconst 0, 1, 0, 0, 0), (3266, .ireturn, 1, 0, 0, 0), (3267, .aload_n 1, 1, 0, 0, 0), (3268, .aload_n 0, 1, 0, 0, 0), (3269, .iload 4, 2, 0, 0, 0), (3271, .iconst 1, 1, 0, 0, 0), (3272, .iadd, 1, 0, 0, 0), (3273, .iaload, 1, 0, 0, 0), (3274, .invokevirtual 356, 3, 170, 0, 630), (3277, .aload_n 2, 1, 0, 0, 0), (3278, .aload_n 0, 1, 0, 0, 0), (3279, .iload 4, 2, 0, 0, 0), (3281, .iconst 1, 1, 0, 0, 0), (3282, .iadd, 1, 0, 0, 0), (3283, .iaload, 1, 0, 0, 0), (3284, .invokevirtual 359, 3, 327, 0, 2335), (3287, .if_icmp .eq 5, 3, 0, 3292, 0), (3290, .iconst 0, 1, 0, 0, 0), (3291, .ireturn, 1, 0, 0, 0), (3292, .iinc 4 6, 3, 0, 0, 0), (3295, .goto (-3272), 3, 0, 23, 0)],
  [(3298, .iconst 1, 1, 0, 0, 0), (3299, .ireturn, 1, 0, 0, 0)]]
noncomputable def mjTabs : List (List (List (List (Nat × mjX)))) := [[mjT0, mjT1, mjT2, mjT3, mjT4, mjT5, mjT6, mjT7, mjT8, mjT9, mjT10, mjT11, mjT12, mjT13, mjT14, mjT15],
  [mjT16, mjT17, mjT18, mjT19, mjT20, mjT21, mjT22, mjT23, mjT24, mjT25, mjT26, mjT27, mjT28, mjT29, mjT30, mjT31],
  [mjT32, mjT33, mjT34, mjT35, mjT36, mjT37, mjT38, mjT39, mjT40, mjT41, mjT42, mjT43, mjT44, mjT45, mjT46, mjT47],
  [mjT48, mjT49, mjT50, mjT51, mjT52, mjT53, mjT54, mjT55, mjT56, mjT57, mjT58, mjT59, mjT60, mjT61, mjT62, mjT63],
  [mjT64, mjT65, mjT66, mjT67, mjT68, mjT69, mjT70, mjT71, mjT72, mjT73, mjT74, mjT75, mjT76, mjT77, mjT78, mjT79],
  [mjT80, mjT81, mjT82, mjT83, mjT84, mjT85, mjT86, mjT87, mjT88, mjT89, mjT90, mjT91, mjT92, mjT93, mjT94, mjT95],
  [mjT96, mjT97, mjT98, mjT99, mjT100, mjT101, mjT102, mjT103, mjT104, mjT105, mjT106, mjT107, mjT108, mjT109, mjT110, mjT111],
  [mjT112, mjT113, mjT114, mjT115, mjT116, mjT117, mjT118, mjT119, mjT120, mjT121, mjT122, mjT123, mjT124, mjT125, mjT126, mjT127],
  [mjT128, mjT129, mjT130, mjT131, mjT132, mjT133, mjT134, mjT135, mjT136, mjT137, mjT138, mjT139, mjT140, mjT141, mjT142, mjT143],
  [mjT144, mjT145, mjT146, mjT147, mjT148, mjT149, mjT150, mjT151, mjT152, mjT153, mjT154, mjT155, mjT156, mjT157, mjT158, mjT159],
  [mjT160, mjT161, mjT162, mjT163, mjT164, mjT165, mjT166, mjT167, mjT168, mjT169, mjT170, mjT171, mjT172, mjT173, mjT174, mjT175],
  [mjT176, mjT177, mjT178, mjT179, mjT180, mjT181, mjT182, mjT183, mjT184, mjT185, mjT186, mjT187, mjT188, mjT189, mjT190, mjT191],
  [mjT192, mjT193, mjT194, mjT195, mjT196, mjT197, mjT198, mjT199, mjT200, mjT201, mjT202, mjT203, mjT204, mjT205, mjT206, mjT207],
  [mjT208, mjT209, mjT210, mjT211, mjT212, mjT213, mjT214, mjT215, mjT216, mjT217, mjT218, mjT219, mjT220, mjT221, mjT222, mjT223],
  [mjT224, mjT225, mjT226, mjT227, mjT228, mjT229, mjT230, mjT231, mjT232, mjT233, mjT234, mjT235, mjT236, mjT237, mjT238, mjT239],
  [mjT240, mjT241, mjT242, mjT243, mjT244, mjT245, mjT246, mjT247, mjT248, mjT249, mjT250, mjT251, mjT252, mjT253, mjT254, mjT255],
  [mjT256, mjT257, mjT258, mjT259, mjT260, mjT261, mjT262, mjT263, mjT264, mjT265, mjT266, mjT267, mjT268, mjT269, mjT270, mjT271],
  [mjT272, mjT273, mjT274, mjT275, mjT276, mjT277, mjT278, mjT279, mjT280, mjT281, mjT282, mjT283, mjT284, mjT285, mjT286, mjT287],
  [mjT288, mjT289, mjT290, mjT291, mjT292, mjT293, mjT294, mjT295, mjT296, mjT297, mjT298, mjT299, mjT300, mjT301, mjT302, mjT303],
  [mjT304, mjT305, mjT306, mjT307, mjT308, mjT309, mjT310, mjT311, mjT312, mjT313, mjT314, mjT315, mjT316, mjT317, mjT318, mjT319],
  [mjT320, mjT321, mjT322, mjT323, mjT324, mjT325, mjT326, mjT327, mjT328, mjT329, mjT330, mjT331, mjT332, mjT333, mjT334, mjT335],
  [mjT336, mjT337, mjT338, mjT339, mjT340, mjT341, mjT342, mjT343, mjT344, mjT345, mjT346, mjT347, mjT348, mjT349, mjT350, mjT351],
  [mjT352, mjT353, mjT354, mjT355, mjT356, mjT357, mjT358, mjT359, mjT360, mjT361, mjT362, mjT363, mjT364, mjT365, mjT366, mjT367],
  [mjT368, mjT369, mjT370, mjT371, mjT372, mjT373, mjT374, mjT375]]
noncomputable def mjMs : List (List (MethodName × ByteArray × Nat × Option FieldType × String × List (Nat × Nat × Nat × Nat) × Nat × Bool)) := [[(yX0_init, cX0_init, 3, none, RX0, [], 2, false), (yX0_begin, cX0_begin, 5, none, RX0, [], 4, false), (yX0_play, cX0_play, 6, none, RX0, [], 3, false), (yX0_goBack, cX0_goBack, 5, none, RX0, [], 2, false), (yX0_seat, cX0_seat, 2, none, RX0, [], 1, false), (yX0_bury, cX0_bury, 5, none, RX0, [], 1, false), (yX0_lives, cX0_lives, 4, (some .boolean), RX0, [], 2, false), (yX0_stands, cX0_stands, 10, (some .boolean), RX0, [], 2, false), (yX0_fall, cX0_fall, 4, none, RX0, [], 3, false), (yX0_whoFalls, cX0_whoFalls, 6, (some .int), RX0, [], 3, false), (yX0_weeksOf, cX0_weeksOf, 2, (some .int), RX0, [], 1, false), (yX0_hurtsOf, cX0_hurtsOf, 2, (some .int), RX0, [], 1, false), (yX0_hurtsInAll, cX0_hurtsInAll, 3, (some .int), RX0, [], 0, false), (yX0_gone, cX0_gone, 4, (some .int), RX0, [], 1, false), (yX0_seatedBehind, cX0_seatedBehind, 4, (some .int), RX0, [], 1, false), (yX1_init, cX1_init, 1, none, RX1, [], 0, false)],
  [(yX1_clear, cX1_clear, 2, none, RX1, [], 0, false), (yX1_tellAtoms, cX1_tellAtoms, 2, none, RX1, [], 1, false), (yX1_settle, cX1_settle, 5, none, RX1, [], 0, false), (yX1_leftBy, cX1_leftBy, 5, (some .long), RX1, [], 1, false), (yX1_deadIn, cX1_deadIn, 4, (some .int), RX1, [], 1, false), (yX1_foesIn, cX1_foesIn, 5, (some .int), RX1, [], 2, false), (yX1_deathWeek, cX1_deathWeek, 3, (some .int), RX1, [], 1, false), (yX1_foesOf, cX1_foesOf, 4, (some .int), RX1, [], 2, false), (yX1_atomModels, cX1_atomModels, 1, (some .long), RX1, [], 1, true), (yX1_soIn, cX1_soIn, 3, (some .boolean), RX1, [], 2, false), (yX1_slipsSoIn, cX1_slipsSoIn, 4, (some .int), RX1, [], 1, false), (yX1_apart, cX1_apart, 4, (some .boolean), RX1, [], 3, false), (yX1_common, cX1_common, 6, (some .long), RX1, [], 2, false), (yX1_worstLeft, cX1_worstLeft, 5, (some .int), RX1, [], 2, false), (yX1_leftIf, cX1_leftIf, 9, (some .long), RX1, [], 3, false), (yX2_read, cX2_read, 3, none, RX2, [], 2, true)],
  [(yX2_readClause, cX2_readClause, 4, none, RX2, [], 4, true), (yX2_begins, cX2_begins, 2, (some .boolean), RX2, [], 2, true), (yX2_readAtoms, cX2_readAtoms, 4, none, RX2, [], 4, true), (yX2_readWorld, cX2_readWorld, 3, none, RX2, [], 3, true), (yX2_readLaw, cX2_readLaw, 3, none, RX2, [], 3, true), (yX2_readSlip, cX2_readSlip, 3, none, RX2, [], 3, true), (yX2_readSalt, cX2_readSalt, 3, none, RX2, [], 3, true), (yX2_readSeeing, cX2_readSeeing, 3, none, RX2, [], 3, true), (yX3_readAlone, cX3_readAlone, 4, (some .long), RX3, [], 2, true), (yX3_readEither, cX3_readEither, 5, (some .long), RX3, [], 2, true), (yX3_readEach, cX3_readEach, 5, (some .long), RX3, [], 2, true), (yX3_readPart, cX3_readPart, 2, (some .long), RX3, [], 2, true), (yX3_readNot, cX3_readNot, 4, (some .long), RX3, [], 2, true), (yX3_readIf, cX3_readIf, 4, (some .long), RX3, [], 2, true), (yX3_readBrackets, cX3_readBrackets, 4, (some .long), RX3, [], 2, true), (yX3_readAtom, cX3_readAtom, 3, (some .long), RX3, [], 2, true)],
  [(yX4_init, cX4_init, 1, none, RX4, [], 0, false), (yX4_begin, cX4_begin, 3, none, RX4, [], 1, false), (yX4_copyFrom, cX4_copyFrom, 3, none, RX4, [], 1, false), (yX5_init, cX5_init, 1, none, RX5, [], 0, false), (yX5_lengthOf, cX5_lengthOf, 4, (some .int), RX5, [], 2, false), (yX5_build, cX5_build, 5, none, RX5, [], 1, false), (yX5_find, cX5_find, 4, none, RX5, [], 2, false), (yX5_negate, cX5_negate, 4, none, RX5, [], 2, false), (yX5_join, cX5_join, 6, none, RX5, [], 3, false), (yX6_init, cX6_init, 1, none, RX6, [], 0, false), (yX6_fill, cX6_fill, 6, none, RX6, [], 2, false), (yX6_fitting, cX6_fitting, 3, (some .int), RX6, [], 0, false), (yX6_greatest, cX6_greatest, 4, (some .int), RX6, [], 0, false), (yX6_core, cX6_core, 4, (some .int), RX6, [], 0, false), (yX6_proving, cX6_proving, 7, (some .int), RX6, [], 1, false), (yX6_wholes, cX6_wholes, 3, (some .int), RX6, [], 0, false)],
  [(yX6_wholeAt, cX6_wholeAt, 4, (some .int), RX6, [], 1, false), (yX6_isWhole, cX6_isWhole, 4, (some .boolean), RX6, [], 1, false), (yX6_peaceful, cX6_peaceful, 6, (some .int), RX6, [], 2, false), (yX6_allFriends, cX6_allFriends, 4, (some .boolean), RX6, [], 2, false), (yX7_init, cX7_init, 2, none, RX7, [], 1, false), (yX7_take, cX7_take, 8, none, RX7, [], 4, false), (yX7_note, cX7_note, 4, none, RX7, [], 3, false), (yX7_digits, cX7_digits, 5, (some .long), RX7, [], 1, false), (yX7_advance, cX7_advance, 6, (some .int), RX7, [], 1, false), (yX7_change, cX7_change, 4, none, RX7, [], 2, false), (yX7_unlike, cX7_unlike, 3, (some .int), RX7, [], 0, false), (yX7_always, cX7_always, 4, (some .int), RX7, [], 1, false), (yX7_never, cX7_never, 4, (some .int), RX7, [], 1, false), (yX7_heldInAll, cX7_heldInAll, 4, (some .int), RX7, [], 1, false), (yX7_bestEnd, cX7_bestEnd, 6, (some .int), RX7, [], 1, false), (yX7_firstTo, cX7_firstTo, 2, (some .long), RX7, [], 1, false)],
  [(yX8_init, cX8_init, 1, none, RX8, [], 0, false), (yX8_put, cX8_put, 3, none, RX8, [], 1, false), (yX8_begin, cX8_begin, 2, none, RX8, [], 1, false), (yX8_step, cX8_step, 2, none, RX8, [], 0, false), (yX8_goesOn, cX8_goesOn, 1, (some .boolean), RX8, [], 0, false), (yX8_isWord, cX8_isWord, 3, (some .boolean), RX8, [], 1, false), (yX8_isSign, cX8_isSign, 2, (some .boolean), RX8, [], 1, false), (yX8_isNumber, cX8_isNumber, 1, (some .boolean), RX8, [], 0, false), (yX8_letter, cX8_letter, 1, (some .int), RX8, [], 0, false), (yX8_fail, cX8_fail, 2, none, RX8, [], 1, false), (yX8_takeSign, cX8_takeSign, 2, none, RX8, [], 1, false), (yX8_takeWord, cX8_takeWord, 2, none, RX8, [], 1, false), (yX8_takeNumber, cX8_takeNumber, 4, (some .int), RX8, [], 2, false), (yX8_opens, cX8_opens, 1, (some .boolean), RX8, [], 0, false), (yX8_shuts, cX8_shuts, 1, none, RX8, [], 0, false), (yX9_init, cX9_init, 1, none, RX9, [], 0, false)],
  [(yX9_clear, cX9_clear, 1, none, RX9, [], 0, false), (yX9_add, cX9_add, 2, none, RX9, [], 1, false), (yX9_tell, cX9_tell, 8, none, RX9, [], 7, false), (yX9_whoFalls, cX9_whoFalls, 4, (some .int), RX9, [], 0, false), (yX9_valueOf, cX9_valueOf, 3, (some .int), RX9, [], 1, false), (yX9_reckon, cX9_reckon, 3, (some .int), RX9, [], 3, true), (yX10_read, cX10_read, 4, none, RX10, [], 2, true), (yX10_whoHere, cX10_whoHere, 1, (some .int), RX10, [], 1, true), (yX10_readEither, cX10_readEither, 3, none, RX10, [], 2, true), (yX10_readEach, cX10_readEach, 3, none, RX10, [], 2, true), (yX10_readPart, cX10_readPart, 2, none, RX10, [], 2, true), (yX10_readRelation, cX10_readRelation, 3, none, RX10, [], 2, true), (yX10_readSum, cX10_readSum, 4, none, RX10, [], 2, true), (yX10_readProduct, cX10_readProduct, 3, none, RX10, [], 2, true), (yX10_readValue, cX10_readValue, 3, none, RX10, [], 2, true), (yX10_quantityHere, cX10_quantityHere, 1, (some .int), RX10, [], 1, true)],
  [(yX11_init, cX11_init, 2, none, RX11, [], 0, false), (yX11_feed, cX11_feed, 6, (some .int), RX11, [], 5, false), (yX11_jar, cX11_jar, 3, (some .int), RX11, [], 1, false), (yX11_question, cX11_question, 4, (some .int), RX11, [], 1, false), (yX11_tongue, cX11_tongue, 3, (some .int), RX11, [], 1, false), (yX11_fault, cX11_fault, 1, (some .int), RX11, [], 0, false), (yX11_told, cX11_told, 2, (some .int), RX11, [], 1, false), (yX11_models, cX11_models, 2, (some .long), RX11, [], 1, false), (yX11_seen, cX11_seen, 2, (some .long), RX11, [], 1, false), (yX11_left, cX11_left, 2, (some .long), RX11, [], 1, false), (yX11_kin, cX11_kin, 7, (some .int), RX11, [], 2, false), (yX11_fallOut, cX11_fallOut, 4, (some .boolean), RX11, [], 3, false), (yX11_truths, cX11_truths, 1, (some .int), RX11, [], 0, false), (yX11_dull, cX11_dull, 3, (some .int), RX11, [], 0, false), (yX11_order, cX11_order, 6, (some .int), RX11, [], 1, false), (yX11_at, cX11_at, 2, (some .int), RX11, [], 1, false)],
  [(yX11_law, cX11_law, 3, (some .int), RX11, [], 1, false), (yX11_world, cX11_world, 3, (some .int), RX11, [], 1, false), (yX11_held, cX11_held, 2, (some .int), RX11, [], 1, false), (yX11_fate, cX11_fate, 3, (some .int), RX11, [], 2, false), (yX11_year, cX11_year, 2, (some .int), RX11, [], 1, false), (yX11_touchy, cX11_touchy, 4, (some .int), RX11, [], 0, false), (yX11_ends, cX11_ends, 3, (some .int), RX11, [], 1, false), (yX11_orders, cX11_orders, 3, (some .int), RX11, [], 1, false), (yX11_best, cX11_best, 4, (some .int), RX11, [], 0, false), (yX11_fits, cX11_fits, 3, (some .boolean), RX11, [], 2, false), (yX11_sets, cX11_sets, 3, (some .int), RX11, [], 2, false), (yX11_whole, cX11_whole, 3, (some .int), RX11, [], 2, false), (yX11_proof, cX11_proof, 2, (some .int), RX11, [], 1, false), (yX11_split, cX11_split, 7, (some .int), RX11, [], 2, false), (yX11_likely, cX11_likely, 6, (some .int), RX11, [], 1, false), (yX11_salted, cX11_salted, 6, (some .int), RX11, [], 1, false)],
  [(yX11_salty, cX11_salty, 2, (some .int), RX11, [], 1, false), (yX11_compared, cX11_compared, 3, (some .int), RX11, [], 1, false), (yX11_drawn, cX11_drawn, 7, (some .int), RX11, [], 3, false), (yX11_draw, cX11_draw, 3, (some .int), RX11, [], 2, false), (yX11_century, cX11_century, 6, (some .int), RX11, [], 3, false), (yX11_school, cX11_school, 3, (some .int), RX11, [], 2, false), (yX11_right, cX11_right, 3, (some .int), RX11, [], 1, false), (yX11_war, cX11_war, 6, (some .int), RX11, [], 1, false), (yX11_killer, cX11_killer, 5, (some .int), RX11, [], 1, false), (yX11_together, cX11_together, 3, (some .long), RX11, [], 2, false), (yX11_following, cX11_following, 7, (some .int), RX11, [], 2, false), (yX11_eldest, cX11_eldest, 5, (some .int), RX11, [], 1, false), (yX11_quarrels, cX11_quarrels, 5, (some .int), RX11, [], 1, false), (yX11_peace, cX11_peace, 2, (some .int), RX11, [], 1, false), (yX11_worst, cX11_worst, 3, (some .long), RX11, [], 1, false), (yX11_known, cX11_known, 7, (some .int), RX11, [], 2, false)],
  [(yX11_plain, cX11_plain, 2, (some .int), RX11, [], 1, false), (yX11_asks, cX11_asks, 6, (some .int), RX11, [], 1, false), (yX11_grave, cX11_grave, 3, (some .int), RX11, [], 1, false), (yX11_canon, cX11_canon, 5, (some .int), RX11, [], 1, false), (yX11_swap, cX11_swap, 7, (some .int), RX11, [], 0, false), (yX11_humble, cX11_humble, 5, (some .int), RX11, [], 0, false), (yX11_judge, cX11_judge, 5, (some .int), RX11, [], 4, false), (yX11_image, cX11_image, 1, (some .int), RX11, [], 0, false), (yX11_restore, cX11_restore, 1, (some .int), RX11, [], 0, false), (yX11_status, cX11_status, 2, (some .int), RX11, [], 1, false), (yX11_count, cX11_count, 2, (some .int), RX11, [], 1, false), (yX11_refusePiece, cX11_refusePiece, 1, none, RX11, [], 0, false), (yX11_refuseArgument, cX11_refuseArgument, 1, none, RX11, [], 0, false), (yX11_refuseState, cX11_refuseState, 1, none, RX11, [], 0, false), (yX11_needSlip, cX11_needSlip, 2, none, RX11, [], 1, false), (yX11_needBelow, cX11_needBelow, 3, none, RX11, [], 2, false)],
  [(yX11_needWeek, cX11_needWeek, 2, none, RX11, [], 1, false), (yX11_needBits, cX11_needBits, 3, none, RX11, [], 2, false), (yX11_needSeeds, cX11_needSeeds, 2, none, RX11, [], 1, false), (yX11_needBytes, cX11_needBytes, 3, none, RX11, [], 2, false), (yX11_needFewSlips, cX11_needFewSlips, 1, none, RX11, [], 0, false), (yX11_digit, cX11_digit, 4, (some .int), RX11, [], 2, false), (yX11_takeOrder, cX11_takeOrder, 4, none, RX11, [], 1, false), (yX11_copyOrder, cX11_copyOrder, 3, none, RX11, [], 1, false), (yX11_change, cX11_change, 4, none, RX11, [], 2, false), (yX11_drawRow, cX11_drawRow, 4, none, RX11, [], 1, false), (yX11_runYear, cX11_runYear, 1, none, RX11, [], 0, false), (yX11_endOfRow, cX11_endOfRow, 3, (some .int), RX11, [], 2, false), (yX11_laySalts, cX11_laySalts, 4, (some .int), RX11, [], 1, false), (yX11_runSchool, cX11_runSchool, 4, none, RX11, [], 2, false), (yX11_surveyOf, cX11_surveyOf, 2, (some (.object "LotBeliefs$Survey")), RX11, [], 1, false), (yX11_forgetSurveys, cX11_forgetSurveys, 2, none, RX11, [], 0, false)],
  [(yX11_gravesAhead, cX11_gravesAhead, 6, (some .int), RX11, [], 1, false), (yX11_allStayWithout, cX11_allStayWithout, 6, (some .boolean), RX11, [], 1, false), (yX12_init, cX12_init, 1, none, RX12, [], 0, false), (yX12_tellsNothing, cX12_tellsNothing, 2, none, RX12, [], 0, false), (yX12_thrown, cX12_thrown, 1, (some .int), RX12, [], 0, false), (yX12_bad, cX12_bad, 4, (some .boolean), RX12, [], 3, false), (yX12_in, cX12_in, 3, (some .boolean), RX12, [], 3, true), (yX12_feed, cX12_feed, 8, (some .int), RX12, [], 5, false), (yX12_byteAt, cX12_byteAt, 2, (some .int), RX12, [], 1, false), (yX12_blanks, cX12_blanks, 1, none, RX12, [], 0, false), (yX12_wrong, cX12_wrong, 3, none, RX12, [], 2, false), (yX12_isDigit, cX12_isDigit, 1, (some .boolean), RX12, [], 1, true), (yX12_isSmall, cX12_isSmall, 1, (some .boolean), RX12, [], 1, true), (yX12_number, cX12_number, 5, (some .int), RX12, [], 2, false), (yX12_wordHere, cX12_wordHere, 3, (some .int), RX12, [], 0, false), (yX12_six, cX12_six, 7, (some .int), RX12, [], 6, true)],
  [(yX12_isWord, cX12_isWord, 7, (some .boolean), RX12, [], 6, false), (yX12_skipWord, cX12_skipWord, 1, none, RX12, [], 0, false), (yX12_takes, cX12_takes, 8, (some .boolean), RX12, [], 6, false), (yX12_sign, cX12_sign, 2, none, RX12, [], 1, false), (yX12_takesSign, cX12_takesSign, 3, (some .boolean), RX12, [], 1, false), (yX12_opens, cX12_opens, 1, (some .boolean), RX12, [], 0, false), (yX12_starts, cX12_starts, 2, none, RX12, [], 1, false), (yX12_allOf, cX12_allOf, 1, (some .long), RX12, [], 1, true), (yX12_atomOf, cX12_atomOf, 5, (some .long), RX12, [], 2, true), (yX12_anyOf, cX12_anyOf, 3, (some .long), RX12, [], 0, false), (yX12_eachOf, cX12_eachOf, 3, (some .long), RX12, [], 0, false), (yX12_oneOf, cX12_oneOf, 6, (some .long), RX12, [], 0, false), (yX12_kindHere, cX12_kindHere, 1, (some .int), RX12, [], 0, false), (yX12_isFull, cX12_isFull, 2, (some .boolean), RX12, [], 1, false), (yX12_clause, cX12_clause, 2, none, RX12, [], 0, false), (yX12_jar, cX12_jar, 2, (some .int), RX12, [], 1, false)],
  [(yX12_stands, cX12_stands, 3, none, RX12, [], 0, false), (yX12_ones, cX12_ones, 4, (some .int), RX12, [], 1, true), (yX12_question, cX12_question, 4, (some .int), RX12, [], 1, false), (yX12_says, cX12_says, 3, none, RX12, [], 2, false), (yX12_tongueAny, cX12_tongueAny, 1, none, RX12, [], 0, false), (yX12_tongueEach, cX12_tongueEach, 1, none, RX12, [], 0, false), (yX12_tongueOne, cX12_tongueOne, 2, none, RX12, [], 0, false), (yX12_sum, cX12_sum, 2, none, RX12, [], 0, false), (yX12_product, cX12_product, 1, none, RX12, [], 0, false), (yX12_knownHere, cX12_knownHere, 1, (some .int), RX12, [], 0, false), (yX12_oneValue, cX12_oneValue, 2, none, RX12, [], 0, false), (yX12_whoHere, cX12_whoHere, 2, none, RX12, [], 0, false), (yX12_tongue, cX12_tongue, 4, (some .int), RX12, [], 1, false), (yX12_valueOf, cX12_valueOf, 2, (some .int), RX12, [], 1, false), (yX12_by, cX12_by, 3, (some .int), RX12, [], 3, true), (yX12_isSo, cX12_isSo, 6, (some .boolean), RX12, [], 2, false)],
  [(yX12_byTongue, cX12_byTongue, 8, (some .int), RX12, [], 6, false), (yX12_fault, cX12_fault, 1, (some .int), RX12, [], 0, false), (yX12_told, cX12_told, 2, (some .int), RX12, [], 1, false), (yX12_isSlip, cX12_isSlip, 2, (some .boolean), RX12, [], 1, false), (yX12_isWeek, cX12_isWeek, 1, (some .boolean), RX12, [], 1, true), (yX12_areSlips, cX12_areSlips, 2, (some .boolean), RX12, [], 1, false), (yX12_models, cX12_models, 2, (some .long), RX12, [], 1, false), (yX12_seen, cX12_seen, 2, (some .long), RX12, [], 1, false), (yX12_left, cX12_left, 2, (some .long), RX12, [], 1, false), (yX12_kin, cX12_kin, 5, (some .int), RX12, [], 2, false), (yX12_falls, cX12_falls, 4, (some .boolean), RX12, [], 3, false), (yX12_fallOut, cX12_fallOut, 4, (some .boolean), RX12, [], 3, false), (yX12_isTrue, cX12_isTrue, 2, (some .boolean), RX12, [], 1, false), (yX12_truthsNow, cX12_truthsNow, 3, (some .int), RX12, [], 0, false), (yX12_truths, cX12_truths, 1, (some .int), RX12, [], 0, false), (yX12_dull, cX12_dull, 3, (some .int), RX12, [], 0, false)],
  [(yX12_order, cX12_order, 7, (some .int), RX12, [], 1, false), (yX12_at, cX12_at, 2, (some .int), RX12, [], 1, false), (yX12_law, cX12_law, 3, (some .int), RX12, [], 1, false), (yX12_world, cX12_world, 3, (some .int), RX12, [], 1, false), (yX12_begins, cX12_begins, 3, none, RX12, [], 1, false), (yX12_isDead, cX12_isDead, 3, (some .boolean), RX12, [], 2, false), (yX12_leaves, cX12_leaves, 3, none, RX12, [], 1, false), (yX12_kills, cX12_kills, 4, none, RX12, [], 1, false), (yX12_whoFalls, cX12_whoFalls, 4, (some .int), RX12, [], 3, false), (yX12_drops, cX12_drops, 4, none, RX12, [], 3, false), (yX12_draws, cX12_draws, 6, none, RX12, [], 2, false), (yX12_ages, cX12_ages, 3, none, RX12, [], 0, false), (yX12_heldNow, cX12_heldNow, 3, (some .int), RX12, [], 0, false), (yX12_goes, cX12_goes, 3, (some .int), RX12, [], 1, false), (yX12_rowAsOrder, cX12_rowAsOrder, 2, none, RX12, [], 0, false), (yX12_goesNow, cX12_goesNow, 1, (some .int), RX12, [], 0, false)],
  [(yX12_held, cX12_held, 2, (some .int), RX12, [], 1, false), (yX12_eldest, cX12_eldest, 2, (some .int), RX12, [], 1, false), (yX12_fate, cX12_fate, 3, (some .int), RX12, [], 2, false), (yX12_togetherIn, cX12_togetherIn, 6, (some .long), RX12, [], 2, false), (yX12_year, cX12_year, 3, (some .int), RX12, [], 1, false), (yX12_changes, cX12_changes, 4, none, RX12, [], 2, false), (yX12_touchy, cX12_touchy, 4, (some .int), RX12, [], 0, false), (yX12_swap, cX12_swap, 6, (some .int), RX12, [], 0, false), (yX12_humble, cX12_humble, 4, (some .int), RX12, [], 0, false), (yX12_killer, cX12_killer, 5, (some .int), RX12, [], 1, false), (yX12_grave, cX12_grave, 5, (some .int), RX12, [], 1, false), (yX12_canon, cX12_canon, 5, (some .int), RX12, [], 1, false), (yX12_permutes, cX12_permutes, 7, none, RX12, [], 3, false), (yX12_allOrders, cX12_allOrders, 3, none, RX12, [], 1, false), (yX12_ends, cX12_ends, 2, (some .int), RX12, [], 1, false), (yX12_orders, cX12_orders, 2, (some .int), RX12, [], 1, false)],
  [(yX12_best, cX12_best, 2, (some .int), RX12, [], 0, false), (yX12_compared, cX12_compared, 2, (some .int), RX12, [], 1, false), (yX12_worst, cX12_worst, 5, (some .long), RX12, [], 1, false), (yX12_rowBy, cX12_rowBy, 6, none, RX12, [], 1, false), (yX12_drawn, cX12_drawn, 6, (some .int), RX12, [], 3, false), (yX12_draw, cX12_draw, 3, (some .int), RX12, [], 2, false), (yX12_century, cX12_century, 6, (some .int), RX12, [], 3, false), (yX12_badSet, cX12_badSet, 3, (some .boolean), RX12, [], 2, false), (yX12_fits, cX12_fits, 3, (some .boolean), RX12, [], 2, false), (yX12_together, cX12_together, 3, (some .long), RX12, [], 2, false), (yX12_followingOf, cX12_followingOf, 5, (some .int), RX12, [], 1, false), (yX12_following, cX12_following, 3, (some .int), RX12, [], 2, false), (yX12_isWhole, cX12_isWhole, 4, (some .boolean), RX12, [], 2, false), (yX12_sets, cX12_sets, 9, (some .int), RX12, [], 2, false), (yX12_whole, cX12_whole, 5, (some .int), RX12, [], 2, false), (yX12_proof, cX12_proof, 6, (some .int), RX12, [], 1, false)],
  [(yX12_split, cX12_split, 9, (some .int), RX12, [], 2, false), (yX12_likely, cX12_likely, 7, (some .int), RX12, [], 1, false), (yX12_known, cX12_known, 5, (some .int), RX12, [], 2, false), (yX12_asks, cX12_asks, 9, (some .int), RX12, [], 1, false), (yX12_quarrels, cX12_quarrels, 5, (some .int), RX12, [], 1, false), (yX12_peace, cX12_peace, 7, (some .int), RX12, [], 1, false), (yX12_goesSalted, cX12_goesSalted, 3, (some .int), RX12, [], 1, false), (yX12_salted, cX12_salted, 4, (some .int), RX12, [], 1, false), (yX12_salty, cX12_salty, 2, (some .int), RX12, [], 1, false), (yX12_schools, cX12_schools, 3, none, RX12, [], 0, false), (yX12_isSchool, cX12_isSchool, 1, (some .boolean), RX12, [], 1, true), (yX12_school, cX12_school, 3, (some .int), RX12, [], 2, false), (yX12_right, cX12_right, 3, (some .int), RX12, [], 1, false), (yX12_war, cX12_war, 5, (some .int), RX12, [], 1, false), (yX12_laysPlain, cX12_laysPlain, 5, none, RX12, [], 0, false), (yX12_isLong, cX12_isLong, 3, none, RX12, [], 2, false)],
  [(yX12_plain, cX12_plain, 2, (some .int), RX12, [], 1, false), (yX12_judge, cX12_judge, 5, (some .int), RX12, [], 4, false), (yX12_moves, cX12_moves, 4, (some .int), RX12, [], 3, false), (yX12_movesAll, cX12_movesAll, 4, none, RX12, [], 2, false), (yX12_image, cX12_image, 1, (some .int), RX12, [], 0, false), (yX12_restore, cX12_restore, 1, (some .int), RX12, [], 0, false), (yX12_status, cX12_status, 2, (some .int), RX12, [], 1, false), (yX12_count, cX12_count, 2, (some .int), RX12, [], 1, false), (yJ6_bitCount_0f7a4, cJ6_bitCount_0f7a4, 1, (some .int), RJ6, [], 1, true), (yJ13_bitCount_95d88, cJ13_bitCount_95d88, 2, (some .int), RJ13, [], 1, true), (yJ9_max_7cf53, cJ9_max_7cf53, 2, (some .int), RJ9, [], 2, true), (yJ9_min_7cf53, cJ9_min_7cf53, 2, (some .int), RJ9, [], 2, true), (yL_jar, cL_jar, 4, (some .int), RL, [(0, 9, 12, 13)], 3, true), (yL_question, cL_question, 4, (some .int), RL, [(0, 9, 12, 13)], 3, true), (yL_tongue, cL_tongue, 4, (some .int), RL, [(0, 9, 12, 13)], 3, true), (yL_told, cL_told, 4, (some .int), RL, [(0, 9, 12, 13)], 3, true)],
  [(yL_models, cL_models, 4, (some .int), RL, [(0, 8, 11, 28)], 3, true), (yL_seen, cL_seen, 4, (some .int), RL, [(0, 8, 11, 28)], 3, true), (yL_left, cL_left, 4, (some .int), RL, [(0, 8, 11, 13)], 3, true), (yL_kin, cL_kin, 5, (some .int), RL, [(0, 10, 13, 28)], 4, true), (yL_fallOut, cL_fallOut, 6, (some .int), RL, [(0, 19, 22, 28), (0, 19, 26, 13)], 5, true), (yL_law, cL_law, 4, (some .int), RL, [(0, 9, 12, 13)], 3, true), (yL_world, cL_world, 4, (some .int), RL, [(0, 9, 12, 13)], 3, true), (yL_held, cL_held, 4, (some .int), RL, [(0, 9, 12, 13)], 3, true), (yL_fate, cL_fate, 5, (some .int), RL, [(0, 10, 13, 28), (0, 10, 17, 13)], 4, true), (yL_year, cL_year, 4, (some .int), RL, [(0, 9, 12, 13)], 3, true), (yL_ends, cL_ends, 4, (some .int), RL, [(0, 9, 12, 13), (0, 9, 15, 62)], 3, true), (yL_orders, cL_orders, 4, (some .int), RL, [(0, 9, 12, 28), (0, 9, 15, 62)], 3, true), (yL_best, cL_best, 3, (some .int), RL, [(0, 8, 11, 62)], 2, true), (yL_fits, cL_fits, 5, (some .int), RL, [(0, 17, 20, 13)], 4, true), (yL_sets, cL_sets, 5, (some .int), RL, [(0, 10, 13, 13)], 4, true), (yL_whole, cL_whole, 5, (some .int), RL, [(0, 10, 13, 13)], 4, true)],
  [(yL_proof, cL_proof, 4, (some .int), RL, [(0, 9, 12, 13)], 3, true), (yL_split, cL_split, 5, (some .int), RL, [(0, 10, 13, 13)], 4, true), (yL_likely, cL_likely, 4, (some .int), RL, [(0, 9, 12, 13)], 3, true), (yL_salted, cL_salted, 4, (some .int), RL, [(0, 9, 12, 13)], 3, true), (yL_salty, cL_salty, 4, (some .int), RL, [(0, 9, 12, 13)], 3, true), (yL_compared, cL_compared, 4, (some .int), RL, [(0, 9, 12, 13), (0, 9, 15, 62)], 3, true), (yL_drawn, cL_drawn, 6, (some .int), RL, [(0, 12, 15, 13)], 5, true), (yL_school, cL_school, 5, (some .int), RL, [(0, 10, 13, 13)], 4, true), (yL_right, cL_right, 4, (some .int), RL, [(0, 9, 12, 13)], 3, true), (yL_killer, cL_killer, 4, (some .int), RL, [(0, 9, 12, 28)], 3, true), (yL_together, cL_together, 5, (some .int), RL, [(0, 9, 12, 13)], 4, true), (yL_following, cL_following, 5, (some .int), RL, [(0, 10, 13, 13)], 4, true), (yL_eldest, cL_eldest, 4, (some .int), RL, [(0, 9, 12, 13)], 3, true), (yL_quarrels, cL_quarrels, 4, (some .int), RL, [(0, 9, 12, 13)], 3, true), (yL_peace, cL_peace, 4, (some .int), RL, [(0, 9, 12, 13)], 3, true), (yL_worst, cL_worst, 4, (some .int), RL, [(0, 8, 11, 13), (0, 8, 14, 62)], 3, true)],
  [(yL_century, cL_century, 6, (some .int), RL, [(0, 12, 15, 28), (0, 12, 19, 13)], 5, true), (yL_known, cL_known, 5, (some .int), RL, [(0, 10, 13, 13)], 4, true), (yL_plain, cL_plain, 4, (some .int), RL, [(0, 9, 12, 28), (0, 9, 15, 62)], 3, true), (yL_asks, cL_asks, 4, (some .int), RL, [(0, 9, 12, 13)], 3, true), (yL_war, cL_war, 4, (some .int), RL, [(0, 9, 12, 13)], 3, true), (yL_canon, cL_canon, 4, (some .int), RL, [(0, 9, 12, 13)], 3, true), (yL_judge, cL_judge, 7, (some .int), RL, [(0, 14, 17, 28), (0, 14, 21, 13)], 6, true), (yL_law_, cL_law_, 8, (some .boolean), RL, [], 1, true)]]
noncomputable def mjHs : List (List (List (Nat × Nat))) := [[[], [], [], [], [], [], [], [], [], [], [], [], [], [], [], []],
  [[], [], [], [], [], [], [], [], [], [], [], [], [], [], [], []],
  [[], [], [], [], [], [], [], [], [], [], [], [], [], [], [], []],
  [[], [], [], [], [], [], [], [], [], [], [], [], [], [], [], []],
  [[], [], [], [], [], [], [], [], [], [], [], [], [], [], [], []],
  [[], [], [], [], [], [], [], [], [], [], [], [], [], [], [], []],
  [[], [], [], [], [], [], [], [], [], [], [], [], [], [], [], []],
  [[], [], [], [], [], [], [], [], [], [], [], [], [], [], [], []],
  [[], [], [], [], [], [], [], [], [], [], [], [], [], [], [], []],
  [[], [], [], [], [], [], [], [], [], [], [], [], [], [], [], []],
  [[], [], [], [], [], [], [], [], [], [], [], [], [], [], [], []],
  [[], [], [], [], [], [], [], [], [], [], [], [], [], [], [], []],
  [[], [], [], [], [], [], [], [], [], [], [], [], [], [], [], []],
  [[], [], [], [], [], [], [], [], [], [], [], [], [], [], [], []],
  [[], [], [], [], [], [], [], [], [], [], [], [], [], [], [], []],
  [[], [], [], [], [], [], [], [], [], [], [], [], [], [], [], []],
  [[], [], [], [], [], [], [], [], [], [], [], [], [], [], [], []],
  [[], [], [], [], [], [], [], [], [], [], [], [], [], [], [], []],
  [[], [], [], [], [], [], [], [], [], [], [], [], [], [], [], []],
  [[], [], [], [], [], [], [], [], [], [], [], [], [], [], [], []],
  [[], [], [], [], [], [], [], [], [], [], [], [], [(1, 637)], [(1, 637)], [(1, 637)], [(1, 637)]],
  [[(0, 1042)], [(0, 1042)], [(1, 637)], [(0, 1042)], [(0, 1042), (1, 637)], [(1, 637)], [(1, 637)], [(1, 637)], [(0, 1042), (1, 637)], [(1, 637)], [(1, 637), (2, 1165)], [(0, 1042), (2, 1165)], [(2, 1165)], [(1, 637)], [(1, 637)], [(1, 637)]],
  [[(1, 637)], [(1, 637)], [(1, 637)], [(1, 637)], [(1, 637)], [(1, 637), (2, 1165)], [(1, 637)], [(1, 637)], [(1, 637)], [(0, 1042)], [(1, 637)], [(1, 637)], [(1, 637)], [(1, 637)], [(1, 637)], [(1, 637), (2, 1165)]],
  [[(0, 1042), (1, 637)], [(1, 637)], [(0, 1042), (2, 1165)], [(1, 637)], [(1, 637)], [(1, 637)], [(0, 1042), (1, 637)], []]]
noncomputable def mjWp : List (List (Nat × Nat × Nat × Nat)) := [[(259, 258, 0, 7), (488, 486, 487, 7), (492, 490, 491, 7), (512, 495, 2566, 7), (516, 515, 2567, 7), (520, 519, 2568, 7), (528, 527, 2569, 7), (532, 531, 2570, 7), (561, 560, 2573, 7), (540, 539, 2571, 7), (594, 592, 593, 7), (1140, 1138, 1139, 7), (1156, 1154, 1155, 7), (1152, 1150, 1151, 7), (1129, 1127, 1128, 7), (80, 79, 0, 3)],
  [(85, 83, 84, 3), (89, 87, 88, 3), (94, 92, 93, 3), (104, 103, 2560, 3), (108, 107, 2561, 3), (112, 111, 2562, 3), (524, 522, 523, 3), (536, 534, 535, 3), (881, 880, 0, 3), (456, 454, 455, 3), (452, 450, 451, 3), (116, 114, 115, 3), (1161, 1159, 1160, 3), (1354, 1352, 1353, 3), (1545, 1543, 1544, 3), (734, 733, 0, 17)],
  [(742, 741, 0, 17), (817, 816, 0, 17), (913, 912, 0, 17), (905, 904, 0, 17), (909, 908, 0, 17), (814, 813, 0, 17), (901, 900, 0, 17), (893, 892, 0, 17), (938, 937, 0, 22), (825, 824, 0, 22), (828, 827, 0, 22), (831, 830, 0, 22), (836, 835, 0, 22), (850, 849, 0, 22), (863, 862, 0, 22), (872, 871, 0, 22)],
  [(223, 222, 0, 6), (920, 918, 919, 6), (621, 619, 620, 6), (330, 329, 0, 9), (1501, 1499, 1500, 9), (1505, 1504, 2601, 9), (1510, 1509, 2602, 9), (1514, 1513, 2603, 9), (1518, 1517, 2604, 9), (311, 310, 0, 8), (1298, 1296, 1297, 8), (1303, 1301, 1302, 8), (1307, 1305, 1306, 8), (1320, 1318, 1319, 8), (1342, 1340, 1341, 8), (1312, 1310, 1311, 8)],
  [(1331, 1329, 1330, 8), (1316, 1315, 2596, 8), (1463, 1461, 1462, 8), (1468, 1467, 2600, 8), (351, 350, 0, 10), (1201, 1199, 1200, 10), (1209, 1208, 2591, 10), (1213, 1212, 2592, 10), (1217, 1216, 2593, 10), (1221, 1220, 2594, 10), (1225, 1223, 1224, 10), (1229, 1227, 1228, 10), (1233, 1231, 1232, 10), (1244, 1242, 1243, 10), (1256, 1254, 1255, 10), (1260, 1258, 1259, 10)],
  [(39, 38, 0, 2), (440, 438, 439, 2), (720, 718, 719, 2), (730, 728, 729, 2), (739, 737, 738, 2), (747, 745, 746, 2), (860, 858, 859, 2), (995, 993, 994, 2), (876, 874, 875, 2), (821, 819, 820, 2), (868, 866, 867, 2), (855, 853, 854, 2), (897, 895, 896, 2), (840, 838, 839, 2), (846, 844, 845, 2), (199, 198, 0, 5)],
  [(924, 922, 923, 5), (977, 975, 976, 5), (545, 543, 544, 5), (550, 548, 549, 5), (554, 553, 2572, 5), (557, 556, 0, 5), (950, 949, 0, 23), (955, 954, 0, 23), (964, 963, 0, 23), (967, 966, 0, 23), (970, 969, 0, 23), (982, 981, 0, 23), (985, 984, 0, 23), (988, 987, 0, 23), (991, 990, 0, 23), (999, 998, 0, 23)],
  [(31, 30, 0, 1), (436, 434, 435, 1), (641, 639, 640, 1), (935, 933, 934, 1), (947, 945, 946, 1), (444, 442, 443, 1), (1034, 1032, 1033, 1), (1046, 1044, 1045, 1), (1077, 1075, 1076, 1), (1084, 1082, 1083, 1), (1095, 1093, 1094, 1), (1103, 1101, 1102, 1), (448, 446, 447, 1), (460, 458, 459, 1), (464, 462, 463, 1), (476, 474, 475, 1)],
  [(1111, 1109, 1110, 1), (1118, 1116, 1117, 1), (1125, 1123, 1124, 1), (1136, 1134, 1135, 1), (1148, 1146, 1147, 1), (480, 478, 479, 1), (1169, 1167, 1168, 1), (1240, 1238, 1239, 1), (1252, 1250, 1251, 1), (1283, 1281, 1282, 1), (1294, 1292, 1293, 1), (1327, 1325, 1326, 1), (1338, 1336, 1337, 1), (1350, 1348, 1349, 1), (1363, 1361, 1362, 1), (1370, 1368, 1369, 1)],
  [(1381, 1379, 1380, 1), (1388, 1386, 1387, 1), (1395, 1393, 1394, 1), (577, 575, 576, 1), (1482, 1480, 1481, 1), (1406, 1404, 1405, 1), (1417, 1415, 1416, 1), (1552, 1550, 1551, 1), (1424, 1422, 1423, 1), (1431, 1429, 1430, 1), (1438, 1436, 1437, 1), (1445, 1443, 1444, 1), (1452, 1450, 1451, 1), (1459, 1457, 1458, 1), (1475, 1473, 1474, 1), (1489, 1487, 1488, 1)],
  [(1497, 1495, 1496, 1), (1541, 1539, 1540, 1), (586, 584, 585, 1), (1559, 1557, 1558, 1), (598, 596, 597, 1), (608, 606, 607, 1), (1566, 1564, 1565, 1), (617, 615, 616, 1), (625, 623, 624, 1), (629, 627, 628, 1), (633, 631, 632, 1), (1054, 1053, 2586, 1), (649, 648, 2581, 1), (1177, 1176, 2589, 1), (1050, 1049, 2585, 1), (1038, 1037, 2584, 1)],
  [(1088, 1087, 2587, 1), (1287, 1286, 2595, 1), (1399, 1398, 2598, 1), (645, 644, 2580, 1), (1173, 1172, 2588, 1), (468, 467, 2563, 1), (472, 471, 2564, 1), (565, 564, 2574, 1), (569, 568, 2575, 1), (581, 580, 2577, 1), (484, 483, 2565, 1), (573, 572, 2576, 1), (1374, 1373, 2597, 1), (1410, 1409, 2599, 1), (1197, 1196, 2590, 1), (928, 927, 2583, 1)],
  [(590, 589, 2578, 1), (612, 611, 2579, 1), (1573, 1572, 0, 11), (1581, 1580, 2605, 11), (1795, 1793, 1794, 11), (1810, 1809, 2607, 11), (1806, 1805, 0, 11), (1799, 1797, 1798, 11), (1822, 1821, 2610, 11), (1818, 1817, 2609, 11), (1848, 1847, 2615, 11), (1863, 1862, 0, 11), (1841, 1840, 0, 11), (1860, 1859, 2618, 11), (1838, 1837, 2614, 11), (1844, 1843, 0, 11)],
  [(1834, 1833, 2613, 11), (1856, 1855, 2617, 11), (1888, 1887, 2624, 11), (1884, 1883, 2623, 11), (1942, 1941, 2634, 11), (1880, 1879, 2622, 11), (1814, 1813, 2608, 11), (1588, 1587, 0, 11), (1891, 1890, 0, 11), (1868, 1867, 2619, 11), (1872, 1871, 2620, 11), (1876, 1875, 2621, 11), (1830, 1829, 2612, 11), (1852, 1851, 2616, 11), (1826, 1825, 2611, 11), (1803, 1801, 1802, 11)],
  [(1585, 1584, 2606, 11), (1898, 1897, 0, 11), (1895, 1893, 1894, 11), (1922, 1921, 2629, 11), (1910, 1909, 2626, 11), (1914, 1913, 2627, 11), (1918, 1917, 2628, 11), (1926, 1925, 2630, 11), (1930, 1929, 2631, 11), (1938, 1937, 2633, 11), (1934, 1933, 2632, 11), (1906, 1905, 2625, 11), (1902, 1900, 1901, 11), (2082, 2081, 2650, 11), (2085, 2084, 0, 11), (2078, 2077, 2649, 11)],
  [(2074, 2073, 2648, 11), (1946, 1944, 1945, 11), (1950, 1948, 1949, 11), (1958, 1957, 2635, 11), (1969, 1968, 0, 11), (2199, 2198, 2660, 11), (1954, 1952, 1953, 11), (1962, 1960, 1961, 11), (1966, 1964, 1965, 11), (1973, 1971, 1972, 11), (1981, 1980, 2636, 11), (1977, 1975, 1976, 11), (1993, 1992, 2638, 11), (1989, 1988, 2637, 11), (1985, 1983, 1984, 11), (1997, 1995, 1996, 11)],
  [(2001, 1999, 2000, 11), (2006, 2004, 2005, 11), (2010, 2008, 2009, 11), (2014, 2012, 2013, 11), (2050, 2049, 2642, 11), (2058, 2057, 2644, 11), (2062, 2061, 2645, 11), (2054, 2053, 2643, 11), (2070, 2069, 2647, 11), (2089, 2088, 2651, 11), (2066, 2065, 2646, 11), (2093, 2092, 2652, 11), (2097, 2096, 2653, 11), (2030, 2029, 2641, 11), (2026, 2025, 2640, 11), (2022, 2021, 2639, 11)],
  [(2018, 2016, 2017, 11), (2101, 2099, 2100, 11), (2105, 2103, 2104, 11), (2113, 2112, 2654, 11), (2109, 2107, 2108, 11), (2121, 2120, 2655, 11), (2117, 2115, 2116, 11), (2125, 2123, 2124, 11), (2129, 2127, 2128, 11), (2133, 2131, 2132, 11), (2137, 2135, 2136, 11), (2141, 2139, 2140, 11), (2153, 2152, 2657, 11), (2149, 2148, 2656, 11), (2145, 2143, 2144, 11), (2157, 2155, 2156, 11)],
  [(2161, 2159, 2160, 11), (2165, 2163, 2164, 11), (2169, 2167, 2168, 11), (2178, 2177, 2658, 11), (2174, 2172, 2173, 11), (2183, 2181, 2182, 11), (2187, 2185, 2186, 11), (2195, 2194, 2659, 11), (2191, 2189, 2190, 11), (2203, 2201, 2202, 11), (2211, 2210, 2661, 11), (2207, 2205, 2206, 11), (2219, 2218, 2662, 11), (2215, 2213, 2214, 11), (2223, 2221, 2222, 11), (2227, 2225, 2226, 11)],
  [(2231, 2229, 2230, 11), (2235, 2233, 2234, 11), (2239, 2237, 2238, 11), (2243, 2241, 2242, 11), (2247, 2245, 2246, 11), (2251, 2249, 2250, 11), (2259, 2258, 2663, 11), (2255, 2253, 2254, 11), (2263, 2261, 2262, 11), (2274, 2273, 2664, 11), (2270, 2269, 0, 11), (2267, 2265, 2266, 11), (2278, 2276, 2277, 11), (2282, 2280, 2281, 11), (2306, 2305, 2665, 11), (2310, 2309, 2666, 11)],
  [(2286, 2284, 2285, 11), (2314, 2312, 2313, 11), (2326, 2325, 2668, 11), (2322, 2321, 2667, 11), (2318, 2316, 2317, 11), (2330, 2328, 2329, 11), (2334, 2332, 2333, 11), (2338, 2336, 2337, 11), (601, 600, 0, 25), (97, 96, 0, 4), (726, 725, 0, 16), (723, 722, 0, 16), (636, 635, 0, 0), (931, 930, 0, 0), (943, 942, 0, 0), (1030, 1029, 0, 0)],
  [(1041, 1040, 0, 0), (1073, 1072, 0, 0), (1080, 1079, 0, 0), (1091, 1090, 0, 0), (1099, 1098, 0, 0), (1107, 1106, 0, 0), (1114, 1113, 0, 0), (1121, 1120, 0, 0), (1132, 1131, 0, 0), (1144, 1143, 0, 0), (1164, 1163, 0, 0), (1236, 1235, 0, 0), (1248, 1247, 0, 0), (1263, 1262, 0, 0), (1290, 1289, 0, 0), (1323, 1322, 0, 0)],
  [(1334, 1333, 0, 0), (1346, 1345, 0, 0), (1359, 1358, 0, 0), (1366, 1365, 0, 0), (1377, 1376, 0, 0), (1384, 1383, 0, 0), (1391, 1390, 0, 0), (1402, 1401, 0, 0), (1413, 1412, 0, 0), (1420, 1419, 0, 0), (1427, 1426, 0, 0), (1434, 1433, 0, 0), (1441, 1440, 0, 0), (1448, 1447, 0, 0), (1455, 1454, 0, 0), (1471, 1470, 0, 0)],
  [(1478, 1477, 0, 0), (1485, 1484, 0, 0), (1493, 1492, 0, 0), (1537, 1536, 0, 0), (1548, 1547, 0, 0), (1555, 1554, 0, 0), (1562, 1561, 0, 0), (0, 0, 0, 0)]]
noncomputable def mjStr : List (List (String × Nat × String)) := [[(RX11, 400, "no such argument"), (RX2, 33, "slip"), (RX3, 42, "not"), (RX3, 47, "if"), (RX3, 76, "then"), (RX3, 40, "and"), (RX3, 28, "or"), (RX2, 43, "see"), (RX2, 48, "salt"), (RX2, 53, "world"), (RX2, 58, "law"), (RX2, 63, "atoms"), (RX10, 48, "both"), (RX10, 54, "new"), (RX10, 56, "old"), (RX10, 68, "not")],
  [(RX10, 102, "age"), (RX10, 104, "hurts"), (RX10, 106, "olds"), (RX10, 108, "news"), (RX10, 110, "oldn"), (RX10, 112, "newn"), (RX10, 114, "week"), (RX10, 116, "held"), (RX10, 118, "left"), (RX10, 120, "shared"), (RX10, 66, "and"), (RX10, 61, "or"), (RX11, 393, "no such slip or seeing"), (RX11, 405, "too many slips or atoms")]]
abbrev mjLaw : Nat := 375
noncomputable def mjWords : List (List Cond) := [tables_1_1, tables_1_2, tables_1_3, tables_1_4, tables_1_5, tables_1_6, tables_1_7, tables_1_8, tables_1_9, tables_1_10]
end
section
/-! MJ: a small machine over numbered cells, that does what the bytecode does -/
section MJDEF
/-- a value of the small machine, its cells at their addresses -/
def rl (ad : Nat → Nat) (v : Value) : Value := match v with
  | .ref i => .ref (ad i)
  | .int x => .int x
  | .long x => .long x
  | .float x => .float x
  | .double x => .double x
  | .null => .null
  | .retAddr x => .retAddr x
theorem rl_cat (ad : Nat → Nat) (v : Value) : (rl ad v).category = v.category := by cases v <;> rfl
abbrev rls (ad : Nat → Nat) (vs : List Value) : List Value := vs.map (rl ad)
abbrev rll (ad : Nat → Nat) (ls : mjL) : mjL := ls.map (fun q => (q.1, rl ad q.2))
def mjGet : mjL → Nat → Option Value
  | [], _ => none
  | q :: r, i => if q.1 == i then some q.2 else mjGet r i
theorem mjGet_mem {ls : mjL} {i : Nat} {v : Value} (h : mjGet ls i = some v) : (i, v) ∈ ls := by
  induction ls with
  | nil => simp [mjGet] at h
  | cons q r ih =>
    simp only [mjGet] at h
    by_cases hq : q.1 = i
    · rw [if_pos (by simp [hq])] at h
      cases h
      subst hq
      exact List.mem_cons_self
    · rw [if_neg (by simp [hq])] at h
      exact List.mem_cons_of_mem _ (ih h)
def mjSt (i : Nat) (v : Value) (ls : mjL) : mjL := (i, v) :: ls.filter (fun q => !(q.1 == i) && !(q.1 + 1 == i && q.2.category == 2))
def mjSt2 (i : Nat) (v : Value) (ls : mjL) : mjL := (i, v) :: ls.filter (fun q => !(q.1 == i) && (!(q.1 == i + 1) && !(q.1 + 1 == i && q.2.category == 2)))
theorem rll_filter (ad : Nat → Nat) (g : Nat → Nat → Bool) (ls : mjL) : rll ad (ls.filter (fun q => g q.1 q.2.category)) = (rll ad ls).filter (fun q => g q.1 q.2.category) := by
  induction ls with
  | nil => rfl
  | cons q r ih =>
    simp only [rll, List.map_cons, List.filter_cons] at ih ⊢
    rw [rl_cat]
    cases g q.1 q.2.category <;> simp [ih]
theorem rll_st (ad : Nat → Nat) (i : Nat) (v : Value) (ls : mjL) : rll ad (mjSt i v ls) = (i, rl ad v) :: (rll ad ls).filter (fun q => !(q.1 == i) && !(q.1 + 1 == i && q.2.category == 2)) := by
  show (i, rl ad v) :: rll ad _ = _
  rw [rll_filter ad (fun a b => !(a == i) && !(a + 1 == i && b == 2))]
theorem rll_st2 (ad : Nat → Nat) (i : Nat) (v : Value) (ls : mjL) : rll ad (mjSt2 i v ls) = (i, rl ad v) :: (rll ad ls).filter (fun q => !(q.1 == i) && (!(q.1 == i + 1) && !(q.1 + 1 == i && q.2.category == 2))) := by
  show (i, rl ad v) :: rll ad _ = _
  rw [rll_filter ad (fun a b => !(a == i) && (!(a == i + 1) && !(a + 1 == i && b == 2)))]
theorem rll_get {ad : Nat → Nat} {ls : mjL} {i nL : Nat} {v : Value} {arr : Array Slot} (hl : lv_has arr nL (rll ad ls)) (h : mjGet ls i = some v) : arr[i]? = some (.val (rl ad v)) :=
  hl.2.2 (i, rl ad v) (List.mem_map.mpr ⟨(i, v), mjGet_mem h, rfl⟩)
/-- a condition on two ints -/
def mjC (c : Jvm.ClassFile.Cond) (x y : Int32) : Bool := match c with
  | .eq => decide (x = y)
  | .ne => decide (¬ x = y)
  | .lt => decide (x < y)
  | .ge => decide (y ≤ x)
  | .gt => decide (y < x)
  | .le => decide (x ≤ y)
/-- places: the script's array, the first text -/
abbrev mjScr : Nat := 3000000
abbrev mjS0 : Nat := 1000000
def mjSc (n : Nat) (v : Value) : Bool := match v with
  | .ref i => decide (i < n) || decide (mjS0 ≤ i)
  | _ => true
def mjTy (ci : Nat) : Nat → FieldType := match ci with
  | 0 => tyX0 | 1 => tyX1 | 2 => tyX4 | 3 => tyX5 | 4 => tyX6 | 5 => tyX7 | 6 => tyX8 | 7 => tyX9 | 8 => tyX11 | _ => tyX12
/-- a field of this type takes this value -/
def mjOk (ty : FieldType) (n : Nat) (v : Value) : Bool := match ty with
  | .int => match v with | .int _ => true | _ => false
  | .long => match v with | .long _ => true | _ => false
  | .boolean => match v with | .int x => x == 0 || x == 1 | _ => false
  | .object _ => match v with | .null => true | .ref i => mjSc n (.ref i) | _ => false
  | .array _ => match v with | .null => true | .ref i => mjSc n (.ref i) | _ => false
  | _ => false
abbrev mjT : Type := Nat × mjL × List Value × mjH
/-- locals and stack alone -/
def mjAlu (i : Instr) (pc b : Nat) (ls : mjL) (st : List Value) : Option (Nat × mjL × List Value) := match i with
  | .iconst k => some (pc + 1, ls, .int (Int32.ofInt k) :: st)
  | .bipush k => some (pc + 2, ls, .int (Int8.ofInt k).toInt32 :: st)
  | .sipush k => some (pc + 3, ls, .int (Int16.ofInt k).toInt32 :: st)
  | .lconst k => some (pc + 1, ls, .long (Int64.ofNat (k : Nat)) :: st)
  | .iload_n k => match mjGet ls (k : Nat) with | some (.int x) => some (pc + 1, ls, .int x :: st) | _ => none
  | .iload k => match mjGet ls k with | some (.int x) => some (pc + 2, ls, .int x :: st) | _ => none
  | .lload_n k => match mjGet ls (k : Nat) with | some (.long x) => some (pc + 1, ls, .long x :: st) | _ => none
  | .lload k => match mjGet ls k with | some (.long x) => some (pc + 2, ls, .long x :: st) | _ => none
  | .aload_n k => match mjGet ls (k : Nat) with | some (.ref x) => some (pc + 1, ls, .ref x :: st) | _ => none
  | .aload k => match mjGet ls k with | some (.ref x) => some (pc + 2, ls, .ref x :: st) | _ => none
  | .istore_n k => match st with | .int x :: r => some (pc + 1, mjSt (k : Nat) (.int x) ls, r) | _ => none
  | .istore k => match st with | .int x :: r => some (pc + 2, mjSt k (.int x) ls, r) | _ => none
  | .lstore_n k => match st with | .long x :: r => some (pc + 1, mjSt2 (k : Nat) (.long x) ls, r) | _ => none
  | .lstore k => match st with | .long x :: r => some (pc + 2, mjSt2 k (.long x) ls, r) | _ => none
  | .astore_n k => match st with | .ref x :: r => some (pc + 1, mjSt (k : Nat) (.ref x) ls, r) | _ => none
  | .astore k => match st with | .ref x :: r => some (pc + 2, mjSt k (.ref x) ls, r) | _ => none
  | .iinc k n => match mjGet ls k with | some (.int x) => some (pc + 3, mjSt k (.int (x + Int32.ofInt n)) ls, st) | _ => none
  | .iadd => match st with | .int y :: .int x :: r => some (pc + 1, ls, .int (x + y) :: r) | _ => none
  | .isub => match st with | .int y :: .int x :: r => some (pc + 1, ls, .int (x - y) :: r) | _ => none
  | .imul => match st with | .int y :: .int x :: r => some (pc + 1, ls, .int (x * y) :: r) | _ => none
  | .iand => match st with | .int y :: .int x :: r => some (pc + 1, ls, .int (x &&& y) :: r) | _ => none
  | .ior => match st with | .int y :: .int x :: r => some (pc + 1, ls, .int (x ||| y) :: r) | _ => none
  | .ixor => match st with | .int y :: .int x :: r => some (pc + 1, ls, .int (x ^^^ y) :: r) | _ => none
  | .irem => match st with | .int y :: .int x :: r => if y = 0 then none else some (pc + 1, ls, .int (x - x / y * y) :: r) | _ => none
  | .ishl => match st with | .int y :: .int x :: r => some (pc + 1, ls, .int (x <<< (y &&& 31)) :: r) | _ => none
  | .ishr => match st with | .int y :: .int x :: r => some (pc + 1, ls, .int (x >>> (y &&& 31)) :: r) | _ => none
  | .iushr => match st with | .int y :: .int x :: r => some (pc + 1, ls, .int (x.toUInt32 >>> (y.toUInt32 &&& Int32.toUInt32 31)).toInt32 :: r) | _ => none
  | .ladd => match st with | .long y :: .long x :: r => some (pc + 1, ls, .long (x + y) :: r) | _ => none
  | .lsub => match st with | .long y :: .long x :: r => some (pc + 1, ls, .long (x - y) :: r) | _ => none
  | .lmul => match st with | .long y :: .long x :: r => some (pc + 1, ls, .long (x * y) :: r) | _ => none
  | .land => match st with | .long y :: .long x :: r => some (pc + 1, ls, .long (x &&& y) :: r) | _ => none
  | .lor => match st with | .long y :: .long x :: r => some (pc + 1, ls, .long (x ||| y) :: r) | _ => none
  | .lxor => match st with | .long y :: .long x :: r => some (pc + 1, ls, .long (x ^^^ y) :: r) | _ => none
  | .lshl => match st with | .int y :: .long x :: r => some (pc + 1, ls, .long (x <<< (y.toInt64 &&& 63)) :: r) | _ => none
  | .lshr => match st with | .int y :: .long x :: r => some (pc + 1, ls, .long (x >>> (y.toInt64 &&& 63)) :: r) | _ => none
  | .lushr => match st with | .int y :: .long x :: r => some (pc + 1, ls, .long (x.toUInt64 >>> (y.toInt64.toUInt64 &&& Int64.toUInt64 63)).toInt64 :: r) | _ => none
  | .lcmp => match st with | .long y :: .long x :: r => some (pc + 1, ls, .int (lg_cmp x y) :: r) | _ => none
  | .i2l => match st with | .int x :: r => some (pc + 1, ls, .long x.toInt64 :: r) | _ => none
  | .l2i => match st with | .long x :: r => some (pc + 1, ls, .int x.toInt32 :: r) | _ => none
  | .i2b => match st with | .int x :: r => some (pc + 1, ls, .int x.toInt8.toInt32 :: r) | _ => none
  | .dup => match st with | v :: r => if v.category = 1 then some (pc + 1, ls, v :: v :: r) else none | _ => none
  | .pop => match st with | v :: r => if v.category = 1 then some (pc + 1, ls, r) else none | _ => none
  | .dup2 => match st with | v :: w :: r => if v.category = 1 ∧ w.category = 1 then some (pc + 1, ls, v :: w :: v :: w :: r) else none | _ => none
  | .ifCond k _ => match st with | .int x :: r => some (if mjC k x 0 then b else pc + 3, ls, r) | _ => none
  | .if_icmp k _ => match st with | .int y :: .int x :: r => some (if mjC k x y then b else pc + 3, ls, r) | _ => none
  | .goto _ => some (b, ls, st)
  | .tableswitch dflt lo hi offs => match st with
    | .int x :: r => if x.toInt < lo ∨ hi < x.toInt then (if ((pc : Int) + dflt).toNat = (pc : Int) + dflt then some (((pc : Int) + dflt).toNat, ls, r) else none)
      else match offs[(x.toInt - lo).toNat]? with
        | some o => if ((pc : Int) + o).toNat = (pc : Int) + o then some (((pc : Int) + o).toNat, ls, r) else none
        | none => none
    | _ => none
  | .lookupswitch dflt ps => match st with
    | .int x :: r => let o := Op.lookupswitch.offset ps.toList dflt x.toInt
      if (ps.toList.zip (ps.toList.drop 1)).all (fun (a, next) => a.1 < next.1) = true ∧ ((pc : Int) + o).toNat = (pc : Int) + o then some (((pc : Int) + o).toNat, ls, r) else none
    | _ => none
  | _ => none
/-- how long it must be -/
def mjLen (i : Instr) : Nat := match i with
  | .bipush _ | .iload _ | .lload _ | .aload _ | .istore _ | .lstore _ | .astore _ | .ldc _ | .newarray _ => 2
  | .sipush _ | .iinc _ _ | .ifCond _ _ | .if_icmp _ _ | .goto _ | .getfield _ | .putfield _ | .ldc_w _ | .ldc2_w _ | .invokevirtual _ | .invokestatic _ | .invokespecial _ | .new _ | .anewarray _ => 3
  | .multianewarray _ _ => 4
  | .tableswitch _ _ _ _ | .lookupswitch _ _ => 0
  | _ => 1
end MJDEF
end
section
/-! MJ: locals and stack: what mjAlu says the bytecode does -/
section MJALU
/-- static facts of an instruction: its places, its target -/
def mjPre (i : Instr) (pc b nL : Nat) : Bool := match i with
  | .istore_n k => decide ((k : Nat) < nL)
  | .astore_n k => decide ((k : Nat) < nL)
  | .lstore_n k => decide ((k : Nat) + 1 < nL)
  | .istore k => decide (k < nL)
  | .astore k => decide (k < nL)
  | .lstore k => decide (k + 1 < nL)
  | .ifCond _ o => decide ((pc : Int) + o = (b : Int))
  | .if_icmp _ o => decide ((pc : Int) + o = (b : Int))
  | .goto o => decide ((pc : Int) + o = (b : Int))
  | _ => true
variable {p : Program} {l : Launch} {e : Env} {R : Room} {s : State} {m : MethodId} {args : Array Value} {below : List Frame} {meth : Method} {c : Code} {cells slots : Nat} {Q : State → Prop} {cc : ByteArray} {nL : Nat} {H : Heap} {locs : List Loc} {arr : Array Slot} {ad : Nat → Nat} {pc n b pc' : Nat} {ls ls' : mjL} {st st' : List Value}
theorem mj_lt {l : List (Nat × Value)} {q : Nat × Value} (h : q ∈ l) : ∃ k : Nat, l[k]? = some q := List.getElem?_of_mem h

theorem ma_iconst {z : Int} (hexec : p.tables.exec = Jvm.exec) (hb : c.code = cc) (hd : decode cc pc = .ok (.iconst z, n)) (hlen : n = mjLen (.iconst z)) (hp : mjPre (.iconst z) pc b nL = true) (h : mjAlu (.iconst z) pc b ls st = some (pc', ls', st')) (hl : lv_has arr nL (rll ad ls))
    (k : ∀ arr' : Array Slot, lv_has arr' nL (rll ad ls') → W p l e R s m args below meth c H locs cells slots Q (F0 m pc' arr' (rls ad st'))) : W p l e R s m args below meth c H locs cells slots Q (F0 m pc arr (rls ad st)) := by
  subst hlen
  simp only [mjAlu, Option.some.injEq, Prod.mk.injEq] at h
  obtain ⟨rfl, rfl, rfl⟩ := h
  exact lv_iconst hexec hb hd rfl (k _ hl)
theorem ma_bipush {z : Int} (hexec : p.tables.exec = Jvm.exec) (hb : c.code = cc) (hd : decode cc pc = .ok (.bipush z, n)) (hlen : n = mjLen (.bipush z)) (hp : mjPre (.bipush z) pc b nL = true) (h : mjAlu (.bipush z) pc b ls st = some (pc', ls', st')) (hl : lv_has arr nL (rll ad ls))
    (k : ∀ arr' : Array Slot, lv_has arr' nL (rll ad ls') → W p l e R s m args below meth c H locs cells slots Q (F0 m pc' arr' (rls ad st'))) : W p l e R s m args below meth c H locs cells slots Q (F0 m pc arr (rls ad st)) := by
  subst hlen
  simp only [mjAlu, Option.some.injEq, Prod.mk.injEq] at h
  obtain ⟨rfl, rfl, rfl⟩ := h
  exact lv_bipush hexec hb hd rfl (k _ hl)
theorem ma_sipush {z : Int} (hexec : p.tables.exec = Jvm.exec) (hb : c.code = cc) (hd : decode cc pc = .ok (.sipush z, n)) (hlen : n = mjLen (.sipush z)) (hp : mjPre (.sipush z) pc b nL = true) (h : mjAlu (.sipush z) pc b ls st = some (pc', ls', st')) (hl : lv_has arr nL (rll ad ls))
    (k : ∀ arr' : Array Slot, lv_has arr' nL (rll ad ls') → W p l e R s m args below meth c H locs cells slots Q (F0 m pc' arr' (rls ad st'))) : W p l e R s m args below meth c H locs cells slots Q (F0 m pc arr (rls ad st)) := by
  subst hlen
  simp only [mjAlu, Option.some.injEq, Prod.mk.injEq] at h
  obtain ⟨rfl, rfl, rfl⟩ := h
  exact lv_sipush hexec hb hd rfl (k _ hl)
theorem ma_lconst {z : Fin 2} (hexec : p.tables.exec = Jvm.exec) (hb : c.code = cc) (hd : decode cc pc = .ok (.lconst z, n)) (hlen : n = mjLen (.lconst z)) (hp : mjPre (.lconst z) pc b nL = true) (h : mjAlu (.lconst z) pc b ls st = some (pc', ls', st')) (hl : lv_has arr nL (rll ad ls))
    (k : ∀ arr' : Array Slot, lv_has arr' nL (rll ad ls') → W p l e R s m args below meth c H locs cells slots Q (F0 m pc' arr' (rls ad st'))) : W p l e R s m args below meth c H locs cells slots Q (F0 m pc arr (rls ad st)) := by
  subst hlen
  simp only [mjAlu, Option.some.injEq, Prod.mk.injEq] at h
  obtain ⟨rfl, rfl, rfl⟩ := h
  exact lv_lconst hexec hb hd rfl (k _ hl)
theorem ma_iload_n {z : Fin 4} (hexec : p.tables.exec = Jvm.exec) (hb : c.code = cc) (hd : decode cc pc = .ok (.iload_n z, n)) (hlen : n = mjLen (.iload_n z)) (hp : mjPre (.iload_n z) pc b nL = true) (h : mjAlu (.iload_n z) pc b ls st = some (pc', ls', st')) (hl : lv_has arr nL (rll ad ls))
    (k : ∀ arr' : Array Slot, lv_has arr' nL (rll ad ls') → W p l e R s m args below meth c H locs cells slots Q (F0 m pc' arr' (rls ad st'))) : W p l e R s m args below meth c H locs cells slots Q (F0 m pc arr (rls ad st)) := by
  subst hlen
  obtain ⟨x, hx, e⟩ : ∃ x : Int32, mjGet ls (z : Nat) = some (.int x) ∧ some (pc + 1, ls, Value.int x :: st) = some (pc', ls', st') := by
    simp only [mjAlu] at h
    split at h
    · rename_i q; exact ⟨_, q, h⟩
    · cases h
  simp only [Option.some.injEq, Prod.mk.injEq] at e
  obtain ⟨rfl, rfl, rfl⟩ := e
  exact lv_iload_n hexec hb hd rfl (rll_get hl hx) (k _ hl)
theorem ma_iload {z : Nat} (hexec : p.tables.exec = Jvm.exec) (hb : c.code = cc) (hd : decode cc pc = .ok (.iload z, n)) (hlen : n = mjLen (.iload z)) (hp : mjPre (.iload z) pc b nL = true) (h : mjAlu (.iload z) pc b ls st = some (pc', ls', st')) (hl : lv_has arr nL (rll ad ls))
    (k : ∀ arr' : Array Slot, lv_has arr' nL (rll ad ls') → W p l e R s m args below meth c H locs cells slots Q (F0 m pc' arr' (rls ad st'))) : W p l e R s m args below meth c H locs cells slots Q (F0 m pc arr (rls ad st)) := by
  subst hlen
  obtain ⟨x, hx, e⟩ : ∃ x : Int32, mjGet ls z = some (.int x) ∧ some (pc + 2, ls, Value.int x :: st) = some (pc', ls', st') := by
    simp only [mjAlu] at h
    split at h
    · rename_i q; exact ⟨_, q, h⟩
    · cases h
  simp only [Option.some.injEq, Prod.mk.injEq] at e
  obtain ⟨rfl, rfl, rfl⟩ := e
  exact lv_iload hexec hb hd (rll_get hl hx) (k _ hl)
theorem ma_lload_n {z : Fin 4} (hexec : p.tables.exec = Jvm.exec) (hb : c.code = cc) (hd : decode cc pc = .ok (.lload_n z, n)) (hlen : n = mjLen (.lload_n z)) (hp : mjPre (.lload_n z) pc b nL = true) (h : mjAlu (.lload_n z) pc b ls st = some (pc', ls', st')) (hl : lv_has arr nL (rll ad ls))
    (k : ∀ arr' : Array Slot, lv_has arr' nL (rll ad ls') → W p l e R s m args below meth c H locs cells slots Q (F0 m pc' arr' (rls ad st'))) : W p l e R s m args below meth c H locs cells slots Q (F0 m pc arr (rls ad st)) := by
  subst hlen
  obtain ⟨x, hx, e⟩ : ∃ x : Int64, mjGet ls (z : Nat) = some (.long x) ∧ some (pc + 1, ls, Value.long x :: st) = some (pc', ls', st') := by
    simp only [mjAlu] at h
    split at h
    · rename_i q; exact ⟨_, q, h⟩
    · cases h
  simp only [Option.some.injEq, Prod.mk.injEq] at e
  obtain ⟨rfl, rfl, rfl⟩ := e
  exact lv_lload_n hexec hb hd rfl (rll_get hl hx) (k _ hl)
theorem ma_lload {z : Nat} (hexec : p.tables.exec = Jvm.exec) (hb : c.code = cc) (hd : decode cc pc = .ok (.lload z, n)) (hlen : n = mjLen (.lload z)) (hp : mjPre (.lload z) pc b nL = true) (h : mjAlu (.lload z) pc b ls st = some (pc', ls', st')) (hl : lv_has arr nL (rll ad ls))
    (k : ∀ arr' : Array Slot, lv_has arr' nL (rll ad ls') → W p l e R s m args below meth c H locs cells slots Q (F0 m pc' arr' (rls ad st'))) : W p l e R s m args below meth c H locs cells slots Q (F0 m pc arr (rls ad st)) := by
  subst hlen
  obtain ⟨x, hx, e⟩ : ∃ x : Int64, mjGet ls z = some (.long x) ∧ some (pc + 2, ls, Value.long x :: st) = some (pc', ls', st') := by
    simp only [mjAlu] at h
    split at h
    · rename_i q; exact ⟨_, q, h⟩
    · cases h
  simp only [Option.some.injEq, Prod.mk.injEq] at e
  obtain ⟨rfl, rfl, rfl⟩ := e
  exact lv_lload hexec hb hd (rll_get hl hx) (k _ hl)
theorem ma_aload_n {z : Fin 4} (hexec : p.tables.exec = Jvm.exec) (hb : c.code = cc) (hd : decode cc pc = .ok (.aload_n z, n)) (hlen : n = mjLen (.aload_n z)) (hp : mjPre (.aload_n z) pc b nL = true) (h : mjAlu (.aload_n z) pc b ls st = some (pc', ls', st')) (hl : lv_has arr nL (rll ad ls))
    (k : ∀ arr' : Array Slot, lv_has arr' nL (rll ad ls') → W p l e R s m args below meth c H locs cells slots Q (F0 m pc' arr' (rls ad st'))) : W p l e R s m args below meth c H locs cells slots Q (F0 m pc arr (rls ad st)) := by
  subst hlen
  obtain ⟨x, hx, e⟩ : ∃ x : Nat, mjGet ls (z : Nat) = some (.ref x) ∧ some (pc + 1, ls, Value.ref x :: st) = some (pc', ls', st') := by
    simp only [mjAlu] at h
    split at h
    · rename_i q; exact ⟨_, q, h⟩
    · cases h
  simp only [Option.some.injEq, Prod.mk.injEq] at e
  obtain ⟨rfl, rfl, rfl⟩ := e
  exact lv_aload_n hexec hb hd rfl (rll_get hl hx) (k _ hl)
theorem ma_aload {z : Nat} (hexec : p.tables.exec = Jvm.exec) (hb : c.code = cc) (hd : decode cc pc = .ok (.aload z, n)) (hlen : n = mjLen (.aload z)) (hp : mjPre (.aload z) pc b nL = true) (h : mjAlu (.aload z) pc b ls st = some (pc', ls', st')) (hl : lv_has arr nL (rll ad ls))
    (k : ∀ arr' : Array Slot, lv_has arr' nL (rll ad ls') → W p l e R s m args below meth c H locs cells slots Q (F0 m pc' arr' (rls ad st'))) : W p l e R s m args below meth c H locs cells slots Q (F0 m pc arr (rls ad st)) := by
  subst hlen
  obtain ⟨x, hx, e⟩ : ∃ x : Nat, mjGet ls z = some (.ref x) ∧ some (pc + 2, ls, Value.ref x :: st) = some (pc', ls', st') := by
    simp only [mjAlu] at h
    split at h
    · rename_i q; exact ⟨_, q, h⟩
    · cases h
  simp only [Option.some.injEq, Prod.mk.injEq] at e
  obtain ⟨rfl, rfl, rfl⟩ := e
  exact lv_aload hexec hb hd (rll_get hl hx) (k _ hl)
theorem ma_istore_n {z : Fin 4} (hexec : p.tables.exec = Jvm.exec) (hb : c.code = cc) (hd : decode cc pc = .ok (.istore_n z, n)) (hlen : n = mjLen (.istore_n z)) (hp : mjPre (.istore_n z) pc b nL = true) (h : mjAlu (.istore_n z) pc b ls st = some (pc', ls', st')) (hl : lv_has arr nL (rll ad ls))
    (k : ∀ arr' : Array Slot, lv_has arr' nL (rll ad ls') → W p l e R s m args below meth c H locs cells slots Q (F0 m pc' arr' (rls ad st'))) : W p l e R s m args below meth c H locs cells slots Q (F0 m pc arr (rls ad st)) := by
  subst hlen
  obtain ⟨x, r, rfl, e⟩ : ∃ (x : Int32) (r : List Value), st = .int x :: r ∧ some (pc + 1, mjSt (z : Nat) (.int x) ls, r) = some (pc', ls', st') := by
    simp only [mjAlu] at h
    split at h
    · exact ⟨_, _, rfl, h⟩
    · cases h
  simp only [Option.some.injEq, Prod.mk.injEq] at e
  obtain ⟨rfl, rfl, rfl⟩ := e
  have hp' := of_decide_eq_true hp
  exact lv_istore_n hexec hb hd rfl hl hp' rfl (fun ls' h' => k ls' (by rw [rll_st]; exact h'))
theorem ma_istore {z : Nat} (hexec : p.tables.exec = Jvm.exec) (hb : c.code = cc) (hd : decode cc pc = .ok (.istore z, n)) (hlen : n = mjLen (.istore z)) (hp : mjPre (.istore z) pc b nL = true) (h : mjAlu (.istore z) pc b ls st = some (pc', ls', st')) (hl : lv_has arr nL (rll ad ls))
    (k : ∀ arr' : Array Slot, lv_has arr' nL (rll ad ls') → W p l e R s m args below meth c H locs cells slots Q (F0 m pc' arr' (rls ad st'))) : W p l e R s m args below meth c H locs cells slots Q (F0 m pc arr (rls ad st)) := by
  subst hlen
  obtain ⟨x, r, rfl, e⟩ : ∃ (x : Int32) (r : List Value), st = .int x :: r ∧ some (pc + 2, mjSt z (.int x) ls, r) = some (pc', ls', st') := by
    simp only [mjAlu] at h
    split at h
    · exact ⟨_, _, rfl, h⟩
    · cases h
  simp only [Option.some.injEq, Prod.mk.injEq] at e
  obtain ⟨rfl, rfl, rfl⟩ := e
  have hp' := of_decide_eq_true hp
  exact lv_istore hexec hb hd hl hp' rfl (fun ls' h' => k ls' (by rw [rll_st]; exact h'))
theorem ma_lstore_n {z : Fin 4} (hexec : p.tables.exec = Jvm.exec) (hb : c.code = cc) (hd : decode cc pc = .ok (.lstore_n z, n)) (hlen : n = mjLen (.lstore_n z)) (hp : mjPre (.lstore_n z) pc b nL = true) (h : mjAlu (.lstore_n z) pc b ls st = some (pc', ls', st')) (hl : lv_has arr nL (rll ad ls))
    (k : ∀ arr' : Array Slot, lv_has arr' nL (rll ad ls') → W p l e R s m args below meth c H locs cells slots Q (F0 m pc' arr' (rls ad st'))) : W p l e R s m args below meth c H locs cells slots Q (F0 m pc arr (rls ad st)) := by
  subst hlen
  obtain ⟨x, r, rfl, e⟩ : ∃ (x : Int64) (r : List Value), st = .long x :: r ∧ some (pc + 1, mjSt2 (z : Nat) (.long x) ls, r) = some (pc', ls', st') := by
    simp only [mjAlu] at h
    split at h
    · exact ⟨_, _, rfl, h⟩
    · cases h
  simp only [Option.some.injEq, Prod.mk.injEq] at e
  obtain ⟨rfl, rfl, rfl⟩ := e
  have hp' := of_decide_eq_true hp
  exact lv_lstore_n hexec hb hd rfl hl hp' rfl (fun ls' h' => k ls' (by rw [rll_st2]; exact h'))
theorem ma_lstore {z : Nat} (hexec : p.tables.exec = Jvm.exec) (hb : c.code = cc) (hd : decode cc pc = .ok (.lstore z, n)) (hlen : n = mjLen (.lstore z)) (hp : mjPre (.lstore z) pc b nL = true) (h : mjAlu (.lstore z) pc b ls st = some (pc', ls', st')) (hl : lv_has arr nL (rll ad ls))
    (k : ∀ arr' : Array Slot, lv_has arr' nL (rll ad ls') → W p l e R s m args below meth c H locs cells slots Q (F0 m pc' arr' (rls ad st'))) : W p l e R s m args below meth c H locs cells slots Q (F0 m pc arr (rls ad st)) := by
  subst hlen
  obtain ⟨x, r, rfl, e⟩ : ∃ (x : Int64) (r : List Value), st = .long x :: r ∧ some (pc + 2, mjSt2 z (.long x) ls, r) = some (pc', ls', st') := by
    simp only [mjAlu] at h
    split at h
    · exact ⟨_, _, rfl, h⟩
    · cases h
  simp only [Option.some.injEq, Prod.mk.injEq] at e
  obtain ⟨rfl, rfl, rfl⟩ := e
  have hp' := of_decide_eq_true hp
  exact lv_lstore hexec hb hd hl hp' rfl (fun ls' h' => k ls' (by rw [rll_st2]; exact h'))
theorem ma_astore_n {z : Fin 4} (hexec : p.tables.exec = Jvm.exec) (hb : c.code = cc) (hd : decode cc pc = .ok (.astore_n z, n)) (hlen : n = mjLen (.astore_n z)) (hp : mjPre (.astore_n z) pc b nL = true) (h : mjAlu (.astore_n z) pc b ls st = some (pc', ls', st')) (hl : lv_has arr nL (rll ad ls))
    (k : ∀ arr' : Array Slot, lv_has arr' nL (rll ad ls') → W p l e R s m args below meth c H locs cells slots Q (F0 m pc' arr' (rls ad st'))) : W p l e R s m args below meth c H locs cells slots Q (F0 m pc arr (rls ad st)) := by
  subst hlen
  obtain ⟨x, r, rfl, e⟩ : ∃ (x : Nat) (r : List Value), st = .ref x :: r ∧ some (pc + 1, mjSt (z : Nat) (.ref x) ls, r) = some (pc', ls', st') := by
    simp only [mjAlu] at h
    split at h
    · exact ⟨_, _, rfl, h⟩
    · cases h
  simp only [Option.some.injEq, Prod.mk.injEq] at e
  obtain ⟨rfl, rfl, rfl⟩ := e
  have hp' := of_decide_eq_true hp
  exact lv_astore_n hexec hb hd rfl hl hp' rfl (fun ls' h' => k ls' (by rw [rll_st]; exact h'))
theorem ma_astore {z : Nat} (hexec : p.tables.exec = Jvm.exec) (hb : c.code = cc) (hd : decode cc pc = .ok (.astore z, n)) (hlen : n = mjLen (.astore z)) (hp : mjPre (.astore z) pc b nL = true) (h : mjAlu (.astore z) pc b ls st = some (pc', ls', st')) (hl : lv_has arr nL (rll ad ls))
    (k : ∀ arr' : Array Slot, lv_has arr' nL (rll ad ls') → W p l e R s m args below meth c H locs cells slots Q (F0 m pc' arr' (rls ad st'))) : W p l e R s m args below meth c H locs cells slots Q (F0 m pc arr (rls ad st)) := by
  subst hlen
  obtain ⟨x, r, rfl, e⟩ : ∃ (x : Nat) (r : List Value), st = .ref x :: r ∧ some (pc + 2, mjSt z (.ref x) ls, r) = some (pc', ls', st') := by
    simp only [mjAlu] at h
    split at h
    · exact ⟨_, _, rfl, h⟩
    · cases h
  simp only [Option.some.injEq, Prod.mk.injEq] at e
  obtain ⟨rfl, rfl, rfl⟩ := e
  have hp' := of_decide_eq_true hp
  exact lv_astore hexec hb hd hl hp' rfl (fun ls' h' => k ls' (by rw [rll_st]; exact h'))
theorem ma_iinc {z : Nat} {w : Int} (hexec : p.tables.exec = Jvm.exec) (hb : c.code = cc) (hd : decode cc pc = .ok (.iinc z w, n)) (hlen : n = mjLen (.iinc z w)) (hp : mjPre (.iinc z w) pc b nL = true) (h : mjAlu (.iinc z w) pc b ls st = some (pc', ls', st')) (hl : lv_has arr nL (rll ad ls))
    (k : ∀ arr' : Array Slot, lv_has arr' nL (rll ad ls') → W p l e R s m args below meth c H locs cells slots Q (F0 m pc' arr' (rls ad st'))) : W p l e R s m args below meth c H locs cells slots Q (F0 m pc arr (rls ad st)) := by
  subst hlen
  obtain ⟨x, hx, e⟩ : ∃ x : Int32, mjGet ls z = some (.int x) ∧ some (pc + 3, mjSt z (.int (x + Int32.ofInt w)) ls, st) = some (pc', ls', st') := by
    simp only [mjAlu] at h
    split at h
    · rename_i q; exact ⟨_, q, h⟩
    · cases h
  simp only [Option.some.injEq, Prod.mk.injEq] at e
  obtain ⟨rfl, rfl, rfl⟩ := e
  obtain ⟨j, hj⟩ := mj_lt (List.mem_map.mpr ⟨(z, .int x), mjGet_mem hx, rfl⟩ : (z, rl ad (.int x)) ∈ rll ad ls)
  have hz : z < nL := by
    have h1 := rll_get hl hx
    have h2 := (Array.getElem?_eq_some_iff.mp h1).1
    rw [hl.1] at h2
    exact h2
  exact lv_iinc hexec hb hd hl hj rfl hz rfl (fun ls' h' => k ls' (by rw [rll_st]; exact h'))
theorem ma_iadd (hexec : p.tables.exec = Jvm.exec) (hb : c.code = cc) (hd : decode cc pc = .ok (.iadd, n)) (hlen : n = mjLen (.iadd)) (hp : mjPre (.iadd) pc b nL = true) (h : mjAlu (.iadd) pc b ls st = some (pc', ls', st')) (hl : lv_has arr nL (rll ad ls))
    (k : ∀ arr' : Array Slot, lv_has arr' nL (rll ad ls') → W p l e R s m args below meth c H locs cells slots Q (F0 m pc' arr' (rls ad st'))) : W p l e R s m args below meth c H locs cells slots Q (F0 m pc arr (rls ad st)) := by
  subst hlen
  obtain ⟨y, x, r, rfl, e⟩ : ∃ (y x : Int32) (r : List Value), st = .int y :: .int x :: r ∧ some (pc + 1, ls, Value.int (x + y) :: r) = some (pc', ls', st') := by
    simp only [mjAlu] at h
    split at h
    · exact ⟨_, _, _, rfl, h⟩
    · cases h
  simp only [Option.some.injEq, Prod.mk.injEq] at e
  obtain ⟨rfl, rfl, rfl⟩ := e
  exact lv_iadd hexec hb hd (k _ hl)
theorem ma_isub (hexec : p.tables.exec = Jvm.exec) (hb : c.code = cc) (hd : decode cc pc = .ok (.isub, n)) (hlen : n = mjLen (.isub)) (hp : mjPre (.isub) pc b nL = true) (h : mjAlu (.isub) pc b ls st = some (pc', ls', st')) (hl : lv_has arr nL (rll ad ls))
    (k : ∀ arr' : Array Slot, lv_has arr' nL (rll ad ls') → W p l e R s m args below meth c H locs cells slots Q (F0 m pc' arr' (rls ad st'))) : W p l e R s m args below meth c H locs cells slots Q (F0 m pc arr (rls ad st)) := by
  subst hlen
  obtain ⟨y, x, r, rfl, e⟩ : ∃ (y x : Int32) (r : List Value), st = .int y :: .int x :: r ∧ some (pc + 1, ls, Value.int (x - y) :: r) = some (pc', ls', st') := by
    simp only [mjAlu] at h
    split at h
    · exact ⟨_, _, _, rfl, h⟩
    · cases h
  simp only [Option.some.injEq, Prod.mk.injEq] at e
  obtain ⟨rfl, rfl, rfl⟩ := e
  exact lv_isub hexec hb hd (k _ hl)
theorem ma_imul (hexec : p.tables.exec = Jvm.exec) (hb : c.code = cc) (hd : decode cc pc = .ok (.imul, n)) (hlen : n = mjLen (.imul)) (hp : mjPre (.imul) pc b nL = true) (h : mjAlu (.imul) pc b ls st = some (pc', ls', st')) (hl : lv_has arr nL (rll ad ls))
    (k : ∀ arr' : Array Slot, lv_has arr' nL (rll ad ls') → W p l e R s m args below meth c H locs cells slots Q (F0 m pc' arr' (rls ad st'))) : W p l e R s m args below meth c H locs cells slots Q (F0 m pc arr (rls ad st)) := by
  subst hlen
  obtain ⟨y, x, r, rfl, e⟩ : ∃ (y x : Int32) (r : List Value), st = .int y :: .int x :: r ∧ some (pc + 1, ls, Value.int (x * y) :: r) = some (pc', ls', st') := by
    simp only [mjAlu] at h
    split at h
    · exact ⟨_, _, _, rfl, h⟩
    · cases h
  simp only [Option.some.injEq, Prod.mk.injEq] at e
  obtain ⟨rfl, rfl, rfl⟩ := e
  exact lv_imul hexec hb hd (k _ hl)
theorem ma_iand (hexec : p.tables.exec = Jvm.exec) (hb : c.code = cc) (hd : decode cc pc = .ok (.iand, n)) (hlen : n = mjLen (.iand)) (hp : mjPre (.iand) pc b nL = true) (h : mjAlu (.iand) pc b ls st = some (pc', ls', st')) (hl : lv_has arr nL (rll ad ls))
    (k : ∀ arr' : Array Slot, lv_has arr' nL (rll ad ls') → W p l e R s m args below meth c H locs cells slots Q (F0 m pc' arr' (rls ad st'))) : W p l e R s m args below meth c H locs cells slots Q (F0 m pc arr (rls ad st)) := by
  subst hlen
  obtain ⟨y, x, r, rfl, e⟩ : ∃ (y x : Int32) (r : List Value), st = .int y :: .int x :: r ∧ some (pc + 1, ls, Value.int (x &&& y) :: r) = some (pc', ls', st') := by
    simp only [mjAlu] at h
    split at h
    · exact ⟨_, _, _, rfl, h⟩
    · cases h
  simp only [Option.some.injEq, Prod.mk.injEq] at e
  obtain ⟨rfl, rfl, rfl⟩ := e
  exact lv_iand hexec hb hd (k _ hl)
theorem ma_ior (hexec : p.tables.exec = Jvm.exec) (hb : c.code = cc) (hd : decode cc pc = .ok (.ior, n)) (hlen : n = mjLen (.ior)) (hp : mjPre (.ior) pc b nL = true) (h : mjAlu (.ior) pc b ls st = some (pc', ls', st')) (hl : lv_has arr nL (rll ad ls))
    (k : ∀ arr' : Array Slot, lv_has arr' nL (rll ad ls') → W p l e R s m args below meth c H locs cells slots Q (F0 m pc' arr' (rls ad st'))) : W p l e R s m args below meth c H locs cells slots Q (F0 m pc arr (rls ad st)) := by
  subst hlen
  obtain ⟨y, x, r, rfl, e⟩ : ∃ (y x : Int32) (r : List Value), st = .int y :: .int x :: r ∧ some (pc + 1, ls, Value.int (x ||| y) :: r) = some (pc', ls', st') := by
    simp only [mjAlu] at h
    split at h
    · exact ⟨_, _, _, rfl, h⟩
    · cases h
  simp only [Option.some.injEq, Prod.mk.injEq] at e
  obtain ⟨rfl, rfl, rfl⟩ := e
  exact lv_ior hexec hb hd (k _ hl)
theorem ma_ixor (hexec : p.tables.exec = Jvm.exec) (hb : c.code = cc) (hd : decode cc pc = .ok (.ixor, n)) (hlen : n = mjLen (.ixor)) (hp : mjPre (.ixor) pc b nL = true) (h : mjAlu (.ixor) pc b ls st = some (pc', ls', st')) (hl : lv_has arr nL (rll ad ls))
    (k : ∀ arr' : Array Slot, lv_has arr' nL (rll ad ls') → W p l e R s m args below meth c H locs cells slots Q (F0 m pc' arr' (rls ad st'))) : W p l e R s m args below meth c H locs cells slots Q (F0 m pc arr (rls ad st)) := by
  subst hlen
  obtain ⟨y, x, r, rfl, e⟩ : ∃ (y x : Int32) (r : List Value), st = .int y :: .int x :: r ∧ some (pc + 1, ls, Value.int (x ^^^ y) :: r) = some (pc', ls', st') := by
    simp only [mjAlu] at h
    split at h
    · exact ⟨_, _, _, rfl, h⟩
    · cases h
  simp only [Option.some.injEq, Prod.mk.injEq] at e
  obtain ⟨rfl, rfl, rfl⟩ := e
  exact lv_ixor hexec hb hd (k _ hl)
theorem ma_ishl (hexec : p.tables.exec = Jvm.exec) (hb : c.code = cc) (hd : decode cc pc = .ok (.ishl, n)) (hlen : n = mjLen (.ishl)) (hp : mjPre (.ishl) pc b nL = true) (h : mjAlu (.ishl) pc b ls st = some (pc', ls', st')) (hl : lv_has arr nL (rll ad ls))
    (k : ∀ arr' : Array Slot, lv_has arr' nL (rll ad ls') → W p l e R s m args below meth c H locs cells slots Q (F0 m pc' arr' (rls ad st'))) : W p l e R s m args below meth c H locs cells slots Q (F0 m pc arr (rls ad st)) := by
  subst hlen
  obtain ⟨y, x, r, rfl, e⟩ : ∃ (y x : Int32) (r : List Value), st = .int y :: .int x :: r ∧ some (pc + 1, ls, Value.int (x <<< (y &&& 31)) :: r) = some (pc', ls', st') := by
    simp only [mjAlu] at h
    split at h
    · exact ⟨_, _, _, rfl, h⟩
    · cases h
  simp only [Option.some.injEq, Prod.mk.injEq] at e
  obtain ⟨rfl, rfl, rfl⟩ := e
  exact lv_ishl hexec hb hd (k _ hl)
theorem ma_ishr (hexec : p.tables.exec = Jvm.exec) (hb : c.code = cc) (hd : decode cc pc = .ok (.ishr, n)) (hlen : n = mjLen (.ishr)) (hp : mjPre (.ishr) pc b nL = true) (h : mjAlu (.ishr) pc b ls st = some (pc', ls', st')) (hl : lv_has arr nL (rll ad ls))
    (k : ∀ arr' : Array Slot, lv_has arr' nL (rll ad ls') → W p l e R s m args below meth c H locs cells slots Q (F0 m pc' arr' (rls ad st'))) : W p l e R s m args below meth c H locs cells slots Q (F0 m pc arr (rls ad st)) := by
  subst hlen
  obtain ⟨y, x, r, rfl, e⟩ : ∃ (y x : Int32) (r : List Value), st = .int y :: .int x :: r ∧ some (pc + 1, ls, Value.int (x >>> (y &&& 31)) :: r) = some (pc', ls', st') := by
    simp only [mjAlu] at h
    split at h
    · exact ⟨_, _, _, rfl, h⟩
    · cases h
  simp only [Option.some.injEq, Prod.mk.injEq] at e
  obtain ⟨rfl, rfl, rfl⟩ := e
  exact lv_ishr hexec hb hd (k _ hl)
theorem ma_iushr (hexec : p.tables.exec = Jvm.exec) (hb : c.code = cc) (hd : decode cc pc = .ok (.iushr, n)) (hlen : n = mjLen (.iushr)) (hp : mjPre (.iushr) pc b nL = true) (h : mjAlu (.iushr) pc b ls st = some (pc', ls', st')) (hl : lv_has arr nL (rll ad ls))
    (k : ∀ arr' : Array Slot, lv_has arr' nL (rll ad ls') → W p l e R s m args below meth c H locs cells slots Q (F0 m pc' arr' (rls ad st'))) : W p l e R s m args below meth c H locs cells slots Q (F0 m pc arr (rls ad st)) := by
  subst hlen
  obtain ⟨y, x, r, rfl, e⟩ : ∃ (y x : Int32) (r : List Value), st = .int y :: .int x :: r ∧ some (pc + 1, ls, Value.int ((x.toUInt32 >>> (y.toUInt32 &&& Int32.toUInt32 31)).toInt32) :: r) = some (pc', ls', st') := by
    simp only [mjAlu] at h
    split at h
    · exact ⟨_, _, _, rfl, h⟩
    · cases h
  simp only [Option.some.injEq, Prod.mk.injEq] at e
  obtain ⟨rfl, rfl, rfl⟩ := e
  exact lv_iushr hexec hb hd rfl (k _ hl)
theorem ma_ladd (hexec : p.tables.exec = Jvm.exec) (hb : c.code = cc) (hd : decode cc pc = .ok (.ladd, n)) (hlen : n = mjLen (.ladd)) (hp : mjPre (.ladd) pc b nL = true) (h : mjAlu (.ladd) pc b ls st = some (pc', ls', st')) (hl : lv_has arr nL (rll ad ls))
    (k : ∀ arr' : Array Slot, lv_has arr' nL (rll ad ls') → W p l e R s m args below meth c H locs cells slots Q (F0 m pc' arr' (rls ad st'))) : W p l e R s m args below meth c H locs cells slots Q (F0 m pc arr (rls ad st)) := by
  subst hlen
  obtain ⟨y, x, r, rfl, e⟩ : ∃ (y x : Int64) (r : List Value), st = .long y :: .long x :: r ∧ some (pc + 1, ls, Value.long (x + y) :: r) = some (pc', ls', st') := by
    simp only [mjAlu] at h
    split at h
    · exact ⟨_, _, _, rfl, h⟩
    · cases h
  simp only [Option.some.injEq, Prod.mk.injEq] at e
  obtain ⟨rfl, rfl, rfl⟩ := e
  exact lv_ladd hexec hb hd (k _ hl)
theorem ma_lsub (hexec : p.tables.exec = Jvm.exec) (hb : c.code = cc) (hd : decode cc pc = .ok (.lsub, n)) (hlen : n = mjLen (.lsub)) (hp : mjPre (.lsub) pc b nL = true) (h : mjAlu (.lsub) pc b ls st = some (pc', ls', st')) (hl : lv_has arr nL (rll ad ls))
    (k : ∀ arr' : Array Slot, lv_has arr' nL (rll ad ls') → W p l e R s m args below meth c H locs cells slots Q (F0 m pc' arr' (rls ad st'))) : W p l e R s m args below meth c H locs cells slots Q (F0 m pc arr (rls ad st)) := by
  subst hlen
  obtain ⟨y, x, r, rfl, e⟩ : ∃ (y x : Int64) (r : List Value), st = .long y :: .long x :: r ∧ some (pc + 1, ls, Value.long (x - y) :: r) = some (pc', ls', st') := by
    simp only [mjAlu] at h
    split at h
    · exact ⟨_, _, _, rfl, h⟩
    · cases h
  simp only [Option.some.injEq, Prod.mk.injEq] at e
  obtain ⟨rfl, rfl, rfl⟩ := e
  exact lv_lsub hexec hb hd (k _ hl)
theorem ma_lmul (hexec : p.tables.exec = Jvm.exec) (hb : c.code = cc) (hd : decode cc pc = .ok (.lmul, n)) (hlen : n = mjLen (.lmul)) (hp : mjPre (.lmul) pc b nL = true) (h : mjAlu (.lmul) pc b ls st = some (pc', ls', st')) (hl : lv_has arr nL (rll ad ls))
    (k : ∀ arr' : Array Slot, lv_has arr' nL (rll ad ls') → W p l e R s m args below meth c H locs cells slots Q (F0 m pc' arr' (rls ad st'))) : W p l e R s m args below meth c H locs cells slots Q (F0 m pc arr (rls ad st)) := by
  subst hlen
  obtain ⟨y, x, r, rfl, e⟩ : ∃ (y x : Int64) (r : List Value), st = .long y :: .long x :: r ∧ some (pc + 1, ls, Value.long (x * y) :: r) = some (pc', ls', st') := by
    simp only [mjAlu] at h
    split at h
    · exact ⟨_, _, _, rfl, h⟩
    · cases h
  simp only [Option.some.injEq, Prod.mk.injEq] at e
  obtain ⟨rfl, rfl, rfl⟩ := e
  exact lv_lmul hexec hb hd (k _ hl)
theorem ma_land (hexec : p.tables.exec = Jvm.exec) (hb : c.code = cc) (hd : decode cc pc = .ok (.land, n)) (hlen : n = mjLen (.land)) (hp : mjPre (.land) pc b nL = true) (h : mjAlu (.land) pc b ls st = some (pc', ls', st')) (hl : lv_has arr nL (rll ad ls))
    (k : ∀ arr' : Array Slot, lv_has arr' nL (rll ad ls') → W p l e R s m args below meth c H locs cells slots Q (F0 m pc' arr' (rls ad st'))) : W p l e R s m args below meth c H locs cells slots Q (F0 m pc arr (rls ad st)) := by
  subst hlen
  obtain ⟨y, x, r, rfl, e⟩ : ∃ (y x : Int64) (r : List Value), st = .long y :: .long x :: r ∧ some (pc + 1, ls, Value.long (x &&& y) :: r) = some (pc', ls', st') := by
    simp only [mjAlu] at h
    split at h
    · exact ⟨_, _, _, rfl, h⟩
    · cases h
  simp only [Option.some.injEq, Prod.mk.injEq] at e
  obtain ⟨rfl, rfl, rfl⟩ := e
  exact lv_land hexec hb hd (k _ hl)
theorem ma_lor (hexec : p.tables.exec = Jvm.exec) (hb : c.code = cc) (hd : decode cc pc = .ok (.lor, n)) (hlen : n = mjLen (.lor)) (hp : mjPre (.lor) pc b nL = true) (h : mjAlu (.lor) pc b ls st = some (pc', ls', st')) (hl : lv_has arr nL (rll ad ls))
    (k : ∀ arr' : Array Slot, lv_has arr' nL (rll ad ls') → W p l e R s m args below meth c H locs cells slots Q (F0 m pc' arr' (rls ad st'))) : W p l e R s m args below meth c H locs cells slots Q (F0 m pc arr (rls ad st)) := by
  subst hlen
  obtain ⟨y, x, r, rfl, e⟩ : ∃ (y x : Int64) (r : List Value), st = .long y :: .long x :: r ∧ some (pc + 1, ls, Value.long (x ||| y) :: r) = some (pc', ls', st') := by
    simp only [mjAlu] at h
    split at h
    · exact ⟨_, _, _, rfl, h⟩
    · cases h
  simp only [Option.some.injEq, Prod.mk.injEq] at e
  obtain ⟨rfl, rfl, rfl⟩ := e
  exact lv_lor hexec hb hd (k _ hl)
theorem ma_lxor (hexec : p.tables.exec = Jvm.exec) (hb : c.code = cc) (hd : decode cc pc = .ok (.lxor, n)) (hlen : n = mjLen (.lxor)) (hp : mjPre (.lxor) pc b nL = true) (h : mjAlu (.lxor) pc b ls st = some (pc', ls', st')) (hl : lv_has arr nL (rll ad ls))
    (k : ∀ arr' : Array Slot, lv_has arr' nL (rll ad ls') → W p l e R s m args below meth c H locs cells slots Q (F0 m pc' arr' (rls ad st'))) : W p l e R s m args below meth c H locs cells slots Q (F0 m pc arr (rls ad st)) := by
  subst hlen
  obtain ⟨y, x, r, rfl, e⟩ : ∃ (y x : Int64) (r : List Value), st = .long y :: .long x :: r ∧ some (pc + 1, ls, Value.long (x ^^^ y) :: r) = some (pc', ls', st') := by
    simp only [mjAlu] at h
    split at h
    · exact ⟨_, _, _, rfl, h⟩
    · cases h
  simp only [Option.some.injEq, Prod.mk.injEq] at e
  obtain ⟨rfl, rfl, rfl⟩ := e
  exact lv_lxor hexec hb hd (k _ hl)
theorem ma_lshl (hexec : p.tables.exec = Jvm.exec) (hb : c.code = cc) (hd : decode cc pc = .ok (.lshl, n)) (hlen : n = mjLen (.lshl)) (hp : mjPre (.lshl) pc b nL = true) (h : mjAlu (.lshl) pc b ls st = some (pc', ls', st')) (hl : lv_has arr nL (rll ad ls))
    (k : ∀ arr' : Array Slot, lv_has arr' nL (rll ad ls') → W p l e R s m args below meth c H locs cells slots Q (F0 m pc' arr' (rls ad st'))) : W p l e R s m args below meth c H locs cells slots Q (F0 m pc arr (rls ad st)) := by
  subst hlen
  obtain ⟨y, x, r, rfl, e⟩ : ∃ (y : Int32) (x : Int64) (r : List Value), st = .int y :: .long x :: r ∧ some (pc + 1, ls, Value.long (x <<< (y.toInt64 &&& 63)) :: r) = some (pc', ls', st') := by
    simp only [mjAlu] at h
    split at h
    · exact ⟨_, _, _, rfl, h⟩
    · cases h
  simp only [Option.some.injEq, Prod.mk.injEq] at e
  obtain ⟨rfl, rfl, rfl⟩ := e
  exact lv_lshl hexec hb hd rfl (k _ hl)
theorem ma_lshr (hexec : p.tables.exec = Jvm.exec) (hb : c.code = cc) (hd : decode cc pc = .ok (.lshr, n)) (hlen : n = mjLen (.lshr)) (hp : mjPre (.lshr) pc b nL = true) (h : mjAlu (.lshr) pc b ls st = some (pc', ls', st')) (hl : lv_has arr nL (rll ad ls))
    (k : ∀ arr' : Array Slot, lv_has arr' nL (rll ad ls') → W p l e R s m args below meth c H locs cells slots Q (F0 m pc' arr' (rls ad st'))) : W p l e R s m args below meth c H locs cells slots Q (F0 m pc arr (rls ad st)) := by
  subst hlen
  obtain ⟨y, x, r, rfl, e⟩ : ∃ (y : Int32) (x : Int64) (r : List Value), st = .int y :: .long x :: r ∧ some (pc + 1, ls, Value.long (x >>> (y.toInt64 &&& 63)) :: r) = some (pc', ls', st') := by
    simp only [mjAlu] at h
    split at h
    · exact ⟨_, _, _, rfl, h⟩
    · cases h
  simp only [Option.some.injEq, Prod.mk.injEq] at e
  obtain ⟨rfl, rfl, rfl⟩ := e
  exact lv_lshr hexec hb hd rfl (k _ hl)
theorem ma_lushr (hexec : p.tables.exec = Jvm.exec) (hb : c.code = cc) (hd : decode cc pc = .ok (.lushr, n)) (hlen : n = mjLen (.lushr)) (hp : mjPre (.lushr) pc b nL = true) (h : mjAlu (.lushr) pc b ls st = some (pc', ls', st')) (hl : lv_has arr nL (rll ad ls))
    (k : ∀ arr' : Array Slot, lv_has arr' nL (rll ad ls') → W p l e R s m args below meth c H locs cells slots Q (F0 m pc' arr' (rls ad st'))) : W p l e R s m args below meth c H locs cells slots Q (F0 m pc arr (rls ad st)) := by
  subst hlen
  obtain ⟨y, x, r, rfl, e⟩ : ∃ (y : Int32) (x : Int64) (r : List Value), st = .int y :: .long x :: r ∧ some (pc + 1, ls, Value.long ((x.toUInt64 >>> (y.toInt64.toUInt64 &&& Int64.toUInt64 63)).toInt64) :: r) = some (pc', ls', st') := by
    simp only [mjAlu] at h
    split at h
    · exact ⟨_, _, _, rfl, h⟩
    · cases h
  simp only [Option.some.injEq, Prod.mk.injEq] at e
  obtain ⟨rfl, rfl, rfl⟩ := e
  exact lv_lushr hexec hb hd rfl (k _ hl)
theorem ma_lcmp (hexec : p.tables.exec = Jvm.exec) (hb : c.code = cc) (hd : decode cc pc = .ok (.lcmp, n)) (hlen : n = mjLen (.lcmp)) (hp : mjPre (.lcmp) pc b nL = true) (h : mjAlu (.lcmp) pc b ls st = some (pc', ls', st')) (hl : lv_has arr nL (rll ad ls))
    (k : ∀ arr' : Array Slot, lv_has arr' nL (rll ad ls') → W p l e R s m args below meth c H locs cells slots Q (F0 m pc' arr' (rls ad st'))) : W p l e R s m args below meth c H locs cells slots Q (F0 m pc arr (rls ad st)) := by
  subst hlen
  obtain ⟨y, x, r, rfl, e⟩ : ∃ (y x : Int64) (r : List Value), st = .long y :: .long x :: r ∧ some (pc + 1, ls, Value.int (lg_cmp x y) :: r) = some (pc', ls', st') := by
    simp only [mjAlu] at h
    split at h
    · exact ⟨_, _, _, rfl, h⟩
    · cases h
  simp only [Option.some.injEq, Prod.mk.injEq] at e
  obtain ⟨rfl, rfl, rfl⟩ := e
  exact W.lcmp hexec hb hd (k _ hl)
theorem ma_irem (hexec : p.tables.exec = Jvm.exec) (hb : c.code = cc) (hd : decode cc pc = .ok (.irem, n)) (hlen : n = mjLen (.irem)) (hp : mjPre (.irem) pc b nL = true) (h : mjAlu (.irem) pc b ls st = some (pc', ls', st')) (hl : lv_has arr nL (rll ad ls))
    (k : ∀ arr' : Array Slot, lv_has arr' nL (rll ad ls') → W p l e R s m args below meth c H locs cells slots Q (F0 m pc' arr' (rls ad st'))) : W p l e R s m args below meth c H locs cells slots Q (F0 m pc arr (rls ad st)) := by
  subst hlen
  obtain ⟨y, x, r, hy, rfl, e⟩ : ∃ (y x : Int32) (r : List Value), ¬ y = 0 ∧ st = .int y :: .int x :: r ∧ some (pc + 1, ls, Value.int (x - x / y * y) :: r) = some (pc', ls', st') := by
    simp only [mjAlu] at h
    split at h
    · split at h
      · cases h
      · rename_i q; exact ⟨_, _, _, q, rfl, h⟩
    · cases h
  simp only [Option.some.injEq, Prod.mk.injEq] at e
  obtain ⟨rfl, rfl, rfl⟩ := e
  exact lv_irem hexec hb hd hy (k _ hl)
theorem ma_i2l (hexec : p.tables.exec = Jvm.exec) (hb : c.code = cc) (hd : decode cc pc = .ok (.i2l, n)) (hlen : n = mjLen (.i2l)) (hp : mjPre (.i2l) pc b nL = true) (h : mjAlu (.i2l) pc b ls st = some (pc', ls', st')) (hl : lv_has arr nL (rll ad ls))
    (k : ∀ arr' : Array Slot, lv_has arr' nL (rll ad ls') → W p l e R s m args below meth c H locs cells slots Q (F0 m pc' arr' (rls ad st'))) : W p l e R s m args below meth c H locs cells slots Q (F0 m pc arr (rls ad st)) := by
  subst hlen
  obtain ⟨x, r, rfl, e⟩ : ∃ (x : Int32) (r : List Value), st = .int x :: r ∧ some (pc + 1, ls, Value.long (x.toInt64) :: r) = some (pc', ls', st') := by
    simp only [mjAlu] at h
    split at h
    · exact ⟨_, _, rfl, h⟩
    · cases h
  simp only [Option.some.injEq, Prod.mk.injEq] at e
  obtain ⟨rfl, rfl, rfl⟩ := e
  exact lv_i2l hexec hb hd rfl (k _ hl)
theorem ma_l2i (hexec : p.tables.exec = Jvm.exec) (hb : c.code = cc) (hd : decode cc pc = .ok (.l2i, n)) (hlen : n = mjLen (.l2i)) (hp : mjPre (.l2i) pc b nL = true) (h : mjAlu (.l2i) pc b ls st = some (pc', ls', st')) (hl : lv_has arr nL (rll ad ls))
    (k : ∀ arr' : Array Slot, lv_has arr' nL (rll ad ls') → W p l e R s m args below meth c H locs cells slots Q (F0 m pc' arr' (rls ad st'))) : W p l e R s m args below meth c H locs cells slots Q (F0 m pc arr (rls ad st)) := by
  subst hlen
  obtain ⟨x, r, rfl, e⟩ : ∃ (x : Int64) (r : List Value), st = .long x :: r ∧ some (pc + 1, ls, Value.int (x.toInt32) :: r) = some (pc', ls', st') := by
    simp only [mjAlu] at h
    split at h
    · exact ⟨_, _, rfl, h⟩
    · cases h
  simp only [Option.some.injEq, Prod.mk.injEq] at e
  obtain ⟨rfl, rfl, rfl⟩ := e
  exact lv_l2i hexec hb hd rfl (k _ hl)
theorem ma_i2b (hexec : p.tables.exec = Jvm.exec) (hb : c.code = cc) (hd : decode cc pc = .ok (.i2b, n)) (hlen : n = mjLen (.i2b)) (hp : mjPre (.i2b) pc b nL = true) (h : mjAlu (.i2b) pc b ls st = some (pc', ls', st')) (hl : lv_has arr nL (rll ad ls))
    (k : ∀ arr' : Array Slot, lv_has arr' nL (rll ad ls') → W p l e R s m args below meth c H locs cells slots Q (F0 m pc' arr' (rls ad st'))) : W p l e R s m args below meth c H locs cells slots Q (F0 m pc arr (rls ad st)) := by
  subst hlen
  obtain ⟨x, r, rfl, e⟩ : ∃ (x : Int32) (r : List Value), st = .int x :: r ∧ some (pc + 1, ls, Value.int (x.toInt8.toInt32) :: r) = some (pc', ls', st') := by
    simp only [mjAlu] at h
    split at h
    · exact ⟨_, _, rfl, h⟩
    · cases h
  simp only [Option.some.injEq, Prod.mk.injEq] at e
  obtain ⟨rfl, rfl, rfl⟩ := e
  exact lv_i2b hexec hb hd rfl (k _ hl)
theorem ma_dup (hexec : p.tables.exec = Jvm.exec) (hb : c.code = cc) (hd : decode cc pc = .ok (.dup, n)) (hlen : n = mjLen (.dup)) (hp : mjPre (.dup) pc b nL = true) (h : mjAlu (.dup) pc b ls st = some (pc', ls', st')) (hl : lv_has arr nL (rll ad ls))
    (k : ∀ arr' : Array Slot, lv_has arr' nL (rll ad ls') → W p l e R s m args below meth c H locs cells slots Q (F0 m pc' arr' (rls ad st'))) : W p l e R s m args below meth c H locs cells slots Q (F0 m pc arr (rls ad st)) := by
  subst hlen
  obtain ⟨v, r, hv, rfl, e⟩ : ∃ (v : Value) (r : List Value), v.category = 1 ∧ st = v :: r ∧ some (pc + 1, ls, v :: v :: r) = some (pc', ls', st') := by
    simp only [mjAlu] at h
    split at h
    · split at h
      · rename_i q; exact ⟨_, _, q, rfl, h⟩
      · cases h
    · cases h
  simp only [Option.some.injEq, Prod.mk.injEq] at e
  obtain ⟨rfl, rfl, rfl⟩ := e
  exact lv_dup hexec hb hd ((rl_cat ad v).trans hv) (k _ hl)
theorem ma_pop (hexec : p.tables.exec = Jvm.exec) (hb : c.code = cc) (hd : decode cc pc = .ok (.pop, n)) (hlen : n = mjLen (.pop)) (hp : mjPre (.pop) pc b nL = true) (h : mjAlu (.pop) pc b ls st = some (pc', ls', st')) (hl : lv_has arr nL (rll ad ls))
    (k : ∀ arr' : Array Slot, lv_has arr' nL (rll ad ls') → W p l e R s m args below meth c H locs cells slots Q (F0 m pc' arr' (rls ad st'))) : W p l e R s m args below meth c H locs cells slots Q (F0 m pc arr (rls ad st)) := by
  subst hlen
  obtain ⟨v, r, hv, rfl, e⟩ : ∃ (v : Value) (r : List Value), v.category = 1 ∧ st = v :: r ∧ some (pc + 1, ls, r) = some (pc', ls', st') := by
    simp only [mjAlu] at h
    split at h
    · split at h
      · rename_i q; exact ⟨_, _, q, rfl, h⟩
      · cases h
    · cases h
  simp only [Option.some.injEq, Prod.mk.injEq] at e
  obtain ⟨rfl, rfl, rfl⟩ := e
  exact lv_pop hexec hb hd ((rl_cat ad v).trans hv) (k _ hl)
theorem ma_dup2 (hexec : p.tables.exec = Jvm.exec) (hb : c.code = cc) (hd : decode cc pc = .ok (.dup2, n)) (hlen : n = mjLen (.dup2)) (hp : mjPre (.dup2) pc b nL = true) (h : mjAlu (.dup2) pc b ls st = some (pc', ls', st')) (hl : lv_has arr nL (rll ad ls))
    (k : ∀ arr' : Array Slot, lv_has arr' nL (rll ad ls') → W p l e R s m args below meth c H locs cells slots Q (F0 m pc' arr' (rls ad st'))) : W p l e R s m args below meth c H locs cells slots Q (F0 m pc arr (rls ad st)) := by
  subst hlen
  obtain ⟨v, w, r, hv, rfl, e⟩ : ∃ (v w : Value) (r : List Value), (v.category = 1 ∧ w.category = 1) ∧ st = v :: w :: r ∧ some (pc + 1, ls, v :: w :: v :: w :: r) = some (pc', ls', st') := by
    simp only [mjAlu] at h
    split at h
    · split at h
      · rename_i q; exact ⟨_, _, _, q, rfl, h⟩
      · cases h
    · cases h
  simp only [Option.some.injEq, Prod.mk.injEq] at e
  obtain ⟨rfl, rfl, rfl⟩ := e
  exact lv_dup2_11 hexec hb hd ((rl_cat ad v).trans hv.1) ((rl_cat ad w).trans hv.2) (k _ hl)
theorem ma_ifCond {q : Jvm.ClassFile.Cond} {z : Int} (hexec : p.tables.exec = Jvm.exec) (hb : c.code = cc) (hd : decode cc pc = .ok (.ifCond q z, n)) (hlen : n = mjLen (.ifCond q z)) (hp : mjPre (.ifCond q z) pc b nL = true) (h : mjAlu (.ifCond q z) pc b ls st = some (pc', ls', st')) (hl : lv_has arr nL (rll ad ls))
    (k : ∀ arr' : Array Slot, lv_has arr' nL (rll ad ls') → W p l e R s m args below meth c H locs cells slots Q (F0 m pc' arr' (rls ad st'))) : W p l e R s m args below meth c H locs cells slots Q (F0 m pc arr (rls ad st)) := by
  subst hlen
  obtain ⟨x, r, rfl, e⟩ : ∃ (x : Int32) (r : List Value), st = .int x :: r ∧ some (if mjC q x 0 then b else pc + 3, ls, r) = some (pc', ls', st') := by
    simp only [mjAlu] at h
    split at h
    · exact ⟨_, _, rfl, h⟩
    · cases h
  simp only [Option.some.injEq, Prod.mk.injEq] at e
  obtain ⟨e1, rfl, rfl⟩ := e
  have ht := of_decide_eq_true hp
  have K1 : mjC q x 0 = true → W p l e R s m args below meth c H locs cells slots Q (F0 m b arr (rls ad r)) := fun hq => by
    rw [if_pos hq] at e1
    rw [e1]
    exact k _ hl
  have K2 : mjC q x 0 = false → W p l e R s m args below meth c H locs cells slots Q (F0 m (pc + 3) arr (rls ad r)) := fun hq => by
    rw [if_neg (by simp [hq])] at e1
    rw [e1]
    exact k _ hl
  cases q with
  | eq => exact lv_if_eq hexec hb hd ht (fun q => K1 (by simp [mjC, q])) (fun q => K2 (by simp [mjC, q]))
  | ne => exact lv_if_ne hexec hb hd ht (fun q => K1 (by simp [mjC, q])) (fun q => K2 (by simp [mjC, q]))
  | lt => exact lv_if_lt hexec hb hd ht (fun q => K1 (by simp [mjC, q])) (fun q => K2 (by simp [mjC, q]))
  | ge => exact lv_if_ge hexec hb hd ht (fun q => K1 (by simp [mjC, q])) (fun q => K2 (by simp [mjC, q]))
  | gt => exact lv_if_gt hexec hb hd ht (fun q => K1 (by simp [mjC, q])) (fun q => K2 (by simp [mjC, q]))
  | le => exact lv_if_le hexec hb hd ht (fun q => K1 (by simp [mjC, q])) (fun q => K2 (by simp [mjC, q]))

theorem ma_if_icmp {q : Jvm.ClassFile.Cond} {z : Int} (hexec : p.tables.exec = Jvm.exec) (hb : c.code = cc) (hd : decode cc pc = .ok (.if_icmp q z, n)) (hlen : n = mjLen (.if_icmp q z)) (hp : mjPre (.if_icmp q z) pc b nL = true) (h : mjAlu (.if_icmp q z) pc b ls st = some (pc', ls', st')) (hl : lv_has arr nL (rll ad ls))
    (k : ∀ arr' : Array Slot, lv_has arr' nL (rll ad ls') → W p l e R s m args below meth c H locs cells slots Q (F0 m pc' arr' (rls ad st'))) : W p l e R s m args below meth c H locs cells slots Q (F0 m pc arr (rls ad st)) := by
  subst hlen
  obtain ⟨y, x, r, rfl, e⟩ : ∃ (y x : Int32) (r : List Value), st = .int y :: .int x :: r ∧ some (if mjC q x y then b else pc + 3, ls, r) = some (pc', ls', st') := by
    simp only [mjAlu] at h
    split at h
    · exact ⟨_, _, _, rfl, h⟩
    · cases h
  simp only [Option.some.injEq, Prod.mk.injEq] at e
  obtain ⟨e1, rfl, rfl⟩ := e
  have ht := of_decide_eq_true hp
  have K1 : mjC q x y = true → W p l e R s m args below meth c H locs cells slots Q (F0 m b arr (rls ad r)) := fun hq => by
    rw [if_pos hq] at e1
    rw [e1]
    exact k _ hl
  have K2 : mjC q x y = false → W p l e R s m args below meth c H locs cells slots Q (F0 m (pc + 3) arr (rls ad r)) := fun hq => by
    rw [if_neg (by simp [hq])] at e1
    rw [e1]
    exact k _ hl
  cases q with
  | eq => exact lv_icmp_eq hexec hb hd ht (fun q => K1 (by simp [mjC, q])) (fun q => K2 (by simp [mjC, q]))
  | ne => exact lv_icmp_ne hexec hb hd ht (fun q => K1 (by simp [mjC, q])) (fun q => K2 (by simp [mjC, q]))
  | lt => exact lv_icmp_lt hexec hb hd ht (fun q => K1 (by simp [mjC, q])) (fun q => K2 (by simp [mjC, q]))
  | ge => exact lv_icmp_ge hexec hb hd ht (fun q => K1 (by simp [mjC, q])) (fun q => K2 (by simp [mjC, q]))
  | gt => exact lv_icmp_gt hexec hb hd ht (fun q => K1 (by simp [mjC, q])) (fun q => K2 (by simp [mjC, q]))
  | le => exact lv_icmp_le hexec hb hd ht (fun q => K1 (by simp [mjC, q])) (fun q => K2 (by simp [mjC, q]))

theorem ma_goto {z : Int} (hexec : p.tables.exec = Jvm.exec) (hb : c.code = cc) (hd : decode cc pc = .ok (.goto z, n)) (hlen : n = mjLen (.goto z)) (hp : mjPre (.goto z) pc b nL = true) (h : mjAlu (.goto z) pc b ls st = some (pc', ls', st')) (hl : lv_has arr nL (rll ad ls))
    (k : ∀ arr' : Array Slot, lv_has arr' nL (rll ad ls') → W p l e R s m args below meth c H locs cells slots Q (F0 m pc' arr' (rls ad st'))) : W p l e R s m args below meth c H locs cells slots Q (F0 m pc arr (rls ad st)) := by
  subst hlen
  simp only [mjAlu, Option.some.injEq, Prod.mk.injEq] at h
  obtain ⟨rfl, rfl, rfl⟩ := h
  exact lv_goto hexec hb hd (of_decide_eq_true hp) (k _ hl)
theorem ma_tableswitch {dflt lo hi : Int} {offs : Array Int} (hexec : p.tables.exec = Jvm.exec) (hb : c.code = cc) (hd : decode cc pc = .ok (.tableswitch dflt lo hi offs, n)) (h : mjAlu (.tableswitch dflt lo hi offs) pc b ls st = some (pc', ls', st')) (hl : lv_has arr nL (rll ad ls))
    (k : ∀ arr' : Array Slot, lv_has arr' nL (rll ad ls') → W p l e R s m args below meth c H locs cells slots Q (F0 m pc' arr' (rls ad st'))) : W p l e R s m args below meth c H locs cells slots Q (F0 m pc arr (rls ad st)) := by
  simp only [mjAlu] at h
  split at h
  · rename_i x r
    split at h
    · rename_i hx
      split at h
      · rename_i hz
        simp only [Option.some.injEq, Prod.mk.injEq] at h
        obtain ⟨rfl, rfl, rfl⟩ := h
        exact lv_tableOut hexec hb hd hx hz.symm (k _ hl)
      · cases h
    · rename_i hx
      split at h
      · rename_i o ho
        split at h
        · rename_i hz
          simp only [Option.some.injEq, Prod.mk.injEq] at h
          obtain ⟨rfl, rfl, rfl⟩ := h
          exact lv_tableIn hexec hb hd (fun q => hx (Or.inl q)) (fun q => hx (Or.inr q)) ho hz.symm (k _ hl)
        · cases h
      · cases h
  · cases h
theorem ma_lookupswitch {dflt : Int} {ps : Array (Int × Int)} (hexec : p.tables.exec = Jvm.exec) (hb : c.code = cc) (hd : decode cc pc = .ok (.lookupswitch dflt ps, n)) (h : mjAlu (.lookupswitch dflt ps) pc b ls st = some (pc', ls', st')) (hl : lv_has arr nL (rll ad ls))
    (k : ∀ arr' : Array Slot, lv_has arr' nL (rll ad ls') → W p l e R s m args below meth c H locs cells slots Q (F0 m pc' arr' (rls ad st'))) : W p l e R s m args below meth c H locs cells slots Q (F0 m pc arr (rls ad st)) := by
  simp only [mjAlu] at h
  split at h
  · rename_i x r
    split at h
    · rename_i hz
      simp only [Option.some.injEq, Prod.mk.injEq] at h
      obtain ⟨rfl, rfl, rfl⟩ := h
      exact lv_lookup hexec hb hd hz.1 rfl hz.2.symm (k _ hl)
    · cases h
  · cases h
theorem mjAlu_ok {i : Instr} (hexec : p.tables.exec = Jvm.exec) (hb : c.code = cc) (hd : decode cc pc = .ok (i, n)) (hlen : mjLen i = 0 ∨ n = mjLen i) (hp : mjPre i pc b nL = true) (h : mjAlu i pc b ls st = some (pc', ls', st')) (hl : lv_has arr nL (rll ad ls))
    (k : ∀ arr' : Array Slot, lv_has arr' nL (rll ad ls') → W p l e R s m args below meth c H locs cells slots Q (F0 m pc' arr' (rls ad st'))) : W p l e R s m args below meth c H locs cells slots Q (F0 m pc arr (rls ad st)) := by
  cases i with
  | iconst z => exact ma_iconst hexec hb hd (hlen.resolve_left (by simp [mjLen])) hp h hl k
  | bipush z => exact ma_bipush hexec hb hd (hlen.resolve_left (by simp [mjLen])) hp h hl k
  | sipush z => exact ma_sipush hexec hb hd (hlen.resolve_left (by simp [mjLen])) hp h hl k
  | lconst z => exact ma_lconst hexec hb hd (hlen.resolve_left (by simp [mjLen])) hp h hl k
  | iload_n z => exact ma_iload_n hexec hb hd (hlen.resolve_left (by simp [mjLen])) hp h hl k
  | iload z => exact ma_iload hexec hb hd (hlen.resolve_left (by simp [mjLen])) hp h hl k
  | lload_n z => exact ma_lload_n hexec hb hd (hlen.resolve_left (by simp [mjLen])) hp h hl k
  | lload z => exact ma_lload hexec hb hd (hlen.resolve_left (by simp [mjLen])) hp h hl k
  | aload_n z => exact ma_aload_n hexec hb hd (hlen.resolve_left (by simp [mjLen])) hp h hl k
  | aload z => exact ma_aload hexec hb hd (hlen.resolve_left (by simp [mjLen])) hp h hl k
  | istore_n z => exact ma_istore_n hexec hb hd (hlen.resolve_left (by simp [mjLen])) hp h hl k
  | istore z => exact ma_istore hexec hb hd (hlen.resolve_left (by simp [mjLen])) hp h hl k
  | lstore_n z => exact ma_lstore_n hexec hb hd (hlen.resolve_left (by simp [mjLen])) hp h hl k
  | lstore z => exact ma_lstore hexec hb hd (hlen.resolve_left (by simp [mjLen])) hp h hl k
  | astore_n z => exact ma_astore_n hexec hb hd (hlen.resolve_left (by simp [mjLen])) hp h hl k
  | astore z => exact ma_astore hexec hb hd (hlen.resolve_left (by simp [mjLen])) hp h hl k
  | iinc z w => exact ma_iinc hexec hb hd (hlen.resolve_left (by simp [mjLen])) hp h hl k
  | iadd => exact ma_iadd hexec hb hd (hlen.resolve_left (by simp [mjLen])) hp h hl k
  | isub => exact ma_isub hexec hb hd (hlen.resolve_left (by simp [mjLen])) hp h hl k
  | imul => exact ma_imul hexec hb hd (hlen.resolve_left (by simp [mjLen])) hp h hl k
  | iand => exact ma_iand hexec hb hd (hlen.resolve_left (by simp [mjLen])) hp h hl k
  | ior => exact ma_ior hexec hb hd (hlen.resolve_left (by simp [mjLen])) hp h hl k
  | ixor => exact ma_ixor hexec hb hd (hlen.resolve_left (by simp [mjLen])) hp h hl k
  | ishl => exact ma_ishl hexec hb hd (hlen.resolve_left (by simp [mjLen])) hp h hl k
  | ishr => exact ma_ishr hexec hb hd (hlen.resolve_left (by simp [mjLen])) hp h hl k
  | iushr => exact ma_iushr hexec hb hd (hlen.resolve_left (by simp [mjLen])) hp h hl k
  | ladd => exact ma_ladd hexec hb hd (hlen.resolve_left (by simp [mjLen])) hp h hl k
  | lsub => exact ma_lsub hexec hb hd (hlen.resolve_left (by simp [mjLen])) hp h hl k
  | lmul => exact ma_lmul hexec hb hd (hlen.resolve_left (by simp [mjLen])) hp h hl k
  | land => exact ma_land hexec hb hd (hlen.resolve_left (by simp [mjLen])) hp h hl k
  | lor => exact ma_lor hexec hb hd (hlen.resolve_left (by simp [mjLen])) hp h hl k
  | lxor => exact ma_lxor hexec hb hd (hlen.resolve_left (by simp [mjLen])) hp h hl k
  | lshl => exact ma_lshl hexec hb hd (hlen.resolve_left (by simp [mjLen])) hp h hl k
  | lshr => exact ma_lshr hexec hb hd (hlen.resolve_left (by simp [mjLen])) hp h hl k
  | lushr => exact ma_lushr hexec hb hd (hlen.resolve_left (by simp [mjLen])) hp h hl k
  | lcmp => exact ma_lcmp hexec hb hd (hlen.resolve_left (by simp [mjLen])) hp h hl k
  | irem => exact ma_irem hexec hb hd (hlen.resolve_left (by simp [mjLen])) hp h hl k
  | i2l => exact ma_i2l hexec hb hd (hlen.resolve_left (by simp [mjLen])) hp h hl k
  | l2i => exact ma_l2i hexec hb hd (hlen.resolve_left (by simp [mjLen])) hp h hl k
  | i2b => exact ma_i2b hexec hb hd (hlen.resolve_left (by simp [mjLen])) hp h hl k
  | dup => exact ma_dup hexec hb hd (hlen.resolve_left (by simp [mjLen])) hp h hl k
  | pop => exact ma_pop hexec hb hd (hlen.resolve_left (by simp [mjLen])) hp h hl k
  | dup2 => exact ma_dup2 hexec hb hd (hlen.resolve_left (by simp [mjLen])) hp h hl k
  | ifCond q z => exact ma_ifCond hexec hb hd (hlen.resolve_left (by simp [mjLen])) hp h hl k
  | if_icmp q z => exact ma_if_icmp hexec hb hd (hlen.resolve_left (by simp [mjLen])) hp h hl k
  | goto z => exact ma_goto hexec hb hd (hlen.resolve_left (by simp [mjLen])) hp h hl k
  | tableswitch d lo hi offs => exact ma_tableswitch hexec hb hd h hl k
  | lookupswitch d ps => exact ma_lookupswitch hexec hb hd h hl k
  | _ => simp [mjAlu] at h

end MJALU
end
