section
-- ===== PART A: goes FIRST, ahead of the names: the tables' words, and 'selects' of the private methods out of them =====
/-- a private method of a class that the tables say can be made, by its rows of tables_1 -/
def lw_okq (q : MethodName × Nat) : Prop := (q.1.cls ≠ "java/lang/invoke/MethodHandle" ∧ q.1.cls ≠ "java/lang/invoke/VarHandle") ∧ Cond.instantiable q.1.cls q.2 ∈ tables_1 ∧ Cond.privateMethod q.1 ∈ tables_1 ∧ Cond.instanceMethod q.1 ∈ tables_1
theorem lw_p0 : lw_okq (⟨"StrangeWinding$Tape", "scanWord", "()V"⟩, 8) := ⟨⟨by decide +kernel, by decide +kernel⟩, List.mem_of_getElem? (i := 36) (by decide +kernel), List.mem_of_getElem? (i := 442) (by decide +kernel), List.mem_of_getElem? (i := 443) (by decide +kernel)⟩
theorem lw_p1 : lw_okq (⟨"StrangeWinding$Tape", "scanNumber", "()V"⟩, 8) := ⟨⟨by decide +kernel, by decide +kernel⟩, List.mem_of_getElem? (i := 36) (by decide +kernel), List.mem_of_getElem? (i := 450) (by decide +kernel), List.mem_of_getElem? (i := 451) (by decide +kernel)⟩
theorem lw_p2 : lw_okq (⟨"StrangeWinding$Reader", "readOfLand", "(LStrangeWinding$Land;)Z"⟩, 4) := ⟨⟨by decide +kernel, by decide +kernel⟩, List.mem_of_getElem? (i := 75) (by decide +kernel), List.mem_of_getElem? (i := 541) (by decide +kernel), List.mem_of_getElem? (i := 542) (by decide +kernel)⟩
theorem lw_p3 : lw_okq (⟨"StrangeWinding$Reader", "readStreet", "(LStrangeWinding$Land;)Z"⟩, 4) := ⟨⟨by decide +kernel, by decide +kernel⟩, List.mem_of_getElem? (i := 75) (by decide +kernel), List.mem_of_getElem? (i := 571) (by decide +kernel), List.mem_of_getElem? (i := 572) (by decide +kernel)⟩
theorem lw_p4 : lw_okq (⟨"StrangeWinding$Reader", "isNewName", "(LStrangeWinding$Land;)Z"⟩, 4) := ⟨⟨by decide +kernel, by decide +kernel⟩, List.mem_of_getElem? (i := 75) (by decide +kernel), List.mem_of_getElem? (i := 580) (by decide +kernel), List.mem_of_getElem? (i := 581) (by decide +kernel)⟩
theorem lw_p5 : lw_okq (⟨"StrangeWinding$Reader", "readPair", "(LStrangeWinding$Land;Z)Z"⟩, 4) := ⟨⟨by decide +kernel, by decide +kernel⟩, List.mem_of_getElem? (i := 75) (by decide +kernel), List.mem_of_getElem? (i := 602) (by decide +kernel), List.mem_of_getElem? (i := 603) (by decide +kernel)⟩
theorem lw_p6 : lw_okq (⟨"StrangeWinding$Reader", "numberHere", "(LStrangeWinding$Land;Z)I"⟩, 4) := ⟨⟨by decide +kernel, by decide +kernel⟩, List.mem_of_getElem? (i := 75) (by decide +kernel), List.mem_of_getElem? (i := 606) (by decide +kernel), List.mem_of_getElem? (i := 607) (by decide +kernel)⟩
theorem lw_p7 : lw_okq (⟨"StrangeWinding$Reader", "readPerson", "(LStrangeWinding$Land;)Z"⟩, 4) := ⟨⟨by decide +kernel, by decide +kernel⟩, List.mem_of_getElem? (i := 75) (by decide +kernel), List.mem_of_getElem? (i := 611) (by decide +kernel), List.mem_of_getElem? (i := 612) (by decide +kernel)⟩
theorem lw_p8 : lw_okq (⟨"StrangeWinding$Reader", "readSoon", "(LStrangeWinding$Land;)Z"⟩, 4) := ⟨⟨by decide +kernel, by decide +kernel⟩, List.mem_of_getElem? (i := 75) (by decide +kernel), List.mem_of_getElem? (i := 644) (by decide +kernel), List.mem_of_getElem? (i := 645) (by decide +kernel)⟩
theorem lw_p9 : lw_okq (⟨"StrangeWinding$Reader", "readSnap", "(LStrangeWinding$Land;)Z"⟩, 4) := ⟨⟨by decide +kernel, by decide +kernel⟩, List.mem_of_getElem? (i := 75) (by decide +kernel), List.mem_of_getElem? (i := 649) (by decide +kernel), List.mem_of_getElem? (i := 650) (by decide +kernel)⟩
theorem lw_p10 : lw_okq (⟨"StrangeWinding$LawReader", "readFrom", "(IILStrangeWinding$Land;)Z"⟩, 1) := ⟨⟨by decide +kernel, by decide +kernel⟩, List.mem_of_getElem? (i := 81) (by decide +kernel), List.mem_of_getElem? (i := 660) (by decide +kernel), List.mem_of_getElem? (i := 661) (by decide +kernel)⟩
theorem lw_p11 : lw_okq (⟨"StrangeWinding$LawReader", "readPart", "(ILStrangeWinding$Land;)Z"⟩, 1) := ⟨⟨by decide +kernel, by decide +kernel⟩, List.mem_of_getElem? (i := 81) (by decide +kernel), List.mem_of_getElem? (i := 664) (by decide +kernel), List.mem_of_getElem? (i := 665) (by decide +kernel)⟩
theorem lw_p12 : lw_okq (⟨"StrangeWinding$LawReader", "valueCode", "()I"⟩, 1) := ⟨⟨by decide +kernel, by decide +kernel⟩, List.mem_of_getElem? (i := 81) (by decide +kernel), List.mem_of_getElem? (i := 674) (by decide +kernel), List.mem_of_getElem? (i := 675) (by decide +kernel)⟩
theorem lw_p13 : lw_okq (⟨"StrangeWinding$LawReader", "joiningCode", "(I)I"⟩, 1) := ⟨⟨by decide +kernel, by decide +kernel⟩, List.mem_of_getElem? (i := 81) (by decide +kernel), List.mem_of_getElem? (i := 691) (by decide +kernel), List.mem_of_getElem? (i := 692) (by decide +kernel)⟩
theorem lw_p14 : lw_okq (⟨"StrangeWinding$Reader", "readOfWeek", "(LStrangeWinding$Land;LStrangeWinding$Week;)Z"⟩, 4) := ⟨⟨by decide +kernel, by decide +kernel⟩, List.mem_of_getElem? (i := 75) (by decide +kernel), List.mem_of_getElem? (i := 723) (by decide +kernel), List.mem_of_getElem? (i := 724) (by decide +kernel)⟩
theorem lw_p15 : lw_okq (⟨"StrangeWinding$Reader", "verbHere", "()I"⟩, 4) := ⟨⟨by decide +kernel, by decide +kernel⟩, List.mem_of_getElem? (i := 75) (by decide +kernel), List.mem_of_getElem? (i := 727) (by decide +kernel), List.mem_of_getElem? (i := 728) (by decide +kernel)⟩
def lw_privs_1 : List (MethodName × Nat) := [(⟨"StrangeWinding$Tape", "scanWord", "()V"⟩, 8), (⟨"StrangeWinding$Tape", "scanNumber", "()V"⟩, 8), (⟨"StrangeWinding$Reader", "readOfLand", "(LStrangeWinding$Land;)Z"⟩, 4), (⟨"StrangeWinding$Reader", "readStreet", "(LStrangeWinding$Land;)Z"⟩, 4), (⟨"StrangeWinding$Reader", "isNewName", "(LStrangeWinding$Land;)Z"⟩, 4), (⟨"StrangeWinding$Reader", "readPair", "(LStrangeWinding$Land;Z)Z"⟩, 4), (⟨"StrangeWinding$Reader", "numberHere", "(LStrangeWinding$Land;Z)I"⟩, 4), (⟨"StrangeWinding$Reader", "readPerson", "(LStrangeWinding$Land;)Z"⟩, 4), (⟨"StrangeWinding$Reader", "readSoon", "(LStrangeWinding$Land;)Z"⟩, 4), (⟨"StrangeWinding$Reader", "readSnap", "(LStrangeWinding$Land;)Z"⟩, 4), (⟨"StrangeWinding$LawReader", "readFrom", "(IILStrangeWinding$Land;)Z"⟩, 1), (⟨"StrangeWinding$LawReader", "readPart", "(ILStrangeWinding$Land;)Z"⟩, 1), (⟨"StrangeWinding$LawReader", "valueCode", "()I"⟩, 1), (⟨"StrangeWinding$LawReader", "joiningCode", "(I)I"⟩, 1), (⟨"StrangeWinding$Reader", "readOfWeek", "(LStrangeWinding$Land;LStrangeWinding$Week;)Z"⟩, 4), (⟨"StrangeWinding$Reader", "verbHere", "()I"⟩, 4)]
theorem lw_r1 : ∀ q ∈ lw_privs_1, lw_okq q := List.forall_mem_cons.mpr ⟨lw_p0, List.forall_mem_cons.mpr ⟨lw_p1, List.forall_mem_cons.mpr ⟨lw_p2, List.forall_mem_cons.mpr ⟨lw_p3, List.forall_mem_cons.mpr ⟨lw_p4, List.forall_mem_cons.mpr ⟨lw_p5, List.forall_mem_cons.mpr ⟨lw_p6, List.forall_mem_cons.mpr ⟨lw_p7, List.forall_mem_cons.mpr ⟨lw_p8, List.forall_mem_cons.mpr ⟨lw_p9, List.forall_mem_cons.mpr ⟨lw_p10, List.forall_mem_cons.mpr ⟨lw_p11, List.forall_mem_cons.mpr ⟨lw_p12, List.forall_mem_cons.mpr ⟨lw_p13, List.forall_mem_cons.mpr ⟨lw_p14, List.forall_mem_cons.mpr ⟨lw_p15, fun _ h => absurd h List.not_mem_nil⟩⟩⟩⟩⟩⟩⟩⟩⟩⟩⟩⟩⟩⟩⟩⟩
theorem lw_p16 : lw_okq (⟨"StrangeWinding", "isPerson", "(I)Z"⟩, 15) := ⟨⟨by decide +kernel, by decide +kernel⟩, List.mem_of_getElem? (i := 28) (by decide +kernel), List.mem_of_getElem? (i := 748) (by decide +kernel), List.mem_of_getElem? (i := 749) (by decide +kernel)⟩
theorem lw_p17 : lw_okq (⟨"StrangeWinding$State", "windingsOfTwo", "(II)I"⟩, 7) := ⟨⟨by decide +kernel, by decide +kernel⟩, List.mem_of_getElem? (i := 214) (by decide +kernel), List.mem_of_getElem? (i := 769) (by decide +kernel), List.mem_of_getElem? (i := 770) (by decide +kernel)⟩
theorem lw_p18 : lw_okq (⟨"StrangeWinding", "areTwo", "(II)Z"⟩, 15) := ⟨⟨by decide +kernel, by decide +kernel⟩, List.mem_of_getElem? (i := 28) (by decide +kernel), List.mem_of_getElem? (i := 777) (by decide +kernel), List.mem_of_getElem? (i := 778) (by decide +kernel)⟩
theorem lw_p19 : lw_okq (⟨"StrangeWinding", "isStreet", "(I)Z"⟩, 15) := ⟨⟨by decide +kernel, by decide +kernel⟩, List.mem_of_getElem? (i := 28) (by decide +kernel), List.mem_of_getElem? (i := 785) (by decide +kernel), List.mem_of_getElem? (i := 786) (by decide +kernel)⟩
theorem lw_p20 : lw_okq (⟨"StrangeWinding$State", "crowdAround", "(LStrangeWinding$Land;II)I"⟩, 7) := ⟨⟨by decide +kernel, by decide +kernel⟩, List.mem_of_getElem? (i := 214) (by decide +kernel), List.mem_of_getElem? (i := 797) (by decide +kernel), List.mem_of_getElem? (i := 798) (by decide +kernel)⟩
theorem lw_p21 : lw_okq (⟨"StrangeWinding", "followLine", "(LStrangeWinding$Week;I)Z"⟩, 15) := ⟨⟨by decide +kernel, by decide +kernel⟩, List.mem_of_getElem? (i := 28) (by decide +kernel), List.mem_of_getElem? (i := 875) (by decide +kernel), List.mem_of_getElem? (i := 876) (by decide +kernel)⟩
theorem lw_p22 : lw_okq (⟨"StrangeWinding$Planner", "tryFrom", "(LStrangeWinding$Land;II)V"⟩, 5) := ⟨⟨by decide +kernel, by decide +kernel⟩, List.mem_of_getElem? (i := 298) (by decide +kernel), List.mem_of_getElem? (i := 908) (by decide +kernel), List.mem_of_getElem? (i := 909) (by decide +kernel)⟩
theorem lw_p23 : lw_okq (⟨"StrangeWinding", "streetThatSaves", "(II)I"⟩, 15) := ⟨⟨by decide +kernel, by decide +kernel⟩, List.mem_of_getElem? (i := 28) (by decide +kernel), List.mem_of_getElem? (i := 933) (by decide +kernel), List.mem_of_getElem? (i := 934) (by decide +kernel)⟩
theorem lw_p24 : lw_okq (⟨"StrangeWinding", "endsWithoutSitters", "(I)Z"⟩, 15) := ⟨⟨by decide +kernel, by decide +kernel⟩, List.mem_of_getElem? (i := 28) (by decide +kernel), List.mem_of_getElem? (i := 937) (by decide +kernel), List.mem_of_getElem? (i := 938) (by decide +kernel)⟩
theorem lw_p25 : lw_okq (⟨"StrangeWinding", "allCanWalk", "(II)Z"⟩, 15) := ⟨⟨by decide +kernel, by decide +kernel⟩, List.mem_of_getElem? (i := 28) (by decide +kernel), List.mem_of_getElem? (i := 941) (by decide +kernel), List.mem_of_getElem? (i := 942) (by decide +kernel)⟩
theorem lw_p26 : lw_okq (⟨"StrangeWinding$Tally", "addSet", "(I)V"⟩, 4) := ⟨⟨by decide +kernel, by decide +kernel⟩, List.mem_of_getElem? (i := 324) (by decide +kernel), List.mem_of_getElem? (i := 964) (by decide +kernel), List.mem_of_getElem? (i := 965) (by decide +kernel)⟩
theorem lw_p27 : lw_okq (⟨"StrangeWinding", "shareOut", "()V"⟩, 15) := ⟨⟨by decide +kernel, by decide +kernel⟩, List.mem_of_getElem? (i := 28) (by decide +kernel), List.mem_of_getElem? (i := 979) (by decide +kernel), List.mem_of_getElem? (i := 980) (by decide +kernel)⟩
theorem lw_p28 : lw_okq (⟨"StrangeWinding", "shareFrom", "(II)V"⟩, 15) := ⟨⟨by decide +kernel, by decide +kernel⟩, List.mem_of_getElem? (i := 28) (by decide +kernel), List.mem_of_getElem? (i := 983) (by decide +kernel), List.mem_of_getElem? (i := 984) (by decide +kernel)⟩
theorem lw_p29 : lw_okq (⟨"StrangeWinding$Matcher", "tryFrom", "(LStrangeWinding$Land;LStrangeWinding$State;II)V"⟩, 3) := ⟨⟨by decide +kernel, by decide +kernel⟩, List.mem_of_getElem? (i := 347) (by decide +kernel), List.mem_of_getElem? (i := 1000) (by decide +kernel), List.mem_of_getElem? (i := 1001) (by decide +kernel)⟩
theorem lw_p30 : lw_okq (⟨"StrangeWinding", "passDrawnHour", "()V"⟩, 15) := ⟨⟨by decide +kernel, by decide +kernel⟩, List.mem_of_getElem? (i := 28) (by decide +kernel), List.mem_of_getElem? (i := 1014) (by decide +kernel), List.mem_of_getElem? (i := 1015) (by decide +kernel)⟩
theorem lw_p31 : lw_okq (⟨"StrangeWinding", "drawBelow", "(I)I"⟩, 15) := ⟨⟨by decide +kernel, by decide +kernel⟩, List.mem_of_getElem? (i := 28) (by decide +kernel), List.mem_of_getElem? (i := 1018) (by decide +kernel), List.mem_of_getElem? (i := 1019) (by decide +kernel)⟩
def lw_privs_2 : List (MethodName × Nat) := [(⟨"StrangeWinding", "isPerson", "(I)Z"⟩, 15), (⟨"StrangeWinding$State", "windingsOfTwo", "(II)I"⟩, 7), (⟨"StrangeWinding", "areTwo", "(II)Z"⟩, 15), (⟨"StrangeWinding", "isStreet", "(I)Z"⟩, 15), (⟨"StrangeWinding$State", "crowdAround", "(LStrangeWinding$Land;II)I"⟩, 7), (⟨"StrangeWinding", "followLine", "(LStrangeWinding$Week;I)Z"⟩, 15), (⟨"StrangeWinding$Planner", "tryFrom", "(LStrangeWinding$Land;II)V"⟩, 5), (⟨"StrangeWinding", "streetThatSaves", "(II)I"⟩, 15), (⟨"StrangeWinding", "endsWithoutSitters", "(I)Z"⟩, 15), (⟨"StrangeWinding", "allCanWalk", "(II)Z"⟩, 15), (⟨"StrangeWinding$Tally", "addSet", "(I)V"⟩, 4), (⟨"StrangeWinding", "shareOut", "()V"⟩, 15), (⟨"StrangeWinding", "shareFrom", "(II)V"⟩, 15), (⟨"StrangeWinding$Matcher", "tryFrom", "(LStrangeWinding$Land;LStrangeWinding$State;II)V"⟩, 3), (⟨"StrangeWinding", "passDrawnHour", "()V"⟩, 15), (⟨"StrangeWinding", "drawBelow", "(I)I"⟩, 15)]
theorem lw_r2 : ∀ q ∈ lw_privs_2, lw_okq q := List.forall_mem_cons.mpr ⟨lw_p16, List.forall_mem_cons.mpr ⟨lw_p17, List.forall_mem_cons.mpr ⟨lw_p18, List.forall_mem_cons.mpr ⟨lw_p19, List.forall_mem_cons.mpr ⟨lw_p20, List.forall_mem_cons.mpr ⟨lw_p21, List.forall_mem_cons.mpr ⟨lw_p22, List.forall_mem_cons.mpr ⟨lw_p23, List.forall_mem_cons.mpr ⟨lw_p24, List.forall_mem_cons.mpr ⟨lw_p25, List.forall_mem_cons.mpr ⟨lw_p26, List.forall_mem_cons.mpr ⟨lw_p27, List.forall_mem_cons.mpr ⟨lw_p28, List.forall_mem_cons.mpr ⟨lw_p29, List.forall_mem_cons.mpr ⟨lw_p30, List.forall_mem_cons.mpr ⟨lw_p31, fun _ h => absurd h List.not_mem_nil⟩⟩⟩⟩⟩⟩⟩⟩⟩⟩⟩⟩⟩⟩⟩⟩
theorem lw_p32 : lw_okq (⟨"java/lang/Throwable", "fillInStackTrace", "(I)Ljava/lang/Throwable;"⟩, 6) := ⟨⟨by decide +kernel, by decide +kernel⟩, List.mem_of_getElem? (i := 1093) (by decide +kernel), List.mem_of_getElem? (i := 1091) (by decide +kernel), List.mem_of_getElem? (i := 1092) (by decide +kernel)⟩
theorem lw_p33 : lw_okq (⟨"StrangeWindingModel", "fresh", "()V"⟩, 59) := ⟨⟨by decide +kernel, by decide +kernel⟩, List.mem_of_getElem? (i := 1124) (by decide +kernel), List.mem_of_getElem? (i := 1130) (by decide +kernel), List.mem_of_getElem? (i := 1131) (by decide +kernel)⟩
theorem lw_p34 : lw_okq (⟨"StrangeWindingModel", "forgets", "()V"⟩, 59) := ⟨⟨by decide +kernel, by decide +kernel⟩, List.mem_of_getElem? (i := 1124) (by decide +kernel), List.mem_of_getElem? (i := 1134) (by decide +kernel), List.mem_of_getElem? (i := 1135) (by decide +kernel)⟩
theorem lw_p35 : lw_okq (⟨"StrangeWindingModel", "readsAll", "()Z"⟩, 59) := ⟨⟨by decide +kernel, by decide +kernel⟩, List.mem_of_getElem? (i := 1124) (by decide +kernel), List.mem_of_getElem? (i := 1330) (by decide +kernel), List.mem_of_getElem? (i := 1331) (by decide +kernel)⟩
theorem lw_p36 : lw_okq (⟨"StrangeWindingModel", "begins", "()V"⟩, 59) := ⟨⟨by decide +kernel, by decide +kernel⟩, List.mem_of_getElem? (i := 1124) (by decide +kernel), List.mem_of_getElem? (i := 1334) (by decide +kernel), List.mem_of_getElem? (i := 1335) (by decide +kernel)⟩
theorem lw_p37 : lw_okq (⟨"StrangeWindingModel", "nextToken", "()V"⟩, 59) := ⟨⟨by decide +kernel, by decide +kernel⟩, List.mem_of_getElem? (i := 1124) (by decide +kernel), List.mem_of_getElem? (i := 1338) (by decide +kernel), List.mem_of_getElem? (i := 1339) (by decide +kernel)⟩
theorem lw_p38 : lw_okq (⟨"StrangeWindingModel", "signAt", "(I)I"⟩, 59) := ⟨⟨by decide +kernel, by decide +kernel⟩, List.mem_of_getElem? (i := 1124) (by decide +kernel), List.mem_of_getElem? (i := 1342) (by decide +kernel), List.mem_of_getElem? (i := 1343) (by decide +kernel)⟩
theorem lw_p39 : lw_okq (⟨"StrangeWindingModel", "isWord", "(J)Z"⟩, 59) := ⟨⟨by decide +kernel, by decide +kernel⟩, List.mem_of_getElem? (i := 1124) (by decide +kernel), List.mem_of_getElem? (i := 1349) (by decide +kernel), List.mem_of_getElem? (i := 1350) (by decide +kernel)⟩
theorem lw_p40 : lw_okq (⟨"StrangeWindingModel", "readsStreet", "()Z"⟩, 59) := ⟨⟨by decide +kernel, by decide +kernel⟩, List.mem_of_getElem? (i := 1124) (by decide +kernel), List.mem_of_getElem? (i := 1353) (by decide +kernel), List.mem_of_getElem? (i := 1354) (by decide +kernel)⟩
theorem lw_p41 : lw_okq (⟨"StrangeWindingModel", "fails", "(I)Z"⟩, 59) := ⟨⟨by decide +kernel, by decide +kernel⟩, List.mem_of_getElem? (i := 1124) (by decide +kernel), List.mem_of_getElem? (i := 1357) (by decide +kernel), List.mem_of_getElem? (i := 1358) (by decide +kernel)⟩
theorem lw_p42 : lw_okq (⟨"StrangeWindingModel", "needsNew", "()Z"⟩, 59) := ⟨⟨by decide +kernel, by decide +kernel⟩, List.mem_of_getElem? (i := 1124) (by decide +kernel), List.mem_of_getElem? (i := 1361) (by decide +kernel), List.mem_of_getElem? (i := 1362) (by decide +kernel)⟩
theorem lw_p43 : lw_okq (⟨"StrangeWindingModel", "isKept", "()Z"⟩, 59) := ⟨⟨by decide +kernel, by decide +kernel⟩, List.mem_of_getElem? (i := 1124) (by decide +kernel), List.mem_of_getElem? (i := 1365) (by decide +kernel), List.mem_of_getElem? (i := 1366) (by decide +kernel)⟩
theorem lw_p44 : lw_okq (⟨"StrangeWindingModel", "streetNamed", "(I)I"⟩, 59) := ⟨⟨by decide +kernel, by decide +kernel⟩, List.mem_of_getElem? (i := 1124) (by decide +kernel), List.mem_of_getElem? (i := 1388) (by decide +kernel), List.mem_of_getElem? (i := 1389) (by decide +kernel)⟩
theorem lw_p45 : lw_okq (⟨"StrangeWindingModel", "personNamed", "(I)I"⟩, 59) := ⟨⟨by decide +kernel, by decide +kernel⟩, List.mem_of_getElem? (i := 1124) (by decide +kernel), List.mem_of_getElem? (i := 1392) (by decide +kernel), List.mem_of_getElem? (i := 1393) (by decide +kernel)⟩
theorem lw_p46 : lw_okq (⟨"StrangeWindingModel", "closes", "()Z"⟩, 59) := ⟨⟨by decide +kernel, by decide +kernel⟩, List.mem_of_getElem? (i := 1124) (by decide +kernel), List.mem_of_getElem? (i := 1396) (by decide +kernel), List.mem_of_getElem? (i := 1397) (by decide +kernel)⟩
theorem lw_p47 : lw_okq (⟨"StrangeWindingModel", "isSign", "(I)Z"⟩, 59) := ⟨⟨by decide +kernel, by decide +kernel⟩, List.mem_of_getElem? (i := 1124) (by decide +kernel), List.mem_of_getElem? (i := 1400) (by decide +kernel), List.mem_of_getElem? (i := 1401) (by decide +kernel)⟩
def lw_privs_3 : List (MethodName × Nat) := [(⟨"java/lang/Throwable", "fillInStackTrace", "(I)Ljava/lang/Throwable;"⟩, 6), (⟨"StrangeWindingModel", "fresh", "()V"⟩, 59), (⟨"StrangeWindingModel", "forgets", "()V"⟩, 59), (⟨"StrangeWindingModel", "readsAll", "()Z"⟩, 59), (⟨"StrangeWindingModel", "begins", "()V"⟩, 59), (⟨"StrangeWindingModel", "nextToken", "()V"⟩, 59), (⟨"StrangeWindingModel", "signAt", "(I)I"⟩, 59), (⟨"StrangeWindingModel", "isWord", "(J)Z"⟩, 59), (⟨"StrangeWindingModel", "readsStreet", "()Z"⟩, 59), (⟨"StrangeWindingModel", "fails", "(I)Z"⟩, 59), (⟨"StrangeWindingModel", "needsNew", "()Z"⟩, 59), (⟨"StrangeWindingModel", "isKept", "()Z"⟩, 59), (⟨"StrangeWindingModel", "streetNamed", "(I)I"⟩, 59), (⟨"StrangeWindingModel", "personNamed", "(I)I"⟩, 59), (⟨"StrangeWindingModel", "closes", "()Z"⟩, 59), (⟨"StrangeWindingModel", "isSign", "(I)Z"⟩, 59)]
theorem lw_r3 : ∀ q ∈ lw_privs_3, lw_okq q := List.forall_mem_cons.mpr ⟨lw_p32, List.forall_mem_cons.mpr ⟨lw_p33, List.forall_mem_cons.mpr ⟨lw_p34, List.forall_mem_cons.mpr ⟨lw_p35, List.forall_mem_cons.mpr ⟨lw_p36, List.forall_mem_cons.mpr ⟨lw_p37, List.forall_mem_cons.mpr ⟨lw_p38, List.forall_mem_cons.mpr ⟨lw_p39, List.forall_mem_cons.mpr ⟨lw_p40, List.forall_mem_cons.mpr ⟨lw_p41, List.forall_mem_cons.mpr ⟨lw_p42, List.forall_mem_cons.mpr ⟨lw_p43, List.forall_mem_cons.mpr ⟨lw_p44, List.forall_mem_cons.mpr ⟨lw_p45, List.forall_mem_cons.mpr ⟨lw_p46, List.forall_mem_cons.mpr ⟨lw_p47, fun _ h => absurd h List.not_mem_nil⟩⟩⟩⟩⟩⟩⟩⟩⟩⟩⟩⟩⟩⟩⟩⟩
theorem lw_p48 : lw_okq (⟨"StrangeWindingModel", "readsLane", "()Z"⟩, 59) := ⟨⟨by decide +kernel, by decide +kernel⟩, List.mem_of_getElem? (i := 1124) (by decide +kernel), List.mem_of_getElem? (i := 1404) (by decide +kernel), List.mem_of_getElem? (i := 1405) (by decide +kernel)⟩
theorem lw_p49 : lw_okq (⟨"StrangeWindingModel", "needsTwo", "(ZI)Z"⟩, 59) := ⟨⟨by decide +kernel, by decide +kernel⟩, List.mem_of_getElem? (i := 1124) (by decide +kernel), List.mem_of_getElem? (i := 1408) (by decide +kernel), List.mem_of_getElem? (i := 1409) (by decide +kernel)⟩
theorem lw_p50 : lw_okq (⟨"StrangeWindingModel", "needsStreet", "(I)Z"⟩, 59) := ⟨⟨by decide +kernel, by decide +kernel⟩, List.mem_of_getElem? (i := 1124) (by decide +kernel), List.mem_of_getElem? (i := 1412) (by decide +kernel), List.mem_of_getElem? (i := 1413) (by decide +kernel)⟩
theorem lw_p51 : lw_okq (⟨"StrangeWindingModel", "needsPerson", "(I)Z"⟩, 59) := ⟨⟨by decide +kernel, by decide +kernel⟩, List.mem_of_getElem? (i := 1124) (by decide +kernel), List.mem_of_getElem? (i := 1416) (by decide +kernel), List.mem_of_getElem? (i := 1417) (by decide +kernel)⟩
theorem lw_p52 : lw_okq (⟨"StrangeWindingModel", "readsPerson", "()Z"⟩, 59) := ⟨⟨by decide +kernel, by decide +kernel⟩, List.mem_of_getElem? (i := 1124) (by decide +kernel), List.mem_of_getElem? (i := 1420) (by decide +kernel), List.mem_of_getElem? (i := 1421) (by decide +kernel)⟩
theorem lw_p53 : lw_okq (⟨"StrangeWindingModel", "needsWord", "(J)Z"⟩, 59) := ⟨⟨by decide +kernel, by decide +kernel⟩, List.mem_of_getElem? (i := 1124) (by decide +kernel), List.mem_of_getElem? (i := 1424) (by decide +kernel), List.mem_of_getElem? (i := 1425) (by decide +kernel)⟩
theorem lw_p54 : lw_okq (⟨"StrangeWindingModel", "needsNumber", "(II)Z"⟩, 59) := ⟨⟨by decide +kernel, by decide +kernel⟩, List.mem_of_getElem? (i := 1124) (by decide +kernel), List.mem_of_getElem? (i := 1428) (by decide +kernel), List.mem_of_getElem? (i := 1429) (by decide +kernel)⟩
theorem lw_p55 : lw_okq (⟨"StrangeWindingModel", "readsKnows", "()Z"⟩, 59) := ⟨⟨by decide +kernel, by decide +kernel⟩, List.mem_of_getElem? (i := 1124) (by decide +kernel), List.mem_of_getElem? (i := 1435) (by decide +kernel), List.mem_of_getElem? (i := 1436) (by decide +kernel)⟩
theorem lw_p56 : lw_okq (⟨"StrangeWindingModel", "readsOne", "(II)Z"⟩, 59) := ⟨⟨by decide +kernel, by decide +kernel⟩, List.mem_of_getElem? (i := 1124) (by decide +kernel), List.mem_of_getElem? (i := 1439) (by decide +kernel), List.mem_of_getElem? (i := 1440) (by decide +kernel)⟩
theorem lw_p57 : lw_okq (⟨"StrangeWindingModel", "isTwice", "(I)Z"⟩, 59) := ⟨⟨by decide +kernel, by decide +kernel⟩, List.mem_of_getElem? (i := 1124) (by decide +kernel), List.mem_of_getElem? (i := 1443) (by decide +kernel), List.mem_of_getElem? (i := 1444) (by decide +kernel)⟩
theorem lw_p58 : lw_okq (⟨"StrangeWindingModel", "readsWinds", "()Z"⟩, 59) := ⟨⟨by decide +kernel, by decide +kernel⟩, List.mem_of_getElem? (i := 1124) (by decide +kernel), List.mem_of_getElem? (i := 1447) (by decide +kernel), List.mem_of_getElem? (i := 1448) (by decide +kernel)⟩
theorem lw_p59 : lw_okq (⟨"StrangeWindingModel", "reads", "()Z"⟩, 59) := ⟨⟨by decide +kernel, by decide +kernel⟩, List.mem_of_getElem? (i := 1124) (by decide +kernel), List.mem_of_getElem? (i := 1451) (by decide +kernel), List.mem_of_getElem? (i := 1452) (by decide +kernel)⟩
theorem lw_p60 : lw_okq (⟨"StrangeWindingModel", "fact", "()I"⟩, 59) := ⟨⟨by decide +kernel, by decide +kernel⟩, List.mem_of_getElem? (i := 1124) (by decide +kernel), List.mem_of_getElem? (i := 1455) (by decide +kernel), List.mem_of_getElem? (i := 1456) (by decide +kernel)⟩
theorem lw_p61 : lw_okq (⟨"StrangeWindingModel", "puts", "(I)V"⟩, 59) := ⟨⟨by decide +kernel, by decide +kernel⟩, List.mem_of_getElem? (i := 1124) (by decide +kernel), List.mem_of_getElem? (i := 1463) (by decide +kernel), List.mem_of_getElem? (i := 1464) (by decide +kernel)⟩
theorem lw_p62 : lw_okq (⟨"StrangeWindingModel", "lays", "()V"⟩, 59) := ⟨⟨by decide +kernel, by decide +kernel⟩, List.mem_of_getElem? (i := 1124) (by decide +kernel), List.mem_of_getElem? (i := 1467) (by decide +kernel), List.mem_of_getElem? (i := 1468) (by decide +kernel)⟩
theorem lw_p63 : lw_okq (⟨"StrangeWindingModel", "readsLine", "()Z"⟩, 59) := ⟨⟨by decide +kernel, by decide +kernel⟩, List.mem_of_getElem? (i := 1124) (by decide +kernel), List.mem_of_getElem? (i := 1481) (by decide +kernel), List.mem_of_getElem? (i := 1482) (by decide +kernel)⟩
def lw_privs_4 : List (MethodName × Nat) := [(⟨"StrangeWindingModel", "readsLane", "()Z"⟩, 59), (⟨"StrangeWindingModel", "needsTwo", "(ZI)Z"⟩, 59), (⟨"StrangeWindingModel", "needsStreet", "(I)Z"⟩, 59), (⟨"StrangeWindingModel", "needsPerson", "(I)Z"⟩, 59), (⟨"StrangeWindingModel", "readsPerson", "()Z"⟩, 59), (⟨"StrangeWindingModel", "needsWord", "(J)Z"⟩, 59), (⟨"StrangeWindingModel", "needsNumber", "(II)Z"⟩, 59), (⟨"StrangeWindingModel", "readsKnows", "()Z"⟩, 59), (⟨"StrangeWindingModel", "readsOne", "(II)Z"⟩, 59), (⟨"StrangeWindingModel", "isTwice", "(I)Z"⟩, 59), (⟨"StrangeWindingModel", "readsWinds", "()Z"⟩, 59), (⟨"StrangeWindingModel", "reads", "()Z"⟩, 59), (⟨"StrangeWindingModel", "fact", "()I"⟩, 59), (⟨"StrangeWindingModel", "puts", "(I)V"⟩, 59), (⟨"StrangeWindingModel", "lays", "()V"⟩, 59), (⟨"StrangeWindingModel", "readsLine", "()Z"⟩, 59)]
theorem lw_r4 : ∀ q ∈ lw_privs_4, lw_okq q := List.forall_mem_cons.mpr ⟨lw_p48, List.forall_mem_cons.mpr ⟨lw_p49, List.forall_mem_cons.mpr ⟨lw_p50, List.forall_mem_cons.mpr ⟨lw_p51, List.forall_mem_cons.mpr ⟨lw_p52, List.forall_mem_cons.mpr ⟨lw_p53, List.forall_mem_cons.mpr ⟨lw_p54, List.forall_mem_cons.mpr ⟨lw_p55, List.forall_mem_cons.mpr ⟨lw_p56, List.forall_mem_cons.mpr ⟨lw_p57, List.forall_mem_cons.mpr ⟨lw_p58, List.forall_mem_cons.mpr ⟨lw_p59, List.forall_mem_cons.mpr ⟨lw_p60, List.forall_mem_cons.mpr ⟨lw_p61, List.forall_mem_cons.mpr ⟨lw_p62, List.forall_mem_cons.mpr ⟨lw_p63, fun _ h => absurd h List.not_mem_nil⟩⟩⟩⟩⟩⟩⟩⟩⟩⟩⟩⟩⟩⟩⟩⟩
theorem lw_p64 : lw_okq (⟨"StrangeWindingModel", "laysLines", "(II)V"⟩, 59) := ⟨⟨by decide +kernel, by decide +kernel⟩, List.mem_of_getElem? (i := 1124) (by decide +kernel), List.mem_of_getElem? (i := 1485) (by decide +kernel), List.mem_of_getElem? (i := 1486) (by decide +kernel)⟩
theorem lw_p65 : lw_okq (⟨"StrangeWindingModel", "isPerson", "(I)Z"⟩, 59) := ⟨⟨by decide +kernel, by decide +kernel⟩, List.mem_of_getElem? (i := 1124) (by decide +kernel), List.mem_of_getElem? (i := 1493) (by decide +kernel), List.mem_of_getElem? (i := 1494) (by decide +kernel)⟩
theorem lw_p66 : lw_okq (⟨"StrangeWindingModel", "isSitting", "(I)Z"⟩, 59) := ⟨⟨by decide +kernel, by decide +kernel⟩, List.mem_of_getElem? (i := 1124) (by decide +kernel), List.mem_of_getElem? (i := 1497) (by decide +kernel), List.mem_of_getElem? (i := 1498) (by decide +kernel)⟩
theorem lw_p67 : lw_okq (⟨"StrangeWindingModel", "isSnapped", "(I)Z"⟩, 59) := ⟨⟨by decide +kernel, by decide +kernel⟩, List.mem_of_getElem? (i := 1124) (by decide +kernel), List.mem_of_getElem? (i := 1501) (by decide +kernel), List.mem_of_getElem? (i := 1502) (by decide +kernel)⟩
theorem lw_p68 : lw_okq (⟨"StrangeWindingModel", "strangersOf", "(I)I"⟩, 59) := ⟨⟨by decide +kernel, by decide +kernel⟩, List.mem_of_getElem? (i := 1124) (by decide +kernel), List.mem_of_getElem? (i := 1505) (by decide +kernel), List.mem_of_getElem? (i := 1506) (by decide +kernel)⟩
theorem lw_p69 : lw_okq (⟨"StrangeWindingModel", "areStrangers", "(II)Z"⟩, 59) := ⟨⟨by decide +kernel, by decide +kernel⟩, List.mem_of_getElem? (i := 1124) (by decide +kernel), List.mem_of_getElem? (i := 1509) (by decide +kernel), List.mem_of_getElem? (i := 1510) (by decide +kernel)⟩
theorem lw_p70 : lw_okq (⟨"StrangeWindingModel", "together", "(II)I"⟩, 59) := ⟨⟨by decide +kernel, by decide +kernel⟩, List.mem_of_getElem? (i := 1124) (by decide +kernel), List.mem_of_getElem? (i := 1513) (by decide +kernel), List.mem_of_getElem? (i := 1514) (by decide +kernel)⟩
theorem lw_p71 : lw_okq (⟨"StrangeWindingModel", "areTwo", "(II)Z"⟩, 59) := ⟨⟨by decide +kernel, by decide +kernel⟩, List.mem_of_getElem? (i := 1124) (by decide +kernel), List.mem_of_getElem? (i := 1521) (by decide +kernel), List.mem_of_getElem? (i := 1522) (by decide +kernel)⟩
theorem lw_p72 : lw_okq (⟨"StrangeWindingModel", "isStreet", "(I)Z"⟩, 59) := ⟨⟨by decide +kernel, by decide +kernel⟩, List.mem_of_getElem? (i := 1124) (by decide +kernel), List.mem_of_getElem? (i := 1529) (by decide +kernel), List.mem_of_getElem? (i := 1530) (by decide +kernel)⟩
theorem lw_p73 : lw_okq (⟨"StrangeWindingModel", "windsBy", "(III)I"⟩, 59) := ⟨⟨by decide +kernel, by decide +kernel⟩, List.mem_of_getElem? (i := 1124) (by decide +kernel), List.mem_of_getElem? (i := 1537) (by decide +kernel), List.mem_of_getElem? (i := 1538) (by decide +kernel)⟩
theorem lw_p74 : lw_okq (⟨"StrangeWindingModel", "crowdBeside", "(II)I"⟩, 59) := ⟨⟨by decide +kernel, by decide +kernel⟩, List.mem_of_getElem? (i := 1124) (by decide +kernel), List.mem_of_getElem? (i := 1541) (by decide +kernel), List.mem_of_getElem? (i := 1542) (by decide +kernel)⟩
theorem lw_p75 : lw_okq (⟨"StrangeWindingModel", "worked", "(I)I"⟩, 59) := ⟨⟨by decide +kernel, by decide +kernel⟩, List.mem_of_getElem? (i := 1124) (by decide +kernel), List.mem_of_getElem? (i := 1545) (by decide +kernel), List.mem_of_getElem? (i := 1546) (by decide +kernel)⟩
theorem lw_p76 : lw_okq (⟨"StrangeWindingModel", "opens", "(I)V"⟩, 59) := ⟨⟨by decide +kernel, by decide +kernel⟩, List.mem_of_getElem? (i := 1124) (by decide +kernel), List.mem_of_getElem? (i := 1549) (by decide +kernel), List.mem_of_getElem? (i := 1550) (by decide +kernel)⟩
theorem lw_p77 : lw_okq (⟨"StrangeWindingModel", "sums", "(I)V"⟩, 59) := ⟨⟨by decide +kernel, by decide +kernel⟩, List.mem_of_getElem? (i := 1124) (by decide +kernel), List.mem_of_getElem? (i := 1553) (by decide +kernel), List.mem_of_getElem? (i := 1554) (by decide +kernel)⟩
theorem lw_p78 : lw_okq (⟨"StrangeWindingModel", "tests", "(I)V"⟩, 59) := ⟨⟨by decide +kernel, by decide +kernel⟩, List.mem_of_getElem? (i := 1124) (by decide +kernel), List.mem_of_getElem? (i := 1557) (by decide +kernel), List.mem_of_getElem? (i := 1558) (by decide +kernel)⟩
theorem lw_p79 : lw_okq (⟨"StrangeWindingModel", "canWalk", "(II)Z"⟩, 59) := ⟨⟨by decide +kernel, by decide +kernel⟩, List.mem_of_getElem? (i := 1124) (by decide +kernel), List.mem_of_getElem? (i := 1568) (by decide +kernel), List.mem_of_getElem? (i := 1569) (by decide +kernel)⟩
def lw_privs_5 : List (MethodName × Nat) := [(⟨"StrangeWindingModel", "laysLines", "(II)V"⟩, 59), (⟨"StrangeWindingModel", "isPerson", "(I)Z"⟩, 59), (⟨"StrangeWindingModel", "isSitting", "(I)Z"⟩, 59), (⟨"StrangeWindingModel", "isSnapped", "(I)Z"⟩, 59), (⟨"StrangeWindingModel", "strangersOf", "(I)I"⟩, 59), (⟨"StrangeWindingModel", "areStrangers", "(II)Z"⟩, 59), (⟨"StrangeWindingModel", "together", "(II)I"⟩, 59), (⟨"StrangeWindingModel", "areTwo", "(II)Z"⟩, 59), (⟨"StrangeWindingModel", "isStreet", "(I)Z"⟩, 59), (⟨"StrangeWindingModel", "windsBy", "(III)I"⟩, 59), (⟨"StrangeWindingModel", "crowdBeside", "(II)I"⟩, 59), (⟨"StrangeWindingModel", "worked", "(I)I"⟩, 59), (⟨"StrangeWindingModel", "opens", "(I)V"⟩, 59), (⟨"StrangeWindingModel", "sums", "(I)V"⟩, 59), (⟨"StrangeWindingModel", "tests", "(I)V"⟩, 59), (⟨"StrangeWindingModel", "canWalk", "(II)Z"⟩, 59)]
theorem lw_r5 : ∀ q ∈ lw_privs_5, lw_okq q := List.forall_mem_cons.mpr ⟨lw_p64, List.forall_mem_cons.mpr ⟨lw_p65, List.forall_mem_cons.mpr ⟨lw_p66, List.forall_mem_cons.mpr ⟨lw_p67, List.forall_mem_cons.mpr ⟨lw_p68, List.forall_mem_cons.mpr ⟨lw_p69, List.forall_mem_cons.mpr ⟨lw_p70, List.forall_mem_cons.mpr ⟨lw_p71, List.forall_mem_cons.mpr ⟨lw_p72, List.forall_mem_cons.mpr ⟨lw_p73, List.forall_mem_cons.mpr ⟨lw_p74, List.forall_mem_cons.mpr ⟨lw_p75, List.forall_mem_cons.mpr ⟨lw_p76, List.forall_mem_cons.mpr ⟨lw_p77, List.forall_mem_cons.mpr ⟨lw_p78, List.forall_mem_cons.mpr ⟨lw_p79, fun _ h => absurd h List.not_mem_nil⟩⟩⟩⟩⟩⟩⟩⟩⟩⟩⟩⟩⟩⟩⟩⟩
theorem lw_p80 : lw_okq (⟨"StrangeWindingModel", "keeps", "()V"⟩, 59) := ⟨⟨by decide +kernel, by decide +kernel⟩, List.mem_of_getElem? (i := 1124) (by decide +kernel), List.mem_of_getElem? (i := 1572) (by decide +kernel), List.mem_of_getElem? (i := 1573) (by decide +kernel)⟩
theorem lw_p81 : lw_okq (⟨"StrangeWindingModel", "mightWind", "(II)Z"⟩, 59) := ⟨⟨by decide +kernel, by decide +kernel⟩, List.mem_of_getElem? (i := 1124) (by decide +kernel), List.mem_of_getElem? (i := 1583) (by decide +kernel), List.mem_of_getElem? (i := 1584) (by decide +kernel)⟩
theorem lw_p82 : lw_okq (⟨"StrangeWindingModel", "canBeWound", "(I)Z"⟩, 59) := ⟨⟨by decide +kernel, by decide +kernel⟩, List.mem_of_getElem? (i := 1124) (by decide +kernel), List.mem_of_getElem? (i := 1587) (by decide +kernel), List.mem_of_getElem? (i := 1588) (by decide +kernel)⟩
theorem lw_p83 : lw_okq (⟨"StrangeWindingModel", "winds", "(II)V"⟩, 59) := ⟨⟨by decide +kernel, by decide +kernel⟩, List.mem_of_getElem? (i := 1124) (by decide +kernel), List.mem_of_getElem? (i := 1591) (by decide +kernel), List.mem_of_getElem? (i := 1592) (by decide +kernel)⟩
theorem lw_p84 : lw_okq (⟨"StrangeWindingModel", "mends", "(I)V"⟩, 59) := ⟨⟨by decide +kernel, by decide +kernel⟩, List.mem_of_getElem? (i := 1124) (by decide +kernel), List.mem_of_getElem? (i := 1599) (by decide +kernel), List.mem_of_getElem? (i := 1600) (by decide +kernel)⟩
theorem lw_p85 : lw_okq (⟨"StrangeWindingModel", "passes", "()I"⟩, 59) := ⟨⟨by decide +kernel, by decide +kernel⟩, List.mem_of_getElem? (i := 1124) (by decide +kernel), List.mem_of_getElem? (i := 1607) (by decide +kernel), List.mem_of_getElem? (i := 1608) (by decide +kernel)⟩
theorem lw_p86 : lw_okq (⟨"StrangeWindingModel", "windsIfLow", "(II)I"⟩, 59) := ⟨⟨by decide +kernel, by decide +kernel⟩, List.mem_of_getElem? (i := 1124) (by decide +kernel), List.mem_of_getElem? (i := 1611) (by decide +kernel), List.mem_of_getElem? (i := 1612) (by decide +kernel)⟩
theorem lw_p87 : lw_okq (⟨"StrangeWindingModel", "goes", "(I)Z"⟩, 59) := ⟨⟨by decide +kernel, by decide +kernel⟩, List.mem_of_getElem? (i := 1124) (by decide +kernel), List.mem_of_getElem? (i := 1623) (by decide +kernel), List.mem_of_getElem? (i := 1624) (by decide +kernel)⟩
theorem lw_p88 : lw_okq (⟨"StrangeWindingModel", "sitting", "()I"⟩, 59) := ⟨⟨by decide +kernel, by decide +kernel⟩, List.mem_of_getElem? (i := 1124) (by decide +kernel), List.mem_of_getElem? (i := 1627) (by decide +kernel), List.mem_of_getElem? (i := 1628) (by decide +kernel)⟩
theorem lw_p89 : lw_okq (⟨"StrangeWindingModel", "plans", "(III)V"⟩, 59) := ⟨⟨by decide +kernel, by decide +kernel⟩, List.mem_of_getElem? (i := 1124) (by decide +kernel), List.mem_of_getElem? (i := 1643) (by decide +kernel), List.mem_of_getElem? (i := 1644) (by decide +kernel)⟩
theorem lw_p90 : lw_okq (⟨"StrangeWindingModel", "nobodySits", "(III)Z"⟩, 59) := ⟨⟨by decide +kernel, by decide +kernel⟩, List.mem_of_getElem? (i := 1124) (by decide +kernel), List.mem_of_getElem? (i := 1655) (by decide +kernel), List.mem_of_getElem? (i := 1656) (by decide +kernel)⟩
theorem lw_p91 : lw_okq (⟨"StrangeWindingModel", "whereTo", "(II)I"⟩, 59) := ⟨⟨by decide +kernel, by decide +kernel⟩, List.mem_of_getElem? (i := 1124) (by decide +kernel), List.mem_of_getElem? (i := 1662) (by decide +kernel), List.mem_of_getElem? (i := 1663) (by decide +kernel)⟩
theorem lw_p92 : lw_okq (⟨"StrangeWindingModel", "canAllWalk", "(II)Z"⟩, 59) := ⟨⟨by decide +kernel, by decide +kernel⟩, List.mem_of_getElem? (i := 1124) (by decide +kernel), List.mem_of_getElem? (i := 1666) (by decide +kernel), List.mem_of_getElem? (i := 1667) (by decide +kernel)⟩
theorem lw_p93 : lw_okq (⟨"StrangeWindingModel", "whoMight", "(I)I"⟩, 59) := ⟨⟨by decide +kernel, by decide +kernel⟩, List.mem_of_getElem? (i := 1124) (by decide +kernel), List.mem_of_getElem? (i := 1678) (by decide +kernel), List.mem_of_getElem? (i := 1679) (by decide +kernel)⟩
theorem lw_p94 : lw_okq (⟨"StrangeWindingModel", "isAsTold", "(II)Z"⟩, 59) := ⟨⟨by decide +kernel, by decide +kernel⟩, List.mem_of_getElem? (i := 1124) (by decide +kernel), List.mem_of_getElem? (i := 1682) (by decide +kernel), List.mem_of_getElem? (i := 1683) (by decide +kernel)⟩
theorem lw_p95 : lw_okq (⟨"StrangeWindingModel", "leftBy", "(II)I"⟩, 59) := ⟨⟨by decide +kernel, by decide +kernel⟩, List.mem_of_getElem? (i := 1124) (by decide +kernel), List.mem_of_getElem? (i := 1686) (by decide +kernel), List.mem_of_getElem? (i := 1687) (by decide +kernel)⟩
def lw_privs_6 : List (MethodName × Nat) := [(⟨"StrangeWindingModel", "keeps", "()V"⟩, 59), (⟨"StrangeWindingModel", "mightWind", "(II)Z"⟩, 59), (⟨"StrangeWindingModel", "canBeWound", "(I)Z"⟩, 59), (⟨"StrangeWindingModel", "winds", "(II)V"⟩, 59), (⟨"StrangeWindingModel", "mends", "(I)V"⟩, 59), (⟨"StrangeWindingModel", "passes", "()I"⟩, 59), (⟨"StrangeWindingModel", "windsIfLow", "(II)I"⟩, 59), (⟨"StrangeWindingModel", "goes", "(I)Z"⟩, 59), (⟨"StrangeWindingModel", "sitting", "()I"⟩, 59), (⟨"StrangeWindingModel", "plans", "(III)V"⟩, 59), (⟨"StrangeWindingModel", "nobodySits", "(III)Z"⟩, 59), (⟨"StrangeWindingModel", "whereTo", "(II)I"⟩, 59), (⟨"StrangeWindingModel", "canAllWalk", "(II)Z"⟩, 59), (⟨"StrangeWindingModel", "whoMight", "(I)I"⟩, 59), (⟨"StrangeWindingModel", "isAsTold", "(II)Z"⟩, 59), (⟨"StrangeWindingModel", "leftBy", "(II)I"⟩, 59)]
theorem lw_r6 : ∀ q ∈ lw_privs_6, lw_okq q := List.forall_mem_cons.mpr ⟨lw_p80, List.forall_mem_cons.mpr ⟨lw_p81, List.forall_mem_cons.mpr ⟨lw_p82, List.forall_mem_cons.mpr ⟨lw_p83, List.forall_mem_cons.mpr ⟨lw_p84, List.forall_mem_cons.mpr ⟨lw_p85, List.forall_mem_cons.mpr ⟨lw_p86, List.forall_mem_cons.mpr ⟨lw_p87, List.forall_mem_cons.mpr ⟨lw_p88, List.forall_mem_cons.mpr ⟨lw_p89, List.forall_mem_cons.mpr ⟨lw_p90, List.forall_mem_cons.mpr ⟨lw_p91, List.forall_mem_cons.mpr ⟨lw_p92, List.forall_mem_cons.mpr ⟨lw_p93, List.forall_mem_cons.mpr ⟨lw_p94, List.forall_mem_cons.mpr ⟨lw_p95, fun _ h => absurd h List.not_mem_nil⟩⟩⟩⟩⟩⟩⟩⟩⟩⟩⟩⟩⟩⟩⟩⟩
theorem lw_p96 : lw_okq (⟨"StrangeWindingModel", "sharesOut", "(II)V"⟩, 59) := ⟨⟨by decide +kernel, by decide +kernel⟩, List.mem_of_getElem? (i := 1124) (by decide +kernel), List.mem_of_getElem? (i := 1701) (by decide +kernel), List.mem_of_getElem? (i := 1702) (by decide +kernel)⟩
theorem lw_p97 : lw_okq (⟨"StrangeWindingModel", "laneMany", "(I)I"⟩, 59) := ⟨⟨by decide +kernel, by decide +kernel⟩, List.mem_of_getElem? (i := 1124) (by decide +kernel), List.mem_of_getElem? (i := 1705) (by decide +kernel), List.mem_of_getElem? (i := 1706) (by decide +kernel)⟩
theorem lw_p98 : lw_okq (⟨"StrangeWindingModel", "goesBetween", "(II)Z"⟩, 59) := ⟨⟨by decide +kernel, by decide +kernel⟩, List.mem_of_getElem? (i := 1124) (by decide +kernel), List.mem_of_getElem? (i := 1709) (by decide +kernel), List.mem_of_getElem? (i := 1710) (by decide +kernel)⟩
theorem lw_p99 : lw_okq (⟨"StrangeWindingModel", "pairsFrom", "(III)V"⟩, 59) := ⟨⟨by decide +kernel, by decide +kernel⟩, List.mem_of_getElem? (i := 1124) (by decide +kernel), List.mem_of_getElem? (i := 1721) (by decide +kernel), List.mem_of_getElem? (i := 1722) (by decide +kernel)⟩
theorem lw_p100 : lw_okq (⟨"StrangeWindingModel", "isRowAhead", "()Z"⟩, 59) := ⟨⟨by decide +kernel, by decide +kernel⟩, List.mem_of_getElem? (i := 1124) (by decide +kernel), List.mem_of_getElem? (i := 1725) (by decide +kernel), List.mem_of_getElem? (i := 1726) (by decide +kernel)⟩
theorem lw_p101 : lw_okq (⟨"StrangeWindingModel", "livesHour", "()I"⟩, 59) := ⟨⟨by decide +kernel, by decide +kernel⟩, List.mem_of_getElem? (i := 1124) (by decide +kernel), List.mem_of_getElem? (i := 1744) (by decide +kernel), List.mem_of_getElem? (i := 1745) (by decide +kernel)⟩
theorem lw_p102 : lw_okq (⟨"StrangeWindingModel", "draws", "(I)I"⟩, 59) := ⟨⟨by decide +kernel, by decide +kernel⟩, List.mem_of_getElem? (i := 1124) (by decide +kernel), List.mem_of_getElem? (i := 1748) (by decide +kernel), List.mem_of_getElem? (i := 1749) (by decide +kernel)⟩
theorem lw_p103 : lw_okq (⟨"StrangeWindingModel", "sum", "(II)I"⟩, 59) := ⟨⟨by decide +kernel, by decide +kernel⟩, List.mem_of_getElem? (i := 1124) (by decide +kernel), List.mem_of_getElem? (i := 1764) (by decide +kernel), List.mem_of_getElem? (i := 1765) (by decide +kernel)⟩
theorem lw_p104 : lw_okq (⟨"StrangeWindingModel", "talesMany", "()I"⟩, 59) := ⟨⟨by decide +kernel, by decide +kernel⟩, List.mem_of_getElem? (i := 1124) (by decide +kernel), List.mem_of_getElem? (i := 1768) (by decide +kernel), List.mem_of_getElem? (i := 1769) (by decide +kernel)⟩
def lw_privs_7 : List (MethodName × Nat) := [(⟨"StrangeWindingModel", "sharesOut", "(II)V"⟩, 59), (⟨"StrangeWindingModel", "laneMany", "(I)I"⟩, 59), (⟨"StrangeWindingModel", "goesBetween", "(II)Z"⟩, 59), (⟨"StrangeWindingModel", "pairsFrom", "(III)V"⟩, 59), (⟨"StrangeWindingModel", "isRowAhead", "()Z"⟩, 59), (⟨"StrangeWindingModel", "livesHour", "()I"⟩, 59), (⟨"StrangeWindingModel", "draws", "(I)I"⟩, 59), (⟨"StrangeWindingModel", "sum", "(II)I"⟩, 59), (⟨"StrangeWindingModel", "talesMany", "()I"⟩, 59)]
theorem lw_r7 : ∀ q ∈ lw_privs_7, lw_okq q := List.forall_mem_cons.mpr ⟨lw_p96, List.forall_mem_cons.mpr ⟨lw_p97, List.forall_mem_cons.mpr ⟨lw_p98, List.forall_mem_cons.mpr ⟨lw_p99, List.forall_mem_cons.mpr ⟨lw_p100, List.forall_mem_cons.mpr ⟨lw_p101, List.forall_mem_cons.mpr ⟨lw_p102, List.forall_mem_cons.mpr ⟨lw_p103, List.forall_mem_cons.mpr ⟨lw_p104, fun _ h => absurd h List.not_mem_nil⟩⟩⟩⟩⟩⟩⟩⟩⟩
def lw_privs : List (MethodName × Nat) := lw_privs_1 ++ (lw_privs_2 ++ (lw_privs_3 ++ (lw_privs_4 ++ (lw_privs_5 ++ (lw_privs_6 ++ (lw_privs_7))))))
def lw_tbl : List Cond := k2_sels lw_privs ++ tables_1
theorem lw_privs_ok : ∀ q ∈ lw_privs, lw_okq q := by
  show ∀ q ∈ lw_privs_1 ++ (lw_privs_2 ++ (lw_privs_3 ++ (lw_privs_4 ++ (lw_privs_5 ++ (lw_privs_6 ++ (lw_privs_7)))))), lw_okq q
  exact List.forall_mem_append.mpr ⟨lw_r1, List.forall_mem_append.mpr ⟨lw_r2, List.forall_mem_append.mpr ⟨lw_r3, List.forall_mem_append.mpr ⟨lw_r4, List.forall_mem_append.mpr ⟨lw_r5, List.forall_mem_append.mpr ⟨lw_r6, lw_r7⟩⟩⟩⟩⟩⟩
-- ===== end of PART A; then your names; then what follows =====
end
section
/-! THE PLAIN MACHINE: values (ints, longs, cells by kind and number), locals, a heap of numbered cells; a step of it is a total function. 'ex_' and 'pm_' names. -/
abbrev PV : Type := Int32 ⊕ (Int64 ⊕ (Nat × Nat))
abbrev vi (x : Int32) : PV := .inl x
abbrev vl (x : Int64) : PV := .inr (.inl x)
abbrev vr (k n : Nat) : PV := .inr (.inr (k, n))
abbrev LL : Type := List (Option PV)
abbrev FT : Type := Nat → Nat → Nat → Int32
abbrev GT : Type := Nat → Nat → Nat → Int64
abbrev RT : Type := Nat → Nat → Nat → Option Nat
/-- how many cells in all, how many of each kind; ints, longs, references by kind, number, place -/
abbrev HS : Type := (Nat × (Nat → Nat)) × (FT × (GT × RT))
/-- an instruction: what, two numbers, a constant, the next place -/
abbrev Ent : Type := Nat × (Nat × (Nat × (PV × Nat)))
def uF (F : FT) (k n i : Nat) (v : Int32) : FT := fun k' n' i' => if k' = k ∧ n' = n ∧ i' = i then v else F k' n' i'
def uG (G : GT) (k n i : Nat) (v : Int64) : GT := fun k' n' i' => if k' = k ∧ n' = n ∧ i' = i then v else G k' n' i'
def uR (R : RT) (k n i : Nat) (v : Option Nat) : RT := fun k' n' i' => if k' = k ∧ n' = n ∧ i' = i then v else R k' n' i'
/-- a row's places from a on are those of another row from b on, n of them -/
def cF (F : FT) (k n a k2 n2 b m : Nat) : FT := fun k' n' i' => if k' = k ∧ n' = n then va_cpy (F k2 n2) (F k n) b a m i' else F k' n' i'
def inb (i : Int32) (n : Nat) : Bool := !(decide (i < 0) || decide (n ≤ i.toNatClampNeg))
theorem inb_in {i : Int32} {n : Nat} (h : inb i n = true) : vp_in i n := by
  simp only [inb, Bool.not_eq_true', Bool.or_eq_false_iff, decide_eq_false_iff_not] at h
  intro hc
  rcases hc with hc | hc
  · exact h.1 hc
  · exact h.2 hc
def ibop (a : Nat) (x y : Int32) : Int32 := match a with
  | 0 => x + y
  | 1 => x - y
  | 2 => x * y
  | 3 => x &&& y
  | 4 => x ||| y
  | 5 => x ^^^ y
  | 6 => x <<< (y &&& 31)
  | 7 => x >>> (y &&& 31)
  | _ => (x.toUInt32 >>> (y.toUInt32 &&& Int32.toUInt32 31)).toInt32
def lbop (a : Nat) (x y : Int64) : Int64 := match a with
  | 0 => x + y
  | 1 => x - y
  | 2 => x * y
  | 3 => x &&& y
  | _ => x ||| y
def cnd (a : Nat) (x y : Int32) : Bool := match a with
  | 0 => decide (x = y)
  | 1 => decide (¬ x = y)
  | 2 => decide (x < y)
  | 3 => decide (y ≤ x)
  | 4 => decide (y < x)
  | _ => decide (x ≤ y)
def isL : Option PV → Bool
  | some (.inr (.inl _)) => true
  | _ => false
def clr (L : LL) : Nat → LL
  | 0 => L
  | j + 1 => if isL (L.getD j none) = true then L.set j none else L
def lset1 (L : LL) (i : Nat) (v : PV) : LL := (clr L i).set i (some v)
def lset2 (L : LL) (i : Nat) (v : PV) : LL := ((clr L i).set i (some v)).set (i + 1) none
def isW : PV → Bool
  | .inr (.inl _) => true
  | _ => false
/-- the steps that touch no heap -/
def pst (op a b : Nat) (z : PV) (q : Nat) (L : LL) (st : List PV) : Option (Nat × (LL × List PV)) :=
  match op with
  | 0 => some (q, L, z :: st)
  | 2 => match L[a]? with
    | some (some (.inl x)) => some (q, L, .inl x :: st)
    | _ => none
  | 3 => match L[a]? with
    | some (some (.inr (.inl x))) => some (q, L, .inr (.inl x) :: st)
    | _ => none
  | 4 => match L[a]? with
    | some (some (.inr (.inr x))) => some (q, L, .inr (.inr x) :: st)
    | _ => none
  | 5 => match st with
    | .inl x :: r => if a < L.length then some (q, lset1 L a (.inl x), r) else none
    | _ => none
  | 6 => match st with
    | .inr (.inl x) :: r => if a + 1 < L.length then some (q, lset2 L a (.inr (.inl x)), r) else none
    | _ => none
  | 7 => match st with
    | .inr (.inr x) :: r => if a < L.length then some (q, lset1 L a (.inr (.inr x)), r) else none
    | _ => none
  | 8 => match L[a]?, z with
    | some (some (.inl x)), .inl y => some (q, lset1 L a (.inl (x + y)), st)
    | _, _ => none
  | 9 => match st with
    | .inl y :: .inl x :: r => some (q, L, .inl (ibop a x y) :: r)
    | _ => none
  | 10 => match st with
    | .inl y :: .inl x :: r => if y = 0 then none else some (q, L, .inl (x / y) :: r)
    | _ => none
  | 11 => match st with
    | .inl y :: .inl x :: r => if y = 0 then none else some (q, L, .inl (x - x / y * y) :: r)
    | _ => none
  | 12 => match st with
    | .inl x :: r => some (q, L, .inl (-x) :: r)
    | _ => none
  | 13 => match st with
    | .inr (.inl y) :: .inr (.inl x) :: r => some (q, L, .inr (.inl (lbop a x y)) :: r)
    | _ => none
  | 14 => match st with
    | .inl y :: .inr (.inl x) :: r => some (q, L, .inr (.inl (x <<< (y.toInt64 &&& 63))) :: r)
    | _ => none
  | 15 => match st with
    | .inl y :: .inr (.inl x) :: r => some (q, L, .inr (.inl (x.toUInt64 >>> (y.toInt64.toUInt64 &&& Int64.toUInt64 63)).toInt64) :: r)
    | _ => none
  | 16 => match st with
    | .inr (.inl y) :: .inr (.inl x) :: r => if y = 0 then none else some (q, L, .inr (.inl (x / y)) :: r)
    | _ => none
  | 17 => match st with
    | .inr (.inl y) :: .inr (.inl x) :: r => if y = 0 then none else some (q, L, .inr (.inl (x - x / y * y)) :: r)
    | _ => none
  | 18 => match st with
    | .inr (.inl y) :: .inr (.inl x) :: r => some (q, L, .inl (lg_cmp x y) :: r)
    | _ => none
  | 19 => match st with
    | .inl x :: r => some (q, L, .inr (.inl x.toInt64) :: r)
    | _ => none
  | 20 => match st with
    | .inr (.inl x) :: r => some (q, L, .inl x.toInt32 :: r)
    | _ => none
  | 21 => match st with
    | .inl x :: r => some (q, L, .inl (x.toUInt32 % 65536).toInt32 :: r)
    | _ => none
  | 22 => match st with
    | .inl x :: r => some (q, L, .inl x.toInt8.toInt32 :: r)
    | _ => none
  | 23 => match st with
    | v :: r => if isW v = true then none else some (q, L, v :: v :: r)
    | _ => none
  | 24 => match st with
    | v :: w :: r => if isW v = true ∨ isW w = true then none else some (q, L, v :: w :: v :: w :: r)
    | _ => none
  | 25 => match st with
    | v :: r => if isW v = true then none else some (q, L, r)
    | _ => none
  | 26 => some (a, L, st)
  | 27 => match st with
    | .inl x :: r => some (if cnd a x 0 = true then b else q, L, r)
    | _ => none
  | 28 => match st with
    | .inl y :: .inl x :: r => some (if cnd a x y = true then b else q, L, r)
    | _ => none
  | _ => none
/-- fewer locals known -/
def leL : LL → LL → Prop
  | [], [] => True
  | a :: l, b :: l' => (a = none ∨ a = b) ∧ leL l l'
  | _, _ => False
theorem leL.rf : ∀ l : LL, leL l l
  | [] => trivial
  | a :: l => ⟨Or.inr rfl, leL.rf l⟩
theorem leL.len : ∀ {l l' : LL}, leL l l' → l.length = l'.length
  | [], [], _ => rfl
  | _ :: _, _ :: _, h => by simp [h.2.len]
theorem leL.at : ∀ {l l' : LL} {i : Nat} {v : PV}, leL l l' → l[i]? = some (some v) → l'[i]? = some (some v)
  | [], [], _, _, _, h => by simp at h
  | a :: l, b :: l', 0, v, h, e => by
    simp at e
    rcases h.1 with h1 | h1
    · rw [h1] at e; cases e
    · simp [← h1, e]
  | a :: l, b :: l', i + 1, v, h, e => by
    simp at e
    simpa using h.2.at e
theorem leL.set : ∀ {l l' : LL} {i : Nat} {v v' : Option PV}, leL l l' → (v = none ∨ v = v') → leL (l.set i v) (l'.set i v')
  | [], [], _, _, _, _, _ => trivial
  | _ :: _, _ :: _, 0, _, _, h, e => ⟨e, h.2⟩
  | _ :: _, _ :: _, _ + 1, _, _, h, e => ⟨h.1, h.2.set e⟩
theorem leL.setR : ∀ {l l' : LL} {i : Nat}, leL l l' → l.getD i none = none → leL l (l'.set i none)
  | [], [], _, _, _ => trivial
  | a :: l, b :: l', 0, h, e => by
    simp at e
    exact ⟨Or.inl e, h.2⟩
  | a :: l, b :: l', i + 1, h, e => by
    simp only [List.getD_cons_succ] at e
    exact ⟨h.1, h.2.setR e⟩
theorem leL.getD : ∀ {l l' : LL} {i : Nat}, leL l l' → l.getD i none = none ∨ l.getD i none = l'.getD i none
  | [], [], _, _ => Or.inr rfl
  | a :: l, b :: l', 0, h => by simpa using h.1
  | a :: l, b :: l', i + 1, h => by simpa using h.2.getD
theorem leL.clr {l l' : LL} {i : Nat} (h : leL l l') : leL (clr l i) (clr l' i) := by
  cases i with
  | zero => exact h
  | succ j =>
    simp only [_root_.Jvm.Pilot.@@N@@.clr]
    rcases h.getD (i := j) with h1 | h1
    · rw [h1]
      by_cases h2 : isL (l'.getD j none) = true
      · simp only [h2, if_true]
        rw [if_neg (by simp [isL])]
        exact h.setR h1
      · simp only [h2]
        rw [if_neg (by simp [isL])]
        exact h
    · rw [h1]
      by_cases h2 : isL (l'.getD j none) = true
      · simp only [h2, if_true]
        exact h.set (Or.inr rfl)
      · simp only [h2]
        exact h
theorem leL.set1 {l l' : LL} {i : Nat} {v : PV} (h : leL l l') : leL (lset1 l i v) (lset1 l' i v) := h.clr.set (Or.inr rfl)
theorem leL.set2 {l l' : LL} {i : Nat} {v : PV} (h : leL l l') : leL (lset2 l i v) (lset2 l' i v) := (h.clr.set (Or.inr rfl)).set (Or.inr rfl)
theorem pst_le {op a b : Nat} {z : PV} {q : Nat} {L L' : LL} {st : List PV} {q1 : Nat} {L1 : LL} {st1 : List PV} (hL : leL L L') (h : pst op a b z q L st = some (q1, L1, st1)) : ∃ L1', leL L1 L1' ∧ pst op a b z q L' st = some (q1, L1', st1) := by
  sorry
end
