section
-- ===== PART A: goes FIRST, ahead of the names: the tables' words, and 'selects' of the private methods out of them =====
/-- a private method of a class that the tables say can be made, by its rows of tables_1 -/
def lw_okq (q : MethodName × Nat) : Prop := (q.1.cls ≠ "java/lang/invoke/MethodHandle" ∧ q.1.cls ≠ "java/lang/invoke/VarHandle") ∧ Cond.instantiable q.1.cls q.2 ∈ tables_1 ∧ Cond.privateMethod q.1 ∈ tables_1 ∧ Cond.instanceMethod q.1 ∈ tables_1
theorem lw_p0 : lw_okq (⟨"StrangeWinding$Tape", "scanWord", "()V"⟩, 8) := ⟨⟨by decide +kernel, by decide +kernel⟩, List.mem_of_getElem? (i := 36) (by decide +kernel), List.mem_of_getElem? (i := 442) (by decide +kernel), List.mem_of_getElem? (i := 443) (by decide +kernel)⟩
theorem lw_p1 : lw_okq (⟨"StrangeWinding$Tape", "scanNumber", "()V"⟩, 8) := ⟨⟨by decide +kernel, by decide +kernel⟩, List.mem_of_getElem? (i := 36) (by decide +kernel), List.mem_of_getElem? (i := 450) (by decide +kernel), List.mem_of_getElem? (i := 451) (by decide +kernel)⟩
theorem lw_p2 : lw_okq (⟨"StrangeWinding$Reader", "readOfLand", "(LStrangeWinding$Land;)Z"⟩, 4) := ⟨⟨by decide +kernel, by decide +kernel⟩, List.mem_of_getElem? (i := 75) (by decide +kernel), List.mem_of_getElem? (i := 541) (by decide +kernel), List.mem_of_getElem? (i := 542) (by decide +kernel)⟩
theorem lw_p3 : lw_okq (⟨"StrangeWinding$Reader", "readStreet", "(LStrangeWinding$Land;)Z"⟩, 4) := ⟨⟨by decide +kernel, by decide +kernel⟩, List.mem_of_getElem? (i := 75) (by decide +kernel), List.mem_of_getElem? (i := 571) (by decide +kernel), List.mem_of_getElem? (i := 572) (by decide +kernel)⟩
theorem lw_p4 : lw_okq (⟨"StrangeWinding$Reader", "isNewName", "(LStrangeWinding$Land;)Z"⟩, 4) := ⟨⟨by decide +kernel, by decide +kernel⟩, List.mem_of_getElem? (i := 75) (by decide +kernel), List.mem_of_getElem? (i := 580) (by decide +kernel), List.mem_of_getElem? (i := 581) (by decide +kernel)⟩
theorem lw_p5 : lw_okq (⟨"StrangeWinding$Reader", "readPair", "(LStrangeWinding$Land;Z)Z"⟩, 4) := ⟨⟨by decide +kernel, by decide +kernel⟩, List.mem_of_getElem? (i := 75) (by decide +kernel), List.mem_of_getElem? (i := 602) (by decide +kernel), List.mem_of_getElem? (i := 603) (by decide +kernel)⟩
theorem lw_p6 : lw_okq (⟨"StrangeWinding$Reader", "numberHere", "(LStrangeWinding$Land;Z)I"⟩, 4) := ⟨⟨by decide +kernel, by decide +kernel⟩, List.mem_of_getElem? (i := 75) (by decide +kernel), List.mem_of_getElem? (i := 606) (by decide +kernel), List.mem_of_getElem? (i := 607) (by decide +kernel)⟩
theorem lw_p7 : lw_okq (⟨"StrangeWinding$Reader", "readPerson", "(LStrangeWinding$Land;)Z"⟩, 4) := ⟨⟨by decide +kernel, by decide +kernel⟩, List.mem_of_getElem? (i := 75) (by decide +kernel), List.mem_of_getElem? (i := 611) (by decide +kernel), List.mem_of_getElem? (i := 612) (by decide +kernel)⟩
theorem lw_p8 : lw_okq (⟨"StrangeWinding$Reader", "readSoon", "(LStrangeWinding$Land;)Z"⟩, 4) := ⟨⟨by decide +kernel, by decide +kernel⟩, List.mem_of_getElem? (i := 75) (by decide +kernel), List.mem_of_getElem? (i := 644) (by decide +kernel), List.mem_of_getElem? (i := 645) (by decide +kernel)⟩
theorem lw_p9 : lw_okq (⟨"StrangeWinding$Reader", "readSnap", "(LStrangeWinding$Land;)Z"⟩, 4) := ⟨⟨by decide +kernel, by decide +kernel⟩, List.mem_of_getElem? (i := 75) (by decide +kernel), List.mem_of_getElem? (i := 649) (by decide +kernel), List.mem_of_getElem? (i := 650) (by decide +kernel)⟩
theorem lw_p10 : lw_okq (⟨"StrangeWinding$LawReader", "readFrom", "(IILStrangeWinding$Land;)Z"⟩, 1) := ⟨⟨by decide +kernel, by decide +kernel⟩, List.mem_of_getElem? (i := 81) (by decide +kernel), List.mem_of_getElem? (i := 660) (by decide +kernel), List.mem_of_getElem? (i := 661) (by decide +kernel)⟩
theorem lw_p11 : lw_okq (⟨"StrangeWinding$LawReader", "readPart", "(ILStrangeWinding$Land;)Z"⟩, 1) := ⟨⟨by decide +kernel, by decide +kernel⟩, List.mem_of_getElem? (i := 81) (by decide +kernel), List.mem_of_getElem? (i := 664) (by decide +kernel), List.mem_of_getElem? (i := 665) (by decide +kernel)⟩
theorem lw_p12 : lw_okq (⟨"StrangeWinding$LawReader", "valueCode", "()I"⟩, 1) := ⟨⟨by decide +kernel, by decide +kernel⟩, List.mem_of_getElem? (i := 81) (by decide +kernel), List.mem_of_getElem? (i := 674) (by decide +kernel), List.mem_of_getElem? (i := 675) (by decide +kernel)⟩
theorem lw_p13 : lw_okq (⟨"StrangeWinding$LawReader", "joiningCode", "(I)I"⟩, 1) := ⟨⟨by decide +kernel, by decide +kernel⟩, List.mem_of_getElem? (i := 81) (by decide +kernel), List.mem_of_getElem? (i := 691) (by decide +kernel), List.mem_of_getElem? (i := 692) (by decide +kernel)⟩
theorem lw_p14 : lw_okq (⟨"StrangeWinding$Reader", "readOfWeek", "(LStrangeWinding$Land;LStrangeWinding$Week;)Z"⟩, 4) := ⟨⟨by decide +kernel, by decide +kernel⟩, List.mem_of_getElem? (i := 75) (by decide +kernel), List.mem_of_getElem? (i := 723) (by decide +kernel), List.mem_of_getElem? (i := 724) (by decide +kernel)⟩
theorem lw_p15 : lw_okq (⟨"StrangeWinding$Reader", "verbHere", "()I"⟩, 4) := ⟨⟨by decide +kernel, by decide +kernel⟩, List.mem_of_getElem? (i := 75) (by decide +kernel), List.mem_of_getElem? (i := 727) (by decide +kernel), List.mem_of_getElem? (i := 728) (by decide +kernel)⟩
def lw_privs_1 : List (MethodName × Nat) := [(⟨"StrangeWinding$Tape", "scanWord", "()V"⟩, 8), (⟨"StrangeWinding$Tape", "scanNumber", "()V"⟩, 8), (⟨"StrangeWinding$Reader", "readOfLand", "(LStrangeWinding$Land;)Z"⟩, 4), (⟨"StrangeWinding$Reader", "readStreet", "(LStrangeWinding$Land;)Z"⟩, 4), (⟨"StrangeWinding$Reader", "isNewName", "(LStrangeWinding$Land;)Z"⟩, 4), (⟨"StrangeWinding$Reader", "readPair", "(LStrangeWinding$Land;Z)Z"⟩, 4), (⟨"StrangeWinding$Reader", "numberHere", "(LStrangeWinding$Land;Z)I"⟩, 4), (⟨"StrangeWinding$Reader", "readPerson", "(LStrangeWinding$Land;)Z"⟩, 4), (⟨"StrangeWinding$Reader", "readSoon", "(LStrangeWinding$Land;)Z"⟩, 4), (⟨"StrangeWinding$Reader", "readSnap", "(LStrangeWinding$Land;)Z"⟩, 4), (⟨"StrangeWinding$LawReader", "readFrom", "(IILStrangeWinding$Land;)Z"⟩, 1), (⟨"StrangeWinding$LawReader", "readPart", "(ILStrangeWinding$Land;)Z"⟩, 1), (⟨"StrangeWinding$LawReader", "valueCode", "()I"⟩, 1), (⟨"StrangeWinding$LawReader", "joiningCode", "(I)I"⟩, 1), (⟨"StrangeWinding$Reader", "readOfWeek", "(LStrangeWinding$Land;LStrangeWinding$Week;)Z"⟩, 4), (⟨"StrangeWinding$Reader", "verbHere", "()I"⟩, 4)]
theorem lw_r1 : ∀ q ∈ lw_privs_1, lw_okq q := List.forall_mem_cons.mpr ⟨lw_p0, List.forall_mem_cons.mpr ⟨lw_p1, List.forall_mem_cons.mpr ⟨lw_p2, List.forall_mem_cons.mpr ⟨lw_p3, List.forall_mem_cons.mpr ⟨lw_p4, List.forall_mem_cons.mpr ⟨lw_p5, List.forall_mem_cons.mpr ⟨lw_p6, List.forall_mem_cons.mpr ⟨lw_p7, List.forall_mem_cons.mpr ⟨lw_p8, List.forall_mem_cons.mpr ⟨lw_p9, List.forall_mem_cons.mpr ⟨lw_p10, List.forall_mem_cons.mpr ⟨lw_p11, List.forall_mem_cons.mpr ⟨lw_p12, List.forall_mem_cons.mpr ⟨lw_p13, List.forall_mem_cons.mpr ⟨lw_p14, List.forall_mem_cons.mpr ⟨lw_p15, fun _ h => absurd h List.not_mem_nil⟩⟩⟩⟩⟩⟩⟩⟩⟩⟩⟩⟩⟩⟩⟩⟩
theorem lw_p16 : lw_okq (⟨"StrangeWinding", "isPerson", "(I)Z"⟩, 15) := ⟨⟨by decide +kernel, by decide +kernel⟩, List.mem_of_getElem? (i := 28) (by decide +kernel), List.mem_of_getElem? (i := 748) (by decide +kernel), List.mem_of_getElem? (i := 749) (by decide +kernel)⟩
theorem lw_p17 : lw_okq (⟨"StrangeWinding$State", "windingsOfTwo", "(II)I"⟩, 7) := ⟨⟨by decide +kernel, by decide +kernel⟩, List.mem_of_getElem? (i := 214) (by decide +kernel), List.mem_of_getElem? (i := 769) (by decide +kernel), List.mem_of_getElem? (i := 770) (by decide +kernel)⟩
theorem lw_p18 : lw_okq (⟨"StrangeWinding", "areTwo", "(II)Z"⟩, 15) := ⟨⟨by decide +kernel, by decide +kernel⟩, List.mem_of_getElem? (i := 28) (by decide +kernel), List.mem_of_getElem? (i := 777) (by decide +kernel), List.mem_of_getElem? (i := 778) (by decide +kernel)⟩
theorem lw_p19 : lw_okq (⟨"StrangeWinding", "isStreet", "(I)Z"⟩, 15) := ⟨⟨by decide +kernel, by decide +kernel⟩, List.mem_of_getElem? (i := 28) (by decide +kernel), List.mem_of_getElem? (i := 785) (by decide +kernel), List.mem_of_getElem? (i := 786) (by decide +kernel)⟩
theorem lw_p20 : lw_okq (⟨"StrangeWinding$State", "crowdAround", "(LStrangeWinding$Land;II)I"⟩, 7) := ⟨⟨by decide +kernel, by decide +kernel⟩, List.mem_of_getElem? (i := 214) (by decide +kernel), List.mem_of_getElem? (i := 797) (by decide +kernel), List.mem_of_getElem? (i := 798) (by decide +kernel)⟩
theorem lw_p21 : lw_okq (⟨"StrangeWinding", "followLine", "(LStrangeWinding$Week;I)Z"⟩, 15) := ⟨⟨by decide +kernel, by decide +kernel⟩, List.mem_of_getElem? (i := 28) (by decide +kernel), List.mem_of_getElem? (i := 875) (by decide +kernel), List.mem_of_getElem? (i := 876) (by decide +kernel)⟩
theorem lw_p22 : lw_okq (⟨"StrangeWinding$Planner", "tryFrom", "(LStrangeWinding$Land;II)V"⟩, 5) := ⟨⟨by decide +kernel, by decide +kernel⟩, List.mem_of_getElem? (i := 298) (by decide +kernel), List.mem_of_getElem? (i := 908) (by decide +kernel), List.mem_of_getElem? (i := 909) (by decide +kernel)⟩
theorem lw_p23 : lw_okq (⟨"StrangeWinding", "streetThatSaves", "(II)I"⟩, 15) := ⟨⟨by decide +kernel, by decide +kernel⟩, List.mem_of_getElem? (i := 28) (by decide +kernel), List.mem_of_getElem? (i := 933) (by decide +kernel), List.mem_of_getElem? (i := 934) (by decide +kernel)⟩
theorem lw_p24 : lw_okq (⟨"StrangeWinding", "endsWithoutSitters", "(I)Z"⟩, 15) := ⟨⟨by decide +kernel, by decide +kernel⟩, List.mem_of_getElem? (i := 28) (by decide +kernel), List.mem_of_getElem? (i := 937) (by decide +kernel), List.mem_of_getElem? (i := 938) (by decide +kernel)⟩
theorem lw_p25 : lw_okq (⟨"StrangeWinding", "allCanWalk", "(II)Z"⟩, 15) := ⟨⟨by decide +kernel, by decide +kernel⟩, List.mem_of_getElem? (i := 28) (by decide +kernel), List.mem_of_getElem? (i := 941) (by decide +kernel), List.mem_of_getElem? (i := 942) (by decide +kernel)⟩
theorem lw_p26 : lw_okq (⟨"StrangeWinding$Tally", "addSet", "(I)V"⟩, 4) := ⟨⟨by decide +kernel, by decide +kernel⟩, List.mem_of_getElem? (i := 324) (by decide +kernel), List.mem_of_getElem? (i := 964) (by decide +kernel), List.mem_of_getElem? (i := 965) (by decide +kernel)⟩
theorem lw_p27 : lw_okq (⟨"StrangeWinding", "shareOut", "()V"⟩, 15) := ⟨⟨by decide +kernel, by decide +kernel⟩, List.mem_of_getElem? (i := 28) (by decide +kernel), List.mem_of_getElem? (i := 979) (by decide +kernel), List.mem_of_getElem? (i := 980) (by decide +kernel)⟩
theorem lw_p28 : lw_okq (⟨"StrangeWinding", "shareFrom", "(II)V"⟩, 15) := ⟨⟨by decide +kernel, by decide +kernel⟩, List.mem_of_getElem? (i := 28) (by decide +kernel), List.mem_of_getElem? (i := 983) (by decide +kernel), List.mem_of_getElem? (i := 984) (by decide +kernel)⟩
theorem lw_p29 : lw_okq (⟨"StrangeWinding$Matcher", "tryFrom", "(LStrangeWinding$Land;LStrangeWinding$State;II)V"⟩, 3) := ⟨⟨by decide +kernel, by decide +kernel⟩, List.mem_of_getElem? (i := 347) (by decide +kernel), List.mem_of_getElem? (i := 1000) (by decide +kernel), List.mem_of_getElem? (i := 1001) (by decide +kernel)⟩
theorem lw_p30 : lw_okq (⟨"StrangeWinding", "passDrawnHour", "()V"⟩, 15) := ⟨⟨by decide +kernel, by decide +kernel⟩, List.mem_of_getElem? (i := 28) (by decide +kernel), List.mem_of_getElem? (i := 1014) (by decide +kernel), List.mem_of_getElem? (i := 1015) (by decide +kernel)⟩
theorem lw_p31 : lw_okq (⟨"StrangeWinding", "drawBelow", "(I)I"⟩, 15) := ⟨⟨by decide +kernel, by decide +kernel⟩, List.mem_of_getElem? (i := 28) (by decide +kernel), List.mem_of_getElem? (i := 1018) (by decide +kernel), List.mem_of_getElem? (i := 1019) (by decide +kernel)⟩
def lw_privs_2 : List (MethodName × Nat) := [(⟨"StrangeWinding", "isPerson", "(I)Z"⟩, 15), (⟨"StrangeWinding$State", "windingsOfTwo", "(II)I"⟩, 7), (⟨"StrangeWinding", "areTwo", "(II)Z"⟩, 15), (⟨"StrangeWinding", "isStreet", "(I)Z"⟩, 15), (⟨"StrangeWinding$State", "crowdAround", "(LStrangeWinding$Land;II)I"⟩, 7), (⟨"StrangeWinding", "followLine", "(LStrangeWinding$Week;I)Z"⟩, 15), (⟨"StrangeWinding$Planner", "tryFrom", "(LStrangeWinding$Land;II)V"⟩, 5), (⟨"StrangeWinding", "streetThatSaves", "(II)I"⟩, 15), (⟨"StrangeWinding", "endsWithoutSitters", "(I)Z"⟩, 15), (⟨"StrangeWinding", "allCanWalk", "(II)Z"⟩, 15), (⟨"StrangeWinding$Tally", "addSet", "(I)V"⟩, 4), (⟨"StrangeWinding", "shareOut", "()V"⟩, 15), (⟨"StrangeWinding", "shareFrom", "(II)V"⟩, 15), (⟨"StrangeWinding$Matcher", "tryFrom", "(LStrangeWinding$Land;LStrangeWinding$State;II)V"⟩, 3), (⟨"StrangeWinding", "passDrawnHour", "()V"⟩, 15), (⟨"StrangeWinding", "drawBelow", "(I)I"⟩, 15)]
theorem lw_r2 : ∀ q ∈ lw_privs_2, lw_okq q := List.forall_mem_cons.mpr ⟨lw_p16, List.forall_mem_cons.mpr ⟨lw_p17, List.forall_mem_cons.mpr ⟨lw_p18, List.forall_mem_cons.mpr ⟨lw_p19, List.forall_mem_cons.mpr ⟨lw_p20, List.forall_mem_cons.mpr ⟨lw_p21, List.forall_mem_cons.mpr ⟨lw_p22, List.forall_mem_cons.mpr ⟨lw_p23, List.forall_mem_cons.mpr ⟨lw_p24, List.forall_mem_cons.mpr ⟨lw_p25, List.forall_mem_cons.mpr ⟨lw_p26, List.forall_mem_cons.mpr ⟨lw_p27, List.forall_mem_cons.mpr ⟨lw_p28, List.forall_mem_cons.mpr ⟨lw_p29, List.forall_mem_cons.mpr ⟨lw_p30, List.forall_mem_cons.mpr ⟨lw_p31, fun _ h => absurd h List.not_mem_nil⟩⟩⟩⟩⟩⟩⟩⟩⟩⟩⟩⟩⟩⟩⟩⟩
theorem lw_p32 : lw_okq (⟨"java/lang/Throwable", "fillInStackTrace", "(I)Ljava/lang/Throwable;"⟩, 6) := ⟨⟨by decide +kernel, by decide +kernel⟩, List.mem_of_getElem? (i := 1093) (by decide +kernel), List.mem_of_getElem? (i := 1091) (by decide +kernel), List.mem_of_getElem? (i := 1092) (by decide +kernel)⟩
theorem lw_p33 : lw_okq (⟨"StrangeWindingModel", "fresh", "()V"⟩, 59) := ⟨⟨by decide +kernel, by decide +kernel⟩, List.mem_of_getElem? (i := 1124) (by decide +kernel), List.mem_of_getElem? (i := 1130) (by decide +kernel), List.mem_of_getElem? (i := 1131) (by decide +kernel)⟩
theorem lw_p34 : lw_okq (⟨"StrangeWindingModel", "forgets", "()V"⟩, 59) := ⟨⟨by decide +kernel, by decide +kernel⟩, List.mem_of_getElem? (i := 1124) (by decide +kernel), List.mem_of_getElem? (i := 1134) (by decide +kernel), List.mem_of_getElem? (i := 1135) (by decide +kernel)⟩
theorem lw_p35 : lw_okq (⟨"StrangeWindingModel", "readsAll", "()Z"⟩, 59) := ⟨⟨by decide +kernel, by decide +kernel⟩, List.mem_of_getElem? (i := 1124) (by decide +kernel), List.mem_of_getElem? (i := 1330) (by decide +kernel), List.mem_of_getElem? (i := 1331) (by decide +kernel)⟩
theorem lw_p36 : lw_okq (⟨"StrangeWindingModel", "begins", "()V"⟩, 59) := ⟨⟨by decide +kernel, by decide +kernel⟩, List.mem_of_getElem? (i := 1124) (by decide +kernel), List.mem_of_getElem? (i := 1334) (by decide +kernel), List.mem_of_getElem? (i := 1335) (by decide +kernel)⟩
theorem lw_p37 : lw_okq (⟨"StrangeWindingModel", "nextToken", "()V"⟩, 59) := ⟨⟨by decide +kernel, by decide +kernel⟩, List.mem_of_getElem? (i := 1124) (by decide +kernel), List.mem_of_getElem? (i := 1338) (by decide +kernel), List.mem_of_getElem? (i := 1339) (by decide +kernel)⟩
theorem lw_p38 : lw_okq (⟨"StrangeWindingModel", "signAt", "(I)I"⟩, 59) := ⟨⟨by decide +kernel, by decide +kernel⟩, List.mem_of_getElem? (i := 1124) (by decide +kernel), List.mem_of_getElem? (i := 1342) (by decide +kernel), List.mem_of_getElem? (i := 1343) (by decide +kernel)⟩
theorem lw_p39 : lw_okq (⟨"StrangeWindingModel", "isWord", "(J)Z"⟩, 59) := ⟨⟨by decide +kernel, by decide +kernel⟩, List.mem_of_getElem? (i := 1124) (by decide +kernel), List.mem_of_getElem? (i := 1349) (by decide +kernel), List.mem_of_getElem? (i := 1350) (by decide +kernel)⟩
theorem lw_p40 : lw_okq (⟨"StrangeWindingModel", "readsStreet", "()Z"⟩, 59) := ⟨⟨by decide +kernel, by decide +kernel⟩, List.mem_of_getElem? (i := 1124) (by decide +kernel), List.mem_of_getElem? (i := 1353) (by decide +kernel), List.mem_of_getElem? (i := 1354) (by decide +kernel)⟩
theorem lw_p41 : lw_okq (⟨"StrangeWindingModel", "fails", "(I)Z"⟩, 59) := ⟨⟨by decide +kernel, by decide +kernel⟩, List.mem_of_getElem? (i := 1124) (by decide +kernel), List.mem_of_getElem? (i := 1357) (by decide +kernel), List.mem_of_getElem? (i := 1358) (by decide +kernel)⟩
theorem lw_p42 : lw_okq (⟨"StrangeWindingModel", "needsNew", "()Z"⟩, 59) := ⟨⟨by decide +kernel, by decide +kernel⟩, List.mem_of_getElem? (i := 1124) (by decide +kernel), List.mem_of_getElem? (i := 1361) (by decide +kernel), List.mem_of_getElem? (i := 1362) (by decide +kernel)⟩
theorem lw_p43 : lw_okq (⟨"StrangeWindingModel", "isKept", "()Z"⟩, 59) := ⟨⟨by decide +kernel, by decide +kernel⟩, List.mem_of_getElem? (i := 1124) (by decide +kernel), List.mem_of_getElem? (i := 1365) (by decide +kernel), List.mem_of_getElem? (i := 1366) (by decide +kernel)⟩
theorem lw_p44 : lw_okq (⟨"StrangeWindingModel", "streetNamed", "(I)I"⟩, 59) := ⟨⟨by decide +kernel, by decide +kernel⟩, List.mem_of_getElem? (i := 1124) (by decide +kernel), List.mem_of_getElem? (i := 1388) (by decide +kernel), List.mem_of_getElem? (i := 1389) (by decide +kernel)⟩
theorem lw_p45 : lw_okq (⟨"StrangeWindingModel", "personNamed", "(I)I"⟩, 59) := ⟨⟨by decide +kernel, by decide +kernel⟩, List.mem_of_getElem? (i := 1124) (by decide +kernel), List.mem_of_getElem? (i := 1392) (by decide +kernel), List.mem_of_getElem? (i := 1393) (by decide +kernel)⟩
theorem lw_p46 : lw_okq (⟨"StrangeWindingModel", "closes", "()Z"⟩, 59) := ⟨⟨by decide +kernel, by decide +kernel⟩, List.mem_of_getElem? (i := 1124) (by decide +kernel), List.mem_of_getElem? (i := 1396) (by decide +kernel), List.mem_of_getElem? (i := 1397) (by decide +kernel)⟩
theorem lw_p47 : lw_okq (⟨"StrangeWindingModel", "isSign", "(I)Z"⟩, 59) := ⟨⟨by decide +kernel, by decide +kernel⟩, List.mem_of_getElem? (i := 1124) (by decide +kernel), List.mem_of_getElem? (i := 1400) (by decide +kernel), List.mem_of_getElem? (i := 1401) (by decide +kernel)⟩
def lw_privs_3 : List (MethodName × Nat) := [(⟨"java/lang/Throwable", "fillInStackTrace", "(I)Ljava/lang/Throwable;"⟩, 6), (⟨"StrangeWindingModel", "fresh", "()V"⟩, 59), (⟨"StrangeWindingModel", "forgets", "()V"⟩, 59), (⟨"StrangeWindingModel", "readsAll", "()Z"⟩, 59), (⟨"StrangeWindingModel", "begins", "()V"⟩, 59), (⟨"StrangeWindingModel", "nextToken", "()V"⟩, 59), (⟨"StrangeWindingModel", "signAt", "(I)I"⟩, 59), (⟨"StrangeWindingModel", "isWord", "(J)Z"⟩, 59), (⟨"StrangeWindingModel", "readsStreet", "()Z"⟩, 59), (⟨"StrangeWindingModel", "fails", "(I)Z"⟩, 59), (⟨"StrangeWindingModel", "needsNew", "()Z"⟩, 59), (⟨"StrangeWindingModel", "isKept", "()Z"⟩, 59), (⟨"StrangeWindingModel", "streetNamed", "(I)I"⟩, 59), (⟨"StrangeWindingModel", "personNamed", "(I)I"⟩, 59), (⟨"StrangeWindingModel", "closes", "()Z"⟩, 59), (⟨"StrangeWindingModel", "isSign", "(I)Z"⟩, 59)]
theorem lw_r3 : ∀ q ∈ lw_privs_3, lw_okq q := List.forall_mem_cons.mpr ⟨lw_p32, List.forall_mem_cons.mpr ⟨lw_p33, List.forall_mem_cons.mpr ⟨lw_p34, List.forall_mem_cons.mpr ⟨lw_p35, List.forall_mem_cons.mpr ⟨lw_p36, List.forall_mem_cons.mpr ⟨lw_p37, List.forall_mem_cons.mpr ⟨lw_p38, List.forall_mem_cons.mpr ⟨lw_p39, List.forall_mem_cons.mpr ⟨lw_p40, List.forall_mem_cons.mpr ⟨lw_p41, List.forall_mem_cons.mpr ⟨lw_p42, List.forall_mem_cons.mpr ⟨lw_p43, List.forall_mem_cons.mpr ⟨lw_p44, List.forall_mem_cons.mpr ⟨lw_p45, List.forall_mem_cons.mpr ⟨lw_p46, List.forall_mem_cons.mpr ⟨lw_p47, fun _ h => absurd h List.not_mem_nil⟩⟩⟩⟩⟩⟩⟩⟩⟩⟩⟩⟩⟩⟩⟩⟩
theorem lw_p48 : lw_okq (⟨"StrangeWindingModel", "readsLane", "()Z"⟩, 59) := ⟨⟨by decide +kernel, by decide +kernel⟩, List.mem_of_getElem? (i := 1124) (by decide +kernel), List.mem_of_getElem? (i := 1404) (by decide +kernel), List.mem_of_getElem? (i := 1405) (by decide +kernel)⟩
theorem lw_p49 : lw_okq (⟨"StrangeWindingModel", "needsTwo", "(ZI)Z"⟩, 59) := ⟨⟨by decide +kernel, by decide +kernel⟩, List.mem_of_getElem? (i := 1124) (by decide +kernel), List.mem_of_getElem? (i := 1408) (by decide +kernel), List.mem_of_getElem? (i := 1409) (by decide +kernel)⟩
theorem lw_p50 : lw_okq (⟨"StrangeWindingModel", "needsStreet", "(I)Z"⟩, 59) := ⟨⟨by decide +kernel, by decide +kernel⟩, List.mem_of_getElem? (i := 1124) (by decide +kernel), List.mem_of_getElem? (i := 1412) (by decide +kernel), List.mem_of_getElem? (i := 1413) (by decide +kernel)⟩
theorem lw_p51 : lw_okq (⟨"StrangeWindingModel", "needsPerson", "(I)Z"⟩, 59) := ⟨⟨by decide +kernel, by decide +kernel⟩, List.mem_of_getElem? (i := 1124) (by decide +kernel), List.mem_of_getElem? (i := 1416) (by decide +kernel), List.mem_of_getElem? (i := 1417) (by decide +kernel)⟩
theorem lw_p52 : lw_okq (⟨"StrangeWindingModel", "readsPerson", "()Z"⟩, 59) := ⟨⟨by decide +kernel, by decide +kernel⟩, List.mem_of_getElem? (i := 1124) (by decide +kernel), List.mem_of_getElem? (i := 1420) (by decide +kernel), List.mem_of_getElem? (i := 1421) (by decide +kernel)⟩
theorem lw_p53 : lw_okq (⟨"StrangeWindingModel", "needsWord", "(J)Z"⟩, 59) := ⟨⟨by decide +kernel, by decide +kernel⟩, List.mem_of_getElem? (i := 1124) (by decide +kernel), List.mem_of_getElem? (i := 1424) (by decide +kernel), List.mem_of_getElem? (i := 1425) (by decide +kernel)⟩
theorem lw_p54 : lw_okq (⟨"StrangeWindingModel", "needsNumber", "(II)Z"⟩, 59) := ⟨⟨by decide +kernel, by decide +kernel⟩, List.mem_of_getElem? (i := 1124) (by decide +kernel), List.mem_of_getElem? (i := 1428) (by decide +kernel), List.mem_of_getElem? (i := 1429) (by decide +kernel)⟩
theorem lw_p55 : lw_okq (⟨"StrangeWindingModel", "readsKnows", "()Z"⟩, 59) := ⟨⟨by decide +kernel, by decide +kernel⟩, List.mem_of_getElem? (i := 1124) (by decide +kernel), List.mem_of_getElem? (i := 1435) (by decide +kernel), List.mem_of_getElem? (i := 1436) (by decide +kernel)⟩
theorem lw_p56 : lw_okq (⟨"StrangeWindingModel", "readsOne", "(II)Z"⟩, 59) := ⟨⟨by decide +kernel, by decide +kernel⟩, List.mem_of_getElem? (i := 1124) (by decide +kernel), List.mem_of_getElem? (i := 1439) (by decide +kernel), List.mem_of_getElem? (i := 1440) (by decide +kernel)⟩
theorem lw_p57 : lw_okq (⟨"StrangeWindingModel", "isTwice", "(I)Z"⟩, 59) := ⟨⟨by decide +kernel, by decide +kernel⟩, List.mem_of_getElem? (i := 1124) (by decide +kernel), List.mem_of_getElem? (i := 1443) (by decide +kernel), List.mem_of_getElem? (i := 1444) (by decide +kernel)⟩
theorem lw_p58 : lw_okq (⟨"StrangeWindingModel", "readsWinds", "()Z"⟩, 59) := ⟨⟨by decide +kernel, by decide +kernel⟩, List.mem_of_getElem? (i := 1124) (by decide +kernel), List.mem_of_getElem? (i := 1447) (by decide +kernel), List.mem_of_getElem? (i := 1448) (by decide +kernel)⟩
theorem lw_p59 : lw_okq (⟨"StrangeWindingModel", "reads", "()Z"⟩, 59) := ⟨⟨by decide +kernel, by decide +kernel⟩, List.mem_of_getElem? (i := 1124) (by decide +kernel), List.mem_of_getElem? (i := 1451) (by decide +kernel), List.mem_of_getElem? (i := 1452) (by decide +kernel)⟩
theorem lw_p60 : lw_okq (⟨"StrangeWindingModel", "fact", "()I"⟩, 59) := ⟨⟨by decide +kernel, by decide +kernel⟩, List.mem_of_getElem? (i := 1124) (by decide +kernel), List.mem_of_getElem? (i := 1455) (by decide +kernel), List.mem_of_getElem? (i := 1456) (by decide +kernel)⟩
theorem lw_p61 : lw_okq (⟨"StrangeWindingModel", "puts", "(I)V"⟩, 59) := ⟨⟨by decide +kernel, by decide +kernel⟩, List.mem_of_getElem? (i := 1124) (by decide +kernel), List.mem_of_getElem? (i := 1463) (by decide +kernel), List.mem_of_getElem? (i := 1464) (by decide +kernel)⟩
theorem lw_p62 : lw_okq (⟨"StrangeWindingModel", "lays", "()V"⟩, 59) := ⟨⟨by decide +kernel, by decide +kernel⟩, List.mem_of_getElem? (i := 1124) (by decide +kernel), List.mem_of_getElem? (i := 1467) (by decide +kernel), List.mem_of_getElem? (i := 1468) (by decide +kernel)⟩
theorem lw_p63 : lw_okq (⟨"StrangeWindingModel", "readsLine", "()Z"⟩, 59) := ⟨⟨by decide +kernel, by decide +kernel⟩, List.mem_of_getElem? (i := 1124) (by decide +kernel), List.mem_of_getElem? (i := 1481) (by decide +kernel), List.mem_of_getElem? (i := 1482) (by decide +kernel)⟩
def lw_privs_4 : List (MethodName × Nat) := [(⟨"StrangeWindingModel", "readsLane", "()Z"⟩, 59), (⟨"StrangeWindingModel", "needsTwo", "(ZI)Z"⟩, 59), (⟨"StrangeWindingModel", "needsStreet", "(I)Z"⟩, 59), (⟨"StrangeWindingModel", "needsPerson", "(I)Z"⟩, 59), (⟨"StrangeWindingModel", "readsPerson", "()Z"⟩, 59), (⟨"StrangeWindingModel", "needsWord", "(J)Z"⟩, 59), (⟨"StrangeWindingModel", "needsNumber", "(II)Z"⟩, 59), (⟨"StrangeWindingModel", "readsKnows", "()Z"⟩, 59), (⟨"StrangeWindingModel", "readsOne", "(II)Z"⟩, 59), (⟨"StrangeWindingModel", "isTwice", "(I)Z"⟩, 59), (⟨"StrangeWindingModel", "readsWinds", "()Z"⟩, 59), (⟨"StrangeWindingModel", "reads", "()Z"⟩, 59), (⟨"StrangeWindingModel", "fact", "()I"⟩, 59), (⟨"StrangeWindingModel", "puts", "(I)V"⟩, 59), (⟨"StrangeWindingModel", "lays", "()V"⟩, 59), (⟨"StrangeWindingModel", "readsLine", "()Z"⟩, 59)]
theorem lw_r4 : ∀ q ∈ lw_privs_4, lw_okq q := List.forall_mem_cons.mpr ⟨lw_p48, List.forall_mem_cons.mpr ⟨lw_p49, List.forall_mem_cons.mpr ⟨lw_p50, List.forall_mem_cons.mpr ⟨lw_p51, List.forall_mem_cons.mpr ⟨lw_p52, List.forall_mem_cons.mpr ⟨lw_p53, List.forall_mem_cons.mpr ⟨lw_p54, List.forall_mem_cons.mpr ⟨lw_p55, List.forall_mem_cons.mpr ⟨lw_p56, List.forall_mem_cons.mpr ⟨lw_p57, List.forall_mem_cons.mpr ⟨lw_p58, List.forall_mem_cons.mpr ⟨lw_p59, List.forall_mem_cons.mpr ⟨lw_p60, List.forall_mem_cons.mpr ⟨lw_p61, List.forall_mem_cons.mpr ⟨lw_p62, List.forall_mem_cons.mpr ⟨lw_p63, fun _ h => absurd h List.not_mem_nil⟩⟩⟩⟩⟩⟩⟩⟩⟩⟩⟩⟩⟩⟩⟩⟩
theorem lw_p64 : lw_okq (⟨"StrangeWindingModel", "laysLines", "(II)V"⟩, 59) := ⟨⟨by decide +kernel, by decide +kernel⟩, List.mem_of_getElem? (i := 1124) (by decide +kernel), List.mem_of_getElem? (i := 1485) (by decide +kernel), List.mem_of_getElem? (i := 1486) (by decide +kernel)⟩
theorem lw_p65 : lw_okq (⟨"StrangeWindingModel", "isPerson", "(I)Z"⟩, 59) := ⟨⟨by decide +kernel, by decide +kernel⟩, List.mem_of_getElem? (i := 1124) (by decide +kernel), List.mem_of_getElem? (i := 1493) (by decide +kernel), List.mem_of_getElem? (i := 1494) (by decide +kernel)⟩
theorem lw_p66 : lw_okq (⟨"StrangeWindingModel", "isSitting", "(I)Z"⟩, 59) := ⟨⟨by decide +kernel, by decide +kernel⟩, List.mem_of_getElem? (i := 1124) (by decide +kernel), List.mem_of_getElem? (i := 1497) (by decide +kernel), List.mem_of_getElem? (i := 1498) (by decide +kernel)⟩
theorem lw_p67 : lw_okq (⟨"StrangeWindingModel", "isSnapped", "(I)Z"⟩, 59) := ⟨⟨by decide +kernel, by decide +kernel⟩, List.mem_of_getElem? (i := 1124) (by decide +kernel), List.mem_of_getElem? (i := 1501) (by decide +kernel), List.mem_of_getElem? (i := 1502) (by decide +kernel)⟩
theorem lw_p68 : lw_okq (⟨"StrangeWindingModel", "strangersOf", "(I)I"⟩, 59) := ⟨⟨by decide +kernel, by decide +kernel⟩, List.mem_of_getElem? (i := 1124) (by decide +kernel), List.mem_of_getElem? (i := 1505) (by decide +kernel), List.mem_of_getElem? (i := 1506) (by decide +kernel)⟩
theorem lw_p69 : lw_okq (⟨"StrangeWindingModel", "areStrangers", "(II)Z"⟩, 59) := ⟨⟨by decide +kernel, by decide +kernel⟩, List.mem_of_getElem? (i := 1124) (by decide +kernel), List.mem_of_getElem? (i := 1509) (by decide +kernel), List.mem_of_getElem? (i := 1510) (by decide +kernel)⟩
theorem lw_p70 : lw_okq (⟨"StrangeWindingModel", "together", "(II)I"⟩, 59) := ⟨⟨by decide +kernel, by decide +kernel⟩, List.mem_of_getElem? (i := 1124) (by decide +kernel), List.mem_of_getElem? (i := 1513) (by decide +kernel), List.mem_of_getElem? (i := 1514) (by decide +kernel)⟩
theorem lw_p71 : lw_okq (⟨"StrangeWindingModel", "areTwo", "(II)Z"⟩, 59) := ⟨⟨by decide +kernel, by decide +kernel⟩, List.mem_of_getElem? (i := 1124) (by decide +kernel), List.mem_of_getElem? (i := 1521) (by decide +kernel), List.mem_of_getElem? (i := 1522) (by decide +kernel)⟩
theorem lw_p72 : lw_okq (⟨"StrangeWindingModel", "isStreet", "(I)Z"⟩, 59) := ⟨⟨by decide +kernel, by decide +kernel⟩, List.mem_of_getElem? (i := 1124) (by decide +kernel), List.mem_of_getElem? (i := 1529) (by decide +kernel), List.mem_of_getElem? (i := 1530) (by decide +kernel)⟩
theorem lw_p73 : lw_okq (⟨"StrangeWindingModel", "windsBy", "(III)I"⟩, 59) := ⟨⟨by decide +kernel, by decide +kernel⟩, List.mem_of_getElem? (i := 1124) (by decide +kernel), List.mem_of_getElem? (i := 1537) (by decide +kernel), List.mem_of_getElem? (i := 1538) (by decide +kernel)⟩
theorem lw_p74 : lw_okq (⟨"StrangeWindingModel", "crowdBeside", "(II)I"⟩, 59) := ⟨⟨by decide +kernel, by decide +kernel⟩, List.mem_of_getElem? (i := 1124) (by decide +kernel), List.mem_of_getElem? (i := 1541) (by decide +kernel), List.mem_of_getElem? (i := 1542) (by decide +kernel)⟩
theorem lw_p75 : lw_okq (⟨"StrangeWindingModel", "worked", "(I)I"⟩, 59) := ⟨⟨by decide +kernel, by decide +kernel⟩, List.mem_of_getElem? (i := 1124) (by decide +kernel), List.mem_of_getElem? (i := 1545) (by decide +kernel), List.mem_of_getElem? (i := 1546) (by decide +kernel)⟩
theorem lw_p76 : lw_okq (⟨"StrangeWindingModel", "opens", "(I)V"⟩, 59) := ⟨⟨by decide +kernel, by decide +kernel⟩, List.mem_of_getElem? (i := 1124) (by decide +kernel), List.mem_of_getElem? (i := 1549) (by decide +kernel), List.mem_of_getElem? (i := 1550) (by decide +kernel)⟩
theorem lw_p77 : lw_okq (⟨"StrangeWindingModel", "sums", "(I)V"⟩, 59) := ⟨⟨by decide +kernel, by decide +kernel⟩, List.mem_of_getElem? (i := 1124) (by decide +kernel), List.mem_of_getElem? (i := 1553) (by decide +kernel), List.mem_of_getElem? (i := 1554) (by decide +kernel)⟩
theorem lw_p78 : lw_okq (⟨"StrangeWindingModel", "tests", "(I)V"⟩, 59) := ⟨⟨by decide +kernel, by decide +kernel⟩, List.mem_of_getElem? (i := 1124) (by decide +kernel), List.mem_of_getElem? (i := 1557) (by decide +kernel), List.mem_of_getElem? (i := 1558) (by decide +kernel)⟩
theorem lw_p79 : lw_okq (⟨"StrangeWindingModel", "canWalk", "(II)Z"⟩, 59) := ⟨⟨by decide +kernel, by decide +kernel⟩, List.mem_of_getElem? (i := 1124) (by decide +kernel), List.mem_of_getElem? (i := 1568) (by decide +kernel), List.mem_of_getElem? (i := 1569) (by decide +kernel)⟩
def lw_privs_5 : List (MethodName × Nat) := [(⟨"StrangeWindingModel", "laysLines", "(II)V"⟩, 59), (⟨"StrangeWindingModel", "isPerson", "(I)Z"⟩, 59), (⟨"StrangeWindingModel", "isSitting", "(I)Z"⟩, 59), (⟨"StrangeWindingModel", "isSnapped", "(I)Z"⟩, 59), (⟨"StrangeWindingModel", "strangersOf", "(I)I"⟩, 59), (⟨"StrangeWindingModel", "areStrangers", "(II)Z"⟩, 59), (⟨"StrangeWindingModel", "together", "(II)I"⟩, 59), (⟨"StrangeWindingModel", "areTwo", "(II)Z"⟩, 59), (⟨"StrangeWindingModel", "isStreet", "(I)Z"⟩, 59), (⟨"StrangeWindingModel", "windsBy", "(III)I"⟩, 59), (⟨"StrangeWindingModel", "crowdBeside", "(II)I"⟩, 59), (⟨"StrangeWindingModel", "worked", "(I)I"⟩, 59), (⟨"StrangeWindingModel", "opens", "(I)V"⟩, 59), (⟨"StrangeWindingModel", "sums", "(I)V"⟩, 59), (⟨"StrangeWindingModel", "tests", "(I)V"⟩, 59), (⟨"StrangeWindingModel", "canWalk", "(II)Z"⟩, 59)]
theorem lw_r5 : ∀ q ∈ lw_privs_5, lw_okq q := List.forall_mem_cons.mpr ⟨lw_p64, List.forall_mem_cons.mpr ⟨lw_p65, List.forall_mem_cons.mpr ⟨lw_p66, List.forall_mem_cons.mpr ⟨lw_p67, List.forall_mem_cons.mpr ⟨lw_p68, List.forall_mem_cons.mpr ⟨lw_p69, List.forall_mem_cons.mpr ⟨lw_p70, List.forall_mem_cons.mpr ⟨lw_p71, List.forall_mem_cons.mpr ⟨lw_p72, List.forall_mem_cons.mpr ⟨lw_p73, List.forall_mem_cons.mpr ⟨lw_p74, List.forall_mem_cons.mpr ⟨lw_p75, List.forall_mem_cons.mpr ⟨lw_p76, List.forall_mem_cons.mpr ⟨lw_p77, List.forall_mem_cons.mpr ⟨lw_p78, List.forall_mem_cons.mpr ⟨lw_p79, fun _ h => absurd h List.not_mem_nil⟩⟩⟩⟩⟩⟩⟩⟩⟩⟩⟩⟩⟩⟩⟩⟩
theorem lw_p80 : lw_okq (⟨"StrangeWindingModel", "keeps", "()V"⟩, 59) := ⟨⟨by decide +kernel, by decide +kernel⟩, List.mem_of_getElem? (i := 1124) (by decide +kernel), List.mem_of_getElem? (i := 1572) (by decide +kernel), List.mem_of_getElem? (i := 1573) (by decide +kernel)⟩
theorem lw_p81 : lw_okq (⟨"StrangeWindingModel", "mightWind", "(II)Z"⟩, 59) := ⟨⟨by decide +kernel, by decide +kernel⟩, List.mem_of_getElem? (i := 1124) (by decide +kernel), List.mem_of_getElem? (i := 1583) (by decide +kernel), List.mem_of_getElem? (i := 1584) (by decide +kernel)⟩
theorem lw_p82 : lw_okq (⟨"StrangeWindingModel", "canBeWound", "(I)Z"⟩, 59) := ⟨⟨by decide +kernel, by decide +kernel⟩, List.mem_of_getElem? (i := 1124) (by decide +kernel), List.mem_of_getElem? (i := 1587) (by decide +kernel), List.mem_of_getElem? (i := 1588) (by decide +kernel)⟩
theorem lw_p83 : lw_okq (⟨"StrangeWindingModel", "winds", "(II)V"⟩, 59) := ⟨⟨by decide +kernel, by decide +kernel⟩, List.mem_of_getElem? (i := 1124) (by decide +kernel), List.mem_of_getElem? (i := 1591) (by decide +kernel), List.mem_of_getElem? (i := 1592) (by decide +kernel)⟩
theorem lw_p84 : lw_okq (⟨"StrangeWindingModel", "mends", "(I)V"⟩, 59) := ⟨⟨by decide +kernel, by decide +kernel⟩, List.mem_of_getElem? (i := 1124) (by decide +kernel), List.mem_of_getElem? (i := 1599) (by decide +kernel), List.mem_of_getElem? (i := 1600) (by decide +kernel)⟩
theorem lw_p85 : lw_okq (⟨"StrangeWindingModel", "passes", "()I"⟩, 59) := ⟨⟨by decide +kernel, by decide +kernel⟩, List.mem_of_getElem? (i := 1124) (by decide +kernel), List.mem_of_getElem? (i := 1607) (by decide +kernel), List.mem_of_getElem? (i := 1608) (by decide +kernel)⟩
theorem lw_p86 : lw_okq (⟨"StrangeWindingModel", "windsIfLow", "(II)I"⟩, 59) := ⟨⟨by decide +kernel, by decide +kernel⟩, List.mem_of_getElem? (i := 1124) (by decide +kernel), List.mem_of_getElem? (i := 1611) (by decide +kernel), List.mem_of_getElem? (i := 1612) (by decide +kernel)⟩
theorem lw_p87 : lw_okq (⟨"StrangeWindingModel", "goes", "(I)Z"⟩, 59) := ⟨⟨by decide +kernel, by decide +kernel⟩, List.mem_of_getElem? (i := 1124) (by decide +kernel), List.mem_of_getElem? (i := 1623) (by decide +kernel), List.mem_of_getElem? (i := 1624) (by decide +kernel)⟩
theorem lw_p88 : lw_okq (⟨"StrangeWindingModel", "sitting", "()I"⟩, 59) := ⟨⟨by decide +kernel, by decide +kernel⟩, List.mem_of_getElem? (i := 1124) (by decide +kernel), List.mem_of_getElem? (i := 1627) (by decide +kernel), List.mem_of_getElem? (i := 1628) (by decide +kernel)⟩
theorem lw_p89 : lw_okq (⟨"StrangeWindingModel", "plans", "(III)V"⟩, 59) := ⟨⟨by decide +kernel, by decide +kernel⟩, List.mem_of_getElem? (i := 1124) (by decide +kernel), List.mem_of_getElem? (i := 1643) (by decide +kernel), List.mem_of_getElem? (i := 1644) (by decide +kernel)⟩
theorem lw_p90 : lw_okq (⟨"StrangeWindingModel", "nobodySits", "(III)Z"⟩, 59) := ⟨⟨by decide +kernel, by decide +kernel⟩, List.mem_of_getElem? (i := 1124) (by decide +kernel), List.mem_of_getElem? (i := 1655) (by decide +kernel), List.mem_of_getElem? (i := 1656) (by decide +kernel)⟩
theorem lw_p91 : lw_okq (⟨"StrangeWindingModel", "whereTo", "(II)I"⟩, 59) := ⟨⟨by decide +kernel, by decide +kernel⟩, List.mem_of_getElem? (i := 1124) (by decide +kernel), List.mem_of_getElem? (i := 1662) (by decide +kernel), List.mem_of_getElem? (i := 1663) (by decide +kernel)⟩
theorem lw_p92 : lw_okq (⟨"StrangeWindingModel", "canAllWalk", "(II)Z"⟩, 59) := ⟨⟨by decide +kernel, by decide +kernel⟩, List.mem_of_getElem? (i := 1124) (by decide +kernel), List.mem_of_getElem? (i := 1666) (by decide +kernel), List.mem_of_getElem? (i := 1667) (by decide +kernel)⟩
theorem lw_p93 : lw_okq (⟨"StrangeWindingModel", "whoMight", "(I)I"⟩, 59) := ⟨⟨by decide +kernel, by decide +kernel⟩, List.mem_of_getElem? (i := 1124) (by decide +kernel), List.mem_of_getElem? (i := 1678) (by decide +kernel), List.mem_of_getElem? (i := 1679) (by decide +kernel)⟩
theorem lw_p94 : lw_okq (⟨"StrangeWindingModel", "isAsTold", "(II)Z"⟩, 59) := ⟨⟨by decide +kernel, by decide +kernel⟩, List.mem_of_getElem? (i := 1124) (by decide +kernel), List.mem_of_getElem? (i := 1682) (by decide +kernel), List.mem_of_getElem? (i := 1683) (by decide +kernel)⟩
theorem lw_p95 : lw_okq (⟨"StrangeWindingModel", "leftBy", "(II)I"⟩, 59) := ⟨⟨by decide +kernel, by decide +kernel⟩, List.mem_of_getElem? (i := 1124) (by decide +kernel), List.mem_of_getElem? (i := 1686) (by decide +kernel), List.mem_of_getElem? (i := 1687) (by decide +kernel)⟩
def lw_privs_6 : List (MethodName × Nat) := [(⟨"StrangeWindingModel", "keeps", "()V"⟩, 59), (⟨"StrangeWindingModel", "mightWind", "(II)Z"⟩, 59), (⟨"StrangeWindingModel", "canBeWound", "(I)Z"⟩, 59), (⟨"StrangeWindingModel", "winds", "(II)V"⟩, 59), (⟨"StrangeWindingModel", "mends", "(I)V"⟩, 59), (⟨"StrangeWindingModel", "passes", "()I"⟩, 59), (⟨"StrangeWindingModel", "windsIfLow", "(II)I"⟩, 59), (⟨"StrangeWindingModel", "goes", "(I)Z"⟩, 59), (⟨"StrangeWindingModel", "sitting", "()I"⟩, 59), (⟨"StrangeWindingModel", "plans", "(III)V"⟩, 59), (⟨"StrangeWindingModel", "nobodySits", "(III)Z"⟩, 59), (⟨"StrangeWindingModel", "whereTo", "(II)I"⟩, 59), (⟨"StrangeWindingModel", "canAllWalk", "(II)Z"⟩, 59), (⟨"StrangeWindingModel", "whoMight", "(I)I"⟩, 59), (⟨"StrangeWindingModel", "isAsTold", "(II)Z"⟩, 59), (⟨"StrangeWindingModel", "leftBy", "(II)I"⟩, 59)]
theorem lw_r6 : ∀ q ∈ lw_privs_6, lw_okq q := List.forall_mem_cons.mpr ⟨lw_p80, List.forall_mem_cons.mpr ⟨lw_p81, List.forall_mem_cons.mpr ⟨lw_p82, List.forall_mem_cons.mpr ⟨lw_p83, List.forall_mem_cons.mpr ⟨lw_p84, List.forall_mem_cons.mpr ⟨lw_p85, List.forall_mem_cons.mpr ⟨lw_p86, List.forall_mem_cons.mpr ⟨lw_p87, List.forall_mem_cons.mpr ⟨lw_p88, List.forall_mem_cons.mpr ⟨lw_p89, List.forall_mem_cons.mpr ⟨lw_p90, List.forall_mem_cons.mpr ⟨lw_p91, List.forall_mem_cons.mpr ⟨lw_p92, List.forall_mem_cons.mpr ⟨lw_p93, List.forall_mem_cons.mpr ⟨lw_p94, List.forall_mem_cons.mpr ⟨lw_p95, fun _ h => absurd h List.not_mem_nil⟩⟩⟩⟩⟩⟩⟩⟩⟩⟩⟩⟩⟩⟩⟩⟩
theorem lw_p96 : lw_okq (⟨"StrangeWindingModel", "sharesOut", "(II)V"⟩, 59) := ⟨⟨by decide +kernel, by decide +kernel⟩, List.mem_of_getElem? (i := 1124) (by decide +kernel), List.mem_of_getElem? (i := 1701) (by decide +kernel), List.mem_of_getElem? (i := 1702) (by decide +kernel)⟩
theorem lw_p97 : lw_okq (⟨"StrangeWindingModel", "laneMany", "(I)I"⟩, 59) := ⟨⟨by decide +kernel, by decide +kernel⟩, List.mem_of_getElem? (i := 1124) (by decide +kernel), List.mem_of_getElem? (i := 1705) (by decide +kernel), List.mem_of_getElem? (i := 1706) (by decide +kernel)⟩
theorem lw_p98 : lw_okq (⟨"StrangeWindingModel", "goesBetween", "(II)Z"⟩, 59) := ⟨⟨by decide +kernel, by decide +kernel⟩, List.mem_of_getElem? (i := 1124) (by decide +kernel), List.mem_of_getElem? (i := 1709) (by decide +kernel), List.mem_of_getElem? (i := 1710) (by decide +kernel)⟩
theorem lw_p99 : lw_okq (⟨"StrangeWindingModel", "pairsFrom", "(III)V"⟩, 59) := ⟨⟨by decide +kernel, by decide +kernel⟩, List.mem_of_getElem? (i := 1124) (by decide +kernel), List.mem_of_getElem? (i := 1721) (by decide +kernel), List.mem_of_getElem? (i := 1722) (by decide +kernel)⟩
theorem lw_p100 : lw_okq (⟨"StrangeWindingModel", "isRowAhead", "()Z"⟩, 59) := ⟨⟨by decide +kernel, by decide +kernel⟩, List.mem_of_getElem? (i := 1124) (by decide +kernel), List.mem_of_getElem? (i := 1725) (by decide +kernel), List.mem_of_getElem? (i := 1726) (by decide +kernel)⟩
theorem lw_p101 : lw_okq (⟨"StrangeWindingModel", "livesHour", "()I"⟩, 59) := ⟨⟨by decide +kernel, by decide +kernel⟩, List.mem_of_getElem? (i := 1124) (by decide +kernel), List.mem_of_getElem? (i := 1744) (by decide +kernel), List.mem_of_getElem? (i := 1745) (by decide +kernel)⟩
theorem lw_p102 : lw_okq (⟨"StrangeWindingModel", "draws", "(I)I"⟩, 59) := ⟨⟨by decide +kernel, by decide +kernel⟩, List.mem_of_getElem? (i := 1124) (by decide +kernel), List.mem_of_getElem? (i := 1748) (by decide +kernel), List.mem_of_getElem? (i := 1749) (by decide +kernel)⟩
theorem lw_p103 : lw_okq (⟨"StrangeWindingModel", "sum", "(II)I"⟩, 59) := ⟨⟨by decide +kernel, by decide +kernel⟩, List.mem_of_getElem? (i := 1124) (by decide +kernel), List.mem_of_getElem? (i := 1764) (by decide +kernel), List.mem_of_getElem? (i := 1765) (by decide +kernel)⟩
theorem lw_p104 : lw_okq (⟨"StrangeWindingModel", "talesMany", "()I"⟩, 59) := ⟨⟨by decide +kernel, by decide +kernel⟩, List.mem_of_getElem? (i := 1124) (by decide +kernel), List.mem_of_getElem? (i := 1768) (by decide +kernel), List.mem_of_getElem? (i := 1769) (by decide +kernel)⟩
def lw_privs_7 : List (MethodName × Nat) := [(⟨"StrangeWindingModel", "sharesOut", "(II)V"⟩, 59), (⟨"StrangeWindingModel", "laneMany", "(I)I"⟩, 59), (⟨"StrangeWindingModel", "goesBetween", "(II)Z"⟩, 59), (⟨"StrangeWindingModel", "pairsFrom", "(III)V"⟩, 59), (⟨"StrangeWindingModel", "isRowAhead", "()Z"⟩, 59), (⟨"StrangeWindingModel", "livesHour", "()I"⟩, 59), (⟨"StrangeWindingModel", "draws", "(I)I"⟩, 59), (⟨"StrangeWindingModel", "sum", "(II)I"⟩, 59), (⟨"StrangeWindingModel", "talesMany", "()I"⟩, 59)]
theorem lw_r7 : ∀ q ∈ lw_privs_7, lw_okq q := List.forall_mem_cons.mpr ⟨lw_p96, List.forall_mem_cons.mpr ⟨lw_p97, List.forall_mem_cons.mpr ⟨lw_p98, List.forall_mem_cons.mpr ⟨lw_p99, List.forall_mem_cons.mpr ⟨lw_p100, List.forall_mem_cons.mpr ⟨lw_p101, List.forall_mem_cons.mpr ⟨lw_p102, List.forall_mem_cons.mpr ⟨lw_p103, List.forall_mem_cons.mpr ⟨lw_p104, fun _ h => absurd h List.not_mem_nil⟩⟩⟩⟩⟩⟩⟩⟩⟩
def lw_privs : List (MethodName × Nat) := lw_privs_1 ++ (lw_privs_2 ++ (lw_privs_3 ++ (lw_privs_4 ++ (lw_privs_5 ++ (lw_privs_6 ++ (lw_privs_7))))))
def lw_tbl : List Cond := k2_sels lw_privs ++ tables_1
theorem lw_privs_ok : ∀ q ∈ lw_privs, lw_okq q := by
  show ∀ q ∈ lw_privs_1 ++ (lw_privs_2 ++ (lw_privs_3 ++ (lw_privs_4 ++ (lw_privs_5 ++ (lw_privs_6 ++ (lw_privs_7)))))), lw_okq q
  exact List.forall_mem_append.mpr ⟨lw_r1, List.forall_mem_append.mpr ⟨lw_r2, List.forall_mem_append.mpr ⟨lw_r3, List.forall_mem_append.mpr ⟨lw_r4, List.forall_mem_append.mpr ⟨lw_r5, List.forall_mem_append.mpr ⟨lw_r6, lw_r7⟩⟩⟩⟩⟩⟩
-- ===== end of PART A; then your names; then what follows =====
end
section
/-! THE PLAIN MACHINE: values (ints, longs, cells by kind and number), locals, a heap of numbered cells; a step of it is a total function. 'ex_' and 'pm_' names. -/
abbrev PV : Type := Int32 ⊕ (Int64 ⊕ (Nat × Nat))
abbrev vi (x : Int32) : PV := .inl x
abbrev vl (x : Int64) : PV := .inr (.inl x)
abbrev vr (k n : Nat) : PV := .inr (.inr (k, n))
abbrev LL : Type := List (Option PV)
abbrev FT : Type := Nat → Nat → Nat → Int32
abbrev GT : Type := Nat → Nat → Nat → Int64
abbrev RT : Type := Nat → Nat → Nat → Option Nat
/-- how many cells in all, how many of each kind; ints, longs, references by kind, number, place -/
abbrev HS : Type := (Nat × (Nat → Nat)) × (FT × (GT × RT))
/-- an instruction: what, two numbers, a constant, the next place -/
abbrev Ent : Type := Nat × (Nat × (Nat × (PV × Nat)))
def uF (F : FT) (k n i : Nat) (v : Int32) : FT := fun k' n' i' => if k' = k ∧ n' = n ∧ i' = i then v else F k' n' i'
def uG (G : GT) (k n i : Nat) (v : Int64) : GT := fun k' n' i' => if k' = k ∧ n' = n ∧ i' = i then v else G k' n' i'
def uR (R : RT) (k n i : Nat) (v : Option Nat) : RT := fun k' n' i' => if k' = k ∧ n' = n ∧ i' = i then v else R k' n' i'
/-- a row's places from a on are those of another row from b on, n of them -/
def cF (F : FT) (k n a k2 n2 b m : Nat) : FT := fun k' n' i' => if k' = k ∧ n' = n then va_cpy (F k2 n2) (F k n) b a m i' else F k' n' i'
def inb (i : Int32) (n : Nat) : Bool := !(decide (i < 0) || decide (n ≤ i.toNatClampNeg))
theorem inb_in {i : Int32} {n : Nat} (h : inb i n = true) : vp_in i n := by
  simp only [inb, Bool.not_eq_true', Bool.or_eq_false_iff, decide_eq_false_iff_not] at h
  intro hc
  rcases hc with hc | hc
  · exact h.1 hc
  · exact h.2 hc
def ibop (a : Nat) (x y : Int32) : Int32 := match a with
  | 0 => x + y
  | 1 => x - y
  | 2 => x * y
  | 3 => x &&& y
  | 4 => x ||| y
  | 5 => x ^^^ y
  | 6 => x <<< (y &&& 31)
  | 7 => x >>> (y &&& 31)
  | _ => (x.toUInt32 >>> (y.toUInt32 &&& Int32.toUInt32 31)).toInt32
def lbop (a : Nat) (x y : Int64) : Int64 := match a with
  | 0 => x + y
  | 1 => x - y
  | 2 => x * y
  | 3 => x &&& y
  | _ => x ||| y
def cnd (a : Nat) (x y : Int32) : Bool := match a with
  | 0 => decide (x = y)
  | 1 => decide (¬ x = y)
  | 2 => decide (x < y)
  | 3 => decide (y ≤ x)
  | 4 => decide (y < x)
  | _ => decide (x ≤ y)
def isL : Option PV → Bool
  | some (.inr (.inl _)) => true
  | _ => false
def clr (L : LL) : Nat → LL
  | 0 => L
  | j + 1 => if isL (L.getD j none) = true then L.set j none else L
def lset1 (L : LL) (i : Nat) (v : PV) : LL := (clr L i).set i (some v)
def lset2 (L : LL) (i : Nat) (v : PV) : LL := ((clr L i).set i (some v)).set (i + 1) none
def isW : PV → Bool
  | .inr (.inl _) => true
  | _ => false
/-- the steps that touch no heap -/
def pst (op a b : Nat) (z : PV) (q : Nat) (L : LL) (st : List PV) : Option (Nat × (LL × List PV)) :=
  match op with
  | 0 => some (q, L, z :: st)
  | 2 => match L[a]? with
    | some (some (.inl x)) => some (q, L, .inl x :: st)
    | _ => none
  | 3 => match L[a]? with
    | some (some (.inr (.inl x))) => some (q, L, .inr (.inl x) :: st)
    | _ => none
  | 4 => match L[a]? with
    | some (some (.inr (.inr (k, n)))) => if k = 99 then none else some (q, L, .inr (.inr (k, n)) :: st)
    | _ => none
  | 5 => match st with
    | .inl x :: r => if a < L.length then some (q, lset1 L a (.inl x), r) else none
    | _ => none
  | 6 => match st with
    | .inr (.inl x) :: r => if a + 1 < L.length then some (q, lset2 L a (.inr (.inl x)), r) else none
    | _ => none
  | 7 => match st with
    | .inr (.inr (k, n)) :: r => if k = 99 then none else if a < L.length then some (q, lset1 L a (.inr (.inr (k, n))), r) else none
    | _ => none
  | 8 => match L[a]?, z with
    | some (some (.inl x)), .inl y => some (q, lset1 L a (.inl (x + y)), st)
    | _, _ => none
  | 9 => match st with
    | .inl y :: .inl x :: r => some (q, L, .inl (ibop a x y) :: r)
    | _ => none
  | 10 => match st with
    | .inl y :: .inl x :: r => if y = 0 then none else some (q, L, .inl (x / y) :: r)
    | _ => none
  | 11 => match st with
    | .inl y :: .inl x :: r => if y = 0 then none else some (q, L, .inl (x - x / y * y) :: r)
    | _ => none
  | 12 => match st with
    | .inl x :: r => some (q, L, .inl (-x) :: r)
    | _ => none
  | 13 => match st with
    | .inr (.inl y) :: .inr (.inl x) :: r => some (q, L, .inr (.inl (lbop a x y)) :: r)
    | _ => none
  | 14 => match st with
    | .inl y :: .inr (.inl x) :: r => some (q, L, .inr (.inl (x <<< (y.toInt64 &&& 63))) :: r)
    | _ => none
  | 15 => match st with
    | .inl y :: .inr (.inl x) :: r => some (q, L, .inr (.inl (x.toUInt64 >>> (y.toInt64.toUInt64 &&& Int64.toUInt64 63)).toInt64) :: r)
    | _ => none
  | 16 => match st with
    | .inr (.inl y) :: .inr (.inl x) :: r => if y = 0 then none else some (q, L, .inr (.inl (x / y)) :: r)
    | _ => none
  | 17 => match st with
    | .inr (.inl y) :: .inr (.inl x) :: r => if y = 0 then none else some (q, L, .inr (.inl (x - x / y * y)) :: r)
    | _ => none
  | 18 => match st with
    | .inr (.inl y) :: .inr (.inl x) :: r => some (q, L, .inl (lg_cmp x y) :: r)
    | _ => none
  | 19 => match st with
    | .inl x :: r => some (q, L, .inr (.inl x.toInt64) :: r)
    | _ => none
  | 20 => match st with
    | .inr (.inl x) :: r => some (q, L, .inl x.toInt32 :: r)
    | _ => none
  | 21 => match st with
    | .inl x :: r => some (q, L, .inl (x.toUInt32 % 65536).toInt32 :: r)
    | _ => none
  | 22 => match st with
    | .inl x :: r => some (q, L, .inl x.toInt8.toInt32 :: r)
    | _ => none
  | 23 => match st with
    | v :: r => if isW v = true then none else some (q, L, v :: v :: r)
    | _ => none
  | 24 => match st with
    | v :: w :: r => if isW v = true ∨ isW w = true then none else some (q, L, v :: w :: v :: w :: r)
    | _ => none
  | 25 => match st with
    | v :: r => if isW v = true then none else some (q, L, r)
    | _ => none
  | 26 => some (a, L, st)
  | 27 => match st with
    | .inl x :: r => some (if cnd a x 0 = true then b else q, L, r)
    | _ => none
  | 28 => match st with
    | .inl y :: .inl x :: r => some (if cnd a x y = true then b else q, L, r)
    | _ => none
  | _ => none
/-- fewer locals known -/
def leL : LL → LL → Prop
  | [], [] => True
  | a :: l, b :: l' => (a = none ∨ a = b) ∧ leL l l'
  | _, _ => False
theorem leL.rf : ∀ l : LL, leL l l
  | [] => trivial
  | a :: l => ⟨Or.inr rfl, leL.rf l⟩
theorem leL.len : ∀ {l l' : LL}, leL l l' → l.length = l'.length
  | [], [], _ => rfl
  | _ :: _, _ :: _, h => by simp [h.2.len]
theorem leL.at : ∀ {l l' : LL} {i : Nat} {v : PV}, leL l l' → l[i]? = some (some v) → l'[i]? = some (some v)
  | [], [], _, _, _, h => by simp at h
  | a :: l, b :: l', 0, v, h, e => by
    simp at e
    rcases h.1 with h1 | h1
    · rw [h1] at e; cases e
    · simp [← h1, e]
  | a :: l, b :: l', i + 1, v, h, e => by
    simp at e
    simpa using h.2.at e
theorem leL.set : ∀ {l l' : LL} {i : Nat} {v v' : Option PV}, leL l l' → (v = none ∨ v = v') → leL (l.set i v) (l'.set i v')
  | [], [], _, _, _, _, _ => trivial
  | _ :: _, _ :: _, 0, _, _, h, e => ⟨e, h.2⟩
  | _ :: _, _ :: _, _ + 1, _, _, h, e => ⟨h.1, h.2.set e⟩
theorem leL.setR : ∀ {l l' : LL} {i : Nat}, leL l l' → l.getD i none = none → leL l (l'.set i none)
  | [], [], _, _, _ => trivial
  | a :: l, b :: l', 0, h, e => by
    simp at e
    exact ⟨Or.inl e, h.2⟩
  | a :: l, b :: l', i + 1, h, e => by
    simp only [List.getD_cons_succ] at e
    exact ⟨h.1, h.2.setR e⟩
theorem leL.getD : ∀ {l l' : LL} {i : Nat}, leL l l' → l.getD i none = none ∨ l.getD i none = l'.getD i none
  | [], [], _, _ => Or.inr rfl
  | a :: l, b :: l', 0, h => by simpa using h.1
  | a :: l, b :: l', i + 1, h => by simpa using h.2.getD
theorem leL.clr {l l' : LL} {i : Nat} (h : leL l l') : leL (clr l i) (clr l' i) := by
  cases i with
  | zero => exact h
  | succ j =>
    simp only [_root_.Jvm.Pilot.@@N@@.clr]
    rcases h.getD (i := j) with h1 | h1
    · rw [h1]
      by_cases h2 : isL (l'.getD j none) = true
      · simp only [h2, if_true]
        rw [if_neg (by simp [isL])]
        exact h.setR h1
      · simp only [h2]
        rw [if_neg (by simp [isL])]
        exact h
    · rw [h1]
      by_cases h2 : isL (l'.getD j none) = true
      · simp only [h2, if_true]
        exact h.set (Or.inr rfl)
      · simp only [h2]
        exact h
theorem leL.set1 {l l' : LL} {i : Nat} {v : PV} (h : leL l l') : leL (lset1 l i v) (lset1 l' i v) := h.clr.set (Or.inr rfl)
theorem leL.set2 {l l' : LL} {i : Nat} {v : PV} (h : leL l l') : leL (lset2 l i v) (lset2 l' i v) := (h.clr.set (Or.inr rfl)).set (Or.inr rfl)
theorem lset1_len (L : LL) (i : Nat) (v : PV) : (lset1 L i v).length = L.length := by
  unfold lset1
  cases i with
  | zero => simp [clr]
  | succ j => simp only [clr, List.length_set]; split <;> simp
theorem pst_le {op a b : Nat} {z : PV} {q : Nat} {L L' : LL} {st : List PV} {q1 : Nat} {L1 : LL} {st1 : List PV} (hL : leL L L') (h : pst op a b z q L st = some (q1, L1, st1)) : ∃ L1', leL L1 L1' ∧ pst op a b z q L' st = some (q1, L1', st1) := by
  have hlen := hL.len
  unfold pst at h ⊢
  split at h
  case h_2 =>
    split at h
    · rename_i he
      cases h
      rw [hL.at he]
      exact ⟨L', hL, rfl⟩
    · cases h
  case h_3 =>
    split at h
    · rename_i he
      cases h
      rw [hL.at he]
      exact ⟨L', hL, rfl⟩
    · cases h
  case h_4 =>
    split at h
    · rename_i he
      rw [hL.at he]
      split at h
      · cases h
      · rename_i hk
        cases h
        simp only [if_neg hk]
        exact ⟨L', hL, rfl⟩
    · cases h
  case h_5 =>
    split at h
    · split at h
      · rename_i hlt
        cases h
        simp only [if_pos (hlen ▸ hlt)]
        exact ⟨_, hL.set1, rfl⟩
      · cases h
    · cases h
  case h_6 =>
    split at h
    · split at h
      · rename_i hlt
        cases h
        simp only [if_pos (hlen ▸ hlt)]
        exact ⟨_, hL.set2, rfl⟩
      · cases h
    · cases h
  case h_7 =>
    split at h
    · split at h
      · cases h
      · rename_i hk
        split at h
        · rename_i hlt
          cases h
          simp only [if_neg hk, if_pos (hlen ▸ hlt)]
          exact ⟨_, hL.set1, rfl⟩
        · cases h
    · cases h
  case h_8 =>
    split at h
    · rename_i he
      cases h
      rw [hL.at he]
      exact ⟨_, hL.set1, rfl⟩
    · cases h
  all_goals first
    | (cases h; exact ⟨L', hL, rfl⟩)
    | (split at h
       · first
         | (cases h; exact ⟨L', hL, rfl⟩)
         | (split at h
            · cases h
            · rename_i hne
              cases h
              simp only [if_neg hne]
              exact ⟨L', hL, rfl⟩)
       · cases h)
    | (cases h)
end
section
/-! THE TABLES of the plain machine, written by wip/whole/gen03.py: kinds of cells, the order in which they are made, methods, entries. -/
abbrev z0 : PV := .inl 0
/-- a kind: shape (0 an object, 1 ints, 2 chars, 3 booleans, 4 longs, 5 references, 6 the script), its number of the class or its length, its fields (0 int, 1 long, 2 a cell of a kind, 3 boolean) -/
def ktab : List (Nat × (Nat × List (Nat × Nat))) := [(6, 0, []), (0, 11, [(2, 5), (2, 7), (2, 9), (2, 9), (2, 19), (2, 23), (2, 2), (2, 29), (2, 25), (2, 31), (2, 35), (2, 37), (2, 3), (2, 4), (1, 0)]), (5, 4, [(2, 23)]), (1, 25, []), (1, 25, []), (0, 9, [(2, 6), (0, 0), (0, 0), (0, 0), (0, 0), (0, 0), (1, 0), (0, 0)]), (2, 1000, []), (0, 5, [(2, 5), (2, 8), (3, 0), (3, 0)]), (0, 1, [(2, 5)]), (0, 0, [(2, 10), (2, 11), (2, 12), (2, 13), (2, 14), (2, 15), (2, 16), (2, 17), (2, 18), (0, 0), (0, 0), (0, 0), (0, 0), (0, 0)]), (4, 5, []), (1, 5, []), (4, 6, []), (1, 6, []), (1, 6, []), (1, 6, []), (1, 6, []), (1, 1000, []), (1, 32, []), (0, 10, [(2, 20), (2, 21), (2, 22), (0, 0)]), (1, 40, []), (1, 40, []), (1, 40, []), (0, 6, [(2, 25), (2, 19), (2, 24), (3, 0)]), (1, 6, []), (0, 7, [(2, 26), (2, 27), (2, 28), (0, 0), (0, 0), (0, 0), (0, 0)]), (1, 6, []), (1, 6, []), (1, 36, []), (0, 3, [(2, 30), (0, 0), (0, 0)]), (5, 16, [(2, 25)]), (0, 4, [(2, 32), (2, 33), (2, 34), (0, 0), (0, 0)]), (5, 5, [(2, 25)]), (1, 4, []), (1, 4, []), (0, 8, [(2, 36), (0, 0), (0, 0), (0, 0)]), (1, 6, []), (0, 2, [(2, 38), (2, 39), (0, 0)]), (1, 6, []), (1, 6, []), (0, 12, [(0, 0), (0, 0), (2, 41), (0, 0), (0, 0), (0, 0), (0, 0), (1, 0), (0, 0), (0, 0), (2, 42), (2, 43), (2, 44), (2, 45), (2, 46), (2, 47), (2, 48), (2, 49), (2, 50), (2, 51), (2, 52), (0, 0), (0, 0), (2, 53), (2, 54), (2, 55), (2, 56), (2, 57), (2, 58), (2, 59), (2, 60), (2, 61), (2, 62), (2, 63), (2, 64), (0, 0), (1, 0), (0, 0), (2, 65), (2, 66), (2, 67), (2, 68), (2, 69), (2, 70), (2, 71), (2, 72), (2, 73), (2, 74), (2, 75), (0, 0), (0, 0), (2, 76), (2, 77), (0, 0), (2, 78), (2, 79), (2, 80), (0, 0), (1, 0)]), (1, 1000, []), (1, 8, []), (4, 10, []), (4, 12, []), (1, 10, []), (1, 12, []), (1, 12, []), (1, 12, []), (1, 12, []), (1, 2, []), (1, 2, []), (1, 2000, []), (1, 7, []), (3, 7, []), (1, 7, []), (1, 7, []), (1, 7, []), (1, 7, []), (1, 7, []), (1, 7, []), (1, 7, []), (1, 7, []), (1, 7, []), (1, 20, []), (1, 6, []), (1, 240, []), (1, 240, []), (1, 240, []), (1, 30, []), (1, 50, []), (1, 50, []), (1, 250, []), (1, 200, []), (1, 800, []), (3, 4, []), (1, 4, []), (1, 4, []), (1, 50, []), (1, 6, []), (1, 6, []), (4, 1, [])]
def kt (k : Nat) : Nat × (Nat × List (Nat × Nat)) := ktab.getD k (9, 0, [])
def cord : List (Nat × Nat) := [(1, 0), (5, 0), (6, 0), (7, 0), (8, 0), (9, 0), (10, 0), (11, 0), (12, 0), (13, 0), (14, 0), (15, 0), (16, 0), (17, 0), (18, 0), (9, 1), (10, 1), (11, 1), (12, 1), (13, 1), (14, 1), (15, 1), (16, 1), (17, 1), (18, 1), (19, 0), (20, 0), (21, 0), (22, 0), (23, 0), (25, 0), (26, 0), (27, 0), (28, 0), (19, 1), (20, 1), (21, 1), (22, 1), (24, 0), (2, 0), (23, 1), (25, 1), (26, 1), (27, 1), (28, 1), (19, 2), (20, 2), (21, 2), (22, 2), (24, 1), (23, 2), (25, 2), (26, 2), (27, 2), (28, 2), (19, 3), (20, 3), (21, 3), (22, 3), (24, 2), (23, 3), (25, 3), (26, 3), (27, 3), (28, 3), (19, 4), (20, 4), (21, 4), (22, 4), (24, 3), (23, 4), (25, 4), (26, 4), (27, 4), (28, 4), (19, 5), (20, 5), (21, 5), (22, 5), (24, 4), (29, 0), (30, 0), (25, 5), (26, 5), (27, 5), (28, 5), (25, 6), (26, 6), (27, 6), (28, 6), (25, 7), (26, 7), (27, 7), (28, 7), (25, 8), (26, 8), (27, 8), (28, 8), (25, 9), (26, 9), (27, 9), (28, 9), (25, 10), (26, 10), (27, 10), (28, 10), (25, 11), (26, 11), (27, 11), (28, 11), (25, 12), (26, 12), (27, 12), (28, 12), (25, 13), (26, 13), (27, 13), (28, 13), (25, 14), (26, 14), (27, 14), (28, 14), (25, 15), (26, 15), (27, 15), (28, 15), (25, 16), (26, 16), (27, 16), (28, 16), (25, 17), (26, 17), (27, 17), (28, 17), (25, 18), (26, 18), (27, 18), (28, 18), (25, 19), (26, 19), (27, 19), (28, 19), (25, 20), (26, 20), (27, 20), (28, 20), (25, 21), (26, 21), (27, 21), (28, 21), (31, 0), (33, 0), (34, 0), (32, 0), (25, 22), (26, 22), (27, 22), (28, 22), (25, 23), (26, 23), (27, 23), (28, 23), (25, 24), (26, 24), (27, 24), (28, 24), (25, 25), (26, 25), (27, 25), (28, 25), (25, 26), (26, 26), (27, 26), (28, 26), (35, 0), (36, 0), (37, 0), (38, 0), (39, 0), (3, 0), (4, 0), (40, 0), (41, 0), (42, 0), (43, 0), (44, 0), (45, 0), (46, 0), (47, 0), (48, 0), (49, 0), (50, 0), (51, 0), (52, 0), (53, 0), (54, 0), (55, 0), (56, 0), (57, 0), (58, 0), (59, 0), (60, 0), (61, 0), (62, 0), (63, 0), (64, 0), (65, 0), (66, 0), (67, 0), (68, 0), (69, 0), (70, 0), (71, 0), (72, 0), (73, 0), (74, 0), (75, 0), (76, 0), (77, 0), (78, 0), (79, 0), (80, 0), (81, 0)]
def NN : Nat := 223
/-- the words of the text constants: who, its place, the text -/
def strs : List (String × (Nat × String)) := [("StrangeWinding$Tape", 47, "()<=+-*;"), ("StrangeWinding$Reader", 56, "street"), ("StrangeWinding$Tape", 71, "street lane person at left knows soon snap winds walk wind mend hour plain hermit deaf sun not and or "), ("StrangeWinding$Reader", 65, "lane"), ("StrangeWinding$Reader", 71, "person"), ("StrangeWinding$Tape", 73, "plain"), ("StrangeWinding$Tape", 79, "hermit"), ("StrangeWinding$Tape", 81, "deaf"), ("StrangeWinding$Tape", 83, "sun"), ("StrangeWinding$Reader", 137, "at"), ("StrangeWinding$Reader", 145, "left"), ("StrangeWinding$Reader", 76, "knows"), ("StrangeWinding$Reader", 78, "soon"), ("StrangeWinding$Reader", 83, "snap"), ("StrangeWinding$Reader", 88, "winds"), ("StrangeWinding$LawReader", 46, "not"), ("StrangeWinding$LawReader", 69, "goes"), ("StrangeWinding$LawReader", 71, "thumb"), ("StrangeWinding$LawReader", 73, "met"), ("StrangeWinding$LawReader", 75, "crowd"), ("StrangeWinding$LawReader", 77, "and"), ("StrangeWinding$LawReader", 79, "or"), ("StrangeWinding$Reader", 177, "walk"), ("StrangeWinding$Reader", 179, "wind"), ("StrangeWinding$Reader", 181, "mend"), ("StrangeWinding$Reader", 183, "hour")]
def sbyt : List (List Int32) := [[40, 41, 60, 61, 43, 45, 42, 59], [115, 116, 114, 101, 101, 116], [115, 116, 114, 101, 101, 116, 32, 108, 97, 110, 101, 32, 112, 101, 114, 115, 111, 110, 32, 97, 116, 32, 108, 101, 102, 116, 32, 107, 110, 111, 119, 115, 32, 115, 111, 111, 110, 32, 115, 110, 97, 112, 32, 119, 105, 110, 100, 115, 32, 119, 97, 108, 107, 32, 119, 105, 110, 100, 32, 109, 101, 110, 100, 32, 104, 111, 117, 114, 32, 112, 108, 97, 105, 110, 32, 104, 101, 114, 109, 105, 116, 32, 100, 101, 97, 102, 32, 115, 117, 110, 32, 110, 111, 116, 32, 97, 110, 100, 32, 111, 114, 32], [108, 97, 110, 101], [112, 101, 114, 115, 111, 110], [112, 108, 97, 105, 110], [104, 101, 114, 109, 105, 116], [100, 101, 97, 102], [115, 117, 110], [97, 116], [108, 101, 102, 116], [107, 110, 111, 119, 115], [115, 111, 111, 110], [115, 110, 97, 112], [119, 105, 110, 100, 115], [110, 111, 116], [103, 111, 101, 115], [116, 104, 117, 109, 98], [109, 101, 116], [99, 114, 111, 119, 100], [97, 110, 100], [111, 114], [119, 97, 108, 107], [119, 105, 110, 100], [109, 101, 110, 100], [104, 111, 117, 114]]
def tswt : List (Int × (List Nat × Nat)) := [(-3, [32, 30, 28], 34), (-11, [94, 90, 79, 68, 54, 40], 98), (0, [28, 64, 100], 136), (0, [56, 66, 73, 80, 94, 108], 118), (0, [76, 84, 92, 100, 108, 113, 122, 127, 136, 141, 152, 160, 168], 176), (0, [48, 63, 98], 121), (0, [172, 319, 332, 345, 382, 419, 444, 481, 518, 555, 580, 593, 606, 631, 656, 669, 718, 743, 780, 817, 854, 879, 928, 941, 966, 979, 1071, 1120, 1173], 1198)]
def mxt : List Nat := [1, 1, 3, 3, 4, 4, 2, 8, 5, 3, 2, 2, 6, 6, 1, 2, 1, 4, 6, 2, 1, 2, 2, 2, 5, 6, 2, 3, 2, 2, 6, 3, 2, 2, 4, 6, 1, 3, 4, 1, 2, 2, 3, 1, 2, 2, 2, 2, 4, 4, 3, 4, 5, 6, 4, 4, 4, 6, 7, 4, 2, 5, 1, 8, 7, 3, 1, 5, 1, 1, 1, 1, 1, 1, 3, 2, 5, 1, 2, 2, 2, 3, 1, 4, 2, 2, 7, 4, 2, 4, 3, 2, 3, 3, 3, 2, 1, 1, 6, 3, 3, 4, 7, 6, 3, 3, 6, 8, 4, 2, 3, 5, 3, 3, 3, 2, 2, 3, 5, 5, 4, 3, 3, 9, 6, 5, 2, 3, 1, 1, 3, 3, 3, 11, 2, 2, 3, 2, 2, 2, 1, 6, 2, 2, 3, 6, 1, 3, 3, 3, 3, 1, 1, 2, 2, 3, 2, 2, 1, 4, 1, 3, 1, 1, 2, 3, 3, 1, 5, 3, 4, 2, 2, 2, 1, 2, 2, 3, 3, 3, 2, 2, 3, 4, 3, 3, 2, 5, 5, 3, 3, 4, 2, 3, 3, 2, 3, 2, 3, 3, 2, 1, 1, 5, 5, 3, 2, 5, 4, 7, 5, 4, 4, 7, 3, 4, 5, 3, 8, 9, 4, 3, 6, 8, 4, 6, 2, 2, 3, 5, 9, 2, 4, 6, 6, 5, 3, 2, 1, 1, 2, 2, 3, 1, 1, 2, 2, 1, 4, 6, 4, 3, 7]
def mx (m : Nat) : Nat := mxt.getD m 0
/-- X0_init StrangeWinding$Land.<init>()V -/
def cd0 : List (Nat × Ent) := [(0, 4, 0, 0, z0, 1), (1, 44, 0, 0, z0, 4), (4, 4, 0, 0, z0, 5), (5, 0, 0, 0, vi (5), 6), (6, 40, 10, 0, z0, 8), (8, 30, 9, 0, z0, 11), (11, 4, 0, 0, z0, 12), (12, 0, 0, 0, vi (5), 13), (13, 40, 11, 0, z0, 15), (15, 30, 9, 1, z0, 18), (18, 4, 0, 0, z0, 19), (19, 0, 0, 0, vi (6), 21), (21, 40, 12, 0, z0, 23), (23, 30, 9, 2, z0, 26), (26, 4, 0, 0, z0, 27), (27, 0, 0, 0, vi (6), 29), (29, 40, 13, 0, z0, 31), (31, 30, 9, 3, z0, 34), (34, 4, 0, 0, z0, 35), (35, 0, 0, 0, vi (6), 37), (37, 40, 14, 0, z0, 39), (39, 30, 9, 4, z0, 42), (42, 4, 0, 0, z0, 43), (43, 0, 0, 0, vi (6), 45), (45, 40, 15, 0, z0, 47), (47, 30, 9, 5, z0, 50), (50, 4, 0, 0, z0, 51), (51, 0, 0, 0, vi (6), 53), (53, 40, 16, 0, z0, 55), (55, 30, 9, 6, z0, 58), (58, 4, 0, 0, z0, 59), (59, 0, 0, 0, vi (1000), 62), (62, 40, 17, 0, z0, 64), (64, 30, 9, 7, z0, 67), (67, 4, 0, 0, z0, 68), (68, 0, 0, 0, vi (32), 70), (70, 40, 18, 0, z0, 72), (72, 30, 9, 8, z0, 75), (75, 4, 0, 0, z0, 76), (76, 0, 0, 0, vi (3), 77), (77, 30, 9, 11, z0, 80), (80, 4, 0, 0, z0, 81), (81, 0, 0, 0, vi (60), 83), (83, 30, 9, 12, z0, 86), (86, 35, 0, 0, z0, 87)]
/-- X0_clear StrangeWinding$Land.clear()V -/
def cd1 : List (Nat × Ent) := [(0, 4, 0, 0, z0, 1), (1, 0, 0, 0, z0, 2), (2, 30, 9, 9, z0, 5), (5, 4, 0, 0, z0, 6), (6, 0, 0, 0, z0, 7), (7, 30, 9, 10, z0, 10), (10, 4, 0, 0, z0, 11), (11, 0, 0, 0, vi (3), 12), (12, 30, 9, 11, z0, 15), (15, 4, 0, 0, z0, 16), (16, 0, 0, 0, vi (60), 18), (18, 30, 9, 12, z0, 21), (21, 4, 0, 0, z0, 22), (22, 0, 0, 0, z0, 23), (23, 30, 9, 13, z0, 26), (26, 35, 0, 0, z0, 27)]
/-- X0_addStreet StrangeWinding$Land.addStreet(J)V -/
def cd2 : List (Nat × Ent) := [(0, 4, 0, 0, z0, 1), (1, 29, 9, 9, z0, 4), (4, 0, 0, 0, vi (5), 5), (5, 28, 3, 38, z0, 8), (8, 4, 0, 0, z0, 9), (9, 29, 9, 0, z0, 12), (12, 4, 0, 0, z0, 13), (13, 29, 9, 9, z0, 16), (16, 3, 1, 0, z0, 17), (17, 32, 4, 0, z0, 18), (18, 4, 0, 0, z0, 19), (19, 29, 9, 1, z0, 22), (22, 4, 0, 0, z0, 23), (23, 29, 9, 9, z0, 26), (26, 0, 0, 0, z0, 27), (27, 32, 1, 0, z0, 28), (28, 4, 0, 0, z0, 29), (29, 23, 0, 0, z0, 30), (30, 29, 9, 9, z0, 33), (33, 0, 0, 0, vi (1), 34), (34, 9, 0, 0, z0, 35), (35, 30, 9, 9, z0, 38), (38, 35, 0, 0, z0, 39)]
/-- X0_addPerson StrangeWinding$Land.addPerson(J)V -/
def cd3 : List (Nat × Ent) := [(0, 4, 0, 0, z0, 1), (1, 29, 9, 10, z0, 4), (4, 0, 0, 0, vi (6), 6), (6, 28, 3, 39, z0, 9), (9, 4, 0, 0, z0, 10), (10, 29, 9, 2, z0, 13), (13, 4, 0, 0, z0, 14), (14, 29, 9, 10, z0, 17), (17, 3, 1, 0, z0, 18), (18, 32, 4, 0, z0, 19), (19, 4, 0, 0, z0, 20), (20, 29, 9, 6, z0, 23), (23, 4, 0, 0, z0, 24), (24, 29, 9, 10, z0, 27), (27, 0, 0, 0, z0, 28), (28, 32, 1, 0, z0, 29), (29, 4, 0, 0, z0, 30), (30, 23, 0, 0, z0, 31), (31, 29, 9, 10, z0, 34), (34, 0, 0, 0, vi (1), 35), (35, 9, 0, 0, z0, 36), (36, 30, 9, 10, z0, 39), (39, 35, 0, 0, z0, 40)]
/-- X0_streetNamed StrangeWinding$Land.streetNamed(J)I -/
def cd4 : List (Nat × Ent) := [(0, 0, 0, 0, z0, 1), (1, 5, 3, 0, z0, 2), (2, 2, 3, 0, z0, 3), (3, 4, 0, 0, z0, 4), (4, 29, 9, 9, z0, 7), (7, 28, 3, 29, z0, 10), (10, 4, 0, 0, z0, 11), (11, 29, 9, 0, z0, 14), (14, 2, 3, 0, z0, 15), (15, 31, 4, 0, z0, 16), (16, 3, 1, 0, z0, 17), (17, 18, 0, 0, z0, 18), (18, 27, 1, 23, z0, 21), (21, 2, 3, 0, z0, 22), (22, 36, 1, 0, z0, 23), (23, 8, 3, 0, vi (1), 26), (26, 26, 2, 0, z0, 29), (29, 0, 0, 0, vi (-1), 30), (30, 36, 1, 0, z0, 31)]
/-- X0_personNamed StrangeWinding$Land.personNamed(J)I -/
def cd5 : List (Nat × Ent) := [(0, 0, 0, 0, z0, 1), (1, 5, 3, 0, z0, 2), (2, 2, 3, 0, z0, 3), (3, 4, 0, 0, z0, 4), (4, 29, 9, 10, z0, 7), (7, 28, 3, 29, z0, 10), (10, 4, 0, 0, z0, 11), (11, 29, 9, 2, z0, 14), (14, 2, 3, 0, z0, 15), (15, 31, 4, 0, z0, 16), (16, 3, 1, 0, z0, 17), (17, 18, 0, 0, z0, 18), (18, 27, 1, 23, z0, 21), (21, 2, 3, 0, z0, 22), (22, 36, 1, 0, z0, 23), (23, 8, 3, 0, vi (1), 26), (26, 26, 2, 0, z0, 29), (29, 0, 0, 0, vi (-1), 30), (30, 36, 1, 0, z0, 31)]
/-- X0_addCode StrangeWinding$Land.addCode(I)V -/
def cd6 : List (Nat × Ent) := [(0, 4, 0, 0, z0, 1), (1, 29, 9, 13, z0, 4), (4, 0, 0, 0, vi (1000), 7), (7, 28, 3, 30, z0, 10), (10, 4, 0, 0, z0, 11), (11, 29, 9, 7, z0, 14), (14, 4, 0, 0, z0, 15), (15, 29, 9, 13, z0, 18), (18, 2, 1, 0, z0, 19), (19, 32, 1, 0, z0, 20), (20, 4, 0, 0, z0, 21), (21, 23, 0, 0, z0, 22), (22, 29, 9, 13, z0, 25), (25, 0, 0, 0, vi (1), 26), (26, 9, 0, 0, z0, 27), (27, 30, 9, 13, z0, 30), (30, 35, 0, 0, z0, 31)]
/-- X0_lawTells StrangeWinding$Land.lawTells(IIII)I -/
def cd7 : List (Nat × Ent) := [(0, 4, 0, 0, z0, 1), (1, 29, 9, 13, z0, 4), (4, 27, 1, 12, z0, 7), (7, 0, 0, 0, vi (30), 9), (9, 2, 1, 0, z0, 10), (10, 9, 1, 0, z0, 11), (11, 36, 1, 0, z0, 12), (12, 0, 0, 0, z0, 13), (13, 5, 5, 0, z0, 15), (15, 0, 0, 0, z0, 16), (16, 5, 6, 0, z0, 18), (18, 2, 6, 0, z0, 20), (20, 4, 0, 0, z0, 21), (21, 29, 9, 13, z0, 24), (24, 28, 3, 176, z0, 27), (27, 4, 0, 0, z0, 28), (28, 29, 9, 7, z0, 31), (31, 2, 6, 0, z0, 33), (33, 31, 1, 0, z0, 34), (34, 5, 7, 0, z0, 36), (36, 2, 7, 0, z0, 38), (38, 0, 0, 0, vi (-4), 40), (40, 28, 2, 83, z0, 43), (43, 2, 5, 0, z0, 45), (45, 0, 0, 0, vi (32), 47), (47, 28, 3, 83, z0, 50), (50, 4, 0, 0, z0, 51), (51, 29, 9, 8, z0, 54), (54, 2, 5, 0, z0, 56), (56, 2, 7, 0, z0, 58), (58, 27, 2, 66, z0, 61), (61, 2, 7, 0, z0, 63), (63, 26, 76, 0, z0, 66), (66, 2, 7, 0, z0, 68), (68, 2, 1, 0, z0, 69), (69, 2, 2, 0, z0, 70), (70, 2, 3, 0, z0, 71), (71, 2, 4, 0, z0, 73), (73, 34, 8, 5, z0, 76), (76, 32, 1, 0, z0, 77), (77, 8, 5, 0, vi (1), 80), (80, 26, 170, 0, z0, 83), (83, 2, 7, 0, z0, 85), (85, 0, 0, 0, vi (-5), 87), (87, 28, 1, 124, z0, 90), (90, 2, 5, 0, z0, 92), (92, 27, 5, 124, z0, 95), (95, 4, 0, 0, z0, 96), (96, 29, 9, 8, z0, 99), (99, 2, 5, 0, z0, 101), (101, 0, 0, 0, vi (1), 102), (102, 9, 1, 0, z0, 103), (103, 4, 0, 0, z0, 104), (104, 29, 9, 8, z0, 107), (107, 2, 5, 0, z0, 109), (109, 0, 0, 0, vi (1), 110), (110, 9, 1, 0, z0, 111), (111, 31, 1, 0, z0, 112), (112, 27, 1, 119, z0, 115), (115, 0, 0, 0, vi (1), 116), (116, 26, 120, 0, z0, 119), (119, 0, 0, 0, z0, 120), (120, 32, 1, 0, z0, 121), (121, 26, 170, 0, z0, 124), (124, 2, 7, 0, z0, 126), (126, 0, 0, 0, vi (-5), 128), (128, 28, 3, 170, z0, 131), (131, 2, 5, 0, z0, 133), (133, 0, 0, 0, vi (1), 134), (134, 28, 5, 170, z0, 137), (137, 8, 5, 0, vi (-1), 140), (140, 4, 0, 0, z0, 141), (141, 29, 9, 8, z0, 144), (144, 2, 5, 0, z0, 146), (146, 0, 0, 0, vi (1), 147), (147, 9, 1, 0, z0, 148), (148, 2, 7, 0, z0, 150), (150, 4, 0, 0, z0, 151), (151, 29, 9, 8, z0, 154), (154, 2, 5, 0, z0, 156), (156, 0, 0, 0, vi (1), 157), (157, 9, 1, 0, z0, 158), (158, 31, 1, 0, z0, 159), (159, 4, 0, 0, z0, 160), (160, 29, 9, 8, z0, 163), (163, 2, 5, 0, z0, 165), (165, 31, 1, 0, z0, 166), (166, 34, 9, 3, z0, 169), (169, 32, 1, 0, z0, 170), (170, 8, 6, 0, vi (1), 173), (173, 26, 18, 0, z0, 176), (176, 4, 0, 0, z0, 177), (177, 29, 9, 8, z0, 180), (180, 0, 0, 0, z0, 181), (181, 31, 1, 0, z0, 182), (182, 36, 1, 0, z0, 183)]
/-- X0_factOf StrangeWinding$Land.factOf(IIIII)I -/
def cd8 : List (Nat × Ent) := [(0, 2, 0, 0, z0, 1), (1, 38, 0, 0, z0, 28), (28, 2, 1, 0, z0, 29), (29, 36, 1, 0, z0, 30), (30, 2, 2, 0, z0, 31), (31, 36, 1, 0, z0, 32), (32, 2, 3, 0, z0, 33), (33, 36, 1, 0, z0, 34), (34, 2, 4, 0, z0, 36), (36, 36, 1, 0, z0, 37)]
/-- X0_joined StrangeWinding$Land.joined(III)I -/
def cd9 : List (Nat × Ent) := [(0, 2, 0, 0, z0, 1), (1, 38, 1, 0, z0, 40), (40, 2, 1, 0, z0, 41), (41, 27, 0, 52, z0, 44), (44, 2, 2, 0, z0, 45), (45, 27, 0, 52, z0, 48), (48, 0, 0, 0, vi (1), 49), (49, 26, 53, 0, z0, 52), (52, 0, 0, 0, z0, 53), (53, 36, 1, 0, z0, 54), (54, 2, 1, 0, z0, 55), (55, 27, 1, 62, z0, 58), (58, 2, 2, 0, z0, 59), (59, 27, 0, 66, z0, 62), (62, 0, 0, 0, vi (1), 63), (63, 26, 67, 0, z0, 66), (66, 0, 0, 0, z0, 67), (67, 36, 1, 0, z0, 68), (68, 2, 1, 0, z0, 69), (69, 2, 2, 0, z0, 70), (70, 28, 3, 77, z0, 73), (73, 0, 0, 0, vi (1), 74), (74, 26, 78, 0, z0, 77), (77, 0, 0, 0, z0, 78), (78, 36, 1, 0, z0, 79), (79, 2, 1, 0, z0, 80), (80, 2, 2, 0, z0, 81), (81, 28, 1, 88, z0, 84), (84, 0, 0, 0, vi (1), 85), (85, 26, 89, 0, z0, 88), (88, 0, 0, 0, z0, 89), (89, 36, 1, 0, z0, 90), (90, 2, 1, 0, z0, 91), (91, 2, 2, 0, z0, 92), (92, 9, 0, 0, z0, 93), (93, 36, 1, 0, z0, 94), (94, 2, 1, 0, z0, 95), (95, 2, 2, 0, z0, 96), (96, 9, 1, 0, z0, 97), (97, 36, 1, 0, z0, 98), (98, 2, 1, 0, z0, 99), (99, 2, 2, 0, z0, 100), (100, 9, 2, 0, z0, 101), (101, 36, 1, 0, z0, 102)]
/-- X1_init StrangeWinding$LawReader.<init>(LStrangeWinding$Tape;)V -/
def cd10 : List (Nat × Ent) := [(0, 4, 0, 0, z0, 1), (1, 44, 0, 0, z0, 4), (4, 4, 0, 0, z0, 5), (5, 4, 1, 0, z0, 6), (6, 30, 8, 0, z0, 9), (9, 35, 0, 0, z0, 10)]
/-- X1_readLaw StrangeWinding$LawReader.readLaw(LStrangeWinding$Land;)Z -/
def cd11 : List (Nat × Ent) := [(0, 4, 1, 0, z0, 1), (1, 29, 9, 13, z0, 4), (4, 27, 5, 16, z0, 7), (7, 4, 0, 0, z0, 8), (8, 29, 8, 0, z0, 11), (11, 0, 0, 0, vi (3), 12), (12, 34, 78, 2, vr 5 0, 15), (15, 36, 2, 0, z0, 16), (16, 4, 0, 0, z0, 17), (17, 29, 8, 0, z0, 20), (20, 34, 69, 1, vr 5 0, 23), (23, 4, 0, 0, z0, 24), (24, 0, 0, 0, z0, 25), (25, 0, 0, 0, z0, 26), (26, 4, 1, 0, z0, 27), (27, 34, 12, 4, vr 8 0, 30), (30, 36, 2, 0, z0, 31)]
/-- X1_readFrom StrangeWinding$LawReader.readFrom(IILStrangeWinding$Land;)Z -/
def cd12 : List (Nat × Ent) := [(0, 2, 1, 0, z0, 1), (1, 0, 0, 0, vi (3), 2), (2, 28, 5, 12, z0, 5), (5, 4, 0, 0, z0, 6), (6, 2, 2, 0, z0, 7), (7, 4, 3, 0, z0, 8), (8, 34, 13, 3, vr 8 0, 11), (11, 36, 2, 0, z0, 12), (12, 4, 0, 0, z0, 13), (13, 2, 1, 0, z0, 14), (14, 0, 0, 0, vi (1), 15), (15, 9, 0, 0, z0, 16), (16, 2, 2, 0, z0, 17), (17, 4, 3, 0, z0, 18), (18, 34, 12, 4, vr 8 0, 21), (21, 27, 1, 26, z0, 24), (24, 0, 0, 0, z0, 25), (25, 36, 2, 0, z0, 26), (26, 0, 0, 0, z0, 27), (27, 5, 4, 0, z0, 29), (29, 2, 4, 0, z0, 31), (31, 0, 0, 0, vi (1000), 34), (34, 28, 3, 91, z0, 37), (37, 4, 0, 0, z0, 38), (38, 2, 1, 0, z0, 39), (39, 34, 15, 2, vr 8 0, 42), (42, 5, 5, 0, z0, 44), (44, 2, 5, 0, z0, 46), (46, 27, 1, 51, z0, 49), (49, 0, 0, 0, vi (1), 50), (50, 36, 2, 0, z0, 51), (51, 4, 0, 0, z0, 52), (52, 29, 8, 0, z0, 55), (55, 34, 69, 1, vr 5 0, 58), (58, 4, 0, 0, z0, 59), (59, 2, 1, 0, z0, 60), (60, 0, 0, 0, vi (1), 61), (61, 9, 0, 0, z0, 62), (62, 2, 2, 0, z0, 63), (63, 4, 3, 0, z0, 64), (64, 34, 12, 4, vr 8 0, 67), (67, 27, 1, 72, z0, 70), (70, 0, 0, 0, z0, 71), (71, 36, 2, 0, z0, 72), (72, 4, 3, 0, z0, 73), (73, 2, 5, 0, z0, 75), (75, 34, 6, 2, vr 9 0, 78), (78, 2, 1, 0, z0, 79), (79, 0, 0, 0, vi (1), 80), (80, 28, 1, 85, z0, 83), (83, 0, 0, 0, vi (1), 84), (84, 36, 2, 0, z0, 85), (85, 8, 4, 0, vi (1), 88), (88, 26, 29, 0, z0, 91), (91, 0, 0, 0, vi (1), 92), (92, 36, 2, 0, z0, 93)]
/-- X1_readPart StrangeWinding$LawReader.readPart(ILStrangeWinding$Land;)Z -/
def cd13 : List (Nat × Ent) := [(0, 4, 0, 0, z0, 1), (1, 29, 8, 0, z0, 4), (4, 0, 0, 0, vr 90 15, 6), (6, 34, 74, 2, vr 5 0, 9), (9, 5, 3, 0, z0, 10), (10, 4, 0, 0, z0, 11), (11, 29, 8, 0, z0, 14), (14, 0, 0, 0, vi (40), 16), (16, 34, 75, 2, vr 5 0, 19), (19, 5, 4, 0, z0, 21), (21, 4, 0, 0, z0, 22), (22, 34, 14, 1, vr 8 0, 25), (25, 5, 5, 0, z0, 27), (27, 2, 3, 0, z0, 28), (28, 27, 1, 52, z0, 31), (31, 2, 4, 0, z0, 33), (33, 27, 1, 52, z0, 36), (36, 2, 5, 0, z0, 38), (38, 0, 0, 0, vi (-5), 40), (40, 28, 1, 52, z0, 43), (43, 4, 0, 0, z0, 44), (44, 29, 8, 0, z0, 47), (47, 0, 0, 0, vi (1), 48), (48, 34, 78, 2, vr 5 0, 51), (51, 36, 2, 0, z0, 52), (52, 2, 1, 0, z0, 53), (53, 0, 0, 0, vi (5), 54), (54, 28, 2, 66, z0, 57), (57, 4, 0, 0, z0, 58), (58, 29, 8, 0, z0, 61), (61, 0, 0, 0, vi (5), 62), (62, 34, 78, 2, vr 5 0, 65), (65, 36, 2, 0, z0, 66), (66, 4, 0, 0, z0, 67), (67, 29, 8, 0, z0, 70), (70, 34, 69, 1, vr 5 0, 73), (73, 2, 4, 0, z0, 75), (75, 27, 0, 108, z0, 78), (78, 4, 0, 0, z0, 79), (79, 0, 0, 0, z0, 80), (80, 2, 1, 0, z0, 81), (81, 0, 0, 0, vi (1), 82), (82, 9, 0, 0, z0, 83), (83, 4, 2, 0, z0, 84), (84, 34, 12, 4, vr 8 0, 87), (87, 27, 0, 106, z0, 90), (90, 4, 0, 0, z0, 91), (91, 29, 8, 0, z0, 94), (94, 0, 0, 0, vi (41), 96), (96, 34, 80, 2, vr 5 0, 99), (99, 27, 0, 106, z0, 102), (102, 0, 0, 0, vi (1), 103), (103, 26, 107, 0, z0, 106), (106, 0, 0, 0, z0, 107), (107, 36, 2, 0, z0, 108), (108, 2, 3, 0, z0, 109), (109, 27, 0, 125, z0, 112), (112, 4, 0, 0, z0, 113), (113, 2, 1, 0, z0, 114), (114, 0, 0, 0, vi (1), 115), (115, 9, 0, 0, z0, 116), (116, 4, 2, 0, z0, 117), (117, 34, 13, 3, vr 8 0, 120), (120, 27, 1, 125, z0, 123), (123, 0, 0, 0, z0, 124), (124, 36, 2, 0, z0, 125), (125, 4, 2, 0, z0, 126), (126, 2, 5, 0, z0, 128), (128, 34, 6, 2, vr 9 0, 131), (131, 0, 0, 0, vi (1), 132), (132, 36, 2, 0, z0, 133)]
/-- X1_valueCode StrangeWinding$LawReader.valueCode()I -/
def cd14 : List (Nat × Ent) := [(0, 4, 0, 0, z0, 1), (1, 29, 8, 0, z0, 4), (4, 29, 5, 2, z0, 7), (7, 0, 0, 0, vi (2), 8), (8, 28, 1, 19, z0, 11), (11, 4, 0, 0, z0, 12), (12, 29, 8, 0, z0, 15), (15, 29, 5, 5, z0, 18), (18, 36, 1, 0, z0, 19), (19, 4, 0, 0, z0, 20), (20, 29, 8, 0, z0, 23), (23, 0, 0, 0, vr 90 16, 25), (25, 34, 74, 2, vr 5 0, 28), (28, 27, 0, 33, z0, 31), (31, 0, 0, 0, vi (-1), 32), (32, 36, 1, 0, z0, 33), (33, 4, 0, 0, z0, 34), (34, 29, 8, 0, z0, 37), (37, 0, 0, 0, vr 90 17, 39), (39, 34, 74, 2, vr 5 0, 42), (42, 27, 0, 48, z0, 45), (45, 0, 0, 0, vi (-2), 47), (47, 36, 1, 0, z0, 48), (48, 4, 0, 0, z0, 49), (49, 29, 8, 0, z0, 52), (52, 0, 0, 0, vr 90 18, 54), (54, 34, 74, 2, vr 5 0, 57), (57, 27, 0, 63, z0, 60), (60, 0, 0, 0, vi (-3), 62), (62, 36, 1, 0, z0, 63), (63, 4, 0, 0, z0, 64), (64, 29, 8, 0, z0, 67), (67, 0, 0, 0, vr 90 19, 69), (69, 34, 74, 2, vr 5 0, 72), (72, 27, 0, 80, z0, 75), (75, 0, 0, 0, vi (-4), 77), (77, 26, 82, 0, z0, 80), (80, 0, 0, 0, vi (-5), 82), (82, 36, 1, 0, z0, 83)]
/-- X1_joiningCode StrangeWinding$LawReader.joiningCode(I)I -/
def cd15 : List (Nat × Ent) := [(0, 2, 1, 0, z0, 1), (1, 38, 2, 0, z0, 28), (28, 4, 0, 0, z0, 29), (29, 29, 8, 0, z0, 32), (32, 0, 0, 0, vr 90 20, 34), (34, 34, 74, 2, vr 5 0, 37), (37, 27, 0, 45, z0, 40), (40, 0, 0, 0, vi (-6), 42), (42, 26, 63, 0, z0, 45), (45, 4, 0, 0, z0, 46), (46, 29, 8, 0, z0, 49), (49, 0, 0, 0, vr 90 21, 51), (51, 34, 74, 2, vr 5 0, 54), (54, 27, 0, 62, z0, 57), (57, 0, 0, 0, vi (-7), 59), (59, 26, 63, 0, z0, 62), (62, 0, 0, 0, z0, 63), (63, 36, 1, 0, z0, 64), (64, 4, 0, 0, z0, 65), (65, 29, 8, 0, z0, 68), (68, 0, 0, 0, vi (60), 70), (70, 34, 75, 2, vr 5 0, 73), (73, 27, 0, 81, z0, 76), (76, 0, 0, 0, vi (-8), 78), (78, 26, 99, 0, z0, 81), (81, 4, 0, 0, z0, 82), (82, 29, 8, 0, z0, 85), (85, 0, 0, 0, vi (61), 87), (87, 34, 75, 2, vr 5 0, 90), (90, 27, 0, 98, z0, 93), (93, 0, 0, 0, vi (-9), 95), (95, 26, 99, 0, z0, 98), (98, 0, 0, 0, z0, 99), (99, 36, 1, 0, z0, 100), (100, 4, 0, 0, z0, 101), (101, 29, 8, 0, z0, 104), (104, 0, 0, 0, vi (43), 106), (106, 34, 75, 2, vr 5 0, 109), (109, 27, 0, 117, z0, 112), (112, 0, 0, 0, vi (-10), 114), (114, 26, 135, 0, z0, 117), (117, 4, 0, 0, z0, 118), (118, 29, 8, 0, z0, 121), (121, 0, 0, 0, vi (45), 123), (123, 34, 75, 2, vr 5 0, 126), (126, 27, 0, 134, z0, 129), (129, 0, 0, 0, vi (-11), 131), (131, 26, 135, 0, z0, 134), (134, 0, 0, 0, z0, 135), (135, 36, 1, 0, z0, 136), (136, 4, 0, 0, z0, 137), (137, 29, 8, 0, z0, 140), (140, 0, 0, 0, vi (42), 142), (142, 34, 75, 2, vr 5 0, 145), (145, 27, 0, 153, z0, 148), (148, 0, 0, 0, vi (-12), 150), (150, 26, 154, 0, z0, 153), (153, 0, 0, 0, z0, 154), (154, 36, 1, 0, z0, 155)]
/-- X2_init StrangeWinding$Matcher.<init>()V -/
def cd16 : List (Nat × Ent) := [(0, 4, 0, 0, z0, 1), (1, 44, 0, 0, z0, 4), (4, 4, 0, 0, z0, 5), (5, 0, 0, 0, vi (6), 7), (7, 40, 38, 0, z0, 9), (9, 30, 37, 0, z0, 12), (12, 4, 0, 0, z0, 13), (13, 0, 0, 0, vi (6), 15), (15, 40, 39, 0, z0, 17), (17, 30, 37, 1, z0, 20), (20, 35, 0, 0, z0, 21)]
/-- X2_search StrangeWinding$Matcher.search(LStrangeWinding$Land;LStrangeWinding$State;)V -/
def cd17 : List (Nat × Ent) := [(0, 4, 0, 0, z0, 1), (1, 0, 0, 0, vi (-1), 2), (2, 30, 37, 2, z0, 5), (5, 0, 0, 0, z0, 6), (6, 5, 3, 0, z0, 7), (7, 2, 3, 0, z0, 8), (8, 0, 0, 0, vi (6), 10), (10, 28, 3, 26, z0, 13), (13, 4, 0, 0, z0, 14), (14, 29, 37, 0, z0, 17), (17, 2, 3, 0, z0, 18), (18, 2, 3, 0, z0, 19), (19, 32, 1, 0, z0, 20), (20, 8, 3, 0, vi (1), 23), (23, 26, 7, 0, z0, 26), (26, 4, 0, 0, z0, 27), (27, 4, 1, 0, z0, 28), (28, 4, 2, 0, z0, 29), (29, 0, 0, 0, z0, 30), (30, 0, 0, 0, z0, 31), (31, 34, 18, 5, vr 37 0, 34), (34, 35, 0, 0, z0, 35)]
/-- X2_tryFrom StrangeWinding$Matcher.tryFrom(LStrangeWinding$Land;LStrangeWinding$State;II)V -/
def cd18 : List (Nat × Ent) := [(0, 2, 3, 0, z0, 1), (1, 4, 1, 0, z0, 2), (2, 29, 9, 10, z0, 5), (5, 28, 2, 39, z0, 8), (8, 2, 4, 0, z0, 10), (10, 4, 0, 0, z0, 11), (11, 29, 37, 2, z0, 14), (14, 28, 5, 38, z0, 17), (17, 4, 0, 0, z0, 18), (18, 2, 4, 0, z0, 20), (20, 30, 37, 2, z0, 23), (23, 4, 0, 0, z0, 24), (24, 29, 37, 0, z0, 27), (27, 0, 0, 0, z0, 28), (28, 4, 0, 0, z0, 29), (29, 29, 37, 1, z0, 32), (32, 0, 0, 0, z0, 33), (33, 0, 0, 0, vi (6), 35), (35, 46, 0, 0, z0, 38), (38, 35, 0, 0, z0, 39), (39, 4, 0, 0, z0, 40), (40, 4, 1, 0, z0, 41), (41, 4, 2, 0, z0, 42), (42, 2, 3, 0, z0, 43), (43, 0, 0, 0, vi (1), 44), (44, 9, 0, 0, z0, 45), (45, 2, 4, 0, z0, 47), (47, 34, 18, 5, vr 37 0, 50), (50, 4, 0, 0, z0, 51), (51, 29, 37, 0, z0, 54), (54, 2, 3, 0, z0, 55), (55, 31, 1, 0, z0, 56), (56, 2, 3, 0, z0, 57), (57, 28, 0, 61, z0, 60), (60, 35, 0, 0, z0, 61), (61, 2, 3, 0, z0, 62), (62, 0, 0, 0, vi (1), 63), (63, 9, 0, 0, z0, 64), (64, 5, 5, 0, z0, 66), (66, 2, 5, 0, z0, 68), (68, 4, 1, 0, z0, 69), (69, 29, 9, 10, z0, 72), (72, 28, 3, 165, z0, 75), (75, 4, 0, 0, z0, 76), (76, 29, 37, 0, z0, 79), (79, 2, 5, 0, z0, 81), (81, 31, 1, 0, z0, 82), (82, 2, 5, 0, z0, 84), (84, 28, 1, 159, z0, 87), (87, 4, 2, 0, z0, 88), (88, 29, 25, 0, z0, 91), (91, 2, 5, 0, z0, 93), (93, 31, 1, 0, z0, 94), (94, 4, 2, 0, z0, 95), (95, 29, 25, 0, z0, 98), (98, 2, 3, 0, z0, 99), (99, 31, 1, 0, z0, 100), (100, 28, 1, 159, z0, 103), (103, 4, 2, 0, z0, 104), (104, 4, 1, 0, z0, 105), (105, 2, 3, 0, z0, 106), (106, 2, 5, 0, z0, 108), (108, 34, 51, 4, vr 25 0, 111), (111, 27, 0, 159, z0, 114), (114, 4, 0, 0, z0, 115), (115, 29, 37, 0, z0, 118), (118, 2, 3, 0, z0, 119), (119, 2, 5, 0, z0, 121), (121, 32, 1, 0, z0, 122), (122, 4, 0, 0, z0, 123), (123, 29, 37, 0, z0, 126), (126, 2, 5, 0, z0, 128), (128, 2, 3, 0, z0, 129), (129, 32, 1, 0, z0, 130), (130, 4, 0, 0, z0, 131), (131, 4, 1, 0, z0, 132), (132, 4, 2, 0, z0, 133), (133, 2, 3, 0, z0, 134), (134, 0, 0, 0, vi (1), 135), (135, 9, 0, 0, z0, 136), (136, 2, 4, 0, z0, 138), (138, 0, 0, 0, vi (1), 139), (139, 9, 0, 0, z0, 140), (140, 34, 18, 5, vr 37 0, 143), (143, 4, 0, 0, z0, 144), (144, 29, 37, 0, z0, 147), (147, 2, 3, 0, z0, 148), (148, 2, 3, 0, z0, 149), (149, 32, 1, 0, z0, 150), (150, 4, 0, 0, z0, 151), (151, 29, 37, 0, z0, 154), (154, 2, 5, 0, z0, 156), (156, 2, 5, 0, z0, 158), (158, 32, 1, 0, z0, 159), (159, 8, 5, 0, vi (1), 162), (162, 26, 66, 0, z0, 165), (165, 35, 0, 0, z0, 166)]
/-- X3_init StrangeWinding$Past.<init>()V -/
def cd19 : List (Nat × Ent) := [(0, 4, 0, 0, z0, 1), (1, 44, 0, 0, z0, 4), (4, 4, 0, 0, z0, 5), (5, 0, 0, 0, vi (16), 7), (7, 41, 30, 0, z0, 10), (10, 30, 29, 0, z0, 13), (13, 0, 0, 0, z0, 14), (14, 5, 1, 0, z0, 15), (15, 2, 1, 0, z0, 16), (16, 0, 0, 0, vi (16), 18), (18, 28, 3, 40, z0, 21), (21, 4, 0, 0, z0, 22), (22, 29, 29, 0, z0, 25), (25, 2, 1, 0, z0, 26), (26, 39, 25, 0, z0, 29), (29, 23, 0, 0, z0, 30), (30, 34, 43, 1, vr 25 0, 33), (33, 32, 5, 0, z0, 34), (34, 8, 1, 0, vi (1), 37), (37, 26, 15, 0, z0, 40), (40, 35, 0, 0, z0, 41)]
/-- X3_forget StrangeWinding$Past.forget()V -/
def cd20 : List (Nat × Ent) := [(0, 4, 0, 0, z0, 1), (1, 0, 0, 0, z0, 2), (2, 30, 29, 2, z0, 5), (5, 35, 0, 0, z0, 6)]
/-- X3_keep StrangeWinding$Past.keep(LStrangeWinding$State;)V -/
def cd21 : List (Nat × Ent) := [(0, 4, 0, 0, z0, 1), (1, 4, 0, 0, z0, 2), (2, 29, 29, 1, z0, 5), (5, 0, 0, 0, vi (1), 6), (6, 9, 0, 0, z0, 7), (7, 0, 0, 0, vi (16), 9), (9, 11, 0, 0, z0, 10), (10, 30, 29, 1, z0, 13), (13, 4, 0, 0, z0, 14), (14, 29, 29, 0, z0, 17), (17, 4, 0, 0, z0, 18), (18, 29, 29, 1, z0, 21), (21, 31, 5, 0, z0, 22), (22, 4, 1, 0, z0, 23), (23, 34, 45, 2, vr 25 0, 26), (26, 4, 0, 0, z0, 27), (27, 0, 0, 0, vi (16), 29), (29, 4, 0, 0, z0, 30), (30, 29, 29, 2, z0, 33), (33, 0, 0, 0, vi (1), 34), (34, 9, 0, 0, z0, 35), (35, 48, 0, 0, z0, 38), (38, 30, 29, 2, z0, 41), (41, 35, 0, 0, z0, 42)]
/-- X3_restore StrangeWinding$Past.restore(LStrangeWinding$State;)Z -/
def cd22 : List (Nat × Ent) := [(0, 4, 0, 0, z0, 1), (1, 29, 29, 2, z0, 4), (4, 27, 1, 9, z0, 7), (7, 0, 0, 0, z0, 8), (8, 36, 2, 0, z0, 9), (9, 4, 1, 0, z0, 10), (10, 4, 0, 0, z0, 11), (11, 29, 29, 0, z0, 14), (14, 4, 0, 0, z0, 15), (15, 29, 29, 1, z0, 18), (18, 31, 5, 0, z0, 19), (19, 34, 45, 2, vr 25 0, 22), (22, 4, 0, 0, z0, 23), (23, 4, 0, 0, z0, 24), (24, 29, 29, 1, z0, 27), (27, 0, 0, 0, vi (16), 29), (29, 9, 0, 0, z0, 30), (30, 0, 0, 0, vi (1), 31), (31, 9, 1, 0, z0, 32), (32, 0, 0, 0, vi (16), 34), (34, 11, 0, 0, z0, 35), (35, 30, 29, 1, z0, 38), (38, 4, 0, 0, z0, 39), (39, 23, 0, 0, z0, 40), (40, 29, 29, 2, z0, 43), (43, 0, 0, 0, vi (1), 44), (44, 9, 1, 0, z0, 45), (45, 30, 29, 2, z0, 48), (48, 0, 0, 0, vi (1), 49), (49, 36, 2, 0, z0, 50)]
/-- X4_init StrangeWinding$Planner.<init>()V -/
def cd23 : List (Nat × Ent) := [(0, 4, 0, 0, z0, 1), (1, 44, 0, 0, z0, 4), (4, 4, 0, 0, z0, 5), (5, 0, 0, 0, vi (4), 6), (6, 40, 33, 0, z0, 8), (8, 30, 31, 1, z0, 11), (11, 4, 0, 0, z0, 12), (12, 0, 0, 0, vi (4), 13), (13, 40, 34, 0, z0, 15), (15, 30, 31, 2, z0, 18), (18, 4, 0, 0, z0, 19), (19, 0, 0, 0, vi (5), 20), (20, 41, 32, 0, z0, 23), (23, 30, 31, 0, z0, 26), (26, 0, 0, 0, z0, 27), (27, 5, 1, 0, z0, 28), (28, 2, 1, 0, z0, 29), (29, 0, 0, 0, vi (4), 30), (30, 28, 4, 52, z0, 33), (33, 4, 0, 0, z0, 34), (34, 29, 31, 0, z0, 37), (37, 2, 1, 0, z0, 38), (38, 39, 25, 0, z0, 41), (41, 23, 0, 0, z0, 42), (42, 34, 43, 1, vr 25 0, 45), (45, 32, 5, 0, z0, 46), (46, 8, 1, 0, vi (1), 49), (49, 26, 28, 0, z0, 52), (52, 35, 0, 0, z0, 53)]
/-- X4_search StrangeWinding$Planner.search(LStrangeWinding$Land;LStrangeWinding$State;II)V -/
def cd24 : List (Nat × Ent) := [(0, 4, 0, 0, z0, 1), (1, 29, 31, 0, z0, 4), (4, 0, 0, 0, z0, 5), (5, 31, 5, 0, z0, 6), (6, 4, 2, 0, z0, 7), (7, 34, 45, 2, vr 25 0, 10), (10, 4, 0, 0, z0, 11), (11, 0, 0, 0, vi (-1), 12), (12, 30, 31, 3, z0, 15), (15, 4, 0, 0, z0, 16), (16, 0, 0, 0, vi (4), 17), (17, 2, 4, 0, z0, 19), (19, 48, 0, 0, z0, 22), (22, 30, 31, 4, z0, 25), (25, 4, 0, 0, z0, 26), (26, 4, 1, 0, z0, 27), (27, 2, 3, 0, z0, 28), (28, 0, 0, 0, z0, 29), (29, 34, 25, 4, vr 31 0, 32), (32, 35, 0, 0, z0, 33)]
/-- X4_tryFrom StrangeWinding$Planner.tryFrom(LStrangeWinding$Land;II)V -/
def cd25 : List (Nat × Ent) := [(0, 4, 0, 0, z0, 1), (1, 29, 31, 0, z0, 4), (4, 2, 3, 0, z0, 5), (5, 31, 5, 0, z0, 6), (6, 7, 4, 0, z0, 8), (8, 2, 3, 0, z0, 9), (9, 4, 0, 0, z0, 10), (10, 29, 31, 4, z0, 13), (13, 28, 2, 56, z0, 16), (16, 4, 4, 0, z0, 18), (18, 29, 25, 1, z0, 21), (21, 2, 2, 0, z0, 22), (22, 31, 1, 0, z0, 23), (23, 4, 0, 0, z0, 24), (24, 29, 31, 3, z0, 27), (27, 28, 5, 55, z0, 30), (30, 4, 0, 0, z0, 31), (31, 4, 4, 0, z0, 33), (33, 29, 25, 1, z0, 36), (36, 2, 2, 0, z0, 37), (37, 31, 1, 0, z0, 38), (38, 30, 31, 3, z0, 41), (41, 4, 0, 0, z0, 42), (42, 29, 31, 1, z0, 45), (45, 0, 0, 0, z0, 46), (46, 4, 0, 0, z0, 47), (47, 29, 31, 2, z0, 50), (50, 0, 0, 0, z0, 51), (51, 0, 0, 0, vi (4), 52), (52, 46, 0, 0, z0, 55), (55, 35, 0, 0, z0, 56), (56, 0, 0, 0, z0, 57), (57, 5, 5, 0, z0, 59), (59, 2, 5, 0, z0, 61), (61, 4, 1, 0, z0, 62), (62, 29, 9, 9, z0, 65), (65, 28, 3, 156, z0, 68), (68, 2, 5, 0, z0, 70), (70, 4, 4, 0, z0, 72), (72, 29, 25, 0, z0, 75), (75, 2, 2, 0, z0, 76), (76, 31, 1, 0, z0, 77), (77, 28, 0, 92, z0, 80), (80, 4, 4, 0, z0, 82), (82, 4, 1, 0, z0, 83), (83, 2, 2, 0, z0, 84), (84, 2, 5, 0, z0, 86), (86, 34, 54, 4, vr 25 0, 89), (89, 27, 0, 150, z0, 92), (92, 4, 0, 0, z0, 93), (93, 29, 31, 1, z0, 96), (96, 2, 3, 0, z0, 97), (97, 2, 5, 0, z0, 99), (99, 32, 1, 0, z0, 100), (100, 4, 0, 0, z0, 101), (101, 29, 31, 0, z0, 104), (104, 2, 3, 0, z0, 105), (105, 0, 0, 0, vi (1), 106), (106, 9, 0, 0, z0, 107), (107, 31, 5, 0, z0, 108), (108, 4, 4, 0, z0, 110), (110, 34, 45, 2, vr 25 0, 113), (113, 4, 0, 0, z0, 114), (114, 29, 31, 0, z0, 117), (117, 2, 3, 0, z0, 118), (118, 0, 0, 0, vi (1), 119), (119, 9, 0, 0, z0, 120), (120, 31, 5, 0, z0, 121), (121, 29, 25, 0, z0, 124), (124, 2, 2, 0, z0, 125), (125, 2, 5, 0, z0, 127), (127, 32, 1, 0, z0, 128), (128, 4, 0, 0, z0, 129), (129, 29, 31, 0, z0, 132), (132, 2, 3, 0, z0, 133), (133, 0, 0, 0, vi (1), 134), (134, 9, 0, 0, z0, 135), (135, 31, 5, 0, z0, 136), (136, 4, 1, 0, z0, 137), (137, 34, 61, 2, vr 25 0, 140), (140, 25, 0, 0, z0, 141), (141, 4, 0, 0, z0, 142), (142, 4, 1, 0, z0, 143), (143, 2, 2, 0, z0, 144), (144, 2, 3, 0, z0, 145), (145, 0, 0, 0, vi (1), 146), (146, 9, 0, 0, z0, 147), (147, 34, 25, 4, vr 31 0, 150), (150, 8, 5, 0, vi (1), 153), (153, 26, 59, 0, z0, 156), (156, 35, 0, 0, z0, 157)]
/-- X5_init StrangeWinding$Reader.<init>(LStrangeWinding$Tape;)V -/
def cd26 : List (Nat × Ent) := [(0, 4, 0, 0, z0, 1), (1, 44, 0, 0, z0, 4), (4, 4, 0, 0, z0, 5), (5, 4, 1, 0, z0, 6), (6, 30, 7, 0, z0, 9), (9, 4, 0, 0, z0, 10), (10, 39, 8, 0, z0, 13), (13, 23, 0, 0, z0, 14), (14, 4, 1, 0, z0, 15), (15, 34, 10, 2, vr 8 0, 18), (18, 30, 7, 1, z0, 21), (21, 35, 0, 0, z0, 22)]
/-- X5_readLand StrangeWinding$Reader.readLand(LStrangeWinding$Land;)I -/
def cd27 : List (Nat × Ent) := [(0, 4, 1, 0, z0, 1), (1, 34, 1, 1, vr 9 0, 4), (4, 4, 0, 0, z0, 5), (5, 0, 0, 0, z0, 6), (6, 30, 7, 2, z0, 9), (9, 4, 0, 0, z0, 10), (10, 0, 0, 0, z0, 11), (11, 30, 7, 3, z0, 14), (14, 4, 0, 0, z0, 15), (15, 29, 7, 0, z0, 18), (18, 34, 68, 1, vr 5 0, 21), (21, 0, 0, 0, z0, 22), (22, 5, 2, 0, z0, 23), (23, 2, 2, 0, z0, 24), (24, 0, 0, 0, vi (1000), 27), (27, 28, 3, 74, z0, 30), (30, 4, 0, 0, z0, 31), (31, 29, 7, 0, z0, 34), (34, 29, 5, 2, z0, 37), (37, 27, 0, 74, z0, 40), (40, 4, 0, 0, z0, 41), (41, 4, 1, 0, z0, 42), (42, 34, 28, 2, vr 7 0, 45), (45, 27, 0, 60, z0, 48), (48, 4, 0, 0, z0, 49), (49, 29, 7, 0, z0, 52), (52, 0, 0, 0, vi (59), 54), (54, 34, 80, 2, vr 5 0, 57), (57, 27, 1, 68, z0, 60), (60, 4, 0, 0, z0, 61), (61, 29, 7, 0, z0, 64), (64, 29, 5, 7, z0, 67), (67, 36, 1, 0, z0, 68), (68, 8, 2, 0, vi (1), 71), (71, 26, 23, 0, z0, 74), (74, 0, 0, 0, z0, 75), (75, 36, 1, 0, z0, 76)]
/-- X5_readOfLand StrangeWinding$Reader.readOfLand(LStrangeWinding$Land;)Z -/
def cd28 : List (Nat × Ent) := [(0, 4, 0, 0, z0, 1), (1, 29, 7, 0, z0, 4), (4, 0, 0, 0, vr 90 1, 6), (6, 34, 74, 2, vr 5 0, 9), (9, 27, 0, 18, z0, 12), (12, 4, 0, 0, z0, 13), (13, 4, 1, 0, z0, 14), (14, 34, 29, 2, vr 7 0, 17), (17, 36, 2, 0, z0, 18), (18, 4, 0, 0, z0, 19), (19, 29, 7, 0, z0, 22), (22, 0, 0, 0, vr 90 3, 24), (24, 34, 74, 2, vr 5 0, 27), (27, 27, 0, 37, z0, 30), (30, 4, 0, 0, z0, 31), (31, 4, 1, 0, z0, 32), (32, 0, 0, 0, vi (1), 33), (33, 34, 30, 3, vr 7 0, 36), (36, 36, 2, 0, z0, 37), (37, 4, 0, 0, z0, 38), (38, 29, 7, 0, z0, 41), (41, 0, 0, 0, vr 90 4, 43), (43, 34, 74, 2, vr 5 0, 46), (46, 27, 0, 55, z0, 49), (49, 4, 0, 0, z0, 50), (50, 4, 1, 0, z0, 51), (51, 34, 31, 2, vr 7 0, 54), (54, 36, 2, 0, z0, 55), (55, 4, 0, 0, z0, 56), (56, 29, 7, 0, z0, 59), (59, 0, 0, 0, vr 90 11, 61), (61, 34, 74, 2, vr 5 0, 64), (64, 27, 0, 74, z0, 67), (67, 4, 0, 0, z0, 68), (68, 4, 1, 0, z0, 69), (69, 0, 0, 0, z0, 70), (70, 34, 30, 3, vr 7 0, 73), (73, 36, 2, 0, z0, 74), (74, 4, 0, 0, z0, 75), (75, 29, 7, 0, z0, 78), (78, 0, 0, 0, vr 90 12, 80), (80, 34, 74, 2, vr 5 0, 83), (83, 27, 0, 92, z0, 86), (86, 4, 0, 0, z0, 87), (87, 4, 1, 0, z0, 88), (88, 34, 32, 2, vr 7 0, 91), (91, 36, 2, 0, z0, 92), (92, 4, 0, 0, z0, 93), (93, 29, 7, 0, z0, 96), (96, 0, 0, 0, vr 90 13, 98), (98, 34, 74, 2, vr 5 0, 101), (101, 27, 0, 110, z0, 104), (104, 4, 0, 0, z0, 105), (105, 4, 1, 0, z0, 106), (106, 34, 33, 2, vr 7 0, 109), (109, 36, 2, 0, z0, 110), (110, 4, 0, 0, z0, 111), (111, 29, 7, 0, z0, 114), (114, 0, 0, 0, vr 90 14, 116), (116, 34, 74, 2, vr 5 0, 119), (119, 27, 0, 133, z0, 122), (122, 4, 0, 0, z0, 123), (123, 29, 7, 1, z0, 126), (126, 4, 1, 0, z0, 127), (127, 34, 11, 2, vr 8 0, 130), (130, 26, 141, 0, z0, 133), (133, 4, 0, 0, z0, 134), (134, 29, 7, 0, z0, 137), (137, 0, 0, 0, vi (1), 138), (138, 34, 78, 2, vr 5 0, 141), (141, 36, 2, 0, z0, 142)]
/-- X5_readStreet StrangeWinding$Reader.readStreet(LStrangeWinding$Land;)Z -/
def cd29 : List (Nat × Ent) := [(0, 4, 1, 0, z0, 1), (1, 29, 9, 9, z0, 4), (4, 0, 0, 0, vi (5), 5), (5, 28, 2, 17, z0, 8), (8, 4, 0, 0, z0, 9), (9, 29, 7, 0, z0, 12), (12, 0, 0, 0, vi (5), 13), (13, 34, 78, 2, vr 5 0, 16), (16, 36, 2, 0, z0, 17), (17, 4, 0, 0, z0, 18), (18, 29, 7, 0, z0, 21), (21, 34, 69, 1, vr 5 0, 24), (24, 4, 0, 0, z0, 25), (25, 4, 1, 0, z0, 26), (26, 34, 37, 2, vr 7 0, 29), (29, 27, 1, 34, z0, 32), (32, 0, 0, 0, z0, 33), (33, 36, 2, 0, z0, 34), (34, 4, 1, 0, z0, 35), (35, 4, 0, 0, z0, 36), (36, 29, 7, 0, z0, 39), (39, 29, 5, 6, z0, 42), (42, 34, 2, 2, vr 9 0, 45), (45, 4, 0, 0, z0, 46), (46, 29, 7, 0, z0, 49), (49, 34, 69, 1, vr 5 0, 52), (52, 0, 0, 0, vi (1), 53), (53, 36, 2, 0, z0, 54)]
/-- X5_readPair StrangeWinding$Reader.readPair(LStrangeWinding$Land;Z)Z -/
def cd30 : List (Nat × Ent) := [(0, 2, 2, 0, z0, 1), (1, 27, 0, 11, z0, 4), (4, 4, 1, 0, z0, 5), (5, 29, 9, 1, z0, 8), (8, 26, 15, 0, z0, 11), (11, 4, 1, 0, z0, 12), (12, 29, 9, 6, z0, 15), (15, 7, 3, 0, z0, 16), (16, 4, 0, 0, z0, 17), (17, 29, 7, 0, z0, 20), (20, 34, 69, 1, vr 5 0, 23), (23, 4, 0, 0, z0, 24), (24, 4, 1, 0, z0, 25), (25, 2, 2, 0, z0, 26), (26, 34, 38, 3, vr 7 0, 29), (29, 5, 4, 0, z0, 31), (31, 2, 4, 0, z0, 33), (33, 0, 0, 0, vi (-1), 34), (34, 28, 1, 39, z0, 37), (37, 0, 0, 0, z0, 38), (38, 36, 2, 0, z0, 39), (39, 4, 0, 0, z0, 40), (40, 29, 7, 0, z0, 43), (43, 34, 69, 1, vr 5 0, 46), (46, 4, 0, 0, z0, 47), (47, 4, 1, 0, z0, 48), (48, 2, 2, 0, z0, 49), (49, 34, 38, 3, vr 7 0, 52), (52, 5, 5, 0, z0, 54), (54, 2, 5, 0, z0, 56), (56, 0, 0, 0, vi (-1), 57), (57, 28, 1, 62, z0, 60), (60, 0, 0, 0, z0, 61), (61, 36, 2, 0, z0, 62), (62, 2, 4, 0, z0, 64), (64, 2, 5, 0, z0, 66), (66, 28, 0, 81, z0, 69), (69, 4, 3, 0, z0, 70), (70, 2, 4, 0, z0, 72), (72, 31, 1, 0, z0, 73), (73, 2, 5, 0, z0, 75), (75, 9, 7, 0, z0, 76), (76, 0, 0, 0, vi (1), 77), (77, 9, 3, 0, z0, 78), (78, 27, 0, 90, z0, 81), (81, 4, 0, 0, z0, 82), (82, 29, 7, 0, z0, 85), (85, 0, 0, 0, vi (3), 86), (86, 34, 78, 2, vr 5 0, 89), (89, 36, 2, 0, z0, 90), (90, 4, 3, 0, z0, 91), (91, 2, 4, 0, z0, 93), (93, 24, 0, 0, z0, 94), (94, 31, 1, 0, z0, 95), (95, 0, 0, 0, vi (1), 96), (96, 2, 5, 0, z0, 98), (98, 9, 6, 0, z0, 99), (99, 9, 4, 0, z0, 100), (100, 32, 1, 0, z0, 101), (101, 4, 3, 0, z0, 102), (102, 2, 5, 0, z0, 104), (104, 24, 0, 0, z0, 105), (105, 31, 1, 0, z0, 106), (106, 0, 0, 0, vi (1), 107), (107, 2, 4, 0, z0, 109), (109, 9, 6, 0, z0, 110), (110, 9, 4, 0, z0, 111), (111, 32, 1, 0, z0, 112), (112, 4, 0, 0, z0, 113), (113, 29, 7, 0, z0, 116), (116, 34, 69, 1, vr 5 0, 119), (119, 0, 0, 0, vi (1), 120), (120, 36, 2, 0, z0, 121)]
/-- X5_readPerson StrangeWinding$Reader.readPerson(LStrangeWinding$Land;)Z -/
def cd31 : List (Nat × Ent) := [(0, 4, 1, 0, z0, 1), (1, 29, 9, 10, z0, 4), (4, 5, 2, 0, z0, 5), (5, 2, 2, 0, z0, 6), (6, 0, 0, 0, vi (6), 8), (8, 28, 2, 20, z0, 11), (11, 4, 0, 0, z0, 12), (12, 29, 7, 0, z0, 15), (15, 0, 0, 0, vi (5), 16), (16, 34, 78, 2, vr 5 0, 19), (19, 36, 2, 0, z0, 20), (20, 4, 0, 0, z0, 21), (21, 29, 7, 0, z0, 24), (24, 34, 69, 1, vr 5 0, 27), (27, 4, 0, 0, z0, 28), (28, 4, 1, 0, z0, 29), (29, 34, 37, 2, vr 7 0, 32), (32, 27, 1, 37, z0, 35), (35, 0, 0, 0, z0, 36), (36, 36, 2, 0, z0, 37), (37, 4, 1, 0, z0, 38), (38, 4, 0, 0, z0, 39), (39, 29, 7, 0, z0, 42), (42, 29, 5, 6, z0, 45), (45, 34, 3, 2, vr 9 0, 48), (48, 4, 0, 0, z0, 49), (49, 29, 7, 0, z0, 52), (52, 34, 69, 1, vr 5 0, 55), (55, 4, 1, 0, z0, 56), (56, 29, 9, 3, z0, 59), (59, 2, 2, 0, z0, 60), (60, 4, 0, 0, z0, 61), (61, 29, 7, 0, z0, 64), (64, 34, 77, 1, vr 5 0, 67), (67, 32, 1, 0, z0, 68), (68, 4, 1, 0, z0, 69), (69, 29, 9, 3, z0, 72), (72, 2, 2, 0, z0, 73), (73, 31, 1, 0, z0, 74), (74, 0, 0, 0, vi (-1), 75), (75, 28, 1, 87, z0, 78), (78, 4, 0, 0, z0, 79), (79, 29, 7, 0, z0, 82), (82, 0, 0, 0, vi (1), 83), (83, 34, 78, 2, vr 5 0, 86), (86, 36, 2, 0, z0, 87), (87, 4, 0, 0, z0, 88), (88, 29, 7, 0, z0, 91), (91, 34, 69, 1, vr 5 0, 94), (94, 4, 0, 0, z0, 95), (95, 29, 7, 0, z0, 98), (98, 0, 0, 0, vr 90 9, 100), (100, 34, 79, 2, vr 5 0, 103), (103, 27, 1, 108, z0, 106), (106, 0, 0, 0, z0, 107), (107, 36, 2, 0, z0, 108), (108, 4, 1, 0, z0, 109), (109, 29, 9, 4, z0, 112), (112, 2, 2, 0, z0, 113), (113, 4, 0, 0, z0, 114), (114, 4, 1, 0, z0, 115), (115, 0, 0, 0, vi (1), 116), (116, 34, 38, 3, vr 7 0, 119), (119, 32, 1, 0, z0, 120), (120, 4, 1, 0, z0, 121), (121, 29, 9, 4, z0, 124), (124, 2, 2, 0, z0, 125), (125, 31, 1, 0, z0, 126), (126, 0, 0, 0, vi (-1), 127), (127, 28, 1, 132, z0, 130), (130, 0, 0, 0, z0, 131), (131, 36, 2, 0, z0, 132), (132, 4, 0, 0, z0, 133), (133, 29, 7, 0, z0, 136), (136, 34, 69, 1, vr 5 0, 139), (139, 4, 0, 0, z0, 140), (140, 29, 7, 0, z0, 143), (143, 0, 0, 0, vr 90 10, 145), (145, 34, 79, 2, vr 5 0, 148), (148, 27, 0, 164, z0, 151), (151, 4, 0, 0, z0, 152), (152, 29, 7, 0, z0, 155), (155, 0, 0, 0, z0, 156), (156, 0, 0, 0, vi (99), 158), (158, 34, 81, 3, vr 5 0, 161), (161, 27, 1, 166, z0, 164), (164, 0, 0, 0, z0, 165), (165, 36, 2, 0, z0, 166), (166, 4, 1, 0, z0, 167), (167, 29, 9, 5, z0, 170), (170, 2, 2, 0, z0, 171), (171, 4, 0, 0, z0, 172), (172, 29, 7, 0, z0, 175), (175, 29, 5, 5, z0, 178), (178, 32, 1, 0, z0, 179), (179, 4, 0, 0, z0, 180), (180, 29, 7, 0, z0, 183), (183, 34, 69, 1, vr 5 0, 186), (186, 0, 0, 0, vi (1), 187), (187, 36, 2, 0, z0, 188)]
/-- X5_readSoon StrangeWinding$Reader.readSoon(LStrangeWinding$Land;)Z -/
def cd32 : List (Nat × Ent) := [(0, 4, 0, 0, z0, 1), (1, 29, 7, 2, z0, 4), (4, 27, 0, 16, z0, 7), (7, 4, 0, 0, z0, 8), (8, 29, 7, 0, z0, 11), (11, 0, 0, 0, vi (3), 12), (12, 34, 78, 2, vr 5 0, 15), (15, 36, 2, 0, z0, 16), (16, 4, 0, 0, z0, 17), (17, 0, 0, 0, vi (1), 18), (18, 30, 7, 2, z0, 21), (21, 4, 0, 0, z0, 22), (22, 29, 7, 0, z0, 25), (25, 34, 69, 1, vr 5 0, 28), (28, 4, 0, 0, z0, 29), (29, 29, 7, 0, z0, 32), (32, 0, 0, 0, vi (1), 33), (33, 0, 0, 0, vi (9), 35), (35, 34, 81, 3, vr 5 0, 38), (38, 27, 1, 43, z0, 41), (41, 0, 0, 0, z0, 42), (42, 36, 2, 0, z0, 43), (43, 4, 1, 0, z0, 44), (44, 4, 0, 0, z0, 45), (45, 29, 7, 0, z0, 48), (48, 29, 5, 5, z0, 51), (51, 30, 9, 11, z0, 54), (54, 4, 0, 0, z0, 55), (55, 29, 7, 0, z0, 58), (58, 34, 69, 1, vr 5 0, 61), (61, 0, 0, 0, vi (1), 62), (62, 36, 2, 0, z0, 63)]
/-- X5_readSnap StrangeWinding$Reader.readSnap(LStrangeWinding$Land;)Z -/
def cd33 : List (Nat × Ent) := [(0, 4, 0, 0, z0, 1), (1, 29, 7, 3, z0, 4), (4, 27, 0, 16, z0, 7), (7, 4, 0, 0, z0, 8), (8, 29, 7, 0, z0, 11), (11, 0, 0, 0, vi (3), 12), (12, 34, 78, 2, vr 5 0, 15), (15, 36, 2, 0, z0, 16), (16, 4, 0, 0, z0, 17), (17, 0, 0, 0, vi (1), 18), (18, 30, 7, 3, z0, 21), (21, 4, 0, 0, z0, 22), (22, 29, 7, 0, z0, 25), (25, 34, 69, 1, vr 5 0, 28), (28, 4, 0, 0, z0, 29), (29, 29, 7, 0, z0, 32), (32, 0, 0, 0, vi (1), 33), (33, 0, 0, 0, vi (99), 35), (35, 34, 81, 3, vr 5 0, 38), (38, 27, 1, 43, z0, 41), (41, 0, 0, 0, z0, 42), (42, 36, 2, 0, z0, 43), (43, 4, 1, 0, z0, 44), (44, 4, 0, 0, z0, 45), (45, 29, 7, 0, z0, 48), (48, 29, 5, 5, z0, 51), (51, 30, 9, 12, z0, 54), (54, 4, 0, 0, z0, 55), (55, 29, 7, 0, z0, 58), (58, 34, 69, 1, vr 5 0, 61), (61, 0, 0, 0, vi (1), 62), (62, 36, 2, 0, z0, 63)]
/-- X5_readWeek StrangeWinding$Reader.readWeek(LStrangeWinding$Land;LStrangeWinding$Week;)I -/
def cd34 : List (Nat × Ent) := [(0, 4, 2, 0, z0, 1), (1, 0, 0, 0, z0, 2), (2, 30, 19, 3, z0, 5), (5, 4, 0, 0, z0, 6), (6, 29, 7, 0, z0, 9), (9, 34, 68, 1, vr 5 0, 12), (12, 0, 0, 0, z0, 13), (13, 5, 3, 0, z0, 14), (14, 2, 3, 0, z0, 15), (15, 0, 0, 0, vi (1000), 18), (18, 28, 3, 66, z0, 21), (21, 4, 0, 0, z0, 22), (22, 29, 7, 0, z0, 25), (25, 29, 5, 2, z0, 28), (28, 27, 0, 66, z0, 31), (31, 4, 0, 0, z0, 32), (32, 4, 1, 0, z0, 33), (33, 4, 2, 0, z0, 34), (34, 34, 35, 3, vr 7 0, 37), (37, 27, 0, 52, z0, 40), (40, 4, 0, 0, z0, 41), (41, 29, 7, 0, z0, 44), (44, 0, 0, 0, vi (59), 46), (46, 34, 80, 2, vr 5 0, 49), (49, 27, 1, 60, z0, 52), (52, 4, 0, 0, z0, 53), (53, 29, 7, 0, z0, 56), (56, 29, 5, 7, z0, 59), (59, 36, 1, 0, z0, 60), (60, 8, 3, 0, vi (1), 63), (63, 26, 14, 0, z0, 66), (66, 0, 0, 0, z0, 67), (67, 36, 1, 0, z0, 68)]
/-- X5_readOfWeek StrangeWinding$Reader.readOfWeek(LStrangeWinding$Land;LStrangeWinding$Week;)Z -/
def cd35 : List (Nat × Ent) := [(0, 4, 0, 0, z0, 1), (1, 34, 36, 1, vr 7 0, 4), (4, 5, 3, 0, z0, 5), (5, 2, 3, 0, z0, 6), (6, 0, 0, 0, vi (-1), 7), (7, 28, 1, 19, z0, 10), (10, 4, 0, 0, z0, 11), (11, 29, 7, 0, z0, 14), (14, 0, 0, 0, vi (1), 15), (15, 34, 78, 2, vr 5 0, 18), (18, 36, 2, 0, z0, 19), (19, 4, 2, 0, z0, 20), (20, 29, 19, 3, z0, 23), (23, 0, 0, 0, vi (40), 25), (25, 28, 2, 37, z0, 28), (28, 4, 0, 0, z0, 29), (29, 29, 7, 0, z0, 32), (32, 0, 0, 0, vi (5), 33), (33, 34, 78, 2, vr 5 0, 36), (36, 36, 2, 0, z0, 37), (37, 4, 0, 0, z0, 38), (38, 29, 7, 0, z0, 41), (41, 34, 69, 1, vr 5 0, 44), (44, 0, 0, 0, z0, 45), (45, 5, 4, 0, z0, 47), (47, 0, 0, 0, z0, 48), (48, 5, 5, 0, z0, 50), (50, 2, 3, 0, z0, 51), (51, 0, 0, 0, vi (3), 52), (52, 28, 0, 78, z0, 55), (55, 4, 0, 0, z0, 56), (56, 4, 1, 0, z0, 57), (57, 0, 0, 0, z0, 58), (58, 34, 38, 3, vr 7 0, 61), (61, 5, 4, 0, z0, 63), (63, 2, 4, 0, z0, 65), (65, 0, 0, 0, vi (-1), 66), (66, 28, 1, 71, z0, 69), (69, 0, 0, 0, z0, 70), (70, 36, 2, 0, z0, 71), (71, 4, 0, 0, z0, 72), (72, 29, 7, 0, z0, 75), (75, 34, 69, 1, vr 5 0, 78), (78, 2, 3, 0, z0, 79), (79, 27, 0, 87, z0, 82), (82, 2, 3, 0, z0, 83), (83, 0, 0, 0, vi (1), 84), (84, 28, 1, 139, z0, 87), (87, 4, 0, 0, z0, 88), (88, 4, 1, 0, z0, 89), (89, 2, 3, 0, z0, 90), (90, 27, 1, 97, z0, 93), (93, 0, 0, 0, vi (1), 94), (94, 26, 98, 0, z0, 97), (97, 0, 0, 0, z0, 98), (98, 34, 38, 3, vr 7 0, 101), (101, 5, 5, 0, z0, 103), (103, 2, 5, 0, z0, 105), (105, 0, 0, 0, vi (-1), 106), (106, 28, 1, 111, z0, 109), (109, 0, 0, 0, z0, 110), (110, 36, 2, 0, z0, 111), (111, 2, 3, 0, z0, 112), (112, 0, 0, 0, vi (1), 113), (113, 28, 1, 132, z0, 116), (116, 2, 4, 0, z0, 118), (118, 2, 5, 0, z0, 120), (120, 28, 1, 132, z0, 123), (123, 4, 0, 0, z0, 124), (124, 29, 7, 0, z0, 127), (127, 0, 0, 0, vi (3), 128), (128, 34, 78, 2, vr 5 0, 131), (131, 36, 2, 0, z0, 132), (132, 4, 0, 0, z0, 133), (133, 29, 7, 0, z0, 136), (136, 34, 69, 1, vr 5 0, 139), (139, 4, 2, 0, z0, 140), (140, 2, 3, 0, z0, 141), (141, 2, 4, 0, z0, 143), (143, 2, 5, 0, z0, 145), (145, 34, 83, 4, vr 19 0, 148), (148, 0, 0, 0, vi (1), 149), (149, 36, 2, 0, z0, 150)]
/-- X5_verbHere StrangeWinding$Reader.verbHere()I -/
def cd36 : List (Nat × Ent) := [(0, 4, 0, 0, z0, 1), (1, 29, 7, 0, z0, 4), (4, 0, 0, 0, vr 90 22, 6), (6, 34, 74, 2, vr 5 0, 9), (9, 27, 0, 14, z0, 12), (12, 0, 0, 0, z0, 13), (13, 36, 1, 0, z0, 14), (14, 4, 0, 0, z0, 15), (15, 29, 7, 0, z0, 18), (18, 0, 0, 0, vr 90 23, 20), (20, 34, 74, 2, vr 5 0, 23), (23, 27, 0, 28, z0, 26), (26, 0, 0, 0, vi (1), 27), (27, 36, 1, 0, z0, 28), (28, 4, 0, 0, z0, 29), (29, 29, 7, 0, z0, 32), (32, 0, 0, 0, vr 90 24, 34), (34, 34, 74, 2, vr 5 0, 37), (37, 27, 0, 42, z0, 40), (40, 0, 0, 0, vi (2), 41), (41, 36, 1, 0, z0, 42), (42, 4, 0, 0, z0, 43), (43, 29, 7, 0, z0, 46), (46, 0, 0, 0, vr 90 25, 48), (48, 34, 74, 2, vr 5 0, 51), (51, 27, 0, 58, z0, 54), (54, 0, 0, 0, vi (3), 55), (55, 26, 59, 0, z0, 58), (58, 0, 0, 0, vi (-1), 59), (59, 36, 1, 0, z0, 60)]
/-- X5_isNewName StrangeWinding$Reader.isNewName(LStrangeWinding$Land;)Z -/
def cd37 : List (Nat × Ent) := [(0, 4, 0, 0, z0, 1), (1, 29, 7, 0, z0, 4), (4, 34, 76, 1, vr 5 0, 7), (7, 27, 1, 19, z0, 10), (10, 4, 0, 0, z0, 11), (11, 29, 7, 0, z0, 14), (14, 0, 0, 0, vi (1), 15), (15, 34, 78, 2, vr 5 0, 18), (18, 36, 2, 0, z0, 19), (19, 4, 1, 0, z0, 20), (20, 4, 0, 0, z0, 21), (21, 29, 7, 0, z0, 24), (24, 29, 5, 6, z0, 27), (27, 34, 4, 2, vr 9 0, 30), (30, 0, 0, 0, vi (-1), 31), (31, 28, 1, 49, z0, 34), (34, 4, 1, 0, z0, 35), (35, 4, 0, 0, z0, 36), (36, 29, 7, 0, z0, 39), (39, 29, 5, 6, z0, 42), (42, 34, 5, 2, vr 9 0, 45), (45, 0, 0, 0, vi (-1), 46), (46, 28, 0, 53, z0, 49), (49, 0, 0, 0, vi (1), 50), (50, 26, 54, 0, z0, 53), (53, 0, 0, 0, z0, 54), (54, 5, 2, 0, z0, 55), (55, 2, 2, 0, z0, 56), (56, 27, 0, 70, z0, 59), (59, 4, 0, 0, z0, 60), (60, 29, 7, 0, z0, 63), (63, 0, 0, 0, vi (3), 64), (64, 34, 78, 2, vr 5 0, 67), (67, 27, 0, 74, z0, 70), (70, 0, 0, 0, vi (1), 71), (71, 26, 75, 0, z0, 74), (74, 0, 0, 0, z0, 75), (75, 36, 2, 0, z0, 76)]
/-- X5_numberHere StrangeWinding$Reader.numberHere(LStrangeWinding$Land;Z)I -/
def cd38 : List (Nat × Ent) := [(0, 4, 0, 0, z0, 1), (1, 29, 7, 0, z0, 4), (4, 34, 76, 1, vr 5 0, 7), (7, 27, 1, 21, z0, 10), (10, 4, 0, 0, z0, 11), (11, 29, 7, 0, z0, 14), (14, 0, 0, 0, vi (1), 15), (15, 34, 78, 2, vr 5 0, 18), (18, 25, 0, 0, z0, 19), (19, 0, 0, 0, vi (-1), 20), (20, 36, 1, 0, z0, 21), (21, 2, 2, 0, z0, 22), (22, 27, 0, 39, z0, 25), (25, 4, 1, 0, z0, 26), (26, 4, 0, 0, z0, 27), (27, 29, 7, 0, z0, 30), (30, 29, 5, 6, z0, 33), (33, 34, 4, 2, vr 9 0, 36), (36, 26, 50, 0, z0, 39), (39, 4, 1, 0, z0, 40), (40, 4, 0, 0, z0, 41), (41, 29, 7, 0, z0, 44), (44, 29, 5, 6, z0, 47), (47, 34, 5, 2, vr 9 0, 50), (50, 5, 3, 0, z0, 51), (51, 2, 3, 0, z0, 52), (52, 0, 0, 0, vi (-1), 53), (53, 28, 1, 65, z0, 56), (56, 4, 0, 0, z0, 57), (57, 29, 7, 0, z0, 60), (60, 0, 0, 0, vi (2), 61), (61, 34, 78, 2, vr 5 0, 64), (64, 25, 0, 0, z0, 65), (65, 2, 3, 0, z0, 66), (66, 36, 1, 0, z0, 67)]
/-- X6_init StrangeWinding$Scene.<init>()V -/
def cd39 : List (Nat × Ent) := [(0, 4, 0, 0, z0, 1), (1, 44, 0, 0, z0, 4), (4, 4, 0, 0, z0, 5), (5, 39, 25, 0, z0, 8), (8, 23, 0, 0, z0, 9), (9, 34, 43, 1, vr 25 0, 12), (12, 30, 23, 0, z0, 15), (15, 4, 0, 0, z0, 16), (16, 39, 19, 0, z0, 19), (19, 23, 0, 0, z0, 20), (20, 34, 82, 1, vr 19 0, 23), (23, 30, 23, 1, z0, 26), (26, 4, 0, 0, z0, 27), (27, 0, 0, 0, vi (6), 29), (29, 40, 24, 0, z0, 31), (31, 30, 23, 2, z0, 34), (34, 4, 0, 0, z0, 35), (35, 29, 23, 2, z0, 38), (38, 0, 0, 0, vi (-1), 39), (39, 34, 250, 2, z0, 42), (42, 35, 0, 0, z0, 43)]
/-- X6_begin StrangeWinding$Scene.begin(LStrangeWinding$Land;)V -/
def cd40 : List (Nat × Ent) := [(0, 4, 0, 0, z0, 1), (1, 29, 23, 0, z0, 4), (4, 4, 1, 0, z0, 5), (5, 34, 44, 2, vr 25 0, 8), (8, 4, 0, 0, z0, 9), (9, 29, 23, 1, z0, 12), (12, 0, 0, 0, z0, 13), (13, 30, 19, 3, z0, 16), (16, 4, 0, 0, z0, 17), (17, 29, 23, 2, z0, 20), (20, 0, 0, 0, vi (-1), 21), (21, 34, 250, 2, z0, 24), (24, 35, 0, 0, z0, 25)]
/-- X6_copyFrom StrangeWinding$Scene.copyFrom(LStrangeWinding$Scene;)V -/
def cd41 : List (Nat × Ent) := [(0, 4, 0, 0, z0, 1), (1, 29, 23, 0, z0, 4), (4, 4, 1, 0, z0, 5), (5, 29, 23, 0, z0, 8), (8, 34, 45, 2, vr 25 0, 11), (11, 4, 0, 0, z0, 12), (12, 29, 23, 1, z0, 15), (15, 4, 1, 0, z0, 16), (16, 29, 23, 1, z0, 19), (19, 34, 84, 2, vr 19 0, 22), (22, 4, 1, 0, z0, 23), (23, 29, 23, 2, z0, 26), (26, 0, 0, 0, z0, 27), (27, 4, 0, 0, z0, 28), (28, 29, 23, 2, z0, 31), (31, 0, 0, 0, z0, 32), (32, 0, 0, 0, vi (6), 34), (34, 46, 0, 0, z0, 37), (37, 35, 0, 0, z0, 38)]
/-- X6_talesTold StrangeWinding$Scene.talesTold()I -/
def cd42 : List (Nat × Ent) := [(0, 0, 0, 0, z0, 1), (1, 5, 1, 0, z0, 2), (2, 0, 0, 0, z0, 3), (3, 5, 2, 0, z0, 4), (4, 2, 2, 0, z0, 5), (5, 0, 0, 0, vi (6), 7), (7, 28, 3, 29, z0, 10), (10, 4, 0, 0, z0, 11), (11, 29, 23, 2, z0, 14), (14, 2, 2, 0, z0, 15), (15, 31, 1, 0, z0, 16), (16, 0, 0, 0, vi (-1), 17), (17, 28, 0, 23, z0, 20), (20, 8, 1, 0, vi (1), 23), (23, 8, 2, 0, vi (1), 26), (26, 26, 4, 0, z0, 29), (29, 2, 1, 0, z0, 30), (30, 36, 1, 0, z0, 31)]
/-- X7_init StrangeWinding$State.<init>()V -/
def cd43 : List (Nat × Ent) := [(0, 4, 0, 0, z0, 1), (1, 44, 0, 0, z0, 4), (4, 4, 0, 0, z0, 5), (5, 0, 0, 0, vi (6), 7), (7, 40, 26, 0, z0, 9), (9, 30, 25, 0, z0, 12), (12, 4, 0, 0, z0, 13), (13, 0, 0, 0, vi (6), 15), (15, 40, 27, 0, z0, 17), (17, 30, 25, 1, z0, 20), (20, 4, 0, 0, z0, 21), (21, 0, 0, 0, vi (36), 23), (23, 40, 28, 0, z0, 25), (25, 30, 25, 2, z0, 28), (28, 35, 0, 0, z0, 29)]
/-- X7_begin StrangeWinding$State.begin(LStrangeWinding$Land;)V -/
def cd44 : List (Nat × Ent) := [(0, 4, 1, 0, z0, 1), (1, 29, 9, 4, z0, 4), (4, 0, 0, 0, z0, 5), (5, 4, 0, 0, z0, 6), (6, 29, 25, 0, z0, 9), (9, 0, 0, 0, z0, 10), (10, 0, 0, 0, vi (6), 12), (12, 46, 0, 0, z0, 15), (15, 4, 1, 0, z0, 16), (16, 29, 9, 5, z0, 19), (19, 0, 0, 0, z0, 20), (20, 4, 0, 0, z0, 21), (21, 29, 25, 1, z0, 24), (24, 0, 0, 0, z0, 25), (25, 0, 0, 0, vi (6), 27), (27, 46, 0, 0, z0, 30), (30, 4, 0, 0, z0, 31), (31, 29, 25, 2, z0, 34), (34, 0, 0, 0, z0, 35), (35, 34, 250, 2, z0, 38), (38, 4, 0, 0, z0, 39), (39, 0, 0, 0, z0, 40), (40, 30, 25, 3, z0, 43), (43, 4, 0, 0, z0, 44), (44, 0, 0, 0, z0, 45), (45, 30, 25, 4, z0, 48), (48, 4, 0, 0, z0, 49), (49, 0, 0, 0, z0, 50), (50, 30, 25, 5, z0, 53), (53, 4, 0, 0, z0, 54), (54, 0, 0, 0, z0, 55), (55, 30, 25, 6, z0, 58), (58, 35, 0, 0, z0, 59)]
/-- X7_copyFrom StrangeWinding$State.copyFrom(LStrangeWinding$State;)V -/
def cd45 : List (Nat × Ent) := [(0, 4, 1, 0, z0, 1), (1, 29, 25, 0, z0, 4), (4, 0, 0, 0, z0, 5), (5, 4, 0, 0, z0, 6), (6, 29, 25, 0, z0, 9), (9, 0, 0, 0, z0, 10), (10, 0, 0, 0, vi (6), 12), (12, 46, 0, 0, z0, 15), (15, 4, 1, 0, z0, 16), (16, 29, 25, 1, z0, 19), (19, 0, 0, 0, z0, 20), (20, 4, 0, 0, z0, 21), (21, 29, 25, 1, z0, 24), (24, 0, 0, 0, z0, 25), (25, 0, 0, 0, vi (6), 27), (27, 46, 0, 0, z0, 30), (30, 4, 1, 0, z0, 31), (31, 29, 25, 2, z0, 34), (34, 0, 0, 0, z0, 35), (35, 4, 0, 0, z0, 36), (36, 29, 25, 2, z0, 39), (39, 0, 0, 0, z0, 40), (40, 0, 0, 0, vi (36), 42), (42, 46, 0, 0, z0, 45), (45, 4, 0, 0, z0, 46), (46, 4, 1, 0, z0, 47), (47, 29, 25, 3, z0, 50), (50, 30, 25, 3, z0, 53), (53, 4, 0, 0, z0, 54), (54, 4, 1, 0, z0, 55), (55, 29, 25, 4, z0, 58), (58, 30, 25, 4, z0, 61), (61, 4, 0, 0, z0, 62), (62, 4, 1, 0, z0, 63), (63, 29, 25, 5, z0, 66), (66, 30, 25, 5, z0, 69), (69, 4, 0, 0, z0, 70), (70, 4, 1, 0, z0, 71), (71, 29, 25, 6, z0, 74), (74, 30, 25, 6, z0, 77), (77, 35, 0, 0, z0, 78)]
/-- X7_isSnapped StrangeWinding$State.isSnapped(I)Z -/
def cd46 : List (Nat × Ent) := [(0, 4, 0, 0, z0, 1), (1, 29, 25, 3, z0, 4), (4, 2, 1, 0, z0, 5), (5, 9, 7, 0, z0, 6), (6, 0, 0, 0, vi (1), 7), (7, 9, 3, 0, z0, 8), (8, 27, 0, 15, z0, 11), (11, 0, 0, 0, vi (1), 12), (12, 26, 16, 0, z0, 15), (15, 0, 0, 0, z0, 16), (16, 36, 2, 0, z0, 17)]
/-- X7_sits StrangeWinding$State.sits(I)Z -/
def cd47 : List (Nat × Ent) := [(0, 4, 0, 0, z0, 1), (1, 29, 25, 1, z0, 4), (4, 2, 1, 0, z0, 5), (5, 31, 1, 0, z0, 6), (6, 27, 0, 17, z0, 9), (9, 4, 0, 0, z0, 10), (10, 2, 1, 0, z0, 11), (11, 34, 46, 2, vr 25 0, 14), (14, 27, 0, 21, z0, 17), (17, 0, 0, 0, vi (1), 18), (18, 26, 22, 0, z0, 21), (21, 0, 0, 0, z0, 22), (22, 36, 2, 0, z0, 23)]
/-- X7_sitters StrangeWinding$State.sitters(LStrangeWinding$Land;)I -/
def cd48 : List (Nat × Ent) := [(0, 0, 0, 0, z0, 1), (1, 5, 2, 0, z0, 2), (2, 0, 0, 0, z0, 3), (3, 5, 3, 0, z0, 4), (4, 2, 3, 0, z0, 5), (5, 4, 1, 0, z0, 6), (6, 29, 9, 10, z0, 9), (9, 28, 3, 32, z0, 12), (12, 4, 0, 0, z0, 13), (13, 2, 3, 0, z0, 14), (14, 34, 47, 2, vr 25 0, 17), (17, 27, 0, 26, z0, 20), (20, 2, 2, 0, z0, 21), (21, 0, 0, 0, vi (1), 22), (22, 2, 3, 0, z0, 23), (23, 9, 6, 0, z0, 24), (24, 9, 4, 0, z0, 25), (25, 5, 2, 0, z0, 26), (26, 8, 3, 0, vi (1), 29), (29, 26, 4, 0, z0, 32), (32, 2, 2, 0, z0, 33), (33, 36, 1, 0, z0, 34)]
/-- X7_leftOfAll StrangeWinding$State.leftOfAll(LStrangeWinding$Land;)I -/
def cd49 : List (Nat × Ent) := [(0, 0, 0, 0, z0, 1), (1, 5, 2, 0, z0, 2), (2, 0, 0, 0, z0, 3), (3, 5, 3, 0, z0, 4), (4, 2, 3, 0, z0, 5), (5, 4, 1, 0, z0, 6), (6, 29, 9, 10, z0, 9), (9, 28, 3, 27, z0, 12), (12, 2, 2, 0, z0, 13), (13, 4, 0, 0, z0, 14), (14, 29, 25, 1, z0, 17), (17, 2, 3, 0, z0, 18), (18, 31, 1, 0, z0, 19), (19, 9, 0, 0, z0, 20), (20, 5, 2, 0, z0, 21), (21, 8, 3, 0, vi (1), 24), (24, 26, 4, 0, z0, 27), (27, 2, 2, 0, z0, 28), (28, 36, 1, 0, z0, 29)]
/-- X7_windingsOfTwo StrangeWinding$State.windingsOfTwo(II)I -/
def cd50 : List (Nat × Ent) := [(0, 4, 0, 0, z0, 1), (1, 29, 25, 2, z0, 4), (4, 2, 1, 0, z0, 5), (5, 0, 0, 0, vi (6), 7), (7, 9, 2, 0, z0, 8), (8, 2, 2, 0, z0, 9), (9, 9, 0, 0, z0, 10), (10, 31, 1, 0, z0, 11), (11, 4, 0, 0, z0, 12), (12, 29, 25, 2, z0, 15), (15, 2, 2, 0, z0, 16), (16, 0, 0, 0, vi (6), 18), (18, 9, 2, 0, z0, 19), (19, 2, 1, 0, z0, 20), (20, 9, 0, 0, z0, 21), (21, 31, 1, 0, z0, 22), (22, 9, 0, 0, z0, 23), (23, 36, 1, 0, z0, 24)]
/-- X7_areStrangers StrangeWinding$State.areStrangers(LStrangeWinding$Land;II)Z -/
def cd51 : List (Nat × Ent) := [(0, 2, 2, 0, z0, 1), (1, 2, 3, 0, z0, 2), (2, 28, 0, 35, z0, 5), (5, 4, 1, 0, z0, 6), (6, 29, 9, 6, z0, 9), (9, 2, 2, 0, z0, 10), (10, 31, 1, 0, z0, 11), (11, 2, 3, 0, z0, 12), (12, 9, 7, 0, z0, 13), (13, 0, 0, 0, vi (1), 14), (14, 9, 3, 0, z0, 15), (15, 27, 1, 35, z0, 18), (18, 4, 0, 0, z0, 19), (19, 2, 2, 0, z0, 20), (20, 2, 3, 0, z0, 21), (21, 34, 50, 3, vr 25 0, 24), (24, 4, 1, 0, z0, 25), (25, 29, 9, 11, z0, 28), (28, 28, 3, 35, z0, 31), (31, 0, 0, 0, vi (1), 32), (32, 26, 36, 0, z0, 35), (35, 0, 0, 0, z0, 36), (36, 36, 2, 0, z0, 37)]
/-- X7_strangersOf StrangeWinding$State.strangersOf(LStrangeWinding$Land;I)I -/
def cd52 : List (Nat × Ent) := [(0, 0, 0, 0, z0, 1), (1, 5, 3, 0, z0, 2), (2, 0, 0, 0, z0, 3), (3, 5, 4, 0, z0, 5), (5, 2, 4, 0, z0, 7), (7, 4, 1, 0, z0, 8), (8, 29, 9, 10, z0, 11), (11, 28, 3, 38, z0, 14), (14, 4, 0, 0, z0, 15), (15, 4, 1, 0, z0, 16), (16, 2, 2, 0, z0, 17), (17, 2, 4, 0, z0, 19), (19, 34, 51, 4, vr 25 0, 22), (22, 27, 0, 32, z0, 25), (25, 2, 3, 0, z0, 26), (26, 0, 0, 0, vi (1), 27), (27, 2, 4, 0, z0, 29), (29, 9, 6, 0, z0, 30), (30, 9, 4, 0, z0, 31), (31, 5, 3, 0, z0, 32), (32, 8, 4, 0, vi (1), 35), (35, 26, 5, 0, z0, 38), (38, 2, 3, 0, z0, 39), (39, 36, 1, 0, z0, 40)]
/-- X7_offeringIn StrangeWinding$State.offeringIn(LStrangeWinding$Land;II)I -/
def cd53 : List (Nat × Ent) := [(0, 0, 0, 0, z0, 1), (1, 5, 4, 0, z0, 3), (3, 0, 0, 0, z0, 4), (4, 5, 5, 0, z0, 6), (6, 2, 5, 0, z0, 8), (8, 4, 1, 0, z0, 9), (9, 29, 9, 10, z0, 12), (12, 28, 3, 72, z0, 15), (15, 4, 0, 0, z0, 16), (16, 29, 25, 0, z0, 19), (19, 2, 5, 0, z0, 21), (21, 31, 1, 0, z0, 22), (22, 2, 3, 0, z0, 23), (23, 28, 1, 66, z0, 26), (26, 4, 1, 0, z0, 27), (27, 29, 9, 3, z0, 30), (30, 2, 5, 0, z0, 32), (32, 31, 1, 0, z0, 33), (33, 0, 0, 0, vi (1), 34), (34, 28, 0, 66, z0, 37), (37, 4, 0, 0, z0, 38), (38, 2, 5, 0, z0, 40), (40, 34, 47, 2, vr 25 0, 43), (43, 27, 1, 66, z0, 46), (46, 4, 0, 0, z0, 47), (47, 4, 1, 0, z0, 48), (48, 2, 2, 0, z0, 49), (49, 2, 5, 0, z0, 51), (51, 34, 51, 4, vr 25 0, 54), (54, 27, 0, 66, z0, 57), (57, 2, 4, 0, z0, 59), (59, 0, 0, 0, vi (1), 60), (60, 2, 5, 0, z0, 62), (62, 9, 6, 0, z0, 63), (63, 9, 4, 0, z0, 64), (64, 5, 4, 0, z0, 66), (66, 8, 5, 0, vi (1), 69), (69, 26, 6, 0, z0, 72), (72, 2, 4, 0, z0, 74), (74, 36, 1, 0, z0, 75)]
/-- X7_canWalk StrangeWinding$State.canWalk(LStrangeWinding$Land;II)Z -/
def cd54 : List (Nat × Ent) := [(0, 4, 0, 0, z0, 1), (1, 2, 2, 0, z0, 2), (2, 34, 47, 2, vr 25 0, 5), (5, 27, 1, 30, z0, 8), (8, 4, 1, 0, z0, 9), (9, 29, 9, 1, z0, 12), (12, 4, 0, 0, z0, 13), (13, 29, 25, 0, z0, 16), (16, 2, 2, 0, z0, 17), (17, 31, 1, 0, z0, 18), (18, 31, 1, 0, z0, 19), (19, 2, 3, 0, z0, 20), (20, 9, 7, 0, z0, 21), (21, 0, 0, 0, vi (1), 22), (22, 9, 3, 0, z0, 23), (23, 27, 0, 30, z0, 26), (26, 0, 0, 0, vi (1), 27), (27, 26, 31, 0, z0, 30), (30, 0, 0, 0, z0, 31), (31, 36, 2, 0, z0, 32)]
/-- X7_walkIfCan StrangeWinding$State.walkIfCan(LStrangeWinding$Land;II)Z -/
def cd55 : List (Nat × Ent) := [(0, 4, 0, 0, z0, 1), (1, 4, 1, 0, z0, 2), (2, 2, 2, 0, z0, 3), (3, 2, 3, 0, z0, 4), (4, 34, 54, 4, vr 25 0, 7), (7, 27, 1, 12, z0, 10), (10, 0, 0, 0, z0, 11), (11, 36, 2, 0, z0, 12), (12, 4, 0, 0, z0, 13), (13, 29, 25, 0, z0, 16), (16, 2, 2, 0, z0, 17), (17, 2, 3, 0, z0, 18), (18, 32, 1, 0, z0, 19), (19, 0, 0, 0, vi (1), 20), (20, 36, 2, 0, z0, 21)]
/-- X7_canWind StrangeWinding$State.canWind(LStrangeWinding$Land;II)Z -/
def cd56 : List (Nat × Ent) := [(0, 4, 0, 0, z0, 1), (1, 29, 25, 0, z0, 4), (4, 2, 2, 0, z0, 5), (5, 31, 1, 0, z0, 6), (6, 4, 0, 0, z0, 7), (7, 29, 25, 0, z0, 10), (10, 2, 3, 0, z0, 11), (11, 31, 1, 0, z0, 12), (12, 28, 1, 65, z0, 15), (15, 4, 1, 0, z0, 16), (16, 29, 9, 3, z0, 19), (19, 2, 2, 0, z0, 20), (20, 31, 1, 0, z0, 21), (21, 0, 0, 0, vi (1), 22), (22, 28, 0, 65, z0, 25), (25, 4, 0, 0, z0, 26), (26, 2, 2, 0, z0, 27), (27, 34, 47, 2, vr 25 0, 30), (30, 27, 1, 65, z0, 33), (33, 4, 1, 0, z0, 34), (34, 29, 9, 3, z0, 37), (37, 2, 3, 0, z0, 38), (38, 31, 1, 0, z0, 39), (39, 0, 0, 0, vi (3), 40), (40, 28, 0, 65, z0, 43), (43, 4, 0, 0, z0, 44), (44, 2, 3, 0, z0, 45), (45, 34, 46, 2, vr 25 0, 48), (48, 27, 1, 65, z0, 51), (51, 4, 0, 0, z0, 52), (52, 4, 1, 0, z0, 53), (53, 2, 2, 0, z0, 54), (54, 2, 3, 0, z0, 55), (55, 34, 51, 4, vr 25 0, 58), (58, 27, 0, 65, z0, 61), (61, 0, 0, 0, vi (1), 62), (62, 26, 66, 0, z0, 65), (65, 0, 0, 0, z0, 66), (66, 36, 2, 0, z0, 67)]
/-- X7_crowdAround StrangeWinding$State.crowdAround(LStrangeWinding$Land;II)I -/
def cd57 : List (Nat × Ent) := [(0, 0, 0, 0, z0, 1), (1, 5, 4, 0, z0, 3), (3, 0, 0, 0, z0, 4), (4, 5, 5, 0, z0, 6), (6, 2, 5, 0, z0, 8), (8, 4, 1, 0, z0, 9), (9, 29, 9, 10, z0, 12), (12, 28, 3, 52, z0, 15), (15, 2, 5, 0, z0, 17), (17, 2, 2, 0, z0, 18), (18, 28, 0, 46, z0, 21), (21, 2, 5, 0, z0, 23), (23, 2, 3, 0, z0, 24), (24, 28, 0, 46, z0, 27), (27, 4, 0, 0, z0, 28), (28, 29, 25, 0, z0, 31), (31, 2, 5, 0, z0, 33), (33, 31, 1, 0, z0, 34), (34, 4, 0, 0, z0, 35), (35, 29, 25, 0, z0, 38), (38, 2, 3, 0, z0, 39), (39, 31, 1, 0, z0, 40), (40, 28, 1, 46, z0, 43), (43, 8, 4, 0, vi (1), 46), (46, 8, 5, 0, vi (1), 49), (49, 26, 6, 0, z0, 52), (52, 2, 4, 0, z0, 54), (54, 36, 1, 0, z0, 55)]
/-- X7_hoursGiven StrangeWinding$State.hoursGiven(LStrangeWinding$Land;III)I -/
def cd58 : List (Nat × Ent) := [(0, 4, 1, 0, z0, 1), (1, 2, 4, 0, z0, 3), (3, 4, 0, 0, z0, 4), (4, 29, 25, 1, z0, 7), (7, 2, 2, 0, z0, 8), (8, 31, 1, 0, z0, 9), (9, 4, 0, 0, z0, 10), (10, 2, 2, 0, z0, 11), (11, 2, 3, 0, z0, 12), (12, 34, 50, 3, vr 25 0, 15), (15, 4, 0, 0, z0, 16), (16, 4, 1, 0, z0, 17), (17, 2, 2, 0, z0, 18), (18, 2, 3, 0, z0, 19), (19, 34, 57, 4, vr 25 0, 22), (22, 34, 7, 5, vr 9 0, 25), (25, 5, 5, 0, z0, 27), (27, 0, 0, 0, z0, 28), (28, 0, 0, 0, vi (40), 30), (30, 2, 5, 0, z0, 32), (32, 48, 0, 0, z0, 35), (35, 47, 0, 0, z0, 38), (38, 5, 6, 0, z0, 40), (40, 4, 1, 0, z0, 41), (41, 29, 9, 3, z0, 44), (44, 2, 2, 0, z0, 45), (45, 31, 1, 0, z0, 46), (46, 0, 0, 0, vi (2), 47), (47, 28, 1, 57, z0, 50), (50, 2, 6, 0, z0, 52), (52, 0, 0, 0, vi (2), 53), (53, 10, 0, 0, z0, 54), (54, 26, 59, 0, z0, 57), (57, 2, 6, 0, z0, 59), (59, 36, 1, 0, z0, 60)]
/-- X7_turn StrangeWinding$State.turn(LStrangeWinding$Land;II)V -/
def cd59 : List (Nat × Ent) := [(0, 4, 0, 0, z0, 1), (1, 29, 25, 1, z0, 4), (4, 2, 3, 0, z0, 5), (5, 24, 0, 0, z0, 6), (6, 31, 1, 0, z0, 7), (7, 4, 0, 0, z0, 8), (8, 4, 1, 0, z0, 9), (9, 2, 2, 0, z0, 10), (10, 2, 3, 0, z0, 11), (11, 4, 0, 0, z0, 12), (12, 29, 25, 1, z0, 15), (15, 2, 3, 0, z0, 16), (16, 31, 1, 0, z0, 17), (17, 34, 58, 5, vr 25 0, 20), (20, 9, 0, 0, z0, 21), (21, 32, 1, 0, z0, 22), (22, 4, 0, 0, z0, 23), (23, 29, 25, 1, z0, 26), (26, 2, 3, 0, z0, 27), (27, 31, 1, 0, z0, 28), (28, 4, 1, 0, z0, 29), (29, 29, 9, 12, z0, 32), (32, 28, 5, 64, z0, 35), (35, 4, 0, 0, z0, 36), (36, 29, 25, 1, z0, 39), (39, 2, 3, 0, z0, 40), (40, 0, 0, 0, z0, 41), (41, 32, 1, 0, z0, 42), (42, 4, 0, 0, z0, 43), (43, 23, 0, 0, z0, 44), (44, 29, 25, 3, z0, 47), (47, 0, 0, 0, vi (1), 48), (48, 2, 3, 0, z0, 49), (49, 9, 6, 0, z0, 50), (50, 9, 4, 0, z0, 51), (51, 30, 25, 3, z0, 54), (54, 4, 0, 0, z0, 55), (55, 23, 0, 0, z0, 56), (56, 29, 25, 6, z0, 59), (59, 0, 0, 0, vi (1), 60), (60, 9, 0, 0, z0, 61), (61, 30, 25, 6, z0, 64), (64, 4, 0, 0, z0, 65), (65, 29, 25, 2, z0, 68), (68, 2, 2, 0, z0, 69), (69, 0, 0, 0, vi (6), 71), (71, 9, 2, 0, z0, 72), (72, 2, 3, 0, z0, 73), (73, 9, 0, 0, z0, 74), (74, 24, 0, 0, z0, 75), (75, 31, 1, 0, z0, 76), (76, 0, 0, 0, vi (1), 77), (77, 9, 0, 0, z0, 78), (78, 32, 1, 0, z0, 79), (79, 4, 0, 0, z0, 80), (80, 23, 0, 0, z0, 81), (81, 29, 25, 5, z0, 84), (84, 0, 0, 0, vi (1), 85), (85, 9, 0, 0, z0, 86), (86, 30, 25, 5, z0, 89), (89, 35, 0, 0, z0, 90)]
/-- X7_repair StrangeWinding$State.repair(I)V -/
def cd60 : List (Nat × Ent) := [(0, 4, 0, 0, z0, 1), (1, 23, 0, 0, z0, 2), (2, 29, 25, 3, z0, 5), (5, 0, 0, 0, vi (1), 6), (6, 2, 1, 0, z0, 7), (7, 9, 6, 0, z0, 8), (8, 0, 0, 0, vi (-1), 9), (9, 9, 5, 0, z0, 10), (10, 9, 3, 0, z0, 11), (11, 30, 25, 3, z0, 14), (14, 4, 0, 0, z0, 15), (15, 29, 25, 1, z0, 18), (18, 2, 1, 0, z0, 19), (19, 0, 0, 0, vi (1), 20), (20, 32, 1, 0, z0, 21), (21, 35, 0, 0, z0, 22)]
/-- X7_passHour StrangeWinding$State.passHour(LStrangeWinding$Land;)I -/
def cd61 : List (Nat × Ent) := [(0, 4, 0, 0, z0, 1), (1, 29, 25, 5, z0, 4), (4, 5, 2, 0, z0, 5), (5, 0, 0, 0, z0, 6), (6, 5, 3, 0, z0, 7), (7, 2, 3, 0, z0, 8), (8, 4, 1, 0, z0, 9), (9, 29, 9, 10, z0, 12), (12, 28, 3, 102, z0, 15), (15, 2, 3, 0, z0, 16), (16, 0, 0, 0, vi (1), 17), (17, 9, 0, 0, z0, 18), (18, 5, 4, 0, z0, 20), (20, 2, 4, 0, z0, 22), (22, 4, 1, 0, z0, 23), (23, 29, 9, 10, z0, 26), (26, 28, 3, 96, z0, 29), (29, 4, 0, 0, z0, 30), (30, 29, 25, 1, z0, 33), (33, 2, 4, 0, z0, 35), (35, 31, 1, 0, z0, 36), (36, 0, 0, 0, vi (10), 38), (38, 28, 3, 60, z0, 41), (41, 4, 0, 0, z0, 42), (42, 4, 1, 0, z0, 43), (43, 2, 3, 0, z0, 44), (44, 2, 4, 0, z0, 46), (46, 34, 56, 4, vr 25 0, 49), (49, 27, 0, 60, z0, 52), (52, 4, 0, 0, z0, 53), (53, 4, 1, 0, z0, 54), (54, 2, 3, 0, z0, 55), (55, 2, 4, 0, z0, 57), (57, 34, 59, 4, vr 25 0, 60), (60, 4, 0, 0, z0, 61), (61, 29, 25, 1, z0, 64), (64, 2, 3, 0, z0, 65), (65, 31, 1, 0, z0, 66), (66, 0, 0, 0, vi (10), 68), (68, 28, 3, 90, z0, 71), (71, 4, 0, 0, z0, 72), (72, 4, 1, 0, z0, 73), (73, 2, 4, 0, z0, 75), (75, 2, 3, 0, z0, 76), (76, 34, 56, 4, vr 25 0, 79), (79, 27, 0, 90, z0, 82), (82, 4, 0, 0, z0, 83), (83, 4, 1, 0, z0, 84), (84, 2, 4, 0, z0, 86), (86, 2, 3, 0, z0, 87), (87, 34, 59, 4, vr 25 0, 90), (90, 8, 4, 0, vi (1), 93), (93, 26, 20, 0, z0, 96), (96, 8, 3, 0, vi (1), 99), (99, 26, 7, 0, z0, 102), (102, 0, 0, 0, z0, 103), (103, 5, 3, 0, z0, 104), (104, 2, 3, 0, z0, 105), (105, 4, 1, 0, z0, 106), (106, 29, 9, 10, z0, 109), (109, 28, 3, 136, z0, 112), (112, 4, 0, 0, z0, 113), (113, 29, 25, 1, z0, 116), (116, 2, 3, 0, z0, 117), (117, 0, 0, 0, z0, 118), (118, 4, 0, 0, z0, 119), (119, 29, 25, 1, z0, 122), (122, 2, 3, 0, z0, 123), (123, 31, 1, 0, z0, 124), (124, 0, 0, 0, vi (1), 125), (125, 9, 1, 0, z0, 126), (126, 47, 0, 0, z0, 129), (129, 32, 1, 0, z0, 130), (130, 8, 3, 0, vi (1), 133), (133, 26, 104, 0, z0, 136), (136, 4, 0, 0, z0, 137), (137, 23, 0, 0, z0, 138), (138, 29, 25, 4, z0, 141), (141, 0, 0, 0, vi (1), 142), (142, 9, 0, 0, z0, 143), (143, 30, 25, 4, z0, 146), (146, 4, 0, 0, z0, 147), (147, 29, 25, 5, z0, 150), (150, 2, 2, 0, z0, 151), (151, 9, 1, 0, z0, 152), (152, 36, 1, 0, z0, 153)]
/-- X8_init StrangeWinding$Tally.<init>()V -/
def cd62 : List (Nat × Ent) := [(0, 4, 0, 0, z0, 1), (1, 44, 0, 0, z0, 4), (4, 4, 0, 0, z0, 5), (5, 0, 0, 0, vi (6), 7), (7, 40, 36, 0, z0, 9), (9, 30, 35, 0, z0, 12), (12, 35, 0, 0, z0, 13)]
/-- X8_gather StrangeWinding$Tally.gather(LStrangeWinding$Land;LStrangeWinding$State;II)V -/
def cd63 : List (Nat × Ent) := [(0, 4, 2, 0, z0, 1), (1, 4, 1, 0, z0, 2), (2, 2, 3, 0, z0, 3), (3, 4, 2, 0, z0, 4), (4, 29, 25, 0, z0, 7), (7, 2, 3, 0, z0, 8), (8, 31, 1, 0, z0, 9), (9, 34, 53, 4, vr 25 0, 12), (12, 5, 5, 0, z0, 14), (14, 4, 0, 0, z0, 15), (15, 29, 35, 0, z0, 18), (18, 0, 0, 0, z0, 19), (19, 34, 250, 2, z0, 22), (22, 4, 0, 0, z0, 23), (23, 0, 0, 0, z0, 24), (24, 30, 35, 1, z0, 27), (27, 4, 0, 0, z0, 28), (28, 2, 5, 0, z0, 30), (30, 30, 35, 2, z0, 33), (33, 4, 0, 0, z0, 34), (34, 0, 0, 0, z0, 35), (35, 30, 35, 3, z0, 38), (38, 0, 0, 0, z0, 39), (39, 5, 6, 0, z0, 41), (41, 2, 6, 0, z0, 43), (43, 2, 5, 0, z0, 45), (45, 28, 4, 101, z0, 48), (48, 2, 6, 0, z0, 50), (50, 2, 5, 0, z0, 52), (52, 0, 0, 0, vi (-1), 53), (53, 9, 5, 0, z0, 54), (54, 9, 3, 0, z0, 55), (55, 27, 1, 62, z0, 58), (58, 0, 0, 0, vi (1), 59), (59, 26, 63, 0, z0, 62), (62, 0, 0, 0, z0, 63), (63, 5, 7, 0, z0, 65), (65, 2, 7, 0, z0, 67), (67, 27, 0, 95, z0, 70), (70, 2, 4, 0, z0, 72), (72, 0, 0, 0, vi (-1), 73), (73, 28, 0, 89, z0, 76), (76, 2, 4, 0, z0, 78), (78, 4, 1, 0, z0, 79), (79, 4, 2, 0, z0, 80), (80, 2, 3, 0, z0, 81), (81, 2, 6, 0, z0, 83), (83, 34, 64, 4, z0, 86), (86, 28, 1, 95, z0, 89), (89, 4, 0, 0, z0, 90), (90, 2, 6, 0, z0, 92), (92, 34, 65, 2, vr 35 0, 95), (95, 8, 6, 0, vi (1), 98), (98, 26, 41, 0, z0, 101), (101, 35, 0, 0, z0, 102)]
/-- X8_leftBy StrangeWinding$Tally.leftBy(LStrangeWinding$Land;LStrangeWinding$State;II)I -/
def cd64 : List (Nat × Ent) := [(0, 4, 1, 0, z0, 1), (1, 29, 25, 1, z0, 4), (4, 2, 2, 0, z0, 5), (5, 31, 1, 0, z0, 6), (6, 5, 4, 0, z0, 8), (8, 4, 1, 0, z0, 9), (9, 2, 2, 0, z0, 10), (10, 34, 46, 2, vr 25 0, 13), (13, 5, 5, 0, z0, 15), (15, 0, 0, 0, z0, 16), (16, 5, 6, 0, z0, 18), (18, 2, 6, 0, z0, 20), (20, 4, 0, 0, z0, 21), (21, 29, 9, 10, z0, 24), (24, 28, 3, 78, z0, 27), (27, 2, 3, 0, z0, 28), (28, 2, 6, 0, z0, 30), (30, 9, 7, 0, z0, 31), (31, 0, 0, 0, vi (1), 32), (32, 9, 3, 0, z0, 33), (33, 27, 0, 72, z0, 36), (36, 2, 5, 0, z0, 38), (38, 27, 1, 72, z0, 41), (41, 2, 4, 0, z0, 43), (43, 4, 1, 0, z0, 44), (44, 4, 0, 0, z0, 45), (45, 2, 6, 0, z0, 47), (47, 2, 2, 0, z0, 48), (48, 2, 4, 0, z0, 50), (50, 34, 58, 5, vr 25 0, 53), (53, 9, 0, 0, z0, 54), (54, 5, 4, 0, z0, 56), (56, 2, 4, 0, z0, 58), (58, 4, 0, 0, z0, 59), (59, 29, 9, 12, z0, 62), (62, 28, 5, 69, z0, 65), (65, 0, 0, 0, vi (1), 66), (66, 26, 70, 0, z0, 69), (69, 0, 0, 0, z0, 70), (70, 5, 5, 0, z0, 72), (72, 8, 6, 0, vi (1), 75), (75, 26, 18, 0, z0, 78), (78, 2, 5, 0, z0, 80), (80, 27, 0, 87, z0, 83), (83, 0, 0, 0, z0, 84), (84, 26, 89, 0, z0, 87), (87, 2, 4, 0, z0, 89), (89, 36, 1, 0, z0, 90)]
/-- X8_addSet StrangeWinding$Tally.addSet(I)V -/
def cd65 : List (Nat × Ent) := [(0, 4, 0, 0, z0, 1), (1, 23, 0, 0, z0, 2), (2, 29, 35, 1, z0, 5), (5, 0, 0, 0, vi (1), 6), (6, 9, 0, 0, z0, 7), (7, 30, 35, 1, z0, 10), (10, 4, 0, 0, z0, 11), (11, 23, 0, 0, z0, 12), (12, 29, 35, 2, z0, 15), (15, 2, 1, 0, z0, 16), (16, 9, 3, 0, z0, 17), (17, 30, 35, 2, z0, 20), (20, 4, 0, 0, z0, 21), (21, 23, 0, 0, z0, 22), (22, 29, 35, 3, z0, 25), (25, 2, 1, 0, z0, 26), (26, 9, 4, 0, z0, 27), (27, 30, 35, 3, z0, 30), (30, 0, 0, 0, z0, 31), (31, 5, 2, 0, z0, 32), (32, 2, 2, 0, z0, 33), (33, 0, 0, 0, vi (6), 35), (35, 28, 3, 58, z0, 38), (38, 4, 0, 0, z0, 39), (39, 29, 35, 0, z0, 42), (42, 2, 2, 0, z0, 43), (43, 24, 0, 0, z0, 44), (44, 31, 1, 0, z0, 45), (45, 2, 1, 0, z0, 46), (46, 2, 2, 0, z0, 47), (47, 9, 7, 0, z0, 48), (48, 0, 0, 0, vi (1), 49), (49, 9, 3, 0, z0, 50), (50, 9, 0, 0, z0, 51), (51, 32, 1, 0, z0, 52), (52, 8, 2, 0, vi (1), 55), (55, 26, 32, 0, z0, 58), (58, 35, 0, 0, z0, 59)]
/-- X9_init StrangeWinding$Tape.<init>()V -/
def cd66 : List (Nat × Ent) := [(0, 4, 0, 0, z0, 1), (1, 44, 0, 0, z0, 4), (4, 4, 0, 0, z0, 5), (5, 0, 0, 0, vi (1000), 8), (8, 40, 6, 0, z0, 10), (10, 30, 5, 0, z0, 13), (13, 35, 0, 0, z0, 14)]
/-- X9_addBytes StrangeWinding$Tape.addBytes(J)V -/
def cd67 : List (Nat × Ent) := [(0, 0, 0, 0, vi (56), 2), (2, 5, 3, 0, z0, 3), (3, 2, 3, 0, z0, 4), (4, 27, 2, 76, z0, 7), (7, 3, 1, 0, z0, 8), (8, 2, 3, 0, z0, 9), (9, 15, 0, 0, z0, 10), (10, 20, 0, 0, z0, 11), (11, 0, 0, 0, vi (255), 14), (14, 9, 3, 0, z0, 15), (15, 5, 4, 0, z0, 17), (17, 2, 4, 0, z0, 19), (19, 0, 0, 0, vi (10), 21), (21, 28, 0, 38, z0, 24), (24, 2, 4, 0, z0, 26), (26, 0, 0, 0, vi (32), 28), (28, 28, 2, 70, z0, 31), (31, 2, 4, 0, z0, 33), (33, 0, 0, 0, vi (126), 35), (35, 28, 4, 70, z0, 38), (38, 4, 0, 0, z0, 39), (39, 29, 5, 1, z0, 42), (42, 0, 0, 0, vi (1000), 45), (45, 28, 3, 70, z0, 48), (48, 4, 0, 0, z0, 49), (49, 29, 5, 0, z0, 52), (52, 4, 0, 0, z0, 53), (53, 29, 5, 1, z0, 56), (56, 2, 4, 0, z0, 58), (58, 21, 0, 0, z0, 59), (59, 32, 2, 0, z0, 60), (60, 4, 0, 0, z0, 61), (61, 23, 0, 0, z0, 62), (62, 29, 5, 1, z0, 65), (65, 0, 0, 0, vi (1), 66), (66, 9, 0, 0, z0, 67), (67, 30, 5, 1, z0, 70), (70, 8, 3, 0, vi (-8), 73), (73, 26, 3, 0, z0, 76), (76, 35, 0, 0, z0, 77)]
/-- X9_open StrangeWinding$Tape.open()V -/
def cd68 : List (Nat × Ent) := [(0, 4, 0, 0, z0, 1), (1, 0, 0, 0, z0, 2), (2, 30, 5, 4, z0, 5), (5, 4, 0, 0, z0, 6), (6, 0, 0, 0, z0, 7), (7, 30, 5, 7, z0, 10), (10, 4, 0, 0, z0, 11), (11, 34, 69, 1, vr 5 0, 14), (14, 35, 0, 0, z0, 15)]
/-- X9_next StrangeWinding$Tape.next()V -/
def cd69 : List (Nat × Ent) := [(0, 4, 0, 0, z0, 1), (1, 4, 0, 0, z0, 2), (2, 29, 5, 4, z0, 5), (5, 30, 5, 3, z0, 8), (8, 4, 0, 0, z0, 9), (9, 29, 5, 3, z0, 12), (12, 4, 0, 0, z0, 13), (13, 29, 5, 1, z0, 16), (16, 28, 3, 60, z0, 19), (19, 4, 0, 0, z0, 20), (20, 29, 5, 0, z0, 23), (23, 4, 0, 0, z0, 24), (24, 29, 5, 3, z0, 27), (27, 31, 2, 0, z0, 28), (28, 0, 0, 0, vi (10), 30), (30, 28, 0, 47, z0, 33), (33, 4, 0, 0, z0, 34), (34, 29, 5, 0, z0, 37), (37, 4, 0, 0, z0, 38), (38, 29, 5, 3, z0, 41), (41, 31, 2, 0, z0, 42), (42, 0, 0, 0, vi (32), 44), (44, 28, 1, 60, z0, 47), (47, 4, 0, 0, z0, 48), (48, 23, 0, 0, z0, 49), (49, 29, 5, 3, z0, 52), (52, 0, 0, 0, vi (1), 53), (53, 9, 0, 0, z0, 54), (54, 30, 5, 3, z0, 57), (57, 26, 8, 0, z0, 60), (60, 4, 0, 0, z0, 61), (61, 4, 0, 0, z0, 62), (62, 29, 5, 3, z0, 65), (65, 30, 5, 4, z0, 68), (68, 4, 0, 0, z0, 69), (69, 29, 5, 3, z0, 72), (72, 4, 0, 0, z0, 73), (73, 29, 5, 1, z0, 76), (76, 28, 2, 87, z0, 79), (79, 4, 0, 0, z0, 80), (80, 0, 0, 0, z0, 81), (81, 30, 5, 2, z0, 84), (84, 26, 180, 0, z0, 87), (87, 4, 0, 0, z0, 88), (88, 29, 5, 0, z0, 91), (91, 4, 0, 0, z0, 92), (92, 29, 5, 3, z0, 95), (95, 31, 2, 0, z0, 96), (96, 34, 72, 1, z0, 99), (99, 27, 0, 109, z0, 102), (102, 4, 0, 0, z0, 103), (103, 34, 70, 1, vr 5 0, 106), (106, 26, 180, 0, z0, 109), (109, 4, 0, 0, z0, 110), (110, 29, 5, 0, z0, 113), (113, 4, 0, 0, z0, 114), (114, 29, 5, 3, z0, 117), (117, 31, 2, 0, z0, 118), (118, 34, 73, 1, z0, 121), (121, 27, 0, 131, z0, 124), (124, 4, 0, 0, z0, 125), (125, 34, 71, 1, vr 5 0, 128), (128, 26, 180, 0, z0, 131), (131, 4, 0, 0, z0, 132), (132, 0, 0, 0, vr 90 0, 134), (134, 4, 0, 0, z0, 135), (135, 29, 5, 0, z0, 138), (138, 4, 0, 0, z0, 139), (139, 29, 5, 3, z0, 142), (142, 31, 2, 0, z0, 143), (143, 34, 241, 2, vr 90 0, 146), (146, 27, 2, 153, z0, 149), (149, 0, 0, 0, vi (3), 150), (150, 26, 154, 0, z0, 153), (153, 0, 0, 0, vi (4), 154), (154, 30, 5, 2, z0, 157), (157, 4, 0, 0, z0, 158), (158, 4, 0, 0, z0, 159), (159, 29, 5, 0, z0, 162), (162, 4, 0, 0, z0, 163), (163, 29, 5, 3, z0, 166), (166, 31, 2, 0, z0, 167), (167, 30, 5, 5, z0, 170), (170, 4, 0, 0, z0, 171), (171, 4, 0, 0, z0, 172), (172, 29, 5, 3, z0, 175), (175, 0, 0, 0, vi (1), 176), (176, 9, 0, 0, z0, 177), (177, 30, 5, 4, z0, 180), (180, 35, 0, 0, z0, 181)]
/-- X9_scanWord StrangeWinding$Tape.scanWord()V -/
def cd70 : List (Nat × Ent) := [(0, 4, 0, 0, z0, 1), (1, 0, 0, 0, vl (0), 2), (2, 30, 5, 6, z0, 5), (5, 4, 0, 0, z0, 6), (6, 29, 5, 4, z0, 9), (9, 4, 0, 0, z0, 10), (10, 29, 5, 1, z0, 13), (13, 28, 3, 72, z0, 16), (16, 4, 0, 0, z0, 17), (17, 29, 5, 0, z0, 20), (20, 4, 0, 0, z0, 21), (21, 29, 5, 4, z0, 24), (24, 31, 2, 0, z0, 25), (25, 34, 72, 1, z0, 28), (28, 27, 0, 72, z0, 31), (31, 4, 0, 0, z0, 32), (32, 4, 0, 0, z0, 33), (33, 29, 5, 6, z0, 36), (36, 0, 0, 0, vl (32), 39), (39, 13, 2, 0, z0, 40), (40, 4, 0, 0, z0, 41), (41, 29, 5, 0, z0, 44), (44, 4, 0, 0, z0, 45), (45, 29, 5, 4, z0, 48), (48, 31, 2, 0, z0, 49), (49, 0, 0, 0, vi (97), 51), (51, 9, 1, 0, z0, 52), (52, 0, 0, 0, vi (1), 53), (53, 9, 0, 0, z0, 54), (54, 19, 0, 0, z0, 55), (55, 13, 0, 0, z0, 56), (56, 30, 5, 6, z0, 59), (59, 4, 0, 0, z0, 60), (60, 23, 0, 0, z0, 61), (61, 29, 5, 4, z0, 64), (64, 0, 0, 0, vi (1), 65), (65, 9, 0, 0, z0, 66), (66, 30, 5, 4, z0, 69), (69, 26, 5, 0, z0, 72), (72, 4, 0, 0, z0, 73), (73, 4, 0, 0, z0, 74), (74, 29, 5, 4, z0, 77), (77, 4, 0, 0, z0, 78), (78, 29, 5, 3, z0, 81), (81, 9, 1, 0, z0, 82), (82, 0, 0, 0, vi (8), 84), (84, 28, 4, 91, z0, 87), (87, 0, 0, 0, vi (1), 88), (88, 26, 92, 0, z0, 91), (91, 0, 0, 0, vi (4), 92), (92, 30, 5, 2, z0, 95), (95, 35, 0, 0, z0, 96)]
/-- X9_scanNumber StrangeWinding$Tape.scanNumber()V -/
def cd71 : List (Nat × Ent) := [(0, 4, 0, 0, z0, 1), (1, 0, 0, 0, z0, 2), (2, 30, 5, 5, z0, 5), (5, 4, 0, 0, z0, 6), (6, 29, 5, 4, z0, 9), (9, 4, 0, 0, z0, 10), (10, 29, 5, 1, z0, 13), (13, 28, 3, 68, z0, 16), (16, 4, 0, 0, z0, 17), (17, 29, 5, 0, z0, 20), (20, 4, 0, 0, z0, 21), (21, 29, 5, 4, z0, 24), (24, 31, 2, 0, z0, 25), (25, 34, 73, 1, z0, 28), (28, 27, 0, 68, z0, 31), (31, 4, 0, 0, z0, 32), (32, 4, 0, 0, z0, 33), (33, 29, 5, 5, z0, 36), (36, 0, 0, 0, vi (10), 38), (38, 9, 2, 0, z0, 39), (39, 4, 0, 0, z0, 40), (40, 29, 5, 0, z0, 43), (43, 4, 0, 0, z0, 44), (44, 29, 5, 4, z0, 47), (47, 31, 2, 0, z0, 48), (48, 0, 0, 0, vi (48), 50), (50, 9, 1, 0, z0, 51), (51, 9, 0, 0, z0, 52), (52, 30, 5, 5, z0, 55), (55, 4, 0, 0, z0, 56), (56, 23, 0, 0, z0, 57), (57, 29, 5, 4, z0, 60), (60, 0, 0, 0, vi (1), 61), (61, 9, 0, 0, z0, 62), (62, 30, 5, 4, z0, 65), (65, 26, 5, 0, z0, 68), (68, 4, 0, 0, z0, 69), (69, 4, 0, 0, z0, 70), (70, 29, 5, 4, z0, 73), (73, 4, 0, 0, z0, 74), (74, 29, 5, 3, z0, 77), (77, 9, 1, 0, z0, 78), (78, 0, 0, 0, vi (4), 79), (79, 28, 4, 86, z0, 82), (82, 0, 0, 0, vi (2), 83), (83, 26, 87, 0, z0, 86), (86, 0, 0, 0, vi (4), 87), (87, 30, 5, 2, z0, 90), (90, 35, 0, 0, z0, 91)]
/-- X9_isLetter StrangeWinding$Tape.isLetter(C)Z -/
def cd72 : List (Nat × Ent) := [(0, 2, 0, 0, z0, 1), (1, 0, 0, 0, vi (97), 3), (3, 28, 2, 16, z0, 6), (6, 2, 0, 0, z0, 7), (7, 0, 0, 0, vi (122), 9), (9, 28, 4, 16, z0, 12), (12, 0, 0, 0, vi (1), 13), (13, 26, 17, 0, z0, 16), (16, 0, 0, 0, z0, 17), (17, 36, 2, 0, z0, 18)]
/-- X9_isDigit StrangeWinding$Tape.isDigit(C)Z -/
def cd73 : List (Nat × Ent) := [(0, 2, 0, 0, z0, 1), (1, 0, 0, 0, vi (48), 3), (3, 28, 2, 16, z0, 6), (6, 2, 0, 0, z0, 7), (7, 0, 0, 0, vi (57), 9), (9, 28, 4, 16, z0, 12), (12, 0, 0, 0, vi (1), 13), (13, 26, 17, 0, z0, 16), (16, 0, 0, 0, z0, 17), (17, 36, 2, 0, z0, 18)]
/-- X9_isWord StrangeWinding$Tape.isWord(Ljava/lang/String;)Z -/
def cd74 : List (Nat × Ent) := [(0, 4, 0, 0, z0, 1), (1, 29, 5, 2, z0, 4), (4, 0, 0, 0, vi (1), 5), (5, 28, 1, 24, z0, 8), (8, 4, 0, 0, z0, 9), (9, 29, 5, 4, z0, 12), (12, 4, 0, 0, z0, 13), (13, 29, 5, 3, z0, 16), (16, 9, 1, 0, z0, 17), (17, 4, 1, 0, z0, 18), (18, 34, 239, 1, vr 90 0, 21), (21, 28, 0, 26, z0, 24), (24, 0, 0, 0, z0, 25), (25, 36, 2, 0, z0, 26), (26, 0, 0, 0, z0, 27), (27, 5, 2, 0, z0, 28), (28, 2, 2, 0, z0, 29), (29, 4, 1, 0, z0, 30), (30, 34, 239, 1, vr 90 0, 33), (33, 28, 3, 63, z0, 36), (36, 4, 0, 0, z0, 37), (37, 29, 5, 0, z0, 40), (40, 4, 0, 0, z0, 41), (41, 29, 5, 3, z0, 44), (44, 2, 2, 0, z0, 45), (45, 9, 0, 0, z0, 46), (46, 31, 2, 0, z0, 47), (47, 4, 1, 0, z0, 48), (48, 2, 2, 0, z0, 49), (49, 34, 240, 2, vr 90 0, 52), (52, 28, 0, 57, z0, 55), (55, 0, 0, 0, z0, 56), (56, 36, 2, 0, z0, 57), (57, 8, 2, 0, vi (1), 60), (60, 26, 28, 0, z0, 63), (63, 0, 0, 0, vi (1), 64), (64, 36, 2, 0, z0, 65)]
/-- X9_isSign StrangeWinding$Tape.isSign(C)Z -/
def cd75 : List (Nat × Ent) := [(0, 4, 0, 0, z0, 1), (1, 29, 5, 2, z0, 4), (4, 0, 0, 0, vi (3), 5), (5, 28, 1, 20, z0, 8), (8, 4, 0, 0, z0, 9), (9, 29, 5, 5, z0, 12), (12, 2, 1, 0, z0, 13), (13, 28, 1, 20, z0, 16), (16, 0, 0, 0, vi (1), 17), (17, 26, 21, 0, z0, 20), (20, 0, 0, 0, z0, 21), (21, 36, 2, 0, z0, 22)]
/-- X9_isName StrangeWinding$Tape.isName()Z -/
def cd76 : List (Nat × Ent) := [(0, 4, 0, 0, z0, 1), (1, 29, 5, 2, z0, 4), (4, 0, 0, 0, vi (1), 5), (5, 28, 0, 10, z0, 8), (8, 0, 0, 0, z0, 9), (9, 36, 2, 0, z0, 10), (10, 0, 0, 0, vl (0), 11), (11, 6, 1, 0, z0, 12), (12, 0, 0, 0, z0, 13), (13, 5, 3, 0, z0, 14), (14, 2, 3, 0, z0, 15), (15, 0, 0, 0, vr 90 2, 17), (17, 34, 239, 1, vr 90 0, 20), (20, 28, 3, 75, z0, 23), (23, 0, 0, 0, vr 90 2, 25), (25, 2, 3, 0, z0, 26), (26, 34, 240, 2, vr 90 0, 29), (29, 5, 4, 0, z0, 31), (31, 2, 4, 0, z0, 33), (33, 0, 0, 0, vi (32), 35), (35, 28, 0, 56, z0, 38), (38, 3, 1, 0, z0, 39), (39, 0, 0, 0, vl (32), 42), (42, 13, 2, 0, z0, 43), (43, 2, 4, 0, z0, 45), (45, 0, 0, 0, vi (97), 47), (47, 9, 1, 0, z0, 48), (48, 0, 0, 0, vi (1), 49), (49, 9, 0, 0, z0, 50), (50, 19, 0, 0, z0, 51), (51, 13, 0, 0, z0, 52), (52, 6, 1, 0, z0, 53), (53, 26, 69, 0, z0, 56), (56, 3, 1, 0, z0, 57), (57, 4, 0, 0, z0, 58), (58, 29, 5, 6, z0, 61), (61, 18, 0, 0, z0, 62), (62, 27, 1, 67, z0, 65), (65, 0, 0, 0, z0, 66), (66, 36, 2, 0, z0, 67), (67, 0, 0, 0, vl (0), 68), (68, 6, 1, 0, z0, 69), (69, 8, 3, 0, vi (1), 72), (72, 26, 14, 0, z0, 75), (75, 0, 0, 0, vi (1), 76), (76, 36, 2, 0, z0, 77)]
/-- X9_kindNamed StrangeWinding$Tape.kindNamed()I -/
def cd77 : List (Nat × Ent) := [(0, 4, 0, 0, z0, 1), (1, 0, 0, 0, vr 90 5, 3), (3, 34, 74, 2, vr 5 0, 6), (6, 27, 0, 11, z0, 9), (9, 0, 0, 0, z0, 10), (10, 36, 1, 0, z0, 11), (11, 4, 0, 0, z0, 12), (12, 0, 0, 0, vr 90 6, 14), (14, 34, 74, 2, vr 5 0, 17), (17, 27, 0, 22, z0, 20), (20, 0, 0, 0, vi (1), 21), (21, 36, 1, 0, z0, 22), (22, 4, 0, 0, z0, 23), (23, 0, 0, 0, vr 90 7, 25), (25, 34, 74, 2, vr 5 0, 28), (28, 27, 0, 33, z0, 31), (31, 0, 0, 0, vi (2), 32), (32, 36, 1, 0, z0, 33), (33, 4, 0, 0, z0, 34), (34, 0, 0, 0, vr 90 8, 36), (36, 34, 74, 2, vr 5 0, 39), (39, 27, 0, 46, z0, 42), (42, 0, 0, 0, vi (3), 43), (43, 26, 47, 0, z0, 46), (46, 0, 0, 0, vi (-1), 47), (47, 36, 1, 0, z0, 48)]
/-- X9_refuse StrangeWinding$Tape.refuse(I)Z -/
def cd78 : List (Nat × Ent) := [(0, 4, 0, 0, z0, 1), (1, 2, 1, 0, z0, 2), (2, 0, 0, 0, vi (16), 4), (4, 4, 0, 0, z0, 5), (5, 29, 5, 3, z0, 8), (8, 9, 2, 0, z0, 9), (9, 9, 0, 0, z0, 10), (10, 30, 5, 7, z0, 13), (13, 0, 0, 0, z0, 14), (14, 36, 2, 0, z0, 15)]
/-- X9_passWord StrangeWinding$Tape.passWord(Ljava/lang/String;)Z -/
def cd79 : List (Nat × Ent) := [(0, 4, 0, 0, z0, 1), (1, 4, 1, 0, z0, 2), (2, 34, 74, 2, vr 5 0, 5), (5, 27, 1, 14, z0, 8), (8, 4, 0, 0, z0, 9), (9, 0, 0, 0, vi (1), 10), (10, 34, 78, 2, vr 5 0, 13), (13, 36, 2, 0, z0, 14), (14, 4, 0, 0, z0, 15), (15, 34, 69, 1, vr 5 0, 18), (18, 0, 0, 0, vi (1), 19), (19, 36, 2, 0, z0, 20)]
/-- X9_passSign StrangeWinding$Tape.passSign(C)Z -/
def cd80 : List (Nat × Ent) := [(0, 4, 0, 0, z0, 1), (1, 2, 1, 0, z0, 2), (2, 34, 75, 2, vr 5 0, 5), (5, 27, 1, 14, z0, 8), (8, 4, 0, 0, z0, 9), (9, 0, 0, 0, vi (1), 10), (10, 34, 78, 2, vr 5 0, 13), (13, 36, 2, 0, z0, 14), (14, 4, 0, 0, z0, 15), (15, 34, 69, 1, vr 5 0, 18), (18, 0, 0, 0, vi (1), 19), (19, 36, 2, 0, z0, 20)]
/-- X9_isNumberWithin StrangeWinding$Tape.isNumberWithin(II)Z -/
def cd81 : List (Nat × Ent) := [(0, 4, 0, 0, z0, 1), (1, 29, 5, 2, z0, 4), (4, 0, 0, 0, vi (2), 5), (5, 28, 0, 14, z0, 8), (8, 4, 0, 0, z0, 9), (9, 0, 0, 0, vi (1), 10), (10, 34, 78, 2, vr 5 0, 13), (13, 36, 2, 0, z0, 14), (14, 4, 0, 0, z0, 15), (15, 29, 5, 5, z0, 18), (18, 2, 1, 0, z0, 19), (19, 2, 2, 0, z0, 20), (20, 34, 114, 3, z0, 23), (23, 27, 1, 34, z0, 26), (26, 4, 0, 0, z0, 27), (27, 0, 0, 0, vi (4), 28), (28, 34, 78, 2, vr 5 0, 31), (31, 27, 0, 38, z0, 34), (34, 0, 0, 0, vi (1), 35), (35, 26, 39, 0, z0, 38), (38, 0, 0, 0, z0, 39), (39, 36, 2, 0, z0, 40)]
/-- X10_init StrangeWinding$Week.<init>()V -/
def cd82 : List (Nat × Ent) := [(0, 4, 0, 0, z0, 1), (1, 44, 0, 0, z0, 4), (4, 4, 0, 0, z0, 5), (5, 0, 0, 0, vi (40), 7), (7, 40, 20, 0, z0, 9), (9, 30, 19, 0, z0, 12), (12, 4, 0, 0, z0, 13), (13, 0, 0, 0, vi (40), 15), (15, 40, 21, 0, z0, 17), (17, 30, 19, 1, z0, 20), (20, 4, 0, 0, z0, 21), (21, 0, 0, 0, vi (40), 23), (23, 40, 22, 0, z0, 25), (25, 30, 19, 2, z0, 28), (28, 35, 0, 0, z0, 29)]
/-- X10_addLine StrangeWinding$Week.addLine(III)V -/
def cd83 : List (Nat × Ent) := [(0, 4, 0, 0, z0, 1), (1, 29, 19, 3, z0, 4), (4, 0, 0, 0, vi (40), 6), (6, 28, 3, 49, z0, 9), (9, 4, 0, 0, z0, 10), (10, 29, 19, 0, z0, 13), (13, 4, 0, 0, z0, 14), (14, 29, 19, 3, z0, 17), (17, 2, 1, 0, z0, 18), (18, 32, 1, 0, z0, 19), (19, 4, 0, 0, z0, 20), (20, 29, 19, 1, z0, 23), (23, 4, 0, 0, z0, 24), (24, 29, 19, 3, z0, 27), (27, 2, 2, 0, z0, 28), (28, 32, 1, 0, z0, 29), (29, 4, 0, 0, z0, 30), (30, 29, 19, 2, z0, 33), (33, 4, 0, 0, z0, 34), (34, 29, 19, 3, z0, 37), (37, 2, 3, 0, z0, 38), (38, 32, 1, 0, z0, 39), (39, 4, 0, 0, z0, 40), (40, 23, 0, 0, z0, 41), (41, 29, 19, 3, z0, 44), (44, 0, 0, 0, vi (1), 45), (45, 9, 0, 0, z0, 46), (46, 30, 19, 3, z0, 49), (49, 35, 0, 0, z0, 50)]
/-- X10_copyFrom StrangeWinding$Week.copyFrom(LStrangeWinding$Week;)V -/
def cd84 : List (Nat × Ent) := [(0, 4, 0, 0, z0, 1), (1, 4, 1, 0, z0, 2), (2, 29, 19, 3, z0, 5), (5, 30, 19, 3, z0, 8), (8, 4, 1, 0, z0, 9), (9, 29, 19, 0, z0, 12), (12, 0, 0, 0, z0, 13), (13, 4, 0, 0, z0, 14), (14, 29, 19, 0, z0, 17), (17, 0, 0, 0, z0, 18), (18, 4, 0, 0, z0, 19), (19, 29, 19, 3, z0, 22), (22, 46, 0, 0, z0, 25), (25, 4, 1, 0, z0, 26), (26, 29, 19, 1, z0, 29), (29, 0, 0, 0, z0, 30), (30, 4, 0, 0, z0, 31), (31, 29, 19, 1, z0, 34), (34, 0, 0, 0, z0, 35), (35, 4, 0, 0, z0, 36), (36, 29, 19, 3, z0, 39), (39, 46, 0, 0, z0, 42), (42, 4, 1, 0, z0, 43), (43, 29, 19, 2, z0, 46), (46, 0, 0, 0, z0, 47), (47, 4, 0, 0, z0, 48), (48, 29, 19, 2, z0, 51), (51, 0, 0, 0, z0, 52), (52, 4, 0, 0, z0, 53), (53, 29, 19, 3, z0, 56), (56, 46, 0, 0, z0, 59), (59, 35, 0, 0, z0, 60)]
/-- X11_init StrangeWinding.<init>()V -/
def cd85 : List (Nat × Ent) := [(0, 4, 0, 0, z0, 1), (1, 44, 0, 0, z0, 4), (4, 4, 0, 0, z0, 5), (5, 39, 5, 0, z0, 8), (8, 23, 0, 0, z0, 9), (9, 34, 66, 1, vr 5 0, 12), (12, 30, 1, 0, z0, 15), (15, 4, 0, 0, z0, 16), (16, 39, 7, 0, z0, 19), (19, 23, 0, 0, z0, 20), (20, 4, 0, 0, z0, 21), (21, 29, 1, 0, z0, 24), (24, 34, 26, 2, vr 7 0, 27), (27, 30, 1, 1, z0, 30), (30, 4, 0, 0, z0, 31), (31, 39, 9, 0, z0, 34), (34, 23, 0, 0, z0, 35), (35, 34, 0, 1, vr 9 0, 38), (38, 30, 1, 2, z0, 41), (41, 4, 0, 0, z0, 42), (42, 39, 9, 0, z0, 45), (45, 23, 0, 0, z0, 46), (46, 34, 0, 1, vr 9 0, 49), (49, 30, 1, 3, z0, 52), (52, 4, 0, 0, z0, 53), (53, 39, 19, 0, z0, 56), (56, 23, 0, 0, z0, 57), (57, 34, 82, 1, vr 19 0, 60), (60, 30, 1, 4, z0, 63), (63, 4, 0, 0, z0, 64), (64, 39, 23, 0, z0, 67), (67, 23, 0, 0, z0, 68), (68, 34, 39, 1, vr 23 0, 71), (71, 30, 1, 5, z0, 74), (74, 4, 0, 0, z0, 75), (75, 0, 0, 0, vi (4), 76), (76, 41, 2, 0, z0, 79), (79, 30, 1, 6, z0, 82), (82, 0, 0, 0, z0, 83), (83, 5, 1, 0, z0, 84), (84, 2, 1, 0, z0, 85), (85, 0, 0, 0, vi (4), 86), (86, 28, 3, 108, z0, 89), (89, 4, 0, 0, z0, 90), (90, 29, 1, 6, z0, 93), (93, 2, 1, 0, z0, 94), (94, 39, 23, 0, z0, 97), (97, 23, 0, 0, z0, 98), (98, 34, 39, 1, vr 23 0, 101), (101, 32, 5, 0, z0, 102), (102, 8, 1, 0, vi (1), 105), (105, 26, 84, 0, z0, 108), (108, 4, 0, 0, z0, 109), (109, 39, 29, 0, z0, 112), (112, 23, 0, 0, z0, 113), (113, 34, 19, 1, vr 29 0, 116), (116, 30, 1, 7, z0, 119), (119, 4, 0, 0, z0, 120), (120, 39, 25, 0, z0, 123), (123, 23, 0, 0, z0, 124), (124, 34, 43, 1, vr 25 0, 127), (127, 30, 1, 8, z0, 130), (130, 4, 0, 0, z0, 131), (131, 39, 31, 0, z0, 134), (134, 23, 0, 0, z0, 135), (135, 34, 23, 1, vr 31 0, 138), (138, 30, 1, 9, z0, 141), (141, 4, 0, 0, z0, 142), (142, 39, 35, 0, z0, 145), (145, 23, 0, 0, z0, 146), (146, 34, 62, 1, vr 35 0, 149), (149, 30, 1, 10, z0, 152), (152, 4, 0, 0, z0, 153), (153, 39, 37, 0, z0, 156), (156, 23, 0, 0, z0, 157), (157, 34, 16, 1, vr 37 0, 160), (160, 30, 1, 11, z0, 163), (163, 4, 0, 0, z0, 164), (164, 0, 0, 0, vi (25), 166), (166, 40, 3, 0, z0, 168), (168, 30, 1, 12, z0, 171), (171, 4, 0, 0, z0, 172), (172, 0, 0, 0, vi (25), 174), (174, 40, 4, 0, z0, 176), (176, 30, 1, 13, z0, 179), (179, 35, 0, 0, z0, 180)]
/-- X11_feed StrangeWinding.feed(JJJ)I -/
def cd86 : List (Nat × Ent) := [(0, 4, 0, 0, z0, 1), (1, 29, 1, 0, z0, 4), (4, 3, 1, 0, z0, 5), (5, 34, 67, 2, vr 5 0, 8), (8, 4, 0, 0, z0, 9), (9, 29, 1, 0, z0, 12), (12, 3, 3, 0, z0, 13), (13, 34, 67, 2, vr 5 0, 16), (16, 4, 0, 0, z0, 17), (17, 29, 1, 0, z0, 20), (20, 3, 5, 0, z0, 22), (22, 34, 67, 2, vr 5 0, 25), (25, 4, 0, 0, z0, 26), (26, 29, 1, 0, z0, 29), (29, 29, 5, 1, z0, 32), (32, 36, 1, 0, z0, 33)]
/-- X11_land StrangeWinding.land()I -/
def cd87 : List (Nat × Ent) := [(0, 4, 0, 0, z0, 1), (1, 29, 1, 1, z0, 4), (4, 4, 0, 0, z0, 5), (5, 29, 1, 3, z0, 8), (8, 34, 27, 2, vr 7 0, 11), (11, 5, 1, 0, z0, 12), (12, 4, 0, 0, z0, 13), (13, 29, 1, 0, z0, 16), (16, 0, 0, 0, z0, 17), (17, 30, 5, 1, z0, 20), (20, 2, 1, 0, z0, 21), (21, 27, 0, 26, z0, 24), (24, 2, 1, 0, z0, 25), (25, 36, 1, 0, z0, 26), (26, 4, 0, 0, z0, 27), (27, 29, 1, 2, z0, 30), (30, 7, 2, 0, z0, 31), (31, 4, 0, 0, z0, 32), (32, 4, 0, 0, z0, 33), (33, 29, 1, 3, z0, 36), (36, 30, 1, 2, z0, 39), (39, 4, 0, 0, z0, 40), (40, 4, 2, 0, z0, 41), (41, 30, 1, 3, z0, 44), (44, 4, 0, 0, z0, 45), (45, 29, 1, 5, z0, 48), (48, 4, 0, 0, z0, 49), (49, 29, 1, 2, z0, 52), (52, 34, 40, 2, vr 23 0, 55), (55, 4, 0, 0, z0, 56), (56, 29, 1, 7, z0, 59), (59, 34, 20, 1, vr 29 0, 62), (62, 0, 0, 0, z0, 63), (63, 5, 3, 0, z0, 64), (64, 2, 3, 0, z0, 65), (65, 0, 0, 0, vi (4), 66), (66, 28, 3, 85, z0, 69), (69, 4, 0, 0, z0, 70), (70, 29, 1, 6, z0, 73), (73, 2, 3, 0, z0, 74), (74, 31, 5, 0, z0, 75), (75, 0, 0, 0, z0, 76), (76, 30, 23, 3, z0, 79), (79, 8, 3, 0, vi (1), 82), (82, 26, 64, 0, z0, 85), (85, 0, 0, 0, z0, 86), (86, 36, 1, 0, z0, 87)]
/-- X11_week StrangeWinding.week()I -/
def cd88 : List (Nat × Ent) := [(0, 4, 0, 0, z0, 1), (1, 29, 1, 1, z0, 4), (4, 4, 0, 0, z0, 5), (5, 29, 1, 2, z0, 8), (8, 4, 0, 0, z0, 9), (9, 29, 1, 4, z0, 12), (12, 34, 34, 3, vr 7 0, 15), (15, 5, 1, 0, z0, 16), (16, 4, 0, 0, z0, 17), (17, 29, 1, 0, z0, 20), (20, 0, 0, 0, z0, 21), (21, 30, 5, 1, z0, 24), (24, 2, 1, 0, z0, 25), (25, 27, 1, 42, z0, 28), (28, 4, 0, 0, z0, 29), (29, 29, 1, 5, z0, 32), (32, 29, 23, 1, z0, 35), (35, 4, 0, 0, z0, 36), (36, 29, 1, 4, z0, 39), (39, 34, 84, 2, vr 19 0, 42), (42, 2, 1, 0, z0, 43), (43, 36, 1, 0, z0, 44)]
/-- X11_person StrangeWinding.person(II)I -/
def cd89 : List (Nat × Ent) := [(0, 4, 0, 0, z0, 1), (1, 2, 1, 0, z0, 2), (2, 34, 115, 2, vr 1 0, 5), (5, 27, 1, 10, z0, 8), (8, 0, 0, 0, vi (-1), 9), (9, 36, 1, 0, z0, 10), (10, 4, 0, 0, z0, 11), (11, 29, 1, 5, z0, 14), (14, 29, 23, 0, z0, 17), (17, 7, 3, 0, z0, 18), (18, 2, 2, 0, z0, 19), (19, 38, 3, 0, z0, 56), (56, 4, 0, 0, z0, 57), (57, 29, 1, 2, z0, 60), (60, 29, 9, 3, z0, 63), (63, 2, 1, 0, z0, 64), (64, 31, 1, 0, z0, 65), (65, 36, 1, 0, z0, 66), (66, 4, 3, 0, z0, 67), (67, 29, 25, 0, z0, 70), (70, 2, 1, 0, z0, 71), (71, 31, 1, 0, z0, 72), (72, 36, 1, 0, z0, 73), (73, 4, 3, 0, z0, 74), (74, 29, 25, 1, z0, 77), (77, 2, 1, 0, z0, 78), (78, 31, 1, 0, z0, 79), (79, 36, 1, 0, z0, 80), (80, 4, 3, 0, z0, 81), (81, 2, 1, 0, z0, 82), (82, 34, 46, 2, vr 25 0, 85), (85, 27, 0, 92, z0, 88), (88, 0, 0, 0, vi (1), 89), (89, 26, 93, 0, z0, 92), (92, 0, 0, 0, z0, 93), (93, 36, 1, 0, z0, 94), (94, 4, 3, 0, z0, 95), (95, 2, 1, 0, z0, 96), (96, 34, 47, 2, vr 25 0, 99), (99, 27, 0, 106, z0, 102), (102, 0, 0, 0, vi (1), 103), (103, 26, 107, 0, z0, 106), (106, 0, 0, 0, z0, 107), (107, 36, 1, 0, z0, 108), (108, 4, 3, 0, z0, 109), (109, 4, 0, 0, z0, 110), (110, 29, 1, 2, z0, 113), (113, 2, 1, 0, z0, 114), (114, 34, 52, 3, vr 25 0, 117), (117, 36, 1, 0, z0, 118), (118, 0, 0, 0, vi (-1), 119), (119, 36, 1, 0, z0, 120)]
/-- X11_wound StrangeWinding.wound(II)I -/
def cd90 : List (Nat × Ent) := [(0, 4, 0, 0, z0, 1), (1, 2, 1, 0, z0, 2), (2, 2, 2, 0, z0, 3), (3, 34, 117, 3, vr 1 0, 6), (6, 27, 0, 29, z0, 9), (9, 4, 0, 0, z0, 10), (10, 29, 1, 5, z0, 13), (13, 29, 23, 0, z0, 16), (16, 29, 25, 2, z0, 19), (19, 2, 1, 0, z0, 20), (20, 0, 0, 0, vi (6), 22), (22, 9, 2, 0, z0, 23), (23, 2, 2, 0, z0, 24), (24, 9, 0, 0, z0, 25), (25, 31, 1, 0, z0, 26), (26, 26, 30, 0, z0, 29), (29, 0, 0, 0, vi (-1), 30), (30, 36, 1, 0, z0, 31)]
/-- X11_lanes StrangeWinding.lanes(I)I -/
def cd91 : List (Nat × Ent) := [(0, 4, 0, 0, z0, 1), (1, 2, 1, 0, z0, 2), (2, 34, 116, 2, vr 1 0, 5), (5, 27, 0, 20, z0, 8), (8, 4, 0, 0, z0, 9), (9, 29, 1, 2, z0, 12), (12, 29, 9, 1, z0, 15), (15, 2, 1, 0, z0, 16), (16, 31, 1, 0, z0, 17), (17, 26, 21, 0, z0, 20), (20, 0, 0, 0, vi (-1), 21), (21, 36, 1, 0, z0, 22)]
/-- X11_gives StrangeWinding.gives(II)I -/
def cd92 : List (Nat × Ent) := [(0, 4, 0, 0, z0, 1), (1, 2, 1, 0, z0, 2), (2, 2, 2, 0, z0, 3), (3, 34, 117, 3, vr 1 0, 6), (6, 27, 1, 11, z0, 9), (9, 0, 0, 0, vi (-1), 10), (10, 36, 1, 0, z0, 11), (11, 4, 0, 0, z0, 12), (12, 29, 1, 5, z0, 15), (15, 29, 23, 0, z0, 18), (18, 4, 0, 0, z0, 19), (19, 29, 1, 2, z0, 22), (22, 2, 1, 0, z0, 23), (23, 2, 2, 0, z0, 24), (24, 4, 0, 0, z0, 25), (25, 29, 1, 5, z0, 28), (28, 29, 23, 0, z0, 31), (31, 29, 25, 1, z0, 34), (34, 2, 2, 0, z0, 35), (35, 31, 1, 0, z0, 36), (36, 34, 58, 5, vr 25 0, 39), (39, 36, 1, 0, z0, 40)]
/-- X11_walk StrangeWinding.walk(II)Z -/
def cd93 : List (Nat × Ent) := [(0, 4, 0, 0, z0, 1), (1, 2, 1, 0, z0, 2), (2, 34, 115, 2, vr 1 0, 5), (5, 27, 0, 35, z0, 8), (8, 4, 0, 0, z0, 9), (9, 2, 2, 0, z0, 10), (10, 34, 116, 2, vr 1 0, 13), (13, 27, 0, 35, z0, 16), (16, 4, 0, 0, z0, 17), (17, 29, 1, 5, z0, 20), (20, 29, 23, 0, z0, 23), (23, 4, 0, 0, z0, 24), (24, 29, 1, 2, z0, 27), (27, 2, 1, 0, z0, 28), (28, 2, 2, 0, z0, 29), (29, 34, 54, 4, vr 25 0, 32), (32, 27, 1, 37, z0, 35), (35, 0, 0, 0, z0, 36), (36, 36, 2, 0, z0, 37), (37, 4, 0, 0, z0, 38), (38, 29, 1, 7, z0, 41), (41, 4, 0, 0, z0, 42), (42, 29, 1, 5, z0, 45), (45, 29, 23, 0, z0, 48), (48, 34, 21, 2, vr 29 0, 51), (51, 4, 0, 0, z0, 52), (52, 29, 1, 5, z0, 55), (55, 29, 23, 0, z0, 58), (58, 29, 25, 0, z0, 61), (61, 2, 1, 0, z0, 62), (62, 2, 2, 0, z0, 63), (63, 32, 1, 0, z0, 64), (64, 0, 0, 0, vi (1), 65), (65, 36, 2, 0, z0, 66)]
/-- X11_wind StrangeWinding.wind(II)I -/
def cd94 : List (Nat × Ent) := [(0, 4, 0, 0, z0, 1), (1, 2, 1, 0, z0, 2), (2, 2, 2, 0, z0, 3), (3, 34, 117, 3, vr 1 0, 6), (6, 27, 0, 28, z0, 9), (9, 4, 0, 0, z0, 10), (10, 29, 1, 5, z0, 13), (13, 29, 23, 0, z0, 16), (16, 4, 0, 0, z0, 17), (17, 29, 1, 2, z0, 20), (20, 2, 1, 0, z0, 21), (21, 2, 2, 0, z0, 22), (22, 34, 56, 4, vr 25 0, 25), (25, 27, 1, 30, z0, 28), (28, 0, 0, 0, vi (-1), 29), (29, 36, 1, 0, z0, 30), (30, 4, 0, 0, z0, 31), (31, 29, 1, 7, z0, 34), (34, 4, 0, 0, z0, 35), (35, 29, 1, 5, z0, 38), (38, 29, 23, 0, z0, 41), (41, 34, 21, 2, vr 29 0, 44), (44, 4, 0, 0, z0, 45), (45, 29, 1, 5, z0, 48), (48, 29, 23, 0, z0, 51), (51, 4, 0, 0, z0, 52), (52, 29, 1, 2, z0, 55), (55, 2, 1, 0, z0, 56), (56, 2, 2, 0, z0, 57), (57, 34, 59, 4, vr 25 0, 60), (60, 4, 0, 0, z0, 61), (61, 29, 1, 5, z0, 64), (64, 29, 23, 0, z0, 67), (67, 29, 25, 1, z0, 70), (70, 2, 2, 0, z0, 71), (71, 31, 1, 0, z0, 72), (72, 36, 1, 0, z0, 73)]
/-- X11_mend StrangeWinding.mend(I)Z -/
def cd95 : List (Nat × Ent) := [(0, 4, 0, 0, z0, 1), (1, 2, 1, 0, z0, 2), (2, 34, 115, 2, vr 1 0, 5), (5, 27, 0, 22, z0, 8), (8, 4, 0, 0, z0, 9), (9, 29, 1, 5, z0, 12), (12, 29, 23, 0, z0, 15), (15, 2, 1, 0, z0, 16), (16, 34, 46, 2, vr 25 0, 19), (19, 27, 1, 24, z0, 22), (22, 0, 0, 0, z0, 23), (23, 36, 2, 0, z0, 24), (24, 4, 0, 0, z0, 25), (25, 29, 1, 7, z0, 28), (28, 4, 0, 0, z0, 29), (29, 29, 1, 5, z0, 32), (32, 29, 23, 0, z0, 35), (35, 34, 21, 2, vr 29 0, 38), (38, 4, 0, 0, z0, 39), (39, 29, 1, 5, z0, 42), (42, 29, 23, 0, z0, 45), (45, 2, 1, 0, z0, 46), (46, 34, 60, 2, vr 25 0, 49), (49, 0, 0, 0, vi (1), 50), (50, 36, 2, 0, z0, 51)]
/-- X11_hour StrangeWinding.hour()I -/
def cd96 : List (Nat × Ent) := [(0, 4, 0, 0, z0, 1), (1, 29, 1, 7, z0, 4), (4, 4, 0, 0, z0, 5), (5, 29, 1, 5, z0, 8), (8, 29, 23, 0, z0, 11), (11, 34, 21, 2, vr 29 0, 14), (14, 4, 0, 0, z0, 15), (15, 29, 1, 5, z0, 18), (18, 29, 23, 0, z0, 21), (21, 4, 0, 0, z0, 22), (22, 29, 1, 2, z0, 25), (25, 34, 61, 2, vr 25 0, 28), (28, 36, 1, 0, z0, 29)]
/-- X11_undo StrangeWinding.undo()Z -/
def cd97 : List (Nat × Ent) := [(0, 4, 0, 0, z0, 1), (1, 29, 1, 7, z0, 4), (4, 4, 0, 0, z0, 5), (5, 29, 1, 5, z0, 8), (8, 29, 23, 0, z0, 11), (11, 34, 22, 2, vr 29 0, 14), (14, 36, 2, 0, z0, 15)]
/-- X11_judged StrangeWinding.judged(I)I -/
def cd98 : List (Nat × Ent) := [(0, 2, 1, 0, z0, 1), (1, 27, 2, 9, z0, 4), (4, 2, 1, 0, z0, 5), (5, 0, 0, 0, vi (2), 6), (6, 28, 5, 12, z0, 9), (9, 0, 0, 0, vi (-2), 11), (11, 36, 1, 0, z0, 12), (12, 0, 0, 0, vi (-1), 13), (13, 5, 2, 0, z0, 14), (14, 0, 0, 0, vi (-1), 15), (15, 5, 3, 0, z0, 16), (16, 4, 0, 0, z0, 17), (17, 29, 1, 8, z0, 20), (20, 4, 0, 0, z0, 21), (21, 29, 1, 2, z0, 24), (24, 34, 44, 2, vr 25 0, 27), (27, 0, 0, 0, z0, 28), (28, 5, 4, 0, z0, 30), (30, 2, 4, 0, z0, 32), (32, 4, 0, 0, z0, 33), (33, 29, 1, 5, z0, 36), (36, 29, 23, 1, z0, 39), (39, 29, 19, 3, z0, 42), (42, 28, 3, 104, z0, 45), (45, 4, 0, 0, z0, 46), (46, 29, 1, 8, z0, 49), (49, 29, 25, 6, z0, 52), (52, 5, 5, 0, z0, 54), (54, 4, 0, 0, z0, 55), (55, 4, 0, 0, z0, 56), (56, 29, 1, 5, z0, 59), (59, 29, 23, 1, z0, 62), (62, 2, 4, 0, z0, 64), (64, 34, 118, 3, vr 1 0, 67), (67, 27, 1, 78, z0, 70), (70, 2, 2, 0, z0, 71), (71, 0, 0, 0, vi (-1), 72), (72, 28, 1, 78, z0, 75), (75, 2, 4, 0, z0, 77), (77, 5, 2, 0, z0, 78), (78, 4, 0, 0, z0, 79), (79, 29, 1, 8, z0, 82), (82, 29, 25, 6, z0, 85), (85, 2, 5, 0, z0, 87), (87, 28, 5, 98, z0, 90), (90, 2, 3, 0, z0, 91), (91, 0, 0, 0, vi (-1), 92), (92, 28, 1, 98, z0, 95), (95, 2, 4, 0, z0, 97), (97, 5, 3, 0, z0, 98), (98, 8, 4, 0, vi (1), 101), (101, 26, 30, 0, z0, 104), (104, 2, 1, 0, z0, 105), (105, 27, 1, 110, z0, 108), (108, 2, 2, 0, z0, 109), (109, 36, 1, 0, z0, 110), (110, 2, 1, 0, z0, 111), (111, 0, 0, 0, vi (1), 112), (112, 28, 1, 119, z0, 115), (115, 2, 3, 0, z0, 116), (116, 26, 130, 0, z0, 119), (119, 4, 0, 0, z0, 120), (120, 29, 1, 8, z0, 123), (123, 4, 0, 0, z0, 124), (124, 29, 1, 2, z0, 127), (127, 34, 48, 2, vr 25 0, 130), (130, 36, 1, 0, z0, 131)]
/-- X11_stops StrangeWinding.stops(I)I -/
def cd99 : List (Nat × Ent) := [(0, 4, 0, 0, z0, 1), (1, 2, 1, 0, z0, 2), (2, 34, 115, 2, vr 1 0, 5), (5, 27, 1, 10, z0, 8), (8, 0, 0, 0, vi (-1), 9), (9, 36, 1, 0, z0, 10), (10, 4, 0, 0, z0, 11), (11, 29, 1, 8, z0, 14), (14, 4, 0, 0, z0, 15), (15, 29, 1, 5, z0, 18), (18, 29, 23, 0, z0, 21), (21, 34, 45, 2, vr 25 0, 24), (24, 0, 0, 0, z0, 25), (25, 5, 2, 0, z0, 26), (26, 2, 2, 0, z0, 27), (27, 0, 0, 0, vi (99), 29), (29, 28, 4, 63, z0, 32), (32, 4, 0, 0, z0, 33), (33, 29, 1, 8, z0, 36), (36, 2, 1, 0, z0, 37), (37, 34, 47, 2, vr 25 0, 40), (40, 27, 0, 45, z0, 43), (43, 2, 2, 0, z0, 44), (44, 36, 1, 0, z0, 45), (45, 4, 0, 0, z0, 46), (46, 29, 1, 8, z0, 49), (49, 4, 0, 0, z0, 50), (50, 29, 1, 2, z0, 53), (53, 34, 61, 2, vr 25 0, 56), (56, 25, 0, 0, z0, 57), (57, 8, 2, 0, vi (1), 60), (60, 26, 26, 0, z0, 63), (63, 0, 0, 0, vi (-1), 64), (64, 36, 1, 0, z0, 65)]
/-- X11_august StrangeWinding.august()I -/
def cd100 : List (Nat × Ent) := [(0, 0, 0, 0, vi (1), 1), (1, 4, 0, 0, z0, 2), (2, 29, 1, 2, z0, 5), (5, 29, 9, 10, z0, 8), (8, 9, 6, 0, z0, 9), (9, 0, 0, 0, vi (1), 10), (10, 9, 1, 0, z0, 11), (11, 5, 1, 0, z0, 12), (12, 4, 0, 0, z0, 13), (13, 29, 1, 8, z0, 16), (16, 4, 0, 0, z0, 17), (17, 29, 1, 5, z0, 20), (20, 29, 23, 0, z0, 23), (23, 34, 45, 2, vr 25 0, 26), (26, 0, 0, 0, z0, 27), (27, 5, 2, 0, z0, 28), (28, 2, 2, 0, z0, 29), (29, 0, 0, 0, vi (99), 31), (31, 28, 4, 69, z0, 34), (34, 4, 0, 0, z0, 35), (35, 29, 1, 8, z0, 38), (38, 4, 0, 0, z0, 39), (39, 29, 1, 2, z0, 42), (42, 34, 48, 2, vr 25 0, 45), (45, 2, 1, 0, z0, 46), (46, 28, 1, 51, z0, 49), (49, 2, 2, 0, z0, 50), (50, 36, 1, 0, z0, 51), (51, 4, 0, 0, z0, 52), (52, 29, 1, 8, z0, 55), (55, 4, 0, 0, z0, 56), (56, 29, 1, 2, z0, 59), (59, 34, 61, 2, vr 25 0, 62), (62, 25, 0, 0, z0, 63), (63, 8, 2, 0, vi (1), 66), (66, 26, 28, 0, z0, 69), (69, 0, 0, 0, vi (-1), 70), (70, 36, 1, 0, z0, 71)]
/-- X11_plan StrangeWinding.plan(III)I -/
def cd101 : List (Nat × Ent) := [(0, 4, 0, 0, z0, 1), (1, 2, 1, 0, z0, 2), (2, 34, 115, 2, vr 1 0, 5), (5, 27, 0, 26, z0, 8), (8, 2, 2, 0, z0, 9), (9, 0, 0, 0, vi (1), 10), (10, 0, 0, 0, vi (4), 11), (11, 34, 114, 3, z0, 14), (14, 27, 0, 26, z0, 17), (17, 2, 3, 0, z0, 18), (18, 0, 0, 0, z0, 19), (19, 2, 2, 0, z0, 20), (20, 34, 114, 3, z0, 23), (23, 27, 1, 28, z0, 26), (26, 0, 0, 0, vi (-1), 27), (27, 36, 1, 0, z0, 28), (28, 4, 0, 0, z0, 29), (29, 29, 1, 9, z0, 32), (32, 4, 0, 0, z0, 33), (33, 29, 1, 2, z0, 36), (36, 4, 0, 0, z0, 37), (37, 29, 1, 5, z0, 40), (40, 29, 23, 0, z0, 43), (43, 2, 1, 0, z0, 44), (44, 2, 2, 0, z0, 45), (45, 34, 24, 5, vr 31 0, 48), (48, 2, 3, 0, z0, 49), (49, 27, 1, 62, z0, 52), (52, 4, 0, 0, z0, 53), (53, 29, 1, 9, z0, 56), (56, 29, 31, 3, z0, 59), (59, 26, 73, 0, z0, 62), (62, 4, 0, 0, z0, 63), (63, 29, 1, 9, z0, 66), (66, 29, 31, 2, z0, 69), (69, 2, 3, 0, z0, 70), (70, 0, 0, 0, vi (1), 71), (71, 9, 1, 0, z0, 72), (72, 31, 1, 0, z0, 73), (73, 36, 1, 0, z0, 74)]
/-- X11_stand StrangeWinding.stand(I)I -/
def cd102 : List (Nat × Ent) := [(0, 4, 0, 0, z0, 1), (1, 29, 1, 5, z0, 4), (4, 29, 23, 0, z0, 7), (7, 7, 2, 0, z0, 8), (8, 4, 0, 0, z0, 9), (9, 2, 1, 0, z0, 10), (10, 34, 115, 2, vr 1 0, 13), (13, 27, 0, 24, z0, 16), (16, 4, 2, 0, z0, 17), (17, 2, 1, 0, z0, 18), (18, 34, 47, 2, vr 25 0, 21), (21, 27, 0, 26, z0, 24), (24, 0, 0, 0, vi (-1), 25), (25, 36, 1, 0, z0, 26), (26, 0, 0, 0, vi (-1), 27), (27, 5, 3, 0, z0, 28), (28, 0, 0, 0, vi (-1), 29), (29, 5, 4, 0, z0, 31), (31, 0, 0, 0, z0, 32), (32, 5, 5, 0, z0, 34), (34, 2, 5, 0, z0, 36), (36, 4, 0, 0, z0, 37), (37, 29, 1, 2, z0, 40), (40, 29, 9, 9, z0, 43), (43, 28, 3, 107, z0, 46), (46, 2, 5, 0, z0, 48), (48, 4, 2, 0, z0, 49), (49, 29, 25, 0, z0, 52), (52, 2, 1, 0, z0, 53), (53, 31, 1, 0, z0, 54), (54, 28, 0, 71, z0, 57), (57, 4, 2, 0, z0, 58), (58, 4, 0, 0, z0, 59), (59, 29, 1, 2, z0, 62), (62, 2, 1, 0, z0, 63), (63, 2, 5, 0, z0, 65), (65, 34, 54, 4, vr 25 0, 68), (68, 27, 0, 101, z0, 71), (71, 4, 2, 0, z0, 72), (72, 4, 0, 0, z0, 73), (73, 29, 1, 2, z0, 76), (76, 2, 1, 0, z0, 77), (77, 2, 5, 0, z0, 79), (79, 34, 53, 4, vr 25 0, 82), (82, 34, 238, 1, z0, 85), (85, 5, 6, 0, z0, 87), (87, 2, 6, 0, z0, 89), (89, 2, 4, 0, z0, 91), (91, 28, 5, 101, z0, 94), (94, 2, 6, 0, z0, 96), (96, 5, 4, 0, z0, 98), (98, 2, 5, 0, z0, 100), (100, 5, 3, 0, z0, 101), (101, 8, 5, 0, vi (1), 104), (104, 26, 34, 0, z0, 107), (107, 2, 3, 0, z0, 108), (108, 36, 1, 0, z0, 109)]
/-- X11_fewest StrangeWinding.fewest(II)I -/
def cd103 : List (Nat × Ent) := [(0, 2, 1, 0, z0, 1), (1, 0, 0, 0, vi (1), 2), (2, 0, 0, 0, vi (24), 4), (4, 34, 114, 3, z0, 7), (7, 27, 0, 19, z0, 10), (10, 2, 2, 0, z0, 11), (11, 0, 0, 0, z0, 12), (12, 0, 0, 0, vi (1), 13), (13, 34, 114, 3, z0, 16), (16, 27, 1, 22, z0, 19), (19, 0, 0, 0, vi (-2), 21), (21, 36, 1, 0, z0, 22), (22, 0, 0, 0, z0, 23), (23, 5, 3, 0, z0, 24), (24, 2, 3, 0, z0, 25), (25, 4, 0, 0, z0, 26), (26, 29, 1, 2, z0, 29), (29, 29, 9, 10, z0, 32), (32, 28, 4, 101, z0, 35), (35, 0, 0, 0, z0, 36), (36, 5, 4, 0, z0, 38), (38, 2, 4, 0, z0, 40), (40, 0, 0, 0, vi (1), 41), (41, 4, 0, 0, z0, 42), (42, 29, 1, 2, z0, 45), (45, 29, 9, 10, z0, 48), (48, 9, 6, 0, z0, 49), (49, 28, 3, 95, z0, 52), (52, 2, 4, 0, z0, 54), (54, 34, 238, 1, z0, 57), (57, 2, 3, 0, z0, 58), (58, 28, 1, 89, z0, 61), (61, 4, 0, 0, z0, 62), (62, 2, 4, 0, z0, 64), (64, 2, 1, 0, z0, 65), (65, 34, 119, 3, vr 1 0, 68), (68, 5, 5, 0, z0, 70), (70, 2, 5, 0, z0, 72), (72, 0, 0, 0, vi (-2), 74), (74, 28, 0, 89, z0, 77), (77, 2, 2, 0, z0, 78), (78, 27, 1, 86, z0, 81), (81, 2, 4, 0, z0, 83), (83, 26, 88, 0, z0, 86), (86, 2, 5, 0, z0, 88), (88, 36, 1, 0, z0, 89), (89, 8, 4, 0, vi (1), 92), (92, 26, 38, 0, z0, 95), (95, 8, 3, 0, vi (1), 98), (98, 26, 24, 0, z0, 101), (101, 0, 0, 0, vi (-2), 103), (103, 36, 1, 0, z0, 104)]
/-- X11_tale StrangeWinding.tale(II)Z -/
def cd104 : List (Nat × Ent) := [(0, 4, 0, 0, z0, 1), (1, 2, 1, 0, z0, 2), (2, 34, 115, 2, vr 1 0, 5), (5, 27, 0, 18, z0, 8), (8, 2, 2, 0, z0, 9), (9, 0, 0, 0, z0, 10), (10, 0, 0, 0, vi (99), 12), (12, 34, 114, 3, z0, 15), (15, 27, 1, 20, z0, 18), (18, 0, 0, 0, z0, 19), (19, 36, 2, 0, z0, 20), (20, 4, 0, 0, z0, 21), (21, 29, 1, 5, z0, 24), (24, 29, 23, 2, z0, 27), (27, 2, 1, 0, z0, 28), (28, 2, 2, 0, z0, 29), (29, 32, 1, 0, z0, 30), (30, 0, 0, 0, vi (1), 31), (31, 36, 2, 0, z0, 32)]
/-- X11_sets StrangeWinding.sets(II)I -/
def cd105 : List (Nat × Ent) := [(0, 4, 0, 0, z0, 1), (1, 2, 1, 0, z0, 2), (2, 34, 115, 2, vr 1 0, 5), (5, 27, 0, 17, z0, 8), (8, 2, 2, 0, z0, 9), (9, 0, 0, 0, z0, 10), (10, 0, 0, 0, vi (2), 11), (11, 34, 114, 3, z0, 14), (14, 27, 1, 19, z0, 17), (17, 0, 0, 0, vi (-1), 18), (18, 36, 1, 0, z0, 19), (19, 4, 0, 0, z0, 20), (20, 29, 1, 10, z0, 23), (23, 4, 0, 0, z0, 24), (24, 29, 1, 2, z0, 27), (27, 4, 0, 0, z0, 28), (28, 29, 1, 5, z0, 31), (31, 29, 23, 0, z0, 34), (34, 2, 1, 0, z0, 35), (35, 4, 0, 0, z0, 36), (36, 29, 1, 5, z0, 39), (39, 29, 23, 2, z0, 42), (42, 2, 1, 0, z0, 43), (43, 31, 1, 0, z0, 44), (44, 34, 63, 5, vr 35 0, 47), (47, 2, 2, 0, z0, 48), (48, 27, 1, 59, z0, 51), (51, 4, 0, 0, z0, 52), (52, 29, 1, 10, z0, 55), (55, 29, 35, 1, z0, 58), (58, 36, 1, 0, z0, 59), (59, 4, 0, 0, z0, 60), (60, 29, 1, 10, z0, 63), (63, 29, 35, 1, z0, 66), (66, 27, 1, 71, z0, 69), (69, 0, 0, 0, vi (-1), 70), (70, 36, 1, 0, z0, 71), (71, 2, 2, 0, z0, 72), (72, 0, 0, 0, vi (1), 73), (73, 28, 1, 86, z0, 76), (76, 4, 0, 0, z0, 77), (77, 29, 1, 10, z0, 80), (80, 29, 35, 2, z0, 83), (83, 26, 93, 0, z0, 86), (86, 4, 0, 0, z0, 87), (87, 29, 1, 10, z0, 90), (90, 29, 35, 3, z0, 93), (93, 36, 1, 0, z0, 94)]
/-- X11_ask StrangeWinding.ask(I)I -/
def cd106 : List (Nat × Ent) := [(0, 4, 0, 0, z0, 1), (1, 2, 1, 0, z0, 2), (2, 34, 115, 2, vr 1 0, 5), (5, 27, 1, 10, z0, 8), (8, 0, 0, 0, vi (-1), 9), (9, 36, 1, 0, z0, 10), (10, 4, 0, 0, z0, 11), (11, 29, 1, 10, z0, 14), (14, 4, 0, 0, z0, 15), (15, 29, 1, 2, z0, 18), (18, 4, 0, 0, z0, 19), (19, 29, 1, 5, z0, 22), (22, 29, 23, 0, z0, 25), (25, 2, 1, 0, z0, 26), (26, 4, 0, 0, z0, 27), (27, 29, 1, 5, z0, 30), (30, 29, 23, 2, z0, 33), (33, 2, 1, 0, z0, 34), (34, 31, 1, 0, z0, 35), (35, 34, 63, 5, vr 35 0, 38), (38, 0, 0, 0, vi (-1), 39), (39, 5, 2, 0, z0, 40), (40, 4, 0, 0, z0, 41), (41, 29, 1, 10, z0, 44), (44, 29, 35, 1, z0, 47), (47, 5, 3, 0, z0, 48), (48, 0, 0, 0, z0, 49), (49, 5, 4, 0, z0, 51), (51, 2, 4, 0, z0, 53), (53, 4, 0, 0, z0, 54), (54, 29, 1, 2, z0, 57), (57, 29, 9, 10, z0, 60), (60, 28, 3, 120, z0, 63), (63, 4, 0, 0, z0, 64), (64, 29, 1, 10, z0, 67), (67, 29, 35, 0, z0, 70), (70, 2, 4, 0, z0, 72), (72, 31, 1, 0, z0, 73), (73, 4, 0, 0, z0, 74), (74, 29, 1, 10, z0, 77), (77, 29, 35, 1, z0, 80), (80, 4, 0, 0, z0, 81), (81, 29, 1, 10, z0, 84), (84, 29, 35, 0, z0, 87), (87, 2, 4, 0, z0, 89), (89, 31, 1, 0, z0, 90), (90, 9, 1, 0, z0, 91), (91, 47, 0, 0, z0, 94), (94, 5, 5, 0, z0, 96), (96, 2, 4, 0, z0, 98), (98, 2, 1, 0, z0, 99), (99, 28, 0, 114, z0, 102), (102, 2, 5, 0, z0, 104), (104, 2, 3, 0, z0, 105), (105, 28, 3, 114, z0, 108), (108, 2, 5, 0, z0, 110), (110, 5, 3, 0, z0, 111), (111, 2, 4, 0, z0, 113), (113, 5, 2, 0, z0, 114), (114, 8, 4, 0, vi (1), 117), (117, 26, 51, 0, z0, 120), (120, 2, 2, 0, z0, 121), (121, 36, 1, 0, z0, 122)]
/-- X11_meet StrangeWinding.meet(III)I -/
def cd107 : List (Nat × Ent) := [(0, 4, 0, 0, z0, 1), (1, 2, 1, 0, z0, 2), (2, 2, 2, 0, z0, 3), (3, 34, 117, 3, vr 1 0, 6), (6, 27, 0, 19, z0, 9), (9, 2, 3, 0, z0, 10), (10, 0, 0, 0, vi (1), 11), (11, 0, 0, 0, vi (6), 13), (13, 34, 114, 3, z0, 16), (16, 27, 1, 21, z0, 19), (19, 0, 0, 0, vi (-1), 20), (20, 36, 1, 0, z0, 21), (21, 4, 0, 0, z0, 22), (22, 29, 1, 5, z0, 25), (25, 29, 23, 0, z0, 28), (28, 29, 25, 0, z0, 31), (31, 2, 1, 0, z0, 32), (32, 31, 1, 0, z0, 33), (33, 5, 4, 0, z0, 35), (35, 4, 0, 0, z0, 36), (36, 29, 1, 5, z0, 39), (39, 29, 23, 0, z0, 42), (42, 29, 25, 0, z0, 45), (45, 2, 2, 0, z0, 46), (46, 31, 1, 0, z0, 47), (47, 5, 5, 0, z0, 49), (49, 2, 4, 0, z0, 51), (51, 2, 5, 0, z0, 53), (53, 28, 1, 58, z0, 56), (56, 0, 0, 0, vi (-1), 57), (57, 36, 1, 0, z0, 58), (58, 4, 0, 0, z0, 59), (59, 29, 1, 12, z0, 62), (62, 0, 0, 0, z0, 63), (63, 34, 250, 2, z0, 66), (66, 4, 0, 0, z0, 67), (67, 29, 1, 12, z0, 70), (70, 2, 4, 0, z0, 72), (72, 0, 0, 0, vi (5), 73), (73, 9, 2, 0, z0, 74), (74, 2, 5, 0, z0, 76), (76, 9, 0, 0, z0, 77), (77, 0, 0, 0, vi (1000000), 80), (80, 32, 1, 0, z0, 81), (81, 0, 0, 0, z0, 82), (82, 5, 6, 0, z0, 84), (84, 2, 6, 0, z0, 86), (86, 2, 3, 0, z0, 87), (87, 28, 3, 100, z0, 90), (90, 4, 0, 0, z0, 91), (91, 34, 122, 1, vr 1 0, 94), (94, 8, 6, 0, vi (1), 97), (97, 26, 84, 0, z0, 100), (100, 0, 0, 0, z0, 101), (101, 5, 6, 0, z0, 103), (103, 0, 0, 0, z0, 104), (104, 5, 7, 0, z0, 106), (106, 2, 7, 0, z0, 108), (108, 0, 0, 0, vi (5), 109), (109, 28, 3, 135, z0, 112), (112, 2, 6, 0, z0, 114), (114, 4, 0, 0, z0, 115), (115, 29, 1, 12, z0, 118), (118, 2, 7, 0, z0, 120), (120, 0, 0, 0, vi (5), 121), (121, 9, 2, 0, z0, 122), (122, 2, 7, 0, z0, 124), (124, 9, 0, 0, z0, 125), (125, 31, 1, 0, z0, 126), (126, 9, 0, 0, z0, 127), (127, 5, 6, 0, z0, 129), (129, 8, 7, 0, vi (1), 132), (132, 26, 106, 0, z0, 135), (135, 2, 6, 0, z0, 137), (137, 36, 1, 0, z0, 138)]
/-- X11_engaged StrangeWinding.engaged()I -/
def cd108 : List (Nat × Ent) := [(0, 0, 0, 0, z0, 1), (1, 5, 1, 0, z0, 2), (2, 0, 0, 0, z0, 3), (3, 5, 2, 0, z0, 4), (4, 2, 2, 0, z0, 5), (5, 4, 0, 0, z0, 6), (6, 29, 1, 2, z0, 9), (9, 29, 9, 10, z0, 12), (12, 28, 3, 87, z0, 15), (15, 2, 2, 0, z0, 16), (16, 0, 0, 0, vi (1), 17), (17, 9, 0, 0, z0, 18), (18, 5, 3, 0, z0, 19), (19, 2, 3, 0, z0, 20), (20, 4, 0, 0, z0, 21), (21, 29, 1, 2, z0, 24), (24, 29, 9, 10, z0, 27), (27, 28, 3, 81, z0, 30), (30, 4, 0, 0, z0, 31), (31, 29, 1, 5, z0, 34), (34, 29, 23, 0, z0, 37), (37, 29, 25, 2, z0, 40), (40, 2, 2, 0, z0, 41), (41, 0, 0, 0, vi (6), 43), (43, 9, 2, 0, z0, 44), (44, 2, 3, 0, z0, 45), (45, 9, 0, 0, z0, 46), (46, 31, 1, 0, z0, 47), (47, 0, 0, 0, vi (2), 48), (48, 28, 2, 75, z0, 51), (51, 4, 0, 0, z0, 52), (52, 29, 1, 5, z0, 55), (55, 29, 23, 0, z0, 58), (58, 29, 25, 2, z0, 61), (61, 2, 3, 0, z0, 62), (62, 0, 0, 0, vi (6), 64), (64, 9, 2, 0, z0, 65), (65, 2, 2, 0, z0, 66), (66, 9, 0, 0, z0, 67), (67, 31, 1, 0, z0, 68), (68, 0, 0, 0, vi (2), 69), (69, 28, 2, 75, z0, 72), (72, 8, 1, 0, vi (1), 75), (75, 8, 3, 0, vi (1), 78), (78, 26, 19, 0, z0, 81), (81, 8, 2, 0, vi (1), 84), (84, 26, 4, 0, z0, 87), (87, 2, 1, 0, z0, 88), (88, 36, 1, 0, z0, 89)]
/-- X11_pairs StrangeWinding.pairs(I)I -/
def cd109 : List (Nat × Ent) := [(0, 2, 1, 0, z0, 1), (1, 0, 0, 0, vi (-1), 2), (2, 28, 0, 16, z0, 5), (5, 4, 0, 0, z0, 6), (6, 2, 1, 0, z0, 7), (7, 34, 115, 2, vr 1 0, 10), (10, 27, 1, 16, z0, 13), (13, 0, 0, 0, vi (-2), 15), (15, 36, 1, 0, z0, 16), (16, 4, 0, 0, z0, 17), (17, 29, 1, 11, z0, 20), (20, 4, 0, 0, z0, 21), (21, 29, 1, 2, z0, 24), (24, 4, 0, 0, z0, 25), (25, 29, 1, 5, z0, 28), (28, 29, 23, 0, z0, 31), (31, 34, 17, 3, vr 37 0, 34), (34, 2, 1, 0, z0, 35), (35, 0, 0, 0, vi (-1), 36), (36, 28, 1, 49, z0, 39), (39, 4, 0, 0, z0, 40), (40, 29, 1, 11, z0, 43), (43, 29, 37, 2, z0, 46), (46, 26, 58, 0, z0, 49), (49, 4, 0, 0, z0, 50), (50, 29, 1, 11, z0, 53), (53, 29, 37, 1, z0, 56), (56, 2, 1, 0, z0, 57), (57, 31, 1, 0, z0, 58), (58, 36, 1, 0, z0, 59)]
/-- X11_tinkers StrangeWinding.tinkers()I -/
def cd110 : List (Nat × Ent) := [(0, 0, 0, 0, z0, 1), (1, 5, 1, 0, z0, 2), (2, 0, 0, 0, z0, 3), (3, 5, 2, 0, z0, 4), (4, 2, 2, 0, z0, 5), (5, 4, 0, 0, z0, 6), (6, 29, 1, 2, z0, 9), (9, 29, 9, 10, z0, 12), (12, 28, 3, 45, z0, 15), (15, 4, 0, 0, z0, 16), (16, 29, 1, 5, z0, 19), (19, 29, 23, 0, z0, 22), (22, 4, 0, 0, z0, 23), (23, 29, 1, 2, z0, 26), (26, 2, 2, 0, z0, 27), (27, 34, 52, 3, vr 25 0, 30), (30, 27, 1, 39, z0, 33), (33, 2, 1, 0, z0, 34), (34, 0, 0, 0, vi (1), 35), (35, 2, 2, 0, z0, 36), (36, 9, 6, 0, z0, 37), (37, 9, 4, 0, z0, 38), (38, 5, 1, 0, z0, 39), (39, 8, 2, 0, vi (1), 42), (42, 26, 4, 0, z0, 45), (45, 2, 1, 0, z0, 46), (46, 36, 1, 0, z0, 47)]
/-- X11_years StrangeWinding.years(III)I -/
def cd111 : List (Nat × Ent) := [(0, 2, 1, 0, z0, 1), (1, 0, 0, 0, z0, 2), (2, 0, 0, 0, vi (9999), 5), (5, 34, 114, 3, z0, 8), (8, 27, 0, 30, z0, 11), (11, 2, 2, 0, z0, 12), (12, 0, 0, 0, vi (1), 13), (13, 0, 0, 0, vi (99), 15), (15, 34, 114, 3, z0, 18), (18, 27, 0, 30, z0, 21), (21, 2, 3, 0, z0, 22), (22, 0, 0, 0, z0, 23), (23, 0, 0, 0, vi (2), 24), (24, 34, 114, 3, z0, 27), (27, 27, 1, 32, z0, 30), (30, 0, 0, 0, vi (-1), 31), (31, 36, 1, 0, z0, 32), (32, 4, 0, 0, z0, 33), (33, 2, 1, 0, z0, 34), (34, 19, 0, 0, z0, 35), (35, 30, 1, 14, z0, 38), (38, 4, 0, 0, z0, 39), (39, 29, 1, 8, z0, 42), (42, 4, 0, 0, z0, 43), (43, 29, 1, 5, z0, 46), (46, 29, 23, 0, z0, 49), (49, 34, 45, 2, vr 25 0, 52), (52, 0, 0, 0, z0, 53), (53, 5, 4, 0, z0, 55), (55, 2, 4, 0, z0, 57), (57, 2, 2, 0, z0, 58), (58, 28, 3, 71, z0, 61), (61, 4, 0, 0, z0, 62), (62, 34, 127, 1, vr 1 0, 65), (65, 8, 4, 0, vi (1), 68), (68, 26, 55, 0, z0, 71), (71, 2, 3, 0, z0, 72), (72, 27, 1, 94, z0, 75), (75, 4, 0, 0, z0, 76), (76, 29, 1, 8, z0, 79), (79, 29, 25, 5, z0, 82), (82, 4, 0, 0, z0, 83), (83, 29, 1, 5, z0, 86), (86, 29, 23, 0, z0, 89), (89, 29, 25, 5, z0, 92), (92, 9, 1, 0, z0, 93), (93, 36, 1, 0, z0, 94), (94, 2, 3, 0, z0, 95), (95, 0, 0, 0, vi (1), 96), (96, 28, 1, 120, z0, 99), (99, 4, 0, 0, z0, 100), (100, 29, 1, 8, z0, 103), (103, 29, 25, 6, z0, 106), (106, 4, 0, 0, z0, 107), (107, 29, 1, 5, z0, 110), (110, 29, 23, 0, z0, 113), (113, 29, 25, 6, z0, 116), (116, 9, 1, 0, z0, 117), (117, 26, 131, 0, z0, 120), (120, 4, 0, 0, z0, 121), (121, 29, 1, 8, z0, 124), (124, 4, 0, 0, z0, 125), (125, 29, 1, 2, z0, 128), (128, 34, 48, 2, vr 25 0, 131), (131, 36, 1, 0, z0, 132)]
/-- X11_mark StrangeWinding.mark(IZ)Z -/
def cd112 : List (Nat × Ent) := [(0, 2, 1, 0, z0, 1), (1, 0, 0, 0, z0, 2), (2, 0, 0, 0, vi (3), 3), (3, 34, 114, 3, z0, 6), (6, 27, 1, 11, z0, 9), (9, 0, 0, 0, z0, 10), (10, 36, 2, 0, z0, 11), (11, 2, 2, 0, z0, 12), (12, 27, 1, 40, z0, 15), (15, 4, 0, 0, z0, 16), (16, 29, 1, 6, z0, 19), (19, 2, 1, 0, z0, 20), (20, 31, 5, 0, z0, 21), (21, 4, 0, 0, z0, 22), (22, 29, 1, 5, z0, 25), (25, 34, 41, 2, vr 23 0, 28), (28, 4, 0, 0, z0, 29), (29, 29, 1, 6, z0, 32), (32, 2, 1, 0, z0, 33), (33, 31, 5, 0, z0, 34), (34, 0, 0, 0, vi (1), 35), (35, 30, 23, 3, z0, 38), (38, 0, 0, 0, vi (1), 39), (39, 36, 2, 0, z0, 40), (40, 4, 0, 0, z0, 41), (41, 29, 1, 6, z0, 44), (44, 2, 1, 0, z0, 45), (45, 31, 5, 0, z0, 46), (46, 29, 23, 3, z0, 49), (49, 27, 1, 54, z0, 52), (52, 0, 0, 0, z0, 53), (53, 36, 2, 0, z0, 54), (54, 4, 0, 0, z0, 55), (55, 29, 1, 5, z0, 58), (58, 4, 0, 0, z0, 59), (59, 29, 1, 6, z0, 62), (62, 2, 1, 0, z0, 63), (63, 31, 5, 0, z0, 64), (64, 34, 41, 2, vr 23 0, 67), (67, 4, 0, 0, z0, 68), (68, 29, 1, 7, z0, 71), (71, 34, 20, 1, vr 29 0, 74), (74, 0, 0, 0, vi (1), 75), (75, 36, 2, 0, z0, 76)]
/-- X11_count StrangeWinding.count(I)I -/
def cd113 : List (Nat × Ent) := [(0, 4, 0, 0, z0, 1), (1, 29, 1, 5, z0, 4), (4, 29, 23, 0, z0, 7), (7, 7, 2, 0, z0, 8), (8, 2, 1, 0, z0, 9), (9, 38, 4, 0, z0, 76), (76, 4, 0, 0, z0, 77), (77, 29, 1, 2, z0, 80), (80, 29, 9, 9, z0, 83), (83, 36, 1, 0, z0, 84), (84, 4, 0, 0, z0, 85), (85, 29, 1, 2, z0, 88), (88, 29, 9, 10, z0, 91), (91, 36, 1, 0, z0, 92), (92, 4, 0, 0, z0, 93), (93, 29, 1, 2, z0, 96), (96, 29, 9, 11, z0, 99), (99, 36, 1, 0, z0, 100), (100, 4, 0, 0, z0, 101), (101, 29, 1, 2, z0, 104), (104, 29, 9, 12, z0, 107), (107, 36, 1, 0, z0, 108), (108, 4, 2, 0, z0, 109), (109, 29, 25, 4, z0, 112), (112, 36, 1, 0, z0, 113), (113, 4, 2, 0, z0, 114), (114, 4, 0, 0, z0, 115), (115, 29, 1, 2, z0, 118), (118, 34, 48, 2, vr 25 0, 121), (121, 36, 1, 0, z0, 122), (122, 4, 2, 0, z0, 123), (123, 29, 25, 3, z0, 126), (126, 36, 1, 0, z0, 127), (127, 4, 2, 0, z0, 128), (128, 4, 0, 0, z0, 129), (129, 29, 1, 2, z0, 132), (132, 34, 49, 2, vr 25 0, 135), (135, 36, 1, 0, z0, 136), (136, 4, 2, 0, z0, 137), (137, 29, 25, 5, z0, 140), (140, 36, 1, 0, z0, 141), (141, 4, 0, 0, z0, 142), (142, 29, 1, 5, z0, 145), (145, 29, 23, 1, z0, 148), (148, 29, 19, 3, z0, 151), (151, 36, 1, 0, z0, 152), (152, 4, 0, 0, z0, 153), (153, 29, 1, 5, z0, 156), (156, 34, 42, 1, vr 23 0, 159), (159, 36, 1, 0, z0, 160), (160, 4, 0, 0, z0, 161), (161, 29, 1, 7, z0, 164), (164, 29, 29, 2, z0, 167), (167, 36, 1, 0, z0, 168), (168, 4, 0, 0, z0, 169), (169, 29, 1, 0, z0, 172), (172, 29, 5, 1, z0, 175), (175, 36, 1, 0, z0, 176), (176, 0, 0, 0, vi (-1), 177), (177, 36, 1, 0, z0, 178)]
/-- X11_isWithin StrangeWinding.isWithin(III)Z -/
def cd114 : List (Nat × Ent) := [(0, 2, 0, 0, z0, 1), (1, 2, 1, 0, z0, 2), (2, 28, 2, 14, z0, 5), (5, 2, 0, 0, z0, 6), (6, 2, 2, 0, z0, 7), (7, 28, 4, 14, z0, 10), (10, 0, 0, 0, vi (1), 11), (11, 26, 15, 0, z0, 14), (14, 0, 0, 0, z0, 15), (15, 36, 2, 0, z0, 16)]
/-- X11_isPerson StrangeWinding.isPerson(I)Z -/
def cd115 : List (Nat × Ent) := [(0, 2, 1, 0, z0, 1), (1, 27, 2, 19, z0, 4), (4, 2, 1, 0, z0, 5), (5, 4, 0, 0, z0, 6), (6, 29, 1, 2, z0, 9), (9, 29, 9, 10, z0, 12), (12, 28, 3, 19, z0, 15), (15, 0, 0, 0, vi (1), 16), (16, 26, 20, 0, z0, 19), (19, 0, 0, 0, z0, 20), (20, 36, 2, 0, z0, 21)]
/-- X11_isStreet StrangeWinding.isStreet(I)Z -/
def cd116 : List (Nat × Ent) := [(0, 2, 1, 0, z0, 1), (1, 27, 2, 19, z0, 4), (4, 2, 1, 0, z0, 5), (5, 4, 0, 0, z0, 6), (6, 29, 1, 2, z0, 9), (9, 29, 9, 9, z0, 12), (12, 28, 3, 19, z0, 15), (15, 0, 0, 0, vi (1), 16), (16, 26, 20, 0, z0, 19), (19, 0, 0, 0, z0, 20), (20, 36, 2, 0, z0, 21)]
/-- X11_areTwo StrangeWinding.areTwo(II)Z -/
def cd117 : List (Nat × Ent) := [(0, 4, 0, 0, z0, 1), (1, 2, 1, 0, z0, 2), (2, 34, 115, 2, vr 1 0, 5), (5, 27, 0, 25, z0, 8), (8, 4, 0, 0, z0, 9), (9, 2, 2, 0, z0, 10), (10, 34, 115, 2, vr 1 0, 13), (13, 27, 0, 25, z0, 16), (16, 2, 1, 0, z0, 17), (17, 2, 2, 0, z0, 18), (18, 28, 0, 25, z0, 21), (21, 0, 0, 0, vi (1), 22), (22, 26, 26, 0, z0, 25), (25, 0, 0, 0, z0, 26), (26, 36, 2, 0, z0, 27)]
/-- X11_followLine StrangeWinding.followLine(LStrangeWinding$Week;I)Z -/
def cd118 : List (Nat × Ent) := [(0, 4, 1, 0, z0, 1), (1, 29, 19, 1, z0, 4), (4, 2, 2, 0, z0, 5), (5, 31, 1, 0, z0, 6), (6, 5, 3, 0, z0, 7), (7, 4, 1, 0, z0, 8), (8, 29, 19, 2, z0, 11), (11, 2, 2, 0, z0, 12), (12, 31, 1, 0, z0, 13), (13, 5, 4, 0, z0, 15), (15, 4, 1, 0, z0, 16), (16, 29, 19, 0, z0, 19), (19, 2, 2, 0, z0, 20), (20, 31, 1, 0, z0, 21), (21, 38, 5, 0, z0, 48), (48, 4, 0, 0, z0, 49), (49, 29, 1, 8, z0, 52), (52, 4, 0, 0, z0, 53), (53, 29, 1, 2, z0, 56), (56, 2, 3, 0, z0, 57), (57, 2, 4, 0, z0, 59), (59, 34, 55, 4, vr 25 0, 62), (62, 36, 2, 0, z0, 63), (63, 4, 0, 0, z0, 64), (64, 29, 1, 8, z0, 67), (67, 4, 0, 0, z0, 68), (68, 29, 1, 2, z0, 71), (71, 2, 3, 0, z0, 72), (72, 2, 4, 0, z0, 74), (74, 34, 56, 4, vr 25 0, 77), (77, 27, 1, 82, z0, 80), (80, 0, 0, 0, z0, 81), (81, 36, 2, 0, z0, 82), (82, 4, 0, 0, z0, 83), (83, 29, 1, 8, z0, 86), (86, 4, 0, 0, z0, 87), (87, 29, 1, 2, z0, 90), (90, 2, 3, 0, z0, 91), (91, 2, 4, 0, z0, 93), (93, 34, 59, 4, vr 25 0, 96), (96, 0, 0, 0, vi (1), 97), (97, 36, 2, 0, z0, 98), (98, 4, 0, 0, z0, 99), (99, 29, 1, 8, z0, 102), (102, 2, 3, 0, z0, 103), (103, 34, 46, 2, vr 25 0, 106), (106, 27, 1, 111, z0, 109), (109, 0, 0, 0, z0, 110), (110, 36, 2, 0, z0, 111), (111, 4, 0, 0, z0, 112), (112, 29, 1, 8, z0, 115), (115, 2, 3, 0, z0, 116), (116, 34, 60, 2, vr 25 0, 119), (119, 0, 0, 0, vi (1), 120), (120, 36, 2, 0, z0, 121), (121, 4, 0, 0, z0, 122), (122, 29, 1, 8, z0, 125), (125, 4, 0, 0, z0, 126), (126, 29, 1, 2, z0, 129), (129, 34, 61, 2, vr 25 0, 132), (132, 25, 0, 0, z0, 133), (133, 0, 0, 0, vi (1), 134), (134, 36, 2, 0, z0, 135)]
/-- X11_streetThatSaves StrangeWinding.streetThatSaves(II)I -/
def cd119 : List (Nat × Ent) := [(0, 2, 1, 0, z0, 1), (1, 27, 1, 33, z0, 4), (4, 4, 0, 0, z0, 5), (5, 29, 1, 8, z0, 8), (8, 4, 0, 0, z0, 9), (9, 29, 1, 5, z0, 12), (12, 29, 23, 0, z0, 15), (15, 34, 45, 2, vr 25 0, 18), (18, 4, 0, 0, z0, 19), (19, 2, 2, 0, z0, 20), (20, 34, 121, 2, vr 1 0, 23), (23, 27, 0, 30, z0, 26), (26, 0, 0, 0, vi (-1), 27), (27, 26, 32, 0, z0, 30), (30, 0, 0, 0, vi (-2), 32), (32, 36, 1, 0, z0, 33), (33, 0, 0, 0, z0, 34), (34, 5, 3, 0, z0, 35), (35, 2, 3, 0, z0, 36), (36, 4, 0, 0, z0, 37), (37, 29, 1, 2, z0, 40), (40, 29, 9, 9, z0, 43), (43, 28, 3, 126, z0, 46), (46, 4, 0, 0, z0, 47), (47, 2, 1, 0, z0, 48), (48, 2, 3, 0, z0, 49), (49, 34, 120, 3, vr 1 0, 52), (52, 27, 0, 120, z0, 55), (55, 4, 0, 0, z0, 56), (56, 29, 1, 8, z0, 59), (59, 4, 0, 0, z0, 60), (60, 29, 1, 5, z0, 63), (63, 29, 23, 0, z0, 66), (66, 34, 45, 2, vr 25 0, 69), (69, 0, 0, 0, z0, 70), (70, 5, 4, 0, z0, 72), (72, 2, 4, 0, z0, 74), (74, 4, 0, 0, z0, 75), (75, 29, 1, 2, z0, 78), (78, 29, 9, 10, z0, 81), (81, 28, 3, 110, z0, 84), (84, 2, 1, 0, z0, 85), (85, 2, 4, 0, z0, 87), (87, 9, 7, 0, z0, 88), (88, 0, 0, 0, vi (1), 89), (89, 9, 3, 0, z0, 90), (90, 27, 0, 104, z0, 93), (93, 4, 0, 0, z0, 94), (94, 29, 1, 8, z0, 97), (97, 29, 25, 0, z0, 100), (100, 2, 4, 0, z0, 102), (102, 2, 3, 0, z0, 103), (103, 32, 1, 0, z0, 104), (104, 8, 4, 0, vi (1), 107), (107, 26, 72, 0, z0, 110), (110, 4, 0, 0, z0, 111), (111, 2, 2, 0, z0, 112), (112, 34, 121, 2, vr 1 0, 115), (115, 27, 0, 120, z0, 118), (118, 2, 3, 0, z0, 119), (119, 36, 1, 0, z0, 120), (120, 8, 3, 0, vi (1), 123), (123, 26, 35, 0, z0, 126), (126, 0, 0, 0, vi (-2), 128), (128, 36, 1, 0, z0, 129)]
/-- X11_allCanWalk StrangeWinding.allCanWalk(II)Z -/
def cd120 : List (Nat × Ent) := [(0, 0, 0, 0, z0, 1), (1, 5, 3, 0, z0, 2), (2, 2, 3, 0, z0, 3), (3, 4, 0, 0, z0, 4), (4, 29, 1, 2, z0, 7), (7, 29, 9, 10, z0, 10), (10, 28, 3, 48, z0, 13), (13, 2, 1, 0, z0, 14), (14, 2, 3, 0, z0, 15), (15, 9, 7, 0, z0, 16), (16, 0, 0, 0, vi (1), 17), (17, 9, 3, 0, z0, 18), (18, 27, 0, 42, z0, 21), (21, 4, 0, 0, z0, 22), (22, 29, 1, 5, z0, 25), (25, 29, 23, 0, z0, 28), (28, 4, 0, 0, z0, 29), (29, 29, 1, 2, z0, 32), (32, 2, 3, 0, z0, 33), (33, 2, 2, 0, z0, 34), (34, 34, 54, 4, vr 25 0, 37), (37, 27, 1, 42, z0, 40), (40, 0, 0, 0, z0, 41), (41, 36, 2, 0, z0, 42), (42, 8, 3, 0, vi (1), 45), (45, 26, 2, 0, z0, 48), (48, 0, 0, 0, vi (1), 49), (49, 36, 2, 0, z0, 50)]
/-- X11_endsWithoutSitters StrangeWinding.endsWithoutSitters(I)Z -/
def cd121 : List (Nat × Ent) := [(0, 0, 0, 0, z0, 1), (1, 5, 2, 0, z0, 2), (2, 2, 2, 0, z0, 3), (3, 2, 1, 0, z0, 4), (4, 28, 3, 25, z0, 7), (7, 4, 0, 0, z0, 8), (8, 29, 1, 8, z0, 11), (11, 4, 0, 0, z0, 12), (12, 29, 1, 2, z0, 15), (15, 34, 61, 2, vr 25 0, 18), (18, 25, 0, 0, z0, 19), (19, 8, 2, 0, vi (1), 22), (22, 26, 2, 0, z0, 25), (25, 4, 0, 0, z0, 26), (26, 29, 1, 8, z0, 29), (29, 4, 0, 0, z0, 30), (30, 29, 1, 2, z0, 33), (33, 34, 48, 2, vr 25 0, 36), (36, 27, 1, 43, z0, 39), (39, 0, 0, 0, vi (1), 40), (40, 26, 44, 0, z0, 43), (43, 0, 0, 0, z0, 44), (44, 36, 2, 0, z0, 45)]
/-- X11_shareOut StrangeWinding.shareOut()V -/
def cd122 : List (Nat × Ent) := [(0, 4, 0, 0, z0, 1), (1, 29, 1, 13, z0, 4), (4, 0, 0, 0, z0, 5), (5, 34, 250, 2, z0, 8), (8, 0, 0, 0, z0, 9), (9, 5, 1, 0, z0, 10), (10, 2, 1, 0, z0, 11), (11, 4, 0, 0, z0, 12), (12, 29, 1, 2, z0, 15), (15, 29, 9, 9, z0, 18), (18, 28, 3, 52, z0, 21), (21, 0, 0, 0, z0, 22), (22, 5, 2, 0, z0, 23), (23, 2, 2, 0, z0, 24), (24, 4, 0, 0, z0, 25), (25, 29, 1, 2, z0, 28), (28, 29, 9, 9, z0, 31), (31, 28, 3, 46, z0, 34), (34, 4, 0, 0, z0, 35), (35, 2, 1, 0, z0, 36), (36, 2, 2, 0, z0, 37), (37, 34, 123, 3, vr 1 0, 40), (40, 8, 2, 0, vi (1), 43), (43, 26, 23, 0, z0, 46), (46, 8, 1, 0, vi (1), 49), (49, 26, 10, 0, z0, 52), (52, 4, 0, 0, z0, 53), (53, 29, 1, 13, z0, 56), (56, 0, 0, 0, z0, 57), (57, 4, 0, 0, z0, 58), (58, 29, 1, 12, z0, 61), (61, 0, 0, 0, z0, 62), (62, 4, 0, 0, z0, 63), (63, 29, 1, 12, z0, 66), (66, 33, 0, 0, z0, 67), (67, 46, 0, 0, z0, 70), (70, 35, 0, 0, z0, 71)]
/-- X11_shareFrom StrangeWinding.shareFrom(II)V -/
def cd123 : List (Nat × Ent) := [(0, 4, 0, 0, z0, 1), (1, 29, 1, 12, z0, 4), (4, 2, 1, 0, z0, 5), (5, 0, 0, 0, vi (5), 6), (6, 9, 2, 0, z0, 7), (7, 2, 2, 0, z0, 8), (8, 9, 0, 0, z0, 9), (9, 31, 1, 0, z0, 10), (10, 5, 3, 0, z0, 11), (11, 2, 1, 0, z0, 12), (12, 2, 2, 0, z0, 13), (13, 28, 1, 31, z0, 16), (16, 4, 0, 0, z0, 17), (17, 29, 1, 13, z0, 20), (20, 2, 1, 0, z0, 21), (21, 0, 0, 0, vi (5), 22), (22, 9, 2, 0, z0, 23), (23, 2, 2, 0, z0, 24), (24, 9, 0, 0, z0, 25), (25, 24, 0, 0, z0, 26), (26, 31, 1, 0, z0, 27), (27, 2, 3, 0, z0, 28), (28, 9, 0, 0, z0, 29), (29, 32, 1, 0, z0, 30), (30, 35, 0, 0, z0, 31), (31, 4, 0, 0, z0, 32), (32, 29, 1, 2, z0, 35), (35, 29, 9, 1, z0, 38), (38, 2, 1, 0, z0, 39), (39, 31, 1, 0, z0, 40), (40, 0, 0, 0, vi (1), 41), (41, 2, 1, 0, z0, 42), (42, 9, 6, 0, z0, 43), (43, 9, 4, 0, z0, 44), (44, 5, 4, 0, z0, 46), (46, 4, 0, 0, z0, 47), (47, 29, 1, 2, z0, 50), (50, 29, 9, 1, z0, 53), (53, 2, 2, 0, z0, 54), (54, 31, 1, 0, z0, 55), (55, 0, 0, 0, vi (1), 56), (56, 2, 2, 0, z0, 57), (57, 9, 6, 0, z0, 58), (58, 9, 4, 0, z0, 59), (59, 5, 5, 0, z0, 61), (61, 2, 4, 0, z0, 63), (63, 34, 238, 1, z0, 66), (66, 2, 5, 0, z0, 68), (68, 34, 238, 1, z0, 71), (71, 9, 2, 0, z0, 72), (72, 5, 6, 0, z0, 74), (74, 2, 3, 0, z0, 75), (75, 27, 0, 83, z0, 78), (78, 2, 6, 0, z0, 80), (80, 27, 1, 84, z0, 83), (83, 35, 0, 0, z0, 84), (84, 0, 0, 0, z0, 85), (85, 5, 7, 0, z0, 87), (87, 2, 7, 0, z0, 89), (89, 4, 0, 0, z0, 90), (90, 29, 1, 2, z0, 93), (93, 29, 9, 9, z0, 96), (96, 28, 3, 165, z0, 99), (99, 0, 0, 0, z0, 100), (100, 5, 8, 0, z0, 102), (102, 2, 8, 0, z0, 104), (104, 4, 0, 0, z0, 105), (105, 29, 1, 2, z0, 108), (108, 29, 9, 9, z0, 111), (111, 28, 3, 159, z0, 114), (114, 2, 4, 0, z0, 116), (116, 2, 7, 0, z0, 118), (118, 9, 7, 0, z0, 119), (119, 0, 0, 0, vi (1), 120), (120, 9, 3, 0, z0, 121), (121, 27, 0, 153, z0, 124), (124, 2, 5, 0, z0, 126), (126, 2, 8, 0, z0, 128), (128, 9, 7, 0, z0, 129), (129, 0, 0, 0, vi (1), 130), (130, 9, 3, 0, z0, 131), (131, 27, 0, 153, z0, 134), (134, 4, 0, 0, z0, 135), (135, 29, 1, 13, z0, 138), (138, 2, 7, 0, z0, 140), (140, 0, 0, 0, vi (5), 141), (141, 9, 2, 0, z0, 142), (142, 2, 8, 0, z0, 144), (144, 9, 0, 0, z0, 145), (145, 24, 0, 0, z0, 146), (146, 31, 1, 0, z0, 147), (147, 2, 3, 0, z0, 148), (148, 2, 6, 0, z0, 150), (150, 10, 0, 0, z0, 151), (151, 9, 0, 0, z0, 152), (152, 32, 1, 0, z0, 153), (153, 8, 8, 0, vi (1), 156), (156, 26, 102, 0, z0, 159), (159, 8, 7, 0, vi (1), 162), (162, 26, 87, 0, z0, 165), (165, 35, 0, 0, z0, 166)]
/-- X11_isAtRest StrangeWinding.isAtRest(IIII)Z -/
def cd124 : List (Nat × Ent) := [(0, 2, 0, 0, z0, 1), (1, 0, 0, 0, vi (1), 2), (2, 9, 7, 0, z0, 3), (3, 5, 4, 0, z0, 5), (5, 2, 0, 0, z0, 6), (6, 0, 0, 0, vi (1), 7), (7, 9, 3, 0, z0, 8), (8, 5, 5, 0, z0, 10), (10, 2, 4, 0, z0, 12), (12, 2, 5, 0, z0, 14), (14, 2, 1, 0, z0, 15), (15, 2, 2, 0, z0, 16), (16, 2, 3, 0, z0, 17), (17, 34, 125, 5, z0, 20), (20, 0, 0, 0, vi (1), 21), (21, 2, 4, 0, z0, 23), (23, 9, 1, 0, z0, 24), (24, 2, 5, 0, z0, 26), (26, 2, 1, 0, z0, 27), (27, 2, 2, 0, z0, 28), (28, 2, 3, 0, z0, 29), (29, 34, 125, 5, z0, 32), (32, 28, 2, 64, z0, 35), (35, 2, 5, 0, z0, 37), (37, 2, 4, 0, z0, 39), (39, 2, 1, 0, z0, 40), (40, 2, 2, 0, z0, 41), (41, 2, 3, 0, z0, 42), (42, 34, 125, 5, z0, 45), (45, 0, 0, 0, vi (1), 46), (46, 2, 5, 0, z0, 48), (48, 9, 1, 0, z0, 49), (49, 2, 4, 0, z0, 51), (51, 2, 1, 0, z0, 52), (52, 2, 2, 0, z0, 53), (53, 2, 3, 0, z0, 54), (54, 34, 125, 5, z0, 57), (57, 28, 2, 64, z0, 60), (60, 0, 0, 0, vi (1), 61), (61, 26, 65, 0, z0, 64), (64, 0, 0, 0, z0, 65), (65, 36, 2, 0, z0, 66)]
/-- X11_payOf StrangeWinding.payOf(IIIII)I -/
def cd125 : List (Nat × Ent) := [(0, 2, 0, 0, z0, 1), (1, 0, 0, 0, vi (1), 2), (2, 28, 1, 17, z0, 5), (5, 2, 1, 0, z0, 6), (6, 0, 0, 0, vi (1), 7), (7, 28, 1, 14, z0, 10), (10, 2, 2, 0, z0, 11), (11, 26, 16, 0, z0, 14), (14, 2, 3, 0, z0, 15), (15, 12, 0, 0, z0, 16), (16, 36, 1, 0, z0, 17), (17, 2, 1, 0, z0, 18), (18, 0, 0, 0, vi (1), 19), (19, 28, 1, 27, z0, 22), (22, 2, 4, 0, z0, 24), (24, 26, 28, 0, z0, 27), (27, 0, 0, 0, z0, 28), (28, 36, 1, 0, z0, 29)]
/-- X11_drawBelow StrangeWinding.drawBelow(I)I -/
def cd126 : List (Nat × Ent) := [(0, 4, 0, 0, z0, 1), (1, 4, 0, 0, z0, 2), (2, 29, 1, 14, z0, 5), (5, 0, 0, 0, vl (1103515245), 8), (8, 13, 2, 0, z0, 9), (9, 0, 0, 0, vl (12345), 12), (12, 13, 0, 0, z0, 13), (13, 0, 0, 0, vl (2147483647), 16), (16, 13, 3, 0, z0, 17), (17, 30, 1, 14, z0, 20), (20, 2, 1, 0, z0, 21), (21, 27, 5, 39, z0, 24), (24, 4, 0, 0, z0, 25), (25, 29, 1, 14, z0, 28), (28, 0, 0, 0, vl (65536), 31), (31, 16, 0, 0, z0, 32), (32, 2, 1, 0, z0, 33), (33, 19, 0, 0, z0, 34), (34, 17, 0, 0, z0, 35), (35, 20, 0, 0, z0, 36), (36, 26, 40, 0, z0, 39), (39, 0, 0, 0, z0, 40), (40, 36, 1, 0, z0, 41)]
/-- X11_passDrawnHour StrangeWinding.passDrawnHour()V -/
def cd127 : List (Nat × Ent) := [(0, 4, 0, 0, z0, 1), (1, 29, 1, 2, z0, 4), (4, 29, 9, 10, z0, 7), (7, 27, 5, 48, z0, 10), (10, 4, 0, 0, z0, 11), (11, 4, 0, 0, z0, 12), (12, 29, 1, 2, z0, 15), (15, 29, 9, 10, z0, 18), (18, 34, 126, 2, vr 1 0, 21), (21, 5, 1, 0, z0, 22), (22, 4, 0, 0, z0, 23), (23, 4, 0, 0, z0, 24), (24, 29, 1, 2, z0, 27), (27, 29, 9, 9, z0, 30), (30, 34, 126, 2, vr 1 0, 33), (33, 5, 2, 0, z0, 34), (34, 4, 0, 0, z0, 35), (35, 29, 1, 8, z0, 38), (38, 4, 0, 0, z0, 39), (39, 29, 1, 2, z0, 42), (42, 2, 1, 0, z0, 43), (43, 2, 2, 0, z0, 44), (44, 34, 55, 4, vr 25 0, 47), (47, 25, 0, 0, z0, 48), (48, 4, 0, 0, z0, 49), (49, 29, 1, 8, z0, 52), (52, 4, 0, 0, z0, 53), (53, 29, 1, 2, z0, 56), (56, 34, 61, 2, vr 25 0, 59), (59, 25, 0, 0, z0, 60), (60, 4, 0, 0, z0, 61), (61, 0, 0, 0, vi (9), 63), (63, 34, 126, 2, vr 1 0, 66), (66, 27, 1, 107, z0, 69), (69, 0, 0, 0, z0, 70), (70, 5, 1, 0, z0, 71), (71, 2, 1, 0, z0, 72), (72, 4, 0, 0, z0, 73), (73, 29, 1, 2, z0, 76), (76, 29, 9, 10, z0, 79), (79, 28, 3, 107, z0, 82), (82, 4, 0, 0, z0, 83), (83, 29, 1, 8, z0, 86), (86, 2, 1, 0, z0, 87), (87, 34, 46, 2, vr 25 0, 90), (90, 27, 0, 101, z0, 93), (93, 4, 0, 0, z0, 94), (94, 29, 1, 8, z0, 97), (97, 2, 1, 0, z0, 98), (98, 34, 60, 2, vr 25 0, 101), (101, 8, 1, 0, vi (1), 104), (104, 26, 71, 0, z0, 107), (107, 35, 0, 0, z0, 108)]
/-- X12_init StrangeWindingModel.<init>()V -/
def cd128 : List (Nat × Ent) := [(0, 4, 0, 0, z0, 1), (1, 44, 0, 0, z0, 4), (4, 4, 0, 0, z0, 5), (5, 0, 0, 0, vi (1000), 8), (8, 40, 41, 0, z0, 10), (10, 30, 40, 2, z0, 13), (13, 4, 0, 0, z0, 14), (14, 0, 0, 0, vi (8), 16), (16, 40, 42, 0, z0, 18), (18, 30, 40, 10, z0, 21), (21, 4, 0, 0, z0, 22), (22, 0, 0, 0, vi (10), 24), (24, 40, 43, 0, z0, 26), (26, 30, 40, 11, z0, 29), (29, 4, 0, 0, z0, 30), (30, 0, 0, 0, vi (12), 32), (32, 40, 44, 0, z0, 34), (34, 30, 40, 12, z0, 37), (37, 4, 0, 0, z0, 38), (38, 0, 0, 0, vi (10), 40), (40, 40, 45, 0, z0, 42), (42, 30, 40, 13, z0, 45), (45, 4, 0, 0, z0, 46), (46, 0, 0, 0, vi (12), 48), (48, 40, 46, 0, z0, 50), (50, 30, 40, 14, z0, 53), (53, 4, 0, 0, z0, 54), (54, 0, 0, 0, vi (12), 56), (56, 40, 47, 0, z0, 58), (58, 30, 40, 15, z0, 61), (61, 4, 0, 0, z0, 62), (62, 0, 0, 0, vi (12), 64), (64, 40, 48, 0, z0, 66), (66, 30, 40, 16, z0, 69), (69, 4, 0, 0, z0, 70), (70, 0, 0, 0, vi (12), 72), (72, 40, 49, 0, z0, 74), (74, 30, 40, 17, z0, 77), (77, 4, 0, 0, z0, 78), (78, 0, 0, 0, vi (2), 79), (79, 40, 50, 0, z0, 81), (81, 30, 40, 18, z0, 84), (84, 4, 0, 0, z0, 85), (85, 0, 0, 0, vi (2), 86), (86, 40, 51, 0, z0, 88), (88, 30, 40, 19, z0, 91), (91, 4, 0, 0, z0, 92), (92, 0, 0, 0, vi (2000), 95), (95, 40, 52, 0, z0, 97), (97, 30, 40, 20, z0, 100), (100, 4, 0, 0, z0, 101), (101, 0, 0, 0, vi (7), 103), (103, 40, 53, 0, z0, 105), (105, 30, 40, 23, z0, 108), (108, 4, 0, 0, z0, 109), (109, 0, 0, 0, vi (7), 111), (111, 40, 54, 0, z0, 113), (113, 30, 40, 24, z0, 116), (116, 4, 0, 0, z0, 117), (117, 0, 0, 0, vi (7), 119), (119, 40, 55, 0, z0, 121), (121, 30, 40, 25, z0, 124), (124, 4, 0, 0, z0, 125), (125, 0, 0, 0, vi (7), 127), (127, 40, 56, 0, z0, 129), (129, 30, 40, 26, z0, 132), (132, 4, 0, 0, z0, 133), (133, 0, 0, 0, vi (7), 135), (135, 40, 57, 0, z0, 137), (137, 30, 40, 27, z0, 140), (140, 4, 0, 0, z0, 141), (141, 0, 0, 0, vi (7), 143), (143, 40, 58, 0, z0, 145), (145, 30, 40, 28, z0, 148), (148, 4, 0, 0, z0, 149), (149, 0, 0, 0, vi (7), 151), (151, 40, 59, 0, z0, 153), (153, 30, 40, 29, z0, 156), (156, 4, 0, 0, z0, 157), (157, 0, 0, 0, vi (7), 159), (159, 40, 60, 0, z0, 161), (161, 30, 40, 30, z0, 164), (164, 4, 0, 0, z0, 165), (165, 0, 0, 0, vi (7), 167), (167, 40, 61, 0, z0, 169), (169, 30, 40, 31, z0, 172), (172, 4, 0, 0, z0, 173), (173, 0, 0, 0, vi (7), 175), (175, 40, 62, 0, z0, 177), (177, 30, 40, 32, z0, 180), (180, 4, 0, 0, z0, 181), (181, 0, 0, 0, vi (7), 183), (183, 40, 63, 0, z0, 185), (185, 30, 40, 33, z0, 188), (188, 4, 0, 0, z0, 189), (189, 0, 0, 0, vi (20), 191), (191, 40, 64, 0, z0, 193), (193, 30, 40, 34, z0, 196), (196, 4, 0, 0, z0, 197), (197, 0, 0, 0, vi (6), 199), (199, 40, 65, 0, z0, 201), (201, 30, 40, 38, z0, 204), (204, 4, 0, 0, z0, 205), (205, 0, 0, 0, vi (240), 208), (208, 40, 66, 0, z0, 210), (210, 30, 40, 39, z0, 213), (213, 4, 0, 0, z0, 214), (214, 0, 0, 0, vi (240), 217), (217, 40, 67, 0, z0, 219), (219, 30, 40, 40, z0, 222), (222, 4, 0, 0, z0, 223), (223, 0, 0, 0, vi (240), 226), (226, 40, 68, 0, z0, 228), (228, 30, 40, 41, z0, 231), (231, 4, 0, 0, z0, 232), (232, 0, 0, 0, vi (30), 234), (234, 40, 69, 0, z0, 236), (236, 30, 40, 42, z0, 239), (239, 4, 0, 0, z0, 240), (240, 0, 0, 0, vi (50), 242), (242, 40, 70, 0, z0, 244), (244, 30, 40, 43, z0, 247), (247, 4, 0, 0, z0, 248), (248, 0, 0, 0, vi (50), 250), (250, 40, 71, 0, z0, 252), (252, 30, 40, 44, z0, 255), (255, 4, 0, 0, z0, 256), (256, 0, 0, 0, vi (250), 259), (259, 40, 72, 0, z0, 261), (261, 30, 40, 45, z0, 264), (264, 4, 0, 0, z0, 265), (265, 0, 0, 0, vi (200), 268), (268, 40, 73, 0, z0, 270), (270, 30, 40, 46, z0, 273), (273, 4, 0, 0, z0, 274), (274, 0, 0, 0, vi (800), 277), (277, 40, 74, 0, z0, 279), (279, 30, 40, 47, z0, 282), (282, 4, 0, 0, z0, 283), (283, 0, 0, 0, vi (4), 284), (284, 40, 75, 0, z0, 286), (286, 30, 40, 48, z0, 289), (289, 4, 0, 0, z0, 290), (290, 0, 0, 0, vi (4), 291), (291, 40, 76, 0, z0, 293), (293, 30, 40, 51, z0, 296), (296, 4, 0, 0, z0, 297), (297, 0, 0, 0, vi (4), 298), (298, 40, 77, 0, z0, 300), (300, 30, 40, 52, z0, 303), (303, 4, 0, 0, z0, 304), (304, 0, 0, 0, vi (50), 306), (306, 40, 78, 0, z0, 308), (308, 30, 40, 54, z0, 311), (311, 4, 0, 0, z0, 312), (312, 0, 0, 0, vi (6), 314), (314, 40, 79, 0, z0, 316), (316, 30, 40, 55, z0, 319), (319, 4, 0, 0, z0, 320), (320, 0, 0, 0, vi (6), 322), (322, 40, 80, 0, z0, 324), (324, 30, 40, 56, z0, 327), (327, 4, 0, 0, z0, 328), (328, 29, 40, 10, z0, 331), (331, 0, 0, 0, vi (2), 332), (332, 0, 0, 0, vi (3), 333), (333, 32, 1, 0, z0, 334), (334, 4, 0, 0, z0, 335), (335, 29, 40, 10, z0, 338), (338, 0, 0, 0, vi (3), 339), (339, 0, 0, 0, vi (60), 341), (341, 32, 1, 0, z0, 342), (342, 4, 0, 0, z0, 343), (343, 34, 171, 1, vr 40 0, 346), (346, 4, 0, 0, z0, 347), (347, 34, 172, 1, vr 40 0, 350), (350, 35, 0, 0, z0, 351)]
/-- X12_thrown StrangeWindingModel.thrown()I -/
def cd129 : List (Nat × Ent) := [(0, 4, 0, 0, z0, 1), (1, 29, 40, 0, z0, 4), (4, 36, 1, 0, z0, 5)]
/-- X12_within StrangeWindingModel.within(III)Z -/
def cd130 : List (Nat × Ent) := [(0, 2, 0, 0, z0, 1), (1, 2, 1, 0, z0, 2), (2, 28, 2, 14, z0, 5), (5, 2, 0, 0, z0, 6), (6, 2, 2, 0, z0, 7), (7, 28, 4, 14, z0, 10), (10, 0, 0, 0, vi (1), 11), (11, 26, 15, 0, z0, 14), (14, 0, 0, 0, z0, 15), (15, 36, 2, 0, z0, 16)]
/-- X12_between StrangeWindingModel.between(III)I -/
def cd131 : List (Nat × Ent) := [(0, 2, 0, 0, z0, 1), (1, 2, 1, 0, z0, 2), (2, 28, 3, 9, z0, 5), (5, 2, 1, 0, z0, 6), (6, 26, 19, 0, z0, 9), (9, 2, 0, 0, z0, 10), (10, 2, 2, 0, z0, 11), (11, 28, 5, 18, z0, 14), (14, 2, 2, 0, z0, 15), (15, 26, 19, 0, z0, 18), (18, 2, 0, 0, z0, 19), (19, 36, 1, 0, z0, 20)]
/-- X12_bits StrangeWindingModel.bits(I)I -/
def cd132 : List (Nat × Ent) := [(0, 0, 0, 0, z0, 1), (1, 5, 1, 0, z0, 2), (2, 0, 0, 0, z0, 3), (3, 5, 2, 0, z0, 4), (4, 2, 2, 0, z0, 5), (5, 0, 0, 0, vi (6), 7), (7, 28, 3, 24, z0, 10), (10, 2, 1, 0, z0, 11), (11, 2, 0, 0, z0, 12), (12, 2, 2, 0, z0, 13), (13, 9, 7, 0, z0, 14), (14, 0, 0, 0, vi (1), 15), (15, 9, 3, 0, z0, 16), (16, 9, 0, 0, z0, 17), (17, 5, 1, 0, z0, 18), (18, 8, 2, 0, vi (1), 21), (21, 26, 4, 0, z0, 24), (24, 2, 1, 0, z0, 25), (25, 36, 1, 0, z0, 26)]
/-- X12_feed StrangeWindingModel.feed(JJJ)I -/
def cd133 : List (Nat × Ent) := [(0, 4, 0, 0, z0, 1), (1, 0, 0, 0, z0, 2), (2, 30, 40, 0, z0, 5), (5, 0, 0, 0, z0, 6), (6, 5, 7, 0, z0, 8), (8, 2, 7, 0, z0, 10), (10, 0, 0, 0, vi (24), 12), (12, 28, 3, 120, z0, 15), (15, 2, 7, 0, z0, 17), (17, 0, 0, 0, vi (8), 19), (19, 28, 3, 26, z0, 22), (22, 3, 1, 0, z0, 23), (23, 26, 39, 0, z0, 26), (26, 2, 7, 0, z0, 28), (28, 0, 0, 0, vi (16), 30), (30, 28, 3, 37, z0, 33), (33, 3, 3, 0, z0, 34), (34, 26, 39, 0, z0, 37), (37, 3, 5, 0, z0, 39), (39, 6, 8, 0, z0, 41), (41, 3, 8, 0, z0, 43), (43, 0, 0, 0, vi (56), 45), (45, 0, 0, 0, vi (8), 47), (47, 2, 7, 0, z0, 49), (49, 0, 0, 0, vi (7), 51), (51, 9, 3, 0, z0, 52), (52, 9, 2, 0, z0, 53), (53, 9, 1, 0, z0, 54), (54, 15, 0, 0, z0, 55), (55, 0, 0, 0, vl (255), 58), (58, 13, 3, 0, z0, 59), (59, 20, 0, 0, z0, 60), (60, 5, 10, 0, z0, 62), (62, 4, 0, 0, z0, 63), (63, 29, 40, 1, z0, 66), (66, 0, 0, 0, vi (1000), 69), (69, 28, 3, 114, z0, 72), (72, 2, 10, 0, z0, 74), (74, 0, 0, 0, vi (10), 76), (76, 28, 0, 93, z0, 79), (79, 2, 10, 0, z0, 81), (81, 0, 0, 0, vi (32), 83), (83, 28, 2, 114, z0, 86), (86, 2, 10, 0, z0, 88), (88, 0, 0, 0, vi (126), 90), (90, 28, 4, 114, z0, 93), (93, 4, 0, 0, z0, 94), (94, 29, 40, 2, z0, 97), (97, 4, 0, 0, z0, 98), (98, 29, 40, 1, z0, 101), (101, 2, 10, 0, z0, 103), (103, 32, 1, 0, z0, 104), (104, 4, 0, 0, z0, 105), (105, 23, 0, 0, z0, 106), (106, 29, 40, 1, z0, 109), (109, 0, 0, 0, vi (1), 110), (110, 9, 0, 0, z0, 111), (111, 30, 40, 1, z0, 114), (114, 8, 7, 0, vi (1), 117), (117, 26, 8, 0, z0, 120), (120, 4, 0, 0, z0, 121), (121, 29, 40, 1, z0, 124), (124, 36, 1, 0, z0, 125)]
/-- X12_signAt StrangeWindingModel.signAt(I)I -/
def cd134 : List (Nat × Ent) := [(0, 2, 1, 0, z0, 1), (1, 4, 0, 0, z0, 2), (2, 29, 40, 3, z0, 5), (5, 28, 3, 17, z0, 8), (8, 4, 0, 0, z0, 9), (9, 29, 40, 2, z0, 12), (12, 2, 1, 0, z0, 13), (13, 31, 1, 0, z0, 14), (14, 26, 18, 0, z0, 17), (17, 0, 0, 0, z0, 18), (18, 36, 1, 0, z0, 19)]
/-- X12_nextToken StrangeWindingModel.nextToken()V -/
def cd135 : List (Nat × Ent) := [(0, 4, 0, 0, z0, 1), (1, 29, 40, 4, z0, 4), (4, 4, 0, 0, z0, 5), (5, 29, 40, 3, z0, 8), (8, 28, 3, 52, z0, 11), (11, 4, 0, 0, z0, 12), (12, 29, 40, 2, z0, 15), (15, 4, 0, 0, z0, 16), (16, 29, 40, 4, z0, 19), (19, 31, 1, 0, z0, 20), (20, 0, 0, 0, vi (32), 22), (22, 28, 0, 39, z0, 25), (25, 4, 0, 0, z0, 26), (26, 29, 40, 2, z0, 29), (29, 4, 0, 0, z0, 30), (30, 29, 40, 4, z0, 33), (33, 31, 1, 0, z0, 34), (34, 0, 0, 0, vi (10), 36), (36, 28, 1, 52, z0, 39), (39, 4, 0, 0, z0, 40), (40, 23, 0, 0, z0, 41), (41, 29, 40, 4, z0, 44), (44, 0, 0, 0, vi (1), 45), (45, 9, 0, 0, z0, 46), (46, 30, 40, 4, z0, 49), (49, 26, 0, 0, z0, 52), (52, 4, 0, 0, z0, 53), (53, 4, 0, 0, z0, 54), (54, 29, 40, 4, z0, 57), (57, 30, 40, 5, z0, 60), (60, 4, 0, 0, z0, 61), (61, 0, 0, 0, vl (0), 62), (62, 30, 40, 7, z0, 65), (65, 4, 0, 0, z0, 66), (66, 0, 0, 0, z0, 67), (67, 30, 40, 8, z0, 70), (70, 4, 0, 0, z0, 71), (71, 29, 40, 4, z0, 74), (74, 4, 0, 0, z0, 75), (75, 29, 40, 3, z0, 78), (78, 28, 1, 87, z0, 81), (81, 4, 0, 0, z0, 82), (82, 0, 0, 0, z0, 83), (83, 30, 40, 6, z0, 86), (86, 35, 0, 0, z0, 87), (87, 4, 0, 0, z0, 88), (88, 29, 40, 2, z0, 91), (91, 4, 0, 0, z0, 92), (92, 29, 40, 4, z0, 95), (95, 31, 1, 0, z0, 96), (96, 5, 1, 0, z0, 97), (97, 2, 1, 0, z0, 98), (98, 0, 0, 0, vi (97), 100), (100, 28, 2, 212, z0, 103), (103, 2, 1, 0, z0, 104), (104, 0, 0, 0, vi (122), 106), (106, 28, 4, 212, z0, 109), (109, 4, 0, 0, z0, 110), (110, 4, 0, 0, z0, 111), (111, 29, 40, 4, z0, 114), (114, 34, 134, 2, vr 40 0, 117), (117, 0, 0, 0, vi (97), 119), (119, 28, 2, 188, z0, 122), (122, 4, 0, 0, z0, 123), (123, 4, 0, 0, z0, 124), (124, 29, 40, 4, z0, 127), (127, 34, 134, 2, vr 40 0, 130), (130, 0, 0, 0, vi (122), 132), (132, 28, 4, 188, z0, 135), (135, 4, 0, 0, z0, 136), (136, 29, 40, 4, z0, 139), (139, 4, 0, 0, z0, 140), (140, 29, 40, 5, z0, 143), (143, 9, 1, 0, z0, 144), (144, 0, 0, 0, vi (8), 146), (146, 28, 3, 175, z0, 149), (149, 4, 0, 0, z0, 150), (150, 4, 0, 0, z0, 151), (151, 29, 40, 7, z0, 154), (154, 0, 0, 0, vl (27), 157), (157, 13, 2, 0, z0, 158), (158, 4, 0, 0, z0, 159), (159, 4, 0, 0, z0, 160), (160, 29, 40, 4, z0, 163), (163, 34, 134, 2, vr 40 0, 166), (166, 19, 0, 0, z0, 167), (167, 13, 0, 0, z0, 168), (168, 0, 0, 0, vl (96), 171), (171, 13, 1, 0, z0, 172), (172, 30, 40, 7, z0, 175), (175, 4, 0, 0, z0, 176), (176, 23, 0, 0, z0, 177), (177, 29, 40, 4, z0, 180), (180, 0, 0, 0, vi (1), 181), (181, 9, 0, 0, z0, 182), (182, 30, 40, 4, z0, 185), (185, 26, 109, 0, z0, 188), (188, 4, 0, 0, z0, 189), (189, 4, 0, 0, z0, 190), (190, 29, 40, 4, z0, 193), (193, 4, 0, 0, z0, 194), (194, 29, 40, 5, z0, 197), (197, 9, 1, 0, z0, 198), (198, 0, 0, 0, vi (8), 200), (200, 28, 5, 207, z0, 203), (203, 0, 0, 0, vi (4), 204), (204, 26, 208, 0, z0, 207), (207, 0, 0, 0, vi (1), 208), (208, 30, 40, 6, z0, 211), (211, 35, 0, 0, z0, 212), (212, 2, 1, 0, z0, 213), (213, 0, 0, 0, vi (48), 215), (215, 28, 2, 322, z0, 218), (218, 2, 1, 0, z0, 219), (219, 0, 0, 0, vi (57), 221), (221, 28, 4, 322, z0, 224), (224, 4, 0, 0, z0, 225), (225, 4, 0, 0, z0, 226), (226, 29, 40, 4, z0, 229), (229, 34, 134, 2, vr 40 0, 232), (232, 0, 0, 0, vi (48), 234), (234, 28, 2, 299, z0, 237), (237, 4, 0, 0, z0, 238), (238, 4, 0, 0, z0, 239), (239, 29, 40, 4, z0, 242), (242, 34, 134, 2, vr 40 0, 245), (245, 0, 0, 0, vi (57), 247), (247, 28, 4, 299, z0, 250), (250, 4, 0, 0, z0, 251), (251, 29, 40, 4, z0, 254), (254, 4, 0, 0, z0, 255), (255, 29, 40, 5, z0, 258), (258, 9, 1, 0, z0, 259), (259, 0, 0, 0, vi (4), 260), (260, 28, 3, 286, z0, 263), (263, 4, 0, 0, z0, 264), (264, 4, 0, 0, z0, 265), (265, 29, 40, 8, z0, 268), (268, 0, 0, 0, vi (10), 270), (270, 9, 2, 0, z0, 271), (271, 4, 0, 0, z0, 272), (272, 4, 0, 0, z0, 273), (273, 29, 40, 4, z0, 276), (276, 34, 134, 2, vr 40 0, 279), (279, 9, 0, 0, z0, 280), (280, 0, 0, 0, vi (48), 282), (282, 9, 1, 0, z0, 283), (283, 30, 40, 8, z0, 286), (286, 4, 0, 0, z0, 287), (287, 23, 0, 0, z0, 288), (288, 29, 40, 4, z0, 291), (291, 0, 0, 0, vi (1), 292), (292, 9, 0, 0, z0, 293), (293, 30, 40, 4, z0, 296), (296, 26, 224, 0, z0, 299), (299, 4, 0, 0, z0, 300), (300, 4, 0, 0, z0, 301), (301, 29, 40, 4, z0, 304), (304, 4, 0, 0, z0, 305), (305, 29, 40, 5, z0, 308), (308, 9, 1, 0, z0, 309), (309, 0, 0, 0, vi (4), 310), (310, 28, 5, 317, z0, 313), (313, 0, 0, 0, vi (4), 314), (314, 26, 318, 0, z0, 317), (317, 0, 0, 0, vi (2), 318), (318, 30, 40, 6, z0, 321), (321, 35, 0, 0, z0, 322), (322, 4, 0, 0, z0, 323), (323, 23, 0, 0, z0, 324), (324, 29, 40, 4, z0, 327), (327, 0, 0, 0, vi (1), 328), (328, 9, 0, 0, z0, 329), (329, 30, 40, 4, z0, 332), (332, 4, 0, 0, z0, 333), (333, 2, 1, 0, z0, 334), (334, 0, 0, 0, vi (40), 336), (336, 28, 2, 345, z0, 339), (339, 2, 1, 0, z0, 340), (340, 0, 0, 0, vi (43), 342), (342, 28, 5, 363, z0, 345), (345, 2, 1, 0, z0, 346), (346, 0, 0, 0, vi (45), 348), (348, 28, 0, 363, z0, 351), (351, 2, 1, 0, z0, 352), (352, 0, 0, 0, vi (59), 354), (354, 28, 2, 367, z0, 357), (357, 2, 1, 0, z0, 358), (358, 0, 0, 0, vi (61), 360), (360, 28, 4, 367, z0, 363), (363, 0, 0, 0, vi (3), 364), (364, 26, 368, 0, z0, 367), (367, 0, 0, 0, vi (4), 368), (368, 30, 40, 6, z0, 371), (371, 35, 0, 0, z0, 372)]
/-- X12_isWord StrangeWindingModel.isWord(J)Z -/
def cd136 : List (Nat × Ent) := [(0, 4, 0, 0, z0, 1), (1, 29, 40, 6, z0, 4), (4, 0, 0, 0, vi (1), 5), (5, 28, 1, 21, z0, 8), (8, 4, 0, 0, z0, 9), (9, 29, 40, 7, z0, 12), (12, 3, 1, 0, z0, 13), (13, 18, 0, 0, z0, 14), (14, 27, 1, 21, z0, 17), (17, 0, 0, 0, vi (1), 18), (18, 26, 22, 0, z0, 21), (21, 0, 0, 0, z0, 22), (22, 36, 2, 0, z0, 23)]
/-- X12_isSign StrangeWindingModel.isSign(I)Z -/
def cd137 : List (Nat × Ent) := [(0, 4, 0, 0, z0, 1), (1, 29, 40, 6, z0, 4), (4, 0, 0, 0, vi (3), 5), (5, 28, 1, 25, z0, 8), (8, 4, 0, 0, z0, 9), (9, 29, 40, 2, z0, 12), (12, 4, 0, 0, z0, 13), (13, 29, 40, 5, z0, 16), (16, 31, 1, 0, z0, 17), (17, 2, 1, 0, z0, 18), (18, 28, 1, 25, z0, 21), (21, 0, 0, 0, vi (1), 22), (22, 26, 26, 0, z0, 25), (25, 0, 0, 0, z0, 26), (26, 36, 2, 0, z0, 27)]
/-- X12_fails StrangeWindingModel.fails(I)Z -/
def cd138 : List (Nat × Ent) := [(0, 4, 0, 0, z0, 1), (1, 2, 1, 0, z0, 2), (2, 0, 0, 0, vi (16), 4), (4, 4, 0, 0, z0, 5), (5, 29, 40, 5, z0, 8), (8, 9, 2, 0, z0, 9), (9, 9, 0, 0, z0, 10), (10, 30, 40, 9, z0, 13), (13, 0, 0, 0, z0, 14), (14, 36, 2, 0, z0, 15)]
/-- X12_puts StrangeWindingModel.puts(I)V -/
def cd139 : List (Nat × Ent) := [(0, 4, 0, 0, z0, 1), (1, 29, 40, 20, z0, 4), (4, 4, 0, 0, z0, 5), (5, 29, 40, 21, z0, 8), (8, 2, 1, 0, z0, 9), (9, 32, 1, 0, z0, 10), (10, 4, 0, 0, z0, 11), (11, 23, 0, 0, z0, 12), (12, 29, 40, 21, z0, 15), (15, 0, 0, 0, vi (1), 16), (16, 9, 0, 0, z0, 17), (17, 30, 40, 21, z0, 20), (20, 35, 0, 0, z0, 21)]
/-- X12_fact StrangeWindingModel.fact()I -/
def cd140 : List (Nat × Ent) := [(0, 4, 0, 0, z0, 1), (1, 29, 40, 6, z0, 4), (4, 0, 0, 0, vi (1), 5), (5, 28, 0, 10, z0, 8), (8, 0, 0, 0, z0, 9), (9, 36, 1, 0, z0, 10), (10, 4, 0, 0, z0, 11), (11, 29, 40, 7, z0, 14), (14, 0, 0, 0, vl (148870), 17), (17, 18, 0, 0, z0, 18), (18, 27, 1, 23, z0, 21), (21, 0, 0, 0, vi (1), 22), (22, 36, 1, 0, z0, 23), (23, 4, 0, 0, z0, 24), (24, 29, 40, 7, z0, 27), (27, 0, 0, 0, vl (10801946), 30), (30, 18, 0, 0, z0, 31), (31, 27, 1, 36, z0, 34), (34, 0, 0, 0, vi (2), 35), (35, 36, 1, 0, z0, 36), (36, 4, 0, 0, z0, 37), (37, 29, 40, 7, z0, 40), (40, 0, 0, 0, vl (9632), 43), (43, 18, 0, 0, z0, 44), (44, 27, 1, 51, z0, 47), (47, 0, 0, 0, vi (3), 48), (48, 26, 67, 0, z0, 51), (51, 4, 0, 0, z0, 52), (52, 29, 40, 7, z0, 55), (55, 0, 0, 0, vl (1960177), 58), (58, 18, 0, 0, z0, 59), (59, 27, 1, 66, z0, 62), (62, 0, 0, 0, vi (4), 63), (63, 26, 67, 0, z0, 66), (66, 0, 0, 0, z0, 67), (67, 36, 1, 0, z0, 68)]
/-- X12_reads StrangeWindingModel.reads()Z -/
def cd141 : List (Nat × Ent) := [(0, 0, 0, 0, z0, 1), (1, 5, 1, 0, z0, 2), (2, 0, 0, 0, vi (1), 3), (3, 5, 2, 0, z0, 4), (4, 4, 0, 0, z0, 5), (5, 29, 40, 24, z0, 8), (8, 0, 0, 0, z0, 9), (9, 0, 0, 0, z0, 10), (10, 32, 3, 0, z0, 11), (11, 2, 2, 0, z0, 12), (12, 27, 0, 179, z0, 15), (15, 4, 0, 0, z0, 16), (16, 34, 140, 1, vr 40 0, 19), (19, 5, 3, 0, z0, 20), (20, 4, 0, 0, z0, 21), (21, 0, 0, 0, vl (10631), 24), (24, 34, 136, 2, vr 40 0, 27), (27, 5, 4, 0, z0, 29), (29, 4, 0, 0, z0, 30), (30, 0, 0, 0, vi (40), 32), (32, 34, 137, 2, vr 40 0, 35), (35, 5, 5, 0, z0, 37), (37, 2, 3, 0, z0, 38), (38, 27, 1, 65, z0, 41), (41, 2, 4, 0, z0, 43), (43, 27, 1, 65, z0, 46), (46, 2, 5, 0, z0, 48), (48, 27, 1, 65, z0, 51), (51, 4, 0, 0, z0, 52), (52, 29, 40, 6, z0, 55), (55, 0, 0, 0, vi (2), 56), (56, 28, 0, 65, z0, 59), (59, 4, 0, 0, z0, 60), (60, 0, 0, 0, vi (1), 61), (61, 34, 138, 2, vr 40 0, 64), (64, 36, 2, 0, z0, 65), (65, 2, 1, 0, z0, 66), (66, 0, 0, 0, vi (5), 67), (67, 28, 1, 76, z0, 70), (70, 4, 0, 0, z0, 71), (71, 0, 0, 0, vi (5), 72), (72, 34, 138, 2, vr 40 0, 75), (75, 36, 2, 0, z0, 76), (76, 2, 4, 0, z0, 78), (78, 27, 1, 86, z0, 81), (81, 2, 5, 0, z0, 83), (83, 27, 0, 131, z0, 86), (86, 4, 0, 0, z0, 87), (87, 2, 4, 0, z0, 89), (89, 27, 0, 97, z0, 92), (92, 0, 0, 0, vi (30), 94), (94, 26, 99, 0, z0, 97), (97, 0, 0, 0, vi (28), 99), (99, 34, 139, 2, vr 40 0, 102), (102, 8, 1, 0, vi (1), 105), (105, 4, 0, 0, z0, 106), (106, 29, 40, 23, z0, 109), (109, 2, 1, 0, z0, 110), (110, 2, 4, 0, z0, 112), (112, 27, 0, 119, z0, 115), (115, 0, 0, 0, vi (1), 116), (116, 26, 120, 0, z0, 119), (119, 0, 0, 0, vi (2), 120), (120, 32, 1, 0, z0, 121), (121, 4, 0, 0, z0, 122), (122, 29, 40, 24, z0, 125), (125, 2, 1, 0, z0, 126), (126, 0, 0, 0, z0, 127), (127, 32, 3, 0, z0, 128), (128, 26, 172, 0, z0, 131), (131, 4, 0, 0, z0, 132), (132, 2, 3, 0, z0, 133), (133, 27, 5, 140, z0, 136), (136, 2, 3, 0, z0, 137), (137, 26, 147, 0, z0, 140), (140, 0, 0, 0, vi (100), 142), (142, 4, 0, 0, z0, 143), (143, 29, 40, 8, z0, 146), (146, 9, 0, 0, z0, 147), (147, 34, 139, 2, vr 40 0, 150), (150, 0, 0, 0, z0, 151), (151, 5, 2, 0, z0, 152), (152, 2, 1, 0, z0, 153), (153, 27, 5, 172, z0, 156), (156, 4, 0, 0, z0, 157), (157, 29, 40, 23, z0, 160), (160, 2, 1, 0, z0, 161), (161, 31, 1, 0, z0, 162), (162, 0, 0, 0, vi (1), 163), (163, 28, 1, 172, z0, 166), (166, 8, 1, 0, vi (-1), 169), (169, 26, 152, 0, z0, 172), (172, 4, 0, 0, z0, 173), (173, 34, 135, 1, vr 40 0, 176), (176, 26, 11, 0, z0, 179), (179, 4, 0, 0, z0, 180), (180, 0, 0, 0, vi (43), 182), (182, 34, 137, 2, vr 40 0, 185), (185, 27, 1, 206, z0, 188), (188, 4, 0, 0, z0, 189), (189, 0, 0, 0, vi (45), 191), (191, 34, 137, 2, vr 40 0, 194), (194, 27, 1, 206, z0, 197), (197, 4, 0, 0, z0, 198), (198, 0, 0, 0, vi (42), 200), (200, 34, 137, 2, vr 40 0, 203), (203, 27, 0, 245, z0, 206), (206, 4, 0, 0, z0, 207), (207, 4, 0, 0, z0, 208), (208, 0, 0, 0, vi (43), 210), (210, 34, 137, 2, vr 40 0, 213), (213, 27, 0, 221, z0, 216), (216, 0, 0, 0, vi (20), 218), (218, 26, 237, 0, z0, 221), (221, 4, 0, 0, z0, 222), (222, 0, 0, 0, vi (45), 224), (224, 34, 137, 2, vr 40 0, 227), (227, 27, 0, 235, z0, 230), (230, 0, 0, 0, vi (21), 232), (232, 26, 237, 0, z0, 235), (235, 0, 0, 0, vi (22), 237), (237, 34, 139, 2, vr 40 0, 240), (240, 0, 0, 0, vi (1), 241), (241, 5, 2, 0, z0, 242), (242, 26, 424, 0, z0, 245), (245, 4, 0, 0, z0, 246), (246, 0, 0, 0, vi (60), 248), (248, 34, 137, 2, vr 40 0, 251), (251, 27, 1, 263, z0, 254), (254, 4, 0, 0, z0, 255), (255, 0, 0, 0, vi (61), 257), (257, 34, 137, 2, vr 40 0, 260), (260, 27, 0, 304, z0, 263), (263, 4, 0, 0, z0, 264), (264, 29, 40, 24, z0, 267), (267, 2, 1, 0, z0, 268), (268, 31, 3, 0, z0, 269), (269, 27, 1, 304, z0, 272), (272, 4, 0, 0, z0, 273), (273, 4, 0, 0, z0, 274), (274, 0, 0, 0, vi (60), 276), (276, 34, 137, 2, vr 40 0, 279), (279, 27, 0, 287, z0, 282), (282, 0, 0, 0, vi (24), 284), (284, 26, 289, 0, z0, 287), (287, 0, 0, 0, vi (25), 289), (289, 34, 139, 2, vr 40 0, 292), (292, 4, 0, 0, z0, 293), (293, 29, 40, 24, z0, 296), (296, 2, 1, 0, z0, 297), (297, 0, 0, 0, vi (1), 298), (298, 32, 3, 0, z0, 299), (299, 0, 0, 0, vi (1), 300), (300, 5, 2, 0, z0, 301), (301, 26, 424, 0, z0, 304), (304, 4, 0, 0, z0, 305), (305, 0, 0, 0, vl (1111), 308), (308, 34, 136, 2, vr 40 0, 311), (311, 27, 1, 324, z0, 314), (314, 4, 0, 0, z0, 315), (315, 0, 0, 0, vl (423), 318), (318, 34, 136, 2, vr 40 0, 321), (321, 27, 0, 357, z0, 324), (324, 4, 0, 0, z0, 325), (325, 4, 0, 0, z0, 326), (326, 0, 0, 0, vl (1111), 329), (329, 34, 136, 2, vr 40 0, 332), (332, 27, 0, 340, z0, 335), (335, 0, 0, 0, vi (26), 337), (337, 26, 342, 0, z0, 340), (340, 0, 0, 0, vi (27), 342), (342, 34, 139, 2, vr 40 0, 345), (345, 4, 0, 0, z0, 346), (346, 29, 40, 24, z0, 349), (349, 2, 1, 0, z0, 350), (350, 0, 0, 0, z0, 351), (351, 32, 3, 0, z0, 352), (352, 0, 0, 0, vi (1), 353), (353, 5, 2, 0, z0, 354), (354, 26, 424, 0, z0, 357), (357, 4, 0, 0, z0, 358), (358, 0, 0, 0, vi (41), 360), (360, 34, 137, 2, vr 40 0, 363), (363, 27, 0, 399, z0, 366), (366, 2, 1, 0, z0, 367), (367, 27, 5, 399, z0, 370), (370, 4, 0, 0, z0, 371), (371, 0, 0, 0, vi (29), 373), (373, 34, 139, 2, vr 40 0, 376), (376, 8, 1, 0, vi (-1), 379), (379, 2, 1, 0, z0, 380), (380, 27, 5, 424, z0, 383), (383, 4, 0, 0, z0, 384), (384, 29, 40, 23, z0, 387), (387, 2, 1, 0, z0, 388), (388, 31, 1, 0, z0, 389), (389, 0, 0, 0, vi (1), 390), (390, 28, 1, 424, z0, 393), (393, 8, 1, 0, vi (-1), 396), (396, 26, 379, 0, z0, 399), (399, 2, 1, 0, z0, 400), (400, 27, 1, 418, z0, 403), (403, 4, 0, 0, z0, 404), (404, 0, 0, 0, vi (59), 406), (406, 34, 137, 2, vr 40 0, 409), (409, 27, 0, 418, z0, 412), (412, 4, 0, 0, z0, 413), (413, 34, 135, 1, vr 40 0, 416), (416, 0, 0, 0, vi (1), 417), (417, 36, 2, 0, z0, 418), (418, 4, 0, 0, z0, 419), (419, 0, 0, 0, vi (1), 420), (420, 34, 138, 2, vr 40 0, 423), (423, 36, 2, 0, z0, 424), (424, 4, 0, 0, z0, 425), (425, 34, 135, 1, vr 40 0, 428), (428, 26, 11, 0, z0, 431)]
/-- X12_opens StrangeWindingModel.opens(I)V -/
def cd142 : List (Nat × Ent) := [(0, 4, 0, 0, z0, 1), (1, 29, 40, 26, z0, 4), (4, 2, 1, 0, z0, 5), (5, 0, 0, 0, z0, 6), (6, 32, 1, 0, z0, 7), (7, 4, 0, 0, z0, 8), (8, 29, 40, 28, z0, 11), (11, 2, 1, 0, z0, 12), (12, 0, 0, 0, z0, 13), (13, 32, 1, 0, z0, 14), (14, 4, 0, 0, z0, 15), (15, 29, 40, 29, z0, 18), (18, 2, 1, 0, z0, 19), (19, 0, 0, 0, z0, 20), (20, 32, 1, 0, z0, 21), (21, 4, 0, 0, z0, 22), (22, 29, 40, 30, z0, 25), (25, 2, 1, 0, z0, 26), (26, 0, 0, 0, vi (20), 28), (28, 32, 1, 0, z0, 29), (29, 4, 0, 0, z0, 30), (30, 29, 40, 32, z0, 33), (33, 2, 1, 0, z0, 34), (34, 0, 0, 0, z0, 35), (35, 32, 1, 0, z0, 36), (36, 35, 0, 0, z0, 37)]
/-- X12_sums StrangeWindingModel.sums(I)V -/
def cd143 : List (Nat × Ent) := [(0, 4, 0, 0, z0, 1), (1, 29, 40, 29, z0, 4), (4, 2, 1, 0, z0, 5), (5, 4, 0, 0, z0, 6), (6, 29, 40, 30, z0, 9), (9, 2, 1, 0, z0, 10), (10, 31, 1, 0, z0, 11), (11, 0, 0, 0, vi (21), 13), (13, 28, 1, 32, z0, 16), (16, 4, 0, 0, z0, 17), (17, 29, 40, 29, z0, 20), (20, 2, 1, 0, z0, 21), (21, 31, 1, 0, z0, 22), (22, 4, 0, 0, z0, 23), (23, 29, 40, 31, z0, 26), (26, 2, 1, 0, z0, 27), (27, 31, 1, 0, z0, 28), (28, 9, 1, 0, z0, 29), (29, 26, 45, 0, z0, 32), (32, 4, 0, 0, z0, 33), (33, 29, 40, 29, z0, 36), (36, 2, 1, 0, z0, 37), (37, 31, 1, 0, z0, 38), (38, 4, 0, 0, z0, 39), (39, 29, 40, 31, z0, 42), (42, 2, 1, 0, z0, 43), (43, 31, 1, 0, z0, 44), (44, 9, 0, 0, z0, 45), (45, 32, 1, 0, z0, 46), (46, 4, 0, 0, z0, 47), (47, 29, 40, 32, z0, 50), (50, 2, 1, 0, z0, 51), (51, 0, 0, 0, z0, 52), (52, 32, 1, 0, z0, 53), (53, 35, 0, 0, z0, 54)]
/-- X12_tests StrangeWindingModel.tests(I)V -/
def cd144 : List (Nat × Ent) := [(0, 4, 0, 0, z0, 1), (1, 2, 1, 0, z0, 2), (2, 34, 143, 2, vr 40 0, 5), (5, 4, 0, 0, z0, 6), (6, 29, 40, 29, z0, 9), (9, 2, 1, 0, z0, 10), (10, 31, 1, 0, z0, 11), (11, 5, 2, 0, z0, 12), (12, 4, 0, 0, z0, 13), (13, 29, 40, 28, z0, 16), (16, 2, 1, 0, z0, 17), (17, 31, 1, 0, z0, 18), (18, 0, 0, 0, vi (24), 20), (20, 28, 1, 44, z0, 23), (23, 4, 0, 0, z0, 24), (24, 29, 40, 27, z0, 27), (27, 2, 1, 0, z0, 28), (28, 31, 1, 0, z0, 29), (29, 4, 0, 0, z0, 30), (30, 29, 40, 29, z0, 33), (33, 2, 1, 0, z0, 34), (34, 31, 1, 0, z0, 35), (35, 28, 3, 42, z0, 38), (38, 0, 0, 0, vi (1), 39), (39, 26, 43, 0, z0, 42), (42, 0, 0, 0, z0, 43), (43, 5, 2, 0, z0, 44), (44, 4, 0, 0, z0, 45), (45, 29, 40, 28, z0, 48), (48, 2, 1, 0, z0, 49), (49, 31, 1, 0, z0, 50), (50, 0, 0, 0, vi (25), 52), (52, 28, 1, 76, z0, 55), (55, 4, 0, 0, z0, 56), (56, 29, 40, 27, z0, 59), (59, 2, 1, 0, z0, 60), (60, 31, 1, 0, z0, 61), (61, 4, 0, 0, z0, 62), (62, 29, 40, 29, z0, 65), (65, 2, 1, 0, z0, 66), (66, 31, 1, 0, z0, 67), (67, 28, 1, 74, z0, 70), (70, 0, 0, 0, vi (1), 71), (71, 26, 75, 0, z0, 74), (74, 0, 0, 0, z0, 75), (75, 5, 2, 0, z0, 76), (76, 4, 0, 0, z0, 77), (77, 29, 40, 26, z0, 80), (80, 2, 1, 0, z0, 81), (81, 31, 1, 0, z0, 82), (82, 0, 0, 0, vi (26), 84), (84, 28, 1, 106, z0, 87), (87, 4, 0, 0, z0, 88), (88, 29, 40, 25, z0, 91), (91, 2, 1, 0, z0, 92), (92, 31, 1, 0, z0, 93), (93, 27, 0, 104, z0, 96), (96, 2, 2, 0, z0, 97), (97, 27, 0, 104, z0, 100), (100, 0, 0, 0, vi (1), 101), (101, 26, 105, 0, z0, 104), (104, 0, 0, 0, z0, 105), (105, 5, 2, 0, z0, 106), (106, 4, 0, 0, z0, 107), (107, 29, 40, 26, z0, 110), (110, 2, 1, 0, z0, 111), (111, 31, 1, 0, z0, 112), (112, 0, 0, 0, vi (27), 114), (114, 28, 1, 136, z0, 117), (117, 4, 0, 0, z0, 118), (118, 29, 40, 25, z0, 121), (121, 2, 1, 0, z0, 122), (122, 31, 1, 0, z0, 123), (123, 27, 1, 130, z0, 126), (126, 2, 2, 0, z0, 127), (127, 27, 0, 134, z0, 130), (130, 0, 0, 0, vi (1), 131), (131, 26, 135, 0, z0, 134), (134, 0, 0, 0, z0, 135), (135, 5, 2, 0, z0, 136), (136, 4, 0, 0, z0, 137), (137, 29, 40, 25, z0, 140), (140, 2, 1, 0, z0, 141), (141, 2, 2, 0, z0, 142), (142, 32, 1, 0, z0, 143), (143, 4, 0, 0, z0, 144), (144, 29, 40, 28, z0, 147), (147, 2, 1, 0, z0, 148), (148, 0, 0, 0, z0, 149), (149, 32, 1, 0, z0, 150), (150, 4, 0, 0, z0, 151), (151, 29, 40, 29, z0, 154), (154, 2, 1, 0, z0, 155), (155, 0, 0, 0, z0, 156), (156, 32, 1, 0, z0, 157), (157, 4, 0, 0, z0, 158), (158, 29, 40, 30, z0, 161), (161, 2, 1, 0, z0, 162), (162, 0, 0, 0, vi (20), 164), (164, 32, 1, 0, z0, 165), (165, 35, 0, 0, z0, 166)]
/-- X12_worked StrangeWindingModel.worked(I)I -/
def cd145 : List (Nat × Ent) := [(0, 0, 0, 0, z0, 1), (1, 5, 2, 0, z0, 2), (2, 4, 0, 0, z0, 3), (3, 0, 0, 0, z0, 4), (4, 34, 142, 2, vr 40 0, 7), (7, 4, 0, 0, z0, 8), (8, 29, 40, 18, z0, 11), (11, 2, 1, 0, z0, 12), (12, 31, 1, 0, z0, 13), (13, 5, 3, 0, z0, 14), (14, 2, 3, 0, z0, 15), (15, 4, 0, 0, z0, 16), (16, 29, 40, 19, z0, 19), (19, 2, 1, 0, z0, 20), (20, 31, 1, 0, z0, 21), (21, 28, 3, 335, z0, 24), (24, 4, 0, 0, z0, 25), (25, 29, 40, 20, z0, 28), (28, 2, 3, 0, z0, 29), (29, 31, 1, 0, z0, 30), (30, 5, 4, 0, z0, 32), (32, 2, 4, 0, z0, 34), (34, 0, 0, 0, vi (28), 36), (36, 28, 0, 46, z0, 39), (39, 2, 4, 0, z0, 41), (41, 0, 0, 0, vi (30), 43), (43, 28, 1, 75, z0, 46), (46, 8, 2, 0, vi (1), 49), (49, 4, 0, 0, z0, 50), (50, 29, 40, 33, z0, 53), (53, 2, 2, 0, z0, 54), (54, 2, 4, 0, z0, 56), (56, 0, 0, 0, vi (30), 58), (58, 28, 1, 65, z0, 61), (61, 0, 0, 0, vi (1), 62), (62, 26, 66, 0, z0, 65), (65, 0, 0, 0, z0, 66), (66, 32, 1, 0, z0, 67), (67, 4, 0, 0, z0, 68), (68, 2, 2, 0, z0, 69), (69, 34, 142, 2, vr 40 0, 72), (72, 26, 329, 0, z0, 75), (75, 2, 4, 0, z0, 77), (77, 0, 0, 0, vi (20), 79), (79, 28, 0, 89, z0, 82), (82, 2, 4, 0, z0, 84), (84, 0, 0, 0, vi (21), 86), (86, 28, 1, 105, z0, 89), (89, 4, 0, 0, z0, 90), (90, 2, 2, 0, z0, 91), (91, 34, 143, 2, vr 40 0, 94), (94, 4, 0, 0, z0, 95), (95, 29, 40, 30, z0, 98), (98, 2, 2, 0, z0, 99), (99, 2, 4, 0, z0, 101), (101, 32, 1, 0, z0, 102), (102, 26, 329, 0, z0, 105), (105, 2, 4, 0, z0, 107), (107, 0, 0, 0, vi (22), 109), (109, 28, 1, 123, z0, 112), (112, 4, 0, 0, z0, 113), (113, 29, 40, 32, z0, 116), (116, 2, 2, 0, z0, 117), (117, 2, 4, 0, z0, 119), (119, 32, 1, 0, z0, 120), (120, 26, 329, 0, z0, 123), (123, 2, 4, 0, z0, 125), (125, 0, 0, 0, vi (24), 127), (127, 28, 0, 137, z0, 130), (130, 2, 4, 0, z0, 132), (132, 0, 0, 0, vi (25), 134), (134, 28, 1, 180, z0, 137), (137, 4, 0, 0, z0, 138), (138, 2, 2, 0, z0, 139), (139, 34, 143, 2, vr 40 0, 142), (142, 4, 0, 0, z0, 143), (143, 29, 40, 27, z0, 146), (146, 2, 2, 0, z0, 147), (147, 4, 0, 0, z0, 148), (148, 29, 40, 29, z0, 151), (151, 2, 2, 0, z0, 152), (152, 31, 1, 0, z0, 153), (153, 32, 1, 0, z0, 154), (154, 4, 0, 0, z0, 155), (155, 29, 40, 28, z0, 158), (158, 2, 2, 0, z0, 159), (159, 2, 4, 0, z0, 161), (161, 32, 1, 0, z0, 162), (162, 4, 0, 0, z0, 163), (163, 29, 40, 29, z0, 166), (166, 2, 2, 0, z0, 167), (167, 0, 0, 0, z0, 168), (168, 32, 1, 0, z0, 169), (169, 4, 0, 0, z0, 170), (170, 29, 40, 30, z0, 173), (173, 2, 2, 0, z0, 174), (174, 0, 0, 0, vi (20), 176), (176, 32, 1, 0, z0, 177), (177, 26, 329, 0, z0, 180), (180, 2, 4, 0, z0, 182), (182, 0, 0, 0, vi (26), 184), (184, 28, 0, 194, z0, 187), (187, 2, 4, 0, z0, 189), (189, 0, 0, 0, vi (27), 191), (191, 28, 1, 210, z0, 194), (194, 4, 0, 0, z0, 195), (195, 2, 2, 0, z0, 196), (196, 34, 144, 2, vr 40 0, 199), (199, 4, 0, 0, z0, 200), (200, 29, 40, 26, z0, 203), (203, 2, 2, 0, z0, 204), (204, 2, 4, 0, z0, 206), (206, 32, 1, 0, z0, 207), (207, 26, 329, 0, z0, 210), (210, 2, 4, 0, z0, 212), (212, 0, 0, 0, vi (100), 214), (214, 28, 2, 225, z0, 217), (217, 2, 4, 0, z0, 219), (219, 0, 0, 0, vi (100), 221), (221, 9, 1, 0, z0, 222), (222, 26, 243, 0, z0, 225), (225, 2, 4, 0, z0, 227), (227, 0, 0, 0, vi (20), 229), (229, 28, 3, 242, z0, 232), (232, 4, 0, 0, z0, 233), (233, 29, 40, 34, z0, 236), (236, 2, 4, 0, z0, 238), (238, 31, 1, 0, z0, 239), (239, 26, 243, 0, z0, 242), (242, 0, 0, 0, z0, 243), (243, 5, 5, 0, z0, 245), (245, 2, 4, 0, z0, 247), (247, 0, 0, 0, vi (29), 249), (249, 28, 1, 268, z0, 252), (252, 4, 0, 0, z0, 253), (253, 2, 2, 0, z0, 254), (254, 34, 144, 2, vr 40 0, 257), (257, 4, 0, 0, z0, 258), (258, 29, 40, 25, z0, 261), (261, 2, 2, 0, z0, 262), (262, 31, 1, 0, z0, 263), (263, 5, 5, 0, z0, 265), (265, 8, 2, 0, vi (-1), 268), (268, 2, 2, 0, z0, 269), (269, 27, 5, 300, z0, 272), (272, 4, 0, 0, z0, 273), (273, 29, 40, 33, z0, 276), (276, 2, 2, 0, z0, 277), (277, 31, 1, 0, z0, 278), (278, 0, 0, 0, vi (1), 279), (279, 28, 1, 300, z0, 282), (282, 2, 5, 0, z0, 284), (284, 27, 1, 291, z0, 287), (287, 0, 0, 0, vi (1), 288), (288, 26, 292, 0, z0, 291), (291, 0, 0, 0, z0, 292), (292, 5, 5, 0, z0, 294), (294, 8, 2, 0, vi (-1), 297), (297, 26, 268, 0, z0, 300), (300, 4, 0, 0, z0, 301), (301, 29, 40, 31, z0, 304), (304, 2, 2, 0, z0, 305), (305, 4, 0, 0, z0, 306), (306, 29, 40, 32, z0, 309), (309, 2, 2, 0, z0, 310), (310, 31, 1, 0, z0, 311), (311, 27, 1, 319, z0, 314), (314, 2, 5, 0, z0, 316), (316, 26, 328, 0, z0, 319), (319, 4, 0, 0, z0, 320), (320, 29, 40, 31, z0, 323), (323, 2, 2, 0, z0, 324), (324, 31, 1, 0, z0, 325), (325, 2, 5, 0, z0, 327), (327, 9, 2, 0, z0, 328), (328, 32, 1, 0, z0, 329), (329, 8, 3, 0, vi (1), 332), (332, 26, 14, 0, z0, 335), (335, 4, 0, 0, z0, 336), (336, 0, 0, 0, z0, 337), (337, 34, 144, 2, vr 40 0, 340), (340, 4, 0, 0, z0, 341), (341, 29, 40, 25, z0, 344), (344, 0, 0, 0, z0, 345), (345, 31, 1, 0, z0, 346), (346, 36, 1, 0, z0, 347)]
/-- X12_isKept StrangeWindingModel.isKept()Z -/
def cd146 : List (Nat × Ent) := [(0, 4, 0, 0, z0, 1), (1, 29, 40, 6, z0, 4), (4, 0, 0, 0, vi (1), 5), (5, 28, 0, 10, z0, 8), (8, 0, 0, 0, vi (1), 9), (9, 36, 2, 0, z0, 10), (10, 4, 0, 0, z0, 11), (11, 29, 40, 7, z0, 14), (14, 0, 0, 0, vl (283616147), 17), (17, 18, 0, 0, z0, 18), (18, 27, 0, 230, z0, 21), (21, 4, 0, 0, z0, 22), (22, 29, 40, 7, z0, 25), (25, 0, 0, 0, vl (237308), 28), (28, 18, 0, 0, z0, 29), (29, 27, 0, 230, z0, 32), (32, 4, 0, 0, z0, 33), (33, 29, 40, 7, z0, 36), (36, 0, 0, 0, vl (232608281), 39), (39, 18, 0, 0, z0, 40), (40, 27, 0, 230, z0, 43), (43, 4, 0, 0, z0, 44), (44, 29, 40, 7, z0, 47), (47, 0, 0, 0, vl (47), 50), (50, 18, 0, 0, z0, 51), (51, 27, 0, 230, z0, 54), (54, 4, 0, 0, z0, 55), (55, 29, 40, 7, z0, 58), (58, 0, 0, 0, vl (240023), 61), (61, 18, 0, 0, z0, 62), (62, 27, 0, 230, z0, 65), (65, 4, 0, 0, z0, 66), (66, 29, 40, 7, z0, 69), (69, 0, 0, 0, vl (6132988), 72), (72, 18, 0, 0, z0, 73), (73, 27, 0, 230, z0, 76), (76, 4, 0, 0, z0, 77), (77, 29, 40, 7, z0, 80), (80, 0, 0, 0, vl (385331), 83), (83, 18, 0, 0, z0, 84), (84, 27, 0, 230, z0, 87), (87, 4, 0, 0, z0, 88), (88, 29, 40, 7, z0, 91), (91, 0, 0, 0, vl (384226), 94), (94, 18, 0, 0, z0, 95), (95, 27, 0, 230, z0, 98), (98, 4, 0, 0, z0, 99), (99, 29, 40, 7, z0, 102), (102, 0, 0, 0, vl (12410623), 105), (105, 18, 0, 0, z0, 106), (106, 27, 0, 230, z0, 109), (109, 4, 0, 0, z0, 110), (110, 29, 40, 7, z0, 113), (113, 0, 0, 0, vl (453773), 116), (116, 18, 0, 0, z0, 117), (117, 27, 0, 230, z0, 120), (120, 4, 0, 0, z0, 121), (121, 29, 40, 7, z0, 124), (124, 0, 0, 0, vl (459652), 127), (127, 18, 0, 0, z0, 128), (128, 27, 0, 230, z0, 131), (131, 4, 0, 0, z0, 132), (132, 29, 40, 7, z0, 135), (135, 0, 0, 0, vl (259906), 138), (138, 18, 0, 0, z0, 139), (139, 27, 0, 230, z0, 142), (142, 4, 0, 0, z0, 143), (143, 29, 40, 7, z0, 146), (146, 0, 0, 0, vl (168984), 149), (149, 18, 0, 0, z0, 150), (150, 27, 0, 230, z0, 153), (153, 4, 0, 0, z0, 154), (154, 29, 40, 7, z0, 157), (157, 0, 0, 0, vl (8740238), 160), (160, 18, 0, 0, z0, 161), (161, 27, 0, 230, z0, 164), (164, 4, 0, 0, z0, 165), (165, 29, 40, 7, z0, 168), (168, 0, 0, 0, vl (117812495), 171), (171, 18, 0, 0, z0, 172), (172, 27, 0, 230, z0, 175), (175, 4, 0, 0, z0, 176), (176, 29, 40, 7, z0, 179), (179, 0, 0, 0, vl (82410), 182), (182, 18, 0, 0, z0, 183), (183, 27, 0, 230, z0, 186), (186, 4, 0, 0, z0, 187), (187, 29, 40, 7, z0, 190), (190, 0, 0, 0, vl (14432), 193), (193, 18, 0, 0, z0, 194), (194, 27, 0, 230, z0, 197), (197, 4, 0, 0, z0, 198), (198, 29, 40, 7, z0, 201), (201, 0, 0, 0, vl (10631), 204), (204, 18, 0, 0, z0, 205), (205, 27, 0, 230, z0, 208), (208, 4, 0, 0, z0, 209), (209, 29, 40, 7, z0, 212), (212, 0, 0, 0, vl (1111), 215), (215, 18, 0, 0, z0, 216), (216, 27, 0, 230, z0, 219), (219, 4, 0, 0, z0, 220), (220, 29, 40, 7, z0, 223), (223, 0, 0, 0, vl (423), 226), (226, 18, 0, 0, z0, 227), (227, 27, 1, 234, z0, 230), (230, 0, 0, 0, vi (1), 231), (231, 26, 235, 0, z0, 234), (234, 0, 0, 0, z0, 235), (235, 36, 2, 0, z0, 236)]
/-- X12_streetNamed StrangeWindingModel.streetNamed(I)I -/
def cd147 : List (Nat × Ent) := [(0, 0, 0, 0, vi (5), 1), (1, 2, 1, 0, z0, 2), (2, 9, 2, 0, z0, 3), (3, 5, 2, 0, z0, 4), (4, 2, 2, 0, z0, 5), (5, 0, 0, 0, vi (5), 6), (6, 2, 1, 0, z0, 7), (7, 9, 2, 0, z0, 8), (8, 4, 0, 0, z0, 9), (9, 29, 40, 10, z0, 12), (12, 0, 0, 0, vi (4), 13), (13, 2, 1, 0, z0, 14), (14, 9, 2, 0, z0, 15), (15, 0, 0, 0, z0, 16), (16, 9, 0, 0, z0, 17), (17, 31, 1, 0, z0, 18), (18, 9, 0, 0, z0, 19), (19, 28, 3, 48, z0, 22), (22, 4, 0, 0, z0, 23), (23, 29, 40, 11, z0, 26), (26, 2, 2, 0, z0, 27), (27, 31, 4, 0, z0, 28), (28, 4, 0, 0, z0, 29), (29, 29, 40, 7, z0, 32), (32, 18, 0, 0, z0, 33), (33, 27, 1, 42, z0, 36), (36, 2, 2, 0, z0, 37), (37, 0, 0, 0, vi (5), 38), (38, 2, 1, 0, z0, 39), (39, 9, 2, 0, z0, 40), (40, 9, 1, 0, z0, 41), (41, 36, 1, 0, z0, 42), (42, 8, 2, 0, vi (1), 45), (45, 26, 4, 0, z0, 48), (48, 0, 0, 0, vi (-1), 49), (49, 36, 1, 0, z0, 50)]
/-- X12_personNamed StrangeWindingModel.personNamed(I)I -/
def cd148 : List (Nat × Ent) := [(0, 0, 0, 0, vi (6), 2), (2, 2, 1, 0, z0, 3), (3, 9, 2, 0, z0, 4), (4, 5, 2, 0, z0, 5), (5, 2, 2, 0, z0, 6), (6, 0, 0, 0, vi (6), 8), (8, 2, 1, 0, z0, 9), (9, 9, 2, 0, z0, 10), (10, 4, 0, 0, z0, 11), (11, 29, 40, 10, z0, 14), (14, 0, 0, 0, vi (4), 15), (15, 2, 1, 0, z0, 16), (16, 9, 2, 0, z0, 17), (17, 0, 0, 0, vi (1), 18), (18, 9, 0, 0, z0, 19), (19, 31, 1, 0, z0, 20), (20, 9, 0, 0, z0, 21), (21, 28, 3, 51, z0, 24), (24, 4, 0, 0, z0, 25), (25, 29, 40, 12, z0, 28), (28, 2, 2, 0, z0, 29), (29, 31, 4, 0, z0, 30), (30, 4, 0, 0, z0, 31), (31, 29, 40, 7, z0, 34), (34, 18, 0, 0, z0, 35), (35, 27, 1, 45, z0, 38), (38, 2, 2, 0, z0, 39), (39, 0, 0, 0, vi (6), 41), (41, 2, 1, 0, z0, 42), (42, 9, 2, 0, z0, 43), (43, 9, 1, 0, z0, 44), (44, 36, 1, 0, z0, 45), (45, 8, 2, 0, vi (1), 48), (48, 26, 5, 0, z0, 51), (51, 0, 0, 0, vi (-1), 52), (52, 36, 1, 0, z0, 53)]
/-- X12_needsNumber StrangeWindingModel.needsNumber(II)Z -/
def cd149 : List (Nat × Ent) := [(0, 4, 0, 0, z0, 1), (1, 29, 40, 6, z0, 4), (4, 0, 0, 0, vi (2), 5), (5, 28, 0, 14, z0, 8), (8, 4, 0, 0, z0, 9), (9, 0, 0, 0, vi (1), 10), (10, 34, 138, 2, vr 40 0, 13), (13, 36, 2, 0, z0, 14), (14, 4, 0, 0, z0, 15), (15, 29, 40, 8, z0, 18), (18, 2, 1, 0, z0, 19), (19, 2, 2, 0, z0, 20), (20, 34, 130, 3, z0, 23), (23, 27, 1, 32, z0, 26), (26, 4, 0, 0, z0, 27), (27, 0, 0, 0, vi (4), 28), (28, 34, 138, 2, vr 40 0, 31), (31, 36, 2, 0, z0, 32), (32, 4, 0, 0, z0, 33), (33, 4, 0, 0, z0, 34), (34, 29, 40, 8, z0, 37), (37, 30, 40, 35, z0, 40), (40, 4, 0, 0, z0, 41), (41, 34, 135, 1, vr 40 0, 44), (44, 0, 0, 0, vi (1), 45), (45, 36, 2, 0, z0, 46)]
/-- X12_needsWord StrangeWindingModel.needsWord(J)Z -/
def cd150 : List (Nat × Ent) := [(0, 4, 0, 0, z0, 1), (1, 3, 1, 0, z0, 2), (2, 34, 136, 2, vr 40 0, 5), (5, 27, 1, 14, z0, 8), (8, 4, 0, 0, z0, 9), (9, 0, 0, 0, vi (1), 10), (10, 34, 138, 2, vr 40 0, 13), (13, 36, 2, 0, z0, 14), (14, 4, 0, 0, z0, 15), (15, 34, 135, 1, vr 40 0, 18), (18, 0, 0, 0, vi (1), 19), (19, 36, 2, 0, z0, 20)]
/-- X12_closes StrangeWindingModel.closes()Z -/
def cd151 : List (Nat × Ent) := [(0, 4, 0, 0, z0, 1), (1, 0, 0, 0, vi (59), 3), (3, 34, 137, 2, vr 40 0, 6), (6, 27, 1, 15, z0, 9), (9, 4, 0, 0, z0, 10), (10, 0, 0, 0, vi (1), 11), (11, 34, 138, 2, vr 40 0, 14), (14, 36, 2, 0, z0, 15), (15, 4, 0, 0, z0, 16), (16, 34, 135, 1, vr 40 0, 19), (19, 0, 0, 0, vi (1), 20), (20, 36, 2, 0, z0, 21)]
/-- X12_needsNew StrangeWindingModel.needsNew()Z -/
def cd152 : List (Nat × Ent) := [(0, 4, 0, 0, z0, 1), (1, 34, 146, 1, vr 40 0, 4), (4, 27, 0, 13, z0, 7), (7, 4, 0, 0, z0, 8), (8, 0, 0, 0, vi (1), 9), (9, 34, 138, 2, vr 40 0, 12), (12, 36, 2, 0, z0, 13), (13, 4, 0, 0, z0, 14), (14, 0, 0, 0, vi (1), 15), (15, 34, 147, 2, vr 40 0, 18), (18, 27, 3, 29, z0, 21), (21, 4, 0, 0, z0, 22), (22, 0, 0, 0, vi (1), 23), (23, 34, 148, 2, vr 40 0, 26), (26, 27, 2, 35, z0, 29), (29, 4, 0, 0, z0, 30), (30, 0, 0, 0, vi (3), 31), (31, 34, 138, 2, vr 40 0, 34), (34, 36, 2, 0, z0, 35), (35, 4, 0, 0, z0, 36), (36, 4, 0, 0, z0, 37), (37, 29, 40, 7, z0, 40), (40, 30, 40, 36, z0, 43), (43, 4, 0, 0, z0, 44), (44, 34, 135, 1, vr 40 0, 47), (47, 0, 0, 0, vi (1), 48), (48, 36, 2, 0, z0, 49)]
/-- X12_needsStreet StrangeWindingModel.needsStreet(I)Z -/
def cd153 : List (Nat × Ent) := [(0, 4, 0, 0, z0, 1), (1, 34, 146, 1, vr 40 0, 4), (4, 27, 0, 13, z0, 7), (7, 4, 0, 0, z0, 8), (8, 0, 0, 0, vi (1), 9), (9, 34, 138, 2, vr 40 0, 12), (12, 36, 2, 0, z0, 13), (13, 4, 0, 0, z0, 14), (14, 4, 0, 0, z0, 15), (15, 2, 1, 0, z0, 16), (16, 34, 147, 2, vr 40 0, 19), (19, 30, 40, 35, z0, 22), (22, 4, 0, 0, z0, 23), (23, 29, 40, 35, z0, 26), (26, 27, 3, 37, z0, 29), (29, 4, 0, 0, z0, 30), (30, 0, 0, 0, vi (2), 31), (31, 34, 138, 2, vr 40 0, 34), (34, 27, 0, 41, z0, 37), (37, 0, 0, 0, vi (1), 38), (38, 26, 42, 0, z0, 41), (41, 0, 0, 0, z0, 42), (42, 36, 2, 0, z0, 43)]
/-- X12_needsPerson StrangeWindingModel.needsPerson(I)Z -/
def cd154 : List (Nat × Ent) := [(0, 4, 0, 0, z0, 1), (1, 34, 146, 1, vr 40 0, 4), (4, 27, 0, 13, z0, 7), (7, 4, 0, 0, z0, 8), (8, 0, 0, 0, vi (1), 9), (9, 34, 138, 2, vr 40 0, 12), (12, 36, 2, 0, z0, 13), (13, 4, 0, 0, z0, 14), (14, 4, 0, 0, z0, 15), (15, 2, 1, 0, z0, 16), (16, 34, 148, 2, vr 40 0, 19), (19, 30, 40, 35, z0, 22), (22, 4, 0, 0, z0, 23), (23, 29, 40, 35, z0, 26), (26, 27, 3, 37, z0, 29), (29, 4, 0, 0, z0, 30), (30, 0, 0, 0, vi (2), 31), (31, 34, 138, 2, vr 40 0, 34), (34, 27, 0, 41, z0, 37), (37, 0, 0, 0, vi (1), 38), (38, 26, 42, 0, z0, 41), (41, 0, 0, 0, z0, 42), (42, 36, 2, 0, z0, 43)]
/-- X12_needsTwo StrangeWindingModel.needsTwo(ZI)Z -/
def cd155 : List (Nat × Ent) := [(0, 2, 1, 0, z0, 1), (1, 27, 0, 15, z0, 4), (4, 4, 0, 0, z0, 5), (5, 2, 2, 0, z0, 6), (6, 34, 153, 2, vr 40 0, 9), (9, 27, 1, 25, z0, 12), (12, 26, 23, 0, z0, 15), (15, 4, 0, 0, z0, 16), (16, 2, 2, 0, z0, 17), (17, 34, 154, 2, vr 40 0, 20), (20, 27, 1, 25, z0, 23), (23, 0, 0, 0, z0, 24), (24, 36, 2, 0, z0, 25), (25, 4, 0, 0, z0, 26), (26, 4, 0, 0, z0, 27), (27, 29, 40, 35, z0, 30), (30, 30, 40, 37, z0, 33), (33, 4, 0, 0, z0, 34), (34, 34, 135, 1, vr 40 0, 37), (37, 2, 1, 0, z0, 38), (38, 27, 0, 52, z0, 41), (41, 4, 0, 0, z0, 42), (42, 2, 2, 0, z0, 43), (43, 34, 153, 2, vr 40 0, 46), (46, 27, 1, 62, z0, 49), (49, 26, 60, 0, z0, 52), (52, 4, 0, 0, z0, 53), (53, 2, 2, 0, z0, 54), (54, 34, 154, 2, vr 40 0, 57), (57, 27, 1, 62, z0, 60), (60, 0, 0, 0, z0, 61), (61, 36, 2, 0, z0, 62), (62, 4, 0, 0, z0, 63), (63, 29, 40, 35, z0, 66), (66, 4, 0, 0, z0, 67), (67, 29, 40, 37, z0, 70), (70, 28, 1, 81, z0, 73), (73, 4, 0, 0, z0, 74), (74, 0, 0, 0, vi (3), 75), (75, 34, 138, 2, vr 40 0, 78), (78, 27, 0, 85, z0, 81), (81, 0, 0, 0, vi (1), 82), (82, 26, 86, 0, z0, 85), (85, 0, 0, 0, z0, 86), (86, 36, 2, 0, z0, 87)]
/-- X12_isTwice StrangeWindingModel.isTwice(I)Z -/
def cd156 : List (Nat × Ent) := [(0, 4, 0, 0, z0, 1), (1, 29, 40, 22, z0, 4), (4, 2, 1, 0, z0, 5), (5, 9, 7, 0, z0, 6), (6, 0, 0, 0, vi (1), 7), (7, 9, 3, 0, z0, 8), (8, 0, 0, 0, vi (1), 9), (9, 28, 1, 14, z0, 12), (12, 0, 0, 0, vi (1), 13), (13, 36, 2, 0, z0, 14), (14, 4, 0, 0, z0, 15), (15, 23, 0, 0, z0, 16), (16, 29, 40, 22, z0, 19), (19, 0, 0, 0, vi (1), 20), (20, 2, 1, 0, z0, 21), (21, 9, 6, 0, z0, 22), (22, 9, 4, 0, z0, 23), (23, 30, 40, 22, z0, 26), (26, 0, 0, 0, z0, 27), (27, 36, 2, 0, z0, 28)]
/-- X12_readsStreet StrangeWindingModel.readsStreet()Z -/
def cd157 : List (Nat × Ent) := [(0, 0, 0, 0, vi (5), 1), (1, 4, 0, 0, z0, 2), (2, 29, 40, 10, z0, 5), (5, 0, 0, 0, vi (4), 6), (6, 31, 1, 0, z0, 7), (7, 9, 0, 0, z0, 8), (8, 5, 1, 0, z0, 9), (9, 2, 1, 0, z0, 10), (10, 0, 0, 0, vi (10), 12), (12, 28, 1, 21, z0, 15), (15, 4, 0, 0, z0, 16), (16, 0, 0, 0, vi (5), 17), (17, 34, 138, 2, vr 40 0, 20), (20, 36, 2, 0, z0, 21), (21, 4, 0, 0, z0, 22), (22, 34, 135, 1, vr 40 0, 25), (25, 4, 0, 0, z0, 26), (26, 34, 152, 1, vr 40 0, 29), (29, 27, 1, 34, z0, 32), (32, 0, 0, 0, z0, 33), (33, 36, 2, 0, z0, 34), (34, 4, 0, 0, z0, 35), (35, 29, 40, 13, z0, 38), (38, 2, 1, 0, z0, 39), (39, 0, 0, 0, z0, 40), (40, 32, 1, 0, z0, 41), (41, 4, 0, 0, z0, 42), (42, 29, 40, 11, z0, 45), (45, 2, 1, 0, z0, 46), (46, 4, 0, 0, z0, 47), (47, 29, 40, 36, z0, 50), (50, 32, 4, 0, z0, 51), (51, 4, 0, 0, z0, 52), (52, 29, 40, 10, z0, 55), (55, 0, 0, 0, vi (4), 56), (56, 24, 0, 0, z0, 57), (57, 31, 1, 0, z0, 58), (58, 0, 0, 0, vi (1), 59), (59, 9, 0, 0, z0, 60), (60, 32, 1, 0, z0, 61), (61, 4, 0, 0, z0, 62), (62, 34, 151, 1, vr 40 0, 65), (65, 36, 2, 0, z0, 66)]
/-- X12_readsLane StrangeWindingModel.readsLane()Z -/
def cd158 : List (Nat × Ent) := [(0, 4, 0, 0, z0, 1), (1, 34, 135, 1, vr 40 0, 4), (4, 4, 0, 0, z0, 5), (5, 0, 0, 0, vi (1), 6), (6, 0, 0, 0, vi (1), 7), (7, 34, 155, 3, vr 40 0, 10), (10, 27, 1, 15, z0, 13), (13, 0, 0, 0, z0, 14), (14, 36, 2, 0, z0, 15), (15, 4, 0, 0, z0, 16), (16, 29, 40, 13, z0, 19), (19, 0, 0, 0, vi (5), 20), (20, 4, 0, 0, z0, 21), (21, 29, 40, 37, z0, 24), (24, 9, 0, 0, z0, 25), (25, 31, 1, 0, z0, 26), (26, 4, 0, 0, z0, 27), (27, 29, 40, 35, z0, 30), (30, 9, 7, 0, z0, 31), (31, 0, 0, 0, vi (1), 32), (32, 9, 3, 0, z0, 33), (33, 0, 0, 0, vi (1), 34), (34, 28, 1, 43, z0, 37), (37, 4, 0, 0, z0, 38), (38, 0, 0, 0, vi (3), 39), (39, 34, 138, 2, vr 40 0, 42), (42, 36, 2, 0, z0, 43), (43, 4, 0, 0, z0, 44), (44, 29, 40, 13, z0, 47), (47, 0, 0, 0, vi (5), 48), (48, 4, 0, 0, z0, 49), (49, 29, 40, 37, z0, 52), (52, 9, 0, 0, z0, 53), (53, 24, 0, 0, z0, 54), (54, 31, 1, 0, z0, 55), (55, 0, 0, 0, vi (1), 56), (56, 4, 0, 0, z0, 57), (57, 29, 40, 35, z0, 60), (60, 9, 6, 0, z0, 61), (61, 9, 4, 0, z0, 62), (62, 32, 1, 0, z0, 63), (63, 4, 0, 0, z0, 64), (64, 29, 40, 13, z0, 67), (67, 0, 0, 0, vi (5), 68), (68, 4, 0, 0, z0, 69), (69, 29, 40, 35, z0, 72), (72, 9, 0, 0, z0, 73), (73, 24, 0, 0, z0, 74), (74, 31, 1, 0, z0, 75), (75, 0, 0, 0, vi (1), 76), (76, 4, 0, 0, z0, 77), (77, 29, 40, 37, z0, 80), (80, 9, 6, 0, z0, 81), (81, 9, 4, 0, z0, 82), (82, 32, 1, 0, z0, 83), (83, 4, 0, 0, z0, 84), (84, 34, 135, 1, vr 40 0, 87), (87, 4, 0, 0, z0, 88), (88, 34, 151, 1, vr 40 0, 91), (91, 36, 2, 0, z0, 92)]
/-- X12_readsPerson StrangeWindingModel.readsPerson()Z -/
def cd159 : List (Nat × Ent) := [(0, 0, 0, 0, vi (6), 2), (2, 4, 0, 0, z0, 3), (3, 29, 40, 10, z0, 6), (6, 0, 0, 0, vi (5), 7), (7, 31, 1, 0, z0, 8), (8, 9, 0, 0, z0, 9), (9, 5, 1, 0, z0, 10), (10, 2, 1, 0, z0, 11), (11, 0, 0, 0, vi (12), 13), (13, 28, 1, 22, z0, 16), (16, 4, 0, 0, z0, 17), (17, 0, 0, 0, vi (5), 18), (18, 34, 138, 2, vr 40 0, 21), (21, 36, 2, 0, z0, 22), (22, 4, 0, 0, z0, 23), (23, 34, 135, 1, vr 40 0, 26), (26, 4, 0, 0, z0, 27), (27, 34, 152, 1, vr 40 0, 30), (30, 27, 1, 35, z0, 33), (33, 0, 0, 0, z0, 34), (34, 36, 2, 0, z0, 35), (35, 4, 0, 0, z0, 36), (36, 29, 40, 36, z0, 39), (39, 6, 2, 0, z0, 40), (40, 4, 0, 0, z0, 41), (41, 29, 40, 14, z0, 44), (44, 2, 1, 0, z0, 45), (45, 4, 0, 0, z0, 46), (46, 0, 0, 0, vl (8740238), 49), (49, 34, 136, 2, vr 40 0, 52), (52, 27, 0, 59, z0, 55), (55, 0, 0, 0, z0, 56), (56, 26, 102, 0, z0, 59), (59, 4, 0, 0, z0, 60), (60, 0, 0, 0, vl (117812495), 63), (63, 34, 136, 2, vr 40 0, 66), (66, 27, 0, 73, z0, 69), (69, 0, 0, 0, vi (1), 70), (70, 26, 102, 0, z0, 73), (73, 4, 0, 0, z0, 74), (74, 0, 0, 0, vl (82410), 77), (77, 34, 136, 2, vr 40 0, 80), (80, 27, 0, 87, z0, 83), (83, 0, 0, 0, vi (2), 84), (84, 26, 102, 0, z0, 87), (87, 4, 0, 0, z0, 88), (88, 0, 0, 0, vl (14432), 91), (91, 34, 136, 2, vr 40 0, 94), (94, 27, 0, 101, z0, 97), (97, 0, 0, 0, vi (3), 98), (98, 26, 102, 0, z0, 101), (101, 0, 0, 0, vi (-1), 102), (102, 32, 1, 0, z0, 103), (103, 4, 0, 0, z0, 104), (104, 29, 40, 14, z0, 107), (107, 2, 1, 0, z0, 108), (108, 31, 1, 0, z0, 109), (109, 27, 3, 118, z0, 112), (112, 4, 0, 0, z0, 113), (113, 0, 0, 0, vi (1), 114), (114, 34, 138, 2, vr 40 0, 117), (117, 36, 2, 0, z0, 118), (118, 4, 0, 0, z0, 119), (119, 34, 135, 1, vr 40 0, 122), (122, 4, 0, 0, z0, 123), (123, 0, 0, 0, vl (47), 126), (126, 34, 150, 2, vr 40 0, 129), (129, 27, 0, 140, z0, 132), (132, 4, 0, 0, z0, 133), (133, 0, 0, 0, vi (1), 134), (134, 34, 153, 2, vr 40 0, 137), (137, 27, 1, 142, z0, 140), (140, 0, 0, 0, z0, 141), (141, 36, 2, 0, z0, 142), (142, 4, 0, 0, z0, 143), (143, 29, 40, 15, z0, 146), (146, 2, 1, 0, z0, 147), (147, 4, 0, 0, z0, 148), (148, 29, 40, 35, z0, 151), (151, 32, 1, 0, z0, 152), (152, 4, 0, 0, z0, 153), (153, 34, 135, 1, vr 40 0, 156), (156, 4, 0, 0, z0, 157), (157, 0, 0, 0, vl (240023), 160), (160, 34, 150, 2, vr 40 0, 163), (163, 27, 0, 176, z0, 166), (166, 4, 0, 0, z0, 167), (167, 0, 0, 0, z0, 168), (168, 0, 0, 0, vi (99), 170), (170, 34, 149, 3, vr 40 0, 173), (173, 27, 1, 178, z0, 176), (176, 0, 0, 0, z0, 177), (177, 36, 2, 0, z0, 178), (178, 4, 0, 0, z0, 179), (179, 29, 40, 16, z0, 182), (182, 2, 1, 0, z0, 183), (183, 4, 0, 0, z0, 184), (184, 29, 40, 35, z0, 187), (187, 32, 1, 0, z0, 188), (188, 4, 0, 0, z0, 189), (189, 29, 40, 17, z0, 192), (192, 2, 1, 0, z0, 193), (193, 0, 0, 0, z0, 194), (194, 32, 1, 0, z0, 195), (195, 4, 0, 0, z0, 196), (196, 29, 40, 12, z0, 199), (199, 2, 1, 0, z0, 200), (200, 3, 2, 0, z0, 201), (201, 32, 4, 0, z0, 202), (202, 4, 0, 0, z0, 203), (203, 29, 40, 10, z0, 206), (206, 0, 0, 0, vi (5), 207), (207, 24, 0, 0, z0, 208), (208, 31, 1, 0, z0, 209), (209, 0, 0, 0, vi (1), 210), (210, 9, 0, 0, z0, 211), (211, 32, 1, 0, z0, 212), (212, 4, 0, 0, z0, 213), (213, 34, 151, 1, vr 40 0, 216), (216, 36, 2, 0, z0, 217)]
/-- X12_readsKnows StrangeWindingModel.readsKnows()Z -/
def cd160 : List (Nat × Ent) := [(0, 4, 0, 0, z0, 1), (1, 34, 135, 1, vr 40 0, 4), (4, 4, 0, 0, z0, 5), (5, 0, 0, 0, z0, 6), (6, 0, 0, 0, vi (1), 7), (7, 34, 155, 3, vr 40 0, 10), (10, 27, 1, 15, z0, 13), (13, 0, 0, 0, z0, 14), (14, 36, 2, 0, z0, 15), (15, 4, 0, 0, z0, 16), (16, 29, 40, 17, z0, 19), (19, 0, 0, 0, vi (6), 21), (21, 4, 0, 0, z0, 22), (22, 29, 40, 37, z0, 25), (25, 9, 0, 0, z0, 26), (26, 31, 1, 0, z0, 27), (27, 4, 0, 0, z0, 28), (28, 29, 40, 35, z0, 31), (31, 9, 7, 0, z0, 32), (32, 0, 0, 0, vi (1), 33), (33, 9, 3, 0, z0, 34), (34, 0, 0, 0, vi (1), 35), (35, 28, 1, 44, z0, 38), (38, 4, 0, 0, z0, 39), (39, 0, 0, 0, vi (3), 40), (40, 34, 138, 2, vr 40 0, 43), (43, 36, 2, 0, z0, 44), (44, 4, 0, 0, z0, 45), (45, 29, 40, 17, z0, 48), (48, 0, 0, 0, vi (6), 50), (50, 4, 0, 0, z0, 51), (51, 29, 40, 37, z0, 54), (54, 9, 0, 0, z0, 55), (55, 24, 0, 0, z0, 56), (56, 31, 1, 0, z0, 57), (57, 0, 0, 0, vi (1), 58), (58, 4, 0, 0, z0, 59), (59, 29, 40, 35, z0, 62), (62, 9, 6, 0, z0, 63), (63, 9, 4, 0, z0, 64), (64, 32, 1, 0, z0, 65), (65, 4, 0, 0, z0, 66), (66, 29, 40, 17, z0, 69), (69, 0, 0, 0, vi (6), 71), (71, 4, 0, 0, z0, 72), (72, 29, 40, 35, z0, 75), (75, 9, 0, 0, z0, 76), (76, 24, 0, 0, z0, 77), (77, 31, 1, 0, z0, 78), (78, 0, 0, 0, vi (1), 79), (79, 4, 0, 0, z0, 80), (80, 29, 40, 37, z0, 83), (83, 9, 6, 0, z0, 84), (84, 9, 4, 0, z0, 85), (85, 32, 1, 0, z0, 86), (86, 4, 0, 0, z0, 87), (87, 34, 135, 1, vr 40 0, 90), (90, 4, 0, 0, z0, 91), (91, 34, 151, 1, vr 40 0, 94), (94, 36, 2, 0, z0, 95)]
/-- X12_readsOne StrangeWindingModel.readsOne(II)Z -/
def cd161 : List (Nat × Ent) := [(0, 4, 0, 0, z0, 1), (1, 2, 1, 0, z0, 2), (2, 34, 156, 2, vr 40 0, 5), (5, 27, 0, 14, z0, 8), (8, 4, 0, 0, z0, 9), (9, 0, 0, 0, vi (3), 10), (10, 34, 138, 2, vr 40 0, 13), (13, 36, 2, 0, z0, 14), (14, 4, 0, 0, z0, 15), (15, 34, 135, 1, vr 40 0, 18), (18, 4, 0, 0, z0, 19), (19, 0, 0, 0, vi (1), 20), (20, 2, 2, 0, z0, 21), (21, 34, 149, 3, vr 40 0, 24), (24, 27, 1, 29, z0, 27), (27, 0, 0, 0, z0, 28), (28, 36, 2, 0, z0, 29), (29, 4, 0, 0, z0, 30), (30, 29, 40, 10, z0, 33), (33, 0, 0, 0, vi (4), 34), (34, 2, 1, 0, z0, 35), (35, 9, 0, 0, z0, 36), (36, 4, 0, 0, z0, 37), (37, 29, 40, 35, z0, 40), (40, 32, 1, 0, z0, 41), (41, 4, 0, 0, z0, 42), (42, 34, 151, 1, vr 40 0, 45), (45, 36, 2, 0, z0, 46)]
/-- X12_readsWinds StrangeWindingModel.readsWinds()Z -/
def cd162 : List (Nat × Ent) := [(0, 4, 0, 0, z0, 1), (1, 29, 40, 19, z0, 4), (4, 0, 0, 0, vi (1), 5), (5, 31, 1, 0, z0, 6), (6, 4, 0, 0, z0, 7), (7, 29, 40, 18, z0, 10), (10, 0, 0, 0, vi (1), 11), (11, 31, 1, 0, z0, 12), (12, 28, 5, 21, z0, 15), (15, 4, 0, 0, z0, 16), (16, 0, 0, 0, vi (3), 17), (17, 34, 138, 2, vr 40 0, 20), (20, 36, 2, 0, z0, 21), (21, 4, 0, 0, z0, 22), (22, 34, 135, 1, vr 40 0, 25), (25, 4, 0, 0, z0, 26), (26, 29, 40, 18, z0, 29), (29, 0, 0, 0, vi (1), 30), (30, 4, 0, 0, z0, 31), (31, 29, 40, 21, z0, 34), (34, 32, 1, 0, z0, 35), (35, 4, 0, 0, z0, 36), (36, 34, 141, 1, vr 40 0, 39), (39, 27, 1, 44, z0, 42), (42, 0, 0, 0, z0, 43), (43, 36, 2, 0, z0, 44), (44, 4, 0, 0, z0, 45), (45, 29, 40, 19, z0, 48), (48, 0, 0, 0, vi (1), 49), (49, 4, 0, 0, z0, 50), (50, 29, 40, 21, z0, 53), (53, 32, 1, 0, z0, 54), (54, 0, 0, 0, vi (1), 55), (55, 36, 2, 0, z0, 56)]
/-- X12_begins StrangeWindingModel.begins()V -/
def cd163 : List (Nat × Ent) := [(0, 4, 0, 0, z0, 1), (1, 4, 0, 0, z0, 2), (2, 29, 40, 1, z0, 5), (5, 30, 40, 3, z0, 8), (8, 4, 0, 0, z0, 9), (9, 0, 0, 0, z0, 10), (10, 30, 40, 1, z0, 13), (13, 4, 0, 0, z0, 14), (14, 0, 0, 0, z0, 15), (15, 30, 40, 4, z0, 18), (18, 4, 0, 0, z0, 19), (19, 34, 135, 1, vr 40 0, 22), (22, 35, 0, 0, z0, 23)]
/-- X12_readsAll StrangeWindingModel.readsAll()Z -/
def cd164 : List (Nat × Ent) := [(0, 4, 0, 0, z0, 1), (1, 29, 40, 10, z0, 4), (4, 0, 0, 0, vi (4), 5), (5, 0, 0, 0, z0, 6), (6, 32, 1, 0, z0, 7), (7, 4, 0, 0, z0, 8), (8, 29, 40, 10, z0, 11), (11, 0, 0, 0, vi (5), 12), (12, 0, 0, 0, z0, 13), (13, 32, 1, 0, z0, 14), (14, 4, 0, 0, z0, 15), (15, 29, 40, 10, z0, 18), (18, 0, 0, 0, vi (6), 20), (20, 0, 0, 0, vi (3), 21), (21, 32, 1, 0, z0, 22), (22, 4, 0, 0, z0, 23), (23, 29, 40, 10, z0, 26), (26, 0, 0, 0, vi (7), 28), (28, 0, 0, 0, vi (60), 30), (30, 32, 1, 0, z0, 31), (31, 4, 0, 0, z0, 32), (32, 29, 40, 18, z0, 35), (35, 0, 0, 0, vi (1), 36), (36, 0, 0, 0, vi (1000), 39), (39, 32, 1, 0, z0, 40), (40, 4, 0, 0, z0, 41), (41, 29, 40, 19, z0, 44), (44, 0, 0, 0, vi (1), 45), (45, 0, 0, 0, vi (1000), 48), (48, 32, 1, 0, z0, 49), (49, 4, 0, 0, z0, 50), (50, 0, 0, 0, z0, 51), (51, 30, 40, 22, z0, 54), (54, 4, 0, 0, z0, 55), (55, 0, 0, 0, vi (1000), 58), (58, 30, 40, 21, z0, 61), (61, 4, 0, 0, z0, 62), (62, 34, 163, 1, vr 40 0, 65), (65, 4, 0, 0, z0, 66), (66, 29, 40, 6, z0, 69), (69, 27, 0, 212, z0, 72), (72, 4, 0, 0, z0, 73), (73, 0, 0, 0, vl (283616147), 76), (76, 34, 136, 2, vr 40 0, 79), (79, 27, 0, 89, z0, 82), (82, 4, 0, 0, z0, 83), (83, 34, 157, 1, vr 40 0, 86), (86, 26, 202, 0, z0, 89), (89, 4, 0, 0, z0, 90), (90, 0, 0, 0, vl (237308), 93), (93, 34, 136, 2, vr 40 0, 96), (96, 27, 0, 106, z0, 99), (99, 4, 0, 0, z0, 100), (100, 34, 158, 1, vr 40 0, 103), (103, 26, 202, 0, z0, 106), (106, 4, 0, 0, z0, 107), (107, 0, 0, 0, vl (232608281), 110), (110, 34, 136, 2, vr 40 0, 113), (113, 27, 0, 123, z0, 116), (116, 4, 0, 0, z0, 117), (117, 34, 159, 1, vr 40 0, 120), (120, 26, 202, 0, z0, 123), (123, 4, 0, 0, z0, 124), (124, 0, 0, 0, vl (6132988), 127), (127, 34, 136, 2, vr 40 0, 130), (130, 27, 0, 140, z0, 133), (133, 4, 0, 0, z0, 134), (134, 34, 160, 1, vr 40 0, 137), (137, 26, 202, 0, z0, 140), (140, 4, 0, 0, z0, 141), (141, 0, 0, 0, vl (385331), 144), (144, 34, 136, 2, vr 40 0, 147), (147, 27, 0, 160, z0, 150), (150, 4, 0, 0, z0, 151), (151, 0, 0, 0, vi (2), 152), (152, 0, 0, 0, vi (9), 154), (154, 34, 161, 3, vr 40 0, 157), (157, 26, 202, 0, z0, 160), (160, 4, 0, 0, z0, 161), (161, 0, 0, 0, vl (384226), 164), (164, 34, 136, 2, vr 40 0, 167), (167, 27, 0, 180, z0, 170), (170, 4, 0, 0, z0, 171), (171, 0, 0, 0, vi (3), 172), (172, 0, 0, 0, vi (99), 174), (174, 34, 161, 3, vr 40 0, 177), (177, 26, 202, 0, z0, 180), (180, 4, 0, 0, z0, 181), (181, 0, 0, 0, vl (12410623), 184), (184, 34, 136, 2, vr 40 0, 187), (187, 27, 0, 197, z0, 190), (190, 4, 0, 0, z0, 191), (191, 34, 162, 1, vr 40 0, 194), (194, 26, 202, 0, z0, 197), (197, 4, 0, 0, z0, 198), (198, 0, 0, 0, vi (1), 199), (199, 34, 138, 2, vr 40 0, 202), (202, 5, 1, 0, z0, 203), (203, 2, 1, 0, z0, 204), (204, 27, 1, 209, z0, 207), (207, 0, 0, 0, z0, 208), (208, 36, 2, 0, z0, 209), (209, 26, 65, 0, z0, 212), (212, 0, 0, 0, vi (1), 213), (213, 36, 2, 0, z0, 214)]
/-- X12_shifts StrangeWindingModel.shifts([II)V -/
def cd165 : List (Nat × Ent) := [(0, 0, 0, 0, z0, 1), (1, 5, 2, 0, z0, 2), (2, 2, 2, 0, z0, 3), (3, 2, 1, 0, z0, 4), (4, 28, 3, 21, z0, 7), (7, 4, 0, 0, z0, 8), (8, 2, 2, 0, z0, 9), (9, 4, 0, 0, z0, 10), (10, 2, 1, 0, z0, 11), (11, 2, 2, 0, z0, 12), (12, 9, 0, 0, z0, 13), (13, 31, 1, 0, z0, 14), (14, 32, 1, 0, z0, 15), (15, 8, 2, 0, vi (1), 18), (18, 26, 2, 0, z0, 21), (21, 35, 0, 0, z0, 22)]
/-- X12_shiftsNames StrangeWindingModel.shiftsNames([JI)V -/
def cd166 : List (Nat × Ent) := [(0, 0, 0, 0, z0, 1), (1, 5, 2, 0, z0, 2), (2, 2, 2, 0, z0, 3), (3, 2, 1, 0, z0, 4), (4, 28, 3, 21, z0, 7), (7, 4, 0, 0, z0, 8), (8, 2, 2, 0, z0, 9), (9, 4, 0, 0, z0, 10), (10, 2, 1, 0, z0, 11), (11, 2, 2, 0, z0, 12), (12, 9, 0, 0, z0, 13), (13, 31, 4, 0, z0, 14), (14, 32, 4, 0, z0, 15), (15, 8, 2, 0, vi (1), 18), (18, 26, 2, 0, z0, 21), (21, 35, 0, 0, z0, 22)]
/-- X12_lays StrangeWindingModel.lays()V -/
def cd167 : List (Nat × Ent) := [(0, 4, 0, 0, z0, 1), (1, 29, 40, 10, z0, 4), (4, 0, 0, 0, vi (4), 5), (5, 34, 165, 2, z0, 8), (8, 4, 0, 0, z0, 9), (9, 29, 40, 11, z0, 12), (12, 0, 0, 0, vi (5), 13), (13, 34, 166, 2, z0, 16), (16, 4, 0, 0, z0, 17), (17, 29, 40, 12, z0, 20), (20, 0, 0, 0, vi (6), 22), (22, 34, 166, 2, z0, 25), (25, 4, 0, 0, z0, 26), (26, 29, 40, 13, z0, 29), (29, 0, 0, 0, vi (5), 30), (30, 34, 165, 2, z0, 33), (33, 4, 0, 0, z0, 34), (34, 29, 40, 14, z0, 37), (37, 0, 0, 0, vi (6), 39), (39, 34, 165, 2, z0, 42), (42, 4, 0, 0, z0, 43), (43, 29, 40, 15, z0, 46), (46, 0, 0, 0, vi (6), 48), (48, 34, 165, 2, z0, 51), (51, 4, 0, 0, z0, 52), (52, 29, 40, 16, z0, 55), (55, 0, 0, 0, vi (6), 57), (57, 34, 165, 2, z0, 60), (60, 4, 0, 0, z0, 61), (61, 29, 40, 17, z0, 64), (64, 0, 0, 0, vi (6), 66), (66, 34, 165, 2, z0, 69), (69, 4, 0, 0, z0, 70), (70, 29, 40, 20, z0, 73), (73, 0, 0, 0, vi (1000), 76), (76, 34, 165, 2, z0, 79), (79, 4, 0, 0, z0, 80), (80, 29, 40, 18, z0, 83), (83, 0, 0, 0, z0, 84), (84, 4, 0, 0, z0, 85), (85, 29, 40, 18, z0, 88), (88, 0, 0, 0, vi (1), 89), (89, 31, 1, 0, z0, 90), (90, 0, 0, 0, vi (1000), 93), (93, 9, 1, 0, z0, 94), (94, 32, 1, 0, z0, 95), (95, 4, 0, 0, z0, 96), (96, 29, 40, 19, z0, 99), (99, 0, 0, 0, z0, 100), (100, 4, 0, 0, z0, 101), (101, 29, 40, 19, z0, 104), (104, 0, 0, 0, vi (1), 105), (105, 31, 1, 0, z0, 106), (106, 0, 0, 0, vi (1000), 109), (109, 9, 1, 0, z0, 110), (110, 32, 1, 0, z0, 111), (111, 35, 0, 0, z0, 112)]
/-- X12_copies StrangeWindingModel.copies([II[II)V -/
def cd168 : List (Nat × Ent) := [(0, 0, 0, 0, z0, 1), (1, 5, 4, 0, z0, 3), (3, 2, 4, 0, z0, 5), (5, 0, 0, 0, vi (50), 7), (7, 28, 3, 28, z0, 10), (10, 4, 2, 0, z0, 11), (11, 2, 3, 0, z0, 12), (12, 2, 4, 0, z0, 14), (14, 9, 0, 0, z0, 15), (15, 4, 0, 0, z0, 16), (16, 2, 1, 0, z0, 17), (17, 2, 4, 0, z0, 19), (19, 9, 0, 0, z0, 20), (20, 31, 1, 0, z0, 21), (21, 32, 1, 0, z0, 22), (22, 8, 4, 0, vi (1), 25), (25, 26, 3, 0, z0, 28), (28, 35, 0, 0, z0, 29)]
/-- X12_readsLine StrangeWindingModel.readsLine()Z -/
def cd169 : List (Nat × Ent) := [(0, 4, 0, 0, z0, 1), (1, 0, 0, 0, vl (453773), 4), (4, 34, 136, 2, vr 40 0, 7), (7, 27, 0, 14, z0, 10), (10, 0, 0, 0, z0, 11), (11, 26, 57, 0, z0, 14), (14, 4, 0, 0, z0, 15), (15, 0, 0, 0, vl (459652), 18), (18, 34, 136, 2, vr 40 0, 21), (21, 27, 0, 28, z0, 24), (24, 0, 0, 0, vi (1), 25), (25, 26, 57, 0, z0, 28), (28, 4, 0, 0, z0, 29), (29, 0, 0, 0, vl (259906), 32), (32, 34, 136, 2, vr 40 0, 35), (35, 27, 0, 42, z0, 38), (38, 0, 0, 0, vi (2), 39), (39, 26, 57, 0, z0, 42), (42, 4, 0, 0, z0, 43), (43, 0, 0, 0, vl (168984), 46), (46, 34, 136, 2, vr 40 0, 49), (49, 27, 0, 56, z0, 52), (52, 0, 0, 0, vi (3), 53), (53, 26, 57, 0, z0, 56), (56, 0, 0, 0, vi (-1), 57), (57, 5, 1, 0, z0, 58), (58, 2, 1, 0, z0, 59), (59, 27, 3, 68, z0, 62), (62, 4, 0, 0, z0, 63), (63, 0, 0, 0, vi (1), 64), (64, 34, 138, 2, vr 40 0, 67), (67, 36, 2, 0, z0, 68), (68, 4, 0, 0, z0, 69), (69, 29, 40, 38, z0, 72), (72, 0, 0, 0, vi (5), 73), (73, 31, 1, 0, z0, 74), (74, 0, 0, 0, vi (40), 76), (76, 28, 1, 85, z0, 79), (79, 4, 0, 0, z0, 80), (80, 0, 0, 0, vi (5), 81), (81, 34, 138, 2, vr 40 0, 84), (84, 36, 2, 0, z0, 85), (85, 4, 0, 0, z0, 86), (86, 34, 135, 1, vr 40 0, 89), (89, 0, 0, 0, vi (200), 92), (92, 4, 0, 0, z0, 93), (93, 29, 40, 38, z0, 96), (96, 0, 0, 0, vi (5), 97), (97, 31, 1, 0, z0, 98), (98, 9, 0, 0, z0, 99), (99, 5, 2, 0, z0, 100), (100, 4, 0, 0, z0, 101), (101, 29, 40, 39, z0, 104), (104, 2, 2, 0, z0, 105), (105, 2, 1, 0, z0, 106), (106, 32, 1, 0, z0, 107), (107, 2, 1, 0, z0, 108), (108, 27, 1, 150, z0, 111), (111, 4, 0, 0, z0, 112), (112, 0, 0, 0, z0, 113), (113, 34, 154, 2, vr 40 0, 116), (116, 27, 1, 121, z0, 119), (119, 0, 0, 0, z0, 120), (120, 36, 2, 0, z0, 121), (121, 4, 0, 0, z0, 122), (122, 4, 0, 0, z0, 123), (123, 29, 40, 35, z0, 126), (126, 30, 40, 37, z0, 129), (129, 4, 0, 0, z0, 130), (130, 34, 135, 1, vr 40 0, 133), (133, 4, 0, 0, z0, 134), (134, 0, 0, 0, z0, 135), (135, 34, 153, 2, vr 40 0, 138), (138, 27, 1, 143, z0, 141), (141, 0, 0, 0, z0, 142), (142, 36, 2, 0, z0, 143), (143, 4, 0, 0, z0, 144), (144, 34, 135, 1, vr 40 0, 147), (147, 26, 200, 0, z0, 150), (150, 2, 1, 0, z0, 151), (151, 0, 0, 0, vi (1), 152), (152, 28, 1, 173, z0, 155), (155, 4, 0, 0, z0, 156), (156, 0, 0, 0, z0, 157), (157, 0, 0, 0, z0, 158), (158, 34, 155, 3, vr 40 0, 161), (161, 27, 1, 166, z0, 164), (164, 0, 0, 0, z0, 165), (165, 36, 2, 0, z0, 166), (166, 4, 0, 0, z0, 167), (167, 34, 135, 1, vr 40 0, 170), (170, 26, 200, 0, z0, 173), (173, 2, 1, 0, z0, 174), (174, 0, 0, 0, vi (2), 175), (175, 28, 1, 200, z0, 178), (178, 4, 0, 0, z0, 179), (179, 0, 0, 0, z0, 180), (180, 34, 154, 2, vr 40 0, 183), (183, 27, 1, 188, z0, 186), (186, 0, 0, 0, z0, 187), (187, 36, 2, 0, z0, 188), (188, 4, 0, 0, z0, 189), (189, 4, 0, 0, z0, 190), (190, 29, 40, 35, z0, 193), (193, 30, 40, 37, z0, 196), (196, 4, 0, 0, z0, 197), (197, 34, 135, 1, vr 40 0, 200), (200, 4, 0, 0, z0, 201), (201, 29, 40, 40, z0, 204), (204, 2, 2, 0, z0, 205), (205, 4, 0, 0, z0, 206), (206, 29, 40, 37, z0, 209), (209, 32, 1, 0, z0, 210), (210, 4, 0, 0, z0, 211), (211, 29, 40, 41, z0, 214), (214, 2, 2, 0, z0, 215), (215, 4, 0, 0, z0, 216), (216, 29, 40, 35, z0, 219), (219, 32, 1, 0, z0, 220), (220, 4, 0, 0, z0, 221), (221, 29, 40, 38, z0, 224), (224, 0, 0, 0, vi (5), 225), (225, 24, 0, 0, z0, 226), (226, 31, 1, 0, z0, 227), (227, 0, 0, 0, vi (1), 228), (228, 9, 0, 0, z0, 229), (229, 32, 1, 0, z0, 230), (230, 4, 0, 0, z0, 231), (231, 34, 151, 1, vr 40 0, 234), (234, 36, 2, 0, z0, 235)]
/-- X12_laysLines StrangeWindingModel.laysLines(II)V -/
def cd170 : List (Nat × Ent) := [(0, 4, 0, 0, z0, 1), (1, 29, 40, 38, z0, 4), (4, 2, 2, 0, z0, 5), (5, 4, 0, 0, z0, 6), (6, 29, 40, 38, z0, 9), (9, 2, 1, 0, z0, 10), (10, 31, 1, 0, z0, 11), (11, 32, 1, 0, z0, 12), (12, 0, 0, 0, z0, 13), (13, 5, 3, 0, z0, 14), (14, 2, 3, 0, z0, 15), (15, 0, 0, 0, vi (40), 17), (17, 28, 3, 92, z0, 20), (20, 4, 0, 0, z0, 21), (21, 29, 40, 39, z0, 24), (24, 0, 0, 0, vi (40), 26), (26, 2, 2, 0, z0, 27), (27, 9, 2, 0, z0, 28), (28, 2, 3, 0, z0, 29), (29, 9, 0, 0, z0, 30), (30, 4, 0, 0, z0, 31), (31, 29, 40, 39, z0, 34), (34, 0, 0, 0, vi (40), 36), (36, 2, 1, 0, z0, 37), (37, 9, 2, 0, z0, 38), (38, 2, 3, 0, z0, 39), (39, 9, 0, 0, z0, 40), (40, 31, 1, 0, z0, 41), (41, 32, 1, 0, z0, 42), (42, 4, 0, 0, z0, 43), (43, 29, 40, 40, z0, 46), (46, 0, 0, 0, vi (40), 48), (48, 2, 2, 0, z0, 49), (49, 9, 2, 0, z0, 50), (50, 2, 3, 0, z0, 51), (51, 9, 0, 0, z0, 52), (52, 4, 0, 0, z0, 53), (53, 29, 40, 40, z0, 56), (56, 0, 0, 0, vi (40), 58), (58, 2, 1, 0, z0, 59), (59, 9, 2, 0, z0, 60), (60, 2, 3, 0, z0, 61), (61, 9, 0, 0, z0, 62), (62, 31, 1, 0, z0, 63), (63, 32, 1, 0, z0, 64), (64, 4, 0, 0, z0, 65), (65, 29, 40, 41, z0, 68), (68, 0, 0, 0, vi (40), 70), (70, 2, 2, 0, z0, 71), (71, 9, 2, 0, z0, 72), (72, 2, 3, 0, z0, 73), (73, 9, 0, 0, z0, 74), (74, 4, 0, 0, z0, 75), (75, 29, 40, 41, z0, 78), (78, 0, 0, 0, vi (40), 80), (80, 2, 1, 0, z0, 81), (81, 9, 2, 0, z0, 82), (82, 2, 3, 0, z0, 83), (83, 9, 0, 0, z0, 84), (84, 31, 1, 0, z0, 85), (85, 32, 1, 0, z0, 86), (86, 8, 3, 0, vi (1), 89), (89, 26, 14, 0, z0, 92), (92, 35, 0, 0, z0, 93)]
/-- X12_fresh StrangeWindingModel.fresh()V -/
def cd171 : List (Nat × Ent) := [(0, 0, 0, 0, z0, 1), (1, 5, 1, 0, z0, 2), (2, 2, 1, 0, z0, 3), (3, 0, 0, 0, vi (50), 5), (5, 28, 3, 21, z0, 8), (8, 4, 0, 0, z0, 9), (9, 29, 40, 43, z0, 12), (12, 2, 1, 0, z0, 13), (13, 0, 0, 0, z0, 14), (14, 32, 1, 0, z0, 15), (15, 8, 1, 0, vi (1), 18), (18, 26, 2, 0, z0, 21), (21, 0, 0, 0, z0, 22), (22, 5, 1, 0, z0, 23), (23, 2, 1, 0, z0, 24), (24, 4, 0, 0, z0, 25), (25, 29, 40, 10, z0, 28), (28, 0, 0, 0, vi (1), 29), (29, 31, 1, 0, z0, 30), (30, 28, 3, 68, z0, 33), (33, 4, 0, 0, z0, 34), (34, 29, 40, 43, z0, 37), (37, 0, 0, 0, vi (2), 38), (38, 2, 1, 0, z0, 39), (39, 9, 0, 0, z0, 40), (40, 4, 0, 0, z0, 41), (41, 29, 40, 15, z0, 44), (44, 2, 1, 0, z0, 45), (45, 31, 1, 0, z0, 46), (46, 32, 1, 0, z0, 47), (47, 4, 0, 0, z0, 48), (48, 29, 40, 43, z0, 51), (51, 0, 0, 0, vi (8), 53), (53, 2, 1, 0, z0, 54), (54, 9, 0, 0, z0, 55), (55, 4, 0, 0, z0, 56), (56, 29, 40, 16, z0, 59), (59, 2, 1, 0, z0, 60), (60, 31, 1, 0, z0, 61), (61, 32, 1, 0, z0, 62), (62, 8, 1, 0, vi (1), 65), (65, 26, 23, 0, z0, 68), (68, 35, 0, 0, z0, 69)]
/-- X12_forgets StrangeWindingModel.forgets()V -/
def cd172 : List (Nat × Ent) := [(0, 0, 0, 0, z0, 1), (1, 5, 1, 0, z0, 2), (2, 2, 1, 0, z0, 3), (3, 0, 0, 0, vi (6), 5), (5, 28, 3, 21, z0, 8), (8, 4, 0, 0, z0, 9), (9, 29, 40, 42, z0, 12), (12, 2, 1, 0, z0, 13), (13, 0, 0, 0, vi (-1), 14), (14, 32, 1, 0, z0, 15), (15, 8, 1, 0, vi (1), 18), (18, 26, 2, 0, z0, 21), (21, 35, 0, 0, z0, 22)]
/-- X12_land StrangeWindingModel.land()I -/
def cd173 : List (Nat × Ent) := [(0, 4, 0, 0, z0, 1), (1, 0, 0, 0, z0, 2), (2, 30, 40, 0, z0, 5), (5, 4, 0, 0, z0, 6), (6, 34, 164, 1, vr 40 0, 9), (9, 27, 1, 17, z0, 12), (12, 4, 0, 0, z0, 13), (13, 29, 40, 9, z0, 16), (16, 36, 1, 0, z0, 17), (17, 4, 0, 0, z0, 18), (18, 34, 167, 1, vr 40 0, 21), (21, 4, 0, 0, z0, 22), (22, 34, 171, 1, vr 40 0, 25), (25, 4, 0, 0, z0, 26), (26, 34, 172, 1, vr 40 0, 29), (29, 4, 0, 0, z0, 30), (30, 29, 40, 38, z0, 33), (33, 0, 0, 0, z0, 34), (34, 0, 0, 0, z0, 35), (35, 32, 1, 0, z0, 36), (36, 4, 0, 0, z0, 37), (37, 0, 0, 0, z0, 38), (38, 30, 40, 49, z0, 41), (41, 0, 0, 0, z0, 42), (42, 5, 1, 0, z0, 43), (43, 2, 1, 0, z0, 44), (44, 0, 0, 0, vi (4), 45), (45, 28, 3, 61, z0, 48), (48, 4, 0, 0, z0, 49), (49, 29, 40, 48, z0, 52), (52, 2, 1, 0, z0, 53), (53, 0, 0, 0, z0, 54), (54, 32, 3, 0, z0, 55), (55, 8, 1, 0, vi (1), 58), (58, 26, 43, 0, z0, 61), (61, 0, 0, 0, z0, 62), (62, 36, 1, 0, z0, 63)]
/-- X12_week StrangeWindingModel.week()I -/
def cd174 : List (Nat × Ent) := [(0, 4, 0, 0, z0, 1), (1, 0, 0, 0, z0, 2), (2, 30, 40, 0, z0, 5), (5, 4, 0, 0, z0, 6), (6, 29, 40, 38, z0, 9), (9, 0, 0, 0, vi (5), 10), (10, 0, 0, 0, z0, 11), (11, 32, 1, 0, z0, 12), (12, 4, 0, 0, z0, 13), (13, 0, 0, 0, z0, 14), (14, 30, 40, 37, z0, 17), (17, 4, 0, 0, z0, 18), (18, 0, 0, 0, z0, 19), (19, 30, 40, 35, z0, 22), (22, 4, 0, 0, z0, 23), (23, 34, 163, 1, vr 40 0, 26), (26, 4, 0, 0, z0, 27), (27, 29, 40, 6, z0, 30), (30, 27, 0, 45, z0, 33), (33, 4, 0, 0, z0, 34), (34, 34, 169, 1, vr 40 0, 37), (37, 27, 1, 26, z0, 40), (40, 4, 0, 0, z0, 41), (41, 29, 40, 9, z0, 44), (44, 36, 1, 0, z0, 45), (45, 4, 0, 0, z0, 46), (46, 0, 0, 0, vi (5), 47), (47, 0, 0, 0, z0, 48), (48, 34, 170, 3, vr 40 0, 51), (51, 0, 0, 0, z0, 52), (52, 36, 1, 0, z0, 53)]
/-- X12_isStreet StrangeWindingModel.isStreet(I)Z -/
def cd175 : List (Nat × Ent) := [(0, 2, 1, 0, z0, 1), (1, 27, 2, 18, z0, 4), (4, 2, 1, 0, z0, 5), (5, 4, 0, 0, z0, 6), (6, 29, 40, 10, z0, 9), (9, 0, 0, 0, z0, 10), (10, 31, 1, 0, z0, 11), (11, 28, 3, 18, z0, 14), (14, 0, 0, 0, vi (1), 15), (15, 26, 19, 0, z0, 18), (18, 0, 0, 0, z0, 19), (19, 36, 2, 0, z0, 20)]
/-- X12_isPerson StrangeWindingModel.isPerson(I)Z -/
def cd176 : List (Nat × Ent) := [(0, 2, 1, 0, z0, 1), (1, 27, 2, 18, z0, 4), (4, 2, 1, 0, z0, 5), (5, 4, 0, 0, z0, 6), (6, 29, 40, 10, z0, 9), (9, 0, 0, 0, vi (1), 10), (10, 31, 1, 0, z0, 11), (11, 28, 3, 18, z0, 14), (14, 0, 0, 0, vi (1), 15), (15, 26, 19, 0, z0, 18), (18, 0, 0, 0, z0, 19), (19, 36, 2, 0, z0, 20)]
/-- X12_areTwo StrangeWindingModel.areTwo(II)Z -/
def cd177 : List (Nat × Ent) := [(0, 4, 0, 0, z0, 1), (1, 2, 1, 0, z0, 2), (2, 34, 176, 2, vr 40 0, 5), (5, 27, 0, 25, z0, 8), (8, 4, 0, 0, z0, 9), (9, 2, 2, 0, z0, 10), (10, 34, 176, 2, vr 40 0, 13), (13, 27, 0, 25, z0, 16), (16, 2, 1, 0, z0, 17), (17, 2, 2, 0, z0, 18), (18, 28, 0, 25, z0, 21), (21, 0, 0, 0, vi (1), 22), (22, 26, 26, 0, z0, 25), (25, 0, 0, 0, z0, 26), (26, 36, 2, 0, z0, 27)]
/-- X12_together StrangeWindingModel.together(II)I -/
def cd178 : List (Nat × Ent) := [(0, 4, 0, 0, z0, 1), (1, 29, 40, 43, z0, 4), (4, 0, 0, 0, vi (14), 6), (6, 0, 0, 0, vi (6), 8), (8, 2, 1, 0, z0, 9), (9, 9, 2, 0, z0, 10), (10, 9, 0, 0, z0, 11), (11, 2, 2, 0, z0, 12), (12, 9, 0, 0, z0, 13), (13, 31, 1, 0, z0, 14), (14, 4, 0, 0, z0, 15), (15, 29, 40, 43, z0, 18), (18, 0, 0, 0, vi (14), 20), (20, 0, 0, 0, vi (6), 22), (22, 2, 2, 0, z0, 23), (23, 9, 2, 0, z0, 24), (24, 9, 0, 0, z0, 25), (25, 2, 1, 0, z0, 26), (26, 9, 0, 0, z0, 27), (27, 31, 1, 0, z0, 28), (28, 9, 0, 0, z0, 29), (29, 36, 1, 0, z0, 30)]
/-- X12_areStrangers StrangeWindingModel.areStrangers(II)Z -/
def cd179 : List (Nat × Ent) := [(0, 2, 1, 0, z0, 1), (1, 2, 2, 0, z0, 2), (2, 28, 0, 37, z0, 5), (5, 4, 0, 0, z0, 6), (6, 29, 40, 17, z0, 9), (9, 2, 1, 0, z0, 10), (10, 31, 1, 0, z0, 11), (11, 2, 2, 0, z0, 12), (12, 9, 7, 0, z0, 13), (13, 0, 0, 0, vi (1), 14), (14, 9, 3, 0, z0, 15), (15, 27, 1, 37, z0, 18), (18, 4, 0, 0, z0, 19), (19, 2, 1, 0, z0, 20), (20, 2, 2, 0, z0, 21), (21, 34, 178, 3, vr 40 0, 24), (24, 4, 0, 0, z0, 25), (25, 29, 40, 10, z0, 28), (28, 0, 0, 0, vi (2), 29), (29, 31, 1, 0, z0, 30), (30, 28, 3, 37, z0, 33), (33, 0, 0, 0, vi (1), 34), (34, 26, 38, 0, z0, 37), (37, 0, 0, 0, z0, 38), (38, 36, 2, 0, z0, 39)]
/-- X12_isSnapped StrangeWindingModel.isSnapped(I)Z -/
def cd180 : List (Nat × Ent) := [(0, 4, 0, 0, z0, 1), (1, 29, 40, 43, z0, 4), (4, 0, 0, 0, vi (1), 5), (5, 31, 1, 0, z0, 6), (6, 2, 1, 0, z0, 7), (7, 9, 7, 0, z0, 8), (8, 0, 0, 0, vi (1), 9), (9, 9, 3, 0, z0, 10), (10, 0, 0, 0, vi (1), 11), (11, 28, 1, 18, z0, 14), (14, 0, 0, 0, vi (1), 15), (15, 26, 19, 0, z0, 18), (18, 0, 0, 0, z0, 19), (19, 36, 2, 0, z0, 20)]
/-- X12_isSitting StrangeWindingModel.isSitting(I)Z -/
def cd181 : List (Nat × Ent) := [(0, 4, 0, 0, z0, 1), (1, 2, 1, 0, z0, 2), (2, 34, 180, 2, vr 40 0, 5), (5, 27, 1, 20, z0, 8), (8, 4, 0, 0, z0, 9), (9, 29, 40, 43, z0, 12), (12, 0, 0, 0, vi (8), 14), (14, 2, 1, 0, z0, 15), (15, 9, 0, 0, z0, 16), (16, 31, 1, 0, z0, 17), (17, 27, 1, 24, z0, 20), (20, 0, 0, 0, vi (1), 21), (21, 26, 25, 0, z0, 24), (24, 0, 0, 0, z0, 25), (25, 36, 2, 0, z0, 26)]
/-- X12_sitting StrangeWindingModel.sitting()I -/
def cd182 : List (Nat × Ent) := [(0, 0, 0, 0, z0, 1), (1, 5, 1, 0, z0, 2), (2, 0, 0, 0, z0, 3), (3, 5, 2, 0, z0, 4), (4, 2, 2, 0, z0, 5), (5, 4, 0, 0, z0, 6), (6, 29, 40, 10, z0, 9), (9, 0, 0, 0, vi (1), 10), (10, 31, 1, 0, z0, 11), (11, 28, 3, 38, z0, 14), (14, 2, 1, 0, z0, 15), (15, 4, 0, 0, z0, 16), (16, 2, 2, 0, z0, 17), (17, 34, 181, 2, vr 40 0, 20), (20, 27, 0, 29, z0, 23), (23, 0, 0, 0, vi (1), 24), (24, 2, 2, 0, z0, 25), (25, 9, 6, 0, z0, 26), (26, 26, 30, 0, z0, 29), (29, 0, 0, 0, z0, 30), (30, 9, 4, 0, z0, 31), (31, 5, 1, 0, z0, 32), (32, 8, 2, 0, vi (1), 35), (35, 26, 4, 0, z0, 38), (38, 2, 1, 0, z0, 39), (39, 36, 1, 0, z0, 40)]
/-- X12_strangersOf StrangeWindingModel.strangersOf(I)I -/
def cd183 : List (Nat × Ent) := [(0, 0, 0, 0, z0, 1), (1, 5, 2, 0, z0, 2), (2, 0, 0, 0, z0, 3), (3, 5, 3, 0, z0, 4), (4, 2, 3, 0, z0, 5), (5, 4, 0, 0, z0, 6), (6, 29, 40, 10, z0, 9), (9, 0, 0, 0, vi (1), 10), (10, 31, 1, 0, z0, 11), (11, 28, 3, 39, z0, 14), (14, 2, 2, 0, z0, 15), (15, 4, 0, 0, z0, 16), (16, 2, 1, 0, z0, 17), (17, 2, 3, 0, z0, 18), (18, 34, 179, 3, vr 40 0, 21), (21, 27, 0, 30, z0, 24), (24, 0, 0, 0, vi (1), 25), (25, 2, 3, 0, z0, 26), (26, 9, 6, 0, z0, 27), (27, 26, 31, 0, z0, 30), (30, 0, 0, 0, z0, 31), (31, 9, 4, 0, z0, 32), (32, 5, 2, 0, z0, 33), (33, 8, 3, 0, vi (1), 36), (36, 26, 4, 0, z0, 39), (39, 2, 2, 0, z0, 40), (40, 36, 1, 0, z0, 41)]
/-- X12_canWalk StrangeWindingModel.canWalk(II)Z -/
def cd184 : List (Nat × Ent) := [(0, 4, 0, 0, z0, 1), (1, 2, 1, 0, z0, 2), (2, 34, 181, 2, vr 40 0, 5), (5, 27, 1, 33, z0, 8), (8, 4, 0, 0, z0, 9), (9, 29, 40, 13, z0, 12), (12, 4, 0, 0, z0, 13), (13, 29, 40, 43, z0, 16), (16, 0, 0, 0, vi (2), 17), (17, 2, 1, 0, z0, 18), (18, 9, 0, 0, z0, 19), (19, 31, 1, 0, z0, 20), (20, 31, 1, 0, z0, 21), (21, 2, 2, 0, z0, 22), (22, 9, 7, 0, z0, 23), (23, 0, 0, 0, vi (1), 24), (24, 9, 3, 0, z0, 25), (25, 0, 0, 0, vi (1), 26), (26, 28, 1, 33, z0, 29), (29, 0, 0, 0, vi (1), 30), (30, 26, 34, 0, z0, 33), (33, 0, 0, 0, z0, 34), (34, 36, 2, 0, z0, 35)]
/-- X12_mightWind StrangeWindingModel.mightWind(II)Z -/
def cd185 : List (Nat × Ent) := [(0, 4, 0, 0, z0, 1), (1, 29, 40, 14, z0, 4), (4, 2, 1, 0, z0, 5), (5, 31, 1, 0, z0, 6), (6, 0, 0, 0, vi (1), 7), (7, 28, 0, 50, z0, 10), (10, 4, 0, 0, z0, 11), (11, 2, 1, 0, z0, 12), (12, 34, 181, 2, vr 40 0, 15), (15, 27, 1, 50, z0, 18), (18, 4, 0, 0, z0, 19), (19, 29, 40, 43, z0, 22), (22, 0, 0, 0, vi (2), 23), (23, 2, 1, 0, z0, 24), (24, 9, 0, 0, z0, 25), (25, 31, 1, 0, z0, 26), (26, 4, 0, 0, z0, 27), (27, 29, 40, 43, z0, 30), (30, 0, 0, 0, vi (2), 31), (31, 2, 2, 0, z0, 32), (32, 9, 0, 0, z0, 33), (33, 31, 1, 0, z0, 34), (34, 28, 1, 50, z0, 37), (37, 4, 0, 0, z0, 38), (38, 2, 1, 0, z0, 39), (39, 2, 2, 0, z0, 40), (40, 34, 179, 3, vr 40 0, 43), (43, 27, 0, 50, z0, 46), (46, 0, 0, 0, vi (1), 47), (47, 26, 51, 0, z0, 50), (50, 0, 0, 0, z0, 51), (51, 36, 2, 0, z0, 52)]
/-- X12_canBeWound StrangeWindingModel.canBeWound(I)Z -/
def cd186 : List (Nat × Ent) := [(0, 4, 0, 0, z0, 1), (1, 29, 40, 14, z0, 4), (4, 2, 1, 0, z0, 5), (5, 31, 1, 0, z0, 6), (6, 0, 0, 0, vi (3), 7), (7, 28, 0, 22, z0, 10), (10, 4, 0, 0, z0, 11), (11, 2, 1, 0, z0, 12), (12, 34, 180, 2, vr 40 0, 15), (15, 27, 1, 22, z0, 18), (18, 0, 0, 0, vi (1), 19), (19, 26, 23, 0, z0, 22), (22, 0, 0, 0, z0, 23), (23, 36, 2, 0, z0, 24)]
/-- X12_crowdBeside StrangeWindingModel.crowdBeside(II)I -/
def cd187 : List (Nat × Ent) := [(0, 0, 0, 0, z0, 1), (1, 5, 3, 0, z0, 2), (2, 0, 0, 0, z0, 3), (3, 5, 4, 0, z0, 5), (5, 2, 4, 0, z0, 7), (7, 4, 0, 0, z0, 8), (8, 29, 40, 10, z0, 11), (11, 0, 0, 0, vi (1), 12), (12, 31, 1, 0, z0, 13), (13, 28, 3, 62, z0, 16), (16, 2, 3, 0, z0, 17), (17, 2, 4, 0, z0, 19), (19, 2, 1, 0, z0, 20), (20, 28, 0, 53, z0, 23), (23, 2, 4, 0, z0, 25), (25, 2, 2, 0, z0, 26), (26, 28, 0, 53, z0, 29), (29, 4, 0, 0, z0, 30), (30, 29, 40, 43, z0, 33), (33, 0, 0, 0, vi (2), 34), (34, 2, 4, 0, z0, 36), (36, 9, 0, 0, z0, 37), (37, 31, 1, 0, z0, 38), (38, 4, 0, 0, z0, 39), (39, 29, 40, 43, z0, 42), (42, 0, 0, 0, vi (2), 43), (43, 2, 2, 0, z0, 44), (44, 9, 0, 0, z0, 45), (45, 31, 1, 0, z0, 46), (46, 28, 1, 53, z0, 49), (49, 0, 0, 0, vi (1), 50), (50, 26, 54, 0, z0, 53), (53, 0, 0, 0, z0, 54), (54, 9, 0, 0, z0, 55), (55, 5, 3, 0, z0, 56), (56, 8, 4, 0, vi (1), 59), (59, 26, 5, 0, z0, 62), (62, 2, 3, 0, z0, 63), (63, 36, 1, 0, z0, 64)]
/-- X12_windsBy StrangeWindingModel.windsBy(III)I -/
def cd188 : List (Nat × Ent) := [(0, 0, 0, 0, vi (30), 2), (2, 2, 3, 0, z0, 3), (3, 9, 1, 0, z0, 4), (4, 5, 4, 0, z0, 6), (6, 4, 0, 0, z0, 7), (7, 29, 40, 19, z0, 10), (10, 0, 0, 0, z0, 11), (11, 31, 1, 0, z0, 12), (12, 4, 0, 0, z0, 13), (13, 29, 40, 18, z0, 16), (16, 0, 0, 0, z0, 17), (17, 31, 1, 0, z0, 18), (18, 28, 5, 74, z0, 21), (21, 4, 0, 0, z0, 22), (22, 29, 40, 34, z0, 25), (25, 0, 0, 0, vi (1), 26), (26, 2, 3, 0, z0, 27), (27, 32, 1, 0, z0, 28), (28, 4, 0, 0, z0, 29), (29, 29, 40, 34, z0, 32), (32, 0, 0, 0, vi (2), 33), (33, 4, 0, 0, z0, 34), (34, 29, 40, 43, z0, 37), (37, 0, 0, 0, vi (8), 39), (39, 2, 1, 0, z0, 40), (40, 9, 0, 0, z0, 41), (41, 31, 1, 0, z0, 42), (42, 32, 1, 0, z0, 43), (43, 4, 0, 0, z0, 44), (44, 29, 40, 34, z0, 47), (47, 0, 0, 0, vi (3), 48), (48, 4, 0, 0, z0, 49), (49, 2, 1, 0, z0, 50), (50, 2, 2, 0, z0, 51), (51, 34, 178, 3, vr 40 0, 54), (54, 32, 1, 0, z0, 55), (55, 4, 0, 0, z0, 56), (56, 29, 40, 34, z0, 59), (59, 0, 0, 0, vi (4), 60), (60, 4, 0, 0, z0, 61), (61, 2, 1, 0, z0, 62), (62, 2, 2, 0, z0, 63), (63, 34, 187, 3, vr 40 0, 66), (66, 32, 1, 0, z0, 67), (67, 4, 0, 0, z0, 68), (68, 0, 0, 0, z0, 69), (69, 34, 145, 2, vr 40 0, 72), (72, 5, 4, 0, z0, 74), (74, 2, 4, 0, z0, 76), (76, 0, 0, 0, z0, 77), (77, 0, 0, 0, vi (40), 79), (79, 34, 131, 3, z0, 82), (82, 5, 4, 0, z0, 84), (84, 4, 0, 0, z0, 85), (85, 29, 40, 14, z0, 88), (88, 2, 1, 0, z0, 89), (89, 31, 1, 0, z0, 90), (90, 0, 0, 0, vi (2), 91), (91, 28, 1, 101, z0, 94), (94, 2, 4, 0, z0, 96), (96, 0, 0, 0, vi (2), 97), (97, 10, 0, 0, z0, 98), (98, 26, 103, 0, z0, 101), (101, 2, 4, 0, z0, 103), (103, 36, 1, 0, z0, 104)]
/-- X12_winds StrangeWindingModel.winds(II)V -/
def cd189 : List (Nat × Ent) := [(0, 4, 0, 0, z0, 1), (1, 29, 40, 43, z0, 4), (4, 0, 0, 0, vi (8), 6), (6, 2, 2, 0, z0, 7), (7, 9, 0, 0, z0, 8), (8, 24, 0, 0, z0, 9), (9, 31, 1, 0, z0, 10), (10, 4, 0, 0, z0, 11), (11, 2, 1, 0, z0, 12), (12, 2, 2, 0, z0, 13), (13, 4, 0, 0, z0, 14), (14, 29, 40, 43, z0, 17), (17, 0, 0, 0, vi (8), 19), (19, 2, 2, 0, z0, 20), (20, 9, 0, 0, z0, 21), (21, 31, 1, 0, z0, 22), (22, 34, 188, 4, vr 40 0, 25), (25, 9, 0, 0, z0, 26), (26, 32, 1, 0, z0, 27), (27, 4, 0, 0, z0, 28), (28, 29, 40, 43, z0, 31), (31, 0, 0, 0, vi (14), 33), (33, 0, 0, 0, vi (6), 35), (35, 2, 1, 0, z0, 36), (36, 9, 2, 0, z0, 37), (37, 9, 0, 0, z0, 38), (38, 2, 2, 0, z0, 39), (39, 9, 0, 0, z0, 40), (40, 24, 0, 0, z0, 41), (41, 31, 1, 0, z0, 42), (42, 0, 0, 0, vi (1), 43), (43, 9, 0, 0, z0, 44), (44, 32, 1, 0, z0, 45), (45, 4, 0, 0, z0, 46), (46, 29, 40, 43, z0, 49), (49, 0, 0, 0, vi (8), 51), (51, 2, 2, 0, z0, 52), (52, 9, 0, 0, z0, 53), (53, 31, 1, 0, z0, 54), (54, 4, 0, 0, z0, 55), (55, 29, 40, 10, z0, 58), (58, 0, 0, 0, vi (3), 59), (59, 31, 1, 0, z0, 60), (60, 28, 4, 64, z0, 63), (63, 35, 0, 0, z0, 64), (64, 4, 0, 0, z0, 65), (65, 29, 40, 43, z0, 68), (68, 0, 0, 0, vi (8), 70), (70, 2, 2, 0, z0, 71), (71, 9, 0, 0, z0, 72), (72, 0, 0, 0, z0, 73), (73, 32, 1, 0, z0, 74), (74, 4, 0, 0, z0, 75), (75, 29, 40, 43, z0, 78), (78, 0, 0, 0, vi (1), 79), (79, 24, 0, 0, z0, 80), (80, 31, 1, 0, z0, 81), (81, 0, 0, 0, vi (1), 82), (82, 2, 2, 0, z0, 83), (83, 9, 6, 0, z0, 84), (84, 9, 4, 0, z0, 85), (85, 32, 1, 0, z0, 86), (86, 4, 0, 0, z0, 87), (87, 23, 0, 0, z0, 88), (88, 29, 40, 50, z0, 91), (91, 0, 0, 0, vi (1), 92), (92, 9, 0, 0, z0, 93), (93, 30, 40, 50, z0, 96), (96, 35, 0, 0, z0, 97)]
/-- X12_windsIfLow StrangeWindingModel.windsIfLow(II)I -/
def cd190 : List (Nat × Ent) := [(0, 4, 0, 0, z0, 1), (1, 29, 40, 43, z0, 4), (4, 0, 0, 0, vi (8), 6), (6, 2, 2, 0, z0, 7), (7, 9, 0, 0, z0, 8), (8, 31, 1, 0, z0, 9), (9, 0, 0, 0, vi (9), 11), (11, 28, 4, 31, z0, 14), (14, 4, 0, 0, z0, 15), (15, 2, 1, 0, z0, 16), (16, 2, 2, 0, z0, 17), (17, 34, 185, 3, vr 40 0, 20), (20, 27, 0, 31, z0, 23), (23, 4, 0, 0, z0, 24), (24, 2, 2, 0, z0, 25), (25, 34, 186, 2, vr 40 0, 28), (28, 27, 1, 33, z0, 31), (31, 0, 0, 0, z0, 32), (32, 36, 1, 0, z0, 33), (33, 4, 0, 0, z0, 34), (34, 2, 1, 0, z0, 35), (35, 2, 2, 0, z0, 36), (36, 34, 189, 3, vr 40 0, 39), (39, 0, 0, 0, vi (1), 40), (40, 36, 1, 0, z0, 41)]
/-- X12_passes StrangeWindingModel.passes()I -/
def cd191 : List (Nat × Ent) := [(0, 0, 0, 0, z0, 1), (1, 5, 1, 0, z0, 2), (2, 0, 0, 0, z0, 3), (3, 5, 2, 0, z0, 4), (4, 2, 2, 0, z0, 5), (5, 4, 0, 0, z0, 6), (6, 29, 40, 10, z0, 9), (9, 0, 0, 0, vi (1), 10), (10, 31, 1, 0, z0, 11), (11, 28, 3, 58, z0, 14), (14, 2, 2, 0, z0, 15), (15, 0, 0, 0, vi (1), 16), (16, 9, 0, 0, z0, 17), (17, 5, 3, 0, z0, 18), (18, 2, 3, 0, z0, 19), (19, 4, 0, 0, z0, 20), (20, 29, 40, 10, z0, 23), (23, 0, 0, 0, vi (1), 24), (24, 31, 1, 0, z0, 25), (25, 28, 3, 52, z0, 28), (28, 2, 1, 0, z0, 29), (29, 4, 0, 0, z0, 30), (30, 2, 2, 0, z0, 31), (31, 2, 3, 0, z0, 32), (32, 34, 190, 3, vr 40 0, 35), (35, 9, 0, 0, z0, 36), (36, 5, 1, 0, z0, 37), (37, 2, 1, 0, z0, 38), (38, 4, 0, 0, z0, 39), (39, 2, 3, 0, z0, 40), (40, 2, 2, 0, z0, 41), (41, 34, 190, 3, vr 40 0, 44), (44, 9, 0, 0, z0, 45), (45, 5, 1, 0, z0, 46), (46, 8, 3, 0, vi (1), 49), (49, 26, 18, 0, z0, 52), (52, 8, 2, 0, vi (1), 55), (55, 26, 4, 0, z0, 58), (58, 0, 0, 0, z0, 59), (59, 5, 2, 0, z0, 60), (60, 2, 2, 0, z0, 61), (61, 4, 0, 0, z0, 62), (62, 29, 40, 10, z0, 65), (65, 0, 0, 0, vi (1), 66), (66, 31, 1, 0, z0, 67), (67, 28, 3, 97, z0, 70), (70, 4, 0, 0, z0, 71), (71, 2, 2, 0, z0, 72), (72, 34, 181, 2, vr 40 0, 75), (75, 27, 1, 91, z0, 78), (78, 4, 0, 0, z0, 79), (79, 29, 40, 43, z0, 82), (82, 0, 0, 0, vi (8), 84), (84, 2, 2, 0, z0, 85), (85, 9, 0, 0, z0, 86), (86, 24, 0, 0, z0, 87), (87, 31, 1, 0, z0, 88), (88, 0, 0, 0, vi (1), 89), (89, 9, 1, 0, z0, 90), (90, 32, 1, 0, z0, 91), (91, 8, 2, 0, vi (1), 94), (94, 26, 60, 0, z0, 97), (97, 4, 0, 0, z0, 98), (98, 29, 40, 43, z0, 101), (101, 0, 0, 0, z0, 102), (102, 24, 0, 0, z0, 103), (103, 31, 1, 0, z0, 104), (104, 0, 0, 0, vi (1), 105), (105, 9, 0, 0, z0, 106), (106, 32, 1, 0, z0, 107), (107, 2, 1, 0, z0, 108), (108, 36, 1, 0, z0, 109)]
/-- X12_mends StrangeWindingModel.mends(I)V -/
def cd192 : List (Nat × Ent) := [(0, 4, 0, 0, z0, 1), (1, 29, 40, 43, z0, 4), (4, 0, 0, 0, vi (1), 5), (5, 24, 0, 0, z0, 6), (6, 31, 1, 0, z0, 7), (7, 0, 0, 0, vi (1), 8), (8, 2, 1, 0, z0, 9), (9, 9, 6, 0, z0, 10), (10, 0, 0, 0, vi (-1), 11), (11, 9, 5, 0, z0, 12), (12, 9, 3, 0, z0, 13), (13, 32, 1, 0, z0, 14), (14, 4, 0, 0, z0, 15), (15, 29, 40, 43, z0, 18), (18, 0, 0, 0, vi (8), 20), (20, 2, 1, 0, z0, 21), (21, 9, 0, 0, z0, 22), (22, 0, 0, 0, vi (1), 23), (23, 32, 1, 0, z0, 24), (24, 35, 0, 0, z0, 25)]
/-- X12_person StrangeWindingModel.person(II)I -/
def cd193 : List (Nat × Ent) := [(0, 4, 0, 0, z0, 1), (1, 0, 0, 0, z0, 2), (2, 30, 40, 0, z0, 5), (5, 4, 0, 0, z0, 6), (6, 2, 1, 0, z0, 7), (7, 34, 176, 2, vr 40 0, 10), (10, 27, 0, 22, z0, 13), (13, 2, 2, 0, z0, 14), (14, 0, 0, 0, z0, 15), (15, 0, 0, 0, vi (5), 16), (16, 34, 130, 3, z0, 19), (19, 27, 1, 24, z0, 22), (22, 0, 0, 0, vi (-1), 23), (23, 36, 1, 0, z0, 24), (24, 2, 2, 0, z0, 25), (25, 0, 0, 0, vi (3), 26), (26, 28, 3, 68, z0, 29), (29, 2, 2, 0, z0, 30), (30, 27, 1, 42, z0, 33), (33, 4, 0, 0, z0, 34), (34, 29, 40, 14, z0, 37), (37, 2, 1, 0, z0, 38), (38, 31, 1, 0, z0, 39), (39, 26, 67, 0, z0, 42), (42, 2, 2, 0, z0, 43), (43, 0, 0, 0, vi (1), 44), (44, 28, 1, 58, z0, 47), (47, 4, 0, 0, z0, 48), (48, 29, 40, 43, z0, 51), (51, 0, 0, 0, vi (2), 52), (52, 2, 1, 0, z0, 53), (53, 9, 0, 0, z0, 54), (54, 31, 1, 0, z0, 55), (55, 26, 67, 0, z0, 58), (58, 4, 0, 0, z0, 59), (59, 29, 40, 43, z0, 62), (62, 0, 0, 0, vi (8), 64), (64, 2, 1, 0, z0, 65), (65, 9, 0, 0, z0, 66), (66, 31, 1, 0, z0, 67), (67, 36, 1, 0, z0, 68), (68, 2, 2, 0, z0, 69), (69, 0, 0, 0, vi (5), 70), (70, 28, 3, 105, z0, 73), (73, 2, 2, 0, z0, 74), (74, 0, 0, 0, vi (3), 75), (75, 28, 1, 91, z0, 78), (78, 4, 0, 0, z0, 79), (79, 29, 40, 43, z0, 82), (82, 0, 0, 0, vi (1), 83), (83, 31, 1, 0, z0, 84), (84, 2, 1, 0, z0, 85), (85, 9, 7, 0, z0, 86), (86, 0, 0, 0, vi (1), 87), (87, 9, 3, 0, z0, 88), (88, 26, 104, 0, z0, 91), (91, 4, 0, 0, z0, 92), (92, 2, 1, 0, z0, 93), (93, 34, 181, 2, vr 40 0, 96), (96, 27, 0, 103, z0, 99), (99, 0, 0, 0, vi (1), 100), (100, 26, 104, 0, z0, 103), (103, 0, 0, 0, z0, 104), (104, 36, 1, 0, z0, 105), (105, 4, 0, 0, z0, 106), (106, 2, 1, 0, z0, 107), (107, 34, 183, 2, vr 40 0, 110), (110, 36, 1, 0, z0, 111)]
/-- X12_wound StrangeWindingModel.wound(II)I -/
def cd194 : List (Nat × Ent) := [(0, 4, 0, 0, z0, 1), (1, 0, 0, 0, z0, 2), (2, 30, 40, 0, z0, 5), (5, 4, 0, 0, z0, 6), (6, 2, 1, 0, z0, 7), (7, 2, 2, 0, z0, 8), (8, 34, 177, 3, vr 40 0, 11), (11, 27, 0, 31, z0, 14), (14, 4, 0, 0, z0, 15), (15, 29, 40, 43, z0, 18), (18, 0, 0, 0, vi (14), 20), (20, 0, 0, 0, vi (6), 22), (22, 2, 1, 0, z0, 23), (23, 9, 2, 0, z0, 24), (24, 9, 0, 0, z0, 25), (25, 2, 2, 0, z0, 26), (26, 9, 0, 0, z0, 27), (27, 31, 1, 0, z0, 28), (28, 26, 32, 0, z0, 31), (31, 0, 0, 0, vi (-1), 32), (32, 36, 1, 0, z0, 33)]
/-- X12_lanes StrangeWindingModel.lanes(I)I -/
def cd195 : List (Nat × Ent) := [(0, 4, 0, 0, z0, 1), (1, 0, 0, 0, z0, 2), (2, 30, 40, 0, z0, 5), (5, 4, 0, 0, z0, 6), (6, 2, 1, 0, z0, 7), (7, 34, 175, 2, vr 40 0, 10), (10, 27, 0, 22, z0, 13), (13, 4, 0, 0, z0, 14), (14, 29, 40, 13, z0, 17), (17, 2, 1, 0, z0, 18), (18, 31, 1, 0, z0, 19), (19, 26, 23, 0, z0, 22), (22, 0, 0, 0, vi (-1), 23), (23, 36, 1, 0, z0, 24)]
/-- X12_gives StrangeWindingModel.gives(II)I -/
def cd196 : List (Nat × Ent) := [(0, 4, 0, 0, z0, 1), (1, 0, 0, 0, z0, 2), (2, 30, 40, 0, z0, 5), (5, 4, 0, 0, z0, 6), (6, 2, 1, 0, z0, 7), (7, 2, 2, 0, z0, 8), (8, 34, 177, 3, vr 40 0, 11), (11, 27, 0, 32, z0, 14), (14, 4, 0, 0, z0, 15), (15, 2, 1, 0, z0, 16), (16, 2, 2, 0, z0, 17), (17, 4, 0, 0, z0, 18), (18, 29, 40, 43, z0, 21), (21, 0, 0, 0, vi (8), 23), (23, 2, 2, 0, z0, 24), (24, 9, 0, 0, z0, 25), (25, 31, 1, 0, z0, 26), (26, 34, 188, 4, vr 40 0, 29), (29, 26, 33, 0, z0, 32), (32, 0, 0, 0, vi (-1), 33), (33, 36, 1, 0, z0, 34)]
/-- X12_keeps StrangeWindingModel.keeps()V -/
def cd197 : List (Nat × Ent) := [(0, 4, 0, 0, z0, 1), (1, 29, 40, 49, z0, 4), (4, 0, 0, 0, vi (16), 6), (6, 28, 1, 49, z0, 9), (9, 0, 0, 0, z0, 10), (10, 5, 1, 0, z0, 11), (11, 2, 1, 0, z0, 12), (12, 0, 0, 0, vi (750), 15), (15, 28, 3, 39, z0, 18), (18, 4, 0, 0, z0, 19), (19, 29, 40, 47, z0, 22), (22, 2, 1, 0, z0, 23), (23, 4, 0, 0, z0, 24), (24, 29, 40, 47, z0, 27), (27, 2, 1, 0, z0, 28), (28, 0, 0, 0, vi (50), 30), (30, 9, 0, 0, z0, 31), (31, 31, 1, 0, z0, 32), (32, 32, 1, 0, z0, 33), (33, 8, 1, 0, vi (1), 36), (36, 26, 11, 0, z0, 39), (39, 4, 0, 0, z0, 40), (40, 23, 0, 0, z0, 41), (41, 29, 40, 49, z0, 44), (44, 0, 0, 0, vi (1), 45), (45, 9, 1, 0, z0, 46), (46, 30, 40, 49, z0, 49), (49, 4, 0, 0, z0, 50), (50, 29, 40, 43, z0, 53), (53, 0, 0, 0, z0, 54), (54, 4, 0, 0, z0, 55), (55, 29, 40, 47, z0, 58), (58, 0, 0, 0, vi (50), 60), (60, 4, 0, 0, z0, 61), (61, 29, 40, 49, z0, 64), (64, 9, 2, 0, z0, 65), (65, 34, 168, 4, z0, 68), (68, 4, 0, 0, z0, 69), (69, 23, 0, 0, z0, 70), (70, 29, 40, 49, z0, 73), (73, 0, 0, 0, vi (1), 74), (74, 9, 0, 0, z0, 75), (75, 30, 40, 49, z0, 78), (78, 35, 0, 0, z0, 79)]
/-- X12_walk StrangeWindingModel.walk(II)Z -/
def cd198 : List (Nat × Ent) := [(0, 4, 0, 0, z0, 1), (1, 0, 0, 0, z0, 2), (2, 30, 40, 0, z0, 5), (5, 4, 0, 0, z0, 6), (6, 2, 1, 0, z0, 7), (7, 34, 176, 2, vr 40 0, 10), (10, 27, 0, 30, z0, 13), (13, 4, 0, 0, z0, 14), (14, 2, 2, 0, z0, 15), (15, 34, 175, 2, vr 40 0, 18), (18, 27, 0, 30, z0, 21), (21, 4, 0, 0, z0, 22), (22, 2, 1, 0, z0, 23), (23, 2, 2, 0, z0, 24), (24, 34, 184, 3, vr 40 0, 27), (27, 27, 1, 32, z0, 30), (30, 0, 0, 0, z0, 31), (31, 36, 2, 0, z0, 32), (32, 4, 0, 0, z0, 33), (33, 34, 197, 1, vr 40 0, 36), (36, 4, 0, 0, z0, 37), (37, 29, 40, 43, z0, 40), (40, 0, 0, 0, vi (2), 41), (41, 2, 1, 0, z0, 42), (42, 9, 0, 0, z0, 43), (43, 2, 2, 0, z0, 44), (44, 32, 1, 0, z0, 45), (45, 0, 0, 0, vi (1), 46), (46, 36, 2, 0, z0, 47)]
/-- X12_wind StrangeWindingModel.wind(II)I -/
def cd199 : List (Nat × Ent) := [(0, 4, 0, 0, z0, 1), (1, 0, 0, 0, z0, 2), (2, 30, 40, 0, z0, 5), (5, 4, 0, 0, z0, 6), (6, 2, 1, 0, z0, 7), (7, 2, 2, 0, z0, 8), (8, 34, 177, 3, vr 40 0, 11), (11, 27, 0, 31, z0, 14), (14, 4, 0, 0, z0, 15), (15, 2, 1, 0, z0, 16), (16, 2, 2, 0, z0, 17), (17, 34, 185, 3, vr 40 0, 20), (20, 27, 0, 31, z0, 23), (23, 4, 0, 0, z0, 24), (24, 2, 2, 0, z0, 25), (25, 34, 186, 2, vr 40 0, 28), (28, 27, 1, 33, z0, 31), (31, 0, 0, 0, vi (-1), 32), (32, 36, 1, 0, z0, 33), (33, 4, 0, 0, z0, 34), (34, 34, 197, 1, vr 40 0, 37), (37, 4, 0, 0, z0, 38), (38, 2, 1, 0, z0, 39), (39, 2, 2, 0, z0, 40), (40, 34, 189, 3, vr 40 0, 43), (43, 4, 0, 0, z0, 44), (44, 29, 40, 43, z0, 47), (47, 0, 0, 0, vi (8), 49), (49, 2, 2, 0, z0, 50), (50, 9, 0, 0, z0, 51), (51, 31, 1, 0, z0, 52), (52, 36, 1, 0, z0, 53)]
/-- X12_mend StrangeWindingModel.mend(I)Z -/
def cd200 : List (Nat × Ent) := [(0, 4, 0, 0, z0, 1), (1, 0, 0, 0, z0, 2), (2, 30, 40, 0, z0, 5), (5, 4, 0, 0, z0, 6), (6, 2, 1, 0, z0, 7), (7, 34, 176, 2, vr 40 0, 10), (10, 27, 0, 21, z0, 13), (13, 4, 0, 0, z0, 14), (14, 2, 1, 0, z0, 15), (15, 34, 180, 2, vr 40 0, 18), (18, 27, 1, 23, z0, 21), (21, 0, 0, 0, z0, 22), (22, 36, 2, 0, z0, 23), (23, 4, 0, 0, z0, 24), (24, 34, 197, 1, vr 40 0, 27), (27, 4, 0, 0, z0, 28), (28, 2, 1, 0, z0, 29), (29, 34, 192, 2, vr 40 0, 32), (32, 0, 0, 0, vi (1), 33), (33, 36, 2, 0, z0, 34)]
/-- X12_hour StrangeWindingModel.hour()I -/
def cd201 : List (Nat × Ent) := [(0, 4, 0, 0, z0, 1), (1, 0, 0, 0, z0, 2), (2, 30, 40, 0, z0, 5), (5, 4, 0, 0, z0, 6), (6, 34, 197, 1, vr 40 0, 9), (9, 4, 0, 0, z0, 10), (10, 34, 191, 1, vr 40 0, 13), (13, 36, 1, 0, z0, 14)]
/-- X12_undo StrangeWindingModel.undo()Z -/
def cd202 : List (Nat × Ent) := [(0, 4, 0, 0, z0, 1), (1, 0, 0, 0, z0, 2), (2, 30, 40, 0, z0, 5), (5, 4, 0, 0, z0, 6), (6, 29, 40, 49, z0, 9), (9, 27, 1, 14, z0, 12), (12, 0, 0, 0, z0, 13), (13, 36, 2, 0, z0, 14), (14, 4, 0, 0, z0, 15), (15, 23, 0, 0, z0, 16), (16, 29, 40, 49, z0, 19), (19, 0, 0, 0, vi (1), 20), (20, 9, 1, 0, z0, 21), (21, 30, 40, 49, z0, 24), (24, 4, 0, 0, z0, 25), (25, 29, 40, 47, z0, 28), (28, 0, 0, 0, vi (50), 30), (30, 4, 0, 0, z0, 31), (31, 29, 40, 49, z0, 34), (34, 9, 2, 0, z0, 35), (35, 4, 0, 0, z0, 36), (36, 29, 40, 43, z0, 39), (39, 0, 0, 0, z0, 40), (40, 34, 168, 4, z0, 43), (43, 0, 0, 0, vi (1), 44), (44, 36, 2, 0, z0, 45)]
/-- X12_goes StrangeWindingModel.goes(I)Z -/
def cd203 : List (Nat × Ent) := [(0, 4, 0, 0, z0, 1), (1, 29, 40, 39, z0, 4), (4, 2, 1, 0, z0, 5), (5, 31, 1, 0, z0, 6), (6, 5, 2, 0, z0, 7), (7, 4, 0, 0, z0, 8), (8, 29, 40, 40, z0, 11), (11, 2, 1, 0, z0, 12), (12, 31, 1, 0, z0, 13), (13, 5, 3, 0, z0, 14), (14, 4, 0, 0, z0, 15), (15, 29, 40, 41, z0, 18), (18, 2, 1, 0, z0, 19), (19, 31, 1, 0, z0, 20), (20, 5, 4, 0, z0, 22), (22, 2, 2, 0, z0, 23), (23, 27, 1, 51, z0, 26), (26, 4, 0, 0, z0, 27), (27, 2, 3, 0, z0, 28), (28, 2, 4, 0, z0, 30), (30, 34, 184, 3, vr 40 0, 33), (33, 27, 1, 38, z0, 36), (36, 0, 0, 0, z0, 37), (37, 36, 2, 0, z0, 38), (38, 4, 0, 0, z0, 39), (39, 29, 40, 43, z0, 42), (42, 0, 0, 0, vi (2), 43), (43, 2, 3, 0, z0, 44), (44, 9, 0, 0, z0, 45), (45, 2, 4, 0, z0, 47), (47, 32, 1, 0, z0, 48), (48, 26, 115, 0, z0, 51), (51, 2, 2, 0, z0, 52), (52, 0, 0, 0, vi (1), 53), (53, 28, 1, 87, z0, 56), (56, 4, 0, 0, z0, 57), (57, 2, 3, 0, z0, 58), (58, 2, 4, 0, z0, 60), (60, 34, 185, 3, vr 40 0, 63), (63, 27, 0, 75, z0, 66), (66, 4, 0, 0, z0, 67), (67, 2, 4, 0, z0, 69), (69, 34, 186, 2, vr 40 0, 72), (72, 27, 1, 77, z0, 75), (75, 0, 0, 0, z0, 76), (76, 36, 2, 0, z0, 77), (77, 4, 0, 0, z0, 78), (78, 2, 3, 0, z0, 79), (79, 2, 4, 0, z0, 81), (81, 34, 189, 3, vr 40 0, 84), (84, 26, 115, 0, z0, 87), (87, 2, 2, 0, z0, 88), (88, 0, 0, 0, vi (2), 89), (89, 28, 1, 110, z0, 92), (92, 4, 0, 0, z0, 93), (93, 2, 3, 0, z0, 94), (94, 34, 180, 2, vr 40 0, 97), (97, 27, 1, 102, z0, 100), (100, 0, 0, 0, z0, 101), (101, 36, 2, 0, z0, 102), (102, 4, 0, 0, z0, 103), (103, 2, 3, 0, z0, 104), (104, 34, 192, 2, vr 40 0, 107), (107, 26, 115, 0, z0, 110), (110, 4, 0, 0, z0, 111), (111, 34, 191, 1, vr 40 0, 114), (114, 25, 0, 0, z0, 115), (115, 0, 0, 0, vi (1), 116), (116, 36, 2, 0, z0, 117)]
/-- X12_judged StrangeWindingModel.judged(I)I -/
def cd204 : List (Nat × Ent) := [(0, 4, 0, 0, z0, 1), (1, 0, 0, 0, z0, 2), (2, 30, 40, 0, z0, 5), (5, 2, 1, 0, z0, 6), (6, 0, 0, 0, z0, 7), (7, 0, 0, 0, vi (2), 8), (8, 34, 130, 3, z0, 11), (11, 27, 1, 17, z0, 14), (14, 0, 0, 0, vi (-2), 16), (16, 36, 1, 0, z0, 17), (17, 4, 0, 0, z0, 18), (18, 29, 40, 43, z0, 21), (21, 0, 0, 0, z0, 22), (22, 4, 0, 0, z0, 23), (23, 29, 40, 44, z0, 26), (26, 0, 0, 0, z0, 27), (27, 34, 168, 4, z0, 30), (30, 4, 0, 0, z0, 31), (31, 34, 171, 1, vr 40 0, 34), (34, 0, 0, 0, vi (-1), 35), (35, 5, 2, 0, z0, 36), (36, 0, 0, 0, vi (-1), 37), (37, 5, 3, 0, z0, 38), (38, 0, 0, 0, z0, 39), (39, 5, 4, 0, z0, 41), (41, 2, 4, 0, z0, 43), (43, 4, 0, 0, z0, 44), (44, 29, 40, 38, z0, 47), (47, 0, 0, 0, z0, 48), (48, 31, 1, 0, z0, 49), (49, 28, 3, 93, z0, 52), (52, 4, 0, 0, z0, 53), (53, 0, 0, 0, z0, 54), (54, 30, 40, 50, z0, 57), (57, 4, 0, 0, z0, 58), (58, 2, 4, 0, z0, 60), (60, 34, 203, 2, vr 40 0, 63), (63, 27, 1, 73, z0, 66), (66, 2, 2, 0, z0, 67), (67, 27, 3, 73, z0, 70), (70, 2, 4, 0, z0, 72), (72, 5, 2, 0, z0, 73), (73, 4, 0, 0, z0, 74), (74, 29, 40, 50, z0, 77), (77, 27, 5, 87, z0, 80), (80, 2, 3, 0, z0, 81), (81, 27, 3, 87, z0, 84), (84, 2, 4, 0, z0, 86), (86, 5, 3, 0, z0, 87), (87, 8, 4, 0, vi (1), 90), (90, 26, 41, 0, z0, 93), (93, 4, 0, 0, z0, 94), (94, 34, 182, 1, vr 40 0, 97), (97, 5, 4, 0, z0, 99), (99, 4, 0, 0, z0, 100), (100, 29, 40, 44, z0, 103), (103, 0, 0, 0, z0, 104), (104, 4, 0, 0, z0, 105), (105, 29, 40, 43, z0, 108), (108, 0, 0, 0, z0, 109), (109, 34, 168, 4, z0, 112), (112, 2, 1, 0, z0, 113), (113, 27, 1, 120, z0, 116), (116, 2, 2, 0, z0, 117), (117, 26, 131, 0, z0, 120), (120, 2, 1, 0, z0, 121), (121, 0, 0, 0, vi (1), 122), (122, 28, 1, 129, z0, 125), (125, 2, 3, 0, z0, 126), (126, 26, 131, 0, z0, 129), (129, 2, 4, 0, z0, 131), (131, 36, 1, 0, z0, 132)]
/-- X12_stops StrangeWindingModel.stops(I)I -/
def cd205 : List (Nat × Ent) := [(0, 4, 0, 0, z0, 1), (1, 0, 0, 0, z0, 2), (2, 30, 40, 0, z0, 5), (5, 4, 0, 0, z0, 6), (6, 2, 1, 0, z0, 7), (7, 34, 176, 2, vr 40 0, 10), (10, 27, 1, 15, z0, 13), (13, 0, 0, 0, vi (-1), 14), (14, 36, 1, 0, z0, 15), (15, 4, 0, 0, z0, 16), (16, 29, 40, 43, z0, 19), (19, 0, 0, 0, z0, 20), (20, 4, 0, 0, z0, 21), (21, 29, 40, 44, z0, 24), (24, 0, 0, 0, z0, 25), (25, 34, 168, 4, z0, 28), (28, 0, 0, 0, z0, 29), (29, 5, 2, 0, z0, 30), (30, 2, 2, 0, z0, 31), (31, 0, 0, 0, vi (100), 33), (33, 28, 3, 55, z0, 36), (36, 4, 0, 0, z0, 37), (37, 2, 1, 0, z0, 38), (38, 34, 181, 2, vr 40 0, 41), (41, 27, 1, 55, z0, 44), (44, 4, 0, 0, z0, 45), (45, 34, 191, 1, vr 40 0, 48), (48, 25, 0, 0, z0, 49), (49, 8, 2, 0, vi (1), 52), (52, 26, 30, 0, z0, 55), (55, 4, 0, 0, z0, 56), (56, 29, 40, 44, z0, 59), (59, 0, 0, 0, z0, 60), (60, 4, 0, 0, z0, 61), (61, 29, 40, 43, z0, 64), (64, 0, 0, 0, z0, 65), (65, 34, 168, 4, z0, 68), (68, 2, 2, 0, z0, 69), (69, 0, 0, 0, vi (100), 71), (71, 28, 1, 78, z0, 74), (74, 0, 0, 0, vi (-1), 75), (75, 26, 79, 0, z0, 78), (78, 2, 2, 0, z0, 79), (79, 36, 1, 0, z0, 80)]
/-- X12_august StrangeWindingModel.august()I -/
def cd206 : List (Nat × Ent) := [(0, 4, 0, 0, z0, 1), (1, 0, 0, 0, z0, 2), (2, 30, 40, 0, z0, 5), (5, 4, 0, 0, z0, 6), (6, 29, 40, 43, z0, 9), (9, 0, 0, 0, z0, 10), (10, 4, 0, 0, z0, 11), (11, 29, 40, 44, z0, 14), (14, 0, 0, 0, z0, 15), (15, 34, 168, 4, z0, 18), (18, 0, 0, 0, z0, 19), (19, 5, 1, 0, z0, 20), (20, 2, 1, 0, z0, 21), (21, 0, 0, 0, vi (100), 23), (23, 28, 3, 54, z0, 26), (26, 4, 0, 0, z0, 27), (27, 34, 182, 1, vr 40 0, 30), (30, 0, 0, 0, vi (1), 31), (31, 4, 0, 0, z0, 32), (32, 29, 40, 10, z0, 35), (35, 0, 0, 0, vi (1), 36), (36, 31, 1, 0, z0, 37), (37, 9, 6, 0, z0, 38), (38, 0, 0, 0, vi (1), 39), (39, 9, 1, 0, z0, 40), (40, 28, 0, 54, z0, 43), (43, 4, 0, 0, z0, 44), (44, 34, 191, 1, vr 40 0, 47), (47, 25, 0, 0, z0, 48), (48, 8, 1, 0, vi (1), 51), (51, 26, 20, 0, z0, 54), (54, 4, 0, 0, z0, 55), (55, 29, 40, 44, z0, 58), (58, 0, 0, 0, z0, 59), (59, 4, 0, 0, z0, 60), (60, 29, 40, 43, z0, 63), (63, 0, 0, 0, z0, 64), (64, 34, 168, 4, z0, 67), (67, 2, 1, 0, z0, 68), (68, 0, 0, 0, vi (100), 70), (70, 28, 1, 77, z0, 73), (73, 0, 0, 0, vi (-1), 74), (74, 26, 78, 0, z0, 77), (77, 2, 1, 0, z0, 78), (78, 36, 1, 0, z0, 79)]
/-- X12_plans StrangeWindingModel.plans(III)V -/
def cd207 : List (Nat × Ent) := [(0, 2, 2, 0, z0, 1), (1, 2, 3, 0, z0, 2), (2, 28, 1, 65, z0, 5), (5, 4, 0, 0, z0, 6), (6, 29, 40, 43, z0, 9), (9, 0, 0, 0, vi (8), 11), (11, 2, 1, 0, z0, 12), (12, 9, 0, 0, z0, 13), (13, 31, 1, 0, z0, 14), (14, 4, 0, 0, z0, 15), (15, 29, 40, 53, z0, 18), (18, 28, 4, 22, z0, 21), (21, 35, 0, 0, z0, 22), (22, 4, 0, 0, z0, 23), (23, 4, 0, 0, z0, 24), (24, 29, 40, 43, z0, 27), (27, 0, 0, 0, vi (8), 29), (29, 2, 1, 0, z0, 30), (30, 9, 0, 0, z0, 31), (31, 31, 1, 0, z0, 32), (32, 30, 40, 53, z0, 35), (35, 0, 0, 0, z0, 36), (36, 5, 4, 0, z0, 38), (38, 2, 4, 0, z0, 40), (40, 0, 0, 0, vi (4), 41), (41, 28, 3, 64, z0, 44), (44, 4, 0, 0, z0, 45), (45, 29, 40, 52, z0, 48), (48, 2, 4, 0, z0, 50), (50, 4, 0, 0, z0, 51), (51, 29, 40, 51, z0, 54), (54, 2, 4, 0, z0, 56), (56, 31, 1, 0, z0, 57), (57, 32, 1, 0, z0, 58), (58, 8, 4, 0, vi (1), 61), (61, 26, 38, 0, z0, 64), (64, 35, 0, 0, z0, 65), (65, 4, 0, 0, z0, 66), (66, 29, 40, 43, z0, 69), (69, 0, 0, 0, z0, 70), (70, 4, 0, 0, z0, 71), (71, 29, 40, 45, z0, 74), (74, 0, 0, 0, vi (50), 76), (76, 2, 2, 0, z0, 77), (77, 9, 2, 0, z0, 78), (78, 34, 168, 4, z0, 81), (81, 0, 0, 0, z0, 82), (82, 5, 4, 0, z0, 84), (84, 2, 4, 0, z0, 86), (86, 4, 0, 0, z0, 87), (87, 29, 40, 10, z0, 90), (90, 0, 0, 0, z0, 91), (91, 31, 1, 0, z0, 92), (92, 28, 3, 175, z0, 95), (95, 2, 4, 0, z0, 97), (97, 4, 0, 0, z0, 98), (98, 29, 40, 43, z0, 101), (101, 0, 0, 0, vi (2), 102), (102, 2, 1, 0, z0, 103), (103, 9, 0, 0, z0, 104), (104, 31, 1, 0, z0, 105), (105, 28, 0, 121, z0, 108), (108, 4, 0, 0, z0, 109), (109, 2, 1, 0, z0, 110), (110, 2, 4, 0, z0, 112), (112, 34, 184, 3, vr 40 0, 115), (115, 27, 1, 121, z0, 118), (118, 26, 169, 0, z0, 121), (121, 4, 0, 0, z0, 122), (122, 29, 40, 43, z0, 125), (125, 0, 0, 0, vi (2), 126), (126, 2, 1, 0, z0, 127), (127, 9, 0, 0, z0, 128), (128, 2, 4, 0, z0, 130), (130, 32, 1, 0, z0, 131), (131, 4, 0, 0, z0, 132), (132, 29, 40, 51, z0, 135), (135, 2, 2, 0, z0, 136), (136, 2, 4, 0, z0, 138), (138, 32, 1, 0, z0, 139), (139, 4, 0, 0, z0, 140), (140, 34, 191, 1, vr 40 0, 143), (143, 25, 0, 0, z0, 144), (144, 4, 0, 0, z0, 145), (145, 2, 1, 0, z0, 146), (146, 2, 2, 0, z0, 147), (147, 0, 0, 0, vi (1), 148), (148, 9, 0, 0, z0, 149), (149, 2, 3, 0, z0, 150), (150, 34, 207, 4, vr 40 0, 153), (153, 4, 0, 0, z0, 154), (154, 29, 40, 45, z0, 157), (157, 0, 0, 0, vi (50), 159), (159, 2, 2, 0, z0, 160), (160, 9, 2, 0, z0, 161), (161, 4, 0, 0, z0, 162), (162, 29, 40, 43, z0, 165), (165, 0, 0, 0, z0, 166), (166, 34, 168, 4, z0, 169), (169, 8, 4, 0, vi (1), 172), (172, 26, 84, 0, z0, 175), (175, 35, 0, 0, z0, 176)]
/-- X12_plan StrangeWindingModel.plan(III)I -/
def cd208 : List (Nat × Ent) := [(0, 4, 0, 0, z0, 1), (1, 0, 0, 0, z0, 2), (2, 30, 40, 0, z0, 5), (5, 4, 0, 0, z0, 6), (6, 2, 1, 0, z0, 7), (7, 34, 176, 2, vr 40 0, 10), (10, 27, 0, 31, z0, 13), (13, 2, 2, 0, z0, 14), (14, 0, 0, 0, vi (1), 15), (15, 0, 0, 0, vi (4), 16), (16, 34, 130, 3, z0, 19), (19, 27, 0, 31, z0, 22), (22, 2, 3, 0, z0, 23), (23, 0, 0, 0, z0, 24), (24, 2, 2, 0, z0, 25), (25, 34, 130, 3, z0, 28), (28, 27, 1, 33, z0, 31), (31, 0, 0, 0, vi (-1), 32), (32, 36, 1, 0, z0, 33), (33, 4, 0, 0, z0, 34), (34, 0, 0, 0, vi (-1), 35), (35, 30, 40, 53, z0, 38), (38, 4, 0, 0, z0, 39), (39, 2, 1, 0, z0, 40), (40, 0, 0, 0, z0, 41), (41, 2, 2, 0, z0, 42), (42, 34, 207, 4, vr 40 0, 45), (45, 2, 3, 0, z0, 46), (46, 27, 1, 56, z0, 49), (49, 4, 0, 0, z0, 50), (50, 29, 40, 53, z0, 53), (53, 26, 64, 0, z0, 56), (56, 4, 0, 0, z0, 57), (57, 29, 40, 52, z0, 60), (60, 2, 3, 0, z0, 61), (61, 0, 0, 0, vi (1), 62), (62, 9, 1, 0, z0, 63), (63, 31, 1, 0, z0, 64), (64, 36, 1, 0, z0, 65)]
/-- X12_stand StrangeWindingModel.stand(I)I -/
def cd209 : List (Nat × Ent) := [(0, 4, 0, 0, z0, 1), (1, 0, 0, 0, z0, 2), (2, 30, 40, 0, z0, 5), (5, 4, 0, 0, z0, 6), (6, 2, 1, 0, z0, 7), (7, 34, 176, 2, vr 40 0, 10), (10, 27, 0, 21, z0, 13), (13, 4, 0, 0, z0, 14), (14, 2, 1, 0, z0, 15), (15, 34, 181, 2, vr 40 0, 18), (18, 27, 0, 23, z0, 21), (21, 0, 0, 0, vi (-1), 22), (22, 36, 1, 0, z0, 23), (23, 0, 0, 0, vi (-1), 24), (24, 5, 2, 0, z0, 25), (25, 0, 0, 0, z0, 26), (26, 5, 3, 0, z0, 27), (27, 0, 0, 0, z0, 28), (28, 5, 4, 0, z0, 30), (30, 2, 4, 0, z0, 32), (32, 4, 0, 0, z0, 33), (33, 29, 40, 10, z0, 36), (36, 0, 0, 0, z0, 37), (37, 31, 1, 0, z0, 38), (38, 28, 3, 169, z0, 41), (41, 2, 4, 0, z0, 43), (43, 4, 0, 0, z0, 44), (44, 29, 40, 43, z0, 47), (47, 0, 0, 0, vi (2), 48), (48, 2, 1, 0, z0, 49), (49, 9, 0, 0, z0, 50), (50, 31, 1, 0, z0, 51), (51, 28, 0, 67, z0, 54), (54, 4, 0, 0, z0, 55), (55, 2, 1, 0, z0, 56), (56, 2, 4, 0, z0, 58), (58, 34, 184, 3, vr 40 0, 61), (61, 27, 1, 67, z0, 64), (64, 26, 163, 0, z0, 67), (67, 0, 0, 0, z0, 68), (68, 5, 5, 0, z0, 70), (70, 0, 0, 0, z0, 71), (71, 5, 6, 0, z0, 73), (73, 2, 6, 0, z0, 75), (75, 4, 0, 0, z0, 76), (76, 29, 40, 10, z0, 79), (79, 0, 0, 0, vi (1), 80), (80, 31, 1, 0, z0, 81), (81, 28, 3, 144, z0, 84), (84, 2, 5, 0, z0, 86), (86, 4, 0, 0, z0, 87), (87, 29, 40, 43, z0, 90), (90, 0, 0, 0, vi (2), 91), (91, 2, 6, 0, z0, 93), (93, 9, 0, 0, z0, 94), (94, 31, 1, 0, z0, 95), (95, 2, 4, 0, z0, 97), (97, 28, 1, 134, z0, 100), (100, 4, 0, 0, z0, 101), (101, 2, 6, 0, z0, 103), (103, 2, 1, 0, z0, 104), (104, 34, 179, 3, vr 40 0, 107), (107, 27, 0, 134, z0, 110), (110, 4, 0, 0, z0, 111), (111, 29, 40, 14, z0, 114), (114, 2, 6, 0, z0, 116), (116, 31, 1, 0, z0, 117), (117, 0, 0, 0, vi (1), 118), (118, 28, 0, 134, z0, 121), (121, 4, 0, 0, z0, 122), (122, 2, 6, 0, z0, 124), (124, 34, 181, 2, vr 40 0, 127), (127, 27, 1, 134, z0, 130), (130, 0, 0, 0, vi (1), 131), (131, 26, 135, 0, z0, 134), (134, 0, 0, 0, z0, 135), (135, 9, 0, 0, z0, 136), (136, 5, 5, 0, z0, 138), (138, 8, 6, 0, vi (1), 141), (141, 26, 73, 0, z0, 144), (144, 2, 2, 0, z0, 145), (145, 27, 2, 157, z0, 148), (148, 2, 5, 0, z0, 150), (150, 2, 3, 0, z0, 151), (151, 28, 4, 157, z0, 154), (154, 26, 163, 0, z0, 157), (157, 2, 4, 0, z0, 159), (159, 5, 2, 0, z0, 160), (160, 2, 5, 0, z0, 162), (162, 5, 3, 0, z0, 163), (163, 8, 4, 0, vi (1), 166), (166, 26, 30, 0, z0, 169), (169, 2, 2, 0, z0, 170), (170, 36, 1, 0, z0, 171)]
/-- X12_nobodySits StrangeWindingModel.nobodySits(III)Z -/
def cd210 : List (Nat × Ent) := [(0, 4, 0, 0, z0, 1), (1, 29, 40, 43, z0, 4), (4, 0, 0, 0, z0, 5), (5, 4, 0, 0, z0, 6), (6, 29, 40, 44, z0, 9), (9, 0, 0, 0, z0, 10), (10, 34, 168, 4, z0, 13), (13, 0, 0, 0, z0, 14), (14, 5, 4, 0, z0, 16), (16, 2, 4, 0, z0, 18), (18, 4, 0, 0, z0, 19), (19, 29, 40, 10, z0, 22), (22, 0, 0, 0, vi (1), 23), (23, 31, 1, 0, z0, 24), (24, 28, 3, 53, z0, 27), (27, 2, 1, 0, z0, 28), (28, 2, 4, 0, z0, 30), (30, 9, 7, 0, z0, 31), (31, 0, 0, 0, vi (1), 32), (32, 9, 3, 0, z0, 33), (33, 0, 0, 0, vi (1), 34), (34, 28, 1, 47, z0, 37), (37, 4, 0, 0, z0, 38), (38, 29, 40, 43, z0, 41), (41, 0, 0, 0, vi (2), 42), (42, 2, 4, 0, z0, 44), (44, 9, 0, 0, z0, 45), (45, 2, 2, 0, z0, 46), (46, 32, 1, 0, z0, 47), (47, 8, 4, 0, vi (1), 50), (50, 26, 16, 0, z0, 53), (53, 0, 0, 0, z0, 54), (54, 5, 4, 0, z0, 56), (56, 2, 4, 0, z0, 58), (58, 2, 3, 0, z0, 59), (59, 28, 3, 73, z0, 62), (62, 4, 0, 0, z0, 63), (63, 34, 191, 1, vr 40 0, 66), (66, 25, 0, 0, z0, 67), (67, 8, 4, 0, vi (1), 70), (70, 26, 56, 0, z0, 73), (73, 4, 0, 0, z0, 74), (74, 34, 182, 1, vr 40 0, 77), (77, 27, 1, 84, z0, 80), (80, 0, 0, 0, vi (1), 81), (81, 26, 85, 0, z0, 84), (84, 0, 0, 0, z0, 85), (85, 5, 4, 0, z0, 87), (87, 4, 0, 0, z0, 88), (88, 29, 40, 44, z0, 91), (91, 0, 0, 0, z0, 92), (92, 4, 0, 0, z0, 93), (93, 29, 40, 43, z0, 96), (96, 0, 0, 0, z0, 97), (97, 34, 168, 4, z0, 100), (100, 2, 4, 0, z0, 102), (102, 36, 2, 0, z0, 103)]
/-- X12_canAllWalk StrangeWindingModel.canAllWalk(II)Z -/
def cd211 : List (Nat × Ent) := [(0, 0, 0, 0, z0, 1), (1, 5, 3, 0, z0, 2), (2, 2, 3, 0, z0, 3), (3, 4, 0, 0, z0, 4), (4, 29, 40, 10, z0, 7), (7, 0, 0, 0, vi (1), 8), (8, 31, 1, 0, z0, 9), (9, 28, 3, 38, z0, 12), (12, 2, 1, 0, z0, 13), (13, 2, 3, 0, z0, 14), (14, 9, 7, 0, z0, 15), (15, 0, 0, 0, vi (1), 16), (16, 9, 3, 0, z0, 17), (17, 0, 0, 0, vi (1), 18), (18, 28, 1, 32, z0, 21), (21, 4, 0, 0, z0, 22), (22, 2, 3, 0, z0, 23), (23, 2, 2, 0, z0, 24), (24, 34, 184, 3, vr 40 0, 27), (27, 27, 1, 32, z0, 30), (30, 0, 0, 0, z0, 31), (31, 36, 2, 0, z0, 32), (32, 8, 3, 0, vi (1), 35), (35, 26, 2, 0, z0, 38), (38, 0, 0, 0, vi (1), 39), (39, 36, 2, 0, z0, 40)]
/-- X12_whereTo StrangeWindingModel.whereTo(II)I -/
def cd212 : List (Nat × Ent) := [(0, 0, 0, 0, z0, 1), (1, 5, 3, 0, z0, 2), (2, 2, 3, 0, z0, 3), (3, 4, 0, 0, z0, 4), (4, 29, 40, 10, z0, 7), (7, 0, 0, 0, z0, 8), (8, 31, 1, 0, z0, 9), (9, 28, 3, 39, z0, 12), (12, 4, 0, 0, z0, 13), (13, 2, 1, 0, z0, 14), (14, 2, 3, 0, z0, 15), (15, 34, 211, 3, vr 40 0, 18), (18, 27, 0, 33, z0, 21), (21, 4, 0, 0, z0, 22), (22, 2, 1, 0, z0, 23), (23, 2, 3, 0, z0, 24), (24, 2, 2, 0, z0, 25), (25, 34, 210, 4, vr 40 0, 28), (28, 27, 0, 33, z0, 31), (31, 2, 3, 0, z0, 32), (32, 36, 1, 0, z0, 33), (33, 8, 3, 0, vi (1), 36), (36, 26, 2, 0, z0, 39), (39, 0, 0, 0, vi (-1), 40), (40, 36, 1, 0, z0, 41)]
/-- X12_fewest StrangeWindingModel.fewest(II)I -/
def cd213 : List (Nat × Ent) := [(0, 4, 0, 0, z0, 1), (1, 0, 0, 0, z0, 2), (2, 30, 40, 0, z0, 5), (5, 2, 1, 0, z0, 6), (6, 0, 0, 0, vi (1), 7), (7, 0, 0, 0, vi (24), 9), (9, 34, 130, 3, z0, 12), (12, 27, 0, 24, z0, 15), (15, 2, 2, 0, z0, 16), (16, 0, 0, 0, z0, 17), (17, 0, 0, 0, vi (1), 18), (18, 34, 130, 3, z0, 21), (21, 27, 1, 27, z0, 24), (24, 0, 0, 0, vi (-2), 26), (26, 36, 1, 0, z0, 27), (27, 4, 0, 0, z0, 28), (28, 0, 0, 0, z0, 29), (29, 0, 0, 0, z0, 30), (30, 2, 1, 0, z0, 31), (31, 34, 210, 4, vr 40 0, 34), (34, 27, 0, 47, z0, 37), (37, 2, 2, 0, z0, 38), (38, 27, 1, 45, z0, 41), (41, 0, 0, 0, z0, 42), (42, 26, 46, 0, z0, 45), (45, 0, 0, 0, vi (-1), 46), (46, 36, 1, 0, z0, 47), (47, 0, 0, 0, z0, 48), (48, 5, 3, 0, z0, 49), (49, 0, 0, 0, vi (-1), 50), (50, 5, 4, 0, z0, 52), (52, 0, 0, 0, vi (1), 53), (53, 5, 5, 0, z0, 55), (55, 2, 5, 0, z0, 57), (57, 0, 0, 0, vi (1), 58), (58, 4, 0, 0, z0, 59), (59, 29, 40, 10, z0, 62), (62, 0, 0, 0, vi (1), 63), (63, 31, 1, 0, z0, 64), (64, 9, 6, 0, z0, 65), (65, 28, 3, 117, z0, 68), (68, 2, 3, 0, z0, 69), (69, 27, 5, 87, z0, 72), (72, 2, 5, 0, z0, 74), (74, 34, 132, 1, z0, 77), (77, 2, 3, 0, z0, 78), (78, 34, 132, 1, z0, 81), (81, 28, 2, 87, z0, 84), (84, 26, 111, 0, z0, 87), (87, 4, 0, 0, z0, 88), (88, 2, 5, 0, z0, 90), (90, 2, 1, 0, z0, 91), (91, 34, 212, 3, vr 40 0, 94), (94, 5, 6, 0, z0, 96), (96, 2, 6, 0, z0, 98), (98, 27, 3, 104, z0, 101), (101, 26, 111, 0, z0, 104), (104, 2, 5, 0, z0, 106), (106, 5, 3, 0, z0, 107), (107, 2, 6, 0, z0, 109), (109, 5, 4, 0, z0, 111), (111, 8, 5, 0, vi (1), 114), (114, 26, 55, 0, z0, 117), (117, 2, 3, 0, z0, 118), (118, 27, 1, 126, z0, 121), (121, 0, 0, 0, vi (-2), 123), (123, 26, 136, 0, z0, 126), (126, 2, 2, 0, z0, 127), (127, 27, 1, 134, z0, 130), (130, 2, 3, 0, z0, 131), (131, 26, 136, 0, z0, 134), (134, 2, 4, 0, z0, 136), (136, 36, 1, 0, z0, 137)]
/-- X12_tale StrangeWindingModel.tale(II)Z -/
def cd214 : List (Nat × Ent) := [(0, 4, 0, 0, z0, 1), (1, 0, 0, 0, z0, 2), (2, 30, 40, 0, z0, 5), (5, 4, 0, 0, z0, 6), (6, 2, 1, 0, z0, 7), (7, 34, 176, 2, vr 40 0, 10), (10, 27, 0, 23, z0, 13), (13, 2, 2, 0, z0, 14), (14, 0, 0, 0, z0, 15), (15, 0, 0, 0, vi (99), 17), (17, 34, 130, 3, z0, 20), (20, 27, 1, 25, z0, 23), (23, 0, 0, 0, z0, 24), (24, 36, 2, 0, z0, 25), (25, 4, 0, 0, z0, 26), (26, 29, 40, 42, z0, 29), (29, 2, 1, 0, z0, 30), (30, 2, 2, 0, z0, 31), (31, 32, 1, 0, z0, 32), (32, 0, 0, 0, vi (1), 33), (33, 36, 2, 0, z0, 34)]
/-- X12_whoMight StrangeWindingModel.whoMight(I)I -/
def cd215 : List (Nat × Ent) := [(0, 0, 0, 0, z0, 1), (1, 5, 2, 0, z0, 2), (2, 0, 0, 0, z0, 3), (3, 5, 3, 0, z0, 4), (4, 2, 3, 0, z0, 5), (5, 4, 0, 0, z0, 6), (6, 29, 40, 10, z0, 9), (9, 0, 0, 0, vi (1), 10), (10, 31, 1, 0, z0, 11), (11, 28, 3, 39, z0, 14), (14, 2, 2, 0, z0, 15), (15, 4, 0, 0, z0, 16), (16, 2, 3, 0, z0, 17), (17, 2, 1, 0, z0, 18), (18, 34, 185, 3, vr 40 0, 21), (21, 27, 0, 30, z0, 24), (24, 0, 0, 0, vi (1), 25), (25, 2, 3, 0, z0, 26), (26, 9, 6, 0, z0, 27), (27, 26, 31, 0, z0, 30), (30, 0, 0, 0, z0, 31), (31, 9, 4, 0, z0, 32), (32, 5, 2, 0, z0, 33), (33, 8, 3, 0, vi (1), 36), (36, 26, 4, 0, z0, 39), (39, 2, 2, 0, z0, 40), (40, 36, 1, 0, z0, 41)]
/-- X12_leftBy StrangeWindingModel.leftBy(II)I -/
def cd216 : List (Nat × Ent) := [(0, 4, 0, 0, z0, 1), (1, 29, 40, 43, z0, 4), (4, 0, 0, 0, vi (8), 6), (6, 2, 1, 0, z0, 7), (7, 9, 0, 0, z0, 8), (8, 31, 1, 0, z0, 9), (9, 5, 3, 0, z0, 10), (10, 0, 0, 0, z0, 11), (11, 5, 4, 0, z0, 13), (13, 2, 4, 0, z0, 15), (15, 4, 0, 0, z0, 16), (16, 29, 40, 10, z0, 19), (19, 0, 0, 0, vi (1), 20), (20, 31, 1, 0, z0, 21), (21, 28, 3, 73, z0, 24), (24, 4, 0, 0, z0, 25), (25, 2, 1, 0, z0, 26), (26, 34, 180, 2, vr 40 0, 29), (29, 27, 1, 67, z0, 32), (32, 2, 2, 0, z0, 33), (33, 2, 4, 0, z0, 35), (35, 9, 7, 0, z0, 36), (36, 0, 0, 0, vi (1), 37), (37, 9, 3, 0, z0, 38), (38, 27, 1, 44, z0, 41), (41, 26, 67, 0, z0, 44), (44, 2, 3, 0, z0, 45), (45, 4, 0, 0, z0, 46), (46, 2, 4, 0, z0, 48), (48, 2, 1, 0, z0, 49), (49, 2, 3, 0, z0, 50), (50, 34, 188, 4, vr 40 0, 53), (53, 9, 0, 0, z0, 54), (54, 5, 3, 0, z0, 55), (55, 2, 3, 0, z0, 56), (56, 4, 0, 0, z0, 57), (57, 29, 40, 10, z0, 60), (60, 0, 0, 0, vi (3), 61), (61, 31, 1, 0, z0, 62), (62, 28, 5, 67, z0, 65), (65, 0, 0, 0, z0, 66), (66, 36, 1, 0, z0, 67), (67, 8, 4, 0, vi (1), 70), (70, 26, 13, 0, z0, 73), (73, 2, 3, 0, z0, 74), (74, 36, 1, 0, z0, 75)]
/-- X12_isAsTold StrangeWindingModel.isAsTold(II)Z -/
def cd217 : List (Nat × Ent) := [(0, 4, 0, 0, z0, 1), (1, 29, 40, 42, z0, 4), (4, 2, 1, 0, z0, 5), (5, 31, 1, 0, z0, 6), (6, 27, 2, 24, z0, 9), (9, 4, 0, 0, z0, 10), (10, 2, 1, 0, z0, 11), (11, 2, 2, 0, z0, 12), (12, 34, 216, 3, vr 40 0, 15), (15, 4, 0, 0, z0, 16), (16, 29, 40, 42, z0, 19), (19, 2, 1, 0, z0, 20), (20, 31, 1, 0, z0, 21), (21, 28, 1, 28, z0, 24), (24, 0, 0, 0, vi (1), 25), (25, 26, 29, 0, z0, 28), (28, 0, 0, 0, z0, 29), (29, 36, 2, 0, z0, 30)]
/-- X12_sets StrangeWindingModel.sets(II)I -/
def cd218 : List (Nat × Ent) := [(0, 4, 0, 0, z0, 1), (1, 0, 0, 0, z0, 2), (2, 30, 40, 0, z0, 5), (5, 4, 0, 0, z0, 6), (6, 2, 1, 0, z0, 7), (7, 34, 176, 2, vr 40 0, 10), (10, 27, 0, 22, z0, 13), (13, 2, 2, 0, z0, 14), (14, 0, 0, 0, z0, 15), (15, 0, 0, 0, vi (2), 16), (16, 34, 130, 3, z0, 19), (19, 27, 1, 24, z0, 22), (22, 0, 0, 0, vi (-1), 23), (23, 36, 1, 0, z0, 24), (24, 4, 0, 0, z0, 25), (25, 2, 1, 0, z0, 26), (26, 34, 215, 2, vr 40 0, 29), (29, 5, 3, 0, z0, 30), (30, 0, 0, 0, z0, 31), (31, 5, 4, 0, z0, 33), (33, 2, 3, 0, z0, 34), (34, 5, 5, 0, z0, 36), (36, 0, 0, 0, z0, 37), (37, 5, 6, 0, z0, 39), (39, 0, 0, 0, z0, 40), (40, 5, 7, 0, z0, 42), (42, 2, 7, 0, z0, 44), (44, 2, 3, 0, z0, 45), (45, 28, 4, 93, z0, 48), (48, 2, 7, 0, z0, 50), (50, 2, 3, 0, z0, 51), (51, 0, 0, 0, vi (-1), 52), (52, 9, 5, 0, z0, 53), (53, 9, 3, 0, z0, 54), (54, 27, 1, 87, z0, 57), (57, 4, 0, 0, z0, 58), (58, 2, 1, 0, z0, 59), (59, 2, 7, 0, z0, 61), (61, 34, 217, 3, vr 40 0, 64), (64, 27, 1, 70, z0, 67), (67, 26, 87, 0, z0, 70), (70, 8, 4, 0, vi (1), 73), (73, 2, 5, 0, z0, 75), (75, 2, 7, 0, z0, 77), (77, 9, 3, 0, z0, 78), (78, 5, 5, 0, z0, 80), (80, 2, 6, 0, z0, 82), (82, 2, 7, 0, z0, 84), (84, 9, 4, 0, z0, 85), (85, 5, 6, 0, z0, 87), (87, 8, 7, 0, vi (1), 90), (90, 26, 42, 0, z0, 93), (93, 2, 4, 0, z0, 95), (95, 27, 0, 102, z0, 98), (98, 2, 2, 0, z0, 99), (99, 27, 1, 113, z0, 102), (102, 2, 2, 0, z0, 103), (103, 27, 1, 111, z0, 106), (106, 2, 4, 0, z0, 108), (108, 26, 112, 0, z0, 111), (111, 0, 0, 0, vi (-1), 112), (112, 36, 1, 0, z0, 113), (113, 2, 2, 0, z0, 114), (114, 0, 0, 0, vi (1), 115), (115, 28, 1, 123, z0, 118), (118, 2, 5, 0, z0, 120), (120, 26, 125, 0, z0, 123), (123, 2, 6, 0, z0, 125), (125, 36, 1, 0, z0, 126)]
/-- X12_ask StrangeWindingModel.ask(I)I -/
def cd219 : List (Nat × Ent) := [(0, 4, 0, 0, z0, 1), (1, 0, 0, 0, z0, 2), (2, 30, 40, 0, z0, 5), (5, 4, 0, 0, z0, 6), (6, 2, 1, 0, z0, 7), (7, 34, 176, 2, vr 40 0, 10), (10, 27, 1, 15, z0, 13), (13, 0, 0, 0, vi (-1), 14), (14, 36, 1, 0, z0, 15), (15, 4, 0, 0, z0, 16), (16, 2, 1, 0, z0, 17), (17, 34, 215, 2, vr 40 0, 20), (20, 5, 2, 0, z0, 21), (21, 4, 0, 0, z0, 22), (22, 2, 1, 0, z0, 23), (23, 0, 0, 0, z0, 24), (24, 34, 218, 3, vr 40 0, 27), (27, 5, 3, 0, z0, 28), (28, 2, 3, 0, z0, 29), (29, 5, 4, 0, z0, 31), (31, 0, 0, 0, vi (-1), 32), (32, 5, 5, 0, z0, 34), (34, 0, 0, 0, z0, 35), (35, 5, 6, 0, z0, 37), (37, 2, 6, 0, z0, 39), (39, 4, 0, 0, z0, 40), (40, 29, 40, 10, z0, 43), (43, 0, 0, 0, vi (1), 44), (44, 31, 1, 0, z0, 45), (45, 28, 3, 147, z0, 48), (48, 0, 0, 0, z0, 49), (49, 5, 7, 0, z0, 51), (51, 0, 0, 0, z0, 52), (52, 5, 8, 0, z0, 54), (54, 2, 8, 0, z0, 56), (56, 2, 2, 0, z0, 57), (57, 28, 4, 106, z0, 60), (60, 2, 7, 0, z0, 62), (62, 2, 8, 0, z0, 64), (64, 2, 2, 0, z0, 65), (65, 0, 0, 0, vi (-1), 66), (66, 9, 5, 0, z0, 67), (67, 9, 3, 0, z0, 68), (68, 27, 1, 96, z0, 71), (71, 2, 8, 0, z0, 73), (73, 2, 6, 0, z0, 75), (75, 9, 7, 0, z0, 76), (76, 0, 0, 0, vi (1), 77), (77, 9, 3, 0, z0, 78), (78, 0, 0, 0, vi (1), 79), (79, 28, 1, 96, z0, 82), (82, 4, 0, 0, z0, 83), (83, 2, 1, 0, z0, 84), (84, 2, 8, 0, z0, 86), (86, 34, 217, 3, vr 40 0, 89), (89, 27, 0, 96, z0, 92), (92, 0, 0, 0, vi (1), 93), (93, 26, 97, 0, z0, 96), (96, 0, 0, 0, z0, 97), (97, 9, 0, 0, z0, 98), (98, 5, 7, 0, z0, 100), (100, 8, 8, 0, vi (1), 103), (103, 26, 54, 0, z0, 106), (106, 2, 7, 0, z0, 108), (108, 2, 3, 0, z0, 109), (109, 2, 7, 0, z0, 111), (111, 9, 1, 0, z0, 112), (112, 47, 0, 0, z0, 115), (115, 5, 7, 0, z0, 117), (117, 2, 6, 0, z0, 119), (119, 2, 1, 0, z0, 120), (120, 28, 0, 141, z0, 123), (123, 2, 7, 0, z0, 125), (125, 2, 4, 0, z0, 127), (127, 28, 2, 133, z0, 130), (130, 26, 141, 0, z0, 133), (133, 2, 7, 0, z0, 135), (135, 5, 4, 0, z0, 137), (137, 2, 6, 0, z0, 139), (139, 5, 5, 0, z0, 141), (141, 8, 6, 0, vi (1), 144), (144, 26, 37, 0, z0, 147), (147, 2, 5, 0, z0, 149), (149, 36, 1, 0, z0, 150)]
/-- X12_laneMany StrangeWindingModel.laneMany(I)I -/
def cd220 : List (Nat × Ent) := [(0, 0, 0, 0, vi (1), 1), (1, 5, 2, 0, z0, 2), (2, 0, 0, 0, z0, 3), (3, 5, 3, 0, z0, 4), (4, 2, 3, 0, z0, 5), (5, 4, 0, 0, z0, 6), (6, 29, 40, 10, z0, 9), (9, 0, 0, 0, z0, 10), (10, 31, 1, 0, z0, 11), (11, 28, 3, 33, z0, 14), (14, 2, 2, 0, z0, 15), (15, 4, 0, 0, z0, 16), (16, 29, 40, 13, z0, 19), (19, 2, 1, 0, z0, 20), (20, 31, 1, 0, z0, 21), (21, 2, 3, 0, z0, 22), (22, 9, 7, 0, z0, 23), (23, 0, 0, 0, vi (1), 24), (24, 9, 3, 0, z0, 25), (25, 9, 0, 0, z0, 26), (26, 5, 2, 0, z0, 27), (27, 8, 3, 0, vi (1), 30), (30, 26, 4, 0, z0, 33), (33, 2, 2, 0, z0, 34), (34, 36, 1, 0, z0, 35)]
/-- X12_goesBetween StrangeWindingModel.goesBetween(II)Z -/
def cd221 : List (Nat × Ent) := [(0, 2, 1, 0, z0, 1), (1, 2, 2, 0, z0, 2), (2, 28, 0, 19, z0, 5), (5, 4, 0, 0, z0, 6), (6, 29, 40, 13, z0, 9), (9, 2, 1, 0, z0, 10), (10, 31, 1, 0, z0, 11), (11, 2, 2, 0, z0, 12), (12, 9, 7, 0, z0, 13), (13, 0, 0, 0, vi (1), 14), (14, 9, 3, 0, z0, 15), (15, 0, 0, 0, vi (1), 16), (16, 28, 1, 23, z0, 19), (19, 0, 0, 0, vi (1), 20), (20, 26, 24, 0, z0, 23), (23, 0, 0, 0, z0, 24), (24, 36, 2, 0, z0, 25)]
/-- X12_sharesOut StrangeWindingModel.sharesOut(II)V -/
def cd222 : List (Nat × Ent) := [(0, 4, 0, 0, z0, 1), (1, 29, 40, 54, z0, 4), (4, 0, 0, 0, vi (5), 5), (5, 2, 1, 0, z0, 6), (6, 9, 2, 0, z0, 7), (7, 2, 2, 0, z0, 8), (8, 9, 0, 0, z0, 9), (9, 31, 1, 0, z0, 10), (10, 4, 0, 0, z0, 11), (11, 2, 1, 0, z0, 12), (12, 34, 220, 2, vr 40 0, 15), (15, 4, 0, 0, z0, 16), (16, 2, 2, 0, z0, 17), (17, 34, 220, 2, vr 40 0, 20), (20, 9, 2, 0, z0, 21), (21, 10, 0, 0, z0, 22), (22, 5, 3, 0, z0, 23), (23, 0, 0, 0, z0, 24), (24, 5, 4, 0, z0, 26), (26, 2, 4, 0, z0, 28), (28, 4, 0, 0, z0, 29), (29, 29, 40, 10, z0, 32), (32, 0, 0, 0, z0, 33), (33, 31, 1, 0, z0, 34), (34, 28, 3, 106, z0, 37), (37, 0, 0, 0, z0, 38), (38, 5, 5, 0, z0, 40), (40, 2, 5, 0, z0, 42), (42, 4, 0, 0, z0, 43), (43, 29, 40, 10, z0, 46), (46, 0, 0, 0, z0, 47), (47, 31, 1, 0, z0, 48), (48, 28, 3, 100, z0, 51), (51, 4, 0, 0, z0, 52), (52, 29, 40, 54, z0, 55), (55, 0, 0, 0, vi (25), 57), (57, 0, 0, 0, vi (5), 58), (58, 2, 4, 0, z0, 60), (60, 9, 2, 0, z0, 61), (61, 9, 0, 0, z0, 62), (62, 2, 5, 0, z0, 64), (64, 9, 0, 0, z0, 65), (65, 24, 0, 0, z0, 66), (66, 31, 1, 0, z0, 67), (67, 4, 0, 0, z0, 68), (68, 2, 1, 0, z0, 69), (69, 2, 4, 0, z0, 71), (71, 34, 221, 3, vr 40 0, 74), (74, 27, 0, 91, z0, 77), (77, 4, 0, 0, z0, 78), (78, 2, 2, 0, z0, 79), (79, 2, 5, 0, z0, 81), (81, 34, 221, 3, vr 40 0, 84), (84, 27, 0, 91, z0, 87), (87, 2, 3, 0, z0, 88), (88, 26, 92, 0, z0, 91), (91, 0, 0, 0, z0, 92), (92, 9, 0, 0, z0, 93), (93, 32, 1, 0, z0, 94), (94, 8, 5, 0, vi (1), 97), (97, 26, 40, 0, z0, 100), (100, 8, 4, 0, vi (1), 103), (103, 26, 26, 0, z0, 106), (106, 35, 0, 0, z0, 107)]
/-- X12_meet StrangeWindingModel.meet(III)I -/
def cd223 : List (Nat × Ent) := [(0, 4, 0, 0, z0, 1), (1, 0, 0, 0, z0, 2), (2, 30, 40, 0, z0, 5), (5, 4, 0, 0, z0, 6), (6, 2, 1, 0, z0, 7), (7, 2, 2, 0, z0, 8), (8, 34, 177, 3, vr 40 0, 11), (11, 27, 0, 43, z0, 14), (14, 2, 3, 0, z0, 15), (15, 0, 0, 0, vi (1), 16), (16, 0, 0, 0, vi (6), 18), (18, 34, 130, 3, z0, 21), (21, 27, 0, 43, z0, 24), (24, 4, 0, 0, z0, 25), (25, 29, 40, 43, z0, 28), (28, 0, 0, 0, vi (2), 29), (29, 2, 1, 0, z0, 30), (30, 9, 0, 0, z0, 31), (31, 31, 1, 0, z0, 32), (32, 4, 0, 0, z0, 33), (33, 29, 40, 43, z0, 36), (36, 0, 0, 0, vi (2), 37), (37, 2, 2, 0, z0, 38), (38, 9, 0, 0, z0, 39), (39, 31, 1, 0, z0, 40), (40, 28, 1, 45, z0, 43), (43, 0, 0, 0, vi (-1), 44), (44, 36, 1, 0, z0, 45), (45, 0, 0, 0, z0, 46), (46, 5, 4, 0, z0, 48), (48, 2, 4, 0, z0, 50), (50, 0, 0, 0, vi (50), 52), (52, 28, 3, 69, z0, 55), (55, 4, 0, 0, z0, 56), (56, 29, 40, 54, z0, 59), (59, 2, 4, 0, z0, 61), (61, 0, 0, 0, z0, 62), (62, 32, 1, 0, z0, 63), (63, 8, 4, 0, vi (1), 66), (66, 26, 48, 0, z0, 69), (69, 4, 0, 0, z0, 70), (70, 29, 40, 54, z0, 73), (73, 0, 0, 0, vi (5), 74), (74, 4, 0, 0, z0, 75), (75, 29, 40, 43, z0, 78), (78, 0, 0, 0, vi (2), 79), (79, 2, 1, 0, z0, 80), (80, 9, 0, 0, z0, 81), (81, 31, 1, 0, z0, 82), (82, 9, 2, 0, z0, 83), (83, 4, 0, 0, z0, 84), (84, 29, 40, 43, z0, 87), (87, 0, 0, 0, vi (2), 88), (88, 2, 2, 0, z0, 89), (89, 9, 0, 0, z0, 90), (90, 31, 1, 0, z0, 91), (91, 9, 0, 0, z0, 92), (92, 0, 0, 0, vi (1000000), 95), (95, 32, 1, 0, z0, 96), (96, 0, 0, 0, z0, 97), (97, 5, 4, 0, z0, 99), (99, 0, 0, 0, z0, 100), (100, 5, 5, 0, z0, 102), (102, 2, 5, 0, z0, 104), (104, 2, 3, 0, z0, 105), (105, 28, 3, 243, z0, 108), (108, 0, 0, 0, z0, 109), (109, 5, 6, 0, z0, 111), (111, 2, 6, 0, z0, 113), (113, 4, 0, 0, z0, 114), (114, 29, 40, 10, z0, 117), (117, 0, 0, 0, z0, 118), (118, 31, 1, 0, z0, 119), (119, 28, 3, 163, z0, 122), (122, 0, 0, 0, z0, 123), (123, 5, 7, 0, z0, 125), (125, 2, 7, 0, z0, 127), (127, 4, 0, 0, z0, 128), (128, 29, 40, 10, z0, 131), (131, 0, 0, 0, z0, 132), (132, 31, 1, 0, z0, 133), (133, 28, 3, 157, z0, 136), (136, 2, 6, 0, z0, 138), (138, 2, 7, 0, z0, 140), (140, 28, 0, 151, z0, 143), (143, 4, 0, 0, z0, 144), (144, 2, 6, 0, z0, 146), (146, 2, 7, 0, z0, 148), (148, 34, 222, 3, vr 40 0, 151), (151, 8, 7, 0, vi (1), 154), (154, 26, 125, 0, z0, 157), (157, 8, 6, 0, vi (1), 160), (160, 26, 111, 0, z0, 163), (163, 0, 0, 0, z0, 164), (164, 5, 6, 0, z0, 166), (166, 2, 6, 0, z0, 168), (168, 0, 0, 0, vi (25), 170), (170, 28, 3, 237, z0, 173), (173, 2, 4, 0, z0, 175), (175, 2, 6, 0, z0, 177), (177, 0, 0, 0, vi (5), 178), (178, 10, 0, 0, z0, 179), (179, 2, 6, 0, z0, 181), (181, 0, 0, 0, vi (5), 182), (182, 11, 0, 0, z0, 183), (183, 28, 1, 199, z0, 186), (186, 4, 0, 0, z0, 187), (187, 29, 40, 54, z0, 190), (190, 0, 0, 0, vi (25), 192), (192, 2, 6, 0, z0, 194), (194, 9, 0, 0, z0, 195), (195, 31, 1, 0, z0, 196), (196, 26, 200, 0, z0, 199), (199, 0, 0, 0, z0, 200), (200, 9, 0, 0, z0, 201), (201, 5, 4, 0, z0, 203), (203, 4, 0, 0, z0, 204), (204, 29, 40, 54, z0, 207), (207, 2, 6, 0, z0, 209), (209, 4, 0, 0, z0, 210), (210, 29, 40, 54, z0, 213), (213, 0, 0, 0, vi (25), 215), (215, 2, 6, 0, z0, 217), (217, 9, 0, 0, z0, 218), (218, 31, 1, 0, z0, 219), (219, 32, 1, 0, z0, 220), (220, 4, 0, 0, z0, 221), (221, 29, 40, 54, z0, 224), (224, 0, 0, 0, vi (25), 226), (226, 2, 6, 0, z0, 228), (228, 9, 0, 0, z0, 229), (229, 0, 0, 0, z0, 230), (230, 32, 1, 0, z0, 231), (231, 8, 6, 0, vi (1), 234), (234, 26, 166, 0, z0, 237), (237, 8, 5, 0, vi (1), 240), (240, 26, 102, 0, z0, 243), (243, 2, 4, 0, z0, 245), (245, 36, 1, 0, z0, 246)]
/-- X12_engaged StrangeWindingModel.engaged()I -/
def cd224 : List (Nat × Ent) := [(0, 4, 0, 0, z0, 1), (1, 0, 0, 0, z0, 2), (2, 30, 40, 0, z0, 5), (5, 0, 0, 0, z0, 6), (6, 5, 1, 0, z0, 7), (7, 0, 0, 0, z0, 8), (8, 5, 2, 0, z0, 9), (9, 2, 2, 0, z0, 10), (10, 4, 0, 0, z0, 11), (11, 29, 40, 10, z0, 14), (14, 0, 0, 0, vi (1), 15), (15, 31, 1, 0, z0, 16), (16, 28, 3, 89, z0, 19), (19, 2, 2, 0, z0, 20), (20, 0, 0, 0, vi (1), 21), (21, 9, 0, 0, z0, 22), (22, 5, 3, 0, z0, 23), (23, 2, 3, 0, z0, 24), (24, 4, 0, 0, z0, 25), (25, 29, 40, 10, z0, 28), (28, 0, 0, 0, vi (1), 29), (29, 31, 1, 0, z0, 30), (30, 28, 3, 83, z0, 33), (33, 2, 1, 0, z0, 34), (34, 4, 0, 0, z0, 35), (35, 29, 40, 43, z0, 38), (38, 0, 0, 0, vi (14), 40), (40, 0, 0, 0, vi (6), 42), (42, 2, 2, 0, z0, 43), (43, 9, 2, 0, z0, 44), (44, 9, 0, 0, z0, 45), (45, 2, 3, 0, z0, 46), (46, 9, 0, 0, z0, 47), (47, 31, 1, 0, z0, 48), (48, 0, 0, 0, vi (1), 49), (49, 28, 5, 74, z0, 52), (52, 4, 0, 0, z0, 53), (53, 29, 40, 43, z0, 56), (56, 0, 0, 0, vi (14), 58), (58, 0, 0, 0, vi (6), 60), (60, 2, 3, 0, z0, 61), (61, 9, 2, 0, z0, 62), (62, 9, 0, 0, z0, 63), (63, 2, 2, 0, z0, 64), (64, 9, 0, 0, z0, 65), (65, 31, 1, 0, z0, 66), (66, 0, 0, 0, vi (1), 67), (67, 28, 5, 74, z0, 70), (70, 0, 0, 0, vi (1), 71), (71, 26, 75, 0, z0, 74), (74, 0, 0, 0, z0, 75), (75, 9, 0, 0, z0, 76), (76, 5, 1, 0, z0, 77), (77, 8, 3, 0, vi (1), 80), (80, 26, 23, 0, z0, 83), (83, 8, 2, 0, vi (1), 86), (86, 26, 9, 0, z0, 89), (89, 2, 1, 0, z0, 90), (90, 36, 1, 0, z0, 91)]
/-- X12_pairsFrom StrangeWindingModel.pairsFrom(III)V -/
def cd225 : List (Nat × Ent) := [(0, 2, 1, 0, z0, 1), (1, 5, 4, 0, z0, 3), (3, 2, 4, 0, z0, 5), (5, 4, 0, 0, z0, 6), (6, 29, 40, 10, z0, 9), (9, 0, 0, 0, vi (1), 10), (10, 31, 1, 0, z0, 11), (11, 28, 3, 30, z0, 14), (14, 2, 2, 0, z0, 15), (15, 2, 4, 0, z0, 17), (17, 9, 7, 0, z0, 18), (18, 0, 0, 0, vi (1), 19), (19, 9, 3, 0, z0, 20), (20, 0, 0, 0, vi (1), 21), (21, 28, 1, 30, z0, 24), (24, 8, 4, 0, vi (1), 27), (27, 26, 3, 0, z0, 30), (30, 2, 4, 0, z0, 32), (32, 4, 0, 0, z0, 33), (33, 29, 40, 10, z0, 36), (36, 0, 0, 0, vi (1), 37), (37, 31, 1, 0, z0, 38), (38, 28, 1, 100, z0, 41), (41, 2, 3, 0, z0, 42), (42, 4, 0, 0, z0, 43), (43, 29, 40, 57, z0, 46), (46, 28, 4, 64, z0, 49), (49, 2, 3, 0, z0, 50), (50, 4, 0, 0, z0, 51), (51, 29, 40, 57, z0, 54), (54, 28, 1, 99, z0, 57), (57, 4, 0, 0, z0, 58), (58, 34, 226, 1, vr 40 0, 61), (61, 27, 0, 99, z0, 64), (64, 4, 0, 0, z0, 65), (65, 2, 3, 0, z0, 66), (66, 30, 40, 57, z0, 69), (69, 0, 0, 0, z0, 70), (70, 5, 5, 0, z0, 72), (72, 2, 5, 0, z0, 74), (74, 0, 0, 0, vi (6), 76), (76, 28, 3, 99, z0, 79), (79, 4, 0, 0, z0, 80), (80, 29, 40, 56, z0, 83), (83, 2, 5, 0, z0, 85), (85, 4, 0, 0, z0, 86), (86, 29, 40, 55, z0, 89), (89, 2, 5, 0, z0, 91), (91, 31, 1, 0, z0, 92), (92, 32, 1, 0, z0, 93), (93, 8, 5, 0, vi (1), 96), (96, 26, 72, 0, z0, 99), (99, 35, 0, 0, z0, 100), (100, 4, 0, 0, z0, 101), (101, 29, 40, 55, z0, 104), (104, 2, 4, 0, z0, 106), (106, 2, 4, 0, z0, 108), (108, 32, 1, 0, z0, 109), (109, 4, 0, 0, z0, 110), (110, 2, 4, 0, z0, 112), (112, 0, 0, 0, vi (1), 113), (113, 9, 0, 0, z0, 114), (114, 2, 2, 0, z0, 115), (115, 0, 0, 0, vi (1), 116), (116, 2, 4, 0, z0, 118), (118, 9, 6, 0, z0, 119), (119, 9, 4, 0, z0, 120), (120, 2, 3, 0, z0, 121), (121, 34, 225, 4, vr 40 0, 124), (124, 2, 4, 0, z0, 126), (126, 0, 0, 0, vi (1), 127), (127, 9, 0, 0, z0, 128), (128, 5, 5, 0, z0, 130), (130, 2, 5, 0, z0, 132), (132, 4, 0, 0, z0, 133), (133, 29, 40, 10, z0, 136), (136, 0, 0, 0, vi (1), 137), (137, 31, 1, 0, z0, 138), (138, 28, 3, 232, z0, 141), (141, 2, 2, 0, z0, 142), (142, 2, 5, 0, z0, 144), (144, 9, 7, 0, z0, 145), (145, 0, 0, 0, vi (1), 146), (146, 9, 3, 0, z0, 147), (147, 0, 0, 0, vi (1), 148), (148, 28, 0, 226, z0, 151), (151, 4, 0, 0, z0, 152), (152, 29, 40, 43, z0, 155), (155, 0, 0, 0, vi (2), 156), (156, 2, 4, 0, z0, 158), (158, 9, 0, 0, z0, 159), (159, 31, 1, 0, z0, 160), (160, 4, 0, 0, z0, 161), (161, 29, 40, 43, z0, 164), (164, 0, 0, 0, vi (2), 165), (165, 2, 5, 0, z0, 167), (167, 9, 0, 0, z0, 168), (168, 31, 1, 0, z0, 169), (169, 28, 1, 226, z0, 172), (172, 4, 0, 0, z0, 173), (173, 2, 4, 0, z0, 175), (175, 2, 5, 0, z0, 177), (177, 34, 179, 3, vr 40 0, 180), (180, 27, 1, 186, z0, 183), (183, 26, 226, 0, z0, 186), (186, 4, 0, 0, z0, 187), (187, 29, 40, 55, z0, 190), (190, 2, 4, 0, z0, 192), (192, 2, 5, 0, z0, 194), (194, 32, 1, 0, z0, 195), (195, 4, 0, 0, z0, 196), (196, 29, 40, 55, z0, 199), (199, 2, 5, 0, z0, 201), (201, 2, 4, 0, z0, 203), (203, 32, 1, 0, z0, 204), (204, 4, 0, 0, z0, 205), (205, 2, 4, 0, z0, 207), (207, 0, 0, 0, vi (1), 208), (208, 9, 0, 0, z0, 209), (209, 2, 2, 0, z0, 210), (210, 0, 0, 0, vi (1), 211), (211, 2, 4, 0, z0, 213), (213, 9, 6, 0, z0, 214), (214, 9, 4, 0, z0, 215), (215, 0, 0, 0, vi (1), 216), (216, 2, 5, 0, z0, 218), (218, 9, 6, 0, z0, 219), (219, 9, 4, 0, z0, 220), (220, 2, 3, 0, z0, 221), (221, 0, 0, 0, vi (1), 222), (222, 9, 0, 0, z0, 223), (223, 34, 225, 4, vr 40 0, 226), (226, 8, 5, 0, vi (1), 229), (229, 26, 130, 0, z0, 232), (232, 35, 0, 0, z0, 233)]
/-- X12_isRowAhead StrangeWindingModel.isRowAhead()Z -/
def cd226 : List (Nat × Ent) := [(0, 0, 0, 0, z0, 1), (1, 5, 1, 0, z0, 2), (2, 2, 1, 0, z0, 3), (3, 4, 0, 0, z0, 4), (4, 29, 40, 10, z0, 7), (7, 0, 0, 0, vi (1), 8), (8, 31, 1, 0, z0, 9), (9, 28, 3, 54, z0, 12), (12, 4, 0, 0, z0, 13), (13, 29, 40, 55, z0, 16), (16, 2, 1, 0, z0, 17), (17, 31, 1, 0, z0, 18), (18, 4, 0, 0, z0, 19), (19, 29, 40, 56, z0, 22), (22, 2, 1, 0, z0, 23), (23, 31, 1, 0, z0, 24), (24, 28, 0, 48, z0, 27), (27, 4, 0, 0, z0, 28), (28, 29, 40, 55, z0, 31), (31, 2, 1, 0, z0, 32), (32, 31, 1, 0, z0, 33), (33, 4, 0, 0, z0, 34), (34, 29, 40, 56, z0, 37), (37, 2, 1, 0, z0, 38), (38, 31, 1, 0, z0, 39), (39, 28, 3, 46, z0, 42), (42, 0, 0, 0, vi (1), 43), (43, 26, 47, 0, z0, 46), (46, 0, 0, 0, z0, 47), (47, 36, 2, 0, z0, 48), (48, 8, 1, 0, vi (1), 51), (51, 26, 2, 0, z0, 54), (54, 0, 0, 0, z0, 55), (55, 36, 2, 0, z0, 56)]
/-- X12_pairs StrangeWindingModel.pairs(I)I -/
def cd227 : List (Nat × Ent) := [(0, 4, 0, 0, z0, 1), (1, 0, 0, 0, z0, 2), (2, 30, 40, 0, z0, 5), (5, 2, 1, 0, z0, 6), (6, 0, 0, 0, vi (-1), 7), (7, 28, 0, 21, z0, 10), (10, 4, 0, 0, z0, 11), (11, 2, 1, 0, z0, 12), (12, 34, 176, 2, vr 40 0, 15), (15, 27, 1, 21, z0, 18), (18, 0, 0, 0, vi (-2), 20), (20, 36, 1, 0, z0, 21), (21, 4, 0, 0, z0, 22), (22, 0, 0, 0, vi (-1), 23), (23, 30, 40, 57, z0, 26), (26, 4, 0, 0, z0, 27), (27, 0, 0, 0, z0, 28), (28, 0, 0, 0, z0, 29), (29, 0, 0, 0, z0, 30), (30, 34, 225, 4, vr 40 0, 33), (33, 2, 1, 0, z0, 34), (34, 0, 0, 0, vi (-1), 35), (35, 28, 1, 45, z0, 38), (38, 4, 0, 0, z0, 39), (39, 29, 40, 57, z0, 42), (42, 26, 51, 0, z0, 45), (45, 4, 0, 0, z0, 46), (46, 29, 40, 56, z0, 49), (49, 2, 1, 0, z0, 50), (50, 31, 1, 0, z0, 51), (51, 36, 1, 0, z0, 52)]
/-- X12_tinkers StrangeWindingModel.tinkers()I -/
def cd228 : List (Nat × Ent) := [(0, 4, 0, 0, z0, 1), (1, 0, 0, 0, z0, 2), (2, 30, 40, 0, z0, 5), (5, 0, 0, 0, z0, 6), (6, 5, 1, 0, z0, 7), (7, 0, 0, 0, z0, 8), (8, 5, 2, 0, z0, 9), (9, 2, 2, 0, z0, 10), (10, 4, 0, 0, z0, 11), (11, 29, 40, 10, z0, 14), (14, 0, 0, 0, vi (1), 15), (15, 31, 1, 0, z0, 16), (16, 28, 3, 43, z0, 19), (19, 2, 1, 0, z0, 20), (20, 4, 0, 0, z0, 21), (21, 2, 2, 0, z0, 22), (22, 34, 183, 2, vr 40 0, 25), (25, 27, 1, 34, z0, 28), (28, 0, 0, 0, vi (1), 29), (29, 2, 2, 0, z0, 30), (30, 9, 6, 0, z0, 31), (31, 26, 35, 0, z0, 34), (34, 0, 0, 0, z0, 35), (35, 9, 4, 0, z0, 36), (36, 5, 1, 0, z0, 37), (37, 8, 2, 0, vi (1), 40), (40, 26, 9, 0, z0, 43), (43, 2, 1, 0, z0, 44), (44, 36, 1, 0, z0, 45)]
/-- X12_getsBy StrangeWindingModel.getsBy(IIIII)I -/
def cd229 : List (Nat × Ent) := [(0, 2, 3, 0, z0, 1), (1, 0, 0, 0, vi (1), 2), (2, 28, 1, 20, z0, 5), (5, 2, 4, 0, z0, 7), (7, 0, 0, 0, vi (1), 8), (8, 28, 1, 15, z0, 11), (11, 2, 0, 0, z0, 12), (12, 26, 31, 0, z0, 15), (15, 2, 1, 0, z0, 16), (16, 12, 0, 0, z0, 17), (17, 26, 31, 0, z0, 20), (20, 2, 4, 0, z0, 22), (22, 0, 0, 0, vi (1), 23), (23, 28, 1, 30, z0, 26), (26, 2, 2, 0, z0, 27), (27, 26, 31, 0, z0, 30), (30, 0, 0, 0, z0, 31), (31, 36, 1, 0, z0, 32)]
/-- X12_rests StrangeWindingModel.rests(IIII)I -/
def cd230 : List (Nat × Ent) := [(0, 4, 0, 0, z0, 1), (1, 2, 1, 0, z0, 2), (2, 0, 0, 0, z0, 3), (3, 0, 0, 0, vi (9), 5), (5, 34, 130, 3, z0, 8), (8, 27, 0, 41, z0, 11), (11, 2, 2, 0, z0, 12), (12, 0, 0, 0, z0, 13), (13, 0, 0, 0, vi (9), 15), (15, 34, 130, 3, z0, 18), (18, 27, 0, 41, z0, 21), (21, 2, 3, 0, z0, 22), (22, 0, 0, 0, z0, 23), (23, 0, 0, 0, vi (9), 25), (25, 34, 130, 3, z0, 28), (28, 27, 0, 41, z0, 31), (31, 2, 4, 0, z0, 33), (33, 0, 0, 0, vi (-1), 34), (34, 28, 2, 41, z0, 37), (37, 0, 0, 0, z0, 38), (38, 26, 42, 0, z0, 41), (41, 0, 0, 0, vi (1), 42), (42, 30, 40, 0, z0, 45), (45, 4, 0, 0, z0, 46), (46, 29, 40, 0, z0, 49), (49, 0, 0, 0, vi (1), 50), (50, 28, 1, 55, z0, 53), (53, 0, 0, 0, z0, 54), (54, 36, 1, 0, z0, 55), (55, 0, 0, 0, z0, 56), (56, 5, 5, 0, z0, 58), (58, 0, 0, 0, z0, 59), (59, 5, 6, 0, z0, 61), (61, 2, 6, 0, z0, 63), (63, 0, 0, 0, vi (4), 64), (64, 28, 3, 151, z0, 67), (67, 2, 6, 0, z0, 69), (69, 0, 0, 0, vi (2), 70), (70, 10, 0, 0, z0, 71), (71, 5, 7, 0, z0, 73), (73, 2, 6, 0, z0, 75), (75, 0, 0, 0, vi (2), 76), (76, 11, 0, 0, z0, 77), (77, 5, 8, 0, z0, 79), (79, 2, 1, 0, z0, 80), (80, 2, 2, 0, z0, 81), (81, 2, 3, 0, z0, 82), (82, 0, 0, 0, vi (1), 83), (83, 2, 7, 0, z0, 85), (85, 9, 1, 0, z0, 86), (86, 2, 8, 0, z0, 88), (88, 34, 229, 5, z0, 91), (91, 2, 1, 0, z0, 92), (92, 2, 2, 0, z0, 93), (93, 2, 3, 0, z0, 94), (94, 2, 7, 0, z0, 96), (96, 2, 8, 0, z0, 98), (98, 34, 229, 5, z0, 101), (101, 28, 4, 145, z0, 104), (104, 2, 1, 0, z0, 105), (105, 2, 2, 0, z0, 106), (106, 2, 3, 0, z0, 107), (107, 0, 0, 0, vi (1), 108), (108, 2, 8, 0, z0, 110), (110, 9, 1, 0, z0, 111), (111, 2, 7, 0, z0, 113), (113, 34, 229, 5, z0, 116), (116, 2, 1, 0, z0, 117), (117, 2, 2, 0, z0, 118), (118, 2, 3, 0, z0, 119), (119, 2, 8, 0, z0, 121), (121, 2, 7, 0, z0, 123), (123, 34, 229, 5, z0, 126), (126, 28, 5, 132, z0, 129), (129, 26, 145, 0, z0, 132), (132, 2, 5, 0, z0, 134), (134, 2, 4, 0, z0, 136), (136, 28, 1, 142, z0, 139), (139, 2, 6, 0, z0, 141), (141, 36, 1, 0, z0, 142), (142, 8, 5, 0, vi (1), 145), (145, 8, 6, 0, vi (1), 148), (148, 26, 61, 0, z0, 151), (151, 4, 0, 0, z0, 152), (152, 2, 4, 0, z0, 154), (154, 0, 0, 0, vi (-1), 155), (155, 28, 1, 162, z0, 158), (158, 0, 0, 0, z0, 159), (159, 26, 163, 0, z0, 162), (162, 0, 0, 0, vi (1), 163), (163, 30, 40, 0, z0, 166), (166, 2, 4, 0, z0, 168), (168, 0, 0, 0, vi (-1), 169), (169, 28, 1, 177, z0, 172), (172, 2, 5, 0, z0, 174), (174, 26, 178, 0, z0, 177), (177, 0, 0, 0, z0, 178), (178, 36, 1, 0, z0, 179)]
/-- X12_draws StrangeWindingModel.draws(I)I -/
def cd231 : List (Nat × Ent) := [(0, 4, 0, 0, z0, 1), (1, 4, 0, 0, z0, 2), (2, 29, 40, 58, z0, 5), (5, 0, 0, 0, vl (1103515245), 8), (8, 13, 2, 0, z0, 9), (9, 0, 0, 0, vl (12345), 12), (12, 13, 0, 0, z0, 13), (13, 0, 0, 0, vl (2147483648), 16), (16, 17, 0, 0, z0, 17), (17, 30, 40, 58, z0, 20), (20, 4, 0, 0, z0, 21), (21, 29, 40, 58, z0, 24), (24, 0, 0, 0, vl (65536), 27), (27, 16, 0, 0, z0, 28), (28, 2, 1, 0, z0, 29), (29, 19, 0, 0, z0, 30), (30, 17, 0, 0, z0, 31), (31, 20, 0, 0, z0, 32), (32, 36, 1, 0, z0, 33)]
/-- X12_livesHour StrangeWindingModel.livesHour()I -/
def cd232 : List (Nat × Ent) := [(0, 4, 0, 0, z0, 1), (1, 29, 40, 10, z0, 4), (4, 0, 0, 0, vi (1), 5), (5, 31, 1, 0, z0, 6), (6, 27, 5, 49, z0, 9), (9, 4, 0, 0, z0, 10), (10, 4, 0, 0, z0, 11), (11, 29, 40, 10, z0, 14), (14, 0, 0, 0, vi (1), 15), (15, 31, 1, 0, z0, 16), (16, 34, 231, 2, vr 40 0, 19), (19, 5, 1, 0, z0, 20), (20, 4, 0, 0, z0, 21), (21, 4, 0, 0, z0, 22), (22, 29, 40, 10, z0, 25), (25, 0, 0, 0, z0, 26), (26, 31, 1, 0, z0, 27), (27, 34, 231, 2, vr 40 0, 30), (30, 5, 2, 0, z0, 31), (31, 4, 0, 0, z0, 32), (32, 2, 1, 0, z0, 33), (33, 2, 2, 0, z0, 34), (34, 34, 184, 3, vr 40 0, 37), (37, 27, 0, 49, z0, 40), (40, 4, 0, 0, z0, 41), (41, 29, 40, 43, z0, 44), (44, 0, 0, 0, vi (2), 45), (45, 2, 1, 0, z0, 46), (46, 9, 0, 0, z0, 47), (47, 2, 2, 0, z0, 48), (48, 32, 1, 0, z0, 49), (49, 4, 0, 0, z0, 50), (50, 34, 191, 1, vr 40 0, 53), (53, 5, 1, 0, z0, 54), (54, 4, 0, 0, z0, 55), (55, 0, 0, 0, vi (9), 57), (57, 34, 231, 2, vr 40 0, 60), (60, 27, 1, 67, z0, 63), (63, 0, 0, 0, vi (1), 64), (64, 26, 68, 0, z0, 67), (67, 0, 0, 0, z0, 68), (68, 5, 2, 0, z0, 69), (69, 0, 0, 0, z0, 70), (70, 5, 3, 0, z0, 71), (71, 2, 3, 0, z0, 72), (72, 4, 0, 0, z0, 73), (73, 29, 40, 10, z0, 76), (76, 0, 0, 0, vi (1), 77), (77, 31, 1, 0, z0, 78), (78, 28, 3, 104, z0, 81), (81, 2, 2, 0, z0, 82), (82, 27, 0, 104, z0, 85), (85, 4, 0, 0, z0, 86), (86, 2, 3, 0, z0, 87), (87, 34, 180, 2, vr 40 0, 90), (90, 27, 0, 98, z0, 93), (93, 4, 0, 0, z0, 94), (94, 2, 3, 0, z0, 95), (95, 34, 192, 2, vr 40 0, 98), (98, 8, 3, 0, vi (1), 101), (101, 26, 71, 0, z0, 104), (104, 2, 1, 0, z0, 105), (105, 36, 1, 0, z0, 106)]
/-- X12_years StrangeWindingModel.years(III)I -/
def cd233 : List (Nat × Ent) := [(0, 4, 0, 0, z0, 1), (1, 0, 0, 0, z0, 2), (2, 30, 40, 0, z0, 5), (5, 2, 1, 0, z0, 6), (6, 0, 0, 0, z0, 7), (7, 0, 0, 0, vi (9999), 10), (10, 34, 130, 3, z0, 13), (13, 27, 0, 35, z0, 16), (16, 2, 2, 0, z0, 17), (17, 0, 0, 0, vi (1), 18), (18, 0, 0, 0, vi (99), 20), (20, 34, 130, 3, z0, 23), (23, 27, 0, 35, z0, 26), (26, 2, 3, 0, z0, 27), (27, 0, 0, 0, z0, 28), (28, 0, 0, 0, vi (2), 29), (29, 34, 130, 3, z0, 32), (32, 27, 1, 37, z0, 35), (35, 0, 0, 0, vi (-1), 36), (36, 36, 1, 0, z0, 37), (37, 4, 0, 0, z0, 38), (38, 2, 1, 0, z0, 39), (39, 19, 0, 0, z0, 40), (40, 30, 40, 58, z0, 43), (43, 4, 0, 0, z0, 44), (44, 29, 40, 43, z0, 47), (47, 0, 0, 0, z0, 48), (48, 4, 0, 0, z0, 49), (49, 29, 40, 44, z0, 52), (52, 0, 0, 0, z0, 53), (53, 34, 168, 4, z0, 56), (56, 4, 0, 0, z0, 57), (57, 0, 0, 0, z0, 58), (58, 30, 40, 50, z0, 61), (61, 0, 0, 0, z0, 62), (62, 5, 4, 0, z0, 64), (64, 0, 0, 0, z0, 65), (65, 5, 5, 0, z0, 67), (67, 2, 5, 0, z0, 69), (69, 2, 2, 0, z0, 70), (70, 28, 3, 88, z0, 73), (73, 2, 4, 0, z0, 75), (75, 4, 0, 0, z0, 76), (76, 34, 232, 1, vr 40 0, 79), (79, 9, 0, 0, z0, 80), (80, 5, 4, 0, z0, 82), (82, 8, 5, 0, vi (1), 85), (85, 26, 67, 0, z0, 88), (88, 4, 0, 0, z0, 89), (89, 34, 182, 1, vr 40 0, 92), (92, 5, 5, 0, z0, 94), (94, 4, 0, 0, z0, 95), (95, 29, 40, 44, z0, 98), (98, 0, 0, 0, z0, 99), (99, 4, 0, 0, z0, 100), (100, 29, 40, 43, z0, 103), (103, 0, 0, 0, z0, 104), (104, 34, 168, 4, z0, 107), (107, 2, 3, 0, z0, 108), (108, 27, 1, 116, z0, 111), (111, 2, 4, 0, z0, 113), (113, 26, 130, 0, z0, 116), (116, 2, 3, 0, z0, 117), (117, 0, 0, 0, vi (1), 118), (118, 28, 1, 128, z0, 121), (121, 4, 0, 0, z0, 122), (122, 29, 40, 50, z0, 125), (125, 26, 130, 0, z0, 128), (128, 2, 5, 0, z0, 130), (130, 36, 1, 0, z0, 131)]
/-- X12_mark StrangeWindingModel.mark(IZ)Z -/
def cd234 : List (Nat × Ent) := [(0, 4, 0, 0, z0, 1), (1, 0, 0, 0, z0, 2), (2, 30, 40, 0, z0, 5), (5, 2, 1, 0, z0, 6), (6, 0, 0, 0, z0, 7), (7, 0, 0, 0, vi (3), 8), (8, 34, 130, 3, z0, 11), (11, 27, 0, 27, z0, 14), (14, 2, 2, 0, z0, 15), (15, 27, 0, 29, z0, 18), (18, 4, 0, 0, z0, 19), (19, 29, 40, 48, z0, 22), (22, 2, 1, 0, z0, 23), (23, 31, 3, 0, z0, 24), (24, 27, 1, 29, z0, 27), (27, 0, 0, 0, z0, 28), (28, 36, 2, 0, z0, 29), (29, 4, 0, 0, z0, 30), (30, 29, 40, 48, z0, 33), (33, 2, 1, 0, z0, 34), (34, 0, 0, 0, vi (1), 35), (35, 32, 3, 0, z0, 36), (36, 2, 2, 0, z0, 37), (37, 27, 0, 46, z0, 40), (40, 0, 0, 0, vi (1), 41), (41, 2, 1, 0, z0, 42), (42, 9, 0, 0, z0, 43), (43, 26, 47, 0, z0, 46), (46, 0, 0, 0, z0, 47), (47, 5, 3, 0, z0, 48), (48, 2, 2, 0, z0, 49), (49, 27, 0, 56, z0, 52), (52, 0, 0, 0, z0, 53), (53, 26, 59, 0, z0, 56), (56, 0, 0, 0, vi (1), 57), (57, 2, 1, 0, z0, 58), (58, 9, 0, 0, z0, 59), (59, 5, 4, 0, z0, 61), (61, 4, 0, 0, z0, 62), (62, 2, 3, 0, z0, 63), (63, 2, 4, 0, z0, 65), (65, 34, 170, 3, vr 40 0, 68), (68, 0, 0, 0, z0, 69), (69, 5, 5, 0, z0, 71), (71, 2, 5, 0, z0, 73), (73, 0, 0, 0, vi (6), 75), (75, 28, 3, 109, z0, 78), (78, 4, 0, 0, z0, 79), (79, 29, 40, 42, z0, 82), (82, 0, 0, 0, vi (6), 84), (84, 2, 4, 0, z0, 86), (86, 9, 2, 0, z0, 87), (87, 2, 5, 0, z0, 89), (89, 9, 0, 0, z0, 90), (90, 4, 0, 0, z0, 91), (91, 29, 40, 42, z0, 94), (94, 0, 0, 0, vi (6), 96), (96, 2, 3, 0, z0, 97), (97, 9, 2, 0, z0, 98), (98, 2, 5, 0, z0, 100), (100, 9, 0, 0, z0, 101), (101, 31, 1, 0, z0, 102), (102, 32, 1, 0, z0, 103), (103, 8, 5, 0, vi (1), 106), (106, 26, 71, 0, z0, 109), (109, 2, 2, 0, z0, 110), (110, 27, 0, 137, z0, 113), (113, 4, 0, 0, z0, 114), (114, 29, 40, 46, z0, 117), (117, 0, 0, 0, vi (50), 119), (119, 2, 1, 0, z0, 120), (120, 9, 2, 0, z0, 121), (121, 4, 0, 0, z0, 122), (122, 29, 40, 43, z0, 125), (125, 0, 0, 0, z0, 126), (126, 34, 168, 4, z0, 129), (129, 4, 0, 0, z0, 130), (130, 0, 0, 0, z0, 131), (131, 30, 40, 49, z0, 134), (134, 26, 153, 0, z0, 137), (137, 4, 0, 0, z0, 138), (138, 29, 40, 43, z0, 141), (141, 0, 0, 0, z0, 142), (142, 4, 0, 0, z0, 143), (143, 29, 40, 46, z0, 146), (146, 0, 0, 0, vi (50), 148), (148, 2, 1, 0, z0, 149), (149, 9, 2, 0, z0, 150), (150, 34, 168, 4, z0, 153), (153, 0, 0, 0, vi (1), 154), (154, 36, 2, 0, z0, 155)]
/-- X12_sum StrangeWindingModel.sum(II)I -/
def cd235 : List (Nat × Ent) := [(0, 0, 0, 0, z0, 1), (1, 5, 3, 0, z0, 2), (2, 2, 1, 0, z0, 3), (3, 5, 4, 0, z0, 5), (5, 2, 4, 0, z0, 7), (7, 2, 1, 0, z0, 8), (8, 2, 2, 0, z0, 9), (9, 9, 0, 0, z0, 10), (10, 28, 3, 29, z0, 13), (13, 2, 3, 0, z0, 14), (14, 4, 0, 0, z0, 15), (15, 29, 40, 43, z0, 18), (18, 2, 4, 0, z0, 20), (20, 31, 1, 0, z0, 21), (21, 9, 0, 0, z0, 22), (22, 5, 3, 0, z0, 23), (23, 8, 4, 0, vi (1), 26), (26, 26, 5, 0, z0, 29), (29, 2, 3, 0, z0, 30), (30, 36, 1, 0, z0, 31)]
/-- X12_talesMany StrangeWindingModel.talesMany()I -/
def cd236 : List (Nat × Ent) := [(0, 0, 0, 0, z0, 1), (1, 5, 1, 0, z0, 2), (2, 0, 0, 0, z0, 3), (3, 5, 2, 0, z0, 4), (4, 2, 2, 0, z0, 5), (5, 4, 0, 0, z0, 6), (6, 29, 40, 10, z0, 9), (9, 0, 0, 0, vi (1), 10), (10, 31, 1, 0, z0, 11), (11, 28, 3, 37, z0, 14), (14, 2, 1, 0, z0, 15), (15, 4, 0, 0, z0, 16), (16, 29, 40, 42, z0, 19), (19, 2, 2, 0, z0, 20), (20, 31, 1, 0, z0, 21), (21, 27, 2, 28, z0, 24), (24, 0, 0, 0, vi (1), 25), (25, 26, 29, 0, z0, 28), (28, 0, 0, 0, z0, 29), (29, 9, 0, 0, z0, 30), (30, 5, 1, 0, z0, 31), (31, 8, 2, 0, vi (1), 34), (34, 26, 4, 0, z0, 37), (37, 2, 1, 0, z0, 38), (38, 36, 1, 0, z0, 39)]
/-- X12_count StrangeWindingModel.count(I)I -/
def cd237 : List (Nat × Ent) := [(0, 4, 0, 0, z0, 1), (1, 0, 0, 0, z0, 2), (2, 30, 40, 0, z0, 5), (5, 2, 1, 0, z0, 6), (6, 0, 0, 0, z0, 7), (7, 0, 0, 0, vi (12), 9), (9, 34, 130, 3, z0, 12), (12, 27, 1, 17, z0, 15), (15, 0, 0, 0, vi (-1), 16), (16, 36, 1, 0, z0, 17), (17, 2, 1, 0, z0, 18), (18, 0, 0, 0, vi (4), 19), (19, 28, 3, 29, z0, 22), (22, 4, 0, 0, z0, 23), (23, 29, 40, 10, z0, 26), (26, 2, 1, 0, z0, 27), (27, 31, 1, 0, z0, 28), (28, 36, 1, 0, z0, 29), (29, 2, 1, 0, z0, 30), (30, 0, 0, 0, vi (7), 32), (32, 28, 3, 68, z0, 35), (35, 2, 1, 0, z0, 36), (36, 0, 0, 0, vi (4), 37), (37, 28, 1, 49, z0, 40), (40, 4, 0, 0, z0, 41), (41, 29, 40, 43, z0, 44), (44, 0, 0, 0, z0, 45), (45, 31, 1, 0, z0, 46), (46, 26, 67, 0, z0, 49), (49, 2, 1, 0, z0, 50), (50, 0, 0, 0, vi (5), 51), (51, 28, 1, 61, z0, 54), (54, 4, 0, 0, z0, 55), (55, 34, 182, 1, vr 40 0, 58), (58, 26, 67, 0, z0, 61), (61, 4, 0, 0, z0, 62), (62, 29, 40, 43, z0, 65), (65, 0, 0, 0, vi (1), 66), (66, 31, 1, 0, z0, 67), (67, 36, 1, 0, z0, 68), (68, 2, 1, 0, z0, 69), (69, 0, 0, 0, vi (9), 71), (71, 28, 3, 100, z0, 74), (74, 2, 1, 0, z0, 75), (75, 0, 0, 0, vi (7), 77), (77, 28, 1, 91, z0, 80), (80, 4, 0, 0, z0, 81), (81, 0, 0, 0, vi (8), 83), (83, 0, 0, 0, vi (6), 85), (85, 34, 235, 3, vr 40 0, 88), (88, 26, 99, 0, z0, 91), (91, 4, 0, 0, z0, 92), (92, 0, 0, 0, vi (14), 94), (94, 0, 0, 0, vi (36), 96), (96, 34, 235, 3, vr 40 0, 99), (99, 36, 1, 0, z0, 100), (100, 2, 1, 0, z0, 101), (101, 0, 0, 0, vi (11), 103), (103, 28, 3, 126, z0, 106), (106, 2, 1, 0, z0, 107), (107, 0, 0, 0, vi (9), 109), (109, 28, 1, 121, z0, 112), (112, 4, 0, 0, z0, 113), (113, 29, 40, 38, z0, 116), (116, 0, 0, 0, z0, 117), (117, 31, 1, 0, z0, 118), (118, 26, 125, 0, z0, 121), (121, 4, 0, 0, z0, 122), (122, 34, 236, 1, vr 40 0, 125), (125, 36, 1, 0, z0, 126), (126, 2, 1, 0, z0, 127), (127, 0, 0, 0, vi (11), 129), (129, 28, 1, 139, z0, 132), (132, 4, 0, 0, z0, 133), (133, 29, 40, 49, z0, 136), (136, 26, 143, 0, z0, 139), (139, 4, 0, 0, z0, 140), (140, 29, 40, 1, z0, 143), (143, 36, 1, 0, z0, 144)]
/-- J6_bitCount_0f7a4 java/lang/Integer.bitCount(I)I -/
def cd238 : List (Nat × Ent) := [(0, 2, 0, 0, z0, 1), (1, 2, 0, 0, z0, 2), (2, 0, 0, 0, vi (1), 3), (3, 9, 8, 0, z0, 4), (4, 0, 0, 0, vi (1431655765), 7), (7, 9, 3, 0, z0, 8), (8, 9, 1, 0, z0, 9), (9, 5, 0, 0, z0, 10), (10, 2, 0, 0, z0, 11), (11, 0, 0, 0, vi (858993459), 14), (14, 9, 3, 0, z0, 15), (15, 2, 0, 0, z0, 16), (16, 0, 0, 0, vi (2), 17), (17, 9, 8, 0, z0, 18), (18, 0, 0, 0, vi (858993459), 21), (21, 9, 3, 0, z0, 22), (22, 9, 0, 0, z0, 23), (23, 5, 0, 0, z0, 24), (24, 2, 0, 0, z0, 25), (25, 2, 0, 0, z0, 26), (26, 0, 0, 0, vi (4), 27), (27, 9, 8, 0, z0, 28), (28, 9, 0, 0, z0, 29), (29, 0, 0, 0, vi (252645135), 32), (32, 9, 3, 0, z0, 33), (33, 5, 0, 0, z0, 34), (34, 2, 0, 0, z0, 35), (35, 2, 0, 0, z0, 36), (36, 0, 0, 0, vi (8), 38), (38, 9, 8, 0, z0, 39), (39, 9, 0, 0, z0, 40), (40, 5, 0, 0, z0, 41), (41, 2, 0, 0, z0, 42), (42, 2, 0, 0, z0, 43), (43, 0, 0, 0, vi (16), 45), (45, 9, 8, 0, z0, 46), (46, 9, 0, 0, z0, 47), (47, 5, 0, 0, z0, 48), (48, 2, 0, 0, z0, 49), (49, 0, 0, 0, vi (63), 51), (51, 9, 3, 0, z0, 52), (52, 36, 1, 0, z0, 53)]
/-- J0_length_8abf5 java/lang/String.length()I -/
def cd239 : List (Nat × Ent) := [(0, 4, 0, 0, z0, 1), (1, 29, 90, 0, z0, 4), (4, 33, 0, 0, z0, 5), (5, 4, 0, 0, z0, 6), (6, 34, 243, 1, vr 90 0, 9), (9, 9, 7, 0, z0, 10), (10, 36, 1, 0, z0, 11)]
/-- J0_charAt_5068e java/lang/String.charAt(I)C -/
def cd240 : List (Nat × Ent) := [(0, 4, 0, 0, z0, 1), (1, 34, 244, 1, vr 90 0, 4), (4, 27, 0, 16, z0, 7), (7, 4, 0, 0, z0, 8), (8, 29, 90, 0, z0, 11), (11, 2, 1, 0, z0, 12), (12, 34, 246, 2, z0, 15), (15, 36, 3, 0, z0, 16), (16, 4, 0, 0, z0, 17), (17, 29, 90, 0, z0, 20), (20, 2, 1, 0, z0, 21), (21, 99, 0, 0, z0, 24), (24, 36, 3, 0, z0, 25)]
/-- J0_indexOf_0f7a4 java/lang/String.indexOf(I)I -/
def cd241 : List (Nat × Ent) := [(0, 4, 0, 0, z0, 1), (1, 2, 1, 0, z0, 2), (2, 0, 0, 0, z0, 3), (3, 34, 242, 3, vr 90 0, 6), (6, 36, 1, 0, z0, 7)]
/-- J0_indexOf_7cf53 java/lang/String.indexOf(II)I -/
def cd242 : List (Nat × Ent) := [(0, 4, 0, 0, z0, 1), (1, 34, 244, 1, vr 90 0, 4), (4, 27, 0, 23, z0, 7), (7, 4, 0, 0, z0, 8), (8, 29, 90, 0, z0, 11), (11, 2, 1, 0, z0, 12), (12, 2, 2, 0, z0, 13), (13, 4, 0, 0, z0, 14), (14, 34, 239, 1, vr 90 0, 17), (17, 34, 248, 4, z0, 20), (20, 26, 36, 0, z0, 23), (23, 4, 0, 0, z0, 24), (24, 29, 90, 0, z0, 27), (27, 2, 1, 0, z0, 28), (28, 2, 2, 0, z0, 29), (29, 4, 0, 0, z0, 30), (30, 34, 239, 1, vr 90 0, 33), (33, 99, 0, 0, z0, 36), (36, 36, 1, 0, z0, 37)]
/-- J0_coder_7d493 java/lang/String.coder()B -/
def cd243 : List (Nat × Ent) := [(0, 0, 0, 0, vi (1), 3), (3, 27, 0, 13, z0, 6), (6, 4, 0, 0, z0, 7), (7, 29, 90, 1, z0, 10), (10, 26, 14, 0, z0, 13), (13, 0, 0, 0, vi (1), 14), (14, 36, 4, 0, z0, 15)]
/-- J0_isLatin1_aae02 java/lang/String.isLatin1()Z -/
def cd244 : List (Nat × Ent) := [(0, 0, 0, 0, vi (1), 3), (3, 27, 0, 17, z0, 6), (6, 4, 0, 0, z0, 7), (7, 29, 90, 1, z0, 10), (10, 27, 1, 17, z0, 13), (13, 0, 0, 0, vi (1), 14), (14, 26, 18, 0, z0, 17), (17, 0, 0, 0, z0, 18), (18, 36, 2, 0, z0, 19)]
/-- J0_checkIndex_df160 java/lang/String.checkIndex(II)V -/
def cd245 : List (Nat × Ent) := [(0, 2, 0, 0, z0, 1), (1, 2, 1, 0, z0, 2), (2, 0, 0, 0, vr 99 0, 5), (5, 34, 251, 3, z0, 8), (8, 25, 0, 0, z0, 9), (9, 35, 0, 0, z0, 10)]
/-- J1_charAt_3b067 java/lang/StringLatin1.charAt([BI)C -/
def cd246 : List (Nat × Ent) := [(0, 2, 1, 0, z0, 1), (1, 4, 0, 0, z0, 2), (2, 33, 0, 0, z0, 3), (3, 34, 245, 2, z0, 6), (6, 4, 0, 0, z0, 7), (7, 2, 1, 0, z0, 8), (8, 31, 3, 0, z0, 9), (9, 0, 0, 0, vi (255), 12), (12, 9, 3, 0, z0, 13), (13, 21, 0, 0, z0, 14), (14, 36, 3, 0, z0, 15)]
/-- J1_canEncode_9a6ad java/lang/StringLatin1.canEncode(I)Z -/
def cd247 : List (Nat × Ent) := [(0, 2, 0, 0, z0, 1), (1, 27, 2, 15, z0, 4), (4, 2, 0, 0, z0, 5), (5, 0, 0, 0, vi (255), 8), (8, 28, 4, 15, z0, 11), (11, 0, 0, 0, vi (1), 12), (12, 26, 16, 0, z0, 15), (15, 0, 0, 0, z0, 16), (16, 36, 2, 0, z0, 17)]
/-- J1_indexOf_4cfef java/lang/StringLatin1.indexOf([BIII)I -/
def cd248 : List (Nat × Ent) := [(0, 2, 1, 0, z0, 1), (1, 34, 247, 1, z0, 4), (4, 27, 1, 9, z0, 7), (7, 0, 0, 0, vi (-1), 8), (8, 36, 1, 0, z0, 9), (9, 2, 2, 0, z0, 10), (10, 0, 0, 0, z0, 11), (11, 47, 0, 0, z0, 14), (14, 5, 2, 0, z0, 15), (15, 2, 3, 0, z0, 16), (16, 4, 0, 0, z0, 17), (17, 33, 0, 0, z0, 18), (18, 48, 0, 0, z0, 21), (21, 5, 3, 0, z0, 22), (22, 2, 2, 0, z0, 23), (23, 2, 3, 0, z0, 24), (24, 28, 2, 29, z0, 27), (27, 0, 0, 0, vi (-1), 28), (28, 36, 1, 0, z0, 29), (29, 4, 0, 0, z0, 30), (30, 2, 1, 0, z0, 31), (31, 2, 2, 0, z0, 32), (32, 2, 3, 0, z0, 33), (33, 34, 249, 4, z0, 36), (36, 36, 1, 0, z0, 37)]
/-- J1_indexOfChar_4cfef java/lang/StringLatin1.indexOfChar([BIII)I -/
def cd249 : List (Nat × Ent) := [(0, 2, 1, 0, z0, 1), (1, 22, 0, 0, z0, 2), (2, 5, 4, 0, z0, 4), (4, 2, 2, 0, z0, 5), (5, 5, 5, 0, z0, 7), (7, 2, 5, 0, z0, 9), (9, 2, 3, 0, z0, 10), (10, 28, 3, 31, z0, 13), (13, 4, 0, 0, z0, 14), (14, 2, 5, 0, z0, 16), (16, 31, 3, 0, z0, 17), (17, 2, 4, 0, z0, 19), (19, 28, 1, 25, z0, 22), (22, 2, 5, 0, z0, 24), (24, 36, 1, 0, z0, 25), (25, 8, 5, 0, vi (1), 28), (28, 26, 7, 0, z0, 31), (31, 0, 0, 0, vi (-1), 32), (32, 36, 1, 0, z0, 33)]
/-- J7_fill_53178 java/util/Arrays.fill([II)V -/
def cd250 : List (Nat × Ent) := [(0, 0, 0, 0, z0, 1), (1, 5, 2, 0, z0, 2), (2, 4, 0, 0, z0, 3), (3, 33, 0, 0, z0, 4), (4, 5, 3, 0, z0, 5), (5, 2, 2, 0, z0, 6), (6, 2, 3, 0, z0, 7), (7, 28, 3, 20, z0, 10), (10, 4, 0, 0, z0, 11), (11, 2, 2, 0, z0, 12), (12, 2, 1, 0, z0, 13), (13, 32, 1, 0, z0, 14), (14, 8, 2, 0, vi (1), 17), (17, 26, 5, 0, z0, 20), (20, 35, 0, 0, z0, 21)]
/-- J3_checkIndex_8e157 jdk/internal/util/Preconditions.checkIndex(IILjava/util/function/BiFunction;)I -/
def cd251 : List (Nat × Ent) := [(0, 2, 0, 0, z0, 1), (1, 27, 2, 9, z0, 4), (4, 2, 0, 0, z0, 5), (5, 2, 1, 0, z0, 6), (6, 28, 2, 16, z0, 9), (9, 4, 2, 0, z0, 10), (10, 2, 0, 0, z0, 11), (11, 2, 1, 0, z0, 12), (12, 99, 0, 0, z0, 15), (15, 99, 0, 0, z0, 16), (16, 2, 0, 0, z0, 17), (17, 36, 1, 0, z0, 18)]
/-- L_law StrangeWindingLaw.law([I)Z -/
def cd252 : List (Nat × Ent) := [(0, 39, 1, 0, z0, 3), (3, 23, 0, 0, z0, 4), (4, 34, 85, 1, vr 1 0, 7), (7, 7, 1, 0, z0, 8), (8, 39, 40, 0, z0, 11), (11, 23, 0, 0, z0, 12), (12, 34, 128, 1, vr 40 0, 15), (15, 7, 2, 0, z0, 16), (16, 0, 0, 0, vi (1), 17), (17, 40, 81, 0, z0, 19), (19, 7, 3, 0, z0, 20), (20, 0, 0, 0, z0, 21), (21, 5, 4, 0, z0, 23), (23, 2, 4, 0, z0, 25), (25, 4, 0, 0, z0, 26), (26, 33, 0, 0, z0, 27), (27, 0, 0, 0, vi (7), 29), (29, 9, 1, 0, z0, 30), (30, 28, 4, 1204, z0, 33), (33, 4, 0, 0, z0, 34), (34, 2, 4, 0, z0, 36), (36, 31, 1, 0, z0, 37), (37, 0, 0, 0, vi (31), 39), (39, 9, 3, 0, z0, 40), (40, 38, 6, 0, z0, 172), (172, 4, 1, 0, z0, 173), (173, 4, 0, 0, z0, 174), (174, 2, 4, 0, z0, 176), (176, 0, 0, 0, vi (1), 177), (177, 9, 0, 0, z0, 178), (178, 31, 1, 0, z0, 179), (179, 19, 0, 0, z0, 180), (180, 0, 0, 0, vi (32), 182), (182, 14, 0, 0, z0, 183), (183, 4, 0, 0, z0, 184), (184, 2, 4, 0, z0, 186), (186, 0, 0, 0, vi (2), 187), (187, 9, 0, 0, z0, 188), (188, 31, 1, 0, z0, 189), (189, 19, 0, 0, z0, 190), (190, 0, 0, 0, vl (4294967295), 193), (193, 13, 3, 0, z0, 194), (194, 13, 4, 0, z0, 195), (195, 4, 0, 0, z0, 196), (196, 2, 4, 0, z0, 198), (198, 0, 0, 0, vi (3), 199), (199, 9, 0, 0, z0, 200), (200, 31, 1, 0, z0, 201), (201, 19, 0, 0, z0, 202), (202, 0, 0, 0, vi (32), 204), (204, 14, 0, 0, z0, 205), (205, 4, 0, 0, z0, 206), (206, 2, 4, 0, z0, 208), (208, 0, 0, 0, vi (4), 209), (209, 9, 0, 0, z0, 210), (210, 31, 1, 0, z0, 211), (211, 19, 0, 0, z0, 212), (212, 0, 0, 0, vl (4294967295), 215), (215, 13, 3, 0, z0, 216), (216, 13, 4, 0, z0, 217), (217, 4, 0, 0, z0, 218), (218, 2, 4, 0, z0, 220), (220, 0, 0, 0, vi (5), 221), (221, 9, 0, 0, z0, 222), (222, 31, 1, 0, z0, 223), (223, 19, 0, 0, z0, 224), (224, 0, 0, 0, vi (32), 226), (226, 14, 0, 0, z0, 227), (227, 4, 0, 0, z0, 228), (228, 2, 4, 0, z0, 230), (230, 0, 0, 0, vi (6), 232), (232, 9, 0, 0, z0, 233), (233, 31, 1, 0, z0, 234), (234, 19, 0, 0, z0, 235), (235, 0, 0, 0, vl (4294967295), 238), (238, 13, 3, 0, z0, 239), (239, 13, 4, 0, z0, 240), (240, 34, 86, 4, vr 1 0, 243), (243, 4, 2, 0, z0, 244), (244, 4, 0, 0, z0, 245), (245, 2, 4, 0, z0, 247), (247, 0, 0, 0, vi (1), 248), (248, 9, 0, 0, z0, 249), (249, 31, 1, 0, z0, 250), (250, 19, 0, 0, z0, 251), (251, 0, 0, 0, vi (32), 253), (253, 14, 0, 0, z0, 254), (254, 4, 0, 0, z0, 255), (255, 2, 4, 0, z0, 257), (257, 0, 0, 0, vi (2), 258), (258, 9, 0, 0, z0, 259), (259, 31, 1, 0, z0, 260), (260, 19, 0, 0, z0, 261), (261, 0, 0, 0, vl (4294967295), 264), (264, 13, 3, 0, z0, 265), (265, 13, 4, 0, z0, 266), (266, 4, 0, 0, z0, 267), (267, 2, 4, 0, z0, 269), (269, 0, 0, 0, vi (3), 270), (270, 9, 0, 0, z0, 271), (271, 31, 1, 0, z0, 272), (272, 19, 0, 0, z0, 273), (273, 0, 0, 0, vi (32), 275), (275, 14, 0, 0, z0, 276), (276, 4, 0, 0, z0, 277), (277, 2, 4, 0, z0, 279), (279, 0, 0, 0, vi (4), 280), (280, 9, 0, 0, z0, 281), (281, 31, 1, 0, z0, 282), (282, 19, 0, 0, z0, 283), (283, 0, 0, 0, vl (4294967295), 286), (286, 13, 3, 0, z0, 287), (287, 13, 4, 0, z0, 288), (288, 4, 0, 0, z0, 289), (289, 2, 4, 0, z0, 291), (291, 0, 0, 0, vi (5), 292), (292, 9, 0, 0, z0, 293), (293, 31, 1, 0, z0, 294), (294, 19, 0, 0, z0, 295), (295, 0, 0, 0, vi (32), 297), (297, 14, 0, 0, z0, 298), (298, 4, 0, 0, z0, 299), (299, 2, 4, 0, z0, 301), (301, 0, 0, 0, vi (6), 303), (303, 9, 0, 0, z0, 304), (304, 31, 1, 0, z0, 305), (305, 19, 0, 0, z0, 306), (306, 0, 0, 0, vl (4294967295), 309), (309, 13, 3, 0, z0, 310), (310, 13, 4, 0, z0, 311), (311, 34, 133, 4, vr 40 0, 314), (314, 28, 0, 1198, z0, 317), (317, 0, 0, 0, z0, 318), (318, 36, 2, 0, z0, 319), (319, 4, 1, 0, z0, 320), (320, 34, 87, 1, vr 1 0, 323), (323, 4, 2, 0, z0, 324), (324, 34, 173, 1, vr 40 0, 327), (327, 28, 0, 1198, z0, 330), (330, 0, 0, 0, z0, 331), (331, 36, 2, 0, z0, 332), (332, 4, 1, 0, z0, 333), (333, 34, 88, 1, vr 1 0, 336), (336, 4, 2, 0, z0, 337), (337, 34, 174, 1, vr 40 0, 340), (340, 28, 0, 1198, z0, 343), (343, 0, 0, 0, z0, 344), (344, 36, 2, 0, z0, 345), (345, 4, 1, 0, z0, 346), (346, 4, 0, 0, z0, 347), (347, 2, 4, 0, z0, 349), (349, 0, 0, 0, vi (1), 350), (350, 9, 0, 0, z0, 351), (351, 31, 1, 0, z0, 352), (352, 4, 0, 0, z0, 353), (353, 2, 4, 0, z0, 355), (355, 0, 0, 0, vi (2), 356), (356, 9, 0, 0, z0, 357), (357, 31, 1, 0, z0, 358), (358, 34, 89, 3, vr 1 0, 361), (361, 4, 2, 0, z0, 362), (362, 4, 0, 0, z0, 363), (363, 2, 4, 0, z0, 365), (365, 0, 0, 0, vi (1), 366), (366, 9, 0, 0, z0, 367), (367, 31, 1, 0, z0, 368), (368, 4, 0, 0, z0, 369), (369, 2, 4, 0, z0, 371), (371, 0, 0, 0, vi (2), 372), (372, 9, 0, 0, z0, 373), (373, 31, 1, 0, z0, 374), (374, 34, 193, 3, vr 40 0, 377), (377, 28, 0, 1198, z0, 380), (380, 0, 0, 0, z0, 381), (381, 36, 2, 0, z0, 382), (382, 4, 1, 0, z0, 383), (383, 4, 0, 0, z0, 384), (384, 2, 4, 0, z0, 386), (386, 0, 0, 0, vi (1), 387), (387, 9, 0, 0, z0, 388), (388, 31, 1, 0, z0, 389), (389, 4, 0, 0, z0, 390), (390, 2, 4, 0, z0, 392), (392, 0, 0, 0, vi (2), 393), (393, 9, 0, 0, z0, 394), (394, 31, 1, 0, z0, 395), (395, 34, 90, 3, vr 1 0, 398), (398, 4, 2, 0, z0, 399), (399, 4, 0, 0, z0, 400), (400, 2, 4, 0, z0, 402), (402, 0, 0, 0, vi (1), 403), (403, 9, 0, 0, z0, 404), (404, 31, 1, 0, z0, 405), (405, 4, 0, 0, z0, 406), (406, 2, 4, 0, z0, 408), (408, 0, 0, 0, vi (2), 409), (409, 9, 0, 0, z0, 410), (410, 31, 1, 0, z0, 411), (411, 34, 194, 3, vr 40 0, 414), (414, 28, 0, 1198, z0, 417), (417, 0, 0, 0, z0, 418), (418, 36, 2, 0, z0, 419), (419, 4, 1, 0, z0, 420), (420, 4, 0, 0, z0, 421), (421, 2, 4, 0, z0, 423), (423, 0, 0, 0, vi (1), 424), (424, 9, 0, 0, z0, 425), (425, 31, 1, 0, z0, 426), (426, 34, 91, 2, vr 1 0, 429), (429, 4, 2, 0, z0, 430), (430, 4, 0, 0, z0, 431), (431, 2, 4, 0, z0, 433), (433, 0, 0, 0, vi (1), 434), (434, 9, 0, 0, z0, 435), (435, 31, 1, 0, z0, 436), (436, 34, 195, 2, vr 40 0, 439), (439, 28, 0, 1198, z0, 442), (442, 0, 0, 0, z0, 443), (443, 36, 2, 0, z0, 444), (444, 4, 1, 0, z0, 445), (445, 4, 0, 0, z0, 446), (446, 2, 4, 0, z0, 448), (448, 0, 0, 0, vi (1), 449), (449, 9, 0, 0, z0, 450), (450, 31, 1, 0, z0, 451), (451, 4, 0, 0, z0, 452), (452, 2, 4, 0, z0, 454), (454, 0, 0, 0, vi (2), 455), (455, 9, 0, 0, z0, 456), (456, 31, 1, 0, z0, 457), (457, 34, 92, 3, vr 1 0, 460), (460, 4, 2, 0, z0, 461), (461, 4, 0, 0, z0, 462), (462, 2, 4, 0, z0, 464), (464, 0, 0, 0, vi (1), 465), (465, 9, 0, 0, z0, 466), (466, 31, 1, 0, z0, 467), (467, 4, 0, 0, z0, 468), (468, 2, 4, 0, z0, 470), (470, 0, 0, 0, vi (2), 471), (471, 9, 0, 0, z0, 472), (472, 31, 1, 0, z0, 473), (473, 34, 196, 3, vr 40 0, 476), (476, 28, 0, 1198, z0, 479), (479, 0, 0, 0, z0, 480), (480, 36, 2, 0, z0, 481), (481, 4, 1, 0, z0, 482), (482, 4, 0, 0, z0, 483), (483, 2, 4, 0, z0, 485), (485, 0, 0, 0, vi (1), 486), (486, 9, 0, 0, z0, 487), (487, 31, 1, 0, z0, 488), (488, 4, 0, 0, z0, 489), (489, 2, 4, 0, z0, 491), (491, 0, 0, 0, vi (2), 492), (492, 9, 0, 0, z0, 493), (493, 31, 1, 0, z0, 494), (494, 34, 93, 3, vr 1 0, 497), (497, 4, 2, 0, z0, 498), (498, 4, 0, 0, z0, 499), (499, 2, 4, 0, z0, 501), (501, 0, 0, 0, vi (1), 502), (502, 9, 0, 0, z0, 503), (503, 31, 1, 0, z0, 504), (504, 4, 0, 0, z0, 505), (505, 2, 4, 0, z0, 507), (507, 0, 0, 0, vi (2), 508), (508, 9, 0, 0, z0, 509), (509, 31, 1, 0, z0, 510), (510, 34, 198, 3, vr 40 0, 513), (513, 28, 0, 1198, z0, 516), (516, 0, 0, 0, z0, 517), (517, 36, 2, 0, z0, 518), (518, 4, 1, 0, z0, 519), (519, 4, 0, 0, z0, 520), (520, 2, 4, 0, z0, 522), (522, 0, 0, 0, vi (1), 523), (523, 9, 0, 0, z0, 524), (524, 31, 1, 0, z0, 525), (525, 4, 0, 0, z0, 526), (526, 2, 4, 0, z0, 528), (528, 0, 0, 0, vi (2), 529), (529, 9, 0, 0, z0, 530), (530, 31, 1, 0, z0, 531), (531, 34, 94, 3, vr 1 0, 534), (534, 4, 2, 0, z0, 535), (535, 4, 0, 0, z0, 536), (536, 2, 4, 0, z0, 538), (538, 0, 0, 0, vi (1), 539), (539, 9, 0, 0, z0, 540), (540, 31, 1, 0, z0, 541), (541, 4, 0, 0, z0, 542), (542, 2, 4, 0, z0, 544), (544, 0, 0, 0, vi (2), 545), (545, 9, 0, 0, z0, 546), (546, 31, 1, 0, z0, 547), (547, 34, 199, 3, vr 40 0, 550), (550, 28, 0, 1198, z0, 553), (553, 0, 0, 0, z0, 554), (554, 36, 2, 0, z0, 555), (555, 4, 1, 0, z0, 556), (556, 4, 0, 0, z0, 557), (557, 2, 4, 0, z0, 559), (559, 0, 0, 0, vi (1), 560), (560, 9, 0, 0, z0, 561), (561, 31, 1, 0, z0, 562), (562, 34, 95, 2, vr 1 0, 565), (565, 4, 2, 0, z0, 566), (566, 4, 0, 0, z0, 567), (567, 2, 4, 0, z0, 569), (569, 0, 0, 0, vi (1), 570), (570, 9, 0, 0, z0, 571), (571, 31, 1, 0, z0, 572), (572, 34, 200, 2, vr 40 0, 575), (575, 28, 0, 1198, z0, 578), (578, 0, 0, 0, z0, 579), (579, 36, 2, 0, z0, 580), (580, 4, 1, 0, z0, 581), (581, 34, 96, 1, vr 1 0, 584), (584, 4, 2, 0, z0, 585), (585, 34, 201, 1, vr 40 0, 588), (588, 28, 0, 1198, z0, 591), (591, 0, 0, 0, z0, 592), (592, 36, 2, 0, z0, 593), (593, 4, 1, 0, z0, 594), (594, 34, 97, 1, vr 1 0, 597), (597, 4, 2, 0, z0, 598), (598, 34, 202, 1, vr 40 0, 601), (601, 28, 0, 1198, z0, 604), (604, 0, 0, 0, z0, 605), (605, 36, 2, 0, z0, 606), (606, 4, 1, 0, z0, 607), (607, 4, 0, 0, z0, 608), (608, 2, 4, 0, z0, 610), (610, 0, 0, 0, vi (1), 611), (611, 9, 0, 0, z0, 612), (612, 31, 1, 0, z0, 613), (613, 34, 98, 2, vr 1 0, 616), (616, 4, 2, 0, z0, 617), (617, 4, 0, 0, z0, 618), (618, 2, 4, 0, z0, 620), (620, 0, 0, 0, vi (1), 621), (621, 9, 0, 0, z0, 622), (622, 31, 1, 0, z0, 623), (623, 34, 204, 2, vr 40 0, 626), (626, 28, 0, 1198, z0, 629), (629, 0, 0, 0, z0, 630), (630, 36, 2, 0, z0, 631), (631, 4, 1, 0, z0, 632), (632, 4, 0, 0, z0, 633), (633, 2, 4, 0, z0, 635), (635, 0, 0, 0, vi (1), 636), (636, 9, 0, 0, z0, 637), (637, 31, 1, 0, z0, 638), (638, 34, 99, 2, vr 1 0, 641), (641, 4, 2, 0, z0, 642), (642, 4, 0, 0, z0, 643), (643, 2, 4, 0, z0, 645), (645, 0, 0, 0, vi (1), 646), (646, 9, 0, 0, z0, 647), (647, 31, 1, 0, z0, 648), (648, 34, 205, 2, vr 40 0, 651), (651, 28, 0, 1198, z0, 654), (654, 0, 0, 0, z0, 655), (655, 36, 2, 0, z0, 656), (656, 4, 1, 0, z0, 657), (657, 34, 100, 1, vr 1 0, 660), (660, 4, 2, 0, z0, 661), (661, 34, 206, 1, vr 40 0, 664), (664, 28, 0, 1198, z0, 667), (667, 0, 0, 0, z0, 668), (668, 36, 2, 0, z0, 669), (669, 4, 1, 0, z0, 670), (670, 4, 0, 0, z0, 671), (671, 2, 4, 0, z0, 673), (673, 0, 0, 0, vi (1), 674), (674, 9, 0, 0, z0, 675), (675, 31, 1, 0, z0, 676), (676, 4, 0, 0, z0, 677), (677, 2, 4, 0, z0, 679), (679, 0, 0, 0, vi (2), 680), (680, 9, 0, 0, z0, 681), (681, 31, 1, 0, z0, 682), (682, 4, 0, 0, z0, 683), (683, 2, 4, 0, z0, 685), (685, 0, 0, 0, vi (3), 686), (686, 9, 0, 0, z0, 687), (687, 31, 1, 0, z0, 688), (688, 34, 101, 4, vr 1 0, 691), (691, 4, 2, 0, z0, 692), (692, 4, 0, 0, z0, 693), (693, 2, 4, 0, z0, 695), (695, 0, 0, 0, vi (1), 696), (696, 9, 0, 0, z0, 697), (697, 31, 1, 0, z0, 698), (698, 4, 0, 0, z0, 699), (699, 2, 4, 0, z0, 701), (701, 0, 0, 0, vi (2), 702), (702, 9, 0, 0, z0, 703), (703, 31, 1, 0, z0, 704), (704, 4, 0, 0, z0, 705), (705, 2, 4, 0, z0, 707), (707, 0, 0, 0, vi (3), 708), (708, 9, 0, 0, z0, 709), (709, 31, 1, 0, z0, 710), (710, 34, 208, 4, vr 40 0, 713), (713, 28, 0, 1198, z0, 716), (716, 0, 0, 0, z0, 717), (717, 36, 2, 0, z0, 718), (718, 4, 1, 0, z0, 719), (719, 4, 0, 0, z0, 720), (720, 2, 4, 0, z0, 722), (722, 0, 0, 0, vi (1), 723), (723, 9, 0, 0, z0, 724), (724, 31, 1, 0, z0, 725), (725, 34, 102, 2, vr 1 0, 728), (728, 4, 2, 0, z0, 729), (729, 4, 0, 0, z0, 730), (730, 2, 4, 0, z0, 732), (732, 0, 0, 0, vi (1), 733), (733, 9, 0, 0, z0, 734), (734, 31, 1, 0, z0, 735), (735, 34, 209, 2, vr 40 0, 738), (738, 28, 0, 1198, z0, 741), (741, 0, 0, 0, z0, 742), (742, 36, 2, 0, z0, 743), (743, 4, 1, 0, z0, 744), (744, 4, 0, 0, z0, 745), (745, 2, 4, 0, z0, 747), (747, 0, 0, 0, vi (1), 748), (748, 9, 0, 0, z0, 749), (749, 31, 1, 0, z0, 750), (750, 4, 0, 0, z0, 751), (751, 2, 4, 0, z0, 753), (753, 0, 0, 0, vi (2), 754), (754, 9, 0, 0, z0, 755), (755, 31, 1, 0, z0, 756), (756, 34, 103, 3, vr 1 0, 759), (759, 4, 2, 0, z0, 760), (760, 4, 0, 0, z0, 761), (761, 2, 4, 0, z0, 763), (763, 0, 0, 0, vi (1), 764), (764, 9, 0, 0, z0, 765), (765, 31, 1, 0, z0, 766), (766, 4, 0, 0, z0, 767), (767, 2, 4, 0, z0, 769), (769, 0, 0, 0, vi (2), 770), (770, 9, 0, 0, z0, 771), (771, 31, 1, 0, z0, 772), (772, 34, 213, 3, vr 40 0, 775), (775, 28, 0, 1198, z0, 778), (778, 0, 0, 0, z0, 779), (779, 36, 2, 0, z0, 780), (780, 4, 1, 0, z0, 781), (781, 4, 0, 0, z0, 782), (782, 2, 4, 0, z0, 784), (784, 0, 0, 0, vi (1), 785), (785, 9, 0, 0, z0, 786), (786, 31, 1, 0, z0, 787), (787, 4, 0, 0, z0, 788), (788, 2, 4, 0, z0, 790), (790, 0, 0, 0, vi (2), 791), (791, 9, 0, 0, z0, 792), (792, 31, 1, 0, z0, 793), (793, 34, 104, 3, vr 1 0, 796), (796, 4, 2, 0, z0, 797), (797, 4, 0, 0, z0, 798), (798, 2, 4, 0, z0, 800), (800, 0, 0, 0, vi (1), 801), (801, 9, 0, 0, z0, 802), (802, 31, 1, 0, z0, 803), (803, 4, 0, 0, z0, 804), (804, 2, 4, 0, z0, 806), (806, 0, 0, 0, vi (2), 807), (807, 9, 0, 0, z0, 808), (808, 31, 1, 0, z0, 809), (809, 34, 214, 3, vr 40 0, 812), (812, 28, 0, 1198, z0, 815), (815, 0, 0, 0, z0, 816), (816, 36, 2, 0, z0, 817), (817, 4, 1, 0, z0, 818), (818, 4, 0, 0, z0, 819), (819, 2, 4, 0, z0, 821), (821, 0, 0, 0, vi (1), 822), (822, 9, 0, 0, z0, 823), (823, 31, 1, 0, z0, 824), (824, 4, 0, 0, z0, 825), (825, 2, 4, 0, z0, 827), (827, 0, 0, 0, vi (2), 828), (828, 9, 0, 0, z0, 829), (829, 31, 1, 0, z0, 830), (830, 34, 105, 3, vr 1 0, 833), (833, 4, 2, 0, z0, 834), (834, 4, 0, 0, z0, 835), (835, 2, 4, 0, z0, 837), (837, 0, 0, 0, vi (1), 838), (838, 9, 0, 0, z0, 839), (839, 31, 1, 0, z0, 840), (840, 4, 0, 0, z0, 841), (841, 2, 4, 0, z0, 843), (843, 0, 0, 0, vi (2), 844), (844, 9, 0, 0, z0, 845), (845, 31, 1, 0, z0, 846), (846, 34, 218, 3, vr 40 0, 849), (849, 28, 0, 1198, z0, 852), (852, 0, 0, 0, z0, 853), (853, 36, 2, 0, z0, 854), (854, 4, 1, 0, z0, 855), (855, 4, 0, 0, z0, 856), (856, 2, 4, 0, z0, 858), (858, 0, 0, 0, vi (1), 859), (859, 9, 0, 0, z0, 860), (860, 31, 1, 0, z0, 861), (861, 34, 106, 2, vr 1 0, 864), (864, 4, 2, 0, z0, 865), (865, 4, 0, 0, z0, 866), (866, 2, 4, 0, z0, 868), (868, 0, 0, 0, vi (1), 869), (869, 9, 0, 0, z0, 870), (870, 31, 1, 0, z0, 871), (871, 34, 219, 2, vr 40 0, 874), (874, 28, 0, 1198, z0, 877), (877, 0, 0, 0, z0, 878), (878, 36, 2, 0, z0, 879), (879, 4, 1, 0, z0, 880), (880, 4, 0, 0, z0, 881), (881, 2, 4, 0, z0, 883), (883, 0, 0, 0, vi (1), 884), (884, 9, 0, 0, z0, 885), (885, 31, 1, 0, z0, 886), (886, 4, 0, 0, z0, 887), (887, 2, 4, 0, z0, 889), (889, 0, 0, 0, vi (2), 890), (890, 9, 0, 0, z0, 891), (891, 31, 1, 0, z0, 892), (892, 4, 0, 0, z0, 893), (893, 2, 4, 0, z0, 895), (895, 0, 0, 0, vi (3), 896), (896, 9, 0, 0, z0, 897), (897, 31, 1, 0, z0, 898), (898, 34, 107, 4, vr 1 0, 901), (901, 4, 2, 0, z0, 902), (902, 4, 0, 0, z0, 903), (903, 2, 4, 0, z0, 905), (905, 0, 0, 0, vi (1), 906), (906, 9, 0, 0, z0, 907), (907, 31, 1, 0, z0, 908), (908, 4, 0, 0, z0, 909), (909, 2, 4, 0, z0, 911), (911, 0, 0, 0, vi (2), 912), (912, 9, 0, 0, z0, 913), (913, 31, 1, 0, z0, 914), (914, 4, 0, 0, z0, 915), (915, 2, 4, 0, z0, 917), (917, 0, 0, 0, vi (3), 918), (918, 9, 0, 0, z0, 919), (919, 31, 1, 0, z0, 920), (920, 34, 223, 4, vr 40 0, 923), (923, 28, 0, 1198, z0, 926), (926, 0, 0, 0, z0, 927), (927, 36, 2, 0, z0, 928), (928, 4, 1, 0, z0, 929), (929, 34, 108, 1, vr 1 0, 932), (932, 4, 2, 0, z0, 933), (933, 34, 224, 1, vr 40 0, 936), (936, 28, 0, 1198, z0, 939), (939, 0, 0, 0, z0, 940), (940, 36, 2, 0, z0, 941), (941, 4, 1, 0, z0, 942), (942, 4, 0, 0, z0, 943), (943, 2, 4, 0, z0, 945), (945, 0, 0, 0, vi (1), 946), (946, 9, 0, 0, z0, 947), (947, 31, 1, 0, z0, 948), (948, 34, 109, 2, vr 1 0, 951), (951, 4, 2, 0, z0, 952), (952, 4, 0, 0, z0, 953), (953, 2, 4, 0, z0, 955), (955, 0, 0, 0, vi (1), 956), (956, 9, 0, 0, z0, 957), (957, 31, 1, 0, z0, 958), (958, 34, 227, 2, vr 40 0, 961), (961, 28, 0, 1198, z0, 964), (964, 0, 0, 0, z0, 965), (965, 36, 2, 0, z0, 966), (966, 4, 1, 0, z0, 967), (967, 34, 110, 1, vr 1 0, 970), (970, 4, 2, 0, z0, 971), (971, 34, 228, 1, vr 40 0, 974), (974, 28, 0, 1198, z0, 977), (977, 0, 0, 0, z0, 978), (978, 36, 2, 0, z0, 979), (979, 4, 1, 0, z0, 980), (980, 4, 0, 0, z0, 981), (981, 2, 4, 0, z0, 983), (983, 0, 0, 0, vi (1), 984), (984, 9, 0, 0, z0, 985), (985, 31, 1, 0, z0, 986), (986, 4, 0, 0, z0, 987), (987, 2, 4, 0, z0, 989), (989, 0, 0, 0, vi (2), 990), (990, 9, 0, 0, z0, 991), (991, 31, 1, 0, z0, 992), (992, 4, 0, 0, z0, 993), (993, 2, 4, 0, z0, 995), (995, 0, 0, 0, vi (3), 996), (996, 9, 0, 0, z0, 997), (997, 31, 1, 0, z0, 998), (998, 4, 0, 0, z0, 999), (999, 2, 4, 0, z0, 1001), (1001, 0, 0, 0, vi (4), 1002), (1002, 9, 0, 0, z0, 1003), (1003, 31, 1, 0, z0, 1004), (1004, 4, 3, 0, z0, 1005), (1005, 45, 0, 6, z0, 1008), (1008, 5, 5, 0, z0, 1010), (1010, 4, 2, 0, z0, 1011), (1011, 4, 0, 0, z0, 1012), (1012, 2, 4, 0, z0, 1014), (1014, 0, 0, 0, vi (1), 1015), (1015, 9, 0, 0, z0, 1016), (1016, 31, 1, 0, z0, 1017), (1017, 4, 0, 0, z0, 1018), (1018, 2, 4, 0, z0, 1020), (1020, 0, 0, 0, vi (2), 1021), (1021, 9, 0, 0, z0, 1022), (1022, 31, 1, 0, z0, 1023), (1023, 4, 0, 0, z0, 1024), (1024, 2, 4, 0, z0, 1026), (1026, 0, 0, 0, vi (3), 1027), (1027, 9, 0, 0, z0, 1028), (1028, 31, 1, 0, z0, 1029), (1029, 4, 0, 0, z0, 1030), (1030, 2, 4, 0, z0, 1032), (1032, 0, 0, 0, vi (4), 1033), (1033, 9, 0, 0, z0, 1034), (1034, 31, 1, 0, z0, 1035), (1035, 34, 230, 5, vr 40 0, 1038), (1038, 5, 6, 0, z0, 1040), (1040, 4, 2, 0, z0, 1041), (1041, 34, 129, 1, vr 40 0, 1044), (1044, 2, 5, 0, z0, 1046), (1046, 28, 0, 1051, z0, 1049), (1049, 0, 0, 0, z0, 1050), (1050, 36, 2, 0, z0, 1051), (1051, 2, 5, 0, z0, 1053), (1053, 27, 1, 1068, z0, 1056), (1056, 4, 3, 0, z0, 1057), (1057, 0, 0, 0, z0, 1058), (1058, 31, 4, 0, z0, 1059), (1059, 2, 6, 0, z0, 1061), (1061, 19, 0, 0, z0, 1062), (1062, 18, 0, 0, z0, 1063), (1063, 27, 0, 1068, z0, 1066), (1066, 0, 0, 0, z0, 1067), (1067, 36, 2, 0, z0, 1068), (1068, 26, 1198, 0, z0, 1071), (1071, 4, 1, 0, z0, 1072), (1072, 4, 0, 0, z0, 1073), (1073, 2, 4, 0, z0, 1075), (1075, 0, 0, 0, vi (1), 1076), (1076, 9, 0, 0, z0, 1077), (1077, 31, 1, 0, z0, 1078), (1078, 4, 0, 0, z0, 1079), (1079, 2, 4, 0, z0, 1081), (1081, 0, 0, 0, vi (2), 1082), (1082, 9, 0, 0, z0, 1083), (1083, 31, 1, 0, z0, 1084), (1084, 4, 0, 0, z0, 1085), (1085, 2, 4, 0, z0, 1087), (1087, 0, 0, 0, vi (3), 1088), (1088, 9, 0, 0, z0, 1089), (1089, 31, 1, 0, z0, 1090), (1090, 34, 111, 4, vr 1 0, 1093), (1093, 4, 2, 0, z0, 1094), (1094, 4, 0, 0, z0, 1095), (1095, 2, 4, 0, z0, 1097), (1097, 0, 0, 0, vi (1), 1098), (1098, 9, 0, 0, z0, 1099), (1099, 31, 1, 0, z0, 1100), (1100, 4, 0, 0, z0, 1101), (1101, 2, 4, 0, z0, 1103), (1103, 0, 0, 0, vi (2), 1104), (1104, 9, 0, 0, z0, 1105), (1105, 31, 1, 0, z0, 1106), (1106, 4, 0, 0, z0, 1107), (1107, 2, 4, 0, z0, 1109), (1109, 0, 0, 0, vi (3), 1110), (1110, 9, 0, 0, z0, 1111), (1111, 31, 1, 0, z0, 1112), (1112, 34, 233, 4, vr 40 0, 1115), (1115, 28, 0, 1198, z0, 1118), (1118, 0, 0, 0, z0, 1119), (1119, 36, 2, 0, z0, 1120), (1120, 4, 1, 0, z0, 1121), (1121, 4, 0, 0, z0, 1122), (1122, 2, 4, 0, z0, 1124), (1124, 0, 0, 0, vi (1), 1125), (1125, 9, 0, 0, z0, 1126), (1126, 31, 1, 0, z0, 1127), (1127, 4, 0, 0, z0, 1128), (1128, 2, 4, 0, z0, 1130), (1130, 0, 0, 0, vi (2), 1131), (1131, 9, 0, 0, z0, 1132), (1132, 31, 1, 0, z0, 1133), (1133, 27, 0, 1140, z0, 1136), (1136, 0, 0, 0, vi (1), 1137), (1137, 26, 1141, 0, z0, 1140), (1140, 0, 0, 0, z0, 1141), (1141, 34, 112, 3, vr 1 0, 1144), (1144, 4, 2, 0, z0, 1145), (1145, 4, 0, 0, z0, 1146), (1146, 2, 4, 0, z0, 1148), (1148, 0, 0, 0, vi (1), 1149), (1149, 9, 0, 0, z0, 1150), (1150, 31, 1, 0, z0, 1151), (1151, 4, 0, 0, z0, 1152), (1152, 2, 4, 0, z0, 1154), (1154, 0, 0, 0, vi (2), 1155), (1155, 9, 0, 0, z0, 1156), (1156, 31, 1, 0, z0, 1157), (1157, 27, 0, 1164, z0, 1160), (1160, 0, 0, 0, vi (1), 1161), (1161, 26, 1165, 0, z0, 1164), (1164, 0, 0, 0, z0, 1165), (1165, 34, 234, 3, vr 40 0, 1168), (1168, 28, 0, 1198, z0, 1171), (1171, 0, 0, 0, z0, 1172), (1172, 36, 2, 0, z0, 1173), (1173, 4, 1, 0, z0, 1174), (1174, 4, 0, 0, z0, 1175), (1175, 2, 4, 0, z0, 1177), (1177, 0, 0, 0, vi (1), 1178), (1178, 9, 0, 0, z0, 1179), (1179, 31, 1, 0, z0, 1180), (1180, 34, 113, 2, vr 1 0, 1183), (1183, 4, 2, 0, z0, 1184), (1184, 4, 0, 0, z0, 1185), (1185, 2, 4, 0, z0, 1187), (1187, 0, 0, 0, vi (1), 1188), (1188, 9, 0, 0, z0, 1189), (1189, 31, 1, 0, z0, 1190), (1190, 34, 237, 2, vr 40 0, 1193), (1193, 28, 0, 1198, z0, 1196), (1196, 0, 0, 0, z0, 1197), (1197, 36, 2, 0, z0, 1198), (1198, 8, 4, 0, vi (7), 1201), (1201, 26, 23, 0, z0, 1204), (1204, 0, 0, 0, vi (1), 1205), (1205, 36, 2, 0, z0, 1206)]
def ctab : List (List (Nat × Ent)) := [cd0, cd1, cd2, cd3, cd4, cd5, cd6, cd7, cd8, cd9, cd10, cd11, cd12, cd13, cd14, cd15, cd16, cd17, cd18, cd19, cd20, cd21, cd22, cd23, cd24, cd25, cd26, cd27, cd28, cd29, cd30, cd31, cd32, cd33, cd34, cd35, cd36, cd37, cd38, cd39, cd40, cd41, cd42, cd43, cd44, cd45, cd46, cd47, cd48, cd49, cd50, cd51, cd52, cd53, cd54, cd55, cd56, cd57, cd58, cd59, cd60, cd61, cd62, cd63, cd64, cd65, cd66, cd67, cd68, cd69, cd70, cd71, cd72, cd73, cd74, cd75, cd76, cd77, cd78, cd79, cd80, cd81, cd82, cd83, cd84, cd85, cd86, cd87, cd88, cd89, cd90, cd91, cd92, cd93, cd94, cd95, cd96, cd97, cd98, cd99, cd100, cd101, cd102, cd103, cd104, cd105, cd106, cd107, cd108, cd109, cd110, cd111, cd112, cd113, cd114, cd115, cd116, cd117, cd118, cd119, cd120, cd121, cd122, cd123, cd124, cd125, cd126, cd127, cd128, cd129, cd130, cd131, cd132, cd133, cd134, cd135, cd136, cd137, cd138, cd139, cd140, cd141, cd142, cd143, cd144, cd145, cd146, cd147, cd148, cd149, cd150, cd151, cd152, cd153, cd154, cd155, cd156, cd157, cd158, cd159, cd160, cd161, cd162, cd163, cd164, cd165, cd166, cd167, cd168, cd169, cd170, cd171, cd172, cd173, cd174, cd175, cd176, cd177, cd178, cd179, cd180, cd181, cd182, cd183, cd184, cd185, cd186, cd187, cd188, cd189, cd190, cd191, cd192, cd193, cd194, cd195, cd196, cd197, cd198, cd199, cd200, cd201, cd202, cd203, cd204, cd205, cd206, cd207, cd208, cd209, cd210, cd211, cd212, cd213, cd214, cd215, cd216, cd217, cd218, cd219, cd220, cd221, cd222, cd223, cd224, cd225, cd226, cd227, cd228, cd229, cd230, cd231, cd232, cd233, cd234, cd235, cd236, cd237, cd238, cd239, cd240, cd241, cd242, cd243, cd244, cd245, cd246, cd247, cd248, cd249, cd250, cd251, cd252]
def cod (m pc : Nat) : Option Ent := (ctab.getD m []).lookup pc
end
section
/-! NAMES AND LINKS (written by wip/whole/gen06.py; the R, T, ty rows are the printed ones) -/
def RX0 : String := "StrangeWinding$Land"
def TX0 : u_T := fun k => match k with
  | 0 => ("StrangeWinding$Land", "streetNames", "[J", true)
  | 1 => ("StrangeWinding$Land", "lanes", "[I", true)
  | 2 => ("StrangeWinding$Land", "personNames", "[J", true)
  | 3 => ("StrangeWinding$Land", "kind", "[I", true)
  | 4 => ("StrangeWinding$Land", "home", "[I", true)
  | 5 => ("StrangeWinding$Land", "leftAtFirst", "[I", true)
  | 6 => ("StrangeWinding$Land", "known", "[I", true)
  | 7 => ("StrangeWinding$Land", "codes", "[I", true)
  | 8 => ("StrangeWinding$Land", "values", "[I", true)
  | 9 => ("StrangeWinding$Land", "streets", "I", false)
  | 10 => ("StrangeWinding$Land", "people", "I", false)
  | 11 => ("StrangeWinding$Land", "soon", "I", false)
  | 12 => ("StrangeWinding$Land", "snap", "I", false)
  | _ => ("StrangeWinding$Land", "codeLength", "I", false)
def tyX0 : Nat → FieldType := fun k => match k with
  | 0 => .array .long
  | 1 => .array .int
  | 2 => .array .long
  | 3 => .array .int
  | 4 => .array .int
  | 5 => .array .int
  | 6 => .array .int
  | 7 => .array .int
  | 8 => .array .int
  | 9 => .int
  | 10 => .int
  | 11 => .int
  | 12 => .int
  | _ => .int
theorem nmX0 : ∀ a, a < 14 → ∀ b, b < 14 → a ≠ b → (TX0 a).2.1 ≠ (TX0 b).2.1 := by decide +kernel
theorem tyX0_ok : ∀ k, k < 14 → parseFieldDescriptor (TX0 k).2.2.1 = some (tyX0 k) := by decide +kernel
def RX1 : String := "StrangeWinding$LawReader"
def TX1 : u_T := fun k => match k with
  | _ => ("StrangeWinding$LawReader", "tape", "LStrangeWinding$Tape;", true)
def tyX1 : Nat → FieldType := fun k => match k with
  | _ => .object "StrangeWinding$Tape"
theorem nmX1 : ∀ a, a < 1 → ∀ b, b < 1 → a ≠ b → (TX1 a).2.1 ≠ (TX1 b).2.1 := by decide +kernel
theorem tyX1_ok : ∀ k, k < 1 → parseFieldDescriptor (TX1 k).2.2.1 = some (tyX1 k) := by decide +kernel
def RX2 : String := "StrangeWinding$Matcher"
def TX2 : u_T := fun k => match k with
  | 0 => ("StrangeWinding$Matcher", "row", "[I", true)
  | 1 => ("StrangeWinding$Matcher", "bestRow", "[I", true)
  | _ => ("StrangeWinding$Matcher", "most", "I", false)
def tyX2 : Nat → FieldType := fun k => match k with
  | 0 => .array .int
  | 1 => .array .int
  | _ => .int
theorem nmX2 : ∀ a, a < 3 → ∀ b, b < 3 → a ≠ b → (TX2 a).2.1 ≠ (TX2 b).2.1 := by decide +kernel
theorem tyX2_ok : ∀ k, k < 3 → parseFieldDescriptor (TX2 k).2.2.1 = some (tyX2 k) := by decide +kernel
def RX3 : String := "StrangeWinding$Past"
def TX3 : u_T := fun k => match k with
  | 0 => ("StrangeWinding$Past", "ring", "[LStrangeWinding$State;", true)
  | 1 => ("StrangeWinding$Past", "newest", "I", false)
  | _ => ("StrangeWinding$Past", "kept", "I", false)
def tyX3 : Nat → FieldType := fun k => match k with
  | 0 => .array (.object "StrangeWinding$State")
  | 1 => .int
  | _ => .int
theorem nmX3 : ∀ a, a < 3 → ∀ b, b < 3 → a ≠ b → (TX3 a).2.1 ≠ (TX3 b).2.1 := by decide +kernel
theorem tyX3_ok : ∀ k, k < 3 → parseFieldDescriptor (TX3 k).2.2.1 = some (tyX3 k) := by decide +kernel
def RX4 : String := "StrangeWinding$Planner"
def TX4 : u_T := fun k => match k with
  | 0 => ("StrangeWinding$Planner", "steps", "[LStrangeWinding$State;", true)
  | 1 => ("StrangeWinding$Planner", "row", "[I", true)
  | 2 => ("StrangeWinding$Planner", "bestRow", "[I", true)
  | 3 => ("StrangeWinding$Planner", "bestLeft", "I", false)
  | _ => ("StrangeWinding$Planner", "hours", "I", false)
def tyX4 : Nat → FieldType := fun k => match k with
  | 0 => .array (.object "StrangeWinding$State")
  | 1 => .array .int
  | 2 => .array .int
  | 3 => .int
  | _ => .int
theorem nmX4 : ∀ a, a < 5 → ∀ b, b < 5 → a ≠ b → (TX4 a).2.1 ≠ (TX4 b).2.1 := by decide +kernel
theorem tyX4_ok : ∀ k, k < 5 → parseFieldDescriptor (TX4 k).2.2.1 = some (tyX4 k) := by decide +kernel
def RX5 : String := "StrangeWinding$Reader"
def TX5 : u_T := fun k => match k with
  | 0 => ("StrangeWinding$Reader", "tape", "LStrangeWinding$Tape;", true)
  | 1 => ("StrangeWinding$Reader", "lawReader", "LStrangeWinding$LawReader;", true)
  | 2 => ("StrangeWinding$Reader", "soonTold", "Z", false)
  | _ => ("StrangeWinding$Reader", "snapTold", "Z", false)
def tyX5 : Nat → FieldType := fun k => match k with
  | 0 => .object "StrangeWinding$Tape"
  | 1 => .object "StrangeWinding$LawReader"
  | 2 => .boolean
  | _ => .boolean
theorem nmX5 : ∀ a, a < 4 → ∀ b, b < 4 → a ≠ b → (TX5 a).2.1 ≠ (TX5 b).2.1 := by decide +kernel
theorem tyX5_ok : ∀ k, k < 4 → parseFieldDescriptor (TX5 k).2.2.1 = some (tyX5 k) := by decide +kernel
def RX6 : String := "StrangeWinding$Scene"
def TX6 : u_T := fun k => match k with
  | 0 => ("StrangeWinding$Scene", "state", "LStrangeWinding$State;", true)
  | 1 => ("StrangeWinding$Scene", "week", "LStrangeWinding$Week;", true)
  | 2 => ("StrangeWinding$Scene", "tales", "[I", true)
  | _ => ("StrangeWinding$Scene", "laid", "Z", false)
def tyX6 : Nat → FieldType := fun k => match k with
  | 0 => .object "StrangeWinding$State"
  | 1 => .object "StrangeWinding$Week"
  | 2 => .array .int
  | _ => .boolean
theorem nmX6 : ∀ a, a < 4 → ∀ b, b < 4 → a ≠ b → (TX6 a).2.1 ≠ (TX6 b).2.1 := by decide +kernel
theorem tyX6_ok : ∀ k, k < 4 → parseFieldDescriptor (TX6 k).2.2.1 = some (tyX6 k) := by decide +kernel
def RX7 : String := "StrangeWinding$State"
def TX7 : u_T := fun k => match k with
  | 0 => ("StrangeWinding$State", "at", "[I", true)
  | 1 => ("StrangeWinding$State", "left", "[I", true)
  | 2 => ("StrangeWinding$State", "wound", "[I", true)
  | 3 => ("StrangeWinding$State", "snapped", "I", false)
  | 4 => ("StrangeWinding$State", "hours", "I", false)
  | 5 => ("StrangeWinding$State", "windings", "I", false)
  | _ => ("StrangeWinding$State", "snaps", "I", false)
def tyX7 : Nat → FieldType := fun k => match k with
  | 0 => .array .int
  | 1 => .array .int
  | 2 => .array .int
  | 3 => .int
  | 4 => .int
  | 5 => .int
  | _ => .int
theorem nmX7 : ∀ a, a < 7 → ∀ b, b < 7 → a ≠ b → (TX7 a).2.1 ≠ (TX7 b).2.1 := by decide +kernel
theorem tyX7_ok : ∀ k, k < 7 → parseFieldDescriptor (TX7 k).2.2.1 = some (tyX7 k) := by decide +kernel
def RX8 : String := "StrangeWinding$Tally"
def TX8 : u_T := fun k => match k with
  | 0 => ("StrangeWinding$Tally", "having", "[I", true)
  | 1 => ("StrangeWinding$Tally", "number", "I", false)
  | 2 => ("StrangeWinding$Tally", "inAll", "I", false)
  | _ => ("StrangeWinding$Tally", "inSome", "I", false)
def tyX8 : Nat → FieldType := fun k => match k with
  | 0 => .array .int
  | 1 => .int
  | 2 => .int
  | _ => .int
theorem nmX8 : ∀ a, a < 4 → ∀ b, b < 4 → a ≠ b → (TX8 a).2.1 ≠ (TX8 b).2.1 := by decide +kernel
theorem tyX8_ok : ∀ k, k < 4 → parseFieldDescriptor (TX8 k).2.2.1 = some (tyX8 k) := by decide +kernel
def RX9 : String := "StrangeWinding$Tape"
def TX9 : u_T := fun k => match k with
  | 0 => ("StrangeWinding$Tape", "signs", "[C", true)
  | 1 => ("StrangeWinding$Tape", "length", "I", false)
  | 2 => ("StrangeWinding$Tape", "kind", "I", false)
  | 3 => ("StrangeWinding$Tape", "place", "I", false)
  | 4 => ("StrangeWinding$Tape", "end", "I", false)
  | 5 => ("StrangeWinding$Tape", "value", "I", false)
  | 6 => ("StrangeWinding$Tape", "word", "J", false)
  | _ => ("StrangeWinding$Tape", "fault", "I", false)
def tyX9 : Nat → FieldType := fun k => match k with
  | 0 => .array .char
  | 1 => .int
  | 2 => .int
  | 3 => .int
  | 4 => .int
  | 5 => .int
  | 6 => .long
  | _ => .int
theorem nmX9 : ∀ a, a < 8 → ∀ b, b < 8 → a ≠ b → (TX9 a).2.1 ≠ (TX9 b).2.1 := by decide +kernel
theorem tyX9_ok : ∀ k, k < 8 → parseFieldDescriptor (TX9 k).2.2.1 = some (tyX9 k) := by decide +kernel
def RX10 : String := "StrangeWinding$Week"
def TX10 : u_T := fun k => match k with
  | 0 => ("StrangeWinding$Week", "verb", "[I", true)
  | 1 => ("StrangeWinding$Week", "first", "[I", true)
  | 2 => ("StrangeWinding$Week", "second", "[I", true)
  | _ => ("StrangeWinding$Week", "lines", "I", false)
def tyX10 : Nat → FieldType := fun k => match k with
  | 0 => .array .int
  | 1 => .array .int
  | 2 => .array .int
  | _ => .int
theorem nmX10 : ∀ a, a < 4 → ∀ b, b < 4 → a ≠ b → (TX10 a).2.1 ≠ (TX10 b).2.1 := by decide +kernel
theorem tyX10_ok : ∀ k, k < 4 → parseFieldDescriptor (TX10 k).2.2.1 = some (tyX10 k) := by decide +kernel
def RX11 : String := "StrangeWinding"
def TX11 : u_T := fun k => match k with
  | 0 => ("StrangeWinding", "tape", "LStrangeWinding$Tape;", true)
  | 1 => ("StrangeWinding", "reader", "LStrangeWinding$Reader;", true)
  | 2 => ("StrangeWinding", "land", "LStrangeWinding$Land;", false)
  | 3 => ("StrangeWinding", "spareLand", "LStrangeWinding$Land;", false)
  | 4 => ("StrangeWinding", "spareWeek", "LStrangeWinding$Week;", true)
  | 5 => ("StrangeWinding", "scene", "LStrangeWinding$Scene;", true)
  | 6 => ("StrangeWinding", "marks", "[LStrangeWinding$Scene;", true)
  | 7 => ("StrangeWinding", "past", "LStrangeWinding$Past;", true)
  | 8 => ("StrangeWinding", "trial", "LStrangeWinding$State;", true)
  | 9 => ("StrangeWinding", "planner", "LStrangeWinding$Planner;", true)
  | 10 => ("StrangeWinding", "tally", "LStrangeWinding$Tally;", true)
  | 11 => ("StrangeWinding", "matcher", "LStrangeWinding$Matcher;", true)
  | 12 => ("StrangeWinding", "shares", "[I", true)
  | 13 => ("StrangeWinding", "nextShares", "[I", true)
  | _ => ("StrangeWinding", "seed", "J", false)
def tyX11 : Nat → FieldType := fun k => match k with
  | 0 => .object "StrangeWinding$Tape"
  | 1 => .object "StrangeWinding$Reader"
  | 2 => .object "StrangeWinding$Land"
  | 3 => .object "StrangeWinding$Land"
  | 4 => .object "StrangeWinding$Week"
  | 5 => .object "StrangeWinding$Scene"
  | 6 => .array (.object "StrangeWinding$Scene")
  | 7 => .object "StrangeWinding$Past"
  | 8 => .object "StrangeWinding$State"
  | 9 => .object "StrangeWinding$Planner"
  | 10 => .object "StrangeWinding$Tally"
  | 11 => .object "StrangeWinding$Matcher"
  | 12 => .array .int
  | 13 => .array .int
  | _ => .long
theorem nmX11 : ∀ a, a < 15 → ∀ b, b < 15 → a ≠ b → (TX11 a).2.1 ≠ (TX11 b).2.1 := by decide +kernel
theorem tyX11_ok : ∀ k, k < 15 → parseFieldDescriptor (TX11 k).2.2.1 = some (tyX11 k) := by decide +kernel
def RX12 : String := "StrangeWindingModel"
def TX12 : u_T := fun k => match k with
  | 0 => ("StrangeWindingModel", "thrown", "I", false)
  | 1 => ("StrangeWindingModel", "taped", "I", false)
  | 2 => ("StrangeWindingModel", "tape", "[I", true)
  | 3 => ("StrangeWindingModel", "size", "I", false)
  | 4 => ("StrangeWindingModel", "place", "I", false)
  | 5 => ("StrangeWindingModel", "begin", "I", false)
  | 6 => ("StrangeWindingModel", "token", "I", false)
  | 7 => ("StrangeWindingModel", "word", "J", false)
  | 8 => ("StrangeWindingModel", "told", "I", false)
  | 9 => ("StrangeWindingModel", "wrong", "I", false)
  | 10 => ("StrangeWindingModel", "land", "[I", true)
  | 11 => ("StrangeWindingModel", "streetName", "[J", true)
  | 12 => ("StrangeWindingModel", "personName", "[J", true)
  | 13 => ("StrangeWindingModel", "lanesOf", "[I", true)
  | 14 => ("StrangeWindingModel", "kind", "[I", true)
  | 15 => ("StrangeWindingModel", "atTold", "[I", true)
  | 16 => ("StrangeWindingModel", "leftTold", "[I", true)
  | 17 => ("StrangeWindingModel", "known", "[I", true)
  | 18 => ("StrangeWindingModel", "lineFrom", "[I", true)
  | 19 => ("StrangeWindingModel", "lineTo", "[I", true)
  | 20 => ("StrangeWindingModel", "codes", "[I", true)
  | 21 => ("StrangeWindingModel", "code", "I", false)
  | 22 => ("StrangeWindingModel", "toldLines", "I", false)
  | 23 => ("StrangeWindingModel", "opened", "[I", true)
  | 24 => ("StrangeWindingModel", "compared", "[Z", true)
  | 25 => ("StrangeWindingModel", "kept", "[I", true)
  | 26 => ("StrangeWindingModel", "keptBy", "[I", true)
  | 27 => ("StrangeWindingModel", "ahead", "[I", true)
  | 28 => ("StrangeWindingModel", "against", "[I", true)
  | 29 => ("StrangeWindingModel", "sum", "[I", true)
  | 30 => ("StrangeWindingModel", "sumBy", "[I", true)
  | 31 => ("StrangeWindingModel", "term", "[I", true)
  | 32 => ("StrangeWindingModel", "termBy", "[I", true)
  | 33 => ("StrangeWindingModel", "byNot", "[I", true)
  | 34 => ("StrangeWindingModel", "valueOf", "[I", true)
  | 35 => ("StrangeWindingModel", "given", "I", false)
  | 36 => ("StrangeWindingModel", "fresh", "J", false)
  | 37 => ("StrangeWindingModel", "first", "I", false)
  | 38 => ("StrangeWindingModel", "lines", "[I", true)
  | 39 => ("StrangeWindingModel", "lineWhat", "[I", true)
  | 40 => ("StrangeWindingModel", "lineA", "[I", true)
  | 41 => ("StrangeWindingModel", "lineB", "[I", true)
  | 42 => ("StrangeWindingModel", "taleOf", "[I", true)
  | 43 => ("StrangeWindingModel", "s", "[I", true)
  | 44 => ("StrangeWindingModel", "aside", "[I", true)
  | 45 => ("StrangeWindingModel", "tried", "[I", true)
  | 46 => ("StrangeWindingModel", "marked", "[I", true)
  | 47 => ("StrangeWindingModel", "undone", "[I", true)
  | 48 => ("StrangeWindingModel", "isLaid", "[Z", true)
  | 49 => ("StrangeWindingModel", "done", "I", false)
  | 50 => ("StrangeWindingModel", "snaps", "I", false)
  | 51 => ("StrangeWindingModel", "goesTo", "[I", true)
  | 52 => ("StrangeWindingModel", "bestGoes", "[I", true)
  | 53 => ("StrangeWindingModel", "mostLeft", "I", false)
  | 54 => ("StrangeWindingModel", "has", "[I", true)
  | 55 => ("StrangeWindingModel", "with", "[I", true)
  | 56 => ("StrangeWindingModel", "bestWith", "[I", true)
  | 57 => ("StrangeWindingModel", "mostPairs", "I", false)
  | _ => ("StrangeWindingModel", "g", "J", false)
def tyX12 : Nat → FieldType := fun k => match k with
  | 0 => .int
  | 1 => .int
  | 2 => .array .int
  | 3 => .int
  | 4 => .int
  | 5 => .int
  | 6 => .int
  | 7 => .long
  | 8 => .int
  | 9 => .int
  | 10 => .array .int
  | 11 => .array .long
  | 12 => .array .long
  | 13 => .array .int
  | 14 => .array .int
  | 15 => .array .int
  | 16 => .array .int
  | 17 => .array .int
  | 18 => .array .int
  | 19 => .array .int
  | 20 => .array .int
  | 21 => .int
  | 22 => .int
  | 23 => .array .int
  | 24 => .array .boolean
  | 25 => .array .int
  | 26 => .array .int
  | 27 => .array .int
  | 28 => .array .int
  | 29 => .array .int
  | 30 => .array .int
  | 31 => .array .int
  | 32 => .array .int
  | 33 => .array .int
  | 34 => .array .int
  | 35 => .int
  | 36 => .long
  | 37 => .int
  | 38 => .array .int
  | 39 => .array .int
  | 40 => .array .int
  | 41 => .array .int
  | 42 => .array .int
  | 43 => .array .int
  | 44 => .array .int
  | 45 => .array .int
  | 46 => .array .int
  | 47 => .array .int
  | 48 => .array .boolean
  | 49 => .int
  | 50 => .int
  | 51 => .array .int
  | 52 => .array .int
  | 53 => .int
  | 54 => .array .int
  | 55 => .array .int
  | 56 => .array .int
  | 57 => .int
  | _ => .long
theorem nmX12 : ∀ a, a < 59 → ∀ b, b < 59 → a ≠ b → (TX12 a).2.1 ≠ (TX12 b).2.1 := by decide +kernel
theorem tyX12_ok : ∀ k, k < 59 → parseFieldDescriptor (TX12 k).2.2.1 = some (tyX12 k) := by decide +kernel
abbrev vwCl : List vw_C := [(RX0, TX0, 14), (RX1, TX1, 1), (RX2, TX2, 3), (RX3, TX3, 3), (RX4, TX4, 5), (RX5, TX5, 4), (RX6, TX6, 4), (RX7, TX7, 7), (RX8, TX8, 4), (RX9, TX9, 8), (RX10, TX10, 4), (RX11, TX11, 15), (RX12, TX12, 59)]
def vty (c : Nat) : Nat → FieldType := match c with
  | 0 => tyX0
  | 1 => tyX1
  | 2 => tyX2
  | 3 => tyX3
  | 4 => tyX4
  | 5 => tyX5
  | 6 => tyX6
  | 7 => tyX7
  | 8 => tyX8
  | 9 => tyX9
  | 10 => tyX10
  | 11 => tyX11
  | 12 => tyX12
  | _ => fun _ => .int
/-- the words that go on into every method -/
def wtb : List Cond := lw_tbl.filter goodWord
theorem tb_all (ws : List Cond) (ps : List Nat) (h : ws = ps.filterMap (fun i => lw_tbl[i]?)) (hg : ws.all goodWord = true) : ∀ w ∈ ws, w ∈ wtb := by
  intro w hw
  have h1 := List.all_eq_true.mp hg w hw
  rw [h] at hw
  obtain ⟨i, -, hi⟩ := List.mem_filterMap.mp hw
  exact List.mem_filter.mpr ⟨List.mem_of_getElem? hi, h1⟩
theorem wtb_good : ∀ w ∈ wtb, goodWord w = true := fun w h => (List.mem_filter.mp h).2
theorem inX0 : ∀ w ∈ u_ws RX0 TX0 14, w ∈ wtb := tb_all _ [256, 258, 260, 262, 264, 266, 268, 270, 272, 274, 276, 278, 280, 282] (by decide +kernel) (by decide +kernel)
theorem inX1 : ∀ w ∈ u_ws RX1 TX1 1, w ∈ wtb := tb_all _ [192] (by decide +kernel) (by decide +kernel)
theorem inX2 : ∀ w ∈ u_ws RX2 TX2 3, w ∈ wtb := tb_all _ [462, 464, 466] (by decide +kernel) (by decide +kernel)
theorem inX3 : ∀ w ∈ u_ws RX3 TX3 3, w ∈ wtb := tb_all _ [393, 395, 397] (by decide +kernel) (by decide +kernel)
theorem inX4 : ∀ w ∈ u_ws RX4 TX4 5, w ∈ wtb := tb_all _ [417, 419, 421, 423, 425] (by decide +kernel) (by decide +kernel)
theorem inX5 : ∀ w ∈ u_ws RX5 TX5 4, w ∈ wtb := tb_all _ [199, 201, 203, 205] (by decide +kernel) (by decide +kernel)
theorem inX6 : ∀ w ∈ u_ws RX6 TX6 4, w ∈ wtb := tb_all _ [370, 372, 374, 376] (by decide +kernel) (by decide +kernel)
theorem inX7 : ∀ w ∈ u_ws RX7 TX7 7, w ∈ wtb := tb_all _ [343, 345, 347, 349, 351, 353, 355] (by decide +kernel) (by decide +kernel)
theorem inX8 : ∀ w ∈ u_ws RX8 TX8 4, w ∈ wtb := tb_all _ [442, 444, 446, 448] (by decide +kernel) (by decide +kernel)
theorem inX9 : ∀ w ∈ u_ws RX9 TX9 8, w ∈ wtb := tb_all _ [161, 163, 165, 167, 169, 171, 173, 175] (by decide +kernel) (by decide +kernel)
theorem inX10 : ∀ w ∈ u_ws RX10 TX10 4, w ∈ wtb := tb_all _ [303, 305, 307, 309] (by decide +kernel) (by decide +kernel)
theorem inX11 : ∀ w ∈ u_ws RX11 TX11 15, w ∈ wtb := tb_all _ [484, 486, 488, 490, 492, 494, 496, 498, 500, 502, 504, 506, 508, 510, 512] (by decide +kernel) (by decide +kernel)
theorem inX12 : ∀ w ∈ u_ws RX12 TX12 59, w ∈ wtb := tb_all _ [1301, 1303, 1305, 1307, 1309, 1311, 1313, 1315, 1317, 1319, 1321, 1323, 1325, 1327, 1329, 1331, 1333, 1335, 1337, 1339, 1341, 1343, 1345, 1347, 1349, 1351, 1353, 1355, 1357, 1359, 1361, 1363, 1365, 1367, 1369, 1371, 1373, 1375, 1377, 1379, 1381, 1383, 1385, 1387, 1389, 1391, 1393, 1395, 1397, 1399, 1401, 1403, 1405, 1407, 1409, 1411, 1413, 1415, 1417] (by decide +kernel) (by decide +kernel)
theorem vw_ok {ci : Nat} {r : vw_C} (h : vwCl[ci]? = some r) : (∀ w ∈ u_ws r.1 r.2.1 r.2.2, w ∈ wtb) ∧ (∀ k, k < r.2.2 → parseFieldDescriptor (r.2.1 k).2.2.1 = some (vty ci k)) ∧ (∀ a, a < r.2.2 → ∀ b, b < r.2.2 → a ≠ b → (r.2.1 a).2.1 ≠ (r.2.1 b).2.1) := by
  match ci, h with
  | 0, h => cases h; exact ⟨inX0, tyX0_ok, nmX0⟩
  | 1, h => cases h; exact ⟨inX1, tyX1_ok, nmX1⟩
  | 2, h => cases h; exact ⟨inX2, tyX2_ok, nmX2⟩
  | 3, h => cases h; exact ⟨inX3, tyX3_ok, nmX3⟩
  | 4, h => cases h; exact ⟨inX4, tyX4_ok, nmX4⟩
  | 5, h => cases h; exact ⟨inX5, tyX5_ok, nmX5⟩
  | 6, h => cases h; exact ⟨inX6, tyX6_ok, nmX6⟩
  | 7, h => cases h; exact ⟨inX7, tyX7_ok, nmX7⟩
  | 8, h => cases h; exact ⟨inX8, tyX8_ok, nmX8⟩
  | 9, h => cases h; exact ⟨inX9, tyX9_ok, nmX9⟩
  | 10, h => cases h; exact ⟨inX10, tyX10_ok, nmX10⟩
  | 11, h => cases h; exact ⟨inX11, tyX11_ok, nmX11⟩
  | 12, h => cases h; exact ⟨inX12, tyX12_ok, nmX12⟩
  | n + 13, h => simp [vwCl] at h
def ownt : List String := ["StrangeWinding$Land", "StrangeWinding$LawReader", "StrangeWinding$Matcher", "StrangeWinding$Past", "StrangeWinding$Planner", "StrangeWinding$Reader", "StrangeWinding$Scene", "StrangeWinding$State", "StrangeWinding$Tally", "StrangeWinding$Tape", "StrangeWinding$Week", "StrangeWinding", "StrangeWindingModel", "java/lang/String", "java/lang/StringLatin1", "jdk/internal/util/Preconditions", "java/lang/Integer", "java/lang/Math", "java/util/Arrays", "StrangeWindingLaw"]
def own (i : Nat) : String := ownt.getD i ""
def yyt : List MethodName := [⟨own 0, "<init>", "()V"⟩, ⟨own 0, "clear", "()V"⟩, ⟨own 0, "addStreet", "(J)V"⟩, ⟨own 0, "addPerson", "(J)V"⟩, ⟨own 0, "streetNamed", "(J)I"⟩, ⟨own 0, "personNamed", "(J)I"⟩, ⟨own 0, "addCode", "(I)V"⟩, ⟨own 0, "lawTells", "(IIII)I"⟩, ⟨own 0, "factOf", "(IIIII)I"⟩, ⟨own 0, "joined", "(III)I"⟩, ⟨own 1, "<init>", "(LStrangeWinding$Tape;)V"⟩, ⟨own 1, "readLaw", "(LStrangeWinding$Land;)Z"⟩, ⟨own 1, "readFrom", "(IILStrangeWinding$Land;)Z"⟩, ⟨own 1, "readPart", "(ILStrangeWinding$Land;)Z"⟩, ⟨own 1, "valueCode", "()I"⟩, ⟨own 1, "joiningCode", "(I)I"⟩, ⟨own 2, "<init>", "()V"⟩, ⟨own 2, "search", "(LStrangeWinding$Land;LStrangeWinding$State;)V"⟩, ⟨own 2, "tryFrom", "(LStrangeWinding$Land;LStrangeWinding$State;II)V"⟩, ⟨own 3, "<init>", "()V"⟩, ⟨own 3, "forget", "()V"⟩, ⟨own 3, "keep", "(LStrangeWinding$State;)V"⟩, ⟨own 3, "restore", "(LStrangeWinding$State;)Z"⟩, ⟨own 4, "<init>", "()V"⟩, ⟨own 4, "search", "(LStrangeWinding$Land;LStrangeWinding$State;II)V"⟩, ⟨own 4, "tryFrom", "(LStrangeWinding$Land;II)V"⟩, ⟨own 5, "<init>", "(LStrangeWinding$Tape;)V"⟩, ⟨own 5, "readLand", "(LStrangeWinding$Land;)I"⟩, ⟨own 5, "readOfLand", "(LStrangeWinding$Land;)Z"⟩, ⟨own 5, "readStreet", "(LStrangeWinding$Land;)Z"⟩, ⟨own 5, "readPair", "(LStrangeWinding$Land;Z)Z"⟩, ⟨own 5, "readPerson", "(LStrangeWinding$Land;)Z"⟩, ⟨own 5, "readSoon", "(LStrangeWinding$Land;)Z"⟩, ⟨own 5, "readSnap", "(LStrangeWinding$Land;)Z"⟩, ⟨own 5, "readWeek", "(LStrangeWinding$Land;LStrangeWinding$Week;)I"⟩, ⟨own 5, "readOfWeek", "(LStrangeWinding$Land;LStrangeWinding$Week;)Z"⟩, ⟨own 5, "verbHere", "()I"⟩, ⟨own 5, "isNewName", "(LStrangeWinding$Land;)Z"⟩, ⟨own 5, "numberHere", "(LStrangeWinding$Land;Z)I"⟩, ⟨own 6, "<init>", "()V"⟩, ⟨own 6, "begin", "(LStrangeWinding$Land;)V"⟩, ⟨own 6, "copyFrom", "(LStrangeWinding$Scene;)V"⟩, ⟨own 6, "talesTold", "()I"⟩, ⟨own 7, "<init>", "()V"⟩, ⟨own 7, "begin", "(LStrangeWinding$Land;)V"⟩, ⟨own 7, "copyFrom", "(LStrangeWinding$State;)V"⟩, ⟨own 7, "isSnapped", "(I)Z"⟩, ⟨own 7, "sits", "(I)Z"⟩, ⟨own 7, "sitters", "(LStrangeWinding$Land;)I"⟩, ⟨own 7, "leftOfAll", "(LStrangeWinding$Land;)I"⟩, ⟨own 7, "windingsOfTwo", "(II)I"⟩, ⟨own 7, "areStrangers", "(LStrangeWinding$Land;II)Z"⟩, ⟨own 7, "strangersOf", "(LStrangeWinding$Land;I)I"⟩, ⟨own 7, "offeringIn", "(LStrangeWinding$Land;II)I"⟩, ⟨own 7, "canWalk", "(LStrangeWinding$Land;II)Z"⟩, ⟨own 7, "walkIfCan", "(LStrangeWinding$Land;II)Z"⟩, ⟨own 7, "canWind", "(LStrangeWinding$Land;II)Z"⟩, ⟨own 7, "crowdAround", "(LStrangeWinding$Land;II)I"⟩, ⟨own 7, "hoursGiven", "(LStrangeWinding$Land;III)I"⟩, ⟨own 7, "turn", "(LStrangeWinding$Land;II)V"⟩, ⟨own 7, "repair", "(I)V"⟩, ⟨own 7, "passHour", "(LStrangeWinding$Land;)I"⟩, ⟨own 8, "<init>", "()V"⟩, ⟨own 8, "gather", "(LStrangeWinding$Land;LStrangeWinding$State;II)V"⟩, ⟨own 8, "leftBy", "(LStrangeWinding$Land;LStrangeWinding$State;II)I"⟩, ⟨own 8, "addSet", "(I)V"⟩, ⟨own 9, "<init>", "()V"⟩, ⟨own 9, "addBytes", "(J)V"⟩, ⟨own 9, "open", "()V"⟩, ⟨own 9, "next", "()V"⟩, ⟨own 9, "scanWord", "()V"⟩, ⟨own 9, "scanNumber", "()V"⟩, ⟨own 9, "isLetter", "(C)Z"⟩, ⟨own 9, "isDigit", "(C)Z"⟩, ⟨own 9, "isWord", "(Ljava/lang/String;)Z"⟩, ⟨own 9, "isSign", "(C)Z"⟩, ⟨own 9, "isName", "()Z"⟩, ⟨own 9, "kindNamed", "()I"⟩, ⟨own 9, "refuse", "(I)Z"⟩, ⟨own 9, "passWord", "(Ljava/lang/String;)Z"⟩, ⟨own 9, "passSign", "(C)Z"⟩, ⟨own 9, "isNumberWithin", "(II)Z"⟩, ⟨own 10, "<init>", "()V"⟩, ⟨own 10, "addLine", "(III)V"⟩, ⟨own 10, "copyFrom", "(LStrangeWinding$Week;)V"⟩, ⟨own 11, "<init>", "()V"⟩, ⟨own 11, "feed", "(JJJ)I"⟩, ⟨own 11, "land", "()I"⟩, ⟨own 11, "week", "()I"⟩, ⟨own 11, "person", "(II)I"⟩, ⟨own 11, "wound", "(II)I"⟩, ⟨own 11, "lanes", "(I)I"⟩, ⟨own 11, "gives", "(II)I"⟩, ⟨own 11, "walk", "(II)Z"⟩, ⟨own 11, "wind", "(II)I"⟩, ⟨own 11, "mend", "(I)Z"⟩, ⟨own 11, "hour", "()I"⟩, ⟨own 11, "undo", "()Z"⟩, ⟨own 11, "judged", "(I)I"⟩, ⟨own 11, "stops", "(I)I"⟩, ⟨own 11, "august", "()I"⟩, ⟨own 11, "plan", "(III)I"⟩, ⟨own 11, "stand", "(I)I"⟩, ⟨own 11, "fewest", "(II)I"⟩, ⟨own 11, "tale", "(II)Z"⟩, ⟨own 11, "sets", "(II)I"⟩, ⟨own 11, "ask", "(I)I"⟩, ⟨own 11, "meet", "(III)I"⟩, ⟨own 11, "engaged", "()I"⟩, ⟨own 11, "pairs", "(I)I"⟩, ⟨own 11, "tinkers", "()I"⟩, ⟨own 11, "years", "(III)I"⟩, ⟨own 11, "mark", "(IZ)Z"⟩, ⟨own 11, "count", "(I)I"⟩, ⟨own 11, "isWithin", "(III)Z"⟩, ⟨own 11, "isPerson", "(I)Z"⟩, ⟨own 11, "isStreet", "(I)Z"⟩, ⟨own 11, "areTwo", "(II)Z"⟩, ⟨own 11, "followLine", "(LStrangeWinding$Week;I)Z"⟩, ⟨own 11, "streetThatSaves", "(II)I"⟩, ⟨own 11, "allCanWalk", "(II)Z"⟩, ⟨own 11, "endsWithoutSitters", "(I)Z"⟩, ⟨own 11, "shareOut", "()V"⟩, ⟨own 11, "shareFrom", "(II)V"⟩, ⟨own 11, "isAtRest", "(IIII)Z"⟩, ⟨own 11, "payOf", "(IIIII)I"⟩, ⟨own 11, "drawBelow", "(I)I"⟩, ⟨own 11, "passDrawnHour", "()V"⟩, ⟨own 12, "<init>", "()V"⟩, ⟨own 12, "thrown", "()I"⟩, ⟨own 12, "within", "(III)Z"⟩, ⟨own 12, "between", "(III)I"⟩, ⟨own 12, "bits", "(I)I"⟩, ⟨own 12, "feed", "(JJJ)I"⟩, ⟨own 12, "signAt", "(I)I"⟩, ⟨own 12, "nextToken", "()V"⟩, ⟨own 12, "isWord", "(J)Z"⟩, ⟨own 12, "isSign", "(I)Z"⟩, ⟨own 12, "fails", "(I)Z"⟩, ⟨own 12, "puts", "(I)V"⟩, ⟨own 12, "fact", "()I"⟩, ⟨own 12, "reads", "()Z"⟩, ⟨own 12, "opens", "(I)V"⟩, ⟨own 12, "sums", "(I)V"⟩, ⟨own 12, "tests", "(I)V"⟩, ⟨own 12, "worked", "(I)I"⟩, ⟨own 12, "isKept", "()Z"⟩, ⟨own 12, "streetNamed", "(I)I"⟩, ⟨own 12, "personNamed", "(I)I"⟩, ⟨own 12, "needsNumber", "(II)Z"⟩, ⟨own 12, "needsWord", "(J)Z"⟩, ⟨own 12, "closes", "()Z"⟩, ⟨own 12, "needsNew", "()Z"⟩, ⟨own 12, "needsStreet", "(I)Z"⟩, ⟨own 12, "needsPerson", "(I)Z"⟩, ⟨own 12, "needsTwo", "(ZI)Z"⟩, ⟨own 12, "isTwice", "(I)Z"⟩, ⟨own 12, "readsStreet", "()Z"⟩, ⟨own 12, "readsLane", "()Z"⟩, ⟨own 12, "readsPerson", "()Z"⟩, ⟨own 12, "readsKnows", "()Z"⟩, ⟨own 12, "readsOne", "(II)Z"⟩, ⟨own 12, "readsWinds", "()Z"⟩, ⟨own 12, "begins", "()V"⟩, ⟨own 12, "readsAll", "()Z"⟩, ⟨own 12, "shifts", "([II)V"⟩, ⟨own 12, "shiftsNames", "([JI)V"⟩, ⟨own 12, "lays", "()V"⟩, ⟨own 12, "copies", "([II[II)V"⟩, ⟨own 12, "readsLine", "()Z"⟩, ⟨own 12, "laysLines", "(II)V"⟩, ⟨own 12, "fresh", "()V"⟩, ⟨own 12, "forgets", "()V"⟩, ⟨own 12, "land", "()I"⟩, ⟨own 12, "week", "()I"⟩, ⟨own 12, "isStreet", "(I)Z"⟩, ⟨own 12, "isPerson", "(I)Z"⟩, ⟨own 12, "areTwo", "(II)Z"⟩, ⟨own 12, "together", "(II)I"⟩, ⟨own 12, "areStrangers", "(II)Z"⟩, ⟨own 12, "isSnapped", "(I)Z"⟩, ⟨own 12, "isSitting", "(I)Z"⟩, ⟨own 12, "sitting", "()I"⟩, ⟨own 12, "strangersOf", "(I)I"⟩, ⟨own 12, "canWalk", "(II)Z"⟩, ⟨own 12, "mightWind", "(II)Z"⟩, ⟨own 12, "canBeWound", "(I)Z"⟩, ⟨own 12, "crowdBeside", "(II)I"⟩, ⟨own 12, "windsBy", "(III)I"⟩, ⟨own 12, "winds", "(II)V"⟩, ⟨own 12, "windsIfLow", "(II)I"⟩, ⟨own 12, "passes", "()I"⟩, ⟨own 12, "mends", "(I)V"⟩, ⟨own 12, "person", "(II)I"⟩, ⟨own 12, "wound", "(II)I"⟩, ⟨own 12, "lanes", "(I)I"⟩, ⟨own 12, "gives", "(II)I"⟩, ⟨own 12, "keeps", "()V"⟩, ⟨own 12, "walk", "(II)Z"⟩, ⟨own 12, "wind", "(II)I"⟩, ⟨own 12, "mend", "(I)Z"⟩, ⟨own 12, "hour", "()I"⟩, ⟨own 12, "undo", "()Z"⟩, ⟨own 12, "goes", "(I)Z"⟩, ⟨own 12, "judged", "(I)I"⟩, ⟨own 12, "stops", "(I)I"⟩, ⟨own 12, "august", "()I"⟩, ⟨own 12, "plans", "(III)V"⟩, ⟨own 12, "plan", "(III)I"⟩, ⟨own 12, "stand", "(I)I"⟩, ⟨own 12, "nobodySits", "(III)Z"⟩, ⟨own 12, "canAllWalk", "(II)Z"⟩, ⟨own 12, "whereTo", "(II)I"⟩, ⟨own 12, "fewest", "(II)I"⟩, ⟨own 12, "tale", "(II)Z"⟩, ⟨own 12, "whoMight", "(I)I"⟩, ⟨own 12, "leftBy", "(II)I"⟩, ⟨own 12, "isAsTold", "(II)Z"⟩, ⟨own 12, "sets", "(II)I"⟩, ⟨own 12, "ask", "(I)I"⟩, ⟨own 12, "laneMany", "(I)I"⟩, ⟨own 12, "goesBetween", "(II)Z"⟩, ⟨own 12, "sharesOut", "(II)V"⟩, ⟨own 12, "meet", "(III)I"⟩, ⟨own 12, "engaged", "()I"⟩, ⟨own 12, "pairsFrom", "(III)V"⟩, ⟨own 12, "isRowAhead", "()Z"⟩, ⟨own 12, "pairs", "(I)I"⟩, ⟨own 12, "tinkers", "()I"⟩, ⟨own 12, "getsBy", "(IIIII)I"⟩, ⟨own 12, "rests", "(IIII)I"⟩, ⟨own 12, "draws", "(I)I"⟩, ⟨own 12, "livesHour", "()I"⟩, ⟨own 12, "years", "(III)I"⟩, ⟨own 12, "mark", "(IZ)Z"⟩, ⟨own 12, "sum", "(II)I"⟩, ⟨own 12, "talesMany", "()I"⟩, ⟨own 12, "count", "(I)I"⟩, ⟨own 16, "bitCount", "(I)I"⟩, ⟨own 13, "length", "()I"⟩, ⟨own 13, "charAt", "(I)C"⟩, ⟨own 13, "indexOf", "(I)I"⟩, ⟨own 13, "indexOf", "(II)I"⟩, ⟨own 13, "coder", "()B"⟩, ⟨own 13, "isLatin1", "()Z"⟩, ⟨own 13, "checkIndex", "(II)V"⟩, ⟨own 14, "charAt", "([BI)C"⟩, ⟨own 14, "canEncode", "(I)Z"⟩, ⟨own 14, "indexOf", "([BIII)I"⟩, ⟨own 14, "indexOfChar", "([BIII)I"⟩, ⟨own 18, "fill", "([II)V"⟩, ⟨own 15, "checkIndex", "(IILjava/util/function/BiFunction;)I"⟩, ⟨own 19, "law", "([I)Z"⟩]
def yy (m : Nat) : MethodName := yyt.getD m ⟨"", "", ""⟩
def mot : List Nat := [0, 0, 0, 0, 0, 0, 0, 0, 0, 0, 1, 1, 1, 1, 1, 1, 2, 2, 2, 3, 3, 3, 3, 4, 4, 4, 5, 5, 5, 5, 5, 5, 5, 5, 5, 5, 5, 5, 5, 6, 6, 6, 6, 7, 7, 7, 7, 7, 7, 7, 7, 7, 7, 7, 7, 7, 7, 7, 7, 7, 7, 7, 8, 8, 8, 8, 9, 9, 9, 9, 9, 9, 9, 9, 9, 9, 9, 9, 9, 9, 9, 9, 10, 10, 10, 11, 11, 11, 11, 11, 11, 11, 11, 11, 11, 11, 11, 11, 11, 11, 11, 11, 11, 11, 11, 11, 11, 11, 11, 11, 11, 11, 11, 11, 11, 11, 11, 11, 11, 11, 11, 11, 11, 11, 11, 11, 11, 11, 12, 12, 12, 12, 12, 12, 12, 12, 12, 12, 12, 12, 12, 12, 12, 12, 12, 12, 12, 12, 12, 12, 12, 12, 12, 12, 12, 12, 12, 12, 12, 12, 12, 12, 12, 12, 12, 12, 12, 12, 12, 12, 12, 12, 12, 12, 12, 12, 12, 12, 12, 12, 12, 12, 12, 12, 12, 12, 12, 12, 12, 12, 12, 12, 12, 12, 12, 12, 12, 12, 12, 12, 12, 12, 12, 12, 12, 12, 12, 12, 12, 12, 12, 12, 12, 12, 12, 12, 12, 12, 12, 12, 12, 12, 12, 12, 12, 12, 12, 12, 12, 12, 12, 12, 12, 12, 12, 12, 12, 12, 16, 13, 13, 13, 13, 13, 13, 13, 14, 14, 14, 14, 18, 15, 19]
def mo (m : Nat) : Nat := mot.getD m 0
def bbt : List ByteArray := [prog_2_method_1_code, prog_2_method_2_code, prog_2_method_3_code, prog_2_method_4_code, prog_2_method_5_code, prog_2_method_6_code, prog_2_method_7_code, prog_2_method_8_code, prog_2_method_9_code, prog_2_method_10_code, prog_3_method_1_code, prog_3_method_2_code, prog_3_method_3_code, prog_3_method_4_code, prog_3_method_5_code, prog_3_method_6_code, prog_4_method_1_code, prog_4_method_2_code, prog_4_method_3_code, prog_5_method_1_code, prog_5_method_2_code, prog_5_method_3_code, prog_5_method_4_code, prog_6_method_1_code, prog_6_method_2_code, prog_6_method_3_code, prog_7_method_1_code, prog_7_method_2_code, prog_7_method_3_code, prog_7_method_4_code, prog_7_method_5_code, prog_7_method_6_code, prog_7_method_7_code, prog_7_method_8_code, prog_7_method_9_code, prog_7_method_10_code, prog_7_method_11_code, prog_7_method_12_code, prog_7_method_13_code, prog_8_method_1_code, prog_8_method_2_code, prog_8_method_3_code, prog_8_method_4_code, prog_9_method_1_code, prog_9_method_2_code, prog_9_method_3_code, prog_9_method_4_code, prog_9_method_5_code, prog_9_method_6_code, prog_9_method_7_code, prog_9_method_8_code, prog_9_method_9_code, prog_9_method_10_code, prog_9_method_11_code, prog_9_method_12_code, prog_9_method_13_code, prog_9_method_14_code, prog_9_method_15_code, prog_9_method_16_code, prog_9_method_17_code, prog_9_method_18_code, prog_9_method_19_code, prog_10_method_1_code, prog_10_method_2_code, prog_10_method_3_code, prog_10_method_4_code, prog_11_method_1_code, prog_11_method_2_code, prog_11_method_3_code, prog_11_method_4_code, prog_11_method_5_code, prog_11_method_6_code, prog_11_method_7_code, prog_11_method_8_code, prog_11_method_9_code, prog_11_method_10_code, prog_11_method_11_code, prog_11_method_12_code, prog_11_method_13_code, prog_11_method_14_code, prog_11_method_15_code, prog_11_method_16_code, prog_12_method_1_code, prog_12_method_2_code, prog_12_method_3_code, prog_1_method_1_code, prog_1_method_2_code, prog_1_method_3_code, prog_1_method_4_code, prog_1_method_5_code, prog_1_method_6_code, prog_1_method_7_code, prog_1_method_8_code, prog_1_method_9_code, prog_1_method_10_code, prog_1_method_11_code, prog_1_method_12_code, prog_1_method_13_code, prog_1_method_14_code, prog_1_method_15_code, prog_1_method_16_code, prog_1_method_17_code, prog_1_method_18_code, prog_1_method_19_code, prog_1_method_20_code, prog_1_method_21_code, prog_1_method_22_code, prog_1_method_23_code, prog_1_method_24_code, prog_1_method_25_code, prog_1_method_26_code, prog_1_method_28_code, prog_1_method_29_code, prog_1_method_30_code, prog_1_method_31_code, prog_1_method_32_code, prog_1_method_33_code, prog_1_method_34_code, prog_1_method_35_code, prog_1_method_36_code, prog_1_method_37_code, prog_1_method_38_code, prog_1_method_39_code, prog_1_method_40_code, prog_1_method_41_code, prog_1_method_42_code, prog_1_method_43_code, prog_1_method_44_code, prog_14_method_1_code, prog_14_method_2_code, prog_14_method_3_code, prog_14_method_4_code, prog_14_method_5_code, prog_14_method_6_code, prog_14_method_7_code, prog_14_method_8_code, prog_14_method_9_code, prog_14_method_10_code, prog_14_method_11_code, prog_14_method_12_code, prog_14_method_13_code, prog_14_method_14_code, prog_14_method_15_code, prog_14_method_16_code, prog_14_method_17_code, prog_14_method_18_code, prog_14_method_19_code, prog_14_method_20_code, prog_14_method_21_code, prog_14_method_22_code, prog_14_method_23_code, prog_14_method_24_code, prog_14_method_25_code, prog_14_method_26_code, prog_14_method_27_code, prog_14_method_28_code, prog_14_method_29_code, prog_14_method_30_code, prog_14_method_31_code, prog_14_method_32_code, prog_14_method_33_code, prog_14_method_34_code, prog_14_method_35_code, prog_14_method_36_code, prog_14_method_37_code, prog_14_method_38_code, prog_14_method_39_code, prog_14_method_40_code, prog_14_method_41_code, prog_14_method_42_code, prog_14_method_43_code, prog_14_method_44_code, prog_14_method_45_code, prog_14_method_46_code, prog_14_method_47_code, prog_14_method_48_code, prog_14_method_49_code, prog_14_method_50_code, prog_14_method_51_code, prog_14_method_52_code, prog_14_method_53_code, prog_14_method_54_code, prog_14_method_55_code, prog_14_method_56_code, prog_14_method_57_code, prog_14_method_58_code, prog_14_method_59_code, prog_14_method_60_code, prog_14_method_61_code, prog_14_method_62_code, prog_14_method_63_code, prog_14_method_64_code, prog_14_method_65_code, prog_14_method_66_code, prog_14_method_67_code, prog_14_method_68_code, prog_14_method_69_code, prog_14_method_70_code, prog_14_method_71_code, prog_14_method_72_code, prog_14_method_73_code, prog_14_method_74_code, prog_14_method_75_code, prog_14_method_76_code, prog_14_method_77_code, prog_14_method_78_code, prog_14_method_79_code, prog_14_method_80_code, prog_14_method_81_code, prog_14_method_82_code, prog_14_method_83_code, prog_14_method_84_code, prog_14_method_85_code, prog_14_method_86_code, prog_14_method_87_code, prog_14_method_88_code, prog_14_method_89_code, prog_14_method_90_code, prog_14_method_91_code, prog_14_method_92_code, prog_14_method_93_code, prog_14_method_94_code, prog_14_method_95_code, prog_14_method_96_code, prog_14_method_97_code, prog_14_method_98_code, prog_14_method_99_code, prog_14_method_100_code, prog_14_method_101_code, prog_14_method_102_code, prog_14_method_103_code, prog_14_method_104_code, prog_14_method_105_code, prog_14_method_106_code, prog_14_method_107_code, prog_14_method_108_code, prog_14_method_109_code, prog_14_method_110_code, prog_20_method_49_code, prog_23_method_54_code, prog_23_method_56_code, prog_23_method_79_code, prog_23_method_80_code, prog_23_method_152_code, prog_23_method_154_code, prog_23_method_155_code, prog_24_method_2_code, prog_24_method_4_code, prog_24_method_22_code, prog_24_method_23_code, prog_30_method_103_code, prog_32_method_11_code, code]
def bb (m : Nat) : ByteArray := bbt.getD m code
def rrt : List (Option FieldType) := [none, none, none, none, (some .int), (some .int), none, (some .int), (some .int), (some .int), none, (some .boolean), (some .boolean), (some .boolean), (some .int), (some .int), none, none, none, none, none, none, (some .boolean), none, none, none, none, (some .int), (some .boolean), (some .boolean), (some .boolean), (some .boolean), (some .boolean), (some .boolean), (some .int), (some .boolean), (some .int), (some .boolean), (some .int), none, none, none, (some .int), none, none, none, (some .boolean), (some .boolean), (some .int), (some .int), (some .int), (some .boolean), (some .int), (some .int), (some .boolean), (some .boolean), (some .boolean), (some .int), (some .int), none, none, (some .int), none, none, (some .int), none, none, none, none, none, none, none, (some .boolean), (some .boolean), (some .boolean), (some .boolean), (some .boolean), (some .int), (some .boolean), (some .boolean), (some .boolean), (some .boolean), none, none, none, none, (some .int), (some .int), (some .int), (some .int), (some .int), (some .int), (some .int), (some .boolean), (some .int), (some .boolean), (some .int), (some .boolean), (some .int), (some .int), (some .int), (some .int), (some .int), (some .int), (some .boolean), (some .int), (some .int), (some .int), (some .int), (some .int), (some .int), (some .int), (some .boolean), (some .int), (some .boolean), (some .boolean), (some .boolean), (some .boolean), (some .boolean), (some .int), (some .boolean), (some .boolean), none, none, (some .boolean), (some .int), (some .int), none, none, (some .int), (some .boolean), (some .int), (some .int), (some .int), (some .int), none, (some .boolean), (some .boolean), (some .boolean), none, (some .int), (some .boolean), none, none, none, (some .int), (some .boolean), (some .int), (some .int), (some .boolean), (some .boolean), (some .boolean), (some .boolean), (some .boolean), (some .boolean), (some .boolean), (some .boolean), (some .boolean), (some .boolean), (some .boolean), (some .boolean), (some .boolean), (some .boolean), none, (some .boolean), none, none, none, none, (some .boolean), none, none, none, (some .int), (some .int), (some .boolean), (some .boolean), (some .boolean), (some .int), (some .boolean), (some .boolean), (some .boolean), (some .int), (some .int), (some .boolean), (some .boolean), (some .boolean), (some .int), (some .int), none, (some .int), (some .int), none, (some .int), (some .int), (some .int), (some .int), none, (some .boolean), (some .int), (some .boolean), (some .int), (some .boolean), (some .boolean), (some .int), (some .int), (some .int), none, (some .int), (some .int), (some .boolean), (some .boolean), (some .int), (some .int), (some .boolean), (some .int), (some .int), (some .boolean), (some .int), (some .int), (some .int), (some .boolean), none, (some .int), (some .int), none, (some .boolean), (some .int), (some .int), (some .int), (some .int), (some .int), (some .int), (some .int), (some .boolean), (some .int), (some .int), (some .int), (some .int), (some .int), (some .char), (some .int), (some .int), (some .byte), (some .boolean), none, (some .char), (some .boolean), (some .int), (some .int), none, (some .int), (some .boolean)]
def rr (m : Nat) : Option FieldType := rrt.getD m none
def npt : List Nat := [0, 0, 1, 1, 1, 1, 1, 4, 5, 3, 1, 1, 3, 2, 0, 1, 0, 2, 4, 0, 0, 1, 1, 0, 4, 3, 1, 1, 1, 1, 2, 1, 1, 1, 2, 2, 0, 1, 2, 0, 1, 1, 0, 0, 1, 1, 1, 1, 1, 1, 2, 3, 2, 3, 3, 3, 3, 3, 4, 3, 1, 1, 0, 4, 4, 1, 0, 1, 0, 0, 0, 0, 1, 1, 1, 1, 0, 0, 1, 1, 1, 2, 0, 3, 1, 0, 3, 0, 0, 2, 2, 1, 2, 2, 2, 1, 0, 0, 1, 1, 0, 3, 1, 2, 2, 2, 1, 3, 0, 1, 0, 3, 2, 1, 3, 1, 1, 2, 2, 2, 2, 1, 0, 2, 4, 5, 1, 0, 0, 0, 3, 3, 1, 3, 1, 0, 1, 1, 1, 1, 0, 0, 1, 1, 1, 1, 0, 1, 1, 2, 1, 0, 0, 1, 1, 2, 1, 0, 0, 0, 0, 2, 0, 0, 0, 2, 2, 0, 4, 0, 2, 0, 0, 0, 0, 1, 1, 2, 2, 2, 1, 1, 0, 1, 2, 2, 1, 2, 3, 2, 2, 0, 1, 2, 2, 1, 2, 0, 2, 2, 1, 0, 0, 1, 1, 1, 0, 3, 3, 1, 3, 2, 2, 2, 2, 1, 2, 2, 2, 1, 1, 2, 2, 3, 0, 3, 0, 1, 0, 5, 4, 1, 0, 3, 2, 2, 0, 1, 1, 0, 1, 1, 2, 0, 0, 2, 2, 1, 4, 4, 2, 3, 1]
def np (m : Nat) : Nat := npt.getD m 0
def mLaw : Nat := 252
def mAll : List Nat := [0, 1, 2, 3, 4, 5, 6, 7, 8, 9, 10, 11, 12, 13, 14, 15, 16, 17, 18, 19, 20, 21, 22, 23, 24, 25, 26, 27, 28, 29, 30, 31, 32, 33, 34, 35, 36, 37, 38, 39, 40, 41, 42, 43, 44, 45, 46, 47, 48, 49, 50, 51, 52, 53, 54, 55, 56, 57, 58, 59, 60, 61, 62, 63, 64, 65, 66, 67, 68, 69, 70, 71, 72, 73, 74, 75, 76, 77, 78, 79, 80, 81, 82, 83, 84, 85, 86, 87, 88, 89, 90, 91, 92, 93, 94, 95, 96, 97, 98, 99, 100, 101, 102, 103, 104, 105, 106, 107, 108, 109, 110, 111, 112, 113, 114, 115, 116, 117, 118, 119, 120, 121, 122, 123, 124, 125, 126, 127, 128, 129, 130, 131, 132, 133, 134, 135, 136, 137, 138, 139, 140, 141, 142, 143, 144, 145, 146, 147, 148, 149, 150, 151, 152, 153, 154, 155, 156, 157, 158, 159, 160, 161, 162, 163, 164, 165, 166, 167, 168, 169, 170, 171, 172, 173, 174, 175, 176, 177, 178, 179, 180, 181, 182, 183, 184, 185, 186, 187, 188, 189, 190, 191, 192, 193, 194, 195, 196, 197, 198, 199, 200, 201, 202, 203, 204, 205, 206, 207, 208, 209, 210, 211, 212, 213, 214, 215, 216, 217, 218, 219, 220, 221, 222, 223, 224, 225, 226, 227, 228, 229, 230, 231, 232, 233, 234, 235, 236, 237, 238, 239, 240, 241, 242, 243, 244, 245, 246, 247, 248, 249, 250, 251]
end
section
theorem code_in0 : ∀ w ∈ [0, 1, 2, 3, 4, 5].map (fun m => Cond.code (yy m) (bb m) (mx m) (rr m)), w ∈ wtb := tb_all _ [212, 534, 704, 722, 696, 700] (by decide +kernel) (by decide +kernel)
theorem code_in1 : ∀ w ∈ [6, 7, 8, 9, 10, 11].map (fun m => Cond.code (yy m) (bb m) (mx m) (rr m)), w ∈ wtb := tb_all _ [794, 908, 911, 914, 189, 761] (by decide +kernel) (by decide +kernel)
theorem code_in2 : ∀ w ∈ [12, 13, 14, 15, 16, 17].map (fun m => Cond.code (yy m) (bb m) (mx m) (rr m)), w ∈ wtb := tb_all _ [767, 771, 781, 798, 455, 1103] (by decide +kernel) (by decide +kernel)
theorem code_in3 : ∀ w ∈ [18, 19, 20, 21, 22, 23].map (fun m => Cond.code (yy m) (bb m) (mx m) (rr m)), w ∈ wtb := tb_all _ [1107, 384, 817, 929, 973, 406] (by decide +kernel) (by decide +kernel)
theorem code_in4 : ∀ w ∈ [24, 25, 26, 27, 28, 29].map (fun m => Cond.code (yy m) (bb m) (mx m) (rr m)), w ∈ wtb := tb_all _ [1009, 1015, 183, 530, 648, 678] (by decide +kernel) (by decide +kernel)
theorem code_in5 : ∀ w ∈ [30, 31, 32, 33, 34, 35].map (fun m => Cond.code (yy m) (bb m) (mx m) (rr m)), w ∈ wtb := tb_all _ [709, 718, 751, 756, 826, 830] (by decide +kernel) (by decide +kernel)
theorem code_in6 : ∀ w ∈ [36, 37, 38, 39, 40, 41].map (fun m => Cond.code (yy m) (bb m) (mx m) (rr m)), w ∈ wtb := tb_all _ [834, 687, 713, 316, 805, 1137] (by decide +kernel) (by decide +kernel)
theorem code_in7 : ∀ w ∈ [42, 43, 44, 45, 46, 47].map (fun m => Cond.code (yy m) (bb m) (mx m) (rr m)), w ∈ wtb := tb_all _ [1152, 322, 809, 933, 859, 863] (by decide +kernel) (by decide +kernel)
theorem code_in8 : ∀ w ∈ [48, 49, 50, 51, 52, 53].map (fun m => Cond.code (yy m) (bb m) (mx m) (rr m)), w ∈ wtb := tb_all _ [991, 1148, 876, 872, 868, 1026] (by decide +kernel) (by decide +kernel)
theorem code_in9 : ∀ w ∈ [54, 55, 56, 57, 58, 59].map (fun m => Cond.code (yy m) (bb m) (mx m) (rr m)), w ∈ wtb := tb_all _ [924, 986, 942, 904, 900, 946] (by decide +kernel) (by decide +kernel)
theorem code_in10 : ∀ w ∈ [60, 61, 62, 63, 64, 65].map (fun m => Cond.code (yy m) (bb m) (mx m) (rr m)), w ∈ wtb := tb_all _ [955, 963, 432, 1060, 1065, 1071] (by decide +kernel) (by decide +kernel)
theorem code_in11 : ∀ w ∈ [66, 67, 68, 69, 70, 71].map (fun m => Cond.code (yy m) (bb m) (mx m) (rr m)), w ∈ wtb := tb_all _ [144, 522, 538, 542, 549, 557] (by decide +kernel) (by decide +kernel)
theorem code_in12 : ∀ w ∈ [72, 73, 74, 75, 76, 77].map (fun m => Cond.code (yy m) (bb m) (mx m) (rr m)), w ∈ wtb := tb_all _ [545, 553, 653, 777, 691, 726] (by decide +kernel) (by decide +kernel)
theorem code_in13 : ∀ w ∈ [78, 79, 80, 81, 82, 83].map (fun m => Cond.code (yy m) (bb m) (mx m) (rr m)), w ∈ wtb := tb_all _ [682, 736, 789, 742, 291, 842] (by decide +kernel) (by decide +kernel)
theorem code_in14 : ∀ w ∈ [84, 85, 86, 87, 88, 89].map (fun m => Cond.code (yy m) (bb m) (mx m) (rr m)), w ∈ wtb := tb_all _ [846, 136, 518, 526, 822, 851] (by decide +kernel) (by decide +kernel)
theorem code_in15 : ∀ w ∈ [90, 91, 92, 93, 94, 95].map (fun m => Cond.code (yy m) (bb m) (mx m) (rr m)), w ∈ wtb := tb_all _ [880, 888, 896, 920, 938, 951] (by decide +kernel) (by decide +kernel)
theorem code_in16 : ∀ w ∈ [96, 97, 98, 99, 100, 101].map (fun m => Cond.code (yy m) (bb m) (mx m) (rr m)), w ∈ wtb := tb_all _ [959, 969, 977, 995, 1000, 1004] (by decide +kernel) (by decide +kernel)
theorem code_in17 : ∀ w ∈ [102, 103, 104, 105, 106, 107].map (fun m => Cond.code (yy m) (bb m) (mx m) (rr m)), w ∈ wtb := tb_all _ [1022, 1036, 1052, 1056, 1075, 1080] (by decide +kernel) (by decide +kernel)
theorem code_in18 : ∀ w ∈ [108, 109, 110, 111, 112, 113].map (fun m => Cond.code (yy m) (bb m) (mx m) (rr m)), w ∈ wtb := tb_all _ [1095, 1099, 1113, 1117, 1133, 1144] (by decide +kernel) (by decide +kernel)
theorem code_in19 : ∀ w ∈ [114, 115, 116, 117, 118, 119].map (fun m => Cond.code (yy m) (bb m) (mx m) (rr m)), w ∈ wtb := tb_all _ [745, 855, 892, 884, 982, 1040] (by decide +kernel) (by decide +kernel)
theorem code_in20 : ∀ w ∈ [120, 121, 122, 123, 124, 125].map (fun m => Cond.code (yy m) (bb m) (mx m) (rr m)), w ∈ wtb := tb_all _ [1048, 1044, 1086, 1090, 1224, 1227] (by decide +kernel) (by decide +kernel)
theorem code_in21 : ∀ w ∈ [126, 127, 128, 129, 130, 131].map (fun m => Cond.code (yy m) (bb m) (mx m) (rr m)), w ∈ wtb := tb_all _ [1125, 1121, 1232, 1424, 1538, 1667] (by decide +kernel) (by decide +kernel)
theorem code_in22 : ∀ w ∈ [132, 133, 134, 135, 136, 137].map (fun m => Cond.code (yy m) (bb m) (mx m) (rr m)), w ∈ wtb := tb_all _ [1765, 1428, 1449, 1445, 1456, 1507] (by decide +kernel) (by decide +kernel)
theorem code_in23 : ∀ w ∈ [138, 139, 140, 141, 142, 143].map (fun m => Cond.code (yy m) (bb m) (mx m) (rr m)), w ∈ wtb := tb_all _ [1464, 1570, 1562, 1558, 1656, 1660] (by decide +kernel) (by decide +kernel)
theorem code_in24 : ∀ w ∈ [144, 145, 146, 147, 148, 149].map (fun m => Cond.code (yy m) (bb m) (mx m) (rr m)), w ∈ wtb := tb_all _ [1664, 1652, 1472, 1495, 1499, 1535] (by decide +kernel) (by decide +kernel)
theorem code_in25 : ∀ w ∈ [150, 151, 152, 153, 154, 155].map (fun m => Cond.code (yy m) (bb m) (mx m) (rr m)), w ∈ wtb := tb_all _ [1531, 1503, 1468, 1519, 1523, 1515] (by decide +kernel) (by decide +kernel)
theorem code_in26 : ∀ w ∈ [156, 157, 158, 159, 160, 161].map (fun m => Cond.code (yy m) (bb m) (mx m) (rr m)), w ∈ wtb := tb_all _ [1550, 1460, 1511, 1527, 1542, 1546] (by decide +kernel) (by decide +kernel)
theorem code_in27 : ∀ w ∈ [162, 163, 164, 165, 166, 167].map (fun m => Cond.code (yy m) (bb m) (mx m) (rr m)), w ∈ wtb := tb_all _ [1554, 1441, 1437, 1577, 1580, 1574] (by decide +kernel) (by decide +kernel)
theorem code_in28 : ∀ w ∈ [168, 169, 170, 171, 172, 173].map (fun m => Cond.code (yy m) (bb m) (mx m) (rr m)), w ∈ wtb := tb_all _ [1682, 1588, 1592, 1237, 1241, 1433] (by decide +kernel) (by decide +kernel)
theorem code_in29 : ∀ w ∈ [174, 175, 176, 177, 178, 179].map (fun m => Cond.code (yy m) (bb m) (mx m) (rr m)), w ∈ wtb := tb_all _ [1584, 1636, 1600, 1628, 1620, 1616] (by decide +kernel) (by decide +kernel)
theorem code_in30 : ∀ w ∈ [180, 181, 182, 183, 184, 185].map (fun m => Cond.code (yy m) (bb m) (mx m) (rr m)), w ∈ wtb := tb_all _ [1608, 1604, 1734, 1612, 1675, 1690] (by decide +kernel) (by decide +kernel)
theorem code_in31 : ∀ w ∈ [186, 187, 188, 189, 190, 191].map (fun m => Cond.code (yy m) (bb m) (mx m) (rr m)), w ∈ wtb := tb_all _ [1694, 1648, 1644, 1698, 1718, 1714] (by decide +kernel) (by decide +kernel)
theorem code_in32 : ∀ w ∈ [192, 193, 194, 195, 196, 197].map (fun m => Cond.code (yy m) (bb m) (mx m) (rr m)), w ∈ wtb := tb_all _ [1706, 1596, 1624, 1632, 1640, 1679] (by decide +kernel) (by decide +kernel)
theorem code_in33 : ∀ w ∈ [198, 199, 200, 201, 202, 203].map (fun m => Cond.code (yy m) (bb m) (mx m) (rr m)), w ∈ wtb := tb_all _ [1671, 1686, 1702, 1710, 1722, 1730] (by decide +kernel) (by decide +kernel)
theorem code_in34 : ∀ w ∈ [204, 205, 206, 207, 208, 209].map (fun m => Cond.code (yy m) (bb m) (mx m) (rr m)), w ∈ wtb := tb_all _ [1726, 1738, 1742, 1750, 1746, 1754] (by decide +kernel) (by decide +kernel)
theorem code_in35 : ∀ w ∈ [210, 211, 212, 213, 214, 215].map (fun m => Cond.code (yy m) (bb m) (mx m) (rr m)), w ∈ wtb := tb_all _ [1762, 1773, 1769, 1758, 1777, 1785] (by decide +kernel) (by decide +kernel)
theorem code_in36 : ∀ w ∈ [216, 217, 218, 219, 220, 221].map (fun m => Cond.code (yy m) (bb m) (mx m) (rr m)), w ∈ wtb := tb_all _ [1793, 1789, 1781, 1797, 1812, 1816] (by decide +kernel) (by decide +kernel)
theorem code_in37 : ∀ w ∈ [222, 223, 224, 225, 226, 227].map (fun m => Cond.code (yy m) (bb m) (mx m) (rr m)), w ∈ wtb := tb_all _ [1808, 1803, 1820, 1828, 1832, 1824] (by decide +kernel) (by decide +kernel)
theorem code_in38 : ∀ w ∈ [228, 229, 230, 231, 232, 233].map (fun m => Cond.code (yy m) (bb m) (mx m) (rr m)), w ∈ wtb := tb_all _ [1836, 1843, 1840, 1855, 1851, 1847] (by decide +kernel) (by decide +kernel)
theorem code_in39 : ∀ w ∈ [234, 235, 236, 237, 238, 239].map (fun m => Cond.code (yy m) (bb m) (mx m) (rr m)), w ∈ wtb := tb_all _ [1863, 1871, 1875, 1867, 1029, 576] (by decide +kernel) (by decide +kernel)
theorem code_in40 : ∀ w ∈ [240, 241, 242, 243, 244, 245].map (fun m => Cond.code (yy m) (bb m) (mx m) (rr m)), w ∈ wtb := tb_all _ [658, 562, 566, 580, 570, 664] (by decide +kernel) (by decide +kernel)
theorem code_in41 : ∀ w ∈ [246, 247, 248, 249, 250, 251].map (fun m => Cond.code (yy m) (bb m) (mx m) (rr m)), w ∈ wtb := tb_all _ [661, 586, 583, 595, 362, 667] (by decide +kernel) (by decide +kernel)
set_option maxRecDepth 100000 in
theorem code_in : ∀ m ∈ mAll, Cond.code (yy m) (bb m) (mx m) (rr m) ∈ wtb := by
  intro m hm
  have hs : mAll = [0, 1, 2, 3, 4, 5] ++ ([6, 7, 8, 9, 10, 11] ++ ([12, 13, 14, 15, 16, 17] ++ ([18, 19, 20, 21, 22, 23] ++ ([24, 25, 26, 27, 28, 29] ++ ([30, 31, 32, 33, 34, 35] ++ ([36, 37, 38, 39, 40, 41] ++ ([42, 43, 44, 45, 46, 47] ++ ([48, 49, 50, 51, 52, 53] ++ ([54, 55, 56, 57, 58, 59] ++ ([60, 61, 62, 63, 64, 65] ++ ([66, 67, 68, 69, 70, 71] ++ ([72, 73, 74, 75, 76, 77] ++ ([78, 79, 80, 81, 82, 83] ++ ([84, 85, 86, 87, 88, 89] ++ ([90, 91, 92, 93, 94, 95] ++ ([96, 97, 98, 99, 100, 101] ++ ([102, 103, 104, 105, 106, 107] ++ ([108, 109, 110, 111, 112, 113] ++ ([114, 115, 116, 117, 118, 119] ++ ([120, 121, 122, 123, 124, 125] ++ ([126, 127, 128, 129, 130, 131] ++ ([132, 133, 134, 135, 136, 137] ++ ([138, 139, 140, 141, 142, 143] ++ ([144, 145, 146, 147, 148, 149] ++ ([150, 151, 152, 153, 154, 155] ++ ([156, 157, 158, 159, 160, 161] ++ ([162, 163, 164, 165, 166, 167] ++ ([168, 169, 170, 171, 172, 173] ++ ([174, 175, 176, 177, 178, 179] ++ ([180, 181, 182, 183, 184, 185] ++ ([186, 187, 188, 189, 190, 191] ++ ([192, 193, 194, 195, 196, 197] ++ ([198, 199, 200, 201, 202, 203] ++ ([204, 205, 206, 207, 208, 209] ++ ([210, 211, 212, 213, 214, 215] ++ ([216, 217, 218, 219, 220, 221] ++ ([222, 223, 224, 225, 226, 227] ++ ([228, 229, 230, 231, 232, 233] ++ ([234, 235, 236, 237, 238, 239] ++ ([240, 241, 242, 243, 244, 245] ++ ([246, 247, 248, 249, 250, 251]))))))))))))))))))))))))))))))))))))))))) := by decide +kernel
  rw [hs] at hm
  simp only [List.mem_append] at hm
  rcases hm with h | h | h | h | h | h | h | h | h | h | h | h | h | h | h | h | h | h | h | h | h | h | h | h | h | h | h | h | h | h | h | h | h | h | h | h | h | h | h | h | h | h
  · exact code_in0 _ (List.mem_map_of_mem h)
  · exact code_in1 _ (List.mem_map_of_mem h)
  · exact code_in2 _ (List.mem_map_of_mem h)
  · exact code_in3 _ (List.mem_map_of_mem h)
  · exact code_in4 _ (List.mem_map_of_mem h)
  · exact code_in5 _ (List.mem_map_of_mem h)
  · exact code_in6 _ (List.mem_map_of_mem h)
  · exact code_in7 _ (List.mem_map_of_mem h)
  · exact code_in8 _ (List.mem_map_of_mem h)
  · exact code_in9 _ (List.mem_map_of_mem h)
  · exact code_in10 _ (List.mem_map_of_mem h)
  · exact code_in11 _ (List.mem_map_of_mem h)
  · exact code_in12 _ (List.mem_map_of_mem h)
  · exact code_in13 _ (List.mem_map_of_mem h)
  · exact code_in14 _ (List.mem_map_of_mem h)
  · exact code_in15 _ (List.mem_map_of_mem h)
  · exact code_in16 _ (List.mem_map_of_mem h)
  · exact code_in17 _ (List.mem_map_of_mem h)
  · exact code_in18 _ (List.mem_map_of_mem h)
  · exact code_in19 _ (List.mem_map_of_mem h)
  · exact code_in20 _ (List.mem_map_of_mem h)
  · exact code_in21 _ (List.mem_map_of_mem h)
  · exact code_in22 _ (List.mem_map_of_mem h)
  · exact code_in23 _ (List.mem_map_of_mem h)
  · exact code_in24 _ (List.mem_map_of_mem h)
  · exact code_in25 _ (List.mem_map_of_mem h)
  · exact code_in26 _ (List.mem_map_of_mem h)
  · exact code_in27 _ (List.mem_map_of_mem h)
  · exact code_in28 _ (List.mem_map_of_mem h)
  · exact code_in29 _ (List.mem_map_of_mem h)
  · exact code_in30 _ (List.mem_map_of_mem h)
  · exact code_in31 _ (List.mem_map_of_mem h)
  · exact code_in32 _ (List.mem_map_of_mem h)
  · exact code_in33 _ (List.mem_map_of_mem h)
  · exact code_in34 _ (List.mem_map_of_mem h)
  · exact code_in35 _ (List.mem_map_of_mem h)
  · exact code_in36 _ (List.mem_map_of_mem h)
  · exact code_in37 _ (List.mem_map_of_mem h)
  · exact code_in38 _ (List.mem_map_of_mem h)
  · exact code_in39 _ (List.mem_map_of_mem h)
  · exact code_in40 _ (List.mem_map_of_mem h)
  · exact code_in41 _ (List.mem_map_of_mem h)
end
section
theorem init_in : ∀ w ∈ ownt.map (fun c => Cond.initialized c), w ∈ wtb := tb_all _ [110, 109, 118, 115, 116, 108, 112, 113, 117, 107, 111, 106, 119, 120, 121, 124, 127, 122, 114, 105] (by decide +kernel) (by decide +kernel)
theorem mm1 : (mAll.all fun m => plainName (yy m).cls) = true := by decide +kernel
theorem mm2 : (mAll.all fun m => decide ((yy m).cls ≠ "java/lang/invoke/MethodHandle" ∧ (yy m).cls ≠ "java/lang/invoke/VarHandle")) = true := by decide +kernel
theorem mm3 : (mAll.all fun m => decide ((parseMethodDescriptor (yy m).desc).map (fun d => d.parameters.length) = some (np m))) = true := by decide +kernel
theorem mm4 : (mAll.all fun m => decide ((yy m).cls = own (mo m))) = true := by decide +kernel
/-- links of fields: owner, place, kind, field -/
def flk : List (Nat × (Nat × (Nat × Nat))) := [(0, 9, 9, 0), (0, 15, 9, 1), (0, 19, 9, 2), (0, 22, 9, 3), (0, 25, 9, 4), (0, 28, 9, 5), (0, 31, 9, 6), (0, 34, 9, 7), (0, 37, 9, 8), (0, 40, 9, 11), (0, 44, 9, 12), (0, 47, 9, 9), (0, 50, 9, 10), (0, 53, 9, 13), (1, 9, 8, 0), (1, 15, 9, 13), (1, 63, 5, 2), (1, 66, 5, 5), (2, 9, 37, 0), (2, 15, 37, 1), (2, 18, 37, 2), (2, 26, 9, 10), (2, 37, 25, 0), (3, 11, 29, 0), (3, 18, 29, 2), (3, 22, 29, 1), (4, 9, 31, 1), (4, 15, 31, 2), (4, 20, 31, 0), (4, 29, 31, 3), (4, 39, 31, 4), (4, 46, 25, 1), (4, 55, 9, 9), (4, 60, 25, 0), (5, 9, 7, 0), (5, 20, 7, 1), (5, 29, 7, 2), (5, 33, 7, 3), (5, 41, 5, 2), (5, 53, 5, 7), (5, 97, 9, 9), (5, 106, 5, 6), (5, 114, 9, 1), (5, 118, 9, 6), (5, 125, 9, 10), (5, 131, 9, 3), (5, 142, 9, 4), (5, 151, 9, 5), (5, 154, 5, 5), (5, 157, 9, 11), (5, 159, 9, 12), (5, 161, 19, 3), (6, 12, 23, 0), (6, 21, 23, 1), (6, 25, 23, 2), (6, 39, 19, 3), (7, 9, 25, 0), (7, 15, 25, 1), (7, 18, 25, 2), (7, 21, 9, 4), (7, 32, 9, 5), (7, 41, 25, 3), (7, 45, 25, 4), (7, 48, 25, 5), (7, 51, 25, 6), (7, 58, 9, 10), (7, 64, 9, 6), (7, 71, 9, 11), (7, 78, 9, 3), (7, 81, 9, 1), (7, 107, 9, 12), (8, 9, 35, 0), (8, 15, 25, 0), (8, 30, 35, 1), (8, 34, 35, 2), (8, 37, 35, 3), (8, 48, 25, 1), (8, 55, 9, 10), (8, 64, 9, 12), (9, 9, 5, 0), (9, 15, 5, 1), (9, 19, 5, 4), (9, 22, 5, 7), (9, 28, 5, 3), (9, 31, 5, 2), (9, 55, 5, 5), (9, 58, 5, 6), (10, 9, 19, 0), (10, 15, 19, 1), (10, 18, 19, 2), (10, 21, 19, 3), (11, 10, 1, 0), (11, 21, 1, 1), (11, 28, 1, 2), (11, 32, 1, 3), (11, 38, 1, 4), (11, 45, 1, 5), (11, 49, 1, 6), (11, 56, 1, 7), (11, 63, 1, 8), (11, 70, 1, 9), (11, 77, 1, 10), (11, 84, 1, 11), (11, 88, 1, 12), (11, 92, 1, 13), (11, 99, 5, 1), (11, 114, 23, 3), (11, 122, 23, 1), (11, 133, 23, 0), (11, 136, 9, 3), (11, 139, 25, 0), (11, 142, 25, 1), (11, 159, 25, 2), (11, 165, 9, 1), (11, 199, 19, 3), (11, 202, 25, 6), (11, 214, 9, 10), (11, 225, 31, 3), (11, 228, 31, 2), (11, 231, 9, 9), (11, 248, 23, 2), (11, 254, 35, 1), (11, 257, 35, 2), (11, 260, 35, 3), (11, 263, 35, 0), (11, 284, 37, 2), (11, 287, 37, 1), (11, 295, 1, 14), (11, 302, 25, 5), (11, 308, 9, 11), (11, 311, 9, 12), (11, 314, 25, 4), (11, 317, 25, 3), (11, 327, 29, 2), (11, 330, 19, 1), (11, 333, 19, 2), (11, 336, 19, 0), (12, 7, 40, 2), (12, 13, 40, 10), (12, 16, 40, 11), (12, 20, 40, 12), (12, 23, 40, 13), (12, 26, 40, 14), (12, 29, 40, 15), (12, 32, 40, 16), (12, 35, 40, 17), (12, 38, 40, 18), (12, 41, 40, 19), (12, 44, 40, 20), (12, 47, 40, 23), (12, 50, 40, 24), (12, 54, 40, 25), (12, 57, 40, 26), (12, 60, 40, 27), (12, 63, 40, 28), (12, 66, 40, 29), (12, 69, 40, 30), (12, 72, 40, 31), (12, 75, 40, 32), (12, 78, 40, 33), (12, 81, 40, 34), (12, 84, 40, 38), (12, 87, 40, 39), (12, 90, 40, 40), (12, 93, 40, 41), (12, 96, 40, 42), (12, 99, 40, 43), (12, 102, 40, 44), (12, 105, 40, 45), (12, 108, 40, 46), (12, 111, 40, 47), (12, 114, 40, 48), (12, 117, 40, 51), (12, 120, 40, 52), (12, 123, 40, 54), (12, 126, 40, 55), (12, 129, 40, 56), (12, 138, 40, 0), (12, 144, 40, 1), (12, 147, 40, 3), (12, 150, 40, 4), (12, 153, 40, 5), (12, 156, 40, 7), (12, 160, 40, 8), (12, 163, 40, 6), (12, 174, 40, 9), (12, 177, 40, 21), (12, 263, 40, 35), (12, 276, 40, 36), (12, 284, 40, 37), (12, 287, 40, 22), (12, 348, 40, 49), (12, 387, 40, 50), (12, 433, 40, 53), (12, 479, 40, 57), (12, 492, 40, 58)]
def flC (x : Nat × (Nat × (Nat × Nat))) : Cond := match vwCl[(kt x.2.2.1).2.1]? with | some r => Cond.fieldLink (own x.1) x.2.1 (r.2.1 x.2.2.2).1 (r.2.1 x.2.2.2).2.1 (r.2.1 x.2.2.2).2.2.1 | none => Cond.tt
theorem flk_in : ∀ w ∈ flk.map flC, w ∈ wtb := tb_all _ [214, 215, 219, 220, 224, 227, 230, 233, 234, 245, 249, 235, 239, 255, 191, 254, 151, 155, 457, 458, 460, 240, 327, 389, 391, 390, 411, 412, 410, 414, 416, 331, 236, 326, 195, 196, 197, 198, 149, 159, 237, 157, 216, 231, 242, 222, 226, 229, 156, 246, 251, 301, 363, 365, 367, 300, 324, 329, 333, 225, 228, 335, 337, 339, 341, 243, 232, 247, 223, 218, 252, 434, 325, 436, 438, 440, 330, 241, 250, 146, 148, 153, 160, 152, 150, 154, 158, 293, 295, 297, 299, 469, 470, 471, 472, 473, 474, 475, 476, 477, 478, 479, 480, 481, 482, 147, 369, 366, 364, 221, 328, 332, 334, 217, 302, 342, 244, 415, 413, 238, 368, 437, 439, 441, 435, 461, 459, 483, 340, 248, 253, 338, 336, 392, 296, 298, 294, 1244, 1252, 1253, 1254, 1255, 1256, 1257, 1258, 1259, 1260, 1261, 1262, 1265, 1266, 1267, 1268, 1269, 1270, 1271, 1272, 1273, 1274, 1275, 1276, 1280, 1281, 1282, 1283, 1284, 1285, 1286, 1287, 1288, 1289, 1290, 1293, 1294, 1296, 1297, 1298, 1242, 1243, 1245, 1246, 1247, 1249, 1250, 1248, 1251, 1263, 1277, 1278, 1279, 1264, 1291, 1292, 1295, 1299, 1300] (by decide +kernel) (by decide +kernel)
/-- links of calls: owner, place, callee, style (0 virtual, 1 static, 2 a constructor, 3 and 4 by the nest) -/
def mlk : List (Nat × (Nat × (Nat × Nat))) := [(0, 56, 8, 1), (0, 60, 9, 1), (1, 21, 78, 0), (1, 27, 69, 0), (1, 30, 12, 0), (1, 34, 13, 0), (1, 38, 15, 0), (1, 42, 6, 0), (1, 48, 74, 0), (1, 52, 75, 0), (1, 56, 14, 0), (1, 60, 80, 0), (2, 22, 18, 0), (2, 42, 51, 0), (3, 17, 43, 3), (3, 25, 45, 0), (4, 24, 43, 3), (4, 25, 45, 0), (4, 42, 25, 0), (4, 63, 54, 0), (4, 67, 61, 0), (5, 17, 10, 2), (5, 24, 1, 0), (5, 36, 68, 0), (5, 45, 28, 0), (5, 49, 80, 0), (5, 58, 74, 0), (5, 62, 29, 0), (5, 67, 30, 0), (5, 73, 31, 0), (5, 80, 32, 0), (5, 85, 33, 0), (5, 90, 11, 0), (5, 93, 78, 0), (5, 100, 69, 0), (5, 103, 37, 0), (5, 110, 2, 0), (5, 121, 38, 0), (5, 128, 3, 0), (5, 133, 77, 0), (5, 139, 79, 0), (5, 147, 81, 0), (5, 166, 35, 0), (5, 170, 36, 0), (5, 173, 83, 0), (5, 185, 76, 0), (5, 189, 4, 0), (5, 193, 5, 0), (6, 11, 43, 3), (6, 20, 82, 3), (6, 29, 250, 1), (6, 35, 44, 0), (6, 43, 45, 0), (6, 47, 84, 0), (7, 35, 250, 1), (7, 54, 46, 0), (7, 61, 47, 0), (7, 67, 50, 0), (7, 74, 51, 0), (7, 84, 54, 0), (7, 87, 57, 0), (7, 91, 7, 0), (7, 103, 58, 0), (7, 110, 56, 0), (7, 113, 59, 0), (8, 20, 53, 0), (8, 24, 250, 1), (8, 40, 64, 1), (8, 44, 65, 0), (8, 51, 46, 0), (8, 60, 58, 0), (9, 25, 69, 0), (9, 34, 72, 1), (9, 38, 70, 0), (9, 41, 73, 1), (9, 44, 71, 0), (9, 49, 241, 0), (9, 64, 239, 0), (9, 67, 240, 0), (9, 75, 74, 0), (9, 85, 78, 0), (9, 89, 75, 0), (9, 92, 114, 4), (11, 9, 66, 3), (11, 18, 26, 2), (11, 27, 0, 2), (11, 37, 82, 3), (11, 44, 39, 2), (11, 55, 19, 2), (11, 62, 43, 3), (11, 69, 23, 2), (11, 76, 62, 3), (11, 83, 16, 3), (11, 95, 67, 0), (11, 103, 27, 0), (11, 107, 40, 0), (11, 111, 20, 0), (11, 118, 34, 0), (11, 125, 84, 0), (11, 129, 115, 0), (11, 145, 46, 0), (11, 148, 47, 0), (11, 151, 52, 0), (11, 155, 117, 0), (11, 162, 116, 0), (11, 168, 58, 0), (11, 172, 54, 0), (11, 176, 21, 0), (11, 180, 56, 0), (11, 183, 59, 0), (11, 187, 60, 0), (11, 191, 61, 0), (11, 194, 22, 0), (11, 198, 44, 0), (11, 205, 118, 0), (11, 209, 48, 0), (11, 212, 45, 0), (11, 217, 114, 1), (11, 221, 24, 0), (11, 234, 53, 0), (11, 238, 238, 1), (11, 244, 119, 0), (11, 251, 63, 0), (11, 271, 250, 1), (11, 278, 122, 0), (11, 281, 17, 0), (11, 299, 127, 0), (11, 305, 41, 0), (11, 320, 49, 0), (11, 323, 42, 0), (11, 339, 55, 0), (11, 342, 121, 0), (11, 345, 120, 0), (11, 348, 123, 0), (11, 358, 125, 1), (11, 370, 126, 0), (12, 132, 171, 0), (12, 135, 172, 0), (12, 166, 134, 0), (12, 188, 140, 0), (12, 194, 136, 0), (12, 198, 137, 0), (12, 202, 138, 0), (12, 205, 139, 0), (12, 209, 135, 0), (12, 216, 143, 0), (12, 219, 142, 0), (12, 222, 144, 0), (12, 259, 130, 1), (12, 266, 146, 0), (12, 270, 147, 0), (12, 273, 148, 0), (12, 278, 153, 0), (12, 281, 154, 0), (12, 290, 152, 0), (12, 293, 151, 0), (12, 296, 155, 0), (12, 300, 150, 0), (12, 303, 149, 0), (12, 307, 156, 0), (12, 310, 141, 0), (12, 313, 163, 0), (12, 316, 157, 0), (12, 319, 158, 0), (12, 322, 159, 0), (12, 325, 160, 0), (12, 328, 161, 0), (12, 331, 162, 0), (12, 334, 165, 1), (12, 338, 166, 1), (12, 342, 164, 0), (12, 345, 167, 0), (12, 351, 169, 0), (12, 354, 170, 0), (12, 358, 176, 0), (12, 361, 178, 0), (12, 365, 180, 0), (12, 368, 181, 0), (12, 371, 179, 0), (12, 374, 187, 0), (12, 377, 145, 0), (12, 380, 131, 1), (12, 384, 188, 0), (12, 390, 185, 0), (12, 393, 186, 0), (12, 396, 189, 0), (12, 399, 190, 0), (12, 402, 183, 0), (12, 405, 177, 0), (12, 408, 175, 0), (12, 411, 168, 1), (12, 415, 184, 0), (12, 418, 197, 0), (12, 421, 192, 0), (12, 424, 191, 0), (12, 427, 203, 0), (12, 430, 182, 0), (12, 436, 207, 0), (12, 440, 211, 0), (12, 443, 210, 0), (12, 446, 132, 1), (12, 449, 212, 0), (12, 452, 216, 0), (12, 455, 215, 0), (12, 458, 217, 0), (12, 461, 218, 0), (12, 469, 220, 0), (12, 472, 221, 0), (12, 476, 222, 0), (12, 482, 226, 0), (12, 485, 225, 0), (12, 488, 229, 1), (12, 503, 231, 0), (12, 506, 232, 0), (12, 509, 235, 0), (12, 511, 236, 0), (13, 335, 243, 0), (13, 492, 244, 0), (13, 495, 246, 1), (13, 505, 239, 0), (13, 633, 242, 0), (13, 637, 248, 1), (13, 1059, 251, 1), (14, 9, 245, 1), (14, 88, 247, 1), (14, 95, 249, 1), (19, 15, 85, 2), (19, 18, 128, 2), (19, 21, 86, 0), (19, 25, 133, 0), (19, 26, 87, 0), (19, 30, 173, 0), (19, 31, 88, 0), (19, 34, 174, 0), (19, 35, 89, 0), (19, 39, 193, 0), (19, 40, 90, 0), (19, 43, 194, 0), (19, 44, 91, 0), (19, 48, 195, 0), (19, 49, 92, 0), (19, 52, 196, 0), (19, 53, 93, 0), (19, 57, 198, 0), (19, 58, 94, 0), (19, 61, 199, 0), (19, 62, 95, 0), (19, 66, 200, 0), (19, 67, 96, 0), (19, 70, 201, 0), (19, 71, 97, 0), (19, 75, 202, 0), (19, 76, 98, 0), (19, 79, 204, 0), (19, 80, 99, 0), (19, 83, 205, 0), (19, 84, 100, 0), (19, 87, 206, 0), (19, 88, 101, 0), (19, 92, 208, 0), (19, 93, 102, 0), (19, 96, 209, 0), (19, 97, 103, 0), (19, 100, 213, 0), (19, 101, 104, 0), (19, 104, 214, 0), (19, 105, 105, 0), (19, 108, 218, 0), (19, 109, 106, 0), (19, 112, 219, 0), (19, 113, 107, 0), (19, 116, 223, 0), (19, 117, 108, 0), (19, 120, 224, 0), (19, 121, 109, 0), (19, 124, 227, 0), (19, 125, 110, 0), (19, 128, 228, 0), (19, 134, 230, 0), (19, 135, 129, 0), (19, 138, 111, 0), (19, 141, 233, 0), (19, 142, 112, 0), (19, 146, 234, 0), (19, 147, 113, 0), (19, 150, 237, 0)]
theorem mlk_in : ∀ w ∈ (mlk.filter fun x => decide (x.2.2.2 < 3)).map (fun x => Cond.methodLink (own x.1) x.2.1 (yy x.2.2.1)), w ∈ wtb := tb_all _ [909, 912, 762, 763, 764, 768, 795, 791, 773, 774, 778, 786, 1104, 1109, 930, 1010, 1012, 1017, 1018, 187, 531, 535, 645, 801, 650, 675, 706, 715, 748, 753, 758, 679, 683, 684, 701, 710, 719, 723, 733, 739, 827, 831, 839, 688, 693, 697, 360, 806, 1138, 1139, 813, 864, 925, 873, 869, 987, 901, 905, 947, 964, 965, 1061, 1062, 1063, 1068, 1066, 1067, 539, 543, 546, 551, 554, 559, 654, 655, 728, 737, 790, 181, 210, 314, 382, 404, 519, 527, 802, 814, 823, 843, 852, 856, 860, 865, 881, 889, 897, 921, 926, 939, 943, 952, 960, 970, 978, 979, 988, 996, 1005, 1006, 1023, 1027, 1037, 1057, 1081, 1083, 1100, 1118, 1134, 1145, 1149, 983, 1041, 1045, 1087, 1225, 1122, 1234, 1238, 1446, 1559, 1453, 1504, 1461, 1567, 1442, 1657, 1653, 1661, 1536, 1469, 1492, 1496, 1516, 1520, 1465, 1500, 1512, 1528, 1532, 1547, 1555, 1438, 1457, 1508, 1524, 1539, 1543, 1551, 1575, 1578, 1434, 1571, 1585, 1589, 1597, 1617, 1605, 1601, 1613, 1645, 1649, 1665, 1641, 1687, 1691, 1695, 1715, 1609, 1625, 1633, 1680, 1672, 1676, 1703, 1711, 1727, 1731, 1747, 1770, 1759, 1763, 1766, 1790, 1782, 1786, 1798, 1809, 1813, 1805, 1829, 1825, 1841, 1852, 1848, 1868, 1872, 577, 567, 659, 573, 563, 581, 665, 662, 584, 593, 134, 1230, 515, 1425, 523, 1430, 819, 1581, 848, 1593, 877, 1621, 885, 1629, 893, 1637, 917, 1668, 935, 1683, 948, 1699, 956, 1707, 966, 1719, 974, 1723, 992, 1735, 997, 1739, 1001, 1743, 1019, 1751, 1033, 1755, 1049, 1774, 1053, 1778, 1072, 1794, 1077, 1800, 1092, 1817, 1096, 1821, 1110, 1833, 1837, 1421, 1114, 1844, 1130, 1860, 1141, 1864] (by decide +kernel) (by decide +kernel)
def mInst : List Nat := [0, 1, 2, 3, 4, 5, 6, 7, 10, 11, 12, 13, 14, 15, 16, 17, 18, 19, 20, 21, 22, 23, 24, 25, 26, 27, 28, 29, 30, 31, 32, 33, 34, 35, 36, 37, 38, 39, 40, 41, 42, 43, 44, 45, 46, 47, 48, 49, 50, 51, 52, 53, 54, 55, 56, 57, 58, 59, 60, 61, 62, 63, 65, 66, 67, 68, 69, 70, 71, 74, 75, 76, 77, 78, 79, 80, 81, 82, 83, 84, 85, 86, 87, 88, 89, 90, 91, 92, 93, 94, 95, 96, 97, 98, 99, 100, 101, 102, 103, 104, 105, 106, 107, 108, 109, 110, 111, 112, 113, 115, 116, 117, 118, 119, 120, 121, 122, 123, 126, 127, 128, 129, 133, 134, 135, 136, 137, 138, 139, 140, 141, 142, 143, 144, 145, 146, 147, 148, 149, 150, 151, 152, 153, 154, 155, 156, 157, 158, 159, 160, 161, 162, 163, 164, 167, 169, 170, 171, 172, 173, 174, 175, 176, 177, 178, 179, 180, 181, 182, 183, 184, 185, 186, 187, 188, 189, 190, 191, 192, 193, 194, 195, 196, 197, 198, 199, 200, 201, 202, 203, 204, 205, 206, 207, 208, 209, 210, 211, 212, 213, 214, 215, 216, 217, 218, 219, 220, 221, 222, 223, 224, 225, 226, 227, 228, 230, 231, 232, 233, 234, 235, 236, 237, 239, 240, 241, 242, 243, 244]
theorem inst_in : ∀ w ∈ mInst.map (fun m => Cond.instanceMethod (yy m)), w ∈ wtb := tb_all _ [211, 532, 702, 720, 694, 698, 792, 906, 188, 759, 766, 770, 780, 797, 454, 1101, 1106, 383, 815, 927, 971, 405, 1007, 1014, 182, 528, 647, 677, 708, 717, 750, 755, 824, 829, 833, 686, 712, 315, 803, 1135, 1150, 321, 807, 931, 857, 861, 989, 1146, 875, 870, 866, 1024, 922, 984, 940, 903, 898, 944, 953, 961, 431, 1058, 1070, 143, 520, 536, 540, 548, 556, 651, 775, 689, 724, 680, 734, 787, 740, 290, 840, 844, 135, 516, 524, 820, 849, 878, 886, 894, 918, 936, 949, 957, 967, 975, 993, 998, 1002, 1020, 1034, 1050, 1054, 1073, 1078, 1093, 1097, 1111, 1115, 1131, 1142, 854, 891, 883, 981, 1039, 1047, 1043, 1085, 1089, 1124, 1120, 1231, 1422, 1426, 1448, 1444, 1455, 1506, 1463, 1569, 1561, 1557, 1655, 1659, 1663, 1651, 1471, 1494, 1498, 1534, 1530, 1502, 1467, 1518, 1522, 1514, 1549, 1459, 1510, 1526, 1541, 1545, 1553, 1440, 1436, 1573, 1587, 1591, 1236, 1240, 1431, 1582, 1635, 1599, 1627, 1619, 1615, 1607, 1603, 1733, 1611, 1674, 1689, 1693, 1647, 1643, 1697, 1717, 1713, 1705, 1594, 1622, 1630, 1638, 1678, 1669, 1684, 1700, 1708, 1720, 1729, 1724, 1736, 1740, 1749, 1744, 1752, 1761, 1772, 1768, 1756, 1775, 1784, 1792, 1788, 1779, 1795, 1811, 1815, 1807, 1801, 1818, 1827, 1831, 1822, 1834, 1838, 1854, 1850, 1845, 1861, 1870, 1874, 1865, 574, 656, 560, 564, 578, 568] (by decide +kernel) (by decide +kernel)
def mStat : List Nat := [8, 9, 64, 72, 73, 114, 125, 130, 131, 132, 165, 166, 168, 229, 238, 245, 246, 247, 248, 249, 250, 251]
theorem stat_in : ∀ w ∈ mStat.map (fun m => Cond.static (yy m)), w ∈ wtb := tb_all _ [910, 913, 1064, 544, 552, 744, 1226, 1537, 1666, 1764, 1576, 1579, 1681, 1842, 1028, 663, 660, 585, 582, 594, 361, 666] (by decide +kernel) (by decide +kernel)
def mVirt : List Nat := [1, 2, 3, 4, 5, 6, 7, 11, 12, 13, 14, 15, 17, 18, 20, 21, 22, 24, 25, 27, 28, 29, 30, 31, 32, 33, 34, 35, 36, 37, 38, 40, 41, 42, 44, 45, 46, 47, 48, 49, 50, 51, 52, 53, 54, 55, 56, 57, 58, 59, 60, 61, 63, 65, 67, 68, 69, 70, 71, 74, 75, 76, 77, 78, 79, 80, 81, 83, 84, 86, 87, 88, 89, 90, 91, 92, 93, 94, 95, 96, 97, 98, 99, 100, 101, 102, 103, 104, 105, 106, 107, 108, 109, 110, 111, 112, 113, 115, 116, 117, 118, 119, 120, 121, 122, 123, 126, 127, 129, 133, 134, 135, 136, 137, 138, 139, 140, 141, 142, 143, 144, 145, 146, 147, 148, 149, 150, 151, 152, 153, 154, 155, 156, 157, 158, 159, 160, 161, 162, 163, 164, 167, 169, 170, 171, 172, 173, 174, 175, 176, 177, 178, 179, 180, 181, 182, 183, 184, 185, 186, 187, 188, 189, 190, 191, 192, 193, 194, 195, 196, 197, 198, 199, 200, 201, 202, 203, 204, 205, 206, 207, 208, 209, 210, 211, 212, 213, 214, 215, 216, 217, 218, 219, 220, 221, 222, 223, 224, 225, 226, 227, 228, 230, 231, 232, 233, 234, 235, 236, 237, 239, 240, 241, 242, 243, 244]
theorem virt_in : ∀ w ∈ mVirt.map (fun m => Cond.selects (yy m).cls (yy m) (yy m)), w ∈ wtb := tb_all _ [533, 703, 721, 695, 699, 793, 907, 760, 10, 11, 12, 13, 1102, 29, 816, 928, 972, 1008, 22, 529, 2, 3, 5, 7, 8, 9, 825, 14, 15, 4, 6, 804, 1136, 1151, 808, 932, 858, 862, 990, 1147, 17, 871, 867, 1025, 923, 985, 941, 20, 899, 945, 954, 962, 1059, 26, 521, 537, 541, 0, 1, 652, 776, 690, 725, 681, 735, 788, 741, 841, 845, 517, 525, 821, 850, 879, 887, 895, 919, 937, 950, 958, 968, 976, 994, 999, 1003, 1021, 1035, 1051, 1055, 1074, 1079, 1094, 1098, 1112, 1116, 1132, 1143, 16, 19, 18, 21, 23, 25, 24, 27, 28, 31, 30, 1423, 1427, 38, 37, 39, 47, 41, 61, 60, 59, 76, 77, 78, 75, 43, 44, 45, 54, 53, 46, 42, 50, 51, 49, 57, 40, 48, 52, 55, 56, 58, 36, 35, 62, 63, 64, 33, 34, 1432, 1583, 72, 65, 71, 70, 69, 67, 66, 88, 68, 79, 81, 82, 74, 73, 83, 86, 85, 84, 1595, 1623, 1631, 1639, 80, 1670, 1685, 1701, 1709, 1721, 87, 1725, 1737, 1741, 89, 1745, 1753, 90, 92, 91, 1757, 1776, 93, 95, 94, 1780, 1796, 97, 98, 96, 1802, 1819, 99, 100, 1823, 1835, 1839, 102, 101, 1846, 1862, 103, 104, 1866, 575, 657, 561, 565, 579, 569] (by decide +kernel) (by decide +kernel)
theorem mlk_ok : (mlk.all fun x => decide (x.2.2.1 ∈ mAll ∧ (x.2.2.2 = 0 → x.2.2.1 ∈ mVirt ∧ x.2.2.1 ∈ mInst) ∧ (x.2.2.2 = 1 → x.2.2.1 ∈ mStat) ∧ (x.2.2.2 = 2 → x.2.2.1 ∈ mInst ∧ (yy x.2.2.1).name = "<init>" ∧ rr x.2.2.1 = none) ∧ (x.2.2.2 = 3 → x.2.2.1 ∈ mInst ∧ (yy x.2.2.1).name = "<init>" ∧ rr x.2.2.1 = none) ∧ (x.2.2.2 = 4 → x.2.2.1 ∈ mStat) ∧ x.2.2.2 < 5)) = true := by decide +kernel
/-- links of classes: owner, place, kind -/
def clk : List (Nat × (Nat × Nat)) := [(3, 9, 25), (4, 18, 25), (5, 15, 8), (6, 9, 25), (6, 18, 19), (11, 7, 5), (11, 16, 7), (11, 25, 9), (11, 35, 19), (11, 42, 23), (11, 53, 29), (11, 60, 25), (11, 67, 31), (11, 74, 35), (11, 81, 37), (19, 8, 1), (19, 16, 40)]
def clN (k : Nat) : String := match vwCl[(kt k).2.1]? with | some r => r.1 | none => ""
theorem clk_in : ∀ w ∈ clk.map (fun x => Cond.classLink (own x.1) x.2.1 (clN x.2.2)), w ∈ wtb := tb_all _ [386, 408, 185, 318, 358, 140, 179, 208, 287, 312, 380, 400, 402, 428, 451, 132, 1228] (by decide +kernel) (by decide +kernel)
theorem inst2_in : ∀ w ∈ vwCl.map (fun r => Cond.instantiable r.1 r.2.2), w ∈ wtb := tb_all _ [209, 186, 452, 381, 403, 180, 313, 319, 429, 141, 288, 133, 1229] (by decide +kernel) (by decide +kernel)
theorem arr_in : ∀ w ∈ [Cond.arrayClass .int, Cond.arrayClass .char, Cond.arrayClass .boolean, Cond.arrayClass .long], w ∈ wtb := tb_all _ [286, 178, 1420, 285] (by decide +kernel) (by decide +kernel)
def cik : List (Nat × (Nat × Int32)) := [(11, 277, 1000000), (12, 475, 1000000), (16, 265, 1431655765), (16, 266, 858993459), (16, 267, 252645135)]
theorem cik_in : ∀ w ∈ cik.map (fun x => Cond.constant (own x.1) x.2.1 x.2.2), w ∈ wtb := tb_all _ [1082, 1804, 1030, 1031, 1032] (by decide +kernel) (by decide +kernel)
def clk2 : List (Nat × (Nat × Int64)) := [(9, 62, 32), (11, 362, 1103515245), (11, 364, 12345), (11, 366, 2147483647), (11, 368, 65536), (12, 142, 255), (12, 170, 27), (12, 172, 96), (12, 180, 148870), (12, 182, 10801946), (12, 184, 9632), (12, 186, 1960177), (12, 192, 10631), (12, 212, 1111), (12, 214, 423), (12, 225, 283616147), (12, 227, 237308), (12, 229, 232608281), (12, 231, 47), (12, 233, 240023), (12, 235, 6132988), (12, 237, 385331), (12, 239, 384226), (12, 241, 12410623), (12, 243, 453773), (12, 245, 459652), (12, 247, 259906), (12, 249, 168984), (12, 251, 8740238), (12, 253, 117812495), (12, 255, 82410), (12, 257, 14432), (12, 495, 1103515245), (12, 497, 12345), (12, 499, 2147483648), (12, 501, 65536), (19, 19, 4294967295)]
theorem clk2_in : ∀ w ∈ clk2.map (fun x => Cond.constantLong (own x.1) x.2.1 x.2.2), w ∈ wtb := tb_all _ [550, 1126, 1127, 1128, 1129, 1429, 1450, 1451, 1563, 1564, 1565, 1566, 1489, 1490, 1491, 1452, 1473, 1474, 1475, 1476, 1477, 1478, 1479, 1480, 1481, 1482, 1483, 1484, 1485, 1486, 1487, 1488, 1856, 1857, 1858, 1859, 1876] (by decide +kernel) (by decide +kernel)
def sfk : List Cond := [Cond.fieldLink "java/lang/String" 9 "java/lang/String" "value" "[B", Cond.fieldLink "java/lang/String" 15 "java/lang/String" "coder" "B", Cond.fieldLink "java/lang/String" 38 "java/lang/String" "COMPACT_STRINGS" "Z", Cond.fieldLink "java/lang/String" 1053 "jdk/internal/util/Preconditions" "SIOOBE_FORMATTER" "Ljava/util/function/BiFunction;"]
theorem sfk_in : ∀ w ∈ sfk, w ∈ wtb := tb_all _ [1895, 1894, 571, 614] (by decide +kernel) (by decide +kernel)
def obk : List (Nat × Nat) := [(0, 3), (1, 3), (2, 3), (3, 3), (4, 3), (5, 3), (6, 3), (7, 3), (8, 3), (9, 3), (10, 3), (11, 1), (12, 1)]
theorem obk_in : ∀ w ∈ obk.map (fun x => Cond.methodLink (own x.1) x.2 objectInit), w ∈ wtb := tb_all _ [213, 190, 456, 385, 407, 184, 317, 323, 433, 145, 292, 137, 1233] (by decide +kernel) (by decide +kernel)
theorem obi_in : ∀ w ∈ [Cond.instanceMethod objectInit, Cond.code objectInit ⟨#[0xb1]⟩ 1 none], w ∈ wtb := tb_all _ [138, 139] (by decide +kernel) (by decide +kernel)
def ack : List (Nat × Nat) := [(2, 31), (4, 49), (6, 50), (7, 26), (10, 25), (11, 352)]
theorem ack_in : ∀ w ∈ ack.map (fun x => Cond.methodLink (own x.1) x.2 arraycopyName), w ∈ wtb := tb_all _ [1108, 1016, 1140, 810, 847, 1091] (by decide +kernel) (by decide +kernel)
theorem aci_in : ∀ w ∈ [Cond.static arraycopyName, Cond.initialized "java/lang/System"], w ∈ wtb := tb_all _ [811, 126] (by decide +kernel) (by decide +kernel)
theorem acn_in : Cond.native arraycopyName ∈ lw_tbl := List.mem_of_getElem? (i := 812) (by decide +kernel)
def nek : List (Nat × (Nat × Nat)) := [(3, 17, 43), (4, 24, 43), (6, 11, 43), (6, 20, 82), (9, 92, 114), (11, 9, 66), (11, 37, 82), (11, 62, 43), (11, 76, 62), (11, 83, 16)]
theorem nek_in : ∀ w ∈ nek.map (fun x => Cond.methodLinkNest (own x.1) x.2.1 (yy x.2.2) "StrangeWinding"), w ∈ lw_tbl := by
  have h : nek.map (fun x => Cond.methodLinkNest (own x.1) x.2.1 (yy x.2.2) "StrangeWinding") = [388, 409, 320, 359, 743, 142, 289, 401, 430, 453].filterMap (fun i => lw_tbl[i]?) := by decide +kernel
  rw [h]
  intro w hw
  obtain ⟨i, -, hi⟩ := List.mem_filterMap.mp hw
  exact List.mem_of_getElem? hi
def mk_max : List (Nat × Nat) := [(7, 100), (11, 266), (12, 464), (14, 92)]
theorem mk_max_in : ∀ w ∈ mk_max.map (fun x => Cond.methodLink (own x.1) x.2 Lib.Math.max.name), w ∈ wtb := tb_all _ [916, 1076, 1799, 587] (by decide +kernel) (by decide +kernel)
theorem mk_max_w : ∀ w ∈ [Cond.static Lib.Math.max.name, Cond.initialized "java/lang/Math", Cond.code Lib.Math.max.name Lib.Math.max.code 2 (some .int)], w ∈ wtb := tb_all _ [588, 122, 589] (by decide +kernel) (by decide +kernel)
def mk_min : List (Nat × Nat) := [(3, 29), (4, 33), (7, 95), (14, 38)]
theorem mk_min_in : ∀ w ∈ mk_min.map (fun x => Cond.methodLink (own x.1) x.2 Lib.Math.min.name), w ∈ wtb := tb_all _ [934, 1011, 915, 590] (by decide +kernel) (by decide +kernel)
theorem mk_min_w : ∀ w ∈ [Cond.static Lib.Math.min.name, Cond.initialized "java/lang/Math", Cond.code Lib.Math.min.name Lib.Math.min.code 2 (some .int)], w ∈ wtb := tb_all _ [591, 122, 592] (by decide +kernel) (by decide +kernel)
end
section
/-! THE PLAIN MACHINE'S RUN: heap steps, calls, returns; 'Tm' says that a run from here ends so. -/
def zF (F : FT) (k n : Nat) : FT := fun k' n' i' => if k' = k ∧ n' = n then 0 else F k' n' i'
def zG (G : GT) (k n : Nat) : GT := fun k' n' i' => if k' = k ∧ n' = n then 0 else G k' n' i'
def zR (R : RT) (k n : Nat) : RT := fun k' n' i' => if k' = k ∧ n' = n then none else R k' n' i'
def uC (c : Nat → Nat) (k v : Nat) : Nat → Nat := fun j => if j = k then v else c j
def alc (k : Nat) (h : HS) : Option HS :=
  if cord[h.1.1]? = some (k, h.1.2 k) then some ((h.1.1 + 1, uC h.1.2 k (h.1.2 k + 1)), zF h.2.1 k (h.1.2 k), zG h.2.2.1 k (h.1.2 k), zR h.2.2.2 k (h.1.2 k)) else none
/-- the bytes of a text constant -/
def sby (n : Nat) : List Int32 := sbyt.getD n []
/-- the number of cells of a kind -/
abbrev hc (h : HS) (k : Nat) : Nat := h.1.2 k
/-- reads of a field: what comes -/
def gfd (h : HS) (K j k n : Nat) : Option PV :=
  if K = 90 then (if k = 90 ∧ n < 26 then (if j = 0 then some (.inr (.inr (91, n))) else some (.inl 0)) else none)
  else if k = K ∧ n < h.1.2 k then
    match (kt K).1, (kt K).2.2[j]? with
    | 0, some (0, _) => some (.inl (h.2.1 k n j))
    | 0, some (3, _) => some (.inl (h.2.1 k n j))
    | 0, some (1, _) => some (.inr (.inl (h.2.2.1 k n j)))
    | 0, some (2, rk) => match h.2.2.2 k n j with
      | some m => some (.inr (.inr (rk, m)))
      | none => none
    | _, _ => none
  else none
def pfd (h : HS) (K j k n : Nat) (v : PV) : Option HS :=
  if k = K ∧ n < h.1.2 k then
    match (kt K).1, (kt K).2.2[j]?, v with
    | 0, some (0, _), .inl x => some (h.1, uF h.2.1 k n j x, h.2.2.1, h.2.2.2)
    | 0, some (3, _), .inl x => if x = 0 ∨ x = 1 then some (h.1, uF h.2.1 k n j x, h.2.2.1, h.2.2.2) else none
    | 0, some (1, _), .inr (.inl x) => some (h.1, h.2.1, uG h.2.2.1 k n j x, h.2.2.2)
    | 0, some (2, rk), .inr (.inr (k2, m)) => if k2 = rk ∧ m < h.1.2 rk then some (h.1, h.2.1, h.2.2.1, uR h.2.2.2 k n j (some m)) else none
    | _, _, _ => none
  else none
/-- reads of a row -/
def ald (Ls : Nat) (xs : Nat → Int32) (h : HS) (a k n : Nat) (i : Int32) : Option PV :=
  if k = 0 then (if a = 1 ∧ n = 0 ∧ inb i Ls = true then some (.inl (xs i.toNatClampNeg)) else none)
  else if k = 91 then (if a = 3 ∧ n < 26 ∧ inb i (sby n).length = true then some (.inl ((sby n).getD i.toNatClampNeg 0)) else none)
  else if (kt k).1 = a ∧ n < h.1.2 k ∧ inb i (kt k).2.1 = true then
    match a with
    | 1 => some (.inl (h.2.1 k n i.toNatClampNeg))
    | 2 => some (.inl (h.2.1 k n i.toNatClampNeg))
    | 3 => some (.inl (h.2.1 k n i.toNatClampNeg))
    | 4 => some (.inr (.inl (h.2.2.1 k n i.toNatClampNeg)))
    | 5 => match h.2.2.2 k n i.toNatClampNeg, (kt k).2.2 with
      | some m, [(_, rk)] => some (.inr (.inr (rk, m)))
      | _, _ => none
    | _ => none
  else none
def ast (h : HS) (a k n : Nat) (i : Int32) (v : PV) : Option HS :=
  if (kt k).1 = a ∧ n < h.1.2 k ∧ inb i (kt k).2.1 = true then
    match a, v with
    | 1, .inl x => some (h.1, uF h.2.1 k n i.toNatClampNeg x, h.2.2.1, h.2.2.2)
    | 2, .inl x => some (h.1, uF h.2.1 k n i.toNatClampNeg (vp_nar .char x), h.2.2.1, h.2.2.2)
    | 3, .inl x => if x = 0 ∨ x = 1 then some (h.1, uF h.2.1 k n i.toNatClampNeg x, h.2.2.1, h.2.2.2) else none
    | 4, .inr (.inl x) => some (h.1, h.2.1, uG h.2.2.1 k n i.toNatClampNeg x, h.2.2.2)
    | 5, .inr (.inr (k2, m)) => match (kt k).2.2 with
      | [(_, rk)] => if k2 = rk ∧ m < h.1.2 rk then some (h.1, h.2.1, h.2.2.1, uR h.2.2.2 k n i.toNatClampNeg (some m)) else none
      | _ => none
    | _, _ => none
  else none
def aln (Ls : Nat) (h : HS) (k n : Nat) : Option Int32 :=
  if k = 0 then (if n = 0 then some (Int32.ofNat Ls) else none)
  else if k = 91 then (if n < 26 then some (Int32.ofNat (sby n).length) else none)
  else if 1 ≤ (kt k).1 ∧ (kt k).1 ≤ 5 ∧ n < h.1.2 k then some (Int32.ofNat (kt k).2.1) else none
/-- rows of ints copied, one row to another -/
def cpa (h : HS) (k2 n2 : Nat) (sp : Int32) (k n : Nat) (dp m : Int32) : Option HS :=
  if (kt k2).1 = 1 ∧ (kt k).1 = 1 ∧ n2 < h.1.2 k2 ∧ n < h.1.2 k ∧ 0 ≤ sp ∧ 0 ≤ dp ∧ 0 ≤ m ∧ sp.toNatClampNeg + m.toNatClampNeg ≤ (kt k2).2.1 ∧ dp.toNatClampNeg + m.toNatClampNeg ≤ (kt k).2.1 then
    some (h.1, cF h.2.1 k n dp.toNatClampNeg k2 n2 sp.toNatClampNeg m.toNatClampNeg, h.2.2.1, h.2.2.2)
  else none
def catP (v : PV) : Nat := if isW v = true then 2 else 1
def hst (Ls : Nat) (xs : Nat → Int32) (op a b q : Nat) (st : List PV) (h : HS) : Option (Nat × (List PV × HS)) :=
  match op with
  | 29 => match st with
    | .inr (.inr (k, n)) :: r => (gfd h a b k n).map fun v => (q, v :: r, h)
    | _ => none
  | 30 => match st with
    | v :: .inr (.inr (k, n)) :: r => (pfd h a b k n v).map fun h1 => (q, r, h1)
    | _ => none
  | 31 => match st with
    | .inl i :: .inr (.inr (k, n)) :: r => (ald Ls xs h a k n i).map fun v => (q, v :: r, h)
    | _ => none
  | 32 => match st with
    | v :: .inl i :: .inr (.inr (k, n)) :: r => (ast h a k n i v).map fun h1 => (q, r, h1)
    | _ => none
  | 33 => match st with
    | .inr (.inr (k, n)) :: r => (aln Ls h k n).map fun v => (q, .inl v :: r, h)
    | _ => none
  | 38 => match st with
    | .inl x :: r => match tswt[a]? with
      | some (lo, ts, df) => some (if x.toInt < lo then df else (ts[(x.toInt - lo).toNat]?).getD df, r, h)
      | none => none
    | _ => none
  | 39 => if (kt a).1 = 0 then (alc a h).map fun h1 => (q, .inr (.inr (a, h.1.2 a)) :: st, h1) else none
  | 40 => match st with
    | .inl x :: r => if 1 ≤ (kt a).1 ∧ (kt a).1 ≤ 4 ∧ x = Int32.ofNat (kt a).2.1 then (alc a h).map fun h1 => (q, .inr (.inr (a, h.1.2 a)) :: r, h1) else none
    | _ => none
  | 41 => match st with
    | .inl x :: r => if (kt a).1 = 5 ∧ x = Int32.ofNat (kt a).2.1 then (alc a h).map fun h1 => (q, .inr (.inr (a, h.1.2 a)) :: r, h1) else none
    | _ => none
  | 44 => match st with
    | .inr (.inr (k, n)) :: r => if k < 90 ∧ (r.map catP).sum ≤ 8 then some (q, r, h) else none
    | _ => none
  | 46 => match st with
    | .inl m :: .inl dp :: .inr (.inr (k, n)) :: .inl sp :: .inr (.inr (k2, n2)) :: r => if (r.map catP).sum ≤ 8 then (cpa h k2 n2 sp k n dp m).map fun h1 => (q, r, h1) else none
    | _ => none
  | 47 => match st with
    | .inl y :: .inl x :: r => if (r.map catP).sum ≤ 8 then some (q, .inl (if x < y then y else x) :: r, h) else none
    | _ => none
  | 48 => match st with
    | .inl y :: .inl x :: r => if (r.map catP).sum ≤ 8 then some (q, .inl (if y < x then y else x) :: r, h) else none
    | _ => none
  | _ => none
def entG : List PV → LL
  | [] => []
  | .inr (.inl x) :: r => some (.inr (.inl x)) :: none :: entG r
  | v :: r => some v :: entG r
/-- the locals at a method's entry -/
def entL (m : Nat) (args : List PV) : LL := entG args ++ List.replicate (mx m - (entG args).length) none
/-- an answer of the kind that its method tells -/
def okr (a : Nat) (x : Int32) : Bool := match a with
  | 1 => true
  | 2 => decide (x = 0 ∨ x = 1)
  | 3 => decide ((x.toUInt32 % 65536).toInt32 = x)
  | 4 => decide (x.toInt8.toInt32 = x)
  | _ => false
/-- the receiver is of the kind that is called -/
def recv (z : PV) (b : Nat) (h : HS) (as : List PV) : Bool := match z with
  | .inr (.inr (K, _)) => match as with
    | .inr (.inr (k, n)) :: _ => decide (k = K ∧ n < (if K = 90 then 26 else h.1.2 k))
    | _ => false
  | _ => true
/-- what a method of another kind does: its answer, the heap behind it -/
abbrev Orc : Type := List PV → HS → Option (Option PV × HS)
def exec (Ls : Nat) (xs : Nat → Int32) (orc : Orc) : Nat → Nat → Nat → Nat → LL → List PV → HS → Option (Option PV × HS)
  | 0, _, _, _, _, _, _ => none
  | f + 1, d, m, pc, L, st, h => match cod m pc with
    | none => none
    | some (op, a, b, z, q) =>
      if op < 29 then match pst op a b z q L st with
        | some (q1, L1, st1) => exec Ls xs orc f d m q1 L1 st1 h
        | none => none
      else if op = 34 then match d with
        | 0 => none
        | d1 + 1 =>
          if b ≤ st.length ∧ ((st.drop b).map catP).sum ≤ 8 ∧ (entG (st.take b).reverse).length ≤ mx a ∧ recv z b h (st.take b).reverse = true then
            match exec Ls xs orc f d1 a 0 (entL a (st.take b).reverse) [] h with
            | some (r, h1) => exec Ls xs orc f (d1 + 1) m q L (r.toList ++ st.drop b) h1
            | none => none
          else none
      else if op = 45 then match d with
        | 0 => none
        | d1 + 1 => if b ≤ st.length ∧ ((st.drop b).map catP).sum ≤ 8 then match orc (st.take b).reverse h with
          | some (r, h1) => exec Ls xs orc f (d1 + 1) m q L (r.toList ++ st.drop b) h1
          | none => none
        else none
      else if op = 35 then match st with
        | [] => some (none, h)
        | _ => none
      else if op = 36 then match st with
        | [.inl x] => if okr a x = true then some (some (.inl x), h) else none
        | _ => none
      else if 44 ≤ op ∧ d = 0 then none
      else match hst Ls xs op a b q st h with
        | some (q1, st1, h1) => exec Ls xs orc f d m q1 L st1 h1
        | none => none
end
section
/-! SOUNDNESS I: the steps that touch no heap (written by wip/whole/gen05.py) -/
/-- where the script lies; where the cells begin; the classes; the arrays' classes; text constants and their bytes; a reference of which nothing is said -/
abbrev CX : Type := Nat × (Nat × (va_G × ((Nat → ClassId) × ((Nat → Nat) × ((Nat → Nat) × Value)))))
abbrev xb (X : CX) : Nat := X.1
abbrev xz (X : CX) : Nat := X.2.1
abbrev xD (X : CX) : va_G := X.2.2.1
abbrev xc (X : CX) : Nat → ClassId := X.2.2.2.1
abbrev xK (X : CX) : Nat → Nat := X.2.2.2.2.1
abbrev xV (X : CX) : Nat → Nat := X.2.2.2.2.2.1
abbrev xo (X : CX) : Value := X.2.2.2.2.2.2
def pos (k n : Nat) : Nat := cord.idxOf (k, n)
def trv (X : CX) : PV → Value
  | .inl x => .int x
  | .inr (.inl x) => .long x
  | .inr (.inr (k, n)) => if k = 0 then .ref (xb X) else if k = 90 then .ref (xK X n) else if k = 91 then .ref (xV X n) else if k = 99 then xo X else .ref (xz X + pos k n)
def prL (X : CX) : Nat → LL → List (Nat × Value)
  | _, [] => []
  | i, none :: r => prL X (i + 1) r
  | i, some v :: r => (i, trv X v) :: prL X (i + 1) r
theorem prL_mem {X : CX} {i : Nat} {w : Value} : ∀ (o : Nat) (L : LL), (i, w) ∈ prL X o L ↔ ∃ j v, L[j]? = some (some v) ∧ i = o + j ∧ w = trv X v
  | o, [] => by simp [prL]
  | o, none :: r => by
    simp only [prL]
    rw [prL_mem (o + 1) r]
    constructor
    · rintro ⟨j, v, h1, h2, h3⟩
      exact ⟨j + 1, v, by simpa using h1, by omega, h3⟩
    · rintro ⟨j, v, h1, h2, h3⟩
      cases j with
      | zero => simp at h1
      | succ j => exact ⟨j, v, by simpa using h1, by omega, h3⟩
  | o, some u :: r => by
    simp only [prL, List.mem_cons]
    rw [prL_mem (o + 1) r]
    constructor
    · rintro (h | ⟨j, v, h1, h2, h3⟩)
      · cases h
        exact ⟨0, u, by simp, by omega, rfl⟩
      · exact ⟨j + 1, v, by simpa using h1, by omega, h3⟩
    · rintro ⟨j, v, h1, h2, h3⟩
      cases j with
      | zero =>
        simp at h1
        subst h1
        left
        rw [h2, h3]
        simp
      | succ j => exact Or.inr ⟨j, v, by simpa using h1, by omega, h3⟩
def hasL (X : CX) (ls : Array Slot) (nL : Nat) (L : LL) : Prop := L.length = nL ∧ lv_has ls nL (prL X 0 L)
theorem hasL.at {X : CX} {ls : Array Slot} {nL : Nat} {L : LL} (h : hasL X ls nL L) {i : Nat} {v : PV} (e : L[i]? = some (some v)) : ls[i]? = some (.val (trv X v)) :=
  h.2.2.2 (i, trv X v) ((prL_mem 0 L).mpr ⟨i, v, e, by omega, rfl⟩)
theorem hasL.idx {X : CX} {ls : Array Slot} {nL : Nat} {L : LL} (h : hasL X ls nL L) {i : Nat} {v : PV} (e : L[i]? = some (some v)) : ∃ k : Nat, (prL X 0 L)[k]? = some (i, trv X v) :=
  List.mem_iff_getElem?.mp ((prL_mem 0 L).mpr ⟨i, v, e, by omega, rfl⟩)
theorem trv_cat {X : CX} (hX : (xo X).category = 1) {v : PV} (h : isL (some v) = false) : (trv X v).category = 1 := by
  match v with
  | .inl x => rfl
  | .inr (.inl x) => simp [isL] at h
  | .inr (.inr (k, n)) =>
    simp only [trv]
    split
    · rfl
    · split
      · rfl
      · split
        · rfl
        · split
          · exact hX
          · rfl
theorem isW_L (v : PV) : isL (some v) = isW v := by
  match v with
  | .inl x => rfl
  | .inr (.inl x) => rfl
  | .inr (.inr x) => rfl
theorem clr_len (L : LL) (i : Nat) : (clr L i).length = L.length := by
  cases i with
  | zero => rfl
  | succ j => simp only [clr]; split <;> simp
theorem clr_at {L : LL} {i j : Nat} {w : PV} (h : (clr L i)[j]? = some (some w)) : L[j]? = some (some w) ∧ (j + 1 = i → isL (some w) = false) := by
  cases i with
  | zero => exact ⟨h, fun e => by omega⟩
  | succ k =>
    simp only [clr] at h
    by_cases hk : isL (L.getD k none) = true
    · rw [if_pos hk] at h
      by_cases hjk : k = j
      · subst hjk
        rw [List.getElem?_set_self'] at h
        cases hq : L[k]? with
        | none => rw [hq] at h; cases h
        | some x => rw [hq] at h; cases h
      · rw [List.getElem?_set_ne hjk] at h
        exact ⟨h, fun e => by omega⟩
    · rw [if_neg hk] at h
      refine ⟨h, fun e => ?_⟩
      have e2 : j = k := by omega
      subst e2
      have h3 : L.getD j none = some w := by simp [List.getD, h]
      rw [h3] at hk
      simpa using hk
theorem hasL.s1 {X : CX} (hX : (xo X).category = 1) {ls ls' : Array Slot} {nL : Nat} {L : LL} (h : hasL X ls nL L) {i : Nat} {v : PV} (h' : lv_has ls' nL ((i, trv X v) :: (prL X 0 L).filter (fun q => !(q.1 == i) && !(q.1 + 1 == i && q.2.category == 2)))) : hasL X ls' nL (lset1 L i v) := by
  refine ⟨by simp [lset1, clr_len, h.1], h'.1, h'.2.1, ?_⟩
  rintro ⟨j, w⟩ hq
  obtain ⟨j', u, h1, h2, rfl⟩ := (prL_mem 0 _).mp hq
  have h2 : j = j' := by omega
  subst h2
  refine h'.2.2 (j, trv X u) ?_
  unfold lset1 at h1
  by_cases hij : i = j
  · subst hij
    rw [List.getElem?_set_self'] at h1
    cases hq : (clr L i)[i]? with
    | none => rw [hq] at h1; cases h1
    | some x =>
      rw [hq] at h1
      cases h1
      exact List.mem_cons_self
  · rw [List.getElem?_set_ne hij] at h1
    obtain ⟨h3, h4⟩ := clr_at h1
    refine List.mem_cons_of_mem _ (List.mem_filter.mpr ⟨(prL_mem 0 L).mpr ⟨j, u, h3, by omega, rfl⟩, ?_⟩)
    simp only [Bool.and_eq_true, Bool.not_eq_true', beq_eq_false_iff_ne, Bool.and_eq_false_imp, beq_iff_eq]
    refine ⟨fun e => hij e.symm, fun e => ?_⟩
    rw [trv_cat hX (h4 e)]
    decide
theorem hasL.s2 {X : CX} (hX : (xo X).category = 1) {ls ls' : Array Slot} {nL : Nat} {L : LL} (h : hasL X ls nL L) {i : Nat} {v : PV} (h' : lv_has ls' nL ((i, trv X v) :: (prL X 0 L).filter (fun q => !(q.1 == i) && (!(q.1 == i + 1) && !(q.1 + 1 == i && q.2.category == 2))))) : hasL X ls' nL (lset2 L i v) := by
  refine ⟨by simp [lset2, clr_len, h.1], h'.1, h'.2.1, ?_⟩
  rintro ⟨j, w⟩ hq
  obtain ⟨j', u, h1, h2, rfl⟩ := (prL_mem 0 _).mp hq
  have h2 : j = j' := by omega
  subst h2
  refine h'.2.2 (j, trv X u) ?_
  unfold lset2 at h1
  by_cases hi1 : i + 1 = j
  · subst hi1
    rw [List.getElem?_set_self'] at h1
    cases hq : ((clr L i).set i (some v))[i + 1]? with
    | none => rw [hq] at h1; cases h1
    | some x => rw [hq] at h1; cases h1
  · rw [List.getElem?_set_ne hi1] at h1
    by_cases hij : i = j
    · subst hij
      rw [List.getElem?_set_self'] at h1
      cases hq : (clr L i)[i]? with
      | none => rw [hq] at h1; cases h1
      | some x =>
        rw [hq] at h1
        cases h1
        exact List.mem_cons_self
    · rw [List.getElem?_set_ne hij] at h1
      obtain ⟨h3, h4⟩ := clr_at h1
      refine List.mem_cons_of_mem _ (List.mem_filter.mpr ⟨(prL_mem 0 L).mpr ⟨j, u, h3, by omega, rfl⟩, ?_⟩)
      simp only [Bool.and_eq_true, Bool.not_eq_true', beq_eq_false_iff_ne, Bool.and_eq_false_imp, beq_iff_eq]
      refine ⟨fun e => hij e.symm, fun e => hi1 e.symm, fun e => ?_⟩
      rw [trv_cat hX (h4 e)]
      decide

/-- an entry fits an instruction that needs no word of the tables -/
def agp (pc : Nat) (ins : Instr) (len op a b : Nat) (z : PV) (q : Nat) : Prop := match ins with
  | .iconst n => op = 0 ∧ len = 1 ∧ q = pc + 1 ∧ z = .inl (Int32.ofInt n)
  | .bipush n => op = 0 ∧ len = 2 ∧ q = pc + 2 ∧ z = .inl ((Int8.ofInt n).toInt32)
  | .sipush n => op = 0 ∧ len = 3 ∧ q = pc + 3 ∧ z = .inl ((Int16.ofInt n).toInt32)
  | .lconst n => op = 0 ∧ len = 1 ∧ q = pc + 1 ∧ z = .inr (.inl (Int64.ofNat (n : Nat)))
  | .iload_n k => op = 2 ∧ len = 1 ∧ q = pc + 1 ∧ a = (k : Nat)
  | .iload k => op = 2 ∧ len = 2 ∧ q = pc + 2 ∧ a = k
  | .lload_n k => op = 3 ∧ len = 1 ∧ q = pc + 1 ∧ a = (k : Nat)
  | .lload k => op = 3 ∧ len = 2 ∧ q = pc + 2 ∧ a = k
  | .aload_n k => op = 4 ∧ len = 1 ∧ q = pc + 1 ∧ a = (k : Nat)
  | .aload k => op = 4 ∧ len = 2 ∧ q = pc + 2 ∧ a = k
  | .astore_n k => op = 7 ∧ len = 1 ∧ q = pc + 1 ∧ a = (k : Nat)
  | .astore k => op = 7 ∧ len = 2 ∧ q = pc + 2 ∧ a = k
  | .istore_n k => op = 5 ∧ len = 1 ∧ q = pc + 1 ∧ a = (k : Nat)
  | .istore k => op = 5 ∧ len = 2 ∧ q = pc + 2 ∧ a = k
  | .lstore_n k => op = 6 ∧ len = 1 ∧ q = pc + 1 ∧ a = (k : Nat)
  | .lstore k => op = 6 ∧ len = 2 ∧ q = pc + 2 ∧ a = k
  | .iinc k n => op = 8 ∧ len = 3 ∧ q = pc + 3 ∧ a = k ∧ z = .inl (Int32.ofInt n)
  | .iadd => op = 9 ∧ len = 1 ∧ q = pc + 1 ∧ a = 0
  | .isub => op = 9 ∧ len = 1 ∧ q = pc + 1 ∧ a = 1
  | .imul => op = 9 ∧ len = 1 ∧ q = pc + 1 ∧ a = 2
  | .iand => op = 9 ∧ len = 1 ∧ q = pc + 1 ∧ a = 3
  | .ior => op = 9 ∧ len = 1 ∧ q = pc + 1 ∧ a = 4
  | .ixor => op = 9 ∧ len = 1 ∧ q = pc + 1 ∧ a = 5
  | .ishl => op = 9 ∧ len = 1 ∧ q = pc + 1 ∧ a = 6
  | .ishr => op = 9 ∧ len = 1 ∧ q = pc + 1 ∧ a = 7
  | .iushr => op = 9 ∧ len = 1 ∧ q = pc + 1 ∧ a = 8
  | .idiv => op = 10 ∧ len = 1 ∧ q = pc + 1
  | .irem => op = 11 ∧ len = 1 ∧ q = pc + 1
  | .ineg => op = 12 ∧ len = 1 ∧ q = pc + 1
  | .ladd => op = 13 ∧ len = 1 ∧ q = pc + 1 ∧ a = 0
  | .lsub => op = 13 ∧ len = 1 ∧ q = pc + 1 ∧ a = 1
  | .lmul => op = 13 ∧ len = 1 ∧ q = pc + 1 ∧ a = 2
  | .land => op = 13 ∧ len = 1 ∧ q = pc + 1 ∧ a = 3
  | .lor => op = 13 ∧ len = 1 ∧ q = pc + 1 ∧ a = 4
  | .lshl => op = 14 ∧ len = 1 ∧ q = pc + 1
  | .lushr => op = 15 ∧ len = 1 ∧ q = pc + 1
  | .ldiv => op = 16 ∧ len = 1 ∧ q = pc + 1
  | .lrem => op = 17 ∧ len = 1 ∧ q = pc + 1
  | .lcmp => op = 18 ∧ len = 1 ∧ q = pc + 1
  | .i2l => op = 19 ∧ len = 1 ∧ q = pc + 1
  | .l2i => op = 20 ∧ len = 1 ∧ q = pc + 1
  | .i2c => op = 21 ∧ len = 1 ∧ q = pc + 1
  | .i2b => op = 22 ∧ len = 1 ∧ q = pc + 1
  | .dup => op = 23 ∧ len = 1 ∧ q = pc + 1
  | .dup2 => op = 24 ∧ len = 1 ∧ q = pc + 1
  | .pop => op = 25 ∧ len = 1 ∧ q = pc + 1
  | .goto off => op = 26 ∧ len = 3 ∧ (pc : Int) + off = (a : Int)
  | .ifCond .eq off => op = 27 ∧ len = 3 ∧ q = pc + 3 ∧ a = 0 ∧ (pc : Int) + off = (b : Int)
  | .ifCond .ne off => op = 27 ∧ len = 3 ∧ q = pc + 3 ∧ a = 1 ∧ (pc : Int) + off = (b : Int)
  | .ifCond .lt off => op = 27 ∧ len = 3 ∧ q = pc + 3 ∧ a = 2 ∧ (pc : Int) + off = (b : Int)
  | .ifCond .ge off => op = 27 ∧ len = 3 ∧ q = pc + 3 ∧ a = 3 ∧ (pc : Int) + off = (b : Int)
  | .ifCond .gt off => op = 27 ∧ len = 3 ∧ q = pc + 3 ∧ a = 4 ∧ (pc : Int) + off = (b : Int)
  | .ifCond .le off => op = 27 ∧ len = 3 ∧ q = pc + 3 ∧ a = 5 ∧ (pc : Int) + off = (b : Int)
  | .if_icmp .eq off => op = 28 ∧ len = 3 ∧ q = pc + 3 ∧ a = 0 ∧ (pc : Int) + off = (b : Int)
  | .if_icmp .ne off => op = 28 ∧ len = 3 ∧ q = pc + 3 ∧ a = 1 ∧ (pc : Int) + off = (b : Int)
  | .if_icmp .lt off => op = 28 ∧ len = 3 ∧ q = pc + 3 ∧ a = 2 ∧ (pc : Int) + off = (b : Int)
  | .if_icmp .ge off => op = 28 ∧ len = 3 ∧ q = pc + 3 ∧ a = 3 ∧ (pc : Int) + off = (b : Int)
  | .if_icmp .gt off => op = 28 ∧ len = 3 ∧ q = pc + 3 ∧ a = 4 ∧ (pc : Int) + off = (b : Int)
  | .if_icmp .le off => op = 28 ∧ len = 3 ∧ q = pc + 3 ∧ a = 5 ∧ (pc : Int) + off = (b : Int)
  | _ => False
def agb (pc : Nat) (ins : Instr) (len op a b : Nat) (z : PV) (q : Nat) : Bool := match ins with
  | .iconst n => decide (op = 0 ∧ len = 1 ∧ q = pc + 1 ∧ z = .inl (Int32.ofInt n))
  | .bipush n => decide (op = 0 ∧ len = 2 ∧ q = pc + 2 ∧ z = .inl ((Int8.ofInt n).toInt32))
  | .sipush n => decide (op = 0 ∧ len = 3 ∧ q = pc + 3 ∧ z = .inl ((Int16.ofInt n).toInt32))
  | .lconst n => decide (op = 0 ∧ len = 1 ∧ q = pc + 1 ∧ z = .inr (.inl (Int64.ofNat (n : Nat))))
  | .iload_n k => decide (op = 2 ∧ len = 1 ∧ q = pc + 1 ∧ a = (k : Nat))
  | .iload k => decide (op = 2 ∧ len = 2 ∧ q = pc + 2 ∧ a = k)
  | .lload_n k => decide (op = 3 ∧ len = 1 ∧ q = pc + 1 ∧ a = (k : Nat))
  | .lload k => decide (op = 3 ∧ len = 2 ∧ q = pc + 2 ∧ a = k)
  | .aload_n k => decide (op = 4 ∧ len = 1 ∧ q = pc + 1 ∧ a = (k : Nat))
  | .aload k => decide (op = 4 ∧ len = 2 ∧ q = pc + 2 ∧ a = k)
  | .astore_n k => decide (op = 7 ∧ len = 1 ∧ q = pc + 1 ∧ a = (k : Nat))
  | .astore k => decide (op = 7 ∧ len = 2 ∧ q = pc + 2 ∧ a = k)
  | .istore_n k => decide (op = 5 ∧ len = 1 ∧ q = pc + 1 ∧ a = (k : Nat))
  | .istore k => decide (op = 5 ∧ len = 2 ∧ q = pc + 2 ∧ a = k)
  | .lstore_n k => decide (op = 6 ∧ len = 1 ∧ q = pc + 1 ∧ a = (k : Nat))
  | .lstore k => decide (op = 6 ∧ len = 2 ∧ q = pc + 2 ∧ a = k)
  | .iinc k n => decide (op = 8 ∧ len = 3 ∧ q = pc + 3 ∧ a = k ∧ z = .inl (Int32.ofInt n))
  | .iadd => decide (op = 9 ∧ len = 1 ∧ q = pc + 1 ∧ a = 0)
  | .isub => decide (op = 9 ∧ len = 1 ∧ q = pc + 1 ∧ a = 1)
  | .imul => decide (op = 9 ∧ len = 1 ∧ q = pc + 1 ∧ a = 2)
  | .iand => decide (op = 9 ∧ len = 1 ∧ q = pc + 1 ∧ a = 3)
  | .ior => decide (op = 9 ∧ len = 1 ∧ q = pc + 1 ∧ a = 4)
  | .ixor => decide (op = 9 ∧ len = 1 ∧ q = pc + 1 ∧ a = 5)
  | .ishl => decide (op = 9 ∧ len = 1 ∧ q = pc + 1 ∧ a = 6)
  | .ishr => decide (op = 9 ∧ len = 1 ∧ q = pc + 1 ∧ a = 7)
  | .iushr => decide (op = 9 ∧ len = 1 ∧ q = pc + 1 ∧ a = 8)
  | .idiv => decide (op = 10 ∧ len = 1 ∧ q = pc + 1)
  | .irem => decide (op = 11 ∧ len = 1 ∧ q = pc + 1)
  | .ineg => decide (op = 12 ∧ len = 1 ∧ q = pc + 1)
  | .ladd => decide (op = 13 ∧ len = 1 ∧ q = pc + 1 ∧ a = 0)
  | .lsub => decide (op = 13 ∧ len = 1 ∧ q = pc + 1 ∧ a = 1)
  | .lmul => decide (op = 13 ∧ len = 1 ∧ q = pc + 1 ∧ a = 2)
  | .land => decide (op = 13 ∧ len = 1 ∧ q = pc + 1 ∧ a = 3)
  | .lor => decide (op = 13 ∧ len = 1 ∧ q = pc + 1 ∧ a = 4)
  | .lshl => decide (op = 14 ∧ len = 1 ∧ q = pc + 1)
  | .lushr => decide (op = 15 ∧ len = 1 ∧ q = pc + 1)
  | .ldiv => decide (op = 16 ∧ len = 1 ∧ q = pc + 1)
  | .lrem => decide (op = 17 ∧ len = 1 ∧ q = pc + 1)
  | .lcmp => decide (op = 18 ∧ len = 1 ∧ q = pc + 1)
  | .i2l => decide (op = 19 ∧ len = 1 ∧ q = pc + 1)
  | .l2i => decide (op = 20 ∧ len = 1 ∧ q = pc + 1)
  | .i2c => decide (op = 21 ∧ len = 1 ∧ q = pc + 1)
  | .i2b => decide (op = 22 ∧ len = 1 ∧ q = pc + 1)
  | .dup => decide (op = 23 ∧ len = 1 ∧ q = pc + 1)
  | .dup2 => decide (op = 24 ∧ len = 1 ∧ q = pc + 1)
  | .pop => decide (op = 25 ∧ len = 1 ∧ q = pc + 1)
  | .goto off => decide (op = 26 ∧ len = 3 ∧ (pc : Int) + off = (a : Int))
  | .ifCond .eq off => decide (op = 27 ∧ len = 3 ∧ q = pc + 3 ∧ a = 0 ∧ (pc : Int) + off = (b : Int))
  | .ifCond .ne off => decide (op = 27 ∧ len = 3 ∧ q = pc + 3 ∧ a = 1 ∧ (pc : Int) + off = (b : Int))
  | .ifCond .lt off => decide (op = 27 ∧ len = 3 ∧ q = pc + 3 ∧ a = 2 ∧ (pc : Int) + off = (b : Int))
  | .ifCond .ge off => decide (op = 27 ∧ len = 3 ∧ q = pc + 3 ∧ a = 3 ∧ (pc : Int) + off = (b : Int))
  | .ifCond .gt off => decide (op = 27 ∧ len = 3 ∧ q = pc + 3 ∧ a = 4 ∧ (pc : Int) + off = (b : Int))
  | .ifCond .le off => decide (op = 27 ∧ len = 3 ∧ q = pc + 3 ∧ a = 5 ∧ (pc : Int) + off = (b : Int))
  | .if_icmp .eq off => decide (op = 28 ∧ len = 3 ∧ q = pc + 3 ∧ a = 0 ∧ (pc : Int) + off = (b : Int))
  | .if_icmp .ne off => decide (op = 28 ∧ len = 3 ∧ q = pc + 3 ∧ a = 1 ∧ (pc : Int) + off = (b : Int))
  | .if_icmp .lt off => decide (op = 28 ∧ len = 3 ∧ q = pc + 3 ∧ a = 2 ∧ (pc : Int) + off = (b : Int))
  | .if_icmp .ge off => decide (op = 28 ∧ len = 3 ∧ q = pc + 3 ∧ a = 3 ∧ (pc : Int) + off = (b : Int))
  | .if_icmp .gt off => decide (op = 28 ∧ len = 3 ∧ q = pc + 3 ∧ a = 4 ∧ (pc : Int) + off = (b : Int))
  | .if_icmp .le off => decide (op = 28 ∧ len = 3 ∧ q = pc + 3 ∧ a = 5 ∧ (pc : Int) + off = (b : Int))
  | _ => false
theorem agb_ok {pc : Nat} {ins : Instr} {len op a b : Nat} {z : PV} {q : Nat} (h : agb pc ins len op a b z q = true) : agp pc ins len op a b z q := by
  unfold agb at h
  unfold agp
  split at h <;> first | exact of_decide_eq_true h | cases h
theorem trv_ref (X : CX) {k n : Nat} (hk : ¬ k = 99) : ∃ x : Nat, trv X (.inr (.inr (k, n))) = .ref x := by
  simp only [trv]
  split
  · exact ⟨_, rfl⟩
  · split
    · exact ⟨_, rfl⟩
    · split
      · exact ⟨_, rfl⟩
      · exact ⟨_, rfl⟩
section SP
variable {p : Program} {l : Launch} {e : Env} {R : Room} {s : State} {m : MethodId} {args : Array Value} {below : List Frame} {meth : Method} {c : Code} {H : Heap} {locs : List Loc} {cells slots : Nat} {Q : State → Prop}
variable {cc : ByteArray} {pc len op a b q q1 nL : Nat} {z : PV} {ls : Array Slot} {L L1 : LL} {st st1 : List PV} {X : CX}
theorem sp_iconst (hx : p.tables.exec = Jvm.exec) (hb : c.code = cc) (hX : (xo X).category = 1) {n : Int} (hd : decode cc pc = .ok (.iconst n, len)) (ha : agp pc (.iconst n) len op a b z q) (hs : pst op a b z q L st = some (q1, L1, st1)) (hl : hasL X ls nL L)
    (kk : ∀ ls' : Array Slot, hasL X ls' nL L1 → W p l e R s m args below meth c H locs cells slots Q (F0 m q1 ls' (st1.map (trv X)))) : W p l e R s m args below meth c H locs cells slots Q (F0 m pc ls (st.map (trv X))) := by
  obtain ⟨rfl, rfl, rfl, rfl⟩ := ha
  cases hs
  exact lv_iconst hx hb hd rfl (kk ls hl)
theorem sp_bipush (hx : p.tables.exec = Jvm.exec) (hb : c.code = cc) (hX : (xo X).category = 1) {n : Int} (hd : decode cc pc = .ok (.bipush n, len)) (ha : agp pc (.bipush n) len op a b z q) (hs : pst op a b z q L st = some (q1, L1, st1)) (hl : hasL X ls nL L)
    (kk : ∀ ls' : Array Slot, hasL X ls' nL L1 → W p l e R s m args below meth c H locs cells slots Q (F0 m q1 ls' (st1.map (trv X)))) : W p l e R s m args below meth c H locs cells slots Q (F0 m pc ls (st.map (trv X))) := by
  obtain ⟨rfl, rfl, rfl, rfl⟩ := ha
  cases hs
  exact lv_bipush hx hb hd rfl (kk ls hl)
theorem sp_sipush (hx : p.tables.exec = Jvm.exec) (hb : c.code = cc) (hX : (xo X).category = 1) {n : Int} (hd : decode cc pc = .ok (.sipush n, len)) (ha : agp pc (.sipush n) len op a b z q) (hs : pst op a b z q L st = some (q1, L1, st1)) (hl : hasL X ls nL L)
    (kk : ∀ ls' : Array Slot, hasL X ls' nL L1 → W p l e R s m args below meth c H locs cells slots Q (F0 m q1 ls' (st1.map (trv X)))) : W p l e R s m args below meth c H locs cells slots Q (F0 m pc ls (st.map (trv X))) := by
  obtain ⟨rfl, rfl, rfl, rfl⟩ := ha
  cases hs
  exact lv_sipush hx hb hd rfl (kk ls hl)
theorem sp_lconst (hx : p.tables.exec = Jvm.exec) (hb : c.code = cc) (hX : (xo X).category = 1) {n : Fin 2} (hd : decode cc pc = .ok (.lconst n, len)) (ha : agp pc (.lconst n) len op a b z q) (hs : pst op a b z q L st = some (q1, L1, st1)) (hl : hasL X ls nL L)
    (kk : ∀ ls' : Array Slot, hasL X ls' nL L1 → W p l e R s m args below meth c H locs cells slots Q (F0 m q1 ls' (st1.map (trv X)))) : W p l e R s m args below meth c H locs cells slots Q (F0 m pc ls (st.map (trv X))) := by
  obtain ⟨rfl, rfl, rfl, rfl⟩ := ha
  cases hs
  exact lv_lconst hx hb hd rfl (kk ls hl)
theorem sp_iload_n (hx : p.tables.exec = Jvm.exec) (hb : c.code = cc) (hX : (xo X).category = 1) {k : Fin 4} (hd : decode cc pc = .ok (.iload_n k, len)) (ha : agp pc (.iload_n k) len op a b z q) (hs : pst op a b z q L st = some (q1, L1, st1)) (hl : hasL X ls nL L)
    (kk : ∀ ls' : Array Slot, hasL X ls' nL L1 → W p l e R s m args below meth c H locs cells slots Q (F0 m q1 ls' (st1.map (trv X)))) : W p l e R s m args below meth c H locs cells slots Q (F0 m pc ls (st.map (trv X))) := by
  obtain ⟨rfl, rfl, rfl, rfl⟩ := ha
  simp only [pst] at hs
  split at hs
  · cases hs; exact lv_iload_n hx hb hd rfl (hl.at (by assumption)) (kk ls hl)
  · cases hs
theorem sp_iload (hx : p.tables.exec = Jvm.exec) (hb : c.code = cc) (hX : (xo X).category = 1) {k : Nat} (hd : decode cc pc = .ok (.iload k, len)) (ha : agp pc (.iload k) len op a b z q) (hs : pst op a b z q L st = some (q1, L1, st1)) (hl : hasL X ls nL L)
    (kk : ∀ ls' : Array Slot, hasL X ls' nL L1 → W p l e R s m args below meth c H locs cells slots Q (F0 m q1 ls' (st1.map (trv X)))) : W p l e R s m args below meth c H locs cells slots Q (F0 m pc ls (st.map (trv X))) := by
  obtain ⟨rfl, rfl, rfl, rfl⟩ := ha
  simp only [pst] at hs
  split at hs
  · cases hs; exact lv_iload hx hb hd (hl.at (by assumption)) (kk ls hl)
  · cases hs
theorem sp_lload_n (hx : p.tables.exec = Jvm.exec) (hb : c.code = cc) (hX : (xo X).category = 1) {k : Fin 4} (hd : decode cc pc = .ok (.lload_n k, len)) (ha : agp pc (.lload_n k) len op a b z q) (hs : pst op a b z q L st = some (q1, L1, st1)) (hl : hasL X ls nL L)
    (kk : ∀ ls' : Array Slot, hasL X ls' nL L1 → W p l e R s m args below meth c H locs cells slots Q (F0 m q1 ls' (st1.map (trv X)))) : W p l e R s m args below meth c H locs cells slots Q (F0 m pc ls (st.map (trv X))) := by
  obtain ⟨rfl, rfl, rfl, rfl⟩ := ha
  simp only [pst] at hs
  split at hs
  · cases hs; exact lv_lload_n hx hb hd rfl (hl.at (by assumption)) (kk ls hl)
  · cases hs
theorem sp_lload (hx : p.tables.exec = Jvm.exec) (hb : c.code = cc) (hX : (xo X).category = 1) {k : Nat} (hd : decode cc pc = .ok (.lload k, len)) (ha : agp pc (.lload k) len op a b z q) (hs : pst op a b z q L st = some (q1, L1, st1)) (hl : hasL X ls nL L)
    (kk : ∀ ls' : Array Slot, hasL X ls' nL L1 → W p l e R s m args below meth c H locs cells slots Q (F0 m q1 ls' (st1.map (trv X)))) : W p l e R s m args below meth c H locs cells slots Q (F0 m pc ls (st.map (trv X))) := by
  obtain ⟨rfl, rfl, rfl, rfl⟩ := ha
  simp only [pst] at hs
  split at hs
  · cases hs; exact lv_lload hx hb hd (hl.at (by assumption)) (kk ls hl)
  · cases hs
theorem sp_istore_n (hx : p.tables.exec = Jvm.exec) (hb : c.code = cc) (hX : (xo X).category = 1) {k : Fin 4} (hd : decode cc pc = .ok (.istore_n k, len)) (ha : agp pc (.istore_n k) len op a b z q) (hs : pst op a b z q L st = some (q1, L1, st1)) (hl : hasL X ls nL L)
    (kk : ∀ ls' : Array Slot, hasL X ls' nL L1 → W p l e R s m args below meth c H locs cells slots Q (F0 m q1 ls' (st1.map (trv X)))) : W p l e R s m args below meth c H locs cells slots Q (F0 m pc ls (st.map (trv X))) := by
  obtain ⟨rfl, rfl, rfl, rfl⟩ := ha
  simp only [pst] at hs
  split at hs
  · split at hs
    · rename_i hlt
      cases hs
      exact lv_istore_n hx hb hd rfl hl.2 (by rw [← hl.1]; exact hlt) rfl (fun ls' h' => kk ls' (hl.s1 hX h'))
    · cases hs
  · cases hs
theorem sp_istore (hx : p.tables.exec = Jvm.exec) (hb : c.code = cc) (hX : (xo X).category = 1) {k : Nat} (hd : decode cc pc = .ok (.istore k, len)) (ha : agp pc (.istore k) len op a b z q) (hs : pst op a b z q L st = some (q1, L1, st1)) (hl : hasL X ls nL L)
    (kk : ∀ ls' : Array Slot, hasL X ls' nL L1 → W p l e R s m args below meth c H locs cells slots Q (F0 m q1 ls' (st1.map (trv X)))) : W p l e R s m args below meth c H locs cells slots Q (F0 m pc ls (st.map (trv X))) := by
  obtain ⟨rfl, rfl, rfl, rfl⟩ := ha
  simp only [pst] at hs
  split at hs
  · split at hs
    · rename_i hlt
      cases hs
      exact lv_istore hx hb hd hl.2 (by rw [← hl.1]; exact hlt) rfl (fun ls' h' => kk ls' (hl.s1 hX h'))
    · cases hs
  · cases hs
theorem sp_lstore_n (hx : p.tables.exec = Jvm.exec) (hb : c.code = cc) (hX : (xo X).category = 1) {k : Fin 4} (hd : decode cc pc = .ok (.lstore_n k, len)) (ha : agp pc (.lstore_n k) len op a b z q) (hs : pst op a b z q L st = some (q1, L1, st1)) (hl : hasL X ls nL L)
    (kk : ∀ ls' : Array Slot, hasL X ls' nL L1 → W p l e R s m args below meth c H locs cells slots Q (F0 m q1 ls' (st1.map (trv X)))) : W p l e R s m args below meth c H locs cells slots Q (F0 m pc ls (st.map (trv X))) := by
  obtain ⟨rfl, rfl, rfl, rfl⟩ := ha
  simp only [pst] at hs
  split at hs
  · split at hs
    · rename_i hlt
      cases hs
      exact lv_lstore_n hx hb hd rfl hl.2 (by rw [← hl.1]; exact hlt) rfl (fun ls' h' => kk ls' (hl.s2 hX h'))
    · cases hs
  · cases hs
theorem sp_lstore (hx : p.tables.exec = Jvm.exec) (hb : c.code = cc) (hX : (xo X).category = 1) {k : Nat} (hd : decode cc pc = .ok (.lstore k, len)) (ha : agp pc (.lstore k) len op a b z q) (hs : pst op a b z q L st = some (q1, L1, st1)) (hl : hasL X ls nL L)
    (kk : ∀ ls' : Array Slot, hasL X ls' nL L1 → W p l e R s m args below meth c H locs cells slots Q (F0 m q1 ls' (st1.map (trv X)))) : W p l e R s m args below meth c H locs cells slots Q (F0 m pc ls (st.map (trv X))) := by
  obtain ⟨rfl, rfl, rfl, rfl⟩ := ha
  simp only [pst] at hs
  split at hs
  · split at hs
    · rename_i hlt
      cases hs
      exact lv_lstore hx hb hd hl.2 (by rw [← hl.1]; exact hlt) rfl (fun ls' h' => kk ls' (hl.s2 hX h'))
    · cases hs
  · cases hs
theorem sp_aload_n (hx : p.tables.exec = Jvm.exec) (hb : c.code = cc) (hX : (xo X).category = 1) {k : Fin 4} (hd : decode cc pc = .ok (.aload_n k, len)) (ha : agp pc (.aload_n k) len op a b z q) (hs : pst op a b z q L st = some (q1, L1, st1)) (hl : hasL X ls nL L)
    (kk : ∀ ls' : Array Slot, hasL X ls' nL L1 → W p l e R s m args below meth c H locs cells slots Q (F0 m q1 ls' (st1.map (trv X)))) : W p l e R s m args below meth c H locs cells slots Q (F0 m pc ls (st.map (trv X))) := by
  obtain ⟨rfl, rfl, rfl, rfl⟩ := ha
  simp only [pst] at hs
  split at hs
  · rename_i he
    split at hs
    · cases hs
    · rename_i hk
      cases hs
      have h1 := hl.at he
      have k2 := kk ls hl
      rw [List.map_cons] at k2
      obtain ⟨x, ex⟩ := trv_ref X hk
      rw [ex] at h1 k2
      exact lv_aload_n hx hb hd rfl h1 k2
  · cases hs
theorem sp_astore_n (hx : p.tables.exec = Jvm.exec) (hb : c.code = cc) (hX : (xo X).category = 1) {k : Fin 4} (hd : decode cc pc = .ok (.astore_n k, len)) (ha : agp pc (.astore_n k) len op a b z q) (hs : pst op a b z q L st = some (q1, L1, st1)) (hl : hasL X ls nL L)
    (kk : ∀ ls' : Array Slot, hasL X ls' nL L1 → W p l e R s m args below meth c H locs cells slots Q (F0 m q1 ls' (st1.map (trv X)))) : W p l e R s m args below meth c H locs cells slots Q (F0 m pc ls (st.map (trv X))) := by
  obtain ⟨rfl, rfl, rfl, rfl⟩ := ha
  simp only [pst] at hs
  split at hs
  · split at hs
    · cases hs
    · rename_i hk
      split at hs
      · rename_i hlt
        cases hs
        rw [List.map_cons]
        obtain ⟨x, ex⟩ := trv_ref X hk
        rw [ex]
        refine lv_astore_n hx hb hd rfl hl.2 (by rw [← hl.1]; exact hlt) rfl (fun ls' h' => kk ls' (hl.s1 hX ?_))
        rw [ex]
        exact h'
      · cases hs
  · cases hs
theorem sp_aload (hx : p.tables.exec = Jvm.exec) (hb : c.code = cc) (hX : (xo X).category = 1) {k : Nat} (hd : decode cc pc = .ok (.aload k, len)) (ha : agp pc (.aload k) len op a b z q) (hs : pst op a b z q L st = some (q1, L1, st1)) (hl : hasL X ls nL L)
    (kk : ∀ ls' : Array Slot, hasL X ls' nL L1 → W p l e R s m args below meth c H locs cells slots Q (F0 m q1 ls' (st1.map (trv X)))) : W p l e R s m args below meth c H locs cells slots Q (F0 m pc ls (st.map (trv X))) := by
  obtain ⟨rfl, rfl, rfl, rfl⟩ := ha
  simp only [pst] at hs
  split at hs
  · rename_i he
    split at hs
    · cases hs
    · rename_i hk
      cases hs
      have h1 := hl.at he
      have k2 := kk ls hl
      rw [List.map_cons] at k2
      obtain ⟨x, ex⟩ := trv_ref X hk
      rw [ex] at h1 k2
      exact lv_aload hx hb hd h1 k2
  · cases hs
theorem sp_astore (hx : p.tables.exec = Jvm.exec) (hb : c.code = cc) (hX : (xo X).category = 1) {k : Nat} (hd : decode cc pc = .ok (.astore k, len)) (ha : agp pc (.astore k) len op a b z q) (hs : pst op a b z q L st = some (q1, L1, st1)) (hl : hasL X ls nL L)
    (kk : ∀ ls' : Array Slot, hasL X ls' nL L1 → W p l e R s m args below meth c H locs cells slots Q (F0 m q1 ls' (st1.map (trv X)))) : W p l e R s m args below meth c H locs cells slots Q (F0 m pc ls (st.map (trv X))) := by
  obtain ⟨rfl, rfl, rfl, rfl⟩ := ha
  simp only [pst] at hs
  split at hs
  · split at hs
    · cases hs
    · rename_i hk
      split at hs
      · rename_i hlt
        cases hs
        rw [List.map_cons]
        obtain ⟨x, ex⟩ := trv_ref X hk
        rw [ex]
        refine lv_astore hx hb hd hl.2 (by rw [← hl.1]; exact hlt) rfl (fun ls' h' => kk ls' (hl.s1 hX ?_))
        rw [ex]
        exact h'
      · cases hs
  · cases hs
theorem sp_iinc (hx : p.tables.exec = Jvm.exec) (hb : c.code = cc) (hX : (xo X).category = 1) {k : Nat} {n : Int} (hd : decode cc pc = .ok (.iinc k n, len)) (ha : agp pc (.iinc k n) len op a b z q) (hs : pst op a b z q L st = some (q1, L1, st1)) (hl : hasL X ls nL L)
    (kk : ∀ ls' : Array Slot, hasL X ls' nL L1 → W p l e R s m args below meth c H locs cells slots Q (F0 m q1 ls' (st1.map (trv X)))) : W p l e R s m args below meth c H locs cells slots Q (F0 m pc ls (st.map (trv X))) := by
  obtain ⟨rfl, rfl, rfl, rfl, rfl⟩ := ha
  simp only [pst] at hs
  split at hs
  · rename_i x y he hz
    cases hz
    cases hs
    obtain ⟨j, hj⟩ := hl.idx he
    have hlt : a < nL := by rw [← hl.1]; exact (List.getElem?_eq_some_iff.mp he).1
    exact lv_iinc hx hb hd hl.2 hj rfl hlt rfl (fun ls' h' => kk ls' (hl.s1 hX h'))
  · cases hs
theorem sp_iadd (hx : p.tables.exec = Jvm.exec) (hb : c.code = cc) (hX : (xo X).category = 1) (hd : decode cc pc = .ok (.iadd, len)) (ha : agp pc (.iadd) len op a b z q) (hs : pst op a b z q L st = some (q1, L1, st1)) (hl : hasL X ls nL L)
    (kk : ∀ ls' : Array Slot, hasL X ls' nL L1 → W p l e R s m args below meth c H locs cells slots Q (F0 m q1 ls' (st1.map (trv X)))) : W p l e R s m args below meth c H locs cells slots Q (F0 m pc ls (st.map (trv X))) := by
  obtain ⟨rfl, rfl, rfl, rfl⟩ := ha
  simp only [pst] at hs
  split at hs
  · cases hs; exact lv_iadd hx hb hd (kk ls hl)
  · cases hs
theorem sp_isub (hx : p.tables.exec = Jvm.exec) (hb : c.code = cc) (hX : (xo X).category = 1) (hd : decode cc pc = .ok (.isub, len)) (ha : agp pc (.isub) len op a b z q) (hs : pst op a b z q L st = some (q1, L1, st1)) (hl : hasL X ls nL L)
    (kk : ∀ ls' : Array Slot, hasL X ls' nL L1 → W p l e R s m args below meth c H locs cells slots Q (F0 m q1 ls' (st1.map (trv X)))) : W p l e R s m args below meth c H locs cells slots Q (F0 m pc ls (st.map (trv X))) := by
  obtain ⟨rfl, rfl, rfl, rfl⟩ := ha
  simp only [pst] at hs
  split at hs
  · cases hs; exact lv_isub hx hb hd (kk ls hl)
  · cases hs
theorem sp_imul (hx : p.tables.exec = Jvm.exec) (hb : c.code = cc) (hX : (xo X).category = 1) (hd : decode cc pc = .ok (.imul, len)) (ha : agp pc (.imul) len op a b z q) (hs : pst op a b z q L st = some (q1, L1, st1)) (hl : hasL X ls nL L)
    (kk : ∀ ls' : Array Slot, hasL X ls' nL L1 → W p l e R s m args below meth c H locs cells slots Q (F0 m q1 ls' (st1.map (trv X)))) : W p l e R s m args below meth c H locs cells slots Q (F0 m pc ls (st.map (trv X))) := by
  obtain ⟨rfl, rfl, rfl, rfl⟩ := ha
  simp only [pst] at hs
  split at hs
  · cases hs; exact lv_imul hx hb hd (kk ls hl)
  · cases hs
theorem sp_iand (hx : p.tables.exec = Jvm.exec) (hb : c.code = cc) (hX : (xo X).category = 1) (hd : decode cc pc = .ok (.iand, len)) (ha : agp pc (.iand) len op a b z q) (hs : pst op a b z q L st = some (q1, L1, st1)) (hl : hasL X ls nL L)
    (kk : ∀ ls' : Array Slot, hasL X ls' nL L1 → W p l e R s m args below meth c H locs cells slots Q (F0 m q1 ls' (st1.map (trv X)))) : W p l e R s m args below meth c H locs cells slots Q (F0 m pc ls (st.map (trv X))) := by
  obtain ⟨rfl, rfl, rfl, rfl⟩ := ha
  simp only [pst] at hs
  split at hs
  · cases hs; exact lv_iand hx hb hd (kk ls hl)
  · cases hs
theorem sp_ior (hx : p.tables.exec = Jvm.exec) (hb : c.code = cc) (hX : (xo X).category = 1) (hd : decode cc pc = .ok (.ior, len)) (ha : agp pc (.ior) len op a b z q) (hs : pst op a b z q L st = some (q1, L1, st1)) (hl : hasL X ls nL L)
    (kk : ∀ ls' : Array Slot, hasL X ls' nL L1 → W p l e R s m args below meth c H locs cells slots Q (F0 m q1 ls' (st1.map (trv X)))) : W p l e R s m args below meth c H locs cells slots Q (F0 m pc ls (st.map (trv X))) := by
  obtain ⟨rfl, rfl, rfl, rfl⟩ := ha
  simp only [pst] at hs
  split at hs
  · cases hs; exact lv_ior hx hb hd (kk ls hl)
  · cases hs
theorem sp_ixor (hx : p.tables.exec = Jvm.exec) (hb : c.code = cc) (hX : (xo X).category = 1) (hd : decode cc pc = .ok (.ixor, len)) (ha : agp pc (.ixor) len op a b z q) (hs : pst op a b z q L st = some (q1, L1, st1)) (hl : hasL X ls nL L)
    (kk : ∀ ls' : Array Slot, hasL X ls' nL L1 → W p l e R s m args below meth c H locs cells slots Q (F0 m q1 ls' (st1.map (trv X)))) : W p l e R s m args below meth c H locs cells slots Q (F0 m pc ls (st.map (trv X))) := by
  obtain ⟨rfl, rfl, rfl, rfl⟩ := ha
  simp only [pst] at hs
  split at hs
  · cases hs; exact lv_ixor hx hb hd (kk ls hl)
  · cases hs
theorem sp_ishl (hx : p.tables.exec = Jvm.exec) (hb : c.code = cc) (hX : (xo X).category = 1) (hd : decode cc pc = .ok (.ishl, len)) (ha : agp pc (.ishl) len op a b z q) (hs : pst op a b z q L st = some (q1, L1, st1)) (hl : hasL X ls nL L)
    (kk : ∀ ls' : Array Slot, hasL X ls' nL L1 → W p l e R s m args below meth c H locs cells slots Q (F0 m q1 ls' (st1.map (trv X)))) : W p l e R s m args below meth c H locs cells slots Q (F0 m pc ls (st.map (trv X))) := by
  obtain ⟨rfl, rfl, rfl, rfl⟩ := ha
  simp only [pst] at hs
  split at hs
  · cases hs; exact lv_ishl hx hb hd (kk ls hl)
  · cases hs
theorem sp_ishr (hx : p.tables.exec = Jvm.exec) (hb : c.code = cc) (hX : (xo X).category = 1) (hd : decode cc pc = .ok (.ishr, len)) (ha : agp pc (.ishr) len op a b z q) (hs : pst op a b z q L st = some (q1, L1, st1)) (hl : hasL X ls nL L)
    (kk : ∀ ls' : Array Slot, hasL X ls' nL L1 → W p l e R s m args below meth c H locs cells slots Q (F0 m q1 ls' (st1.map (trv X)))) : W p l e R s m args below meth c H locs cells slots Q (F0 m pc ls (st.map (trv X))) := by
  obtain ⟨rfl, rfl, rfl, rfl⟩ := ha
  simp only [pst] at hs
  split at hs
  · cases hs; exact lv_ishr hx hb hd (kk ls hl)
  · cases hs
theorem sp_iushr (hx : p.tables.exec = Jvm.exec) (hb : c.code = cc) (hX : (xo X).category = 1) (hd : decode cc pc = .ok (.iushr, len)) (ha : agp pc (.iushr) len op a b z q) (hs : pst op a b z q L st = some (q1, L1, st1)) (hl : hasL X ls nL L)
    (kk : ∀ ls' : Array Slot, hasL X ls' nL L1 → W p l e R s m args below meth c H locs cells slots Q (F0 m q1 ls' (st1.map (trv X)))) : W p l e R s m args below meth c H locs cells slots Q (F0 m pc ls (st.map (trv X))) := by
  obtain ⟨rfl, rfl, rfl, rfl⟩ := ha
  simp only [pst] at hs
  split at hs
  · cases hs; exact lv_iushr hx hb hd rfl (kk ls hl)
  · cases hs
theorem sp_ladd (hx : p.tables.exec = Jvm.exec) (hb : c.code = cc) (hX : (xo X).category = 1) (hd : decode cc pc = .ok (.ladd, len)) (ha : agp pc (.ladd) len op a b z q) (hs : pst op a b z q L st = some (q1, L1, st1)) (hl : hasL X ls nL L)
    (kk : ∀ ls' : Array Slot, hasL X ls' nL L1 → W p l e R s m args below meth c H locs cells slots Q (F0 m q1 ls' (st1.map (trv X)))) : W p l e R s m args below meth c H locs cells slots Q (F0 m pc ls (st.map (trv X))) := by
  obtain ⟨rfl, rfl, rfl, rfl⟩ := ha
  simp only [pst] at hs
  split at hs
  · cases hs; exact lv_ladd hx hb hd (kk ls hl)
  · cases hs
theorem sp_lsub (hx : p.tables.exec = Jvm.exec) (hb : c.code = cc) (hX : (xo X).category = 1) (hd : decode cc pc = .ok (.lsub, len)) (ha : agp pc (.lsub) len op a b z q) (hs : pst op a b z q L st = some (q1, L1, st1)) (hl : hasL X ls nL L)
    (kk : ∀ ls' : Array Slot, hasL X ls' nL L1 → W p l e R s m args below meth c H locs cells slots Q (F0 m q1 ls' (st1.map (trv X)))) : W p l e R s m args below meth c H locs cells slots Q (F0 m pc ls (st.map (trv X))) := by
  obtain ⟨rfl, rfl, rfl, rfl⟩ := ha
  simp only [pst] at hs
  split at hs
  · cases hs; exact lv_lsub hx hb hd (kk ls hl)
  · cases hs
theorem sp_lmul (hx : p.tables.exec = Jvm.exec) (hb : c.code = cc) (hX : (xo X).category = 1) (hd : decode cc pc = .ok (.lmul, len)) (ha : agp pc (.lmul) len op a b z q) (hs : pst op a b z q L st = some (q1, L1, st1)) (hl : hasL X ls nL L)
    (kk : ∀ ls' : Array Slot, hasL X ls' nL L1 → W p l e R s m args below meth c H locs cells slots Q (F0 m q1 ls' (st1.map (trv X)))) : W p l e R s m args below meth c H locs cells slots Q (F0 m pc ls (st.map (trv X))) := by
  obtain ⟨rfl, rfl, rfl, rfl⟩ := ha
  simp only [pst] at hs
  split at hs
  · cases hs; exact lv_lmul hx hb hd (kk ls hl)
  · cases hs
theorem sp_land (hx : p.tables.exec = Jvm.exec) (hb : c.code = cc) (hX : (xo X).category = 1) (hd : decode cc pc = .ok (.land, len)) (ha : agp pc (.land) len op a b z q) (hs : pst op a b z q L st = some (q1, L1, st1)) (hl : hasL X ls nL L)
    (kk : ∀ ls' : Array Slot, hasL X ls' nL L1 → W p l e R s m args below meth c H locs cells slots Q (F0 m q1 ls' (st1.map (trv X)))) : W p l e R s m args below meth c H locs cells slots Q (F0 m pc ls (st.map (trv X))) := by
  obtain ⟨rfl, rfl, rfl, rfl⟩ := ha
  simp only [pst] at hs
  split at hs
  · cases hs; exact lv_land hx hb hd (kk ls hl)
  · cases hs
theorem sp_lor (hx : p.tables.exec = Jvm.exec) (hb : c.code = cc) (hX : (xo X).category = 1) (hd : decode cc pc = .ok (.lor, len)) (ha : agp pc (.lor) len op a b z q) (hs : pst op a b z q L st = some (q1, L1, st1)) (hl : hasL X ls nL L)
    (kk : ∀ ls' : Array Slot, hasL X ls' nL L1 → W p l e R s m args below meth c H locs cells slots Q (F0 m q1 ls' (st1.map (trv X)))) : W p l e R s m args below meth c H locs cells slots Q (F0 m pc ls (st.map (trv X))) := by
  obtain ⟨rfl, rfl, rfl, rfl⟩ := ha
  simp only [pst] at hs
  split at hs
  · cases hs; exact lv_lor hx hb hd (kk ls hl)
  · cases hs
theorem sp_idiv (hx : p.tables.exec = Jvm.exec) (hb : c.code = cc) (hX : (xo X).category = 1) (hd : decode cc pc = .ok (.idiv, len)) (ha : agp pc (.idiv) len op a b z q) (hs : pst op a b z q L st = some (q1, L1, st1)) (hl : hasL X ls nL L)
    (kk : ∀ ls' : Array Slot, hasL X ls' nL L1 → W p l e R s m args below meth c H locs cells slots Q (F0 m q1 ls' (st1.map (trv X)))) : W p l e R s m args below meth c H locs cells slots Q (F0 m pc ls (st.map (trv X))) := by
  obtain ⟨rfl, rfl, rfl⟩ := ha
  simp only [pst] at hs
  split at hs
  · split at hs
    · cases hs
    · rename_i hne
      cases hs
      exact lv_idiv hx hb hd hne (kk ls hl)
  · cases hs
theorem sp_irem (hx : p.tables.exec = Jvm.exec) (hb : c.code = cc) (hX : (xo X).category = 1) (hd : decode cc pc = .ok (.irem, len)) (ha : agp pc (.irem) len op a b z q) (hs : pst op a b z q L st = some (q1, L1, st1)) (hl : hasL X ls nL L)
    (kk : ∀ ls' : Array Slot, hasL X ls' nL L1 → W p l e R s m args below meth c H locs cells slots Q (F0 m q1 ls' (st1.map (trv X)))) : W p l e R s m args below meth c H locs cells slots Q (F0 m pc ls (st.map (trv X))) := by
  obtain ⟨rfl, rfl, rfl⟩ := ha
  simp only [pst] at hs
  split at hs
  · split at hs
    · cases hs
    · rename_i hne
      cases hs
      exact lv_irem hx hb hd hne (kk ls hl)
  · cases hs
theorem sp_ldiv (hx : p.tables.exec = Jvm.exec) (hb : c.code = cc) (hX : (xo X).category = 1) (hd : decode cc pc = .ok (.ldiv, len)) (ha : agp pc (.ldiv) len op a b z q) (hs : pst op a b z q L st = some (q1, L1, st1)) (hl : hasL X ls nL L)
    (kk : ∀ ls' : Array Slot, hasL X ls' nL L1 → W p l e R s m args below meth c H locs cells slots Q (F0 m q1 ls' (st1.map (trv X)))) : W p l e R s m args below meth c H locs cells slots Q (F0 m pc ls (st.map (trv X))) := by
  obtain ⟨rfl, rfl, rfl⟩ := ha
  simp only [pst] at hs
  split at hs
  · split at hs
    · cases hs
    · rename_i hne
      cases hs
      exact lv_ldiv hx hb hd hne (kk ls hl)
  · cases hs
theorem sp_lrem (hx : p.tables.exec = Jvm.exec) (hb : c.code = cc) (hX : (xo X).category = 1) (hd : decode cc pc = .ok (.lrem, len)) (ha : agp pc (.lrem) len op a b z q) (hs : pst op a b z q L st = some (q1, L1, st1)) (hl : hasL X ls nL L)
    (kk : ∀ ls' : Array Slot, hasL X ls' nL L1 → W p l e R s m args below meth c H locs cells slots Q (F0 m q1 ls' (st1.map (trv X)))) : W p l e R s m args below meth c H locs cells slots Q (F0 m pc ls (st.map (trv X))) := by
  obtain ⟨rfl, rfl, rfl⟩ := ha
  simp only [pst] at hs
  split at hs
  · split at hs
    · cases hs
    · rename_i hne
      cases hs
      exact lv_lrem hx hb hd hne (kk ls hl)
  · cases hs
theorem sp_ineg (hx : p.tables.exec = Jvm.exec) (hb : c.code = cc) (hX : (xo X).category = 1) (hd : decode cc pc = .ok (.ineg, len)) (ha : agp pc (.ineg) len op a b z q) (hs : pst op a b z q L st = some (q1, L1, st1)) (hl : hasL X ls nL L)
    (kk : ∀ ls' : Array Slot, hasL X ls' nL L1 → W p l e R s m args below meth c H locs cells slots Q (F0 m q1 ls' (st1.map (trv X)))) : W p l e R s m args below meth c H locs cells slots Q (F0 m pc ls (st.map (trv X))) := by
  obtain ⟨rfl, rfl, rfl⟩ := ha
  simp only [pst] at hs
  split at hs
  · cases hs; exact lv_ineg hx hb hd (kk ls hl)
  · cases hs
theorem sp_lshl (hx : p.tables.exec = Jvm.exec) (hb : c.code = cc) (hX : (xo X).category = 1) (hd : decode cc pc = .ok (.lshl, len)) (ha : agp pc (.lshl) len op a b z q) (hs : pst op a b z q L st = some (q1, L1, st1)) (hl : hasL X ls nL L)
    (kk : ∀ ls' : Array Slot, hasL X ls' nL L1 → W p l e R s m args below meth c H locs cells slots Q (F0 m q1 ls' (st1.map (trv X)))) : W p l e R s m args below meth c H locs cells slots Q (F0 m pc ls (st.map (trv X))) := by
  obtain ⟨rfl, rfl, rfl⟩ := ha
  simp only [pst] at hs
  split at hs
  · cases hs; exact lv_lshl hx hb hd rfl (kk ls hl)
  · cases hs
theorem sp_lushr (hx : p.tables.exec = Jvm.exec) (hb : c.code = cc) (hX : (xo X).category = 1) (hd : decode cc pc = .ok (.lushr, len)) (ha : agp pc (.lushr) len op a b z q) (hs : pst op a b z q L st = some (q1, L1, st1)) (hl : hasL X ls nL L)
    (kk : ∀ ls' : Array Slot, hasL X ls' nL L1 → W p l e R s m args below meth c H locs cells slots Q (F0 m q1 ls' (st1.map (trv X)))) : W p l e R s m args below meth c H locs cells slots Q (F0 m pc ls (st.map (trv X))) := by
  obtain ⟨rfl, rfl, rfl⟩ := ha
  simp only [pst] at hs
  split at hs
  · cases hs; exact lv_lushr hx hb hd rfl (kk ls hl)
  · cases hs
theorem sp_i2l (hx : p.tables.exec = Jvm.exec) (hb : c.code = cc) (hX : (xo X).category = 1) (hd : decode cc pc = .ok (.i2l, len)) (ha : agp pc (.i2l) len op a b z q) (hs : pst op a b z q L st = some (q1, L1, st1)) (hl : hasL X ls nL L)
    (kk : ∀ ls' : Array Slot, hasL X ls' nL L1 → W p l e R s m args below meth c H locs cells slots Q (F0 m q1 ls' (st1.map (trv X)))) : W p l e R s m args below meth c H locs cells slots Q (F0 m pc ls (st.map (trv X))) := by
  obtain ⟨rfl, rfl, rfl⟩ := ha
  simp only [pst] at hs
  split at hs
  · cases hs; exact lv_i2l hx hb hd rfl (kk ls hl)
  · cases hs
theorem sp_l2i (hx : p.tables.exec = Jvm.exec) (hb : c.code = cc) (hX : (xo X).category = 1) (hd : decode cc pc = .ok (.l2i, len)) (ha : agp pc (.l2i) len op a b z q) (hs : pst op a b z q L st = some (q1, L1, st1)) (hl : hasL X ls nL L)
    (kk : ∀ ls' : Array Slot, hasL X ls' nL L1 → W p l e R s m args below meth c H locs cells slots Q (F0 m q1 ls' (st1.map (trv X)))) : W p l e R s m args below meth c H locs cells slots Q (F0 m pc ls (st.map (trv X))) := by
  obtain ⟨rfl, rfl, rfl⟩ := ha
  simp only [pst] at hs
  split at hs
  · cases hs; exact lv_l2i hx hb hd rfl (kk ls hl)
  · cases hs
theorem sp_i2c (hx : p.tables.exec = Jvm.exec) (hb : c.code = cc) (hX : (xo X).category = 1) (hd : decode cc pc = .ok (.i2c, len)) (ha : agp pc (.i2c) len op a b z q) (hs : pst op a b z q L st = some (q1, L1, st1)) (hl : hasL X ls nL L)
    (kk : ∀ ls' : Array Slot, hasL X ls' nL L1 → W p l e R s m args below meth c H locs cells slots Q (F0 m q1 ls' (st1.map (trv X)))) : W p l e R s m args below meth c H locs cells slots Q (F0 m pc ls (st.map (trv X))) := by
  obtain ⟨rfl, rfl, rfl⟩ := ha
  simp only [pst] at hs
  split at hs
  · cases hs; exact lv_i2c hx hb hd rfl (kk ls hl)
  · cases hs
theorem sp_i2b (hx : p.tables.exec = Jvm.exec) (hb : c.code = cc) (hX : (xo X).category = 1) (hd : decode cc pc = .ok (.i2b, len)) (ha : agp pc (.i2b) len op a b z q) (hs : pst op a b z q L st = some (q1, L1, st1)) (hl : hasL X ls nL L)
    (kk : ∀ ls' : Array Slot, hasL X ls' nL L1 → W p l e R s m args below meth c H locs cells slots Q (F0 m q1 ls' (st1.map (trv X)))) : W p l e R s m args below meth c H locs cells slots Q (F0 m pc ls (st.map (trv X))) := by
  obtain ⟨rfl, rfl, rfl⟩ := ha
  simp only [pst] at hs
  split at hs
  · cases hs; exact lv_i2b hx hb hd rfl (kk ls hl)
  · cases hs
theorem sp_lcmp (hx : p.tables.exec = Jvm.exec) (hb : c.code = cc) (hX : (xo X).category = 1) (hd : decode cc pc = .ok (.lcmp, len)) (ha : agp pc (.lcmp) len op a b z q) (hs : pst op a b z q L st = some (q1, L1, st1)) (hl : hasL X ls nL L)
    (kk : ∀ ls' : Array Slot, hasL X ls' nL L1 → W p l e R s m args below meth c H locs cells slots Q (F0 m q1 ls' (st1.map (trv X)))) : W p l e R s m args below meth c H locs cells slots Q (F0 m pc ls (st.map (trv X))) := by
  obtain ⟨rfl, rfl, rfl⟩ := ha
  simp only [pst] at hs
  split at hs
  · cases hs; exact W.lcmp hx hb hd (kk ls hl)
  · cases hs
theorem sp_dup (hx : p.tables.exec = Jvm.exec) (hb : c.code = cc) (hX : (xo X).category = 1) (hd : decode cc pc = .ok (.dup, len)) (ha : agp pc (.dup) len op a b z q) (hs : pst op a b z q L st = some (q1, L1, st1)) (hl : hasL X ls nL L)
    (kk : ∀ ls' : Array Slot, hasL X ls' nL L1 → W p l e R s m args below meth c H locs cells slots Q (F0 m q1 ls' (st1.map (trv X)))) : W p l e R s m args below meth c H locs cells slots Q (F0 m pc ls (st.map (trv X))) := by
  obtain ⟨rfl, rfl, rfl⟩ := ha
  simp only [pst] at hs
  split at hs
  · split at hs
    · cases hs
    · rename_i hw
      cases hs
      exact lv_dup hx hb hd (trv_cat hX (by rw [isW_L]; simpa using hw)) (kk ls hl)
  · cases hs
theorem sp_pop (hx : p.tables.exec = Jvm.exec) (hb : c.code = cc) (hX : (xo X).category = 1) (hd : decode cc pc = .ok (.pop, len)) (ha : agp pc (.pop) len op a b z q) (hs : pst op a b z q L st = some (q1, L1, st1)) (hl : hasL X ls nL L)
    (kk : ∀ ls' : Array Slot, hasL X ls' nL L1 → W p l e R s m args below meth c H locs cells slots Q (F0 m q1 ls' (st1.map (trv X)))) : W p l e R s m args below meth c H locs cells slots Q (F0 m pc ls (st.map (trv X))) := by
  obtain ⟨rfl, rfl, rfl⟩ := ha
  simp only [pst] at hs
  split at hs
  · split at hs
    · cases hs
    · rename_i hw
      cases hs
      exact lv_pop hx hb hd (trv_cat hX (by rw [isW_L]; simpa using hw)) (kk ls hl)
  · cases hs
theorem sp_dup2 (hx : p.tables.exec = Jvm.exec) (hb : c.code = cc) (hX : (xo X).category = 1) (hd : decode cc pc = .ok (.dup2, len)) (ha : agp pc (.dup2) len op a b z q) (hs : pst op a b z q L st = some (q1, L1, st1)) (hl : hasL X ls nL L)
    (kk : ∀ ls' : Array Slot, hasL X ls' nL L1 → W p l e R s m args below meth c H locs cells slots Q (F0 m q1 ls' (st1.map (trv X)))) : W p l e R s m args below meth c H locs cells slots Q (F0 m pc ls (st.map (trv X))) := by
  obtain ⟨rfl, rfl, rfl⟩ := ha
  simp only [pst] at hs
  split at hs
  · split at hs
    · cases hs
    · rename_i hw
      cases hs
      exact lv_dup2_11 hx hb hd (trv_cat hX (by rw [isW_L]; simp only [not_or, Bool.not_eq_true] at hw; exact hw.1)) (trv_cat hX (by rw [isW_L]; simp only [not_or, Bool.not_eq_true] at hw; exact hw.2)) (kk ls hl)
  · cases hs
theorem sp_goto (hx : p.tables.exec = Jvm.exec) (hb : c.code = cc) (hX : (xo X).category = 1) {off : Int} (hd : decode cc pc = .ok (.goto off, len)) (ha : agp pc (.goto off) len op a b z q) (hs : pst op a b z q L st = some (q1, L1, st1)) (hl : hasL X ls nL L)
    (kk : ∀ ls' : Array Slot, hasL X ls' nL L1 → W p l e R s m args below meth c H locs cells slots Q (F0 m q1 ls' (st1.map (trv X)))) : W p l e R s m args below meth c H locs cells slots Q (F0 m pc ls (st.map (trv X))) := by
  obtain ⟨rfl, rfl, ht⟩ := ha
  cases hs
  exact lv_goto hx hb hd ht (kk ls hl)
theorem sp_if_eq (hx : p.tables.exec = Jvm.exec) (hb : c.code = cc) (hX : (xo X).category = 1) {off : Int} (hd : decode cc pc = .ok (.ifCond .eq off, len)) (ha : agp pc (.ifCond .eq off) len op a b z q) (hs : pst op a b z q L st = some (q1, L1, st1)) (hl : hasL X ls nL L)
    (kk : ∀ ls' : Array Slot, hasL X ls' nL L1 → W p l e R s m args below meth c H locs cells slots Q (F0 m q1 ls' (st1.map (trv X)))) : W p l e R s m args below meth c H locs cells slots Q (F0 m pc ls (st.map (trv X))) := by
  obtain ⟨rfl, rfl, rfl, rfl, ht⟩ := ha
  simp only [pst] at hs
  split at hs
  · cases hs
    refine lv_if_eq hx hb hd ht (fun h => ?_) (fun h => ?_)
    · have k2 := kk ls hl; rw [if_pos (by simpa [cnd] using h)] at k2; exact k2
    · have k2 := kk ls hl; rw [if_neg (by simpa [cnd] using h)] at k2; exact k2
  · cases hs
theorem sp_icmp_eq (hx : p.tables.exec = Jvm.exec) (hb : c.code = cc) (hX : (xo X).category = 1) {off : Int} (hd : decode cc pc = .ok (.if_icmp .eq off, len)) (ha : agp pc (.if_icmp .eq off) len op a b z q) (hs : pst op a b z q L st = some (q1, L1, st1)) (hl : hasL X ls nL L)
    (kk : ∀ ls' : Array Slot, hasL X ls' nL L1 → W p l e R s m args below meth c H locs cells slots Q (F0 m q1 ls' (st1.map (trv X)))) : W p l e R s m args below meth c H locs cells slots Q (F0 m pc ls (st.map (trv X))) := by
  obtain ⟨rfl, rfl, rfl, rfl, ht⟩ := ha
  simp only [pst] at hs
  split at hs
  · cases hs
    refine lv_icmp_eq hx hb hd ht (fun h => ?_) (fun h => ?_)
    · have k2 := kk ls hl; rw [if_pos (by simpa [cnd] using h)] at k2; exact k2
    · have k2 := kk ls hl; rw [if_neg (by simpa [cnd] using h)] at k2; exact k2
  · cases hs
theorem sp_if_ne (hx : p.tables.exec = Jvm.exec) (hb : c.code = cc) (hX : (xo X).category = 1) {off : Int} (hd : decode cc pc = .ok (.ifCond .ne off, len)) (ha : agp pc (.ifCond .ne off) len op a b z q) (hs : pst op a b z q L st = some (q1, L1, st1)) (hl : hasL X ls nL L)
    (kk : ∀ ls' : Array Slot, hasL X ls' nL L1 → W p l e R s m args below meth c H locs cells slots Q (F0 m q1 ls' (st1.map (trv X)))) : W p l e R s m args below meth c H locs cells slots Q (F0 m pc ls (st.map (trv X))) := by
  obtain ⟨rfl, rfl, rfl, rfl, ht⟩ := ha
  simp only [pst] at hs
  split at hs
  · cases hs
    refine lv_if_ne hx hb hd ht (fun h => ?_) (fun h => ?_)
    · have k2 := kk ls hl; rw [if_pos (by simpa [cnd] using h)] at k2; exact k2
    · have k2 := kk ls hl; rw [if_neg (by simpa [cnd] using h)] at k2; exact k2
  · cases hs
theorem sp_icmp_ne (hx : p.tables.exec = Jvm.exec) (hb : c.code = cc) (hX : (xo X).category = 1) {off : Int} (hd : decode cc pc = .ok (.if_icmp .ne off, len)) (ha : agp pc (.if_icmp .ne off) len op a b z q) (hs : pst op a b z q L st = some (q1, L1, st1)) (hl : hasL X ls nL L)
    (kk : ∀ ls' : Array Slot, hasL X ls' nL L1 → W p l e R s m args below meth c H locs cells slots Q (F0 m q1 ls' (st1.map (trv X)))) : W p l e R s m args below meth c H locs cells slots Q (F0 m pc ls (st.map (trv X))) := by
  obtain ⟨rfl, rfl, rfl, rfl, ht⟩ := ha
  simp only [pst] at hs
  split at hs
  · cases hs
    refine lv_icmp_ne hx hb hd ht (fun h => ?_) (fun h => ?_)
    · have k2 := kk ls hl; rw [if_pos (by simpa [cnd] using h)] at k2; exact k2
    · have k2 := kk ls hl; rw [if_neg (by simpa [cnd] using h)] at k2; exact k2
  · cases hs
theorem sp_if_lt (hx : p.tables.exec = Jvm.exec) (hb : c.code = cc) (hX : (xo X).category = 1) {off : Int} (hd : decode cc pc = .ok (.ifCond .lt off, len)) (ha : agp pc (.ifCond .lt off) len op a b z q) (hs : pst op a b z q L st = some (q1, L1, st1)) (hl : hasL X ls nL L)
    (kk : ∀ ls' : Array Slot, hasL X ls' nL L1 → W p l e R s m args below meth c H locs cells slots Q (F0 m q1 ls' (st1.map (trv X)))) : W p l e R s m args below meth c H locs cells slots Q (F0 m pc ls (st.map (trv X))) := by
  obtain ⟨rfl, rfl, rfl, rfl, ht⟩ := ha
  simp only [pst] at hs
  split at hs
  · cases hs
    refine lv_if_lt hx hb hd ht (fun h => ?_) (fun h => ?_)
    · have k2 := kk ls hl; rw [if_pos (by simpa [cnd] using h)] at k2; exact k2
    · have k2 := kk ls hl; rw [if_neg (by simpa [cnd] using h)] at k2; exact k2
  · cases hs
theorem sp_icmp_lt (hx : p.tables.exec = Jvm.exec) (hb : c.code = cc) (hX : (xo X).category = 1) {off : Int} (hd : decode cc pc = .ok (.if_icmp .lt off, len)) (ha : agp pc (.if_icmp .lt off) len op a b z q) (hs : pst op a b z q L st = some (q1, L1, st1)) (hl : hasL X ls nL L)
    (kk : ∀ ls' : Array Slot, hasL X ls' nL L1 → W p l e R s m args below meth c H locs cells slots Q (F0 m q1 ls' (st1.map (trv X)))) : W p l e R s m args below meth c H locs cells slots Q (F0 m pc ls (st.map (trv X))) := by
  obtain ⟨rfl, rfl, rfl, rfl, ht⟩ := ha
  simp only [pst] at hs
  split at hs
  · cases hs
    refine lv_icmp_lt hx hb hd ht (fun h => ?_) (fun h => ?_)
    · have k2 := kk ls hl; rw [if_pos (by simpa [cnd] using h)] at k2; exact k2
    · have k2 := kk ls hl; rw [if_neg (by simpa [cnd] using h)] at k2; exact k2
  · cases hs
theorem sp_if_ge (hx : p.tables.exec = Jvm.exec) (hb : c.code = cc) (hX : (xo X).category = 1) {off : Int} (hd : decode cc pc = .ok (.ifCond .ge off, len)) (ha : agp pc (.ifCond .ge off) len op a b z q) (hs : pst op a b z q L st = some (q1, L1, st1)) (hl : hasL X ls nL L)
    (kk : ∀ ls' : Array Slot, hasL X ls' nL L1 → W p l e R s m args below meth c H locs cells slots Q (F0 m q1 ls' (st1.map (trv X)))) : W p l e R s m args below meth c H locs cells slots Q (F0 m pc ls (st.map (trv X))) := by
  obtain ⟨rfl, rfl, rfl, rfl, ht⟩ := ha
  simp only [pst] at hs
  split at hs
  · cases hs
    refine lv_if_ge hx hb hd ht (fun h => ?_) (fun h => ?_)
    · have k2 := kk ls hl; rw [if_pos (by simpa [cnd] using h)] at k2; exact k2
    · have k2 := kk ls hl; rw [if_neg (by simpa [cnd] using h)] at k2; exact k2
  · cases hs
theorem sp_icmp_ge (hx : p.tables.exec = Jvm.exec) (hb : c.code = cc) (hX : (xo X).category = 1) {off : Int} (hd : decode cc pc = .ok (.if_icmp .ge off, len)) (ha : agp pc (.if_icmp .ge off) len op a b z q) (hs : pst op a b z q L st = some (q1, L1, st1)) (hl : hasL X ls nL L)
    (kk : ∀ ls' : Array Slot, hasL X ls' nL L1 → W p l e R s m args below meth c H locs cells slots Q (F0 m q1 ls' (st1.map (trv X)))) : W p l e R s m args below meth c H locs cells slots Q (F0 m pc ls (st.map (trv X))) := by
  obtain ⟨rfl, rfl, rfl, rfl, ht⟩ := ha
  simp only [pst] at hs
  split at hs
  · cases hs
    refine lv_icmp_ge hx hb hd ht (fun h => ?_) (fun h => ?_)
    · have k2 := kk ls hl; rw [if_pos (by simpa [cnd] using h)] at k2; exact k2
    · have k2 := kk ls hl; rw [if_neg (by simpa [cnd] using h)] at k2; exact k2
  · cases hs
theorem sp_if_gt (hx : p.tables.exec = Jvm.exec) (hb : c.code = cc) (hX : (xo X).category = 1) {off : Int} (hd : decode cc pc = .ok (.ifCond .gt off, len)) (ha : agp pc (.ifCond .gt off) len op a b z q) (hs : pst op a b z q L st = some (q1, L1, st1)) (hl : hasL X ls nL L)
    (kk : ∀ ls' : Array Slot, hasL X ls' nL L1 → W p l e R s m args below meth c H locs cells slots Q (F0 m q1 ls' (st1.map (trv X)))) : W p l e R s m args below meth c H locs cells slots Q (F0 m pc ls (st.map (trv X))) := by
  obtain ⟨rfl, rfl, rfl, rfl, ht⟩ := ha
  simp only [pst] at hs
  split at hs
  · cases hs
    refine lv_if_gt hx hb hd ht (fun h => ?_) (fun h => ?_)
    · have k2 := kk ls hl; rw [if_pos (by simpa [cnd] using h)] at k2; exact k2
    · have k2 := kk ls hl; rw [if_neg (by simpa [cnd] using h)] at k2; exact k2
  · cases hs
theorem sp_icmp_gt (hx : p.tables.exec = Jvm.exec) (hb : c.code = cc) (hX : (xo X).category = 1) {off : Int} (hd : decode cc pc = .ok (.if_icmp .gt off, len)) (ha : agp pc (.if_icmp .gt off) len op a b z q) (hs : pst op a b z q L st = some (q1, L1, st1)) (hl : hasL X ls nL L)
    (kk : ∀ ls' : Array Slot, hasL X ls' nL L1 → W p l e R s m args below meth c H locs cells slots Q (F0 m q1 ls' (st1.map (trv X)))) : W p l e R s m args below meth c H locs cells slots Q (F0 m pc ls (st.map (trv X))) := by
  obtain ⟨rfl, rfl, rfl, rfl, ht⟩ := ha
  simp only [pst] at hs
  split at hs
  · cases hs
    refine lv_icmp_gt hx hb hd ht (fun h => ?_) (fun h => ?_)
    · have k2 := kk ls hl; rw [if_pos (by simpa [cnd] using h)] at k2; exact k2
    · have k2 := kk ls hl; rw [if_neg (by simpa [cnd] using h)] at k2; exact k2
  · cases hs
theorem sp_if_le (hx : p.tables.exec = Jvm.exec) (hb : c.code = cc) (hX : (xo X).category = 1) {off : Int} (hd : decode cc pc = .ok (.ifCond .le off, len)) (ha : agp pc (.ifCond .le off) len op a b z q) (hs : pst op a b z q L st = some (q1, L1, st1)) (hl : hasL X ls nL L)
    (kk : ∀ ls' : Array Slot, hasL X ls' nL L1 → W p l e R s m args below meth c H locs cells slots Q (F0 m q1 ls' (st1.map (trv X)))) : W p l e R s m args below meth c H locs cells slots Q (F0 m pc ls (st.map (trv X))) := by
  obtain ⟨rfl, rfl, rfl, rfl, ht⟩ := ha
  simp only [pst] at hs
  split at hs
  · cases hs
    refine lv_if_le hx hb hd ht (fun h => ?_) (fun h => ?_)
    · have k2 := kk ls hl; rw [if_pos (by simpa [cnd] using h)] at k2; exact k2
    · have k2 := kk ls hl; rw [if_neg (by simpa [cnd] using h)] at k2; exact k2
  · cases hs
theorem sp_icmp_le (hx : p.tables.exec = Jvm.exec) (hb : c.code = cc) (hX : (xo X).category = 1) {off : Int} (hd : decode cc pc = .ok (.if_icmp .le off, len)) (ha : agp pc (.if_icmp .le off) len op a b z q) (hs : pst op a b z q L st = some (q1, L1, st1)) (hl : hasL X ls nL L)
    (kk : ∀ ls' : Array Slot, hasL X ls' nL L1 → W p l e R s m args below meth c H locs cells slots Q (F0 m q1 ls' (st1.map (trv X)))) : W p l e R s m args below meth c H locs cells slots Q (F0 m pc ls (st.map (trv X))) := by
  obtain ⟨rfl, rfl, rfl, rfl, ht⟩ := ha
  simp only [pst] at hs
  split at hs
  · cases hs
    refine lv_icmp_le hx hb hd ht (fun h => ?_) (fun h => ?_)
    · have k2 := kk ls hl; rw [if_pos (by simpa [cnd] using h)] at k2; exact k2
    · have k2 := kk ls hl; rw [if_neg (by simpa [cnd] using h)] at k2; exact k2
  · cases hs
end SP
end
section
/-! THE WORLD: which heap holds the plain machine's cells -/
def tyl (X : CX) : List (ClassId × FieldType) := [(xc X 1, .int), (xc X 2, .char), (xc X 3, .boolean), (xc X 4, .long), (xc X 5, .object "StrangeWinding$Scene"), (xc X 6, .object "StrangeWinding$State")]
def fvl (X : CX) (h : HS) (k n j : Nat) : Value := match (kt k).2.2[j]? with
  | some (1, _) => .long (h.2.2.1 k n j)
  | some (2, rk) => va_rf ((h.2.2.2 k n j).map fun m => xz X + pos rk m)
  | _ => .int (h.2.1 k n j)
def rka (k : Nat) : Nat := match (kt k).2.2 with
  | [(_, rk)] => rk
  | _ => 0
def ent (X : CX) (h : HS) (k n : Nat) : va_E := match (kt k).1 with
  | 0 => .inr ((kt k).2.1, (List.range (kt k).2.2.length).map (fvl X h k n))
  | 1 => .inl (xc X 1, (kt k).2.1, .inl (h.2.1 k n))
  | 2 => .inl (xc X 2, (kt k).2.1, .inl (h.2.1 k n))
  | 3 => .inl (xc X 3, (kt k).2.1, .inl (h.2.1 k n))
  | 4 => .inl (xc X 4, (kt k).2.1, .inr (.inl (h.2.2.1 k n)))
  | _ => .inl (xc X (if rka k = 23 then 5 else 6), (kt k).2.1, .inr (.inr (.inr (.inr fun j => (h.2.2.2 k n j).map fun m => xz X + pos (rka k) m))))
def ckd (i : Nat) : Nat × Nat := cord.getD i (0, 0)
def wsl (X : CX) (h : HS) : va_W := (List.range h.1.1).map fun i => (xz X + i, ent X h (ckd i).1 (ckd i).2)
def aok (h : HS) : Prop := h.1.1 ≤ NN ∧ ∀ k n, k < 82 → n < h.1.2 k → ∃ i, i < h.1.1 ∧ cord[i]? = some (k, n)
def Rel (X : CX) (h : HS) (H : Heap) : Prop := va_P (xD X) vwCl (wsl X h) H ∧ aok h
abbrev xA (X : CX) : Nat → Prop := fun q => xz X ≤ q
theorem cord_nd : cord.Nodup := by decide +kernel
theorem cord_k : ∀ x ∈ cord, 0 < x.1 ∧ x.1 < 82 := by decide +kernel
theorem pos_at {i k n : Nat} (h : cord[i]? = some (k, n)) : pos k n = i := by
  obtain ⟨hi, e⟩ := List.getElem?_eq_some_iff.mp h
  unfold pos
  rw [← e]
  exact cord_nd.idxOf_getElem i hi
theorem ckd_at {i k n : Nat} (h : cord[i]? = some (k, n)) : ckd i = (k, n) := by simp [ckd, List.getD, h]
theorem ckd_inj {i j k n : Nat} (hi : i < NN) (h : cord[j]? = some (k, n)) (e : ckd i = (k, n)) : i = j := by
  have hl : i < cord.length := hi
  have h1 : cord[i]? = some (k, n) := by
    rw [List.getElem?_eq_getElem hl]
    rw [← e]
    simp [ckd, List.getD, List.getElem?_eq_getElem hl]
  exact (pos_at h1).symm.trans (pos_at h)
theorem trv_cell (X : CX) {k n : Nat} (h0 : 0 < k) (h1 : k < 82) : trv X (.inr (.inr (k, n))) = .ref (xz X + pos k n) := by
  simp only [trv]
  rw [if_neg (by omega), if_neg (by omega), if_neg (by omega), if_neg (by omega)]
theorem wsl_at {X : CX} {h : HS} {i k n : Nat} (hi : i < h.1.1) (hc : cord[i]? = some (k, n)) : (wsl X h)[i]? = some (xz X + i, ent X h k n) := by
  simp [wsl, List.getElem?_map, List.getElem?_range hi, ckd_at hc]
/-- what the tables of kinds say of an object -/
theorem kt_out {k : Nat} (h : ¬ k < 82) : kt k = (9, 0, []) := by
  have h2 : ktab.length ≤ k := by show 82 ≤ k; omega
  simp [kt, List.getD, List.getElem?_eq_none h2]
theorem kt_lt {k : Nat} (h : (kt k).1 < 9) : k < 82 := by
  apply Decidable.byContradiction
  intro hk
  rw [kt_out hk] at h
  exact absurd h (by decide)
theorem cell_at {X : CX} {h : HS} {k n : Nat} (ha : aok h) (hk : (kt k).1 < 9) (hn : n < h.1.2 k) : (0 < k ∧ k < 82) ∧ pos k n < h.1.1 ∧ cord[pos k n]? = some (k, n) ∧ (wsl X h)[pos k n]? = some (xz X + pos k n, ent X h k n) := by
  obtain ⟨i, hi, hc⟩ := ha.2 k n (kt_lt hk) hn
  have hp := pos_at hc
  rw [hp]
  exact ⟨cord_k _ (List.mem_of_getElem? hc), hi, hc, wsl_at hi hc⟩
theorem wsl_D {X : CX} {h : HS} : va_D (xA X) (wsl X h) := by
  refine ⟨fun i j x y hx hy e => ?_, fun k x hx => ?_⟩
  · simp only [wsl, List.getElem?_map, Option.map_eq_some_iff] at hx hy
    obtain ⟨a, ha, rfl⟩ := hx
    obtain ⟨b, hb, rfl⟩ := hy
    have ha := (List.getElem?_eq_some_iff.mp ha).2
    have hb := (List.getElem?_eq_some_iff.mp hb).2
    simp at ha hb e
    omega
  · simp only [wsl, List.getElem?_map, Option.map_eq_some_iff] at hx
    obtain ⟨a, ha, rfl⟩ := hx
    simp
theorem wsl_set {X : CX} {h h' : HS} {i k n : Nat} {e' : va_E} (ha : aok h) (hi : i < h.1.1) (hc : cord[i]? = some (k, n)) (ht : h'.1 = h.1) (he : ent X h' k n = e') (ho : ∀ k' n', ¬ (k' = k ∧ n' = n) → ent X h' k' n' = ent X h k' n') : (wsl X h).set i (xz X + i, e') = wsl X h' := by
  apply List.ext_getElem?
  intro j
  by_cases hij : i = j
  · subst hij
    rw [List.getElem?_set_self (by simp [wsl]; exact hi), wsl_at (h := h') (by rw [ht]; exact hi) hc, he]
  · rw [List.getElem?_set_ne hij]
    simp only [wsl, List.getElem?_map]
    rw [ht]
    by_cases hj : j < h.1.1
    · rw [List.getElem?_range hj]
      simp only [Option.map_some]
      rw [ho]
      intro hkn
      exact hij (ckd_inj (Nat.lt_of_lt_of_le hj ha.1) hc (Prod.ext hkn.1 hkn.2)).symm
    · rw [List.getElem?_eq_none (by simpa using hj)]
      rfl
/-- ints of one cell changed: the other cells are as they were -/
theorem ent_F {X : CX} {h : HS} {F : FT} {k n k' n' : Nat} (hF : ∀ k2 n2, ¬ (k2 = k ∧ n2 = n) → F k2 n2 = h.2.1 k2 n2) (hne : ¬ (k' = k ∧ n' = n)) : ent X (h.1, F, h.2.2.1, h.2.2.2) k' n' = ent X h k' n' := by
  have e := hF k' n' hne
  have e2 : fvl X (h.1, F, h.2.2.1, h.2.2.2) k' n' = fvl X h k' n' := by
    funext j
    simp only [fvl, e]
  simp only [ent, e, e2]
theorem ent_G {X : CX} {h : HS} {G : GT} {k n k' n' : Nat} (hG : ∀ k2 n2, ¬ (k2 = k ∧ n2 = n) → G k2 n2 = h.2.2.1 k2 n2) (hne : ¬ (k' = k ∧ n' = n)) : ent X (h.1, h.2.1, G, h.2.2.2) k' n' = ent X h k' n' := by
  have e := hG k' n' hne
  have e2 : fvl X (h.1, h.2.1, G, h.2.2.2) k' n' = fvl X h k' n' := by
    funext j
    simp only [fvl, e]
  simp only [ent, e, e2]
theorem ent_R {X : CX} {h : HS} {R : RT} {k n k' n' : Nat} (hR : ∀ k2 n2, ¬ (k2 = k ∧ n2 = n) → R k2 n2 = h.2.2.2 k2 n2) (hne : ¬ (k' = k ∧ n' = n)) : ent X (h.1, h.2.1, h.2.2.1, R) k' n' = ent X h k' n' := by
  have e := hR k' n' hne
  have e2 : fvl X (h.1, h.2.1, h.2.2.1, R) k' n' = fvl X h k' n' := by
    funext j
    simp only [fvl, e]
  simp only [ent, e, e2]
theorem uF_ne {F : FT} {k n i : Nat} {v : Int32} {k2 n2 : Nat} (h : ¬ (k2 = k ∧ n2 = n)) : uF F k n i v k2 n2 = F k2 n2 := by
  funext j
  simp only [uF]
  rw [if_neg (fun q => h ⟨q.1, q.2.1⟩)]
theorem uG_ne {F : GT} {k n i : Nat} {v : Int64} {k2 n2 : Nat} (h : ¬ (k2 = k ∧ n2 = n)) : uG F k n i v k2 n2 = F k2 n2 := by
  funext j
  simp only [uG]
  rw [if_neg (fun q => h ⟨q.1, q.2.1⟩)]
theorem uR_ne {F : RT} {k n i : Nat} {v : Option Nat} {k2 n2 : Nat} (h : ¬ (k2 = k ∧ n2 = n)) : uR F k n i v k2 n2 = F k2 n2 := by
  funext j
  simp only [uR]
  rw [if_neg (fun q => h ⟨q.1, q.2.1⟩)]
theorem cF_ne {F : FT} {k n a k3 n3 b m : Nat} {k2 n2 : Nat} (h : ¬ (k2 = k ∧ n2 = n)) : cF F k n a k3 n3 b m k2 n2 = F k2 n2 := by
  funext j
  simp only [cF]
  rw [if_neg h]
theorem uF_eq (F : FT) (k n i : Nat) (v : Int32) : uF F k n i v k n = upd (F k n) i v := by
  funext j
  simp [uF, upd]
theorem uG_eq (F : GT) (k n i : Nat) (v : Int64) : uG F k n i v k n = vp_updL (F k n) i v := by
  funext j
  simp [uG, vp_updL]
theorem uR_eq (F : RT) (k n i : Nat) (v : Option Nat) : uR F k n i v k n = va_up (F k n) i v := by
  funext j
  simp [uR, va_up]
theorem cF_eq (F : FT) (k n a k3 n3 b m : Nat) : cF F k n a k3 n3 b m k n = va_cpy (F k3 n3) (F k n) b a m := by
  funext j
  simp [cF]
def tyok (t : Nat × Nat) (ty : FieldType) : Bool := match t.1, ty with
  | 0, .int => true
  | 1, .long => true
  | 3, .boolean => true
  | 2, .object _ => decide (0 < t.2 ∧ t.2 < 82)
  | 2, .array _ => decide (0 < t.2 ∧ t.2 < 82)
  | _, _ => false
theorem kt_obj0 : ((List.range 82).all fun k => (kt k).1 != 0 || (match vwCl[(kt k).2.1]? with
  | some r => decide (r.2.2 = (kt k).2.2.length) && ((List.range r.2.2).all fun j => match (kt k).2.2[j]? with
    | some t => tyok t (vty (kt k).2.1 j)
    | none => false)
  | none => false)) = true := by decide +kernel
theorem kt_obj {k : Nat} (h : (kt k).1 = 0) : ∃ r : vw_C, vwCl[(kt k).2.1]? = some r ∧ r.2.2 = (kt k).2.2.length ∧ ∀ j t, (kt k).2.2[j]? = some t → tyok t (vty (kt k).2.1 j) = true := by
  have hk : k < 82 := by
    apply Decidable.byContradiction
    intro hk
    rw [kt_out hk] at h
    cases h
  have h1 := List.all_eq_true.mp kt_obj0 k (List.mem_range.mpr hk)
  rw [h] at h1
  simp only [bne_self_eq_false, Bool.false_or] at h1
  split at h1
  · rename_i r hr
    simp only [Bool.and_eq_true, decide_eq_true_eq] at h1
    refine ⟨r, hr, h1.1, fun j t ht => ?_⟩
    have hj : j < r.2.2 := by rw [h1.1]; exact (List.getElem?_eq_some_iff.mp ht).1
    have h2 := List.all_eq_true.mp h1.2 j (List.mem_range.mpr hj)
    rw [ht] at h2
    exact h2
  · cases h1
theorem ent_obj {X : CX} {h : HS} {k n : Nat} (hk : (kt k).1 = 0) : ent X h k n = .inr ((kt k).2.1, (List.range (kt k).2.2.length).map (fvl X h k n)) := by simp only [ent, hk]
end
section
/-! SOUNDNESS II: fields and rows -/
def slen : List Nat := sbyt.map List.length
/-- what is outside the cells: the tables, text constants, the script, statics -/
def Ou (X : CX) (Ls : Nat) (xs : Nat → Int32) (s : State) (H : Heap) : Prop :=
  va_K (xD X) vwCl (tyl X) s ∧ (∀ x ∈ nek, va_Nw (.methodLinkNest (own x.1) x.2.1 (yy x.2.2) "StrangeWinding") s) ∧ va_AO "StrangeWinding$Scene" s ∧ va_AO "StrangeWinding$State" s ∧
  (∀ n t, strs[n]? = some t → vk_R t.1 t.2.1 t.2.2 (xK X n) s) ∧ vk_S 26 slen sbyt (xK X) (xV X) (xA X) s H ∧ va_X (xb X) Ls xs s H ∧ xb X < xz X ∧
  va_Z "java/lang/String" "COMPACT_STRINGS" "Z" (.int 1) (xA X) s H ∧ va_Z "jdk/internal/util/Preconditions" "SIOOBE_FORMATTER" "Ljava/util/function/BiFunction;" (xo X) (xA X) s H ∧ xz X ≤ H.size ∧ (xo X).category = 1
theorem Ou.to {X : CX} {Ls : Nat} {xs : Nat → Int32} {s U : State} {H H1 : Heap} {locs : List Loc} (hW : s.WarmedH U.vm) (hS : va_S (xA X) H H1 locs) (h : Ou X Ls xs s H) : Ou X Ls xs U H1 := by
  obtain ⟨h1, h2, h3, h4, h5, h6, h7, h8, h9, h10, h11, h12⟩ := h
  refine ⟨va_K.moved hW.alike h1, fun x hx => va_Nw.warmM hW (h2 x hx), h3.moved hW.alike, h4.moved hW.alike, fun n t ht => (h5 n t ht).warm hW, (h6.kept hS.2.1).moved hW.alike, (h7.kept (hS.2.1 _ (by omega) (by show ¬ xz X ≤ xb X; omega))).moved hW.alike, h8, (h9.kept hS.2.1).moved hW.alike, (h10.kept hS.2.1).moved hW.alike, Nat.le_trans h11 hS.1, h12⟩
theorem map_set {f g : Nat → Value} {N j : Nat} {w : Value} (hj : g j = w) (ho : ∀ i, i ≠ j → g i = f i) : (List.range N).map g = ((List.range N).map f).set j w := by
  apply List.ext_getElem?
  intro i
  by_cases hij : j = i
  · subst hij
    by_cases hl : j < N
    · rw [List.getElem?_set_self (by simpa using hl)]
      simp [List.getElem?_map, List.getElem?_range hl, hj]
    · rw [List.getElem?_eq_none (by simpa using hl), List.getElem?_eq_none (by simpa using hl)]
  · rw [List.getElem?_set_ne hij]
    simp only [List.getElem?_map]
    by_cases hl : i < N
    · simp [List.getElem?_range hl, ho i (fun e => hij e.symm)]
    · rw [List.getElem?_eq_none (by simpa using hl)]
      rfl
def fin2 (k j : Nat) : Bool := match vwCl[(kt k).2.1]? with
  | some r => (r.2.1 j).2.2.2
  | none => false
def dcl (k j : Nat) : String := match vwCl[(kt k).2.1]? with
  | some r => (r.2.1 j).1
  | none => ""
theorem nz01 {x : Int32} (h : x = 0 ∨ x = 1) : narrow .boolean (.int x) = .int x ∧ fits .boolean (.int x) = true := by rcases h with rfl | rfl <;> decide
section SH
variable {p : Program} {l : Launch} {e : Env} {R : Room} {s : State} {m : MethodId} {args : Array Value} {below : List Frame} {meth : Method} {c : Code} {H : Heap} {locs : List Loc} {cells slots : Nat} {Q : State → Prop}
variable {cc : ByteArray} {pc : Nat} {ls : Array Slot} {rest : List Value} {X : CX} {Ls : Nat} {xs : Nat → Int32} {h h1 : HS} {o : Nat}
theorem sh_get (hx : p.tables.exec = Jvm.exec) (hb : c.code = cc) (hown : s.vm.findClass (own o) = some m.cls) (hts : ∀ w ∈ wtb, w.before args s = true) (hO : Ou X Ls xs s s.heap) (hR : Rel X h H)
    {idx K j k n : Nat} {v : PV} (hlk : (o, idx, K, j) ∈ flk) (h90 : ¬ K = 90) (hg : gfd h K j k n = some v) (hd : decode cc pc = .ok (.getfield idx, 3))
    (kk : W p l e R s m args below meth c H locs cells slots Q (F0 m (pc + 3) ls (trv X v :: rest))) : W p l e R s m args below meth c H locs cells slots Q (F0 m pc ls (trv X (.inr (.inr (k, n))) :: rest)) := by
  simp only [gfd, if_neg h90] at hg
  split at hg
  · rename_i hc
    obtain ⟨rfl, hn⟩ := hc
    by_cases h0 : (kt k).1 = 0
    · obtain ⟨⟨k0, k1⟩, -, -, hw⟩ := cell_at (X := X) hR.2 (by rw [h0]; decide) hn
      obtain ⟨⟨C, T, N⟩, hr, hrl, hty⟩ := kt_obj h0
      rw [ent_obj h0] at hw
      cases ht : (kt k).2.2[j]? with
      | none => simp [h0, ht] at hg
      | some t =>
        have hjl : j < N := by rw [show N = (kt k).2.2.length from hrl]; exact (List.getElem?_eq_some_iff.mp ht).1
        have hv : fvl X h k n j = trv X v := by
          have hq := hty j t ht
          obtain ⟨t1, t2⟩ := t
          rw [h0, ht] at hg
          match t1, ht, hg, hq with
          | 0, ht, hg, _ => cases hg; simp [fvl, ht, trv]
          | 1, ht, hg, _ => cases hg; simp [fvl, ht, trv]
          | 3, ht, hg, _ => cases hg; simp [fvl, ht, trv]
          | 2, ht, hg, hq =>
            simp only at hg
            split at hg
            · rename_i m2 hm2
              cases hg
              have h2 : 0 < t2 ∧ t2 < 82 := by
                unfold tyok at hq
                split at hq <;> simp_all
              rw [trv_cell X h2.1 h2.2]
              simp [fvl, ht, hm2, va_rf]
            · cases hg
          | t1 + 4, ht, hg, _ => cases hg
        rw [trv_cell X k0 k1]
        refine va_get hx hb hts (vw_ok hr).1 hown hO.1 hR.1 _ hw hr j hjl (hts _ (flk_in _ (List.mem_map.mpr ⟨_, hlk, by simp only [flC, hr]⟩))) (fun _ h9 => h9) (v := trv X v) ?_ hd kk
        rw [List.getElem?_map, List.getElem?_range (by rw [← show N = (kt k).2.2.length from hrl]; exact hjl)]
        simp [hv]
    · split at hg <;> simp_all
  · cases hg
theorem sh_put (hx : p.tables.exec = Jvm.exec) (hb : c.code = cc) (hown : s.vm.findClass (own o) = some m.cls) (hts : ∀ w ∈ wtb, w.before args s = true) (hO : Ou X Ls xs s s.heap) (hR : Rel X h H) (hS : va_S (xA X) s.heap H locs)
    {idx K j k n : Nat} {v : PV} (hlk : (o, idx, K, j) ∈ flk) (hg : pfd h K j k n v = some h1) (hfin : fin2 K j = true → meth.name = "<init>" ∧ dcl K j = own o) (hd : decode cc pc = .ok (.putfield idx, 3))
    (kk : ∀ (H1 : Heap) (locs1 : List Loc), Rel X h1 H1 → va_S (xA X) s.heap H1 locs1 → h1.1 = h.1 → W p l e R s m args below meth c H1 locs1 cells slots Q (F0 m (pc + 3) ls rest)) : W p l e R s m args below meth c H locs cells slots Q (F0 m pc ls (trv X v :: trv X (.inr (.inr (k, n))) :: rest)) := by
  simp only [pfd] at hg
  split at hg
  · rename_i hc
    obtain ⟨rfl, hn⟩ := hc
    by_cases h0 : (kt k).1 = 0
    · obtain ⟨⟨k0, k1⟩, hp1, hp2, hw⟩ := cell_at (X := X) hR.2 (by rw [h0]; decide) hn
      obtain ⟨⟨C, T, N⟩, hr, hrl, hty⟩ := kt_obj h0
      rw [ent_obj h0] at hw
      cases ht : (kt k).2.2[j]? with
      | none => simp [h0, ht] at hg
      | some t =>
        have hjl : j < N := by rw [show N = (kt k).2.2.length from hrl]; exact (List.getElem?_eq_some_iff.mp ht).1
        have hpd := (vw_ok hr).2.1 j hjl
        have hlink := hts _ (flk_in _ (List.mem_map.mpr ⟨_, hlk, rfl⟩))
        simp only [flC, hr] at hlink
        rw [h0, ht] at hg
        have main : narrow (vty (kt k).2.1 j) (trv X v) = trv X v ∧ fits (vty (kt k).2.1 j) (trv X v) = true ∧ h1.1 = h.1 ∧ ent X h1 k n = .inr ((kt k).2.1, ((List.range (kt k).2.2.length).map (fvl X h k n)).set j (trv X v)) ∧ (∀ k' n', ¬ (k' = k ∧ n' = n) → ent X h1 k' n' = ent X h k' n') := by
          have hq := hty j t ht
          obtain ⟨t1, t2⟩ := t
          generalize hvt : vty (kt k).2.1 j = ty at hq ⊢
          match t1, v, ht, hg, hq with
          | 0, .inl x, ht, hg, hq =>
            cases hg
            have hty2 : ty = .int := by unfold tyok at hq; split at hq <;> simp_all
            subst hty2
            refine ⟨rfl, rfl, rfl, ?_, fun k' n' hne => ent_F (fun k2 n2 hne2 => uF_ne hne2) hne⟩
            rw [ent_obj h0]
            congr 2
            refine map_set ?_ ?_
            · simp [fvl, ht, trv, uF]
            · intro i hi
              simp only [fvl]
              split <;> simp [uF, hi]
          | 3, .inl x, ht, hg, hq =>
            simp only at hg
            split at hg
            · rename_i h01
              cases hg
              have hty2 : ty = .boolean := by unfold tyok at hq; split at hq <;> simp_all
              subst hty2
              refine ⟨(nz01 h01).1, (nz01 h01).2, rfl, ?_, fun k' n' hne => ent_F (fun k2 n2 hne2 => uF_ne hne2) hne⟩
              rw [ent_obj h0]
              congr 2
              refine map_set ?_ ?_
              · simp [fvl, ht, trv, uF]
              · intro i hi
                simp only [fvl]
                split <;> simp [uF, hi]
            · cases hg
          | 1, .inr (.inl x), ht, hg, hq =>
            cases hg
            have hty2 : ty = .long := by unfold tyok at hq; split at hq <;> simp_all
            subst hty2
            refine ⟨rfl, rfl, rfl, ?_, fun k' n' hne => ent_G (fun k2 n2 hne2 => uG_ne hne2) hne⟩
            rw [ent_obj h0]
            congr 2
            refine map_set ?_ ?_
            · simp [fvl, ht, trv, uG]
            · intro i hi
              simp only [fvl]
              split <;> simp [uG, hi]
          | 2, .inr (.inr (k2, m2)), ht, hg, hq =>
            simp only at hg
            split at hg
            · rename_i h01
              cases hg
              obtain ⟨rfl, hm2⟩ := h01
              have hk2 : (0 < k2 ∧ k2 < 82) ∧ ((∃ C', ty = .object C') ∨ ∃ t', ty = .array t') := by unfold tyok at hq; split at hq <;> simp_all
              rw [trv_cell X hk2.1.1 hk2.1.2]
              refine ⟨by rcases hk2.2 with ⟨C', rfl⟩ | ⟨t', rfl⟩ <;> rfl, by rcases hk2.2 with ⟨C', rfl⟩ | ⟨t', rfl⟩ <;> rfl, rfl, ?_, fun k' n' hne => ent_R (fun k2 n2 hne2 => uR_ne hne2) hne⟩
              rw [ent_obj h0]
              congr 2
              refine map_set ?_ ?_
              · simp [fvl, ht, uR, va_rf]
              · intro i hi
                simp only [fvl]
                split <;> simp [uR, hi]
            · cases hg
          | 0, .inr _, ht, hg, hq => cases hg
          | 1, .inl _, ht, hg, hq => cases hg
          | 1, .inr (.inr _), ht, hg, hq => cases hg
          | 2, .inl _, ht, hg, hq => cases hg
          | 2, .inr (.inl _), ht, hg, hq => cases hg
          | 3, .inr _, ht, hg, hq => cases hg
          | t1 + 4, _, ht, hg, hq => cases hg
        obtain ⟨hn1, hn2, hn3, hn4, hn5⟩ := main
        have done : ∀ (H1 : Heap) (locs1 : List Loc), va_P (xD X) vwCl ((wsl X h).set (pos k n) (xz X + pos k n, .inr ((kt k).2.1, ((List.range (kt k).2.2.length).map (fvl X h k n)).set j (trv X v)))) H1 → va_D (xA X) ((wsl X h).set (pos k n) (xz X + pos k n, .inr ((kt k).2.1, ((List.range (kt k).2.2.length).map (fvl X h k n)).set j (trv X v)))) → va_S (xA X) s.heap H1 locs1 → W p l e R s m args below meth c H1 locs1 cells slots Q (F0 m (pc + 3) ls rest) := by
          intro H1 locs1 g1 g2 g3
          rw [wsl_set hR.2 hp1 hp2 hn3 hn4 hn5] at g1
          exact kk H1 locs1 ⟨g1, by rw [hn3]; exact hR.2.1, by rw [hn3]; exact hR.2.2⟩ g3 hn3
        rw [trv_cell X k0 k1]
        cases hf : (T j).2.2.2 with
        | false => exact va_put hx hb hts (vw_ok hr).1 (vty (kt k).2.1) (vw_ok hr).2.1 (vw_ok hr).2.2 hown hO.1 hR.1 wsl_D hS _ hw hr j hjl hlink (fun _ h9 => h9) hf hpd hn1 hn2 (by rw [List.length_map, List.length_range, ← show N = (kt k).2.2.length from hrl]; exact hjl) hd done
        | true =>
          obtain ⟨hi1, hi2⟩ := hfin (by simp only [fin2, hr]; exact hf)
          simp only [dcl, hr] at hi2
          exact va_putF hx hb hts (vw_ok hr).1 (vty (kt k).2.1) (vw_ok hr).2.1 (vw_ok hr).2.2 hown hO.1 hR.1 wsl_D hS _ hw hr j hjl hlink (fun _ h9 => h9) hf hi1 hi2 hpd hn1 hn2 (by rw [List.length_map, List.length_range, ← show N = (kt k).2.2.length from hrl]; exact hjl) hd done
    · split at hg <;> simp_all
  · cases hg
theorem ent_1 {X : CX} {h : HS} {k n : Nat} (hk : (kt k).1 = 1) : ent X h k n = .inl (xc X 1, (kt k).2.1, .inl (h.2.1 k n)) := by simp only [ent, hk]
theorem ent_2 {X : CX} {h : HS} {k n : Nat} (hk : (kt k).1 = 2) : ent X h k n = .inl (xc X 2, (kt k).2.1, .inl (h.2.1 k n)) := by simp only [ent, hk]
theorem ent_3 {X : CX} {h : HS} {k n : Nat} (hk : (kt k).1 = 3) : ent X h k n = .inl (xc X 3, (kt k).2.1, .inl (h.2.1 k n)) := by simp only [ent, hk]
theorem ent_4 {X : CX} {h : HS} {k n : Nat} (hk : (kt k).1 = 4) : ent X h k n = .inl (xc X 4, (kt k).2.1, .inr (.inl (h.2.2.1 k n))) := by simp only [ent, hk]
theorem ent_5 {X : CX} {h : HS} {k n : Nat} (hk : (kt k).1 = 5) : ent X h k n = .inl (xc X (if rka k = 23 then 5 else 6), (kt k).2.1, .inr (.inr (.inr (.inr fun j => (h.2.2.2 k n j).map fun m => xz X + pos (rka k) m)))) := by simp only [ent, hk]
theorem kt_ref0 : ((List.range 82).all fun k => (kt k).1 != 5 || (decide ((kt k).2.2 = [(2, rka k)]) && (decide (rka k = 23) || decide (rka k = 25)))) = true := by decide +kernel
theorem kt_ref {k : Nat} (h : (kt k).1 = 5) : (kt k).2.2 = [(2, rka k)] ∧ (rka k = 23 ∨ rka k = 25) := by
  have hk : k < 82 := by
    apply Decidable.byContradiction
    intro hk
    rw [kt_out hk] at h
    cases h
  have h1 := List.all_eq_true.mp kt_ref0 k (List.mem_range.mpr hk)
  rw [h] at h1
  simpa using h1
theorem sh_iald (hx : p.tables.exec = Jvm.exec) (hb : c.code = cc) (hO : Ou X Ls xs s s.heap) (hR : Rel X h H) (hS : va_S (xA X) s.heap H locs)
    {k n : Nat} {i : Int32} {v : PV} (hg : ald Ls xs h 1 k n i = some v) (hd : decode cc pc = .ok (.iaload, 1))
    (kk : W p l e R s m args below meth c H locs cells slots Q (F0 m (pc + 1) ls (trv X v :: rest))) : W p l e R s m args below meth c H locs cells slots Q (F0 m pc ls (.int i :: trv X (.inr (.inr (k, n))) :: rest)) := by
  simp only [ald] at hg
  split at hg
  · rename_i h0
    subst h0
    split at hg
    · rename_i hc
      cases hg
      obtain ⟨-, -, -, -, -, -, h7, h8, -, -, h11, -⟩ := hO
      exact va_sld hx hb h7 (by omega) (show ¬ xz X ≤ xb X by omega) hS (inb_in hc.2.2) hd kk
    · cases hg
  · split at hg
    · split at hg
      · rename_i hc
        exact absurd hc.1 (by decide)
      · cases hg
    · split at hg
      · rename_i hc
        cases hg
        obtain ⟨⟨k0, k1⟩, -, -, hw⟩ := cell_at (X := X) hR.2 (by rw [hc.1]; decide) hc.2.1
        rw [ent_1 hc.1] at hw
        rw [trv_cell X k0 k1]
        exact va_iald hx hb hO.1 hR.1 _ 0 hw rfl (inb_in hc.2.2) hd kk
      · cases hg
theorem sh_cald (hx : p.tables.exec = Jvm.exec) (hb : c.code = cc) (hO : Ou X Ls xs s s.heap) (hR : Rel X h H)
    {k n : Nat} {i : Int32} {v : PV} (hg : ald Ls xs h 2 k n i = some v) (hd : decode cc pc = .ok (.caload, 1))
    (kk : W p l e R s m args below meth c H locs cells slots Q (F0 m (pc + 1) ls (trv X v :: rest))) : W p l e R s m args below meth c H locs cells slots Q (F0 m pc ls (.int i :: trv X (.inr (.inr (k, n))) :: rest)) := by
  simp only [ald] at hg
  split at hg
  · split at hg
    · rename_i hc
      exact absurd hc.1 (by decide)
    · cases hg
  · split at hg
    · split at hg
      · rename_i hc
        exact absurd hc.1 (by decide)
      · cases hg
    · split at hg
      · rename_i hc
        cases hg
        obtain ⟨⟨k0, k1⟩, -, -, hw⟩ := cell_at (X := X) hR.2 (by rw [hc.1]; decide) hc.2.1
        rw [ent_2 hc.1] at hw
        rw [trv_cell X k0 k1]
        exact va_cald hx hb hO.1 hR.1 _ 1 hw rfl (inb_in hc.2.2) hd kk
      · cases hg
theorem sh_lald (hx : p.tables.exec = Jvm.exec) (hb : c.code = cc) (hO : Ou X Ls xs s s.heap) (hR : Rel X h H)
    {k n : Nat} {i : Int32} {v : PV} (hg : ald Ls xs h 4 k n i = some v) (hd : decode cc pc = .ok (.laload, 1))
    (kk : W p l e R s m args below meth c H locs cells slots Q (F0 m (pc + 1) ls (trv X v :: rest))) : W p l e R s m args below meth c H locs cells slots Q (F0 m pc ls (.int i :: trv X (.inr (.inr (k, n))) :: rest)) := by
  simp only [ald] at hg
  split at hg
  · split at hg
    · rename_i hc
      exact absurd hc.1 (by decide)
    · cases hg
  · split at hg
    · split at hg
      · rename_i hc
        exact absurd hc.1 (by decide)
      · cases hg
    · split at hg
      · rename_i hc
        cases hg
        obtain ⟨⟨k0, k1⟩, -, -, hw⟩ := cell_at (X := X) hR.2 (by rw [hc.1]; decide) hc.2.1
        rw [ent_4 hc.1] at hw
        rw [trv_cell X k0 k1]
        exact va_lald hx hb hO.1 hR.1 _ 3 hw rfl (inb_in hc.2.2) hd kk
      · cases hg
theorem slen_at (n : Nat) : slen.getD n 0 = (sby n).length := by
  simp only [slen, sby, List.getD, List.getElem?_map]
  cases sbyt[n]? <;> rfl
theorem sh_bald (hx : p.tables.exec = Jvm.exec) (hb : c.code = cc) (hO : Ou X Ls xs s s.heap) (hR : Rel X h H) (hS : va_S (xA X) s.heap H locs)
    {k n : Nat} {i : Int32} {v : PV} (hg : ald Ls xs h 3 k n i = some v) (hd : decode cc pc = .ok (.baload, 1))
    (kk : W p l e R s m args below meth c H locs cells slots Q (F0 m (pc + 1) ls (trv X v :: rest))) : W p l e R s m args below meth c H locs cells slots Q (F0 m pc ls (.int i :: trv X (.inr (.inr (k, n))) :: rest)) := by
  simp only [ald] at hg
  split at hg
  · split at hg
    · rename_i hc
      exact absurd hc.1 (by decide)
    · cases hg
  · split at hg
    · rename_i h91
      subst h91
      split at hg
      · rename_i hc
        cases hg
        obtain ⟨-, -, -, -, -, h6, -⟩ := hO
        have hT := (h6.1 n hc.2.1).2.2.2
        rw [slen_at] at hT
        exact va_tb hx hb hT hS (inb_in hc.2.2) rfl hd kk
      · cases hg
    · split at hg
      · rename_i hc
        cases hg
        obtain ⟨⟨k0, k1⟩, -, -, hw⟩ := cell_at (X := X) hR.2 (by rw [hc.1]; decide) hc.2.1
        rw [ent_3 hc.1] at hw
        rw [trv_cell X k0 k1]
        exact va_zald hx hb hO.1 hR.1 _ 2 hw rfl (inb_in hc.2.2) hd kk
      · cases hg
theorem sh_aald (hx : p.tables.exec = Jvm.exec) (hb : c.code = cc) (hO : Ou X Ls xs s s.heap) (hR : Rel X h H)
    {k n : Nat} {i : Int32} {v : PV} (hg : ald Ls xs h 5 k n i = some v) (hd : decode cc pc = .ok (.aaload, 1))
    (kk : W p l e R s m args below meth c H locs cells slots Q (F0 m (pc + 1) ls (trv X v :: rest))) : W p l e R s m args below meth c H locs cells slots Q (F0 m pc ls (.int i :: trv X (.inr (.inr (k, n))) :: rest)) := by
  simp only [ald] at hg
  split at hg
  · split at hg
    · rename_i hc
      exact absurd hc.1 (by decide)
    · cases hg
  · split at hg
    · split at hg
      · rename_i hc
        exact absurd hc.1 (by decide)
      · cases hg
    · split at hg
      · rename_i hc
        obtain ⟨⟨k0, k1⟩, -, -, hw⟩ := cell_at (X := X) hR.2 (by rw [hc.1]; decide) hc.2.1
        rw [ent_5 hc.1] at hw
        obtain ⟨hr1, hr2⟩ := kt_ref hc.1
        rw [trv_cell X k0 k1]
        split at hg
        · rename_i m2 rk hm2 hrk
          cases hg
          rw [hr1] at hrk
          have hrk2 : rka k = rk := by simp at hrk; exact hrk.2
          rw [← hrk2, trv_cell X (by omega) (by omega)] at kk
          rcases hr2 with hr2 | hr2
          · refine va_aldq hx hb hO.1 hR.1 _ 4 hw (by rw [if_pos hr2]; rfl) (inb_in hc.2.2) hd ?_
            rw [hm2]
            exact kk
          · refine va_aldq hx hb hO.1 hR.1 _ 5 hw (by rw [if_neg (by omega)]; rfl) (inb_in hc.2.2) hd ?_
            rw [hm2]
            exact kk
        · cases hg
      · cases hg
end SH
end
section
/-! SOUNDNESS III: stores, lengths, new cells -/
theorem vp_nar_z {x : Int32} (h : x = 0 ∨ x = 1) : vp_nar .boolean x = x := by rcases h with rfl | rfl <;> decide
section ST
variable {p : Program} {l : Launch} {e : Env} {R : Room} {s : State} {m : MethodId} {args : Array Value} {below : List Frame} {meth : Method} {c : Code} {H : Heap} {locs : List Loc} {cells slots : Nat} {Q : State → Prop}
variable {cc : ByteArray} {pc : Nat} {ls : Array Slot} {rest : List Value} {X : CX} {Ls : Nat} {xs : Nat → Int32} {h h1 : HS} {o : Nat}
theorem Rel.set {k n : Nat} {e' : va_E} {H1 : Heap} (hR : Rel X h H) (hk : (kt k).1 < 9) (hn : n < h.1.2 k) (ht : h1.1 = h.1) (he : ent X h1 k n = e') (ho : ∀ k' n', ¬ (k' = k ∧ n' = n) → ent X h1 k' n' = ent X h k' n') (hP : va_P (xD X) vwCl ((wsl X h).set (pos k n) (xz X + pos k n, e')) H1) : Rel X h1 H1 := by
  obtain ⟨-, hp1, hp2, -⟩ := cell_at (X := X) hR.2 hk hn
  rw [wsl_set hR.2 hp1 hp2 ht he ho] at hP
  exact ⟨hP, by rw [ht]; exact hR.2.1, by rw [ht]; exact hR.2.2⟩
theorem sh_iast (hx : p.tables.exec = Jvm.exec) (hb : c.code = cc) (hO : Ou X Ls xs s s.heap) (hR : Rel X h H) (hS : va_S (xA X) s.heap H locs)
    {k n : Nat} {i : Int32} {v : PV} (hg : ast h 1 k n i v = some h1) (hd : decode cc pc = .ok (.iastore, 1))
    (kk : ∀ (H1 : Heap) (locs1 : List Loc), Rel X h1 H1 → va_S (xA X) s.heap H1 locs1 → h1.1 = h.1 → W p l e R s m args below meth c H1 locs1 cells slots Q (F0 m (pc + 1) ls rest)) : W p l e R s m args below meth c H locs cells slots Q (F0 m pc ls (trv X v :: .int i :: trv X (.inr (.inr (k, n))) :: rest)) := by
  simp only [ast] at hg
  split at hg
  · rename_i hc
    obtain ⟨⟨k0, k1⟩, hp1, hp2, hw⟩ := cell_at (X := X) hR.2 (by rw [hc.1]; decide) hc.2.1
    rw [ent_1 hc.1] at hw
    rw [trv_cell X k0 k1]
    match v, hg with
    | .inl x, hg =>
      cases hg
      refine va_iast hx hb hO.1 hR.1 wsl_D hS _ 0 hw rfl (inb_in hc.2.2) hd (fun H1 locs1 g1 g2 g3 => kk H1 locs1 (hR.set (by rw [hc.1]; decide) hc.2.1 rfl ?_ ?_ g1) g3 rfl)
      · rw [ent_1 hc.1, ← uF_eq]
      · exact fun k' n' hne => ent_F (fun k2 n2 hne2 => uF_ne hne2) hne
    | .inr _, hg => cases hg
  · cases hg
theorem sh_cast (hx : p.tables.exec = Jvm.exec) (hb : c.code = cc) (hO : Ou X Ls xs s s.heap) (hR : Rel X h H) (hS : va_S (xA X) s.heap H locs)
    {k n : Nat} {i : Int32} {v : PV} (hg : ast h 2 k n i v = some h1) (hd : decode cc pc = .ok (.castore, 1))
    (kk : ∀ (H1 : Heap) (locs1 : List Loc), Rel X h1 H1 → va_S (xA X) s.heap H1 locs1 → h1.1 = h.1 → W p l e R s m args below meth c H1 locs1 cells slots Q (F0 m (pc + 1) ls rest)) : W p l e R s m args below meth c H locs cells slots Q (F0 m pc ls (trv X v :: .int i :: trv X (.inr (.inr (k, n))) :: rest)) := by
  simp only [ast] at hg
  split at hg
  · rename_i hc
    obtain ⟨⟨k0, k1⟩, hp1, hp2, hw⟩ := cell_at (X := X) hR.2 (by rw [hc.1]; decide) hc.2.1
    rw [ent_2 hc.1] at hw
    rw [trv_cell X k0 k1]
    match v, hg with
    | .inl x, hg =>
      cases hg
      refine va_cast hx hb hO.1 hR.1 wsl_D hS _ 1 hw rfl (inb_in hc.2.2) hd (fun H1 locs1 g1 g2 g3 => kk H1 locs1 (hR.set (by rw [hc.1]; decide) hc.2.1 rfl ?_ ?_ g1) g3 rfl)
      · rw [ent_2 hc.1, ← uF_eq]
      · exact fun k' n' hne => ent_F (fun k2 n2 hne2 => uF_ne hne2) hne
    | .inr _, hg => cases hg
  · cases hg
theorem sh_zast (hx : p.tables.exec = Jvm.exec) (hb : c.code = cc) (hO : Ou X Ls xs s s.heap) (hR : Rel X h H) (hS : va_S (xA X) s.heap H locs)
    {k n : Nat} {i : Int32} {v : PV} (hg : ast h 3 k n i v = some h1) (hd : decode cc pc = .ok (.bastore, 1))
    (kk : ∀ (H1 : Heap) (locs1 : List Loc), Rel X h1 H1 → va_S (xA X) s.heap H1 locs1 → h1.1 = h.1 → W p l e R s m args below meth c H1 locs1 cells slots Q (F0 m (pc + 1) ls rest)) : W p l e R s m args below meth c H locs cells slots Q (F0 m pc ls (trv X v :: .int i :: trv X (.inr (.inr (k, n))) :: rest)) := by
  simp only [ast] at hg
  split at hg
  · rename_i hc
    obtain ⟨⟨k0, k1⟩, hp1, hp2, hw⟩ := cell_at (X := X) hR.2 (by rw [hc.1]; decide) hc.2.1
    rw [ent_3 hc.1] at hw
    rw [trv_cell X k0 k1]
    match v, hg with
    | .inl x, hg =>
      simp only at hg
      split at hg
      · rename_i h01
        cases hg
        refine va_zast hx hb hO.1 hR.1 wsl_D hS _ 2 hw rfl (inb_in hc.2.2) hd (fun H1 locs1 g1 g2 g3 => kk H1 locs1 (hR.set (by rw [hc.1]; decide) hc.2.1 rfl ?_ ?_ g1) g3 rfl)
        · rw [ent_3 hc.1, ← uF_eq, vp_nar_z h01]
        · exact fun k' n' hne => ent_F (fun k2 n2 hne2 => uF_ne hne2) hne
      · cases hg
    | .inr _, hg => cases hg
  · cases hg
theorem sh_last (hx : p.tables.exec = Jvm.exec) (hb : c.code = cc) (hO : Ou X Ls xs s s.heap) (hR : Rel X h H) (hS : va_S (xA X) s.heap H locs)
    {k n : Nat} {i : Int32} {v : PV} (hg : ast h 4 k n i v = some h1) (hd : decode cc pc = .ok (.lastore, 1))
    (kk : ∀ (H1 : Heap) (locs1 : List Loc), Rel X h1 H1 → va_S (xA X) s.heap H1 locs1 → h1.1 = h.1 → W p l e R s m args below meth c H1 locs1 cells slots Q (F0 m (pc + 1) ls rest)) : W p l e R s m args below meth c H locs cells slots Q (F0 m pc ls (trv X v :: .int i :: trv X (.inr (.inr (k, n))) :: rest)) := by
  simp only [ast] at hg
  split at hg
  · rename_i hc
    obtain ⟨⟨k0, k1⟩, hp1, hp2, hw⟩ := cell_at (X := X) hR.2 (by rw [hc.1]; decide) hc.2.1
    rw [ent_4 hc.1] at hw
    rw [trv_cell X k0 k1]
    match v, hg with
    | .inr (.inl x), hg =>
      cases hg
      refine va_last hx hb hO.1 hR.1 wsl_D hS _ 3 hw rfl (inb_in hc.2.2) hd (fun H1 locs1 g1 g2 g3 => kk H1 locs1 (hR.set (by rw [hc.1]; decide) hc.2.1 rfl ?_ ?_ g1) g3 rfl)
      · rw [ent_4 hc.1, ← uG_eq]
      · exact fun k' n' hne => ent_G (fun k2 n2 hne2 => uG_ne hne2) hne
    | .inl _, hg => cases hg
    | .inr (.inr _), hg => cases hg
  · cases hg
theorem sh_aast (hx : p.tables.exec = Jvm.exec) (hb : c.code = cc) (hO : Ou X Ls xs s s.heap) (hR : Rel X h H) (hS : va_S (xA X) s.heap H locs)
    {k n : Nat} {i : Int32} {v : PV} (hg : ast h 5 k n i v = some h1) (hd : decode cc pc = .ok (.aastore, 1))
    (kk : ∀ (H1 : Heap) (locs1 : List Loc), Rel X h1 H1 → va_S (xA X) s.heap H1 locs1 → h1.1 = h.1 → W p l e R s m args below meth c H1 locs1 cells slots Q (F0 m (pc + 1) ls rest)) : W p l e R s m args below meth c H locs cells slots Q (F0 m pc ls (trv X v :: .int i :: trv X (.inr (.inr (k, n))) :: rest)) := by
  simp only [ast] at hg
  split at hg
  · rename_i hc
    obtain ⟨⟨k0, k1⟩, hp1, hp2, hw⟩ := cell_at (X := X) hR.2 (by rw [hc.1]; decide) hc.2.1
    rw [ent_5 hc.1] at hw
    obtain ⟨hr1, hr2⟩ := kt_ref hc.1
    rw [trv_cell X k0 k1]
    match v, hg with
    | .inr (.inr (k2, m2)), hg =>
      simp only [hr1] at hg
      split at hg
      · rename_i h2
        cases hg
        obtain ⟨rfl, hm2⟩ := h2
        have ho2 : (kt (rka k)).1 = 0 := by rcases hr2 with hr2 | hr2 <;> rw [hr2] <;> rfl
        obtain ⟨⟨j0, j1⟩, -, -, hw2⟩ := cell_at (X := X) hR.2 (by rw [ho2]; decide) hm2
        rw [ent_obj ho2] at hw2
        rw [trv_cell X j0 j1]
        have hfin : ∀ (H1 : Heap) (locs1 : List Loc), va_P (xD X) vwCl ((wsl X h).set (pos k n) (xz X + pos k n, .inl (xc X (if rka k = 23 then 5 else 6), (kt k).2.1, .inr (.inr (.inr (.inr (va_up (fun j => (h.2.2.2 k n j).map fun m => xz X + pos (rka k) m) i.toNatClampNeg (some (xz X + pos (rka k) m2))))))))) H1 → va_S (xA X) s.heap H1 locs1 → W p l e R s m args below meth c H1 locs1 cells slots Q (F0 m (pc + 1) ls rest) := by
          intro H1 locs1 g1 g3
          refine kk H1 locs1 (hR.set (by rw [hc.1]; decide) hc.2.1 rfl ?_ ?_ g1) g3 rfl
          · rw [ent_5 hc.1]
            congr 7
            funext j
            simp only [uR_eq, va_up]
            split <;> rfl
          · exact fun k' n' hne => ent_R (fun k2 n2 hne2 => uR_ne hne2) hne
        rcases hr2 with hr2 | hr2
        · exact va_astq hx hb hO.1 hR.1 wsl_D hS _ 4 _ _ hw (r := (RX6, TX6, 4)) (by rw [if_pos hr2]; rfl) hw2 (by rw [hr2]; rfl) (inb_in hc.2.2) hd (fun H1 locs1 g1 g2 g3 => hfin H1 locs1 g1 g3)
        · exact va_astq hx hb hO.1 hR.1 wsl_D hS _ 5 _ _ hw (r := (RX7, TX7, 7)) (by rw [if_neg (by omega)]; rfl) hw2 (by rw [hr2]; rfl) (inb_in hc.2.2) hd (fun H1 locs1 g1 g2 g3 => hfin H1 locs1 g1 g3)
      · cases hg
    | .inl _, hg => cases hg
    | .inr (.inl _), hg => cases hg
  · cases hg
theorem sh_alen (hx : p.tables.exec = Jvm.exec) (hb : c.code = cc) (hO : Ou X Ls xs s s.heap) (hR : Rel X h H) (hS : va_S (xA X) s.heap H locs)
    {k n : Nat} {v : Int32} (hg : aln Ls h k n = some v) (hd : decode cc pc = .ok (.arraylength, 1))
    (kk : W p l e R s m args below meth c H locs cells slots Q (F0 m (pc + 1) ls (.int v :: rest))) : W p l e R s m args below meth c H locs cells slots Q (F0 m pc ls (trv X (.inr (.inr (k, n))) :: rest)) := by
  simp only [aln] at hg
  split at hg
  · rename_i h0
    subst h0
    split at hg
    · cases hg
      obtain ⟨-, -, -, -, -, -, h7, h8, -, -, h11, -⟩ := hO
      exact va_slen hx hb h7 (by omega) (show ¬ xz X ≤ xb X by omega) hS hd kk
    · cases hg
  · split at hg
    · rename_i h91
      subst h91
      split at hg
      · rename_i hn
        cases hg
        obtain ⟨-, -, -, -, -, h6, -⟩ := hO
        have hT := (h6.1 n hn).2.2.2
        rw [slen_at] at hT
        exact va_tlen hx hb hT hS rfl hd kk
      · cases hg
    · split at hg
      · rename_i hc
        cases hg
        obtain ⟨⟨k0, k1⟩, -, -, hw⟩ := cell_at (X := X) hR.2 (by omega) hc.2.2
        rw [trv_cell X k0 k1]
        have h5 : (kt k).1 = 1 ∨ (kt k).1 = 2 ∨ (kt k).1 = 3 ∨ (kt k).1 = 4 ∨ (kt k).1 = 5 := by omega
        rcases h5 with h5 | h5 | h5 | h5 | h5
        · rw [ent_1 h5] at hw
          exact va_alen hx hb hO.1 hR.1 _ 0 hw rfl rfl hd kk
        · rw [ent_2 h5] at hw
          exact va_alen hx hb hO.1 hR.1 _ 1 hw rfl rfl hd kk
        · rw [ent_3 h5] at hw
          exact va_alen hx hb hO.1 hR.1 _ 2 hw rfl rfl hd kk
        · rw [ent_4 h5] at hw
          exact va_alen hx hb hO.1 hR.1 _ 3 hw rfl rfl hd kk
        · rw [ent_5 h5] at hw
          by_cases h23 : rka k = 23
          · exact va_alen hx hb hO.1 hR.1 _ 4 hw (ty := .object "StrangeWinding$Scene") (by rw [if_pos h23]; rfl) rfl hd kk
          · exact va_alen hx hb hO.1 hR.1 _ 5 hw (ty := .object "StrangeWinding$State") (by rw [if_neg h23]; rfl) rfl hd kk
      · cases hg
end ST
end
section
/-! SOUNDNESS IV: new cells, and the rest of the steps -/
def csz (k : Nat) : Nat := if (kt k).1 = 0 then (kt k).2.2.length else (kt k).2.1
/-- the slots of the first t cells -/
def slt (t : Nat) : Nat := ((cord.take t).map fun x => csz x.1).sum
theorem slt_succ {t k n : Nat} (h : cord[t]? = some (k, n)) : slt (t + 1) = slt t + csz k := by
  obtain ⟨hl, e⟩ := List.getElem?_eq_some_iff.mp h
  unfold slt
  rw [List.take_succ_eq_append_getElem hl, e]
  simp
theorem slt_mono {a b : Nat} (h : a ≤ b) : slt a ≤ slt b := by
  induction b with
  | zero =>
    have h2 : a = 0 := by omega
    rw [h2]
    exact Nat.le_refl _
  | succ b ih =>
    by_cases hb : a = b + 1
    · rw [hb]
      exact Nat.le_refl _
    · refine Nat.le_trans (ih (by omega)) ?_
      cases hc : cord[b]? with
      | some x =>
        obtain ⟨k, n⟩ := x
        rw [slt_succ hc]
        omega
      | none =>
        have hl : cord.length ≤ b := by simpa using hc
        unfold slt
        rw [List.take_of_length_le hl, List.take_of_length_le (by omega)]
        exact Nat.le_refl _
theorem alc_spec {k : Nat} {h h1 : HS} (hg : alc k h = some h1) : cord[h.1.1]? = some (k, h.1.2 k) ∧ h1 = ((h.1.1 + 1, uC h.1.2 k (h.1.2 k + 1)), zF h.2.1 k (h.1.2 k), zG h.2.2.1 k (h.1.2 k), zR h.2.2.2 k (h.1.2 k)) := by
  unfold alc at hg
  split at hg
  · rename_i hc
    exact ⟨hc, (Option.some.inj hg).symm⟩
  · cases hg
theorem alc_ent {X : CX} {k : Nat} {h h1 : HS} (hg : alc k h = some h1) {k' n' : Nat} (hne : ¬ (k' = k ∧ n' = h.1.2 k)) : ent X h1 k' n' = ent X h k' n' := by
  obtain ⟨-, rfl⟩ := alc_spec hg
  have e1 : zF h.2.1 k (h.1.2 k) k' n' = h.2.1 k' n' := by funext j; simp only [zF]; rw [if_neg hne]
  have e2 : zG h.2.2.1 k (h.1.2 k) k' n' = h.2.2.1 k' n' := by funext j; simp only [zG]; rw [if_neg hne]
  have e3 : zR h.2.2.2 k (h.1.2 k) k' n' = h.2.2.2 k' n' := by funext j; simp only [zR]; rw [if_neg hne]
  have e4 : fvl X ((h.1.1 + 1, uC h.1.2 k (h.1.2 k + 1)), zF h.2.1 k (h.1.2 k), zG h.2.2.1 k (h.1.2 k), zR h.2.2.2 k (h.1.2 k)) k' n' = fvl X h k' n' := by
    funext j
    simp only [fvl, e1, e2, e3]
  simp only [ent, e1, e2, e3, e4]
theorem alc_wsl {X : CX} {k : Nat} {h h1 : HS} (ha : aok h) (hg : alc k h = some h1) : wsl X h1 = wsl X h ++ [(xz X + h.1.1, ent X h1 k (h.1.2 k))] := by
  obtain ⟨hc, he⟩ := alc_spec hg
  have h11 : h1.1.1 = h.1.1 + 1 := by rw [he]
  unfold wsl
  rw [h11, List.range_succ, List.map_append]
  congr 1
  · apply List.map_congr_left
    intro i hi
    have hi : i < h.1.1 := List.mem_range.mp hi
    rw [alc_ent hg]
    intro hkn
    have h2 := ckd_inj (Nat.lt_of_lt_of_le hi ha.1) hc (Prod.ext hkn.1 hkn.2)
    omega
  · simp [ckd_at hc]
theorem alc_aok {k : Nat} {h h1 : HS} (ha : aok h) (hg : alc k h = some h1) : aok h1 := by
  obtain ⟨hc, he⟩ := alc_spec hg
  have hlt : h.1.1 < cord.length := (List.getElem?_eq_some_iff.mp hc).1
  have hNN : cord.length = NN := rfl
  rw [he]
  refine ⟨by show h.1.1 + 1 ≤ NN; omega, fun k' n' hk' hn' => ?_⟩
  simp only [uC] at hn'
  by_cases hkk : k' = k
  · rw [if_pos hkk] at hn'
    subst hkk
    by_cases hnn : n' = h.1.2 k'
    · subst hnn
      exact ⟨h.1.1, Nat.lt_succ_self _, hc⟩
    · obtain ⟨i, hi, hci⟩ := ha.2 k' n' hk' (by omega)
      exact ⟨i, Nat.lt_succ_of_lt hi, hci⟩
  · rw [if_neg hkk] at hn'
    obtain ⟨i, hi, hci⟩ := ha.2 k' n' hk' hn'
    exact ⟨i, Nat.lt_succ_of_lt hi, hci⟩
section SN
variable {p : Program} {l : Launch} {e : Env} {R : Room} {s : State} {m : MethodId} {args : Array Value} {below : List Frame} {meth : Method} {c : Code} {H : Heap} {locs : List Loc} {cells slots : Nat} {Q : State → Prop}
variable {cc : ByteArray} {pc : Nat} {ls : Array Slot} {rest : List Value} {X : CX} {Ls : Nat} {xs : Nat → Int32} {h h1 : HS} {o : Nat}
theorem W.sz {g : JFrame} (k : H.size ≤ s.heap.size + cells → W p l e R s m args below meth c H locs cells slots Q g) : W p l e R s m args below meth c H locs cells slots Q g :=
  fun T hT Y => k (by rw [← hT]; exact Y.same.2.2.1) T hT Y
/-- a new cell's address -/
theorem new_at {k n q : Nat} {en : va_E} {H1 : Heap} (ha : aok h) (hc : cord[h.1.1]? = some (k, n)) (hz : h.1.1 < NN → s.heap.size + cells = xz X + h.1.1) (hP : va_P (xD X) vwCl (wsl X h ++ [(q, en)]) H1) (hD : va_D (xA X) (wsl X h ++ [(q, en)])) (hle : H1.size ≤ s.heap.size + (cells + 1)) : q = xz X + h.1.1 := by
  have hlen : (wsl X h).length = h.1.1 := by simp [wsl]
  have hq : (wsl X h ++ [(q, en)])[h.1.1]? = some (q, en) := by rw [List.getElem?_append_right (by omega)]; simp [hlen]
  have hlt : q < H1.size := (hP _ _ hq).lt
  have hge : xz X ≤ q := hD.2 _ _ hq
  have hNN : h.1.1 < NN := (List.getElem?_eq_some_iff.mp hc).1
  have hs := hz hNN
  by_cases he : q = xz X + h.1.1
  · exact he
  · have hi : q - xz X < h.1.1 := by omega
    have h2 : (wsl X h ++ [(q, en)])[q - xz X]? = some (xz X + (q - xz X), ent X h (ckd (q - xz X)).1 (ckd (q - xz X)).2) := by
      rw [List.getElem?_append_left (by omega)]
      simp [wsl, List.getElem?_map, List.getElem?_range hi]
    have h3 := hD.1 _ _ _ _ h2 hq (by simp; omega)
    omega
end SN
end
section
/-! SOUNDNESS V: new, newarray, anewarray; constants of the tables; statics; arraycopy, max, min; switches -/
section SM
variable {p : Program} {l : Launch} {e : Env} {R : Room} {s : State} {m : MethodId} {args : Array Value} {below : List Frame} {meth : Method} {c : Code} {H : Heap} {locs : List Loc} {cells slots : Nat} {Q : State → Prop}
variable {cc : ByteArray} {pc : Nat} {ls : Array Slot} {rest : List Value} {X : CX} {Ls : Nat} {xs : Nat → Int32} {h h1 : HS} {o : Nat}
theorem alc_fvl {k : Nat} (hg : alc k h = some h1) (h0 : (kt k).1 = 0) {N : Nat} (hN : N = (kt k).2.2.length) (hty : ∀ j t, (kt k).2.2[j]? = some t → tyok t (vty (kt k).2.1 j) = true) : ∀ j, j < N → defaultValue (vty (kt k).2.1 j) = vp_V ((List.range (kt k).2.2.length).map (fvl X h1 k (h.1.2 k))) j := by
  obtain ⟨-, rfl⟩ := alc_spec hg
  intro j hj
  rw [hN] at hj
  have ht : (kt k).2.2[j]? = some ((kt k).2.2[j]) := List.getElem?_eq_getElem hj
  have hq := hty j _ ht
  simp only [vp_V, List.getD, List.getElem?_map, List.getElem?_range hj, Option.map_some, Option.getD_some, fvl, ht]
  generalize (kt k).2.2[j] = t at hq
  generalize vty (kt k).2.1 j = ty at hq
  obtain ⟨t1, t2⟩ := t
  unfold tyok at hq
  split at hq
  · rename_i e1; simp only at e1; subst e1; simp [zF, defaultValue]
  · rename_i e1; simp only at e1; subst e1; simp [zG, defaultValue]
  · rename_i e1; simp only at e1; subst e1; simp [zF, defaultValue]
  · rename_i e1; simp only at e1; subst e1; simp [zR, va_rf, defaultValue]
  · rename_i e1; simp only at e1; subst e1; simp [zR, va_rf, defaultValue]
  · cases hq
theorem sh_new (hx : p.tables.exec = Jvm.exec) (hb : c.code = cc) (hown : s.vm.findClass (own o) = some m.cls) (hts : ∀ w ∈ wtb, w.before args s = true) (hO : Ou X Ls xs s s.heap) (hR : Rel X h H) (hS : va_S (xA X) s.heap H locs)
    {idx k : Nat} (hlk : (o, idx, k) ∈ clk) (h0 : (kt k).1 = 0) (hg : alc k h = some h1) (hz : h.1.1 < NN → s.heap.size + cells = xz X + h.1.1) (hc1 : cells + 1 ≤ R.cells) (hc2 : slots + csz k ≤ R.slots) (hini : (Cond.initialized (clN k)).before args s = true) (hd : decode cc pc = .ok (.new idx, 3))
    (kk : ∀ (H1 : Heap), Rel X h1 H1 → va_S (xA X) s.heap H1 locs → W p l e R s m args below meth c H1 locs (cells + 1) (slots + csz k) Q (F0 m (pc + 3) ls (trv X (.inr (.inr (k, h.1.2 k))) :: rest))) : W p l e R s m args below meth c H locs cells slots Q (F0 m pc ls rest) := by
  obtain ⟨⟨C, T, N⟩, hr, hrl, hty⟩ := kt_obj h0
  obtain ⟨hc, he⟩ := alc_spec hg
  have hN : csz k = N := by unfold csz; rw [if_pos h0]; exact hrl.symm
  have hA : ∀ q, s.heap.size ≤ q → xA X q := fun q hq => Nat.le_trans hO.2.2.2.2.2.2.2.2.2.2.1 hq
  have hcn : clN k = C := by simp only [clN, hr]
  rw [hcn] at hini
  rw [hN] at hc2 kk
  have hlink := hts _ (clk_in _ (List.mem_map.mpr ⟨_, hlk, rfl⟩))
  simp only [hcn] at hlink
  have hinst := hts _ (inst2_in _ (List.mem_map.mpr ⟨_, List.mem_of_getElem? hr, rfl⟩))
  refine va_new hx hb hts (vw_ok hr).1 (vty (kt k).2.1) (vw_ok hr).2.1 hown hlink hinst hini hO.1 hR.1 wsl_D hS hA hr (alc_fvl (X := X) hg h0 hrl hty) hc1 hc2 hd (fun q H1 g1 g2 g3 => W.sz fun hle => ?_)
  have hq := new_at hR.2 hc hz g1 g2 hle
  subst hq
  have hk := cord_k _ (List.mem_of_getElem? hc)
  have hpos := pos_at hc
  rw [trv_cell X hk.1 hk.2, hpos] at kk
  refine kk H1 ⟨?_, alc_aok hR.2 hg⟩ g3
  rw [alc_wsl hR.2 hg, ent_obj h0]
  exact g1
theorem arr_same {cA : ClassId} {ty : FieldType} {t0 : Nat} {c0 : ClassId} (hK : va_K (xD X) vwCl (tyl X) s) (ht : (tyl X)[t0]? = some (c0, ty)) (hK2 : va_K (xD X) vwCl (tyl X ++ [(cA, ty)]) s) : cA = c0 := by
  have h1 := (hK.2 t0 _ ht).2
  have h2 := (hK2.2 6 (cA, ty) (by simp [tyl])).2
  cases ty with
  | object C =>
    obtain ⟨_, _, -, -, -, h4⟩ := h1
    obtain ⟨_, _, -, -, -, h5⟩ := h2
    exact Option.some.inj (h5.symm.trans h4)
  | _ => exact Option.some.inj (h2.symm.trans h1)
theorem sh_newaT (hx : p.tables.exec = Jvm.exec) (hb : c.code = cc) (hO : Ou X Ls xs s s.heap) (hR : Rel X h H) (hS : va_S (xA X) s.heap H locs)
    {k t0 : Nat} {c0 : ClassId} {ty : FieldType} {atype : ArrayType} {a0 : vp_A} (harr : (Cond.arrayClass (newarray.typeOf atype)).before args s = true) (hty : newarray.typeOf atype = ty) (ht : (tyl X)[t0]? = some (c0, ty)) (hb0 : (kt k).2.1 * componentBytes ty ≤ 536870912) (hlen : (kt k).2.1 < 2 ^ 31) (hcz : csz k = (kt k).2.1)
    (ha : ∀ cA : ClassId, vp_cell cA a0 = arrV cA (kt k).2.1 (fun _ => defaultValue ty)) (hent : ent X h1 k (h.1.2 k) = .inl (c0, a0)) (hg : alc k h = some h1) (hz : h.1.1 < NN → s.heap.size + cells = xz X + h.1.1) (hc1 : cells + 1 ≤ R.cells) (hc2 : slots + csz k ≤ R.slots) (hd : decode cc pc = .ok (.newarray atype, 2))
    (kk : ∀ (H1 : Heap), Rel X h1 H1 → va_S (xA X) s.heap H1 locs → W p l e R s m args below meth c H1 locs (cells + 1) (slots + csz k) Q (F0 m (pc + 2) ls (trv X (.inr (.inr (k, h.1.2 k))) :: rest))) : W p l e R s m args below meth c H locs cells slots Q (F0 m pc ls (.int (Int32.ofNat (kt k).2.1) :: rest)) := by
  obtain ⟨hc, he⟩ := alc_spec hg
  have hA : ∀ q, s.heap.size ≤ q → xA X q := fun q hq => Nat.le_trans hO.2.2.2.2.2.2.2.2.2.2.1 hq
  rw [hcz] at hc2 kk
  refine va_newa hx hb harr hty hO.1 hR.1 wsl_D hS hA ha (nI_pos hlen) (nI_clamp hlen) hb0 hc1 hc2 hd (fun q cA H1 gK g1 g2 g3 => W.sz fun hle => ?_)
  have hq := new_at hR.2 hc hz g1 g2 hle
  subst hq
  have hcA := arr_same hO.1 ht gK
  subst hcA
  have hk := cord_k _ (List.mem_of_getElem? hc)
  have hpos := pos_at hc
  rw [trv_cell X hk.1 hk.2, hpos] at kk
  refine kk H1 ⟨?_, alc_aok hR.2 hg⟩ g3
  rw [alc_wsl hR.2 hg, hent]
  exact g1
theorem kt_len0 : ((List.range 82).all fun k => decide ((kt k).2.1 ≤ 2000)) = true := by decide +kernel
theorem kt_len (k : Nat) : (kt k).2.1 ≤ 2000 := by
  by_cases hk : k < 82
  · simpa using List.all_eq_true.mp kt_len0 k (List.mem_range.mpr hk)
  · rw [kt_out hk]
    decide
def atyp (a : Nat) : ArrayType := match a with
  | 1 => .int
  | 2 => .char
  | 3 => .boolean
  | _ => .long
theorem sh_newa (hx : p.tables.exec = Jvm.exec) (hb : c.code = cc) (hts : ∀ w ∈ wtb, w.before args s = true) (hO : Ou X Ls xs s s.heap) (hR : Rel X h H) (hS : va_S (xA X) s.heap H locs)
    {k : Nat} (h4 : 1 ≤ (kt k).1 ∧ (kt k).1 ≤ 4) (hg : alc k h = some h1) (hz : h.1.1 < NN → s.heap.size + cells = xz X + h.1.1) (hc1 : cells + 1 ≤ R.cells) (hc2 : slots + csz k ≤ R.slots) (hd : decode cc pc = .ok (.newarray (atyp (kt k).1), 2))
    (kk : ∀ (H1 : Heap), Rel X h1 H1 → va_S (xA X) s.heap H1 locs → W p l e R s m args below meth c H1 locs (cells + 1) (slots + csz k) Q (F0 m (pc + 2) ls (trv X (.inr (.inr (k, h.1.2 k))) :: rest))) : W p l e R s m args below meth c H locs cells slots Q (F0 m pc ls (.int (Int32.ofNat (kt k).2.1) :: rest)) := by
  have hl := kt_len k
  have hcz : csz k = (kt k).2.1 := by unfold csz; rw [if_neg (by omega)]
  have h5 : (kt k).1 = 1 ∨ (kt k).1 = 2 ∨ (kt k).1 = 3 ∨ (kt k).1 = 4 := by omega
  obtain ⟨-, he⟩ := alc_spec hg
  have eF : h1.2.1 k (h.1.2 k) = fun _ => 0 := by rw [he]; funext j; simp [zF]
  have eG : h1.2.2.1 k (h.1.2 k) = fun _ => 0 := by rw [he]; funext j; simp [zG]
  rcases h5 with h5 | h5 | h5 | h5
  · rw [h5] at hd
    exact sh_newaT (ty := .int) (atype := .int) (t0 := 0) hx hb hO hR hS (hts (Cond.arrayClass .int) (arr_in _ (by simp))) rfl rfl (show (kt k).2.1 * 4 ≤ 536870912 by omega) (by omega) hcz (fun _ => rfl) (by rw [ent_1 h5, eF]) hg hz hc1 hc2 hd kk
  · rw [h5] at hd
    exact sh_newaT (ty := .char) (atype := .char) (t0 := 1) hx hb hO hR hS (hts (Cond.arrayClass .char) (arr_in _ (by simp))) rfl rfl (show (kt k).2.1 * 2 ≤ 536870912 by omega) (by omega) hcz (fun _ => rfl) (by rw [ent_2 h5, eF]) hg hz hc1 hc2 hd kk
  · rw [h5] at hd
    exact sh_newaT (ty := .boolean) (atype := .boolean) (t0 := 2) hx hb hO hR hS (hts (Cond.arrayClass .boolean) (arr_in _ (by simp))) rfl rfl (show (kt k).2.1 * 1 ≤ 536870912 by omega) (by omega) hcz (fun _ => rfl) (by rw [ent_3 h5, eF]) hg hz hc1 hc2 hd kk
  · rw [h5] at hd
    exact sh_newaT (ty := .long) (atype := .long) (t0 := 3) hx hb hO hR hS (hts (Cond.arrayClass .long) (arr_in _ (by simp))) rfl rfl (show (kt k).2.1 * 8 ≤ 536870912 by omega) (by omega) hcz (fun _ => rfl) (by rw [ent_4 h5, eG]) hg hz hc1 hc2 hd kk
theorem sh_newq (hx : p.tables.exec = Jvm.exec) (hb : c.code = cc) (hown : s.vm.findClass (own o) = some m.cls) (hts : ∀ w ∈ wtb, w.before args s = true) (hO : Ou X Ls xs s s.heap) (hR : Rel X h H) (hS : va_S (xA X) s.heap H locs)
    {idx k : Nat} (hlk : (o, idx, rka k) ∈ clk) (h5 : (kt k).1 = 5) (hg : alc k h = some h1) (hz : h.1.1 < NN → s.heap.size + cells = xz X + h.1.1) (hc1 : cells + 1 ≤ R.cells) (hc2 : slots + csz k ≤ R.slots) (hd : decode cc pc = .ok (.anewarray idx, 3))
    (kk : ∀ (H1 : Heap), Rel X h1 H1 → va_S (xA X) s.heap H1 locs → W p l e R s m args below meth c H1 locs (cells + 1) (slots + csz k) Q (F0 m (pc + 3) ls (trv X (.inr (.inr (k, h.1.2 k))) :: rest))) : W p l e R s m args below meth c H locs cells slots Q (F0 m pc ls (.int (Int32.ofNat (kt k).2.1) :: rest)) := by
  have hl := kt_len k
  have hcz : csz k = (kt k).2.1 := by unfold csz; rw [if_neg (by omega)]
  obtain ⟨hr1, hr2⟩ := kt_ref h5
  obtain ⟨hc, he⟩ := alc_spec hg
  have eR : (fun j => (h1.2.2.2 k (h.1.2 k) j).map fun m => xz X + pos (rka k) m) = fun _ => none := by rw [he]; funext j; simp [zR]
  have hA : ∀ q, s.heap.size ≤ q → xA X q := fun q hq => Nat.le_trans hO.2.2.2.2.2.2.2.2.2.2.1 hq
  have hlink := hts _ (clk_in _ (List.mem_map.mpr ⟨_, hlk, rfl⟩))
  have hk := cord_k _ (List.mem_of_getElem? hc)
  have hpos := pos_at hc
  rw [trv_cell X hk.1 hk.2, hpos] at kk
  rw [hcz] at hc2 kk
  rcases hr2 with hr2 | hr2
  · have hn : clN (rka k) = "StrangeWinding$Scene" := by rw [hr2]; rfl
    simp only [hn] at hlink
    refine va_newq hx hb hown hlink hO.2.2.1 hO.1 hR.1 wsl_D hS hA (nI_pos (by omega)) (nI_clamp (by omega)) (by omega) hc1 hc2 hd (fun q cA H1 gK g1 g2 g3 => W.sz fun hle => ?_)
    have hq := new_at hR.2 hc hz g1 g2 hle
    subst hq
    have hcA := arr_same hO.1 (t0 := 4) (c0 := xc X 5) rfl gK
    subst hcA
    refine kk H1 ⟨?_, alc_aok hR.2 hg⟩ g3
    rw [alc_wsl hR.2 hg, ent_5 h5, eR, if_pos hr2]
    exact g1
  · have hn : clN (rka k) = "StrangeWinding$State" := by rw [hr2]; rfl
    simp only [hn] at hlink
    refine va_newq hx hb hown hlink hO.2.2.2.1 hO.1 hR.1 wsl_D hS hA (nI_pos (by omega)) (nI_clamp (by omega)) (by omega) hc1 hc2 hd (fun q cA H1 gK g1 g2 g3 => W.sz fun hle => ?_)
    have hq := new_at hR.2 hc hz g1 g2 hle
    subst hq
    have hcA := arr_same hO.1 (t0 := 5) (c0 := xc X 6) rfl gK
    subst hcA
    refine kk H1 ⟨?_, alc_aok hR.2 hg⟩ g3
    rw [alc_wsl hR.2 hg, ent_5 h5, eR, if_neg (by omega)]
    exact g1
/-- the text constants' fields -/
theorem sh_getS (hx : p.tables.exec = Jvm.exec) (hb : c.code = cc) (hown : s.vm.findClass (own o) = some m.cls) (hts : ∀ w ∈ wtb, w.before args s = true) (hO : Ou X Ls xs s s.heap) (hS : va_S (xA X) s.heap H locs)
    {idx j k n : Nat} {v : PV} (ho : own o = "java/lang/String") (hj : (j = 0 ∧ idx = 9) ∨ (j = 1 ∧ idx = 15)) (hg : gfd h 90 j k n = some v) (hd : decode cc pc = .ok (.getfield idx, 3))
    (kk : W p l e R s m args below meth c H locs cells slots Q (F0 m (pc + 3) ls (trv X v :: rest))) : W p l e R s m args below meth c H locs cells slots Q (F0 m pc ls (trv X (.inr (.inr (k, n))) :: rest)) := by
  simp only [gfd, if_true] at hg
  rw [ho] at hown
  split at hg
  · rename_i hc
    obtain ⟨rfl, hn⟩ := hc
    obtain ⟨-, -, -, -, -, h6, -⟩ := hO
    obtain ⟨-, g2, g3, -⟩ := h6.1 n hn
    rcases hj with ⟨rfl, rfl⟩ | ⟨rfl, rfl⟩
    · simp only [if_true] at hg
      cases hg
      exact vk_getf hx hb g3 hS hown (hts _ (sfk_in (Cond.fieldLink "java/lang/String" 9 "java/lang/String" "value" "[B") (by simp [sfk]))) (fun _ h9 => h9) hd kk
    · rw [if_neg (by decide)] at hg
      cases hg
      exact vk_getf hx hb g2 hS hown (hts _ (sfk_in (Cond.fieldLink "java/lang/String" 15 "java/lang/String" "coder" "B") (by simp [sfk]))) (fun _ h9 => h9) hd kk
  · cases hg
end SM
end
section
/-! EVERY ENTRY FITS ITS INSTRUCTION (written by wip/whole/gen14.py) -/
/-- an entry fits an instruction that needs words of the tables: owner, place, whether it is a constructor's, the method's answer -/
def agl (o pc : Nat) (ini : Bool) (rt : Option FieldType) (ins : Instr) (len op a b : Nat) (z : PV) (q : Nat) : Bool := match ins with
  | .ldc i => decide (op = 0 ∧ len = 2 ∧ q = pc + 2) && (match z with
    | .inl v => cik.contains (o, i, v)
    | .inr (.inr (k, n)) => decide (k = 90) && (match strs[n]? with
      | some t => decide (t.1 = own o ∧ t.2.1 = i)
      | none => false)
    | _ => false)
  | .ldc_w i => decide (op = 0 ∧ len = 3 ∧ q = pc + 3) && (match z with
    | .inl v => cik.contains (o, i, v)
    | _ => false)
  | .ldc2_w i => decide (op = 0 ∧ len = 3 ∧ q = pc + 3) && (match z with
    | .inr (.inl v) => clk2.contains (o, i, v)
    | _ => false)
  | .getstatic i => decide (op = 0 ∧ len = 3 ∧ q = pc + 3 ∧ own o = "java/lang/String" ∧ ((i = 38 ∧ z = .inl 1) ∨ (i = 1053 ∧ z = .inr (.inr (99, 0)))))
  | .getfield i => decide (op = 29 ∧ len = 3 ∧ q = pc + 3) && (if a = 90 then decide (own o = "java/lang/String" ∧ ((b = 0 ∧ i = 9) ∨ (b = 1 ∧ i = 15))) else flk.contains (o, i, a, b))
  | .putfield i => decide (op = 30 ∧ len = 3 ∧ q = pc + 3) && flk.contains (o, i, a, b) && (!fin2 a b || (ini && decide (dcl a b = own o)))
  | .iaload => decide (op = 31 ∧ len = 1 ∧ q = pc + 1 ∧ a = 1)
  | .caload => decide (op = 31 ∧ len = 1 ∧ q = pc + 1 ∧ a = 2)
  | .baload => decide (op = 31 ∧ len = 1 ∧ q = pc + 1 ∧ a = 3)
  | .laload => decide (op = 31 ∧ len = 1 ∧ q = pc + 1 ∧ a = 4)
  | .aaload => decide (op = 31 ∧ len = 1 ∧ q = pc + 1 ∧ a = 5)
  | .iastore => decide (op = 32 ∧ len = 1 ∧ q = pc + 1 ∧ a = 1)
  | .castore => decide (op = 32 ∧ len = 1 ∧ q = pc + 1 ∧ a = 2)
  | .bastore => decide (op = 32 ∧ len = 1 ∧ q = pc + 1 ∧ a = 3)
  | .lastore => decide (op = 32 ∧ len = 1 ∧ q = pc + 1 ∧ a = 4)
  | .aastore => decide (op = 32 ∧ len = 1 ∧ q = pc + 1 ∧ a = 5)
  | .arraylength => decide (op = 33 ∧ len = 1 ∧ q = pc + 1)
  | .tableswitch df lo hi offs => decide (op = 38) && (match tswt[a]? with
    | some (lo2, ts, d2) => decide (lo2 = lo ∧ (pc : Int) + df = (d2 : Int) ∧ (ts.length : Int) = hi - lo + 1 ∧ offs.size = ts.length) && (offs.toList.zip ts).all (fun x => decide ((pc : Int) + x.1 = (x.2 : Int)))
    | none => false)
  | .return_ => decide (op = 35 ∧ len = 1 ∧ rt = none)
  | .ireturn => decide (op = 36 ∧ len = 1 ∧ ((a = 1 ∧ rt = some .int) ∨ (a = 2 ∧ rt = some .boolean) ∨ (a = 3 ∧ rt = some .char) ∨ (a = 4 ∧ rt = some .byte)))
  | .new i => decide (op = 39 ∧ len = 3 ∧ q = pc + 3) && clk.contains (o, i, a)
  | .newarray t => decide (op = 40 ∧ len = 2 ∧ q = pc + 2 ∧ t = atyp (kt a).1)
  | .anewarray i => decide (op = 41 ∧ len = 3 ∧ q = pc + 3) && clk.contains (o, i, rka a)
  | .invokevirtual i => decide (op = 34 ∧ len = 3 ∧ q = pc + 3 ∧ b = np a + 1) && mlk.contains (o, i, a, 0) && (match z with
    | .inr (.inr (K, _)) => decide ((K < 82 ∧ (kt K).1 = 0 ∧ clN K = (yy a).cls) ∨ (K = 90 ∧ (yy a).cls = "java/lang/String"))
    | _ => false)
  | .invokestatic i => decide (len = 3 ∧ q = pc + 3) && ((decide (op = 34 ∧ b = np a) && (mlk.contains (o, i, a, 1) || mlk.contains (o, i, a, 4))) || (decide (op = 46) && ack.contains (o, i)) || (decide (op = 47) && mk_max.contains (o, i)) || (decide (op = 48) && mk_min.contains (o, i)) || decide (op = 45 ∧ o = 19 ∧ b = 6))
  | .invokespecial i => decide (len = 3 ∧ q = pc + 3) && ((decide (op = 34 ∧ b = np a + 1) && (mlk.contains (o, i, a, 2) || mlk.contains (o, i, a, 3)) && (match z with
    | .inr (.inr (K, _)) => decide (K < 82)
    | _ => false)) || (decide (op = 44) && obk.contains (o, i)))
  | _ => false
def chk1 (m : Nat) (x : Nat × Ent) : Bool := x.2.1 == 99 || (match decode (bb m) x.1 with
  | .ok (ins, len) => agb x.1 ins len x.2.1 x.2.2.1 x.2.2.2.1 x.2.2.2.2.1 x.2.2.2.2.2 || agl (mo m) x.1 (decide ((yy m).name = "<init>")) (rr m) ins len x.2.1 x.2.2.1 x.2.2.2.1 x.2.2.2.2.1 x.2.2.2.2.2
  | .error _ => false)
def chkM (m : Nat) : Bool := (ctab.getD m []).all (chk1 m)
theorem chk_0 : chkM 0 = true := by decide +kernel
theorem chk_1 : chkM 1 = true := by decide +kernel
theorem chk_2 : chkM 2 = true := by decide +kernel
theorem chk_3 : chkM 3 = true := by decide +kernel
theorem chk_4 : chkM 4 = true := by decide +kernel
theorem chk_5 : chkM 5 = true := by decide +kernel
theorem chk_6 : chkM 6 = true := by decide +kernel
theorem chk_7 : chkM 7 = true := by decide +kernel
theorem chk_8 : chkM 8 = true := by decide +kernel
theorem chk_9 : chkM 9 = true := by decide +kernel
theorem chk_10 : chkM 10 = true := by decide +kernel
theorem chk_11 : chkM 11 = true := by decide +kernel
theorem chk_12 : chkM 12 = true := by decide +kernel
theorem chk_13 : chkM 13 = true := by decide +kernel
theorem chk_14 : chkM 14 = true := by decide +kernel
theorem chk_15 : chkM 15 = true := by decide +kernel
theorem chk_16 : chkM 16 = true := by decide +kernel
theorem chk_17 : chkM 17 = true := by decide +kernel
theorem chk_18 : chkM 18 = true := by decide +kernel
theorem chk_19 : chkM 19 = true := by decide +kernel
theorem chk_20 : chkM 20 = true := by decide +kernel
theorem chk_21 : chkM 21 = true := by decide +kernel
theorem chk_22 : chkM 22 = true := by decide +kernel
theorem chk_23 : chkM 23 = true := by decide +kernel
theorem chk_24 : chkM 24 = true := by decide +kernel
theorem chk_25 : chkM 25 = true := by decide +kernel
theorem chk_26 : chkM 26 = true := by decide +kernel
theorem chk_27 : chkM 27 = true := by decide +kernel
theorem chk_28 : chkM 28 = true := by decide +kernel
theorem chk_29 : chkM 29 = true := by decide +kernel
theorem chk_30 : chkM 30 = true := by decide +kernel
theorem chk_31 : chkM 31 = true := by decide +kernel
theorem chk_32 : chkM 32 = true := by decide +kernel
theorem chk_33 : chkM 33 = true := by decide +kernel
theorem chk_34 : chkM 34 = true := by decide +kernel
theorem chk_35 : chkM 35 = true := by decide +kernel
theorem chk_36 : chkM 36 = true := by decide +kernel
theorem chk_37 : chkM 37 = true := by decide +kernel
theorem chk_38 : chkM 38 = true := by decide +kernel
theorem chk_39 : chkM 39 = true := by decide +kernel
theorem chk_40 : chkM 40 = true := by decide +kernel
theorem chk_41 : chkM 41 = true := by decide +kernel
theorem chk_42 : chkM 42 = true := by decide +kernel
theorem chk_43 : chkM 43 = true := by decide +kernel
theorem chk_44 : chkM 44 = true := by decide +kernel
theorem chk_45 : chkM 45 = true := by decide +kernel
theorem chk_46 : chkM 46 = true := by decide +kernel
theorem chk_47 : chkM 47 = true := by decide +kernel
theorem chk_48 : chkM 48 = true := by decide +kernel
theorem chk_49 : chkM 49 = true := by decide +kernel
theorem chk_50 : chkM 50 = true := by decide +kernel
theorem chk_51 : chkM 51 = true := by decide +kernel
theorem chk_52 : chkM 52 = true := by decide +kernel
theorem chk_53 : chkM 53 = true := by decide +kernel
theorem chk_54 : chkM 54 = true := by decide +kernel
theorem chk_55 : chkM 55 = true := by decide +kernel
theorem chk_56 : chkM 56 = true := by decide +kernel
theorem chk_57 : chkM 57 = true := by decide +kernel
theorem chk_58 : chkM 58 = true := by decide +kernel
theorem chk_59 : chkM 59 = true := by decide +kernel
theorem chk_60 : chkM 60 = true := by decide +kernel
theorem chk_61 : chkM 61 = true := by decide +kernel
theorem chk_62 : chkM 62 = true := by decide +kernel
theorem chk_63 : chkM 63 = true := by decide +kernel
theorem chk_64 : chkM 64 = true := by decide +kernel
theorem chk_65 : chkM 65 = true := by decide +kernel
theorem chk_66 : chkM 66 = true := by decide +kernel
theorem chk_67 : chkM 67 = true := by decide +kernel
theorem chk_68 : chkM 68 = true := by decide +kernel
theorem chk_69 : chkM 69 = true := by decide +kernel
theorem chk_70 : chkM 70 = true := by decide +kernel
theorem chk_71 : chkM 71 = true := by decide +kernel
theorem chk_72 : chkM 72 = true := by decide +kernel
theorem chk_73 : chkM 73 = true := by decide +kernel
theorem chk_74 : chkM 74 = true := by decide +kernel
theorem chk_75 : chkM 75 = true := by decide +kernel
theorem chk_76 : chkM 76 = true := by decide +kernel
theorem chk_77 : chkM 77 = true := by decide +kernel
theorem chk_78 : chkM 78 = true := by decide +kernel
theorem chk_79 : chkM 79 = true := by decide +kernel
theorem chk_80 : chkM 80 = true := by decide +kernel
theorem chk_81 : chkM 81 = true := by decide +kernel
theorem chk_82 : chkM 82 = true := by decide +kernel
theorem chk_83 : chkM 83 = true := by decide +kernel
theorem chk_84 : chkM 84 = true := by decide +kernel
theorem chk_85 : chkM 85 = true := by decide +kernel
theorem chk_86 : chkM 86 = true := by decide +kernel
theorem chk_87 : chkM 87 = true := by decide +kernel
theorem chk_88 : chkM 88 = true := by decide +kernel
theorem chk_89 : chkM 89 = true := by decide +kernel
theorem chk_90 : chkM 90 = true := by decide +kernel
theorem chk_91 : chkM 91 = true := by decide +kernel
theorem chk_92 : chkM 92 = true := by decide +kernel
theorem chk_93 : chkM 93 = true := by decide +kernel
theorem chk_94 : chkM 94 = true := by decide +kernel
theorem chk_95 : chkM 95 = true := by decide +kernel
theorem chk_96 : chkM 96 = true := by decide +kernel
theorem chk_97 : chkM 97 = true := by decide +kernel
theorem chk_98 : chkM 98 = true := by decide +kernel
theorem chk_99 : chkM 99 = true := by decide +kernel
theorem chk_100 : chkM 100 = true := by decide +kernel
theorem chk_101 : chkM 101 = true := by decide +kernel
theorem chk_102 : chkM 102 = true := by decide +kernel
theorem chk_103 : chkM 103 = true := by decide +kernel
theorem chk_104 : chkM 104 = true := by decide +kernel
theorem chk_105 : chkM 105 = true := by decide +kernel
theorem chk_106 : chkM 106 = true := by decide +kernel
theorem chk_107 : chkM 107 = true := by decide +kernel
theorem chk_108 : chkM 108 = true := by decide +kernel
theorem chk_109 : chkM 109 = true := by decide +kernel
theorem chk_110 : chkM 110 = true := by decide +kernel
theorem chk_111 : chkM 111 = true := by decide +kernel
theorem chk_112 : chkM 112 = true := by decide +kernel
theorem chk_113 : chkM 113 = true := by decide +kernel
theorem chk_114 : chkM 114 = true := by decide +kernel
theorem chk_115 : chkM 115 = true := by decide +kernel
theorem chk_116 : chkM 116 = true := by decide +kernel
theorem chk_117 : chkM 117 = true := by decide +kernel
theorem chk_118 : chkM 118 = true := by decide +kernel
theorem chk_119 : chkM 119 = true := by decide +kernel
theorem chk_120 : chkM 120 = true := by decide +kernel
theorem chk_121 : chkM 121 = true := by decide +kernel
theorem chk_122 : chkM 122 = true := by decide +kernel
theorem chk_123 : chkM 123 = true := by decide +kernel
theorem chk_124 : chkM 124 = true := by decide +kernel
theorem chk_125 : chkM 125 = true := by decide +kernel
theorem chk_126 : chkM 126 = true := by decide +kernel
theorem chk_127 : chkM 127 = true := by decide +kernel
theorem chk_128_0 : (((ctab.getD 128 []).drop 0).take 100).all (chk1 128) = true := by decide +kernel
theorem chk_128_100 : (((ctab.getD 128 []).drop 100).take 100).all (chk1 128) = true := by decide +kernel
theorem chk_128_e : ((ctab.getD 128 []).drop 200).all (chk1 128) = true := by decide +kernel
theorem chk_129 : chkM 129 = true := by decide +kernel
theorem chk_130 : chkM 130 = true := by decide +kernel
theorem chk_131 : chkM 131 = true := by decide +kernel
theorem chk_132 : chkM 132 = true := by decide +kernel
theorem chk_133 : chkM 133 = true := by decide +kernel
theorem chk_134 : chkM 134 = true := by decide +kernel
theorem chk_135_0 : (((ctab.getD 135 []).drop 0).take 100).all (chk1 135) = true := by decide +kernel
theorem chk_135_100 : (((ctab.getD 135 []).drop 100).take 100).all (chk1 135) = true := by decide +kernel
theorem chk_135_e : ((ctab.getD 135 []).drop 200).all (chk1 135) = true := by decide +kernel
theorem chk_136 : chkM 136 = true := by decide +kernel
theorem chk_137 : chkM 137 = true := by decide +kernel
theorem chk_138 : chkM 138 = true := by decide +kernel
theorem chk_139 : chkM 139 = true := by decide +kernel
theorem chk_140 : chkM 140 = true := by decide +kernel
theorem chk_141_0 : (((ctab.getD 141 []).drop 0).take 100).all (chk1 141) = true := by decide +kernel
theorem chk_141_100 : (((ctab.getD 141 []).drop 100).take 100).all (chk1 141) = true := by decide +kernel
theorem chk_141_200 : (((ctab.getD 141 []).drop 200).take 100).all (chk1 141) = true := by decide +kernel
theorem chk_141_e : ((ctab.getD 141 []).drop 300).all (chk1 141) = true := by decide +kernel
theorem chk_142 : chkM 142 = true := by decide +kernel
theorem chk_143 : chkM 143 = true := by decide +kernel
theorem chk_144 : chkM 144 = true := by decide +kernel
theorem chk_145_0 : (((ctab.getD 145 []).drop 0).take 100).all (chk1 145) = true := by decide +kernel
theorem chk_145_100 : (((ctab.getD 145 []).drop 100).take 100).all (chk1 145) = true := by decide +kernel
theorem chk_145_e : ((ctab.getD 145 []).drop 200).all (chk1 145) = true := by decide +kernel
theorem chk_146 : chkM 146 = true := by decide +kernel
theorem chk_147 : chkM 147 = true := by decide +kernel
theorem chk_148 : chkM 148 = true := by decide +kernel
theorem chk_149 : chkM 149 = true := by decide +kernel
theorem chk_150 : chkM 150 = true := by decide +kernel
theorem chk_151 : chkM 151 = true := by decide +kernel
theorem chk_152 : chkM 152 = true := by decide +kernel
theorem chk_153 : chkM 153 = true := by decide +kernel
theorem chk_154 : chkM 154 = true := by decide +kernel
theorem chk_155 : chkM 155 = true := by decide +kernel
theorem chk_156 : chkM 156 = true := by decide +kernel
theorem chk_157 : chkM 157 = true := by decide +kernel
theorem chk_158 : chkM 158 = true := by decide +kernel
theorem chk_159 : chkM 159 = true := by decide +kernel
theorem chk_160 : chkM 160 = true := by decide +kernel
theorem chk_161 : chkM 161 = true := by decide +kernel
theorem chk_162 : chkM 162 = true := by decide +kernel
theorem chk_163 : chkM 163 = true := by decide +kernel
theorem chk_164 : chkM 164 = true := by decide +kernel
theorem chk_165 : chkM 165 = true := by decide +kernel
theorem chk_166 : chkM 166 = true := by decide +kernel
theorem chk_167 : chkM 167 = true := by decide +kernel
theorem chk_168 : chkM 168 = true := by decide +kernel
theorem chk_169_0 : (((ctab.getD 169 []).drop 0).take 100).all (chk1 169) = true := by decide +kernel
theorem chk_169_100 : (((ctab.getD 169 []).drop 100).take 100).all (chk1 169) = true := by decide +kernel
theorem chk_169_e : ((ctab.getD 169 []).drop 200).all (chk1 169) = true := by decide +kernel
theorem chk_170 : chkM 170 = true := by decide +kernel
theorem chk_171 : chkM 171 = true := by decide +kernel
theorem chk_172 : chkM 172 = true := by decide +kernel
theorem chk_173 : chkM 173 = true := by decide +kernel
theorem chk_174 : chkM 174 = true := by decide +kernel
theorem chk_175 : chkM 175 = true := by decide +kernel
theorem chk_176 : chkM 176 = true := by decide +kernel
theorem chk_177 : chkM 177 = true := by decide +kernel
theorem chk_178 : chkM 178 = true := by decide +kernel
theorem chk_179 : chkM 179 = true := by decide +kernel
theorem chk_180 : chkM 180 = true := by decide +kernel
theorem chk_181 : chkM 181 = true := by decide +kernel
theorem chk_182 : chkM 182 = true := by decide +kernel
theorem chk_183 : chkM 183 = true := by decide +kernel
theorem chk_184 : chkM 184 = true := by decide +kernel
theorem chk_185 : chkM 185 = true := by decide +kernel
theorem chk_186 : chkM 186 = true := by decide +kernel
theorem chk_187 : chkM 187 = true := by decide +kernel
theorem chk_188 : chkM 188 = true := by decide +kernel
theorem chk_189 : chkM 189 = true := by decide +kernel
theorem chk_190 : chkM 190 = true := by decide +kernel
theorem chk_191 : chkM 191 = true := by decide +kernel
theorem chk_192 : chkM 192 = true := by decide +kernel
theorem chk_193 : chkM 193 = true := by decide +kernel
theorem chk_194 : chkM 194 = true := by decide +kernel
theorem chk_195 : chkM 195 = true := by decide +kernel
theorem chk_196 : chkM 196 = true := by decide +kernel
theorem chk_197 : chkM 197 = true := by decide +kernel
theorem chk_198 : chkM 198 = true := by decide +kernel
theorem chk_199 : chkM 199 = true := by decide +kernel
theorem chk_200 : chkM 200 = true := by decide +kernel
theorem chk_201 : chkM 201 = true := by decide +kernel
theorem chk_202 : chkM 202 = true := by decide +kernel
theorem chk_203 : chkM 203 = true := by decide +kernel
theorem chk_204 : chkM 204 = true := by decide +kernel
theorem chk_205 : chkM 205 = true := by decide +kernel
theorem chk_206 : chkM 206 = true := by decide +kernel
theorem chk_207 : chkM 207 = true := by decide +kernel
theorem chk_208 : chkM 208 = true := by decide +kernel
theorem chk_209 : chkM 209 = true := by decide +kernel
theorem chk_210 : chkM 210 = true := by decide +kernel
theorem chk_211 : chkM 211 = true := by decide +kernel
theorem chk_212 : chkM 212 = true := by decide +kernel
theorem chk_213 : chkM 213 = true := by decide +kernel
theorem chk_214 : chkM 214 = true := by decide +kernel
theorem chk_215 : chkM 215 = true := by decide +kernel
theorem chk_216 : chkM 216 = true := by decide +kernel
theorem chk_217 : chkM 217 = true := by decide +kernel
theorem chk_218 : chkM 218 = true := by decide +kernel
theorem chk_219 : chkM 219 = true := by decide +kernel
theorem chk_220 : chkM 220 = true := by decide +kernel
theorem chk_221 : chkM 221 = true := by decide +kernel
theorem chk_222 : chkM 222 = true := by decide +kernel
theorem chk_223_0 : (((ctab.getD 223 []).drop 0).take 100).all (chk1 223) = true := by decide +kernel
theorem chk_223_100 : (((ctab.getD 223 []).drop 100).take 100).all (chk1 223) = true := by decide +kernel
theorem chk_223_e : ((ctab.getD 223 []).drop 200).all (chk1 223) = true := by decide +kernel
theorem chk_224 : chkM 224 = true := by decide +kernel
theorem chk_225_0 : (((ctab.getD 225 []).drop 0).take 100).all (chk1 225) = true := by decide +kernel
theorem chk_225_100 : (((ctab.getD 225 []).drop 100).take 100).all (chk1 225) = true := by decide +kernel
theorem chk_225_e : ((ctab.getD 225 []).drop 200).all (chk1 225) = true := by decide +kernel
theorem chk_226 : chkM 226 = true := by decide +kernel
theorem chk_227 : chkM 227 = true := by decide +kernel
theorem chk_228 : chkM 228 = true := by decide +kernel
theorem chk_229 : chkM 229 = true := by decide +kernel
theorem chk_230 : chkM 230 = true := by decide +kernel
theorem chk_231 : chkM 231 = true := by decide +kernel
theorem chk_232 : chkM 232 = true := by decide +kernel
theorem chk_233 : chkM 233 = true := by decide +kernel
theorem chk_234 : chkM 234 = true := by decide +kernel
theorem chk_235 : chkM 235 = true := by decide +kernel
theorem chk_236 : chkM 236 = true := by decide +kernel
theorem chk_237 : chkM 237 = true := by decide +kernel
theorem chk_238 : chkM 238 = true := by decide +kernel
theorem chk_239 : chkM 239 = true := by decide +kernel
theorem chk_240 : chkM 240 = true := by decide +kernel
theorem chk_241 : chkM 241 = true := by decide +kernel
theorem chk_242 : chkM 242 = true := by decide +kernel
theorem chk_243 : chkM 243 = true := by decide +kernel
theorem chk_244 : chkM 244 = true := by decide +kernel
theorem chk_245 : chkM 245 = true := by decide +kernel
theorem chk_246 : chkM 246 = true := by decide +kernel
theorem chk_247 : chkM 247 = true := by decide +kernel
theorem chk_248 : chkM 248 = true := by decide +kernel
theorem chk_249 : chkM 249 = true := by decide +kernel
theorem chk_250 : chkM 250 = true := by decide +kernel
theorem chk_251 : chkM 251 = true := by decide +kernel
theorem chk_252_0 : (((ctab.getD 252 []).drop 0).take 100).all (chk1 252) = true := by decide +kernel
theorem chk_252_100 : (((ctab.getD 252 []).drop 100).take 100).all (chk1 252) = true := by decide +kernel
theorem chk_252_200 : (((ctab.getD 252 []).drop 200).take 100).all (chk1 252) = true := by decide +kernel
theorem chk_252_300 : (((ctab.getD 252 []).drop 300).take 100).all (chk1 252) = true := by decide +kernel
theorem chk_252_400 : (((ctab.getD 252 []).drop 400).take 100).all (chk1 252) = true := by decide +kernel
theorem chk_252_500 : (((ctab.getD 252 []).drop 500).take 100).all (chk1 252) = true := by decide +kernel
theorem chk_252_600 : (((ctab.getD 252 []).drop 600).take 100).all (chk1 252) = true := by decide +kernel
theorem chk_252_700 : (((ctab.getD 252 []).drop 700).take 100).all (chk1 252) = true := by decide +kernel
theorem chk_252_e : ((ctab.getD 252 []).drop 800).all (chk1 252) = true := by decide +kernel
end
section
theorem all_ch {α : Type} (f : α → Bool) (l : List α) (n : Nat) (h1 : (l.take n).all f = true) (h2 : (l.drop n).all f = true) : l.all f = true := by
  rw [← List.take_append_drop n l, List.all_append, h1, h2]
  rfl
theorem chk_128 : chkM 128 = true := by
  refine all_ch _ _ 100 (by simpa only [List.drop_drop, List.drop_zero, Nat.reduceAdd] using chk_128_0) ?_
  refine all_ch _ _ 100 (by simpa only [List.drop_drop, List.drop_zero, Nat.reduceAdd] using chk_128_100) ?_
  simpa only [List.drop_drop, List.drop_zero, Nat.reduceAdd] using chk_128_e
theorem chk_135 : chkM 135 = true := by
  refine all_ch _ _ 100 (by simpa only [List.drop_drop, List.drop_zero, Nat.reduceAdd] using chk_135_0) ?_
  refine all_ch _ _ 100 (by simpa only [List.drop_drop, List.drop_zero, Nat.reduceAdd] using chk_135_100) ?_
  simpa only [List.drop_drop, List.drop_zero, Nat.reduceAdd] using chk_135_e
theorem chk_141 : chkM 141 = true := by
  refine all_ch _ _ 100 (by simpa only [List.drop_drop, List.drop_zero, Nat.reduceAdd] using chk_141_0) ?_
  refine all_ch _ _ 100 (by simpa only [List.drop_drop, List.drop_zero, Nat.reduceAdd] using chk_141_100) ?_
  refine all_ch _ _ 100 (by simpa only [List.drop_drop, List.drop_zero, Nat.reduceAdd] using chk_141_200) ?_
  simpa only [List.drop_drop, List.drop_zero, Nat.reduceAdd] using chk_141_e
theorem chk_145 : chkM 145 = true := by
  refine all_ch _ _ 100 (by simpa only [List.drop_drop, List.drop_zero, Nat.reduceAdd] using chk_145_0) ?_
  refine all_ch _ _ 100 (by simpa only [List.drop_drop, List.drop_zero, Nat.reduceAdd] using chk_145_100) ?_
  simpa only [List.drop_drop, List.drop_zero, Nat.reduceAdd] using chk_145_e
theorem chk_169 : chkM 169 = true := by
  refine all_ch _ _ 100 (by simpa only [List.drop_drop, List.drop_zero, Nat.reduceAdd] using chk_169_0) ?_
  refine all_ch _ _ 100 (by simpa only [List.drop_drop, List.drop_zero, Nat.reduceAdd] using chk_169_100) ?_
  simpa only [List.drop_drop, List.drop_zero, Nat.reduceAdd] using chk_169_e
theorem chk_223 : chkM 223 = true := by
  refine all_ch _ _ 100 (by simpa only [List.drop_drop, List.drop_zero, Nat.reduceAdd] using chk_223_0) ?_
  refine all_ch _ _ 100 (by simpa only [List.drop_drop, List.drop_zero, Nat.reduceAdd] using chk_223_100) ?_
  simpa only [List.drop_drop, List.drop_zero, Nat.reduceAdd] using chk_223_e
theorem chk_225 : chkM 225 = true := by
  refine all_ch _ _ 100 (by simpa only [List.drop_drop, List.drop_zero, Nat.reduceAdd] using chk_225_0) ?_
  refine all_ch _ _ 100 (by simpa only [List.drop_drop, List.drop_zero, Nat.reduceAdd] using chk_225_100) ?_
  simpa only [List.drop_drop, List.drop_zero, Nat.reduceAdd] using chk_225_e
theorem chk_252 : chkM 252 = true := by
  refine all_ch _ _ 100 (by simpa only [List.drop_drop, List.drop_zero, Nat.reduceAdd] using chk_252_0) ?_
  refine all_ch _ _ 100 (by simpa only [List.drop_drop, List.drop_zero, Nat.reduceAdd] using chk_252_100) ?_
  refine all_ch _ _ 100 (by simpa only [List.drop_drop, List.drop_zero, Nat.reduceAdd] using chk_252_200) ?_
  refine all_ch _ _ 100 (by simpa only [List.drop_drop, List.drop_zero, Nat.reduceAdd] using chk_252_300) ?_
  refine all_ch _ _ 100 (by simpa only [List.drop_drop, List.drop_zero, Nat.reduceAdd] using chk_252_400) ?_
  refine all_ch _ _ 100 (by simpa only [List.drop_drop, List.drop_zero, Nat.reduceAdd] using chk_252_500) ?_
  refine all_ch _ _ 100 (by simpa only [List.drop_drop, List.drop_zero, Nat.reduceAdd] using chk_252_600) ?_
  refine all_ch _ _ 100 (by simpa only [List.drop_drop, List.drop_zero, Nat.reduceAdd] using chk_252_700) ?_
  simpa only [List.drop_drop, List.drop_zero, Nat.reduceAdd] using chk_252_e
theorem chk_all : ∀ m, m < 253 → chkM m = true := by
  intro m hm
  match m, hm with
  | 0, _ => exact chk_0
  | 1, _ => exact chk_1
  | 2, _ => exact chk_2
  | 3, _ => exact chk_3
  | 4, _ => exact chk_4
  | 5, _ => exact chk_5
  | 6, _ => exact chk_6
  | 7, _ => exact chk_7
  | 8, _ => exact chk_8
  | 9, _ => exact chk_9
  | 10, _ => exact chk_10
  | 11, _ => exact chk_11
  | 12, _ => exact chk_12
  | 13, _ => exact chk_13
  | 14, _ => exact chk_14
  | 15, _ => exact chk_15
  | 16, _ => exact chk_16
  | 17, _ => exact chk_17
  | 18, _ => exact chk_18
  | 19, _ => exact chk_19
  | 20, _ => exact chk_20
  | 21, _ => exact chk_21
  | 22, _ => exact chk_22
  | 23, _ => exact chk_23
  | 24, _ => exact chk_24
  | 25, _ => exact chk_25
  | 26, _ => exact chk_26
  | 27, _ => exact chk_27
  | 28, _ => exact chk_28
  | 29, _ => exact chk_29
  | 30, _ => exact chk_30
  | 31, _ => exact chk_31
  | 32, _ => exact chk_32
  | 33, _ => exact chk_33
  | 34, _ => exact chk_34
  | 35, _ => exact chk_35
  | 36, _ => exact chk_36
  | 37, _ => exact chk_37
  | 38, _ => exact chk_38
  | 39, _ => exact chk_39
  | 40, _ => exact chk_40
  | 41, _ => exact chk_41
  | 42, _ => exact chk_42
  | 43, _ => exact chk_43
  | 44, _ => exact chk_44
  | 45, _ => exact chk_45
  | 46, _ => exact chk_46
  | 47, _ => exact chk_47
  | 48, _ => exact chk_48
  | 49, _ => exact chk_49
  | 50, _ => exact chk_50
  | 51, _ => exact chk_51
  | 52, _ => exact chk_52
  | 53, _ => exact chk_53
  | 54, _ => exact chk_54
  | 55, _ => exact chk_55
  | 56, _ => exact chk_56
  | 57, _ => exact chk_57
  | 58, _ => exact chk_58
  | 59, _ => exact chk_59
  | 60, _ => exact chk_60
  | 61, _ => exact chk_61
  | 62, _ => exact chk_62
  | 63, _ => exact chk_63
  | 64, _ => exact chk_64
  | 65, _ => exact chk_65
  | 66, _ => exact chk_66
  | 67, _ => exact chk_67
  | 68, _ => exact chk_68
  | 69, _ => exact chk_69
  | 70, _ => exact chk_70
  | 71, _ => exact chk_71
  | 72, _ => exact chk_72
  | 73, _ => exact chk_73
  | 74, _ => exact chk_74
  | 75, _ => exact chk_75
  | 76, _ => exact chk_76
  | 77, _ => exact chk_77
  | 78, _ => exact chk_78
  | 79, _ => exact chk_79
  | 80, _ => exact chk_80
  | 81, _ => exact chk_81
  | 82, _ => exact chk_82
  | 83, _ => exact chk_83
  | 84, _ => exact chk_84
  | 85, _ => exact chk_85
  | 86, _ => exact chk_86
  | 87, _ => exact chk_87
  | 88, _ => exact chk_88
  | 89, _ => exact chk_89
  | 90, _ => exact chk_90
  | 91, _ => exact chk_91
  | 92, _ => exact chk_92
  | 93, _ => exact chk_93
  | 94, _ => exact chk_94
  | 95, _ => exact chk_95
  | 96, _ => exact chk_96
  | 97, _ => exact chk_97
  | 98, _ => exact chk_98
  | 99, _ => exact chk_99
  | 100, _ => exact chk_100
  | 101, _ => exact chk_101
  | 102, _ => exact chk_102
  | 103, _ => exact chk_103
  | 104, _ => exact chk_104
  | 105, _ => exact chk_105
  | 106, _ => exact chk_106
  | 107, _ => exact chk_107
  | 108, _ => exact chk_108
  | 109, _ => exact chk_109
  | 110, _ => exact chk_110
  | 111, _ => exact chk_111
  | 112, _ => exact chk_112
  | 113, _ => exact chk_113
  | 114, _ => exact chk_114
  | 115, _ => exact chk_115
  | 116, _ => exact chk_116
  | 117, _ => exact chk_117
  | 118, _ => exact chk_118
  | 119, _ => exact chk_119
  | 120, _ => exact chk_120
  | 121, _ => exact chk_121
  | 122, _ => exact chk_122
  | 123, _ => exact chk_123
  | 124, _ => exact chk_124
  | 125, _ => exact chk_125
  | 126, _ => exact chk_126
  | 127, _ => exact chk_127
  | 128, _ => exact chk_128
  | 129, _ => exact chk_129
  | 130, _ => exact chk_130
  | 131, _ => exact chk_131
  | 132, _ => exact chk_132
  | 133, _ => exact chk_133
  | 134, _ => exact chk_134
  | 135, _ => exact chk_135
  | 136, _ => exact chk_136
  | 137, _ => exact chk_137
  | 138, _ => exact chk_138
  | 139, _ => exact chk_139
  | 140, _ => exact chk_140
  | 141, _ => exact chk_141
  | 142, _ => exact chk_142
  | 143, _ => exact chk_143
  | 144, _ => exact chk_144
  | 145, _ => exact chk_145
  | 146, _ => exact chk_146
  | 147, _ => exact chk_147
  | 148, _ => exact chk_148
  | 149, _ => exact chk_149
  | 150, _ => exact chk_150
  | 151, _ => exact chk_151
  | 152, _ => exact chk_152
  | 153, _ => exact chk_153
  | 154, _ => exact chk_154
  | 155, _ => exact chk_155
  | 156, _ => exact chk_156
  | 157, _ => exact chk_157
  | 158, _ => exact chk_158
  | 159, _ => exact chk_159
  | 160, _ => exact chk_160
  | 161, _ => exact chk_161
  | 162, _ => exact chk_162
  | 163, _ => exact chk_163
  | 164, _ => exact chk_164
  | 165, _ => exact chk_165
  | 166, _ => exact chk_166
  | 167, _ => exact chk_167
  | 168, _ => exact chk_168
  | 169, _ => exact chk_169
  | 170, _ => exact chk_170
  | 171, _ => exact chk_171
  | 172, _ => exact chk_172
  | 173, _ => exact chk_173
  | 174, _ => exact chk_174
  | 175, _ => exact chk_175
  | 176, _ => exact chk_176
  | 177, _ => exact chk_177
  | 178, _ => exact chk_178
  | 179, _ => exact chk_179
  | 180, _ => exact chk_180
  | 181, _ => exact chk_181
  | 182, _ => exact chk_182
  | 183, _ => exact chk_183
  | 184, _ => exact chk_184
  | 185, _ => exact chk_185
  | 186, _ => exact chk_186
  | 187, _ => exact chk_187
  | 188, _ => exact chk_188
  | 189, _ => exact chk_189
  | 190, _ => exact chk_190
  | 191, _ => exact chk_191
  | 192, _ => exact chk_192
  | 193, _ => exact chk_193
  | 194, _ => exact chk_194
  | 195, _ => exact chk_195
  | 196, _ => exact chk_196
  | 197, _ => exact chk_197
  | 198, _ => exact chk_198
  | 199, _ => exact chk_199
  | 200, _ => exact chk_200
  | 201, _ => exact chk_201
  | 202, _ => exact chk_202
  | 203, _ => exact chk_203
  | 204, _ => exact chk_204
  | 205, _ => exact chk_205
  | 206, _ => exact chk_206
  | 207, _ => exact chk_207
  | 208, _ => exact chk_208
  | 209, _ => exact chk_209
  | 210, _ => exact chk_210
  | 211, _ => exact chk_211
  | 212, _ => exact chk_212
  | 213, _ => exact chk_213
  | 214, _ => exact chk_214
  | 215, _ => exact chk_215
  | 216, _ => exact chk_216
  | 217, _ => exact chk_217
  | 218, _ => exact chk_218
  | 219, _ => exact chk_219
  | 220, _ => exact chk_220
  | 221, _ => exact chk_221
  | 222, _ => exact chk_222
  | 223, _ => exact chk_223
  | 224, _ => exact chk_224
  | 225, _ => exact chk_225
  | 226, _ => exact chk_226
  | 227, _ => exact chk_227
  | 228, _ => exact chk_228
  | 229, _ => exact chk_229
  | 230, _ => exact chk_230
  | 231, _ => exact chk_231
  | 232, _ => exact chk_232
  | 233, _ => exact chk_233
  | 234, _ => exact chk_234
  | 235, _ => exact chk_235
  | 236, _ => exact chk_236
  | 237, _ => exact chk_237
  | 238, _ => exact chk_238
  | 239, _ => exact chk_239
  | 240, _ => exact chk_240
  | 241, _ => exact chk_241
  | 242, _ => exact chk_242
  | 243, _ => exact chk_243
  | 244, _ => exact chk_244
  | 245, _ => exact chk_245
  | 246, _ => exact chk_246
  | 247, _ => exact chk_247
  | 248, _ => exact chk_248
  | 249, _ => exact chk_249
  | 250, _ => exact chk_250
  | 251, _ => exact chk_251
  | 252, _ => exact chk_252
  | n + 253, h => exact absurd h (by omega)
def NM : Nat := 253
theorem cod_chk {m pc : Nat} {x : Ent} (h : cod m pc = some x) : m < NM ∧ chk1 m (pc, x) = true := by
  have hm : m < NM := by
    apply Decidable.byContradiction
    intro hm
    have h253 : ctab.length = 253 := by decide +kernel
    have hl : ctab.length ≤ m := by unfold NM at hm; omega
    simp [cod, List.getD, List.getElem?_eq_none hl] at h
  refine ⟨hm, ?_⟩
  have h1 := chk_all m hm
  unfold chkM at h1
  have h2 : (pc, x) ∈ ctab.getD m [] := by
    unfold cod at h
    rw [List.lookup_eq_some_iff] at h
    obtain ⟨l1, l2, h3, -⟩ := h
    rw [h3]
    simp
  exact List.all_eq_true.mp h1 _ h2
end
section
/-! SOUNDNESS VI: contracts out of runs; calls -/
theorem Ou.same {X : CX} {Ls : Nat} {xs : Nat → Int32} {s U : State} {H : Heap} (hv : U.vm = s.vm) (h : Ou X Ls xs s H) : Ou X Ls xs U H := by
  obtain ⟨h1, h2, h3, h4, h5, h6, h7, h8, h9, h10, h11, h12⟩ := h
  have hA : s.vm.Alike U.vm := by rw [hv]; exact Vm.Alike.refl _
  exact ⟨va_K.moved hA h1, fun x hx => va_Nw.same rfl hv.symm (h2 x hx), h3.moved hA, h4.moved hA, fun n t ht => (h5 n t ht).same hv, h6.moved hA, h7.moved hA, h8, h9.moved hA, h10.moved hA, h11, h12⟩
def hle (h t : HS) : Prop := h.1.1 ≤ t.1.1 ∧ h.1.2 1000 ≤ t.1.2 1000 ∧ (t.1.1 < NN → t.1.2 1000 = h.1.2 1000)
theorem hle.rf (h : HS) : hle h h := ⟨Nat.le_refl _, Nat.le_refl _, fun _ => rfl⟩
theorem hle.tr {a b c : HS} (h1 : hle a b) (h2 : hle b c) : hle a c := ⟨Nat.le_trans h1.1 h2.1, Nat.le_trans h1.2.1 h2.2.1, fun hn => (h2.2.2 hn).trans (h1.2.2 (Nat.lt_of_le_of_lt h2.1 hn))⟩
def dC (h t : HS) : Nat := (t.1.1 - h.1.1) + (t.1.2 1000 - h.1.2 1000)
def dS (h t : HS) : Nat := (slt t.1.1 - slt h.1.1) + 8 * (t.1.2 1000 - h.1.2 1000)
theorem dC_add {a b c : HS} (h1 : hle a b) (h2 : hle b c) : dC a c = dC a b + dC b c := by
  have := h1.1; have := h1.2.1; have := h2.1; have := h2.2.1
  unfold dC
  omega
theorem dS_add {a b c : HS} (h1 : hle a b) (h2 : hle b c) : dS a c = dS a b + dS b c := by
  have := slt_mono h1.1; have := h1.2.1; have := slt_mono h2.1; have := h2.2.1
  unfold dS
  omega
theorem dC_self (h : HS) : dC h h = 0 := by simp [dC]
theorem dS_self (h : HS) : dS h h = 0 := by simp [dS]
theorem dC_eq {h t u : HS} (e : t.1 = h.1) : dC t u = dC h u := by simp [dC, e]
theorem dS_eq {h t u : HS} (e : t.1 = h.1) : dS t u = dS h u := by simp [dS, e]
theorem pfd_1 {h h1 : HS} {K j k n : Nat} {v : PV} (hg : pfd h K j k n v = some h1) : h1.1 = h.1 := by
  unfold pfd at hg
  split at hg
  · split at hg
    · cases hg; rfl
    · split at hg
      · cases hg; rfl
      · cases hg
    · cases hg; rfl
    · split at hg
      · cases hg; rfl
      · cases hg
    · cases hg
  · cases hg
theorem ast_1 {h h1 : HS} {a k n : Nat} {i : Int32} {v : PV} (hg : ast h a k n i v = some h1) : h1.1 = h.1 := by
  unfold ast at hg
  split at hg
  · split at hg
    · cases hg; rfl
    · cases hg; rfl
    · split at hg
      · cases hg; rfl
      · cases hg
    · cases hg; rfl
    · split at hg
      · split at hg
        · cases hg; rfl
        · cases hg
      · cases hg
    · cases hg
  · cases hg
theorem cpa_1 {h h1 : HS} {k2 n2 k n : Nat} {sp dp m : Int32} (hg : cpa h k2 n2 sp k n dp m = some h1) : h1.1 = h.1 := by
  unfold cpa at hg
  split at hg
  · cases hg; rfl
  · cases hg
theorem alc_le {h h1 : HS} {k : Nat} (hg : alc k h = some h1) : hle h h1 := by
  obtain ⟨hc, rfl⟩ := alc_spec hg
  have hk := cord_k _ (List.mem_of_getElem? hc)
  have h1 : uC h.1.2 k (h.1.2 k + 1) 1000 = h.1.2 1000 := by simp only [uC]; rw [if_neg (by omega)]
  exact ⟨Nat.le_succ _, Nat.le_of_eq h1.symm, fun _ => h1⟩
theorem hle.eq {h h1 : HS} (e : h1.1 = h.1) : hle h h1 := ⟨by rw [e]; exact Nat.le_refl _, by rw [e]; exact Nat.le_refl _, fun _ => by rw [e]⟩
theorem hst_le {Ls : Nat} {xs : Nat → Int32} {op a b q : Nat} {st : List PV} {h : HS} {q1 : Nat} {st1 : List PV} {h1 : HS} (hg : hst Ls xs op a b q st h = some (q1, st1, h1)) : hle h h1 := by
  unfold hst at hg
  split at hg
  · split at hg
    · simp only [Option.map_eq_some_iff] at hg
      obtain ⟨v, -, hg⟩ := hg
      cases hg
      exact hle.rf _
    · cases hg
  · split at hg
    · simp only [Option.map_eq_some_iff] at hg
      obtain ⟨v, hv, hg⟩ := hg
      cases hg
      exact hle.eq (pfd_1 hv)
    · cases hg
  · split at hg
    · simp only [Option.map_eq_some_iff] at hg
      obtain ⟨v, -, hg⟩ := hg
      cases hg
      exact hle.rf _
    · cases hg
  · split at hg
    · simp only [Option.map_eq_some_iff] at hg
      obtain ⟨v, hv, hg⟩ := hg
      cases hg
      exact hle.eq (ast_1 hv)
    · cases hg
  · split at hg
    · simp only [Option.map_eq_some_iff] at hg
      obtain ⟨v, -, hg⟩ := hg
      cases hg
      exact hle.rf _
    · cases hg
  · split at hg
    · split at hg
      · cases hg
        exact hle.rf _
      · cases hg
    · cases hg
  · split at hg
    · simp only [Option.map_eq_some_iff] at hg
      obtain ⟨v, hv, hg⟩ := hg
      cases hg
      exact alc_le hv
    · cases hg
  · split at hg
    · split at hg
      · simp only [Option.map_eq_some_iff] at hg
        obtain ⟨v, hv, hg⟩ := hg
        cases hg
        exact alc_le hv
      · cases hg
    · cases hg
  · split at hg
    · split at hg
      · simp only [Option.map_eq_some_iff] at hg
        obtain ⟨v, hv, hg⟩ := hg
        cases hg
        exact alc_le hv
      · cases hg
    · cases hg
  · split at hg
    · split at hg
      · cases hg
        exact hle.rf _
      · cases hg
    · cases hg
  · split at hg
    · split at hg
      · simp only [Option.map_eq_some_iff] at hg
        obtain ⟨v, hv, hg⟩ := hg
        cases hg
        exact hle.eq (cpa_1 hv)
      · cases hg
    · cases hg
  · split at hg
    · split at hg
      · cases hg
        exact hle.rf _
      · cases hg
    · cases hg
  · split at hg
    · split at hg
      · cases hg
        exact hle.rf _
      · cases hg
    · cases hg
  · cases hg
theorem exec_le {Ls : Nat} {xs : Nat → Int32} {orc : Orc} (ho : ∀ as h r t, orc as h = some (r, t) → hle h t) : ∀ (f d m pc : Nat) (L : LL) (st : List PV) (h : HS) (r : Option PV) (t : HS), exec Ls xs orc f d m pc L st h = some (r, t) → hle h t := by
  intro f
  induction f with
  | zero => intro d m pc L st h r t hg; simp [exec] at hg
  | succ f ih =>
    intro d m pc L st h r t hg
    unfold exec at hg
    split at hg
    · cases hg
    · rename_i op a b z q hc
      split at hg
      · split at hg
        · exact ih _ _ _ _ _ _ _ _ hg
        · cases hg
      · split at hg
        · split at hg
          · cases hg
          · split at hg
            · split at hg
              · rename_i r1 h1 he
                exact (ih _ _ _ _ _ _ _ _ he).tr (ih _ _ _ _ _ _ _ _ hg)
              · cases hg
            · cases hg
        · split at hg
          · split at hg
            · cases hg
            · split at hg
              · split at hg
                · rename_i r1 h1 he
                  exact (ho _ _ _ _ he).tr (ih _ _ _ _ _ _ _ _ hg)
                · cases hg
              · cases hg
          · split at hg
            · split at hg
              · cases hg
                exact hle.rf _
              · cases hg
            · split at hg
              · split at hg
                · split at hg
                  · cases hg
                    exact hle.rf _
                  · cases hg
                · cases hg
              · split at hg
                · cases hg
                · split at hg
                  · rename_i he
                    exact (hst_le he).tr (ih _ _ _ _ _ _ _ _ hg)
                  · cases hg
/-- how a method's run ends -/
def Rt (mm pc : Nat) (r : Option PV) : Prop := (r = none ∧ decode (bb mm) pc = .ok (.return_, 1) ∧ rr mm = none) ∨ ∃ x ty, r = some (.inl x) ∧ decode (bb mm) pc = .ok (.ireturn, 1) ∧ rr mm = some ty ∧ narrow ty (.int x) = .int x
def wsm (mm : Nat) : List Cond := Cond.code (yy mm) (bb mm) (mx mm) (rr mm) :: wtb
def rmm (d a b : Nat) : Room := { frames := d, cells := a, slots := b, locals := 64 * d }
def PcX (X : CX) (Ls : Nat) (xs : Nat → Int32) (h : HS) (as : List PV) : Array Value → State → Prop := va_Pc (as.map (trv X)) (fun U => Rel X h U.heap ∧ Ou X Ls xs U U.heap ∧ (h.1.1 < NN → U.heap.size = xz X + h.1.1))
def QcX (X : CX) (r : Option PV) (t : HS) : Array Value → State → Outcome → State → Prop := fun _ st o u => (o = .returned (r.map (trv X)) ∧ Rel X t u.heap) ∧ va_F (xA X) st u
/-- the contract that a run gives -/
def Ctr (l : Launch) (X : CX) (Ls : Nat) (xs : Nat → Int32) (mm d : Nat) (as : List PV) (h : HS) (r : Option PV) (t : HS) : Prop :=
  Met l (yy mm) (wsm mm) (rmm d (dC h t) (dS h t)) (PcX X Ls xs h as) (QcX X r t) (dC h t) (dS h t) (xA X)
def MC (p : Program) (s : State) (m : MethodId) (args : Array Value) (meth : Method) (c : Code) (mm : Nat) (X : CX) (Ls : Nat) (xs : Nat → Int32) : Prop :=
  p.tables.exec = Jvm.exec ∧ c.code = bb mm ∧ c.maxLocals = mx mm ∧ s.vm.findClass (own (mo mm)) = some m.cls ∧ (∀ w ∈ wtb, w.before args s = true) ∧ Ou X Ls xs s s.heap ∧ meth.name = (yy mm).name
theorem PcX_blind {X : CX} {Ls : Nat} {xs : Nat → Int32} {h : HS} {as : List PV} : FrameBlind (PcX X Ls xs h as) := by
  intro a U g mk hq
  obtain ⟨q0, q1, q2, q3⟩ := hq
  exact ⟨q0, q1, q2.same rfl, q3⟩
theorem PcX_pre {X : CX} {Ls : Nat} {xs : Nat → Int32} {h : HS} {as : List PV} {s : State} {H : Heap} {locs : List Loc} (hO : Ou X Ls xs s s.heap) (hR : Rel X h H) (hS : va_S (xA X) s.heap H locs) (hz : h.1.1 < NN → H.size = xz X + h.1.1) : ∀ U : State, U.heap = H → s.WarmedH U.vm → PcX X Ls xs h as (as.map (trv X)).toArray U := by
  intro U hU hW
  refine ⟨rfl, by rw [hU]; exact hR, ?_, by rw [hU]; exact hz⟩
  rw [hU]
  exact hO.to hW hS
theorem wtb_goodIn (mm : Nat) (hm : mm ∈ mAll) : GoodIn wtb (wsm mm) := by
  intro w hw
  rcases List.mem_cons.mp hw with rfl | hw
  · exact ⟨code_in mm hm, good_of_word (wtb_good _ (code_in mm hm))⟩
  · exact ⟨hw, good_of_word (wtb_good _ hw)⟩
section SC
variable {p : Program} {l : Launch} {e : Env} {R : Room} {s : State} {m : MethodId} {args : Array Value} {below : List Frame} {meth : Method} {c : Code} {H : Heap} {locs : List Loc} {cells slots : Nat} {Q : State → Prop}
variable {pc : Nat} {ls : Array Slot} {X : CX} {Ls : Nat} {xs : Nat → Int32} {h t : HS} {r : Option PV}
theorem sc_back {mc ms : Nat} {st0 rest : List Value} {a : Array Value} (hr : va_Run p l e R s m args below meth c H locs cells slots mc ms (F0 m pc ls st0) rest (QcX X r t a) (xA X)) (hS : va_S (xA X) s.heap H locs)
    (kk : ∀ (H1 : Heap) (locs1 : List Loc), Rel X t H1 → va_S (xA X) s.heap H1 locs1 → W p l e R s m args below meth c H1 locs1 (cells + mc) (slots + ms) Q (F0 m (pc + 3) ls (r.toList.map (trv X) ++ rest))) : W p l e R s m args below meth c H locs cells slots Q (F0 m pc ls st0) := by
  intro T hT Y
  obtain ⟨v, st₀, u, T', L, h0, Y', hL, e1, e2, ⟨⟨hv, hq⟩, hz, hk⟩, st⟩ := hr T hT Y
  rw [h0] at hz hk
  have hv2 : v = r.map (trv X) := by injection hv
  subst hv2
  obtain ⟨t2, a1, b1⟩ := kk T'.heap (locs ++ L) (by rw [e1]; exact hq) ⟨Nat.le_trans hS.1 (by rw [e1]; exact hz), fun q h1 h2 => by rw [e1, hk q (Nat.lt_of_lt_of_le h1 hS.1) h2]; exact hS.2.1 q h1 h2, fun q hq => by
      rcases List.mem_append.mp hq with h | h
      · exact hS.2.2 q h
      · exact hL q h⟩ T' rfl Y'
  refine ⟨t2, st t2 ?_, b1⟩
  cases r <;> exact a1
theorem catP_eq (hX : (xo X).category = 1) (v : PV) : (trv X v).category = catP v := by
  unfold catP
  by_cases hw : isW v = true
  · rw [if_pos hw]
    match v, hw with
    | .inr (.inl x), _ => rfl
  · rw [if_neg hw]
    exact trv_cat hX (by rw [isW_L]; simpa using hw)
theorem cat_sum (hX : (xo X).category = 1) (st : List PV) : ((st.map (trv X)).map fun v => v.category).sum = (st.map catP).sum := by
  rw [List.map_map]
  congr 1
  apply List.map_congr_left
  intro v _
  exact catP_eq hX v
theorem mm_facts {mm : Nat} (hm : mm ∈ mAll) : plainName (yy mm).cls = true ∧ ((yy mm).cls ≠ "java/lang/invoke/MethodHandle" ∧ (yy mm).cls ≠ "java/lang/invoke/VarHandle" ∧ (parseMethodDescriptor (yy mm).desc).map (fun d => d.parameters.length) = some (np mm)) ∧ (yy mm).cls = own (mo mm) := by
  have h1 := List.all_eq_true.mp mm1 mm hm
  have h2 := of_decide_eq_true (List.all_eq_true.mp mm2 mm hm)
  have h3 := of_decide_eq_true (List.all_eq_true.mp mm3 mm hm)
  have h4 := of_decide_eq_true (List.all_eq_true.mp mm4 mm hm)
  exact ⟨h1, ⟨h2.1, h2.2, h3⟩, h4⟩
theorem own_in (i : Nat) (h : i < 20) : Cond.initialized (own i) ∈ wtb := by
  refine init_in _ (List.mem_map.mpr ⟨own i, ?_, rfl⟩)
  have hl : i < ownt.length := h
  simp only [own, List.getD, List.getElem?_eq_getElem hl, Option.getD_some]
  exact List.getElem_mem hl
theorem mo_lt {mm : Nat} (hm : mm ∈ mAll) : mo mm < 20 := by
  have h0 : (mAll.all fun m => decide (mo m < 20)) = true := by decide +kernel
  exact of_decide_eq_true (List.all_eq_true.mp h0 mm hm)
end SC
end
section
/-! SOUNDNESS VII: entries, calls, returns -/
section EN
variable {X : CX}
theorem sl_len (hX : (xo X).category = 1) : ∀ as : List PV, (lg_sl (as.map (trv X))).length = (entG as).length
  | [] => rfl
  | .inl x :: r => by
    have ih := sl_len hX r
    simp only [List.map_cons, entG, List.length_cons, ← ih]
    simp [lg_sl, trv, Value.category]
  | .inr (.inl x) :: r => by
    have ih := sl_len hX r
    simp only [List.map_cons, entG, List.length_cons, ← ih]
    simp [lg_sl, trv, Value.category]
  | .inr (.inr x) :: r => by
    have ih := sl_len hX r
    have hc : (trv X (.inr (.inr x))).category = 1 := trv_cat hX rfl
    simp only [List.map_cons, entG, List.length_cons, ← ih]
    simp [lg_sl, hc]
theorem prL_rep : ∀ (n i : Nat), prL X i (List.replicate n none) = []
  | 0, _ => rfl
  | n + 1, i => by
    rw [List.replicate_succ]
    simp only [prL]
    exact prL_rep n (i + 1)
theorem prL_ent (hX : (xo X).category = 1) (n : Nat) : ∀ (as : List PV) (i : Nat), prL X i (entG as ++ List.replicate n none) = lv_args i (as.map (trv X))
  | [], i => by simp only [entG, List.nil_append, prL_rep, List.map_nil, lv_args]
  | .inl x :: r, i => by
    have ih := prL_ent hX n r (i + 1)
    simp only [entG, List.cons_append, prL, List.map_cons, lv_args, ih]
    simp [trv, Value.category]
  | .inr (.inl x) :: r, i => by
    have ih := prL_ent hX n r (i + 1 + 1)
    simp only [entG, List.cons_append, prL, List.map_cons, lv_args, ih]
    simp [trv, Value.category]
  | .inr (.inr x) :: r, i => by
    have ih := prL_ent hX n r (i + 1)
    have hc : (trv X (.inr (.inr x))).category = 1 := trv_cat hX rfl
    simp only [entG, List.cons_append, prL, List.map_cons, lv_args, ih]
    simp [hc]
theorem hasL_entry (hX : (xo X).category = 1) {mm : Nat} {as : List PV} (hl : (entG as).length ≤ mx mm) : hasL X ((lg_sl (as.map (trv X)) ++ List.replicate (mx mm - (lg_sl (as.map (trv X))).length) Slot.unset).toArray) (mx mm) (entL mm as) := by
  refine ⟨by simp [entL]; omega, ?_⟩
  have h := lv_entry (as.map (trv X)) (n := mx mm) (by rw [sl_len hX]; exact hl)
  unfold entL
  rw [prL_ent hX]
  exact h
end EN
theorem mx_le {mm : Nat} : mx mm ≤ 40 := by
  have h0 : mxt.all (fun x => decide (x ≤ 40)) = true := by decide +kernel
  unfold mx
  rw [List.getD]
  cases hc : mxt[mm]? with
  | none => simp
  | some x => simpa using List.all_eq_true.mp h0 x (List.mem_of_getElem? hc)
theorem Rel.size_ge {X : CX} {h : HS} {H : Heap} (hR : Rel X h H) (h0 : xz X ≤ H.size) : xz X + h.1.1 ≤ H.size := by
  by_cases hz : h.1.1 = 0
  · omega
  · have hl : h.1.1 - 1 < h.1.1 := by omega
    have hw : (wsl X h)[h.1.1 - 1]? = some (xz X + (h.1.1 - 1), ent X h (ckd (h.1.1 - 1)).1 (ckd (h.1.1 - 1)).2) := by
      simp [wsl, List.getElem?_map, List.getElem?_range hl]
    have h2 : xz X + (h.1.1 - 1) < H.size := (hR.1 _ _ hw).lt
    omega
section CT
variable {l : Launch} {X : CX} {Ls : Nat} {xs : Nat → Int32} {h t : HS} {r : Option PV} {mm d : Nat} {as : List PV}
set_option maxHeartbeats 4000000 in
theorem ctr_of (hm : mm ∈ mAll) (hlen : (entG as).length ≤ mx mm)
    (body : ∀ {p : Program} {e : Env} {R : Room} {s : State} {m : MethodId} {args : Array Value} {below : List Frame} {meth : Method} {c : Code} {H : Heap} {locs : List Loc} {cells slots : Nat} {Q : State → Prop} {ls : Array Slot}, MC p s m args meth c mm X Ls xs → Rel X h H → va_S (xA X) s.heap H locs → hasL X ls (mx mm) (entL mm as) → (h.1.1 < NN → s.heap.size + cells = xz X + h.1.1) → d ≤ R.frames → 64 * d ≤ R.locals → cells + dC h t ≤ R.cells → slots + dS h t ≤ R.slots →
      (∀ (H' : Heap) (locs' : List Loc) (ls' : Array Slot) (pc' : Nat), Rel X t H' → va_S (xA X) s.heap H' locs' → Rt mm pc' r → W p l e R s m args below meth c H' locs' (cells + dC h t) (slots + dS h t) Q (F0 m pc' ls' (r.toList.map (trv X)))) → W p l e R s m args below meth c H locs cells slots Q (F0 m 0 ls [])) : Ctr l X Ls xs mm d as h r t := by
  unfold Ctr
  refine Met.ofW (cc := bb mm) (maxL := mx mm) (ret := rr mm) (mm_facts hm).1 rfl ?_
  intro p e s m args below meth c s₁ B hml hv
  obtain ⟨rfl, hR, hO, hz⟩ := hv
  have hts0 := atoms_spec (ws := wsm mm) B.pre
  have hown : s.vm.findClass (own (mo mm)) = some m.cls := by rw [← (mm_facts hm).2.2]; exact findClass_of_methodNamed B.named
  have hname : meth.name = (yy mm).name := (name_of_methodNamed B.named B.method).1
  have hX : (xo X).category = 1 := hO.2.2.2.2.2.2.2.2.2.2.2
  rw [lg_entry_eq]
  refine body (cells := 0) (slots := 0) (locs := []) ⟨B.exec, B.bytes, hml, hown, fun w hw => hts0 w (List.mem_cons_of_mem _ hw), hO, hname⟩ hR va_S.rf (hasL_entry hX hlen) (by simpa using hz) (Nat.le_refl d) (Nat.le_refl _) (by rw [Nat.zero_add]; exact Nat.le_refl _) (by rw [Nat.zero_add]; exact Nat.le_refl _) ?_
  intro H' locs' ls' pc' hR' hS' hrt
  rw [Nat.zero_add, Nat.zero_add]
  rcases hrt with ⟨rfl, hd, hr⟩ | ⟨x, ty, rfl, hd, hr, hn⟩
  · exact W.vret B.exec B.bytes (B.returns.trans hr) (fun u hu hW => ⟨⟨rfl, by rw [hu]; exact hR'⟩, hS'.F hu⟩) hS'.2.2 hd
  · exact W.zret B.exec B.bytes (B.returns.trans hr) hn (fun u hu hW => ⟨⟨rfl, by rw [hu]; exact hR'⟩, hS'.F hu⟩) hS'.2.2 hd
end CT
theorem st_split {st : List PV} (b : Nat) (f : PV → Value) : st.map f = ((st.take b).reverse.map f).reverse ++ (st.drop b).map f := by
  rw [List.map_reverse, List.reverse_reverse, ← List.map_append, List.take_append_drop]
section CA
variable {p : Program} {l : Launch} {e : Env} {R : Room} {s : State} {m : MethodId} {args : Array Value} {below : List Frame} {meth : Method} {c : Code} {H : Heap} {locs : List Loc} {cells slots : Nat} {Q : State → Prop}
variable {pc : Nat} {ls : Array Slot} {X : CX} {Ls : Nat} {xs : Nat → Int32} {h t : HS} {r : Option PV} {mm a b d idx : Nat} {st : List PV} {L : LL} {z : PV}
theorem mlk_facts {o i q : Nat} (hlk : (o, i, a, q) ∈ mlk) : a ∈ mAll ∧ (q = 0 → a ∈ mVirt ∧ a ∈ mInst) ∧ (q = 1 → a ∈ mStat) ∧ (q = 2 → a ∈ mInst ∧ (yy a).name = "<init>" ∧ rr a = none) ∧ (q = 3 → a ∈ mInst ∧ (yy a).name = "<init>" ∧ rr a = none) ∧ (q = 4 → a ∈ mStat) ∧ q < 5 :=
  of_decide_eq_true (List.all_eq_true.mp mlk_ok _ hlk)
theorem mlk_link {o i q : Nat} (hlk : (o, i, a, q) ∈ mlk) (hq : q < 3) : Cond.methodLink (own o) i (yy a) ∈ wtb :=
  mlk_in _ (List.mem_map.mpr ⟨(o, i, a, q), List.mem_filter.mpr ⟨hlk, by simpa using hq⟩, rfl⟩)
theorem callB_x (C0 : MC p s m args meth c mm X Ls xs) (ham : a ∈ mAll) {k1 k2 : Nat} (hl : (Cond.methodLink (own (mo mm)) idx (yy a)).before args s = true) (hf : d + 1 ≤ R.frames) (hlo : 64 * (d + 1) ≤ R.locals) : CallB R s args (own (mo mm)) idx (yy a) (bb a) (mx a) (rr a) (wsm a) (rmm d k1 k2) k1 k2 (np a) := by
  have hmx := mx_le (mm := a)
  refine callB_of (np a) C0.2.2.2.2.1 (wtb_goodIn a ham) rfl rfl rfl ?_ hl (mm_facts ham).2.1 ⟨hf, ?_⟩
  · rw [(mm_facts ham).2.2]
    exact C0.2.2.2.2.1 _ (own_in _ (mo_lt ham))
  · show 8 + (mx a + 11) + 64 * d ≤ R.locals
    omega
theorem callN_x (C0 : MC p s m args meth c mm X Ls xs) (ham : a ∈ mAll) {k1 k2 : Nat} (hl : va_Nw (.methodLinkNest (own (mo mm)) idx (yy a) "StrangeWinding") s) (hf : d + 1 ≤ R.frames) (hlo : 64 * (d + 1) ≤ R.locals) : va_CN R s args (own (mo mm)) idx (yy a) "StrangeWinding" (bb a) (mx a) (rr a) (wsm a) (rmm d k1 k2) k1 k2 (np a) := by
  have hmx := mx_le (mm := a)
  refine va_cnB (np a) C0.2.2.2.2.1 (wtb_goodIn a ham) rfl rfl rfl hl ?_ (mm_facts ham).2.1 ⟨hf, ?_⟩
  · rw [(mm_facts ham).2.2]
    exact C0.2.2.2.2.1 _ (own_in _ (mo_lt ham))
  · show 8 + (mx a + 11) + 64 * d ≤ R.locals
    omega
theorem sz_at (C0 : MC p s m args meth c mm X Ls xs) (hR : Rel X h H) (hS : va_S (xA X) s.heap H locs) (hz : h.1.1 < NN → s.heap.size + cells = xz X + h.1.1) (hle : H.size ≤ s.heap.size + cells) : h.1.1 < NN → H.size = xz X + h.1.1 := by
  intro hn
  have h1 := hz hn
  have h2 : xz X ≤ s.heap.size := C0.2.2.2.2.2.1.2.2.2.2.2.2.2.2.2.2.1
  have h3 := hR.size_ge (Nat.le_trans h2 hS.1)
  omega
set_option maxHeartbeats 4000000 in
/-- a static call -/
theorem sc_static (C0 : MC p s m args meth c mm X Ls xs) (hR : Rel X h H) (hS : va_S (xA X) s.heap H locs) (hl : hasL X ls (mx mm) L) (hz : h.1.1 < NN → s.heap.size + cells = xz X + h.1.1)
    (hM : Ctr l X Ls xs a d (st.take b).reverse h r t) (hbl : b ≤ st.length) (hcat : ((st.drop b).map catP).sum ≤ 8) (hlk : (mo mm, idx, a, 1) ∈ mlk ∨ (mo mm, idx, a, 4) ∈ mlk) (hbn : b = np a) (hf : d + 1 ≤ R.frames) (hlo : 64 * (d + 1) ≤ R.locals) (hc1 : cells + dC h t ≤ R.cells) (hc2 : slots + dS h t ≤ R.slots) (hd : decode (bb mm) pc = .ok (.invokestatic idx, 3))
    (kk : ∀ (H1 : Heap) (locs1 : List Loc), Rel X t H1 → va_S (xA X) s.heap H1 locs1 → W p l e R s m args below meth c H1 locs1 (cells + dC h t) (slots + dS h t) Q (F0 m (pc + 3) ls (r.toList.map (trv X) ++ (st.drop b).map (trv X)))) : W p l e R s m args below meth c H locs cells slots Q (F0 m pc ls (st.map (trv X))) := by
  have hX : (xo X).category = 1 := C0.2.2.2.2.2.1.2.2.2.2.2.2.2.2.2.2.2
  refine W.sz fun hle => ?_
  have hz2 := sz_at C0 hR hS hz hle
  have hn : ((st.take b).reverse.map (trv X)).length = np a := by simp; omega
  have hW : 2 * (F0 m pc ls (st.map (trv X))).monitorRoom + (((st.drop b).map (trv X)).map fun v => v.category).sum ≤ 8 := lv_room (by rw [cat_sum hX]; exact hcat)
  rcases hlk with hlk | hlk
  · obtain ⟨ham, -, h1, -⟩ := mlk_facts hlk
    exact sc_back (va_runS ⟨C0.1, C0.2.1, C0.2.2.1, C0.2.2.2.1, C0.2.2.2.2.1⟩ hM ⟨callB_x C0 ham (C0.2.2.2.2.1 _ (mlk_link hlk (by decide))) hf hlo, C0.2.2.2.2.1 _ (stat_in _ (List.mem_map.mpr ⟨a, h1 rfl, rfl⟩))⟩ ⟨PcX_blind, PcX_pre C0.2.2.2.2.2.1 hR hS hz2⟩ rfl hn hl.2.1 (st_split b _) hW hd ⟨hc1, hc2⟩) hS kk
  · obtain ⟨ham, -, -, -, -, h1, -⟩ := mlk_facts hlk
    have hnk : (mo mm, idx, a) ∈ nek := by
      have h0 : (mlk.all fun x => !(decide (x.2.2.2 = 4)) || nek.contains (x.1, x.2.1, x.2.2.1)) = true := by decide +kernel
      simpa using List.all_eq_true.mp h0 _ hlk
    exact sc_back (va_runSN ⟨C0.1, C0.2.1, C0.2.2.1, C0.2.2.2.1, C0.2.2.2.2.1⟩ hM ⟨callN_x C0 ham (C0.2.2.2.2.2.1.2.1 _ hnk) hf hlo, C0.2.2.2.2.1 _ (stat_in _ (List.mem_map.mpr ⟨a, h1 rfl, rfl⟩)), trivial⟩ ⟨PcX_blind, PcX_pre C0.2.2.2.2.2.1 hR hS hz2⟩ rfl hn hl.2.1 (st_split b _) hW hd ⟨hc1, hc2⟩) hS kk
end CA
end
section
section CB
variable {p : Program} {l : Launch} {e : Env} {R : Room} {s : State} {m : MethodId} {args : Array Value} {below : List Frame} {meth : Method} {c : Code} {H : Heap} {locs : List Loc} {cells slots : Nat} {Q : State → Prop}
variable {pc : Nat} {ls : Array Slot} {X : CX} {Ls : Nat} {xs : Nat → Int32} {h t : HS} {r : Option PV} {mm a b d idx : Nat} {st : List PV} {L : LL} {z : PV}
theorem recv_spec {as : List PV} {K n0 : Nat} (hr : recv (.inr (.inr (K, n0))) b h as = true) : ∃ (n : Nat) (As : List PV), as = .inr (.inr (K, n)) :: As ∧ n < (if K = 90 then 26 else h.1.2 K) := by
  unfold recv at hr
  match as, hr with
  | .inr (.inr (k, n)) :: As, hr =>
    simp only [decide_eq_true_eq] at hr
    obtain ⟨rfl, hn⟩ := hr
    exact ⟨n, As, rfl, hn⟩
  | [], hr => simp at hr
  | .inl _ :: _, hr => simp at hr
  | .inr (.inl _) :: _, hr => simp at hr
theorem st_split2 {rcv : PV} {As : List PV} {v : Value} {f : PV → Value} (hs : (st.take b).reverse = rcv :: As) (hv : f rcv = v) : st.map f = (As.map f).reverse ++ v :: (st.drop b).map f := by
  rw [st_split b f, hs, List.map_cons, List.reverse_cons, hv]
  simp
set_option maxHeartbeats 4000000 in
/-- a constructor's call -/
theorem sc_init (C0 : MC p s m args meth c mm X Ls xs) (hR : Rel X h H) (hS : va_S (xA X) s.heap H locs) (hl : hasL X ls (mx mm) L) (hz : h.1.1 < NN → s.heap.size + cells = xz X + h.1.1)
    (hM : Ctr l X Ls xs a d (st.take b).reverse h r t) (hbl : b ≤ st.length) (hcat : ((st.drop b).map catP).sum ≤ 8) (hlk : (mo mm, idx, a, 2) ∈ mlk ∨ (mo mm, idx, a, 3) ∈ mlk) (hbn : b = np a + 1) {K n0 : Nat} (hK : K < 82) (hrc : recv (.inr (.inr (K, n0))) b h (st.take b).reverse = true) (hf : d + 1 ≤ R.frames) (hlo : 64 * (d + 1) ≤ R.locals) (hc1 : cells + dC h t ≤ R.cells) (hc2 : slots + dS h t ≤ R.slots) (hd : decode (bb mm) pc = .ok (.invokespecial idx, 3))
    (kk : ∀ (H1 : Heap) (locs1 : List Loc), Rel X t H1 → va_S (xA X) s.heap H1 locs1 → W p l e R s m args below meth c H1 locs1 (cells + dC h t) (slots + dS h t) Q (F0 m (pc + 3) ls (r.toList.map (trv X) ++ (st.drop b).map (trv X)))) : W p l e R s m args below meth c H locs cells slots Q (F0 m pc ls (st.map (trv X))) := by
  have hX : (xo X).category = 1 := C0.2.2.2.2.2.1.2.2.2.2.2.2.2.2.2.2.2
  refine W.sz fun hle => ?_
  have hz2 := sz_at C0 hR hS hz hle
  obtain ⟨n, As, has, -⟩ := recv_spec hrc
  obtain ⟨v, hv⟩ := trv_ref X (k := K) (n := n) (by omega)
  have hlen : As.length = np a := by
    have h1 : (st.take b).reverse.length = b := by simp; omega
    rw [has, List.length_cons] at h1
    omega
  have hn : (As.map (trv X)).length = np a := by rw [List.length_map]; exact hlen
  have hW : 2 * (F0 m pc ls (st.map (trv X))).monitorRoom + (((st.drop b).map (trv X)).map fun v => v.category).sum ≤ 8 := lv_room (by rw [cat_sum hX]; exact hcat)
  have hpre := PcX_pre (as := (st.take b).reverse) C0.2.2.2.2.2.1 hR hS hz2
  have hmap : ((st.take b).reverse.map (trv X)) = .ref v :: As.map (trv X) := by rw [has, List.map_cons, hv]
  rw [hmap] at hpre
  rcases hlk with hlk | hlk
  · obtain ⟨ham, -, -, h1, -⟩ := mlk_facts hlk
    obtain ⟨hin, hnm, hrr⟩ := h1 rfl
    have hcb := callB_x (k1 := dC h t) (k2 := dS h t) (d := d) C0 ham (C0.2.2.2.2.1 _ (mlk_link hlk (by decide))) hf hlo
    rw [hrr] at hcb
    exact sc_back (va_runI (As := As.map (trv X)) ⟨C0.1, C0.2.1, C0.2.2.1, C0.2.2.2.1, C0.2.2.2.2.1⟩ hM ⟨hcb, hnm, C0.2.2.2.2.1 _ (inst_in _ (List.mem_map.mpr ⟨a, hin, rfl⟩))⟩ ⟨PcX_blind, hpre⟩ rfl hn hl.2.1 (st_split2 has hv) hW hd ⟨hc1, hc2⟩) hS kk
  · obtain ⟨ham, -, -, -, h1, -⟩ := mlk_facts hlk
    obtain ⟨hin, hnm, hrr⟩ := h1 rfl
    have hnk : (mo mm, idx, a) ∈ nek := by
      have h0 : (mlk.all fun x => !(decide (x.2.2.2 = 3)) || nek.contains (x.1, x.2.1, x.2.2.1)) = true := by decide +kernel
      simpa using List.all_eq_true.mp h0 _ hlk
    have hcb := callN_x (k1 := dC h t) (k2 := dS h t) (d := d) C0 ham (C0.2.2.2.2.2.1.2.1 _ hnk) hf hlo
    rw [hrr] at hcb
    exact sc_back (va_runIN (As := As.map (trv X)) ⟨C0.1, C0.2.1, C0.2.2.1, C0.2.2.2.1, C0.2.2.2.2.1⟩ hM ⟨hcb, hnm, C0.2.2.2.2.1 _ (inst_in _ (List.mem_map.mpr ⟨a, hin, rfl⟩))⟩ ⟨PcX_blind, hpre⟩ rfl hn hl.2.1 (st_split2 has hv) hW hd ⟨hc1, hc2⟩) hS kk
set_option maxHeartbeats 4000000 in
/-- a virtual call -/
theorem sc_virt (C0 : MC p s m args meth c mm X Ls xs) (hR : Rel X h H) (hS : va_S (xA X) s.heap H locs) (hl : hasL X ls (mx mm) L) (hz : h.1.1 < NN → s.heap.size + cells = xz X + h.1.1)
    (hM : Ctr l X Ls xs a d (st.take b).reverse h r t) (hbl : b ≤ st.length) (hcat : ((st.drop b).map catP).sum ≤ 8) (hlk : (mo mm, idx, a, 0) ∈ mlk) (hbn : b = np a + 1) {K n0 : Nat} (hK : (K < 82 ∧ (kt K).1 = 0 ∧ clN K = (yy a).cls) ∨ (K = 90 ∧ (yy a).cls = "java/lang/String")) (hrc : recv (.inr (.inr (K, n0))) b h (st.take b).reverse = true) (hf : d + 1 ≤ R.frames) (hlo : 64 * (d + 1) ≤ R.locals) (hc1 : cells + dC h t ≤ R.cells) (hc2 : slots + dS h t ≤ R.slots) (hd : decode (bb mm) pc = .ok (.invokevirtual idx, 3))
    (kk : ∀ (H1 : Heap) (locs1 : List Loc), Rel X t H1 → va_S (xA X) s.heap H1 locs1 → W p l e R s m args below meth c H1 locs1 (cells + dC h t) (slots + dS h t) Q (F0 m (pc + 3) ls (r.toList.map (trv X) ++ (st.drop b).map (trv X)))) : W p l e R s m args below meth c H locs cells slots Q (F0 m pc ls (st.map (trv X))) := by
  have hX : (xo X).category = 1 := C0.2.2.2.2.2.1.2.2.2.2.2.2.2.2.2.2.2
  refine W.sz fun hle => ?_
  have hz2 := sz_at C0 hR hS hz hle
  obtain ⟨n, As, has, hnn⟩ := recv_spec hrc
  have hlen : As.length = np a := by
    have h1 : (st.take b).reverse.length = b := by simp; omega
    rw [has, List.length_cons] at h1
    omega
  have hn : (As.map (trv X)).length = np a := by rw [List.length_map]; exact hlen
  have hW : 2 * (F0 m pc ls (st.map (trv X))).monitorRoom + (((st.drop b).map (trv X)).map fun v => v.category).sum ≤ 8 := lv_room (by rw [cat_sum hX]; exact hcat)
  have hpre := PcX_pre (as := (st.take b).reverse) C0.2.2.2.2.2.1 hR hS hz2
  obtain ⟨ham, h1, -⟩ := mlk_facts hlk
  obtain ⟨hvi, hin⟩ := h1 rfl
  have hcb := callB_x (k1 := dC h t) (k2 := dS h t) (d := d) C0 ham (C0.2.2.2.2.1 _ (mlk_link hlk (by decide))) hf hlo
  have hw1 := C0.2.2.2.2.1 _ (inst_in _ (List.mem_map.mpr ⟨a, hin, rfl⟩))
  have hw2 := C0.2.2.2.2.1 _ (virt_in _ (List.mem_map.mpr ⟨a, hvi, rfl⟩))
  have hcell : ∃ v : Nat, trv X (.inr (.inr (K, n))) = .ref v ∧ ∃ cellB : Cell, H[v]? = some cellB ∧ cellB.vm.isStatics = false ∧ s.vm.findClass (yy a).cls = some cellB.cls := by
    rcases hK with ⟨hK1, hK2, hK3⟩ | ⟨hK1, hK2⟩
    · rw [if_neg (by omega)] at hnn
      obtain ⟨⟨k0, k1⟩, -, -, hw⟩ := cell_at (X := X) hR.2 (by rw [hK2]; decide) hnn
      obtain ⟨q, hq, -, -⟩ := kt_obj hK2
      rw [ent_obj hK2] at hw
      refine ⟨_, trv_cell X k0 k1, ?_⟩
      have h3 := va_recv C0.2.2.2.2.2.1.1 hR.1 hq hw
      rw [← hK3]
      simp only [clN, hq]
      exact h3
    · subst hK1
      rw [if_pos rfl] at hnn
      refine ⟨xK X n, rfl, ?_⟩
      rw [hK2]
      exact vk_recv C0.2.2.2.2.2.1.2.2.2.2.2.1 hnn hS
  obtain ⟨v, hv, hcell⟩ := hcell
  have hmap : ((st.take b).reverse.map (trv X)) = .ref v :: As.map (trv X) := by rw [has, List.map_cons, hv]
  rw [hmap] at hpre
  exact sc_back (va_runV (As := As.map (trv X)) ⟨C0.1, C0.2.1, C0.2.2.1, C0.2.2.2.1, C0.2.2.2.2.1⟩ hM ⟨hcb, hw1, hw2⟩ ⟨PcX_blind, hcell, hpre⟩ rfl hn hl.2.1 (st_split2 has hv) hW hd ⟨hc1, hc2⟩) hS kk
end CB
end
section
/-! SOUNDNESS VIII: all steps -/
section SA
variable {p : Program} {l : Launch} {e : Env} {R : Room} {s : State} {m : MethodId} {args : Array Value} {below : List Frame} {meth : Method} {c : Code} {H : Heap} {locs : List Loc} {cells slots : Nat} {Q : State → Prop}
variable {pc len op a b q q1 mm d : Nat} {z : PV} {ls : Array Slot} {L L1 : LL} {st st1 : List PV} {X : CX} {Ls : Nat} {xs : Nat → Int32} {h h1 : HS} {ins : Instr} {ini : Bool} {rt : Option FieldType}
theorem sp_all {cc : ByteArray} {nL : Nat} (hx : p.tables.exec = Jvm.exec) (hb : c.code = cc) (hX : (xo X).category = 1) (hd : decode cc pc = .ok (ins, len)) (ha : agp pc ins len op a b z q) (hs : pst op a b z q L st = some (q1, L1, st1)) (hl : hasL X ls nL L)
    (kk : ∀ ls' : Array Slot, hasL X ls' nL L1 → W p l e R s m args below meth c H locs cells slots Q (F0 m q1 ls' (st1.map (trv X)))) : W p l e R s m args below meth c H locs cells slots Q (F0 m pc ls (st.map (trv X))) := by
  unfold agp at ha
  split at ha
  · exact sp_iconst hx hb hX hd ha hs hl kk
  · exact sp_bipush hx hb hX hd ha hs hl kk
  · exact sp_sipush hx hb hX hd ha hs hl kk
  · exact sp_lconst hx hb hX hd ha hs hl kk
  · exact sp_iload_n hx hb hX hd ha hs hl kk
  · exact sp_iload hx hb hX hd ha hs hl kk
  · exact sp_lload_n hx hb hX hd ha hs hl kk
  · exact sp_lload hx hb hX hd ha hs hl kk
  · exact sp_aload_n hx hb hX hd ha hs hl kk
  · exact sp_aload hx hb hX hd ha hs hl kk
  · exact sp_astore_n hx hb hX hd ha hs hl kk
  · exact sp_astore hx hb hX hd ha hs hl kk
  · exact sp_istore_n hx hb hX hd ha hs hl kk
  · exact sp_istore hx hb hX hd ha hs hl kk
  · exact sp_lstore_n hx hb hX hd ha hs hl kk
  · exact sp_lstore hx hb hX hd ha hs hl kk
  · exact sp_iinc hx hb hX hd ha hs hl kk
  · exact sp_iadd hx hb hX hd ha hs hl kk
  · exact sp_isub hx hb hX hd ha hs hl kk
  · exact sp_imul hx hb hX hd ha hs hl kk
  · exact sp_iand hx hb hX hd ha hs hl kk
  · exact sp_ior hx hb hX hd ha hs hl kk
  · exact sp_ixor hx hb hX hd ha hs hl kk
  · exact sp_ishl hx hb hX hd ha hs hl kk
  · exact sp_ishr hx hb hX hd ha hs hl kk
  · exact sp_iushr hx hb hX hd ha hs hl kk
  · exact sp_idiv hx hb hX hd ha hs hl kk
  · exact sp_irem hx hb hX hd ha hs hl kk
  · exact sp_ineg hx hb hX hd ha hs hl kk
  · exact sp_ladd hx hb hX hd ha hs hl kk
  · exact sp_lsub hx hb hX hd ha hs hl kk
  · exact sp_lmul hx hb hX hd ha hs hl kk
  · exact sp_land hx hb hX hd ha hs hl kk
  · exact sp_lor hx hb hX hd ha hs hl kk
  · exact sp_lshl hx hb hX hd ha hs hl kk
  · exact sp_lushr hx hb hX hd ha hs hl kk
  · exact sp_ldiv hx hb hX hd ha hs hl kk
  · exact sp_lrem hx hb hX hd ha hs hl kk
  · exact sp_lcmp hx hb hX hd ha hs hl kk
  · exact sp_i2l hx hb hX hd ha hs hl kk
  · exact sp_l2i hx hb hX hd ha hs hl kk
  · exact sp_i2c hx hb hX hd ha hs hl kk
  · exact sp_i2b hx hb hX hd ha hs hl kk
  · exact sp_dup hx hb hX hd ha hs hl kk
  · exact sp_dup2 hx hb hX hd ha hs hl kk
  · exact sp_pop hx hb hX hd ha hs hl kk
  · exact sp_goto hx hb hX hd ha hs hl kk
  · exact sp_if_eq hx hb hX hd ha hs hl kk
  · exact sp_if_ne hx hb hX hd ha hs hl kk
  · exact sp_if_lt hx hb hX hd ha hs hl kk
  · exact sp_if_ge hx hb hX hd ha hs hl kk
  · exact sp_if_gt hx hb hX hd ha hs hl kk
  · exact sp_if_le hx hb hX hd ha hs hl kk
  · exact sp_icmp_eq hx hb hX hd ha hs hl kk
  · exact sp_icmp_ne hx hb hX hd ha hs hl kk
  · exact sp_icmp_lt hx hb hX hd ha hs hl kk
  · exact sp_icmp_ge hx hb hX hd ha hs hl kk
  · exact sp_icmp_gt hx hb hX hd ha hs hl kk
  · exact sp_icmp_le hx hb hX hd ha hs hl kk
  · exact ha.elim
theorem agp_lt (ha : agp pc ins len op a b z q) : op < 29 := by
  unfold agp at ha
  split at ha <;> first | exact ha.elim | (rw [ha.1]; decide)
theorem sl_push (C0 : MC p s m args meth c mm X Ls xs) (hS : va_S (xA X) s.heap H locs) (hd : decode (bb mm) pc = .ok (ins, len)) (ha : agl (mo mm) pc ini rt ins len op a b z q = true) (hop : op < 29) (hs : pst op a b z q L st = some (q1, L1, st1)) (hl : hasL X ls (mx mm) L)
    (kk : ∀ ls' : Array Slot, hasL X ls' (mx mm) L1 → W p l e R s m args below meth c H locs cells slots Q (F0 m q1 ls' (st1.map (trv X)))) : W p l e R s m args below meth c H locs cells slots Q (F0 m pc ls (st.map (trv X))) := by
  obtain ⟨hx, hb, hml, hown, hts, hO, hname⟩ := C0
  unfold agl at ha
  split at ha
  case h_1 =>
    simp only [Bool.and_eq_true, decide_eq_true_eq] at ha
    obtain ⟨⟨rfl, rfl, rfl⟩, hz⟩ := ha
    cases hs
    split at hz
    · exact lv_ldc hx hb hown (hts _ (cik_in _ (List.mem_map.mpr ⟨_, (by simpa using hz), rfl⟩))) hd (kk ls hl)
    · simp only [Bool.and_eq_true, decide_eq_true_eq] at hz
      obtain ⟨rfl, hz⟩ := hz
      split at hz
      · rename_i t ht
        obtain ⟨t1, t2, t3⟩ := t
        simp only [decide_eq_true_eq] at hz
        have h5 := hO.2.2.2.2.1 _ _ ht
        simp only [hz.1, hz.2] at h5
        exact va_ldcS hx hb hown h5 hd (kk ls hl)
      · cases hz
    · cases hz
  case h_2 =>
    simp only [Bool.and_eq_true, decide_eq_true_eq] at ha
    obtain ⟨⟨rfl, rfl, rfl⟩, hz⟩ := ha
    cases hs
    split at hz
    · exact lv_ldcw hx hb hown (hts _ (cik_in _ (List.mem_map.mpr ⟨_, (by simpa using hz), rfl⟩))) hd (kk ls hl)
    · cases hz
  case h_3 =>
    simp only [Bool.and_eq_true, decide_eq_true_eq] at ha
    obtain ⟨⟨rfl, rfl, rfl⟩, hz⟩ := ha
    cases hs
    split at hz
    · exact lv_ldc2 hx hb hown (hts _ (clk2_in _ (List.mem_map.mpr ⟨_, (by simpa using hz), rfl⟩))) hd (kk ls hl)
    · cases hz
  case h_4 =>
    simp only [decide_eq_true_eq] at ha
    obtain ⟨rfl, rfl, rfl, ho, hz⟩ := ha
    rw [ho] at hown
    cases hs
    obtain ⟨-, -, -, -, -, -, -, -, h9, h10, -, -⟩ := hO
    rcases hz with ⟨rfl, rfl⟩ | ⟨rfl, rfl⟩
    · exact va_gets hx hb h9 hS hown (hts _ (sfk_in (Cond.fieldLink "java/lang/String" 38 "java/lang/String" "COMPACT_STRINGS" "Z") (by simp [sfk]))) (fun _ h9 => h9) hd (kk ls hl)
    · exact va_gets hx hb h10 hS hown (hts _ (sfk_in (Cond.fieldLink "java/lang/String" 1053 "jdk/internal/util/Preconditions" "SIOOBE_FORMATTER" "Ljava/util/function/BiFunction;") (by simp [sfk]))) (fun _ h9 => h9) hd (kk ls hl)
  all_goals first
    | (exfalso; simp only [Bool.and_eq_true, Bool.or_eq_true, decide_eq_true_eq] at ha; omega)
    | cases ha
theorem dz (e0 : h1.1 = h.1) : dC h h1 = 0 ∧ dS h h1 = 0 := by simp [dC, dS, e0]
theorem da {k : Nat} (hg : alc k h = some h1) : dC h h1 = 1 ∧ dS h h1 = csz k := by
  obtain ⟨hc, rfl⟩ := alc_spec hg
  have hk := cord_k _ (List.mem_of_getElem? hc)
  have h1 : uC h.1.2 k (h.1.2 k + 1) 1000 = h.1.2 1000 := by simp only [uC]; rw [if_neg (by omega)]
  refine ⟨?_, ?_⟩
  · simp only [dC, h1]; omega
  · simp only [dS, h1, slt_succ hc]; omega
theorem clN_in {k : Nat} (h0 : (kt k).1 = 0) : Cond.initialized (clN k) ∈ wtb := by
  obtain ⟨r, hr, -, -⟩ := kt_obj h0
  have h1 : (vwCl.all fun r => decide (r.1 ∈ ownt)) = true := by decide +kernel
  have h2 := of_decide_eq_true (List.all_eq_true.mp h1 _ (List.mem_of_getElem? hr))
  refine init_in _ (List.mem_map.mpr ⟨clN k, ?_, rfl⟩)
  simp only [clN, hr]
  exact h2
end SA
end
section
/-! SOUNDNESS IX: the main induction -/
theorem acn2_in : Cond.native arraycopyName ∈ wtb := List.mem_filter.mpr ⟨acn_in, by decide +kernel⟩
section HD
variable {p : Program} {l : Launch} {e : Env} {R : Room} {s : State} {m : MethodId} {args : Array Value} {below : List Frame} {meth : Method} {c : Code} {H : Heap} {locs : List Loc} {cells slots : Nat} {Q : State → Prop}
variable {pc len op a b q q1 mm d : Nat} {z : PV} {ls : Array Slot} {L : LL} {st st1 : List PV} {X : CX} {Ls : Nat} {xs : Nat → Int32} {h h1 : HS} {ins : Instr} {ini : Bool} {rt : Option FieldType}
set_option maxHeartbeats 8000000 in
theorem sl_heap (C0 : MC p s m args meth c mm X Ls xs) (hR : Rel X h H) (hS : va_S (xA X) s.heap H locs) (hl : hasL X ls (mx mm) L) (hz : h.1.1 < NN → s.heap.size + cells = xz X + h.1.1) (hini : ini = true → (yy mm).name = "<init>")
    (hd : decode (bb mm) pc = .ok (ins, len)) (ha : agl (mo mm) pc ini rt ins len op a b z q = true) (h29 : ¬ op < 29) (h34 : ¬ op = 34) (h45 : ¬ op = 45) (h35 : ¬ op = 35) (h36 : ¬ op = 36) (hdd : ¬ (44 ≤ op ∧ d = 0)) (hfr : d ≤ R.frames) (hlo : 64 * d ≤ R.locals)
    (hs : hst Ls xs op a b q st h = some (q1, st1, h1)) (hc0 : cells ≤ R.cells) (hs0 : slots ≤ R.slots) (hc1 : cells + dC h h1 ≤ R.cells) (hc2 : slots + dS h h1 ≤ R.slots)
    (kk : ∀ (H1 : Heap) (locs1 : List Loc), Rel X h1 H1 → va_S (xA X) s.heap H1 locs1 → W p l e R s m args below meth c H1 locs1 (cells + dC h h1) (slots + dS h h1) Q (F0 m q1 ls (st1.map (trv X)))) : W p l e R s m args below meth c H locs cells slots Q (F0 m pc ls (st.map (trv X))) := by
  obtain ⟨hx, hb, hml, hown, hts, hO, hname⟩ := C0
  have hX : (xo X).category = 1 := hO.2.2.2.2.2.2.2.2.2.2.2
  have hsame : ∀ {H1 : Heap} {locs1 : List Loc} {g : JFrame}, h1.1 = h.1 → W p l e R s m args below meth c H1 locs1 (cells + dC h h1) (slots + dS h h1) Q g → W p l e R s m args below meth c H1 locs1 cells slots Q g := by
    intro H1 locs1 g e0 k
    rw [(dz e0).1, (dz e0).2, Nat.add_zero, Nat.add_zero] at k
    exact k
  unfold agl at ha
  split at ha
  case h_5 =>
    simp only [Bool.and_eq_true, decide_eq_true_eq] at ha
    obtain ⟨⟨rfl, rfl, rfl⟩, hlk⟩ := ha
    simp only [hst] at hs
    split at hs
    · simp only [Option.map_eq_some_iff] at hs
      obtain ⟨v, hv, hs⟩ := hs
      cases hs
      have k2 := hsame rfl (kk H locs hR hS)
      split at hlk
      · rename_i h90
        subst h90
        simp only [decide_eq_true_eq] at hlk
        exact sh_getS hx hb hown hts hO hS hlk.1 hlk.2 hv hd k2
      · rename_i h90
        exact sh_get hx hb hown hts hO hR (by simpa using hlk) h90 hv hd k2
    · cases hs
  case h_6 =>
    simp only [Bool.and_eq_true, decide_eq_true_eq] at ha
    obtain ⟨⟨⟨rfl, rfl, rfl⟩, hlk⟩, hfin⟩ := ha
    simp only [hst] at hs
    split at hs
    · simp only [Option.map_eq_some_iff] at hs
      obtain ⟨v, hv, hs⟩ := hs
      cases hs
      refine sh_put hx hb hown hts hO hR hS (by simpa using hlk) hv (fun hf => ?_) hd (fun H1 locs1 g1 g2 g3 => hsame g3 (kk H1 locs1 g1 g2))
      rw [hf] at hfin
      simp only [Bool.not_true, Bool.false_or, Bool.and_eq_true, decide_eq_true_eq] at hfin
      exact ⟨hname.trans (hini hfin.1), hfin.2⟩
    · cases hs
  case h_7 =>
    simp only [decide_eq_true_eq] at ha
    obtain ⟨rfl, rfl, rfl, rfl⟩ := ha
    simp only [hst] at hs
    split at hs
    · simp only [Option.map_eq_some_iff] at hs
      obtain ⟨v, hv, hs⟩ := hs
      cases hs
      exact sh_iald hx hb hO hR hS hv hd (hsame rfl (kk H locs hR hS))
    · cases hs
  case h_8 =>
    simp only [decide_eq_true_eq] at ha
    obtain ⟨rfl, rfl, rfl, rfl⟩ := ha
    simp only [hst] at hs
    split at hs
    · simp only [Option.map_eq_some_iff] at hs
      obtain ⟨v, hv, hs⟩ := hs
      cases hs
      exact sh_cald hx hb hO hR hv hd (hsame rfl (kk H locs hR hS))
    · cases hs
  case h_9 =>
    simp only [decide_eq_true_eq] at ha
    obtain ⟨rfl, rfl, rfl, rfl⟩ := ha
    simp only [hst] at hs
    split at hs
    · simp only [Option.map_eq_some_iff] at hs
      obtain ⟨v, hv, hs⟩ := hs
      cases hs
      exact sh_bald hx hb hO hR hS hv hd (hsame rfl (kk H locs hR hS))
    · cases hs
  case h_10 =>
    simp only [decide_eq_true_eq] at ha
    obtain ⟨rfl, rfl, rfl, rfl⟩ := ha
    simp only [hst] at hs
    split at hs
    · simp only [Option.map_eq_some_iff] at hs
      obtain ⟨v, hv, hs⟩ := hs
      cases hs
      exact sh_lald hx hb hO hR hv hd (hsame rfl (kk H locs hR hS))
    · cases hs
  case h_11 =>
    simp only [decide_eq_true_eq] at ha
    obtain ⟨rfl, rfl, rfl, rfl⟩ := ha
    simp only [hst] at hs
    split at hs
    · simp only [Option.map_eq_some_iff] at hs
      obtain ⟨v, hv, hs⟩ := hs
      cases hs
      exact sh_aald hx hb hO hR hv hd (hsame rfl (kk H locs hR hS))
    · cases hs
  case h_12 =>
    simp only [decide_eq_true_eq] at ha
    obtain ⟨rfl, rfl, rfl, rfl⟩ := ha
    simp only [hst] at hs
    split at hs
    · simp only [Option.map_eq_some_iff] at hs
      obtain ⟨v, hv, hs⟩ := hs
      cases hs
      exact sh_iast hx hb hO hR hS hv hd (fun H1 locs1 g1 g2 g3 => hsame g3 (kk H1 locs1 g1 g2))
    · cases hs
  case h_13 =>
    simp only [decide_eq_true_eq] at ha
    obtain ⟨rfl, rfl, rfl, rfl⟩ := ha
    simp only [hst] at hs
    split at hs
    · simp only [Option.map_eq_some_iff] at hs
      obtain ⟨v, hv, hs⟩ := hs
      cases hs
      exact sh_cast hx hb hO hR hS hv hd (fun H1 locs1 g1 g2 g3 => hsame g3 (kk H1 locs1 g1 g2))
    · cases hs
  case h_14 =>
    simp only [decide_eq_true_eq] at ha
    obtain ⟨rfl, rfl, rfl, rfl⟩ := ha
    simp only [hst] at hs
    split at hs
    · simp only [Option.map_eq_some_iff] at hs
      obtain ⟨v, hv, hs⟩ := hs
      cases hs
      exact sh_zast hx hb hO hR hS hv hd (fun H1 locs1 g1 g2 g3 => hsame g3 (kk H1 locs1 g1 g2))
    · cases hs
  case h_15 =>
    simp only [decide_eq_true_eq] at ha
    obtain ⟨rfl, rfl, rfl, rfl⟩ := ha
    simp only [hst] at hs
    split at hs
    · simp only [Option.map_eq_some_iff] at hs
      obtain ⟨v, hv, hs⟩ := hs
      cases hs
      exact sh_last hx hb hO hR hS hv hd (fun H1 locs1 g1 g2 g3 => hsame g3 (kk H1 locs1 g1 g2))
    · cases hs
  case h_16 =>
    simp only [decide_eq_true_eq] at ha
    obtain ⟨rfl, rfl, rfl, rfl⟩ := ha
    simp only [hst] at hs
    split at hs
    · simp only [Option.map_eq_some_iff] at hs
      obtain ⟨v, hv, hs⟩ := hs
      cases hs
      exact sh_aast hx hb hO hR hS hv hd (fun H1 locs1 g1 g2 g3 => hsame g3 (kk H1 locs1 g1 g2))
    · cases hs
  case h_17 =>
    simp only [decide_eq_true_eq] at ha
    obtain ⟨rfl, rfl, rfl⟩ := ha
    simp only [hst] at hs
    split at hs
    · simp only [Option.map_eq_some_iff] at hs
      obtain ⟨v, hv, hs⟩ := hs
      cases hs
      exact sh_alen hx hb hO hR hS hv hd (hsame rfl (kk H locs hR hS))
    · cases hs
  case h_18 df lo hi offs =>
    simp only [Bool.and_eq_true, decide_eq_true_eq] at ha
    obtain ⟨rfl, hT⟩ := ha
    simp only [hst] at hs
    split at hs
    · rename_i x r
      split at hT
      · rename_i lo2 ts d2 hts2
        simp only [hts2] at hs
        cases hs
        simp only [Bool.and_eq_true, decide_eq_true_eq] at hT
        obtain ⟨⟨rfl, hdf, hlen, hsz⟩, hall⟩ := hT
        have k2 := hsame rfl (kk H locs hR hS)
        by_cases h1 : x.toInt < lo2
        · rw [if_pos h1] at k2
          exact lv_tableOut hx hb hd (Or.inl h1) hdf k2
        · rw [if_neg h1] at k2
          by_cases h2 : hi < x.toInt
          · have h3 : ts[(x.toInt - lo2).toNat]? = none := List.getElem?_eq_none (by omega)
            rw [h3] at k2
            exact lv_tableOut hx hb hd (Or.inr h2) hdf k2
          · have h4 : (x.toInt - lo2).toNat < ts.length := by omega
            have h5 : (x.toInt - lo2).toNat < offs.size := by omega
            have h6 := List.all_eq_true.mp hall (offs.toList[(x.toInt - lo2).toNat]'(by simpa using h5), ts[(x.toInt - lo2).toNat]) (by
              rw [List.mem_iff_getElem]
              exact ⟨(x.toInt - lo2).toNat, by simp; omega, by simp⟩)
            simp only [decide_eq_true_eq] at h6
            rw [List.getElem?_eq_getElem h4] at k2
            refine lv_tableIn hx hb hd h1 h2 (off := offs.toList[(x.toInt - lo2).toNat]'(by simpa using h5)) ?_ h6 k2
            rw [Array.getElem?_eq_getElem h5]
            simp
      · cases hT
    · cases hs
  case h_21 =>
    simp only [Bool.and_eq_true, decide_eq_true_eq] at ha
    obtain ⟨⟨rfl, rfl, rfl⟩, hlk⟩ := ha
    simp only [hst] at hs
    split at hs
    · rename_i h0
      simp only [Option.map_eq_some_iff] at hs
      obtain ⟨v, hv, hs⟩ := hs
      cases hs
      rw [(da hv).1] at hc1 kk
      rw [(da hv).2] at hc2 kk
      exact sh_new hx hb hown hts hO hR hS (by simpa using hlk) h0 hv hz hc1 hc2 (hts _ (clN_in h0)) hd (fun H1 g1 g2 => kk H1 locs g1 g2)
    · cases hs
  case h_22 =>
    simp only [decide_eq_true_eq] at ha
    obtain ⟨rfl, rfl, rfl, rfl⟩ := ha
    simp only [hst] at hs
    split at hs
    · split at hs
      · rename_i h0
        obtain ⟨h01, h02, rfl⟩ := h0
        simp only [Option.map_eq_some_iff] at hs
        obtain ⟨v, hv, hs⟩ := hs
        cases hs
        rw [(da hv).1] at hc1 kk
        rw [(da hv).2] at hc2 kk
        exact sh_newa hx hb hts hO hR hS ⟨h01, h02⟩ hv hz hc1 hc2 hd (fun H1 g1 g2 => kk H1 locs g1 g2)
      · cases hs
    · cases hs
  case h_23 =>
    simp only [Bool.and_eq_true, decide_eq_true_eq] at ha
    obtain ⟨⟨rfl, rfl, rfl⟩, hlk⟩ := ha
    simp only [hst] at hs
    split at hs
    · split at hs
      · rename_i h0
        obtain ⟨h01, rfl⟩ := h0
        simp only [Option.map_eq_some_iff] at hs
        obtain ⟨v, hv, hs⟩ := hs
        cases hs
        rw [(da hv).1] at hc1 kk
        rw [(da hv).2] at hc2 kk
        exact sh_newq hx hb hown hts hO hR hS (by simpa using hlk) h01 hv hz hc1 hc2 hd (fun H1 g1 g2 => kk H1 locs g1 g2)
      · cases hs
    · cases hs
  case h_25 =>
    simp only [Bool.and_eq_true, Bool.or_eq_true, decide_eq_true_eq] at ha
    obtain ⟨⟨rfl, rfl⟩, hlk⟩ := ha
    rcases hlk with (((⟨⟨h1, -⟩, -⟩ | ⟨rfl, hlk⟩) | ⟨rfl, hlk⟩) | ⟨rfl, hlk⟩) | ⟨h1, -⟩
    · exact absurd h1 h34
    · simp only [hst] at hs
      split at hs
      · split at hs
        · rename_i hcat
          simp only [Option.map_eq_some_iff] at hs
          obtain ⟨v, hv, hs⟩ := hs
          cases hs
          have e1 := cpa_1 hv
          unfold cpa at hv
          split at hv
          · rename_i hc
            cases hv
            obtain ⟨g1, g2, g3, g4, g5, g6, g7, g8, g9⟩ := hc
            obtain ⟨⟨k0, k1⟩, -, -, hw⟩ := cell_at (X := X) hR.2 (by rw [g2]; decide) g4
            obtain ⟨⟨j0, j1⟩, -, -, hw2⟩ := cell_at (X := X) hR.2 (by rw [g1]; decide) g3
            rw [ent_1 g2] at hw
            rw [ent_1 g1] at hw2
            simp only [List.map_cons]
            rw [trv_cell X k0 k1, trv_cell X j0 j1]
            have hm1 : c.maxLocals = ls.size := by rw [hml]; exact hl.2.1.symm
            refine va_copyi (ty := .int) hx hb hm1 hown (hts _ (ack_in _ (List.mem_map.mpr ⟨_, (by simpa using hlk), rfl⟩))) (hts _ acn2_in) (hts _ (aci_in _ (by simp))) (hts _ (aci_in _ (by simp))) hO.1 hR.1 wsl_D hS _ _ 0 0 hw2 hw rfl rfl rfl (Int32.not_lt.mpr g5) (Int32.not_lt.mpr g6) (Int32.not_lt.mpr g7) g8 g9 (fun i _ => rfl) (by omega) (by rw [cat_sum hX]; rw [show nativeFrameWords "java/lang/System" "arraycopy" 5 = 7 from by decide +kernel]; omega) hd (fun H1 locs1 q1 q2 q3 => hsame rfl (kk H1 locs1 (hR.set (by rw [g2]; decide) g4 rfl ?_ ?_ q1) q3))
            · rw [ent_1 g2, ← cF_eq]
            · exact fun k' n' hne => ent_F (fun k2 n2 hne2 => cF_ne hne2) hne
          · cases hv
        · cases hs
      · cases hs
    · simp only [hst] at hs
      split at hs
      · split at hs
        · rename_i hcat
          cases hs
          have hm1 : c.maxLocals = ls.size := by rw [hml]; exact hl.2.1.symm
          exact va_mmax hx hb hm1 hown (hts _ (mk_max_in _ (List.mem_map.mpr ⟨_, (by simpa using hlk), rfl⟩))) (hts _ (mk_max_w _ (by simp))) (hts _ (mk_max_w _ (by simp))) (hts _ (mk_max_w _ (by simp))) (by omega) (by rw [cat_sum hX]; omega) hc0 hs0 hd (hsame rfl (kk H locs hR hS))
        · cases hs
      · cases hs
    · simp only [hst] at hs
      split at hs
      · split at hs
        · rename_i hcat
          cases hs
          have hm1 : c.maxLocals = ls.size := by rw [hml]; exact hl.2.1.symm
          exact va_mmin hx hb hm1 hown (hts _ (mk_min_in _ (List.mem_map.mpr ⟨_, (by simpa using hlk), rfl⟩))) (hts _ (mk_min_w _ (by simp))) (hts _ (mk_min_w _ (by simp))) (hts _ (mk_min_w _ (by simp))) (by omega) (by rw [cat_sum hX]; omega) hc0 hs0 hd (hsame rfl (kk H locs hR hS))
        · cases hs
      · cases hs
    · exact absurd h1 h45
  case h_26 =>
    simp only [Bool.and_eq_true, Bool.or_eq_true, decide_eq_true_eq] at ha
    obtain ⟨⟨rfl, rfl⟩, hlk⟩ := ha
    rcases hlk with ⟨⟨⟨h1, -⟩, -⟩, -⟩ | ⟨rfl, hlk⟩
    · exact absurd h1 h34
    · simp only [hst] at hs
      split at hs
      · rename_i k n r0
        split at hs
        · rename_i hcat
          cases hs
          simp only [List.map_cons]
          obtain ⟨v, hv⟩ := trv_ref X (k := k) (n := n) (by omega)
          rw [hv]
          have hm1 : ls.size = c.maxLocals := by rw [hml]; exact hl.2.1
          refine W.objInit hx hb hown (hts _ (obk_in _ (List.mem_map.mpr ⟨_, (by simpa using hlk), rfl⟩))) (hts _ (obi_in _ (by simp))) (hts _ (obi_in _ (by simp))) rfl hm1 rfl hd (by omega) ?_ (hsame rfl (kk H locs hR hS))
          have h9 : 2 * (F0 m pc ls (Value.ref v :: st1.map (trv X))).monitorRoom + ((st1.map (trv X)).map fun v => v.category).sum ≤ 8 := lv_room (by rw [cat_sum hX]; exact hcat.2)
          omega
        · cases hs
      · cases hs
  all_goals first
    | (exfalso; simp only [Bool.and_eq_true, Bool.or_eq_true, decide_eq_true_eq] at ha; omega)
    | cases ha
end HD
end
section
/-! SOUNDNESS X: a run of the plain machine is a run of the machine -/
section AG
variable {o pc len op a b q : Nat} {z : PV} {ins : Instr} {ini : Bool} {rt : Option FieldType}
theorem agl_34 (ha : agl o pc ini rt ins len 34 a b z q = true) : len = 3 ∧ q = pc + 3 ∧ ((∃ i K n0, ins = .invokevirtual i ∧ b = np a + 1 ∧ (o, i, a, 0) ∈ mlk ∧ z = .inr (.inr (K, n0)) ∧ ((K < 82 ∧ (kt K).1 = 0 ∧ clN K = (yy a).cls) ∨ (K = 90 ∧ (yy a).cls = "java/lang/String"))) ∨ (∃ i, ins = .invokestatic i ∧ b = np a ∧ ((o, i, a, 1) ∈ mlk ∨ (o, i, a, 4) ∈ mlk)) ∨ (∃ i K n0, ins = .invokespecial i ∧ b = np a + 1 ∧ ((o, i, a, 2) ∈ mlk ∨ (o, i, a, 3) ∈ mlk) ∧ z = .inr (.inr (K, n0)) ∧ K < 82)) := by
  unfold agl at ha
  split at ha
  case h_24 i =>
    simp only [Bool.and_eq_true, decide_eq_true_eq] at ha
    obtain ⟨⟨⟨-, rfl, rfl, h1⟩, h2⟩, h3⟩ := ha
    split at h3
    · rename_i K n0
      simp only [decide_eq_true_eq] at h3
      exact ⟨rfl, rfl, Or.inl ⟨i, K, n0, rfl, h1, by simpa using h2, rfl, h3⟩⟩
    · cases h3
  case h_25 i =>
    simp only [Bool.and_eq_true, Bool.or_eq_true, decide_eq_true_eq] at ha
    obtain ⟨⟨rfl, rfl⟩, hlk⟩ := ha
    rcases hlk with (((⟨⟨-, h1⟩, h2⟩ | ⟨h1, -⟩) | ⟨h1, -⟩) | ⟨h1, -⟩) | ⟨h1, -⟩
    · exact ⟨rfl, rfl, Or.inr (Or.inl ⟨i, rfl, h1, by simpa using h2⟩)⟩
    · cases h1
    · cases h1
    · cases h1
    · cases h1
  case h_26 i =>
    simp only [Bool.and_eq_true, Bool.or_eq_true, decide_eq_true_eq] at ha
    obtain ⟨⟨rfl, rfl⟩, hlk⟩ := ha
    rcases hlk with ⟨⟨⟨-, h1⟩, h2⟩, h3⟩ | ⟨h1, -⟩
    · split at h3
      · rename_i K n0
        simp only [decide_eq_true_eq] at h3
        exact ⟨rfl, rfl, Or.inr (Or.inr ⟨i, K, n0, rfl, h1, by simpa using h2, rfl, h3⟩)⟩
      · cases h3
    · cases h1
  all_goals first
    | (exfalso; simp only [Bool.and_eq_true, Bool.or_eq_true, decide_eq_true_eq] at ha; omega)
    | cases ha
theorem agl_45 (ha : agl o pc ini rt ins len 45 a b z q = true) : len = 3 ∧ q = pc + 3 ∧ o = 19 ∧ b = 6 ∧ ∃ i, ins = .invokestatic i := by
  unfold agl at ha
  split at ha
  case h_25 i =>
    simp only [Bool.and_eq_true, Bool.or_eq_true, decide_eq_true_eq] at ha
    obtain ⟨⟨rfl, rfl⟩, hlk⟩ := ha
    rcases hlk with (((⟨⟨h1, -⟩, -⟩ | ⟨h1, -⟩) | ⟨h1, -⟩) | ⟨h1, -⟩) | ⟨-, h2, h3⟩
    · cases h1
    · cases h1
    · cases h1
    · cases h1
    · exact ⟨rfl, rfl, h2, h3, i, rfl⟩
  case h_26 i =>
    simp only [Bool.and_eq_true, Bool.or_eq_true, decide_eq_true_eq] at ha
    obtain ⟨-, hlk⟩ := ha
    rcases hlk with ⟨⟨⟨h1, -⟩, -⟩, -⟩ | ⟨h1, -⟩ <;> cases h1
  all_goals first
    | (exfalso; simp only [Bool.and_eq_true, Bool.or_eq_true, decide_eq_true_eq] at ha; omega)
    | cases ha
theorem agl_35 (ha : agl o pc ini rt ins len 35 a b z q = true) : ins = .return_ ∧ len = 1 ∧ rt = none := by
  unfold agl at ha
  split at ha
  case h_19 =>
    simp only [decide_eq_true_eq] at ha
    exact ⟨rfl, ha.2.1, ha.2.2⟩
  case h_25 i =>
    simp only [Bool.and_eq_true, Bool.or_eq_true, decide_eq_true_eq] at ha
    obtain ⟨-, hlk⟩ := ha
    rcases hlk with (((⟨⟨h1, -⟩, -⟩ | ⟨h1, -⟩) | ⟨h1, -⟩) | ⟨h1, -⟩) | ⟨h1, -⟩ <;> cases h1
  case h_26 i =>
    simp only [Bool.and_eq_true, Bool.or_eq_true, decide_eq_true_eq] at ha
    obtain ⟨-, hlk⟩ := ha
    rcases hlk with ⟨⟨⟨h1, -⟩, -⟩, -⟩ | ⟨h1, -⟩ <;> cases h1
  all_goals first
    | (exfalso; simp only [Bool.and_eq_true, Bool.or_eq_true, decide_eq_true_eq] at ha; omega)
    | cases ha
theorem agl_36 {x : Int32} (ha : agl o pc ini rt ins len 36 a b z q = true) (hk : okr a x = true) : ins = .ireturn ∧ len = 1 ∧ ∃ ty, rt = some ty ∧ narrow ty (.int x) = .int x := by
  unfold agl at ha
  split at ha
  case h_20 =>
    simp only [decide_eq_true_eq] at ha
    refine ⟨rfl, ha.2.1, ?_⟩
    rcases ha.2.2 with ⟨rfl, h1⟩ | ⟨rfl, h1⟩ | ⟨rfl, h1⟩ | ⟨rfl, h1⟩
    · exact ⟨_, h1, rfl⟩
    · simp only [okr, decide_eq_true_eq] at hk
      exact ⟨_, h1, (nz01 hk).1⟩
    · simp only [okr, decide_eq_true_eq] at hk
      refine ⟨_, h1, ?_⟩
      rw [← hk]
      exact pk_nc x
    · simp only [okr, decide_eq_true_eq] at hk
      refine ⟨_, h1, ?_⟩
      rw [← hk]
      exact pk_nb x
  case h_25 i =>
    simp only [Bool.and_eq_true, Bool.or_eq_true, decide_eq_true_eq] at ha
    obtain ⟨-, hlk⟩ := ha
    rcases hlk with (((⟨⟨h1, -⟩, -⟩ | ⟨h1, -⟩) | ⟨h1, -⟩) | ⟨h1, -⟩) | ⟨h1, -⟩ <;> cases h1
  case h_26 i =>
    simp only [Bool.and_eq_true, Bool.or_eq_true, decide_eq_true_eq] at ha
    obtain ⟨-, hlk⟩ := ha
    rcases hlk with ⟨⟨⟨h1, -⟩, -⟩, -⟩ | ⟨h1, -⟩ <;> cases h1
  all_goals first
    | (exfalso; simp only [Bool.and_eq_true, Bool.or_eq_true, decide_eq_true_eq] at ha; omega)
    | cases ha
end AG
/-- what the law's own 'rests' is taken to do -/
def OrcOK (l : Launch) (X : CX) (Ls : Nat) (xs : Nat → Int32) (orc : Orc) : Prop := ∀ (as : List PV) (h : HS) (r : Option PV) (t : HS), orc as h = some (r, t) → hle h t ∧ ∀ {p : Program} {e : Env} {R : Room} {s : State} {m : MethodId} {args : Array Value} {below : List Frame} {meth : Method} {c : Code} {H : Heap} {locs : List Loc} {cells slots : Nat} {Q : State → Prop} {ls : Array Slot} {L : LL} {pc d idx a q : Nat} {z : PV} (rest : List PV), MC p s m args meth c mLaw X Ls xs → Rel X h H → va_S (xA X) s.heap H locs → hasL X ls (mx mLaw) L → d + 1 ≤ R.frames → 64 * (d + 1) ≤ R.locals → cells + dC h t ≤ R.cells → slots + dS h t ≤ R.slots → (rest.map catP).sum ≤ 8 → cod mLaw pc = some (45, a, 6, z, q) → decode (bb mLaw) pc = .ok (.invokestatic idx, 3) →
  (∀ (H1 : Heap) (locs1 : List Loc), Rel X t H1 → va_S (xA X) s.heap H1 locs1 → W p l e R s m args below meth c H1 locs1 (cells + dC h t) (slots + dS h t) Q (F0 m (pc + 3) ls (r.toList.map (trv X) ++ rest.map (trv X)))) → W p l e R s m args below meth c H locs cells slots Q (F0 m pc ls ((as.map (trv X)).reverse ++ rest.map (trv X)))
theorem mo_law {mm : Nat} (hm : mm < NM) (h : mo mm = 19) : mm = mLaw := by
  have h0 : ((List.range NM).all fun m => !decide (mo m = 19) || decide (m = mLaw)) = true := by decide +kernel
  have h1 := List.all_eq_true.mp h0 mm (List.mem_range.mpr hm)
  rw [h] at h1
  simpa using h1
set_option maxHeartbeats 8000000 in
theorem snd_main {l : Launch} {X : CX} {Ls : Nat} {xs : Nat → Int32} {orc : Orc} (hOr : OrcOK l X Ls xs orc) : ∀ (f d mm pc : Nat) (L : LL) (st : List PV) (h : HS) (r : Option PV) (t : HS), exec Ls xs orc f d mm pc L st h = some (r, t) →
    ∀ {p : Program} {e : Env} {R : Room} {s : State} {m : MethodId} {args : Array Value} {below : List Frame} {meth : Method} {c : Code} {H : Heap} {locs : List Loc} {cells slots : Nat} {Q : State → Prop} {ls : Array Slot}, MC p s m args meth c mm X Ls xs → Rel X h H → va_S (xA X) s.heap H locs → hasL X ls (mx mm) L → (h.1.1 < NN → s.heap.size + cells = xz X + h.1.1) → d ≤ R.frames → 64 * d ≤ R.locals → cells + dC h t ≤ R.cells → slots + dS h t ≤ R.slots →
      (∀ (H' : Heap) (locs' : List Loc) (ls' : Array Slot) (pc' : Nat), Rel X t H' → va_S (xA X) s.heap H' locs' → Rt mm pc' r → W p l e R s m args below meth c H' locs' (cells + dC h t) (slots + dS h t) Q (F0 m pc' ls' (r.toList.map (trv X)))) → W p l e R s m args below meth c H locs cells slots Q (F0 m pc ls (st.map (trv X))) := by
  have hOl : ∀ as h r t, orc as h = some (r, t) → hle h t := fun as h r t ho => (hOr as h r t ho).1
  intro f
  induction f with
  | zero => intro d mm pc L st h r t hg; simp [exec] at hg
  | succ f ih =>
    intro d mm pc L st h r t hg p e R s m args below meth c H locs cells slots Q ls C0 hR hS hl hz hfr hlo hc1 hc2 kret
    have hX : (xo X).category = 1 := C0.2.2.2.2.2.1.2.2.2.2.2.2.2.2.2.2.2
    unfold exec at hg
    split at hg
    · cases hg
    · rename_i op a b z q hcod
      obtain ⟨hmm, hck⟩ := cod_chk hcod
      have hdec : op = 99 ∨ ∃ ins len, decode (bb mm) pc = .ok (ins, len) ∧ (agb pc ins len op a b z q = true ∨ agl (mo mm) pc (decide ((yy mm).name = "<init>")) (rr mm) ins len op a b z q = true) := by
        unfold chk1 at hck
        simp only [Bool.or_eq_true, beq_iff_eq] at hck
        rcases hck with hck | hck
        · exact Or.inl hck
        · right
          split at hck
          · rename_i ins len hde
            exact ⟨ins, len, hde, by simpa using hck⟩
          · cases hck
      split at hg
      · rename_i h29
        split at hg
        · rename_i q1 L1 st1 hs
          have kk : ∀ ls' : Array Slot, hasL X ls' (mx mm) L1 → W p l e R s m args below meth c H locs cells slots Q (F0 m q1 ls' (st1.map (trv X))) := fun ls' hl' => ih _ _ _ _ _ _ _ _ hg C0 hR hS hl' hz hfr hlo hc1 hc2 kret
          rcases hdec with h99 | ⟨ins, len, hde, hag⟩
          · omega
          · rcases hag with hag | hag
            · exact sp_all C0.1 C0.2.1 hX hde (agb_ok hag) hs hl kk
            · exact sl_push C0 hS hde hag h29 hs hl kk
        · cases hg
      · rename_i h29
        rcases hdec with h99 | ⟨ins, len, hde, hag⟩
        · subst h99
          simp [hst] at hg
        · have hag := hag.resolve_left (fun h => h29 (agp_lt (agb_ok h)))
          have hzn : ∀ h1 : HS, hle h h1 → h1.1.1 < NN → s.heap.size + (cells + dC h h1) = xz X + h1.1.1 := by
            intro h1 hle1 hn
            have e1 := hz (Nat.lt_of_le_of_lt hle1.1 hn)
            have e2 := hle1.2.2 hn
            have e3 := hle1.1
            unfold dC
            omega
          split at hg
          · rename_i h34
            subst h34
            split at hg
            · cases hg
            · rename_i d1
              split at hg
              · rename_i hcond
                obtain ⟨hbl, hcat, hlen, hrc⟩ := hcond
                split at hg
                · rename_i r1 h1 he
                  have hle1 := exec_le hOl _ _ _ _ _ _ _ _ _ he
                  have hle2 := exec_le hOl _ _ _ _ _ _ _ _ _ hg
                  have eC := dC_add hle1 hle2
                  have eS := dS_add hle1 hle2
                  obtain ⟨rfl, rfl, hsty⟩ := agl_34 hag
                  have ham : a ∈ mAll := by
                    rcases hsty with ⟨i, K, n0, -, -, hlk, -⟩ | ⟨i, -, -, hlk | hlk⟩ | ⟨i, K, n0, -, -, hlk | hlk, -⟩ <;> exact (mlk_facts hlk).1
                  have hM : Ctr l X Ls xs a d1 (st.take b).reverse h r1 h1 := ctr_of ham hlen (fun C1 g1 g2 g3 g4 g5 g6 g7 g8 g9 => ih _ _ _ _ _ _ _ _ he C1 g1 g2 g3 g4 g5 g6 g7 g8 g9)
                  have kk : ∀ (H1 : Heap) (locs1 : List Loc), Rel X h1 H1 → va_S (xA X) s.heap H1 locs1 → W p l e R s m args below meth c H1 locs1 (cells + dC h h1) (slots + dS h h1) Q (F0 m (pc + 3) ls (r1.toList.map (trv X) ++ (st.drop b).map (trv X))) := by
                    intro H1 locs1 g1 g2
                    have k1 : W p l e R s m args below meth c H1 locs1 (cells + dC h h1) (slots + dS h h1) Q (F0 m (pc + 3) ls ((r1.toList ++ st.drop b).map (trv X))) := ih _ _ _ _ _ _ _ _ hg C0 g1 g2 hl (hzn h1 hle1) hfr hlo (by omega) (by omega) (fun H' locs' ls' pc' k1 k2 k3 => by
                      have k4 := kret H' locs' ls' pc' k1 k2 k3
                      rw [eC, eS, ← Nat.add_assoc, ← Nat.add_assoc] at k4
                      exact k4)
                    rw [List.map_append] at k1
                    exact k1
                  have hf1 : d1 + 1 ≤ R.frames := hfr
                  have hc1' : cells + dC h h1 ≤ R.cells := by omega
                  have hc2' : slots + dS h h1 ≤ R.slots := by omega
                  rcases hsty with ⟨i, K, n0, rfl, hbn, hlk, rfl, hK⟩ | ⟨i, rfl, hbn, hlk⟩ | ⟨i, K, n0, rfl, hbn, hlk, rfl, hK⟩
                  · exact sc_virt C0 hR hS hl hz hM hbl hcat hlk hbn hK hrc hf1 hlo hc1' hc2' hde kk
                  · exact sc_static C0 hR hS hl hz hM hbl hcat hlk hbn hf1 hlo hc1' hc2' hde kk
                  · exact sc_init C0 hR hS hl hz hM hbl hcat hlk hbn hK hrc hf1 hlo hc1' hc2' hde kk
                · cases hg
              · cases hg
          · rename_i h34
            split at hg
            · rename_i h45
              subst h45
              split at hg
              · cases hg
              · rename_i d1
                split at hg
                · rename_i hcond
                  split at hg
                  · rename_i r1 h1 he
                    obtain ⟨hle1, hrun⟩ := hOr _ _ _ _ he
                    have hle2 := exec_le hOl _ _ _ _ _ _ _ _ _ hg
                    have eC := dC_add hle1 hle2
                    have eS := dS_add hle1 hle2
                    obtain ⟨rfl, rfl, hmo, rfl, i, rfl⟩ := agl_45 hag
                    have hlaw := mo_law hmm hmo
                    subst hlaw
                    rw [st_split 6]
                    refine hrun (st.drop 6) C0 hR hS hl hfr hlo (by omega) (by omega) hcond.2 hcod hde (fun H1 locs1 g1 g2 => ?_)
                    have k1 : W p l e R s m args below meth c H1 locs1 (cells + dC h h1) (slots + dS h h1) Q (F0 m (pc + 3) ls ((r1.toList ++ st.drop 6).map (trv X))) := ih _ _ _ _ _ _ _ _ hg C0 g1 g2 hl (hzn h1 hle1) hfr hlo (by omega) (by omega) (fun H' locs' ls' pc' k1 k2 k3 => by
                      have k4 := kret H' locs' ls' pc' k1 k2 k3
                      rw [eC, eS, ← Nat.add_assoc, ← Nat.add_assoc] at k4
                      exact k4)
                    rw [List.map_append] at k1
                    exact k1
                  · cases hg
                · cases hg
            · rename_i h45
              split at hg
              · rename_i h35
                subst h35
                split at hg
                · cases hg
                  obtain ⟨rfl, rfl, hr⟩ := agl_35 hag
                  have k1 := kret H locs ls pc hR hS (Or.inl ⟨rfl, hde, hr⟩)
                  rw [dC_self, dS_self, Nat.add_zero, Nat.add_zero] at k1
                  exact k1
                · cases hg
              · rename_i h35
                split at hg
                · rename_i h36
                  subst h36
                  split at hg
                  · split at hg
                    · rename_i hk
                      cases hg
                      obtain ⟨rfl, rfl, ty, hr, hn⟩ := agl_36 hag hk
                      have k1 := kret H locs ls pc hR hS (Or.inr ⟨_, ty, rfl, hde, hr, hn⟩)
                      rw [dC_self, dS_self, Nat.add_zero, Nat.add_zero] at k1
                      exact k1
                    · cases hg
                  · cases hg
                · rename_i h36
                  split at hg
                  · cases hg
                  · rename_i hdd
                    split at hg
                    · rename_i q1 st1 h1 hs
                      have hle1 := hst_le hs
                      have hle2 := exec_le hOl _ _ _ _ _ _ _ _ _ hg
                      have eC := dC_add hle1 hle2
                      have eS := dS_add hle1 hle2
                      refine sl_heap C0 hR hS hl hz (fun h => of_decide_eq_true h) hde hag h29 h34 h45 h35 h36 hdd hfr hlo hs (by omega) (by omega) (by omega) (by omega) (fun H1 locs1 g1 g2 => ?_)
                      exact ih _ _ _ _ _ _ _ _ hg C0 g1 g2 hl (hzn h1 hle1) hfr hlo (by omega) (by omega) (fun H' locs' ls' pc' k1 k2 k3 => by
                        have k4 := kret H' locs' ls' pc' k1 k2 k3
                        rw [eC, eS, ← Nat.add_assoc, ← Nat.add_assoc] at k4
                        exact k4)
                    · cases hg
end
section
/-! RUNS OF THE PLAIN MACHINE: 'Tm' and its rules -/
theorem exec_fuel {Ls : Nat} {xs : Nat → Int32} {orc : Orc} : ∀ (f d m pc : Nat) (L : LL) (st : List PV) (h : HS) (x : Option PV × HS), exec Ls xs orc f d m pc L st h = some x → exec Ls xs orc (f + 1) d m pc L st h = some x := by
  intro f
  induction f with
  | zero => intro d m pc L st h x hg; simp [exec] at hg
  | succ f ih =>
    intro d m pc L st h x hg
    unfold exec at hg ⊢
    split at hg
    · cases hg
    · rename_i op a b z q hc
      split at hg
      · rename_i h1
        rw [if_pos h1]
        split at hg
        · rename_i he
          try rw [he]
          exact ih _ _ _ _ _ _ _ hg
        · cases hg
      · rename_i h1
        rw [if_neg h1]
        split at hg
        · rename_i h2
          rw [if_pos h2]
          split at hg
          · cases hg
          · rename_i d1
            split at hg
            · rename_i h3
              simp only [if_pos h3]
              split at hg
              · rename_i r1 h1 he
                rw [ih _ _ _ _ _ _ _ he]
                exact ih _ _ _ _ _ _ _ hg
              · cases hg
            · cases hg
        · rename_i h2
          rw [if_neg h2]
          split at hg
          · rename_i h3
            rw [if_pos h3]
            split at hg
            · cases hg
            · split at hg
              · rename_i h4
                simp only [if_pos h4]
                split at hg
                · rename_i he
                  try rw [he]
                  exact ih _ _ _ _ _ _ _ hg
                · cases hg
              · cases hg
          · rename_i h3
            rw [if_neg h3]
            split at hg
            · rename_i h4
              rw [if_pos h4]
              exact hg
            · rename_i h4
              rw [if_neg h4]
              split at hg
              · rename_i h5
                rw [if_pos h5]
                exact hg
              · rename_i h5
                rw [if_neg h5]
                split at hg
                · cases hg
                · rename_i h6
                  rw [if_neg h6]
                  split at hg
                  · rename_i he
                    try rw [he]
                    exact ih _ _ _ _ _ _ _ hg
                  · cases hg
theorem exec_more {Ls : Nat} {xs : Nat → Int32} {orc : Orc} {f g d m pc : Nat} {L : LL} {st : List PV} {h : HS} {x : Option PV × HS} (hfg : f ≤ g) (hg : exec Ls xs orc f d m pc L st h = some x) : exec Ls xs orc g d m pc L st h = some x := by
  induction g with
  | zero =>
    have h0 : f = 0 := by omega
    rw [h0] at hg
    exact hg
  | succ g ih =>
    by_cases h1 : f = g + 1
    · rw [← h1]; exact hg
    · exact exec_fuel _ _ _ _ _ _ _ _ (ih (by omega))
abbrev EV : Type := Nat × ((Nat → Int32) × Orc)
abbrev CT : Type := Nat × (Nat → Nat)
/-- from here the run ends with the answer r and the heap t -/
def Tm (E : EV) (d m pc : Nat) (L : LL) (st : List PV) (C : CT) (F : FT) (G : GT) (R : RT) (r : Option PV) (t : HS) : Prop := ∃ f, exec E.1 E.2.1 E.2.2 f d m pc L st (C, F, G, R) = some (r, t)
section TR
variable {E : EV} {d m pc op a b q q1 k n j K : Nat} {z : PV} {L L1 : LL} {st st1 : List PV} {C : CT} {F : FT} {G : GT} {R : RT} {r : Option PV} {t : HS} {x y i : Int32}
theorem t_p (hc : cod m pc = some (op, a, b, z, q)) (ho : op < 29) (hs : pst op a b z q L st = some (q1, L1, st1)) (kk : Tm E d m q1 L1 st1 C F G R r t) : Tm E d m pc L st C F G R r t := by
  obtain ⟨f, hf⟩ := kk
  refine ⟨f + 1, ?_⟩
  unfold exec
  rw [hc]
  simp only [if_pos ho, hs]
  exact hf
theorem t_h (hc : cod m pc = some (op, a, b, z, q)) (ho : 29 ≤ op ∧ op ≠ 34 ∧ op ≠ 45 ∧ op ≠ 35 ∧ op ≠ 36 ∧ op < 44) {C1 : CT} {F1 : FT} {G1 : GT} {R1 : RT} (hs : hst E.1 E.2.1 op a b q st (C, F, G, R) = some (q1, st1, (C1, F1, G1, R1))) (kk : Tm E d m q1 L st1 C1 F1 G1 R1 r t) : Tm E d m pc L st C F G R r t := by
  obtain ⟨f, hf⟩ := kk
  refine ⟨f + 1, ?_⟩
  unfold exec
  rw [hc]
  simp only
  rw [if_neg (by omega), if_neg ho.2.1, if_neg ho.2.2.1, if_neg ho.2.2.2.1, if_neg ho.2.2.2.2.1, if_neg (by omega), hs]
  exact hf
theorem t_h1 (hc : cod m pc = some (op, a, b, z, q)) (ho : 29 ≤ op ∧ op ≠ 34 ∧ op ≠ 45 ∧ op ≠ 35 ∧ op ≠ 36) (hd : 0 < d) {C1 : CT} {F1 : FT} {G1 : GT} {R1 : RT} (hs : hst E.1 E.2.1 op a b q st (C, F, G, R) = some (q1, st1, (C1, F1, G1, R1))) (kk : Tm E d m q1 L st1 C1 F1 G1 R1 r t) : Tm E d m pc L st C F G R r t := by
  obtain ⟨f, hf⟩ := kk
  refine ⟨f + 1, ?_⟩
  unfold exec
  rw [hc]
  simp only
  rw [if_neg (by omega), if_neg ho.2.1, if_neg ho.2.2.1, if_neg ho.2.2.2.1, if_neg ho.2.2.2.2, if_neg (by omega), hs]
  exact hf
/-- some steps without heap and without branches -/
def prun : Nat → Nat → Nat → LL → List PV → Option (Nat × (LL × List PV))
  | 0, _, pc, L, st => some (pc, L, st)
  | k + 1, m, pc, L, st => match cod m pc with
    | some (op, a, b, z, q) => if op < 27 then match pst op a b z q L st with
        | some (q1, L1, st1) => prun k m q1 L1 st1
        | none => none
      else none
    | none => none
theorem t_run : ∀ (k : Nat) {pc : Nat} {L : LL} {st : List PV}, prun k m pc L st = some (q1, L1, st1) → Tm E d m q1 L1 st1 C F G R r t → Tm E d m pc L st C F G R r t
  | 0, pc, L, st, h, kk => by
    simp only [prun, Option.some.injEq, Prod.mk.injEq] at h
    obtain ⟨rfl, rfl, rfl⟩ := h
    exact kk
  | k + 1, pc, L, st, h, kk => by
    unfold prun at h
    split at h
    · rename_i hc
      split at h
      · rename_i ho
        split at h
        · rename_i hs
          exact t_p hc (by omega) hs (t_run k h kk)
        · cases h
      · cases h
    · cases h
theorem t_if_eq (hc : cod m pc = some (27, 0, b, z, q)) (kt : (x = 0) → Tm E d m b L st C F G R r t) (kf : (¬ x = 0) → Tm E d m q L st C F G R r t) : Tm E d m pc L (vi x :: st) C F G R r t := by
  by_cases h : x = 0
  · exact t_p hc (by decide) (by simp only [pst]; rw [if_pos (by simpa [cnd] using h)]) (kt h)
  · exact t_p hc (by decide) (by simp only [pst]; rw [if_neg (by simpa [cnd] using h)]) (kf (by simpa using h))
theorem t_ic_eq (hc : cod m pc = some (28, 0, b, z, q)) (kt : (x = y) → Tm E d m b L st C F G R r t) (kf : (¬ x = y) → Tm E d m q L st C F G R r t) : Tm E d m pc L (vi y :: vi x :: st) C F G R r t := by
  by_cases h : x = y
  · exact t_p hc (by decide) (by simp only [pst]; rw [if_pos (by simpa [cnd] using h)]) (kt h)
  · exact t_p hc (by decide) (by simp only [pst]; rw [if_neg (by simpa [cnd] using h)]) (kf (by simpa using h))
theorem t_if_ne (hc : cod m pc = some (27, 1, b, z, q)) (kt : (¬ x = 0) → Tm E d m b L st C F G R r t) (kf : (x = 0) → Tm E d m q L st C F G R r t) : Tm E d m pc L (vi x :: st) C F G R r t := by
  by_cases h : ¬ x = 0
  · exact t_p hc (by decide) (by simp only [pst]; rw [if_pos (by simpa [cnd] using h)]) (kt h)
  · exact t_p hc (by decide) (by simp only [pst]; rw [if_neg (by simpa [cnd] using h)]) (kf (by simpa using h))
theorem t_ic_ne (hc : cod m pc = some (28, 1, b, z, q)) (kt : (¬ x = y) → Tm E d m b L st C F G R r t) (kf : (x = y) → Tm E d m q L st C F G R r t) : Tm E d m pc L (vi y :: vi x :: st) C F G R r t := by
  by_cases h : ¬ x = y
  · exact t_p hc (by decide) (by simp only [pst]; rw [if_pos (by simpa [cnd] using h)]) (kt h)
  · exact t_p hc (by decide) (by simp only [pst]; rw [if_neg (by simpa [cnd] using h)]) (kf (by simpa using h))
theorem t_if_lt (hc : cod m pc = some (27, 2, b, z, q)) (kt : (x < 0) → Tm E d m b L st C F G R r t) (kf : (¬ x < 0) → Tm E d m q L st C F G R r t) : Tm E d m pc L (vi x :: st) C F G R r t := by
  by_cases h : x < 0
  · exact t_p hc (by decide) (by simp only [pst]; rw [if_pos (by simpa [cnd] using h)]) (kt h)
  · exact t_p hc (by decide) (by simp only [pst]; rw [if_neg (by simpa [cnd] using h)]) (kf (by simpa using h))
theorem t_ic_lt (hc : cod m pc = some (28, 2, b, z, q)) (kt : (x < y) → Tm E d m b L st C F G R r t) (kf : (¬ x < y) → Tm E d m q L st C F G R r t) : Tm E d m pc L (vi y :: vi x :: st) C F G R r t := by
  by_cases h : x < y
  · exact t_p hc (by decide) (by simp only [pst]; rw [if_pos (by simpa [cnd] using h)]) (kt h)
  · exact t_p hc (by decide) (by simp only [pst]; rw [if_neg (by simpa [cnd] using h)]) (kf (by simpa using h))
theorem t_if_ge (hc : cod m pc = some (27, 3, b, z, q)) (kt : (0 ≤ x) → Tm E d m b L st C F G R r t) (kf : (¬ 0 ≤ x) → Tm E d m q L st C F G R r t) : Tm E d m pc L (vi x :: st) C F G R r t := by
  by_cases h : 0 ≤ x
  · exact t_p hc (by decide) (by simp only [pst]; rw [if_pos (by simpa [cnd] using h)]) (kt h)
  · exact t_p hc (by decide) (by simp only [pst]; rw [if_neg (by simpa [cnd] using h)]) (kf (by simpa using h))
theorem t_ic_ge (hc : cod m pc = some (28, 3, b, z, q)) (kt : (y ≤ x) → Tm E d m b L st C F G R r t) (kf : (¬ y ≤ x) → Tm E d m q L st C F G R r t) : Tm E d m pc L (vi y :: vi x :: st) C F G R r t := by
  by_cases h : y ≤ x
  · exact t_p hc (by decide) (by simp only [pst]; rw [if_pos (by simpa [cnd] using h)]) (kt h)
  · exact t_p hc (by decide) (by simp only [pst]; rw [if_neg (by simpa [cnd] using h)]) (kf (by simpa using h))
theorem t_if_gt (hc : cod m pc = some (27, 4, b, z, q)) (kt : (0 < x) → Tm E d m b L st C F G R r t) (kf : (¬ 0 < x) → Tm E d m q L st C F G R r t) : Tm E d m pc L (vi x :: st) C F G R r t := by
  by_cases h : 0 < x
  · exact t_p hc (by decide) (by simp only [pst]; rw [if_pos (by simpa [cnd] using h)]) (kt h)
  · exact t_p hc (by decide) (by simp only [pst]; rw [if_neg (by simpa [cnd] using h)]) (kf (by simpa using h))
theorem t_ic_gt (hc : cod m pc = some (28, 4, b, z, q)) (kt : (y < x) → Tm E d m b L st C F G R r t) (kf : (¬ y < x) → Tm E d m q L st C F G R r t) : Tm E d m pc L (vi y :: vi x :: st) C F G R r t := by
  by_cases h : y < x
  · exact t_p hc (by decide) (by simp only [pst]; rw [if_pos (by simpa [cnd] using h)]) (kt h)
  · exact t_p hc (by decide) (by simp only [pst]; rw [if_neg (by simpa [cnd] using h)]) (kf (by simpa using h))
theorem t_if_le (hc : cod m pc = some (27, 5, b, z, q)) (kt : (x ≤ 0) → Tm E d m b L st C F G R r t) (kf : (¬ x ≤ 0) → Tm E d m q L st C F G R r t) : Tm E d m pc L (vi x :: st) C F G R r t := by
  by_cases h : x ≤ 0
  · exact t_p hc (by decide) (by simp only [pst]; rw [if_pos (by simpa [cnd] using h)]) (kt h)
  · exact t_p hc (by decide) (by simp only [pst]; rw [if_neg (by simpa [cnd] using h)]) (kf (by simpa using h))
theorem t_ic_le (hc : cod m pc = some (28, 5, b, z, q)) (kt : (x ≤ y) → Tm E d m b L st C F G R r t) (kf : (¬ x ≤ y) → Tm E d m q L st C F G R r t) : Tm E d m pc L (vi y :: vi x :: st) C F G R r t := by
  by_cases h : x ≤ y
  · exact t_p hc (by decide) (by simp only [pst]; rw [if_pos (by simpa [cnd] using h)]) (kt h)
  · exact t_p hc (by decide) (by simp only [pst]; rw [if_neg (by simpa [cnd] using h)]) (kf (by simpa using h))
theorem t_gI (hc : cod m pc = some (29, K, j, z, q)) (hn : n < C.2 K) (hk : ((K == 90) = false ∧ (kt K).1 = 0 ∧ ((kt K).2.2[j]? = some (0, 0) ∨ (kt K).2.2[j]? = some (3, 0)))) (kk : Tm E d m q L (vi (F K n j) :: st) C F G R r t) : Tm E d m pc L (vr K n :: st) C F G R r t := by
  obtain ⟨h1, h2, h3⟩ := hk
  have h1 : ¬ K = 90 := by simpa using h1
  refine t_h hc (by decide) (C1 := C) (F1 := F) (G1 := G) (R1 := R) ?_ kk
  rcases h3 with h3 | h3 <;> simp [hst, gfd, h1, h2, h3, hn]
theorem t_gL (hc : cod m pc = some (29, K, j, z, q)) (hn : n < C.2 K) (hk : ((K == 90) = false ∧ (kt K).1 = 0 ∧ (kt K).2.2[j]? = some (1, 0))) (kk : Tm E d m q L (vl (G K n j) :: st) C F G R r t) : Tm E d m pc L (vr K n :: st) C F G R r t := by
  obtain ⟨h1, h2, h3⟩ := hk
  have h1 : ¬ K = 90 := by simpa using h1
  refine t_h hc (by decide) (C1 := C) (F1 := F) (G1 := G) (R1 := R) ?_ kk
  simp [hst, gfd, h1, h2, h3, hn]
theorem t_gR {rk n2 : Nat} (hc : cod m pc = some (29, K, j, z, q)) (hn : n < C.2 K) (hk : ((K == 90) = false ∧ (kt K).1 = 0 ∧ (kt K).2.2[j]? = some (2, rk))) (hR : R K n j = some n2) (kk : Tm E d m q L (vr rk n2 :: st) C F G R r t) : Tm E d m pc L (vr K n :: st) C F G R r t := by
  obtain ⟨h1, h2, h3⟩ := hk
  have h1 : ¬ K = 90 := by simpa using h1
  refine t_h hc (by decide) (C1 := C) (F1 := F) (G1 := G) (R1 := R) ?_ kk
  simp [hst, gfd, h1, h2, h3, hn, hR]
theorem t_gS (hc : cod m pc = some (29, 90, j, z, q)) (hn : n < 26) {v : PV} (hv : (if j = 0 then some (vr 91 n) else some (vi 0)) = some v) (kk : Tm E d m q L (v :: st) C F G R r t) : Tm E d m pc L (vr 90 n :: st) C F G R r t := by
  refine t_h hc (by decide) (C1 := C) (F1 := F) (G1 := G) (R1 := R) ?_ kk
  simp [hst, gfd, hn, hv]
theorem t_pI (hc : cod m pc = some (30, K, j, z, q)) (hn : n < C.2 K) (hk : (kt K).1 = 0 ∧ (kt K).2.2[j]? = some (0, 0)) (kk : Tm E d m q L st C (uF F K n j x) G R r t) : Tm E d m pc L (vi x :: vr K n :: st) C F G R r t := by
  obtain ⟨h2, h3⟩ := hk
  refine t_h hc (by decide) (C1 := C) (F1 := uF F K n j x) (G1 := G) (R1 := R) ?_ kk
  simp [hst, pfd, h2, h3, hn]
theorem t_pZ (hc : cod m pc = some (30, K, j, z, q)) (hn : n < C.2 K) (hk : (kt K).1 = 0 ∧ (kt K).2.2[j]? = some (3, 0)) (h01 : x = 0 ∨ x = 1) (kk : Tm E d m q L st C (uF F K n j x) G R r t) : Tm E d m pc L (vi x :: vr K n :: st) C F G R r t := by
  obtain ⟨h2, h3⟩ := hk
  refine t_h hc (by decide) (C1 := C) (F1 := uF F K n j x) (G1 := G) (R1 := R) ?_ kk
  simp [hst, pfd, h2, h3, hn, h01]
theorem t_pL {w : Int64} (hc : cod m pc = some (30, K, j, z, q)) (hn : n < C.2 K) (hk : (kt K).1 = 0 ∧ (kt K).2.2[j]? = some (1, 0)) (kk : Tm E d m q L st C F (uG G K n j w) R r t) : Tm E d m pc L (vl w :: vr K n :: st) C F G R r t := by
  obtain ⟨h2, h3⟩ := hk
  refine t_h hc (by decide) (C1 := C) (F1 := F) (G1 := uG G K n j w) (R1 := R) ?_ kk
  simp [hst, pfd, h2, h3, hn]
theorem t_pR {rk n2 : Nat} (hc : cod m pc = some (30, K, j, z, q)) (hn : n < C.2 K) (hk : (kt K).1 = 0 ∧ (kt K).2.2[j]? = some (2, rk)) (hn2 : n2 < C.2 rk) (kk : Tm E d m q L st C F G (uR R K n j (some n2)) r t) : Tm E d m pc L (vr rk n2 :: vr K n :: st) C F G R r t := by
  obtain ⟨h2, h3⟩ := hk
  refine t_h hc (by decide) (C1 := C) (F1 := F) (G1 := G) (R1 := uR R K n j (some n2)) ?_ kk
  simp [hst, pfd, h2, h3, hn, hn2]
theorem inb_nI {j N : Nat} (hj : j < N) (hN : N ≤ 100000) : inb (nI j) N = true := by
  have h := nI_in hj (by omega)
  simp only [inb, Bool.not_eq_true', Bool.or_eq_false_iff, decide_eq_false_iff_not]
  exact ⟨fun q => h (Or.inl q), fun q => h (Or.inr q)⟩
/-- reads of rows of ints (1), chars (2), booleans (3) -/
theorem t_ia (hc : cod m pc = some (31, a, b, z, q)) (ha : 1 ≤ a ∧ a ≤ 3) (hn : n < C.2 k) {N : Nat} (hk : ((k == 0) = false ∧ (k == 91) = false) ∧ (kt k).1 = a ∧ (kt k).2.1 = N) (hj : j < N) (hi : i = nI j) (kk : Tm E d m q L (vi (F k n j) :: st) C F G R r t) : Tm E d m pc L (vi i :: vr k n :: st) C F G R r t := by
  obtain ⟨⟨h1, h2⟩, h3, h4⟩ := hk
  have h1 : ¬ k = 0 := by simpa using h1
  have h2 : ¬ k = 91 := by simpa using h2
  have hN : N ≤ 2000 := by rw [← h4]; exact kt_len k
  subst hi
  have hcl : (nI j).toNatClampNeg = j := nI_clamp (by omega)
  refine t_h hc (by decide) (C1 := C) (F1 := F) (G1 := G) (R1 := R) ?_ kk
  have h5 : a = 1 ∨ a = 2 ∨ a = 3 := by omega
  rcases h5 with rfl | rfl | rfl <;> simp [hst, ald, h1, h2, h3, h4, hn, inb_nI hj (by omega), hcl]
theorem t_la (hc : cod m pc = some (31, 4, b, z, q)) (hn : n < C.2 k) {N : Nat} (hk : ((k == 0) = false ∧ (k == 91) = false) ∧ (kt k).1 = 4 ∧ (kt k).2.1 = N) (hj : j < N) (hi : i = nI j) (kk : Tm E d m q L (vl (G k n j) :: st) C F G R r t) : Tm E d m pc L (vi i :: vr k n :: st) C F G R r t := by
  obtain ⟨⟨h1, h2⟩, h3, h4⟩ := hk
  have h1 : ¬ k = 0 := by simpa using h1
  have h2 : ¬ k = 91 := by simpa using h2
  have hN : N ≤ 2000 := by rw [← h4]; exact kt_len k
  subst hi
  have hcl : (nI j).toNatClampNeg = j := nI_clamp (by omega)
  refine t_h hc (by decide) (C1 := C) (F1 := F) (G1 := G) (R1 := R) ?_ kk
  simp [hst, ald, h1, h2, h3, h4, hn, inb_nI hj (by omega), hcl]
theorem t_ra {rk n2 : Nat} (hc : cod m pc = some (31, 5, b, z, q)) (hn : n < C.2 k) {N : Nat} (hk : ((k == 0) = false ∧ (k == 91) = false) ∧ (kt k).1 = 5 ∧ (kt k).2.1 = N ∧ (kt k).2.2 = [(2, rk)]) (hj : j < N) (hi : i = nI j) (hR : R k n j = some n2) (kk : Tm E d m q L (vr rk n2 :: st) C F G R r t) : Tm E d m pc L (vi i :: vr k n :: st) C F G R r t := by
  obtain ⟨⟨h1, h2⟩, h3, h4, h5⟩ := hk
  have h1 : ¬ k = 0 := by simpa using h1
  have h2 : ¬ k = 91 := by simpa using h2
  have hN : N ≤ 2000 := by rw [← h4]; exact kt_len k
  subst hi
  have hcl : (nI j).toNatClampNeg = j := nI_clamp (by omega)
  refine t_h hc (by decide) (C1 := C) (F1 := F) (G1 := G) (R1 := R) ?_ kk
  simp [hst, ald, h1, h2, h3, h4, h5, hn, inb_nI hj (by omega), hcl, hR]
/-- the script -/
theorem t_sa (hc : cod m pc = some (31, 1, b, z, q)) (hj : j < E.1) (hE : E.1 ≤ 100000) (hi : i = nI j) (kk : Tm E d m q L (vi (E.2.1 j) :: st) C F G R r t) : Tm E d m pc L (vi i :: vr 0 0 :: st) C F G R r t := by
  subst hi
  have hcl : (nI j).toNatClampNeg = j := nI_clamp (by omega)
  refine t_h hc (by decide) (C1 := C) (F1 := F) (G1 := G) (R1 := R) ?_ kk
  simp [hst, ald, inb_nI hj hE, hcl]
/-- a text constant's byte -/
theorem t_ba (hc : cod m pc = some (31, 3, b, z, q)) (hn : n < 26) (hj : j < (sby n).length) (hl : (sby n).length ≤ 100000) (hi : i = nI j) (kk : Tm E d m q L (vi ((sby n).getD j 0) :: st) C F G R r t) : Tm E d m pc L (vi i :: vr 91 n :: st) C F G R r t := by
  subst hi
  have hcl : (nI j).toNatClampNeg = j := nI_clamp (by omega)
  refine t_h hc (by decide) (C1 := C) (F1 := F) (G1 := G) (R1 := R) ?_ kk
  simp [hst, ald, hn, inb_nI hj hl, hcl]
theorem t_is (hc : cod m pc = some (32, 1, b, z, q)) (hn : n < C.2 k) {N : Nat} (hk : (kt k).1 = 1 ∧ (kt k).2.1 = N) (hj : j < N) (hi : i = nI j) (kk : Tm E d m q L st C (uF F k n j x) G R r t) : Tm E d m pc L (vi x :: vi i :: vr k n :: st) C F G R r t := by
  obtain ⟨h3, h4⟩ := hk
  have hN : N ≤ 2000 := by rw [← h4]; exact kt_len k
  subst hi
  have hcl : (nI j).toNatClampNeg = j := nI_clamp (by omega)
  refine t_h hc (by decide) (C1 := C) (F1 := uF F k n j x) (G1 := G) (R1 := R) ?_ kk
  simp [hst, ast, h3, h4, hn, inb_nI hj (by omega), hcl]
theorem t_cs (hc : cod m pc = some (32, 2, b, z, q)) (hn : n < C.2 k) {N : Nat} (hk : (kt k).1 = 2 ∧ (kt k).2.1 = N) (hj : j < N) (hi : i = nI j) (kk : Tm E d m q L st C (uF F k n j (vp_nar .char x)) G R r t) : Tm E d m pc L (vi x :: vi i :: vr k n :: st) C F G R r t := by
  obtain ⟨h3, h4⟩ := hk
  have hN : N ≤ 2000 := by rw [← h4]; exact kt_len k
  subst hi
  have hcl : (nI j).toNatClampNeg = j := nI_clamp (by omega)
  refine t_h hc (by decide) (C1 := C) (F1 := uF F k n j (vp_nar .char x)) (G1 := G) (R1 := R) ?_ kk
  simp [hst, ast, h3, h4, hn, inb_nI hj (by omega), hcl]
theorem t_zs (hc : cod m pc = some (32, 3, b, z, q)) (hn : n < C.2 k) {N : Nat} (hk : (kt k).1 = 3 ∧ (kt k).2.1 = N) (hj : j < N) (hi : i = nI j) (h01 : x = 0 ∨ x = 1) (kk : Tm E d m q L st C (uF F k n j x) G R r t) : Tm E d m pc L (vi x :: vi i :: vr k n :: st) C F G R r t := by
  obtain ⟨h3, h4⟩ := hk
  have hN : N ≤ 2000 := by rw [← h4]; exact kt_len k
  subst hi
  have hcl : (nI j).toNatClampNeg = j := nI_clamp (by omega)
  refine t_h hc (by decide) (C1 := C) (F1 := uF F k n j x) (G1 := G) (R1 := R) ?_ kk
  simp [hst, ast, h3, h4, hn, inb_nI hj (by omega), hcl, h01]
theorem t_ls {w : Int64} (hc : cod m pc = some (32, 4, b, z, q)) (hn : n < C.2 k) {N : Nat} (hk : (kt k).1 = 4 ∧ (kt k).2.1 = N) (hj : j < N) (hi : i = nI j) (kk : Tm E d m q L st C F (uG G k n j w) R r t) : Tm E d m pc L (vl w :: vi i :: vr k n :: st) C F G R r t := by
  obtain ⟨h3, h4⟩ := hk
  have hN : N ≤ 2000 := by rw [← h4]; exact kt_len k
  subst hi
  have hcl : (nI j).toNatClampNeg = j := nI_clamp (by omega)
  refine t_h hc (by decide) (C1 := C) (F1 := F) (G1 := uG G k n j w) (R1 := R) ?_ kk
  simp [hst, ast, h3, h4, hn, inb_nI hj (by omega), hcl]
theorem t_al (hc : cod m pc = some (33, a, b, z, q)) (hn : n < C.2 k) {N : Nat} (hk : ((k == 0) = false ∧ (k == 91) = false) ∧ (1 ≤ (kt k).1 ∧ (kt k).1 ≤ 5) ∧ (kt k).2.1 = N) (kk : Tm E d m q L (vi (nI N) :: st) C F G R r t) : Tm E d m pc L (vr k n :: st) C F G R r t := by
  obtain ⟨⟨h1, h2⟩, h3, h4⟩ := hk
  have h1 : ¬ k = 0 := by simpa using h1
  have h2 : ¬ k = 91 := by simpa using h2
  refine t_h hc (by decide) (C1 := C) (F1 := F) (G1 := G) (R1 := R) ?_ kk
  simp [hst, aln, h1, h2, h3, h4, hn, nI]
theorem t_ret (hc : cod m pc = some (35, a, b, z, q)) : Tm E d m pc L [] C F G R none (C, F, G, R) := by
  refine ⟨1, ?_⟩
  unfold exec
  rw [hc]
  rfl
theorem t_iret (hc : cod m pc = some (36, a, b, z, q)) (hk : okr a x = true) : Tm E d m pc L [vi x] C F G R (some (vi x)) (C, F, G, R) := by
  refine ⟨1, ?_⟩
  unfold exec
  rw [hc]
  simp [hk]
theorem t_call (nA : Nat) {as : List PV} (hc : cod m pc = some (34, a, nA, z, q)) (hd : 0 < d) (hl : nA ≤ st.length) (has : (st.take nA).reverse = as) (hcat : ((st.drop nA).map catP).sum ≤ 8) (hen : (entG as).length ≤ mx a) (hr : recv z nA (C, F, G, R) as = true) {L0 : LL} (hL : entL a as = L0) {r1 : Option PV} {C1 : CT} {F1 : FT} {G1 : GT} {R1 : RT} (hC : Tm E (d - 1) a 0 L0 [] C F G R r1 (C1, F1, G1, R1)) {st2 : List PV} (h2 : r1.toList ++ st.drop nA = st2)
    (kk : Tm E d m q L st2 C1 F1 G1 R1 r t) : Tm E d m pc L st C F G R r t := by
  obtain ⟨f1, e1⟩ := hC
  obtain ⟨f2, e2⟩ := kk
  obtain ⟨d1, rfl⟩ : ∃ d1, d = d1 + 1 := ⟨d - 1, by omega⟩
  refine ⟨max f1 f2 + 1, ?_⟩
  rw [Nat.add_sub_cancel] at e1
  subst hL has h2
  unfold exec
  rw [hc]
  simp only
  rw [if_neg (by decide), if_pos trivial, if_pos ⟨hl, hcat, hen, hr⟩, exec_more (Nat.le_max_left f1 f2) e1]
  exact exec_more (Nat.le_max_right f1 f2) e2
theorem t_max (hc : cod m pc = some (47, a, b, z, q)) (hd : 0 < d) (hcat : (st.map catP).sum ≤ 8) (kk : Tm E d m q L (vi (if x < y then y else x) :: st) C F G R r t) : Tm E d m pc L (vi y :: vi x :: st) C F G R r t :=
  t_h1 hc (by decide) hd (by simp only [hst, if_pos hcat]) kk
theorem t_min (hc : cod m pc = some (48, a, b, z, q)) (hd : 0 < d) (hcat : (st.map catP).sum ≤ 8) (kk : Tm E d m q L (vi (if y < x then y else x) :: st) C F G R r t) : Tm E d m pc L (vi y :: vi x :: st) C F G R r t :=
  t_h1 hc (by decide) hd (by simp only [hst, if_pos hcat]) kk
/-- System.arraycopy of rows of ints: all numbers as they are written -/
theorem t_cpy {k2 n2 sp dp mm N N2 : Nat} (hc : cod m pc = some (46, a, b, z, q)) (hd : 0 < d) (hcat : (st.map catP).sum ≤ 8) (hk : ((kt k2).1 = 1 ∧ (kt k2).2.1 = N2) ∧ (kt k).1 = 1 ∧ (kt k).2.1 = N) (hn2 : n2 < C.2 k2) (hn : n < C.2 k) (h1 : sp + mm ≤ N2) (h2 : dp + mm ≤ N) {i1 i2 i3 : Int32} (e1 : i1 = nI sp) (e2 : i2 = nI dp) (e3 : i3 = nI mm) (kk : Tm E d m q L st C (cF F k n dp k2 n2 sp mm) G R r t) : Tm E d m pc L (vi i3 :: vi i2 :: vr k n :: vi i1 :: vr k2 n2 :: st) C F G R r t := by
  obtain ⟨⟨g1, g2⟩, g3, g4⟩ := hk
  have hN : N ≤ 2000 := by rw [← g4]; exact kt_len k
  have hN2 : N2 ≤ 2000 := by rw [← g2]; exact kt_len k2
  subst e1 e2 e3
  have c1 : (nI sp).toNatClampNeg = sp := nI_clamp (by omega)
  have c2 : (nI dp).toNatClampNeg = dp := nI_clamp (by omega)
  have c3 : (nI mm).toNatClampNeg = mm := nI_clamp (by omega)
  have p1 : (0 : Int32) ≤ nI sp := nI_pos' (by omega)
  have p2 : (0 : Int32) ≤ nI dp := nI_pos' (by omega)
  have p3 : (0 : Int32) ≤ nI mm := nI_pos' (by omega)
  refine t_h1 hc (by decide) hd (C1 := C) (F1 := cF F k n dp k2 n2 sp mm) (G1 := G) (R1 := R) ?_ kk
  simp only [hst, if_pos hcat, cpa]
  rw [if_pos ⟨g1, g3, hn2, hn, p1, p2, p3, by rw [c1, c3, g2]; exact h1, by rw [c2, c3, g4]; exact h2⟩, c1, c2, c3]
  rfl
theorem t_sw {lo : Int} {ts : List Nat} {df : Nat} (hc : cod m pc = some (38, a, b, z, q)) (hT : tswt[a]? = some (lo, ts, df)) (hq : (if x.toInt < lo then df else (ts[(x.toInt - lo).toNat]?).getD df) = q1) (kk : Tm E d m q1 L st C F G R r t) : Tm E d m pc L (vi x :: st) C F G R r t := by
  subst hq
  exact t_h hc (by decide) (C1 := C) (F1 := F) (G1 := G) (R1 := R) (by simp only [hst, hT]) kk
theorem exec_leL {Ls : Nat} {xs : Nat → Int32} {orc : Orc} : ∀ (f d m pc : Nat) (L L' : LL) (st : List PV) (h : HS) (x : Option PV × HS), leL L L' → exec Ls xs orc f d m pc L st h = some x → exec Ls xs orc f d m pc L' st h = some x := by
  intro f
  induction f with
  | zero => intro d m pc L L' st h x hL hg; simp [exec] at hg
  | succ f ih =>
    intro d m pc L L' st h x hL hg
    unfold exec at hg ⊢
    split at hg
    · cases hg
    · rename_i op a b z q hc
      split at hg
      · rename_i h1
        rw [if_pos h1]
        split at hg
        · rename_i q1 L1 st1 he
          obtain ⟨L1', hL1, he'⟩ := pst_le hL he
          rw [he']
          exact ih _ _ _ _ _ _ _ _ hL1 hg
        · cases hg
      · rename_i h1
        rw [if_neg h1]
        split at hg
        · rename_i h2
          rw [if_pos h2]
          split at hg
          · cases hg
          · rename_i d1
            split at hg
            · rename_i h3
              simp only [if_pos h3]
              split at hg
              · try rename_i he; rw [he]
                exact ih _ _ _ _ _ _ _ _ hL hg
              · cases hg
            · cases hg
        · rename_i h2
          rw [if_neg h2]
          split at hg
          · rename_i h3
            rw [if_pos h3]
            split at hg
            · cases hg
            · split at hg
              · rename_i h4
                simp only [if_pos h4]
                split at hg
                · exact ih _ _ _ _ _ _ _ _ hL hg
                · cases hg
              · cases hg
          · rename_i h3
            rw [if_neg h3]
            split at hg
            · rename_i h4
              rw [if_pos h4]
              exact hg
            · rename_i h4
              rw [if_neg h4]
              split at hg
              · rename_i h5
                rw [if_pos h5]
                exact hg
              · rename_i h5
                rw [if_neg h5]
                split at hg
                · cases hg
                · rename_i h6
                  rw [if_neg h6]
                  split at hg
                  · exact ih _ _ _ _ _ _ _ _ hL hg
                  · cases hg
/-- fewer locals are enough -/
theorem t_le (hL : leL L1 L) (kk : Tm E d m pc L1 st C F G R r t) : Tm E d m pc L st C F G R r t := by
  obtain ⟨f, hf⟩ := kk
  exact ⟨f, exec_leL _ _ _ _ _ _ _ _ _ hL hf⟩
theorem recv_ok {n0 nA : Nat} {As : List PV} {h : HS} (h90 : (K == 90) = false) (hn : n < h.1.2 K) : recv (vr K n0) nA h (vr K n :: As) = true := by
  have h1 : ¬ K = 90 := by simpa using h90
  simp [recv, h1, hn]
theorem recv_st {nA : Nat} {As : List PV} {h : HS} : recv z0 nA h As = true := rfl
end TR
/-- the numbers of cells once all are made; x: of exceptions -/
def cnt0 : List Nat := [0, 1, 1, 1, 1, 1, 1, 1, 1, 2, 2, 2, 2, 2, 2, 2, 2, 2, 2, 6, 6, 6, 6, 5, 5, 27, 27, 27, 27, 1, 1, 1, 1, 1, 1, 1, 1, 1, 1, 1, 1, 1, 1, 1, 1, 1, 1, 1, 1, 1, 1, 1, 1, 1, 1, 1, 1, 1, 1, 1, 1, 1, 1, 1, 1, 1, 1, 1, 1, 1, 1, 1, 1, 1, 1, 1, 1, 1, 1, 1, 1, 1]
def cn (x k : Nat) : Nat := if k = 1000 then x else cnt0.getD k 0
abbrev cC (x : Nat) : CT := (223, cn x)
/-- the references once all is made; b: the lands are changed about -/
def Rs (b : Bool) : RT := fun k n j =>
  if k = 1 then (if j = 2 then some (if b then 1 else 0) else if j = 3 then some (if b then 0 else 1) else if j = 8 then some 21 else some 0)
  else if k = 2 then some (1 + j)
  else if k = 30 then some (5 + j)
  else if k = 32 then some (22 + j)
  else if k = 23 then (if j = 1 then some (n + 1) else some n)
  else some n
end
