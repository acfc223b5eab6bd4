section
-- ===== PART A: goes FIRST, ahead of the names: the tables' words, and 'selects' of the private methods out of them =====
/-- a private method of a class that the tables say can be made, by its rows of tables_1 -/
def lw_okq (q : MethodName × Nat) : Prop := (q.1.cls ≠ "java/lang/invoke/MethodHandle" ∧ q.1.cls ≠ "java/lang/invoke/VarHandle") ∧ Cond.instantiable q.1.cls q.2 ∈ tables_1 ∧ Cond.privateMethod q.1 ∈ tables_1 ∧ Cond.instanceMethod q.1 ∈ tables_1
theorem lw_p0 : lw_okq (⟨"UrchinSchool$Ledge", "advance", "()V"⟩, 10) := ⟨⟨by decide +kernel, by decide +kernel⟩, List.mem_of_getElem? (i := 265) (by decide +kernel), List.mem_of_getElem? (i := 344) (by decide +kernel), List.mem_of_getElem? (i := 345) (by decide +kernel)⟩
theorem lw_p1 : lw_okq (⟨"UrchinSchool$Ledge", "readClause", "()Z"⟩, 10) := ⟨⟨by decide +kernel, by decide +kernel⟩, List.mem_of_getElem? (i := 265) (by decide +kernel), List.mem_of_getElem? (i := 348) (by decide +kernel), List.mem_of_getElem? (i := 349) (by decide +kernel)⟩
theorem lw_p2 : lw_okq (⟨"UrchinSchool$Ledge", "takeWord", "(Ljava/lang/String;)Z"⟩, 10) := ⟨⟨by decide +kernel, by decide +kernel⟩, List.mem_of_getElem? (i := 265) (by decide +kernel), List.mem_of_getElem? (i := 359) (by decide +kernel), List.mem_of_getElem? (i := 360) (by decide +kernel)⟩
theorem lw_p3 : lw_okq (⟨"UrchinSchool$Ledge", "take", "(I)Z"⟩, 10) := ⟨⟨by decide +kernel, by decide +kernel⟩, List.mem_of_getElem? (i := 265) (by decide +kernel), List.mem_of_getElem? (i := 411) (by decide +kernel), List.mem_of_getElem? (i := 412) (by decide +kernel)⟩
theorem lw_p4 : lw_okq (⟨"UrchinSchool$Ledge", "readNumber", "()Z"⟩, 10) := ⟨⟨by decide +kernel, by decide +kernel⟩, List.mem_of_getElem? (i := 265) (by decide +kernel), List.mem_of_getElem? (i := 415) (by decide +kernel), List.mem_of_getElem? (i := 416) (by decide +kernel)⟩
theorem lw_p5 : lw_okq (⟨"UrchinSchool$Ledge", "readEither", "(I)Z"⟩, 10) := ⟨⟨by decide +kernel, by decide +kernel⟩, List.mem_of_getElem? (i := 265) (by decide +kernel), List.mem_of_getElem? (i := 422) (by decide +kernel), List.mem_of_getElem? (i := 423) (by decide +kernel)⟩
theorem lw_p6 : lw_okq (⟨"UrchinSchool$Ledge", "readBoth", "(I)Z"⟩, 10) := ⟨⟨by decide +kernel, by decide +kernel⟩, List.mem_of_getElem? (i := 265) (by decide +kernel), List.mem_of_getElem? (i := 426) (by decide +kernel), List.mem_of_getElem? (i := 427) (by decide +kernel)⟩
theorem lw_p7 : lw_okq (⟨"UrchinSchool$Ledge", "readPart", "(I)Z"⟩, 10) := ⟨⟨by decide +kernel, by decide +kernel⟩, List.mem_of_getElem? (i := 265) (by decide +kernel), List.mem_of_getElem? (i := 430) (by decide +kernel), List.mem_of_getElem? (i := 431) (by decide +kernel)⟩
theorem lw_p8 : lw_okq (⟨"UrchinSchool$Ledge", "readTest", "()Z"⟩, 10) := ⟨⟨by decide +kernel, by decide +kernel⟩, List.mem_of_getElem? (i := 265) (by decide +kernel), List.mem_of_getElem? (i := 434) (by decide +kernel), List.mem_of_getElem? (i := 435) (by decide +kernel)⟩
theorem lw_p9 : lw_okq (⟨"UrchinSchool$Ledge", "put", "(I)Z"⟩, 10) := ⟨⟨by decide +kernel, by decide +kernel⟩, List.mem_of_getElem? (i := 265) (by decide +kernel), List.mem_of_getElem? (i := 500) (by decide +kernel), List.mem_of_getElem? (i := 501) (by decide +kernel)⟩
theorem lw_p10 : lw_okq (⟨"UrchinSchool", "holding", "()LUrchinSchool$Ledge;"⟩, 8) := ⟨⟨by decide +kernel, by decide +kernel⟩, List.mem_of_getElem? (i := 24) (by decide +kernel), List.mem_of_getElem? (i := 537) (by decide +kernel), List.mem_of_getElem? (i := 538) (by decide +kernel)⟩
theorem lw_p11 : lw_okq (⟨"UrchinSchool$Heeds", "look", "(LUrchinSchool$School;II)V"⟩, 11) := ⟨⟨by decide +kernel, by decide +kernel⟩, List.mem_of_getElem? (i := 123) (by decide +kernel), List.mem_of_getElem? (i := 545) (by decide +kernel), List.mem_of_getElem? (i := 546) (by decide +kernel)⟩
theorem lw_p12 : lw_okq (⟨"UrchinSchool$School", "knownBy", "(I)I"⟩, 14) := ⟨⟨by decide +kernel, by decide +kernel⟩, List.mem_of_getElem? (i := 32) (by decide +kernel), List.mem_of_getElem? (i := 638) (by decide +kernel), List.mem_of_getElem? (i := 639) (by decide +kernel)⟩
theorem lw_p13 : lw_okq (⟨"UrchinSchool", "toldLesson", "(I)I"⟩, 8) := ⟨⟨by decide +kernel, by decide +kernel⟩, List.mem_of_getElem? (i := 24) (by decide +kernel), List.mem_of_getElem? (i := 642) (by decide +kernel), List.mem_of_getElem? (i := 643) (by decide +kernel)⟩
theorem lw_p14 : lw_okq (⟨"UrchinSchool", "go", "(LUrchinSchool$School;I)V"⟩, 8) := ⟨⟨by decide +kernel, by decide +kernel⟩, List.mem_of_getElem? (i := 24) (by decide +kernel), List.mem_of_getElem? (i := 660) (by decide +kernel), List.mem_of_getElem? (i := 661) (by decide +kernel)⟩
theorem lw_p15 : lw_okq (⟨"UrchinSchool$Heeds", "weigh", "(LUrchinSchool$School;LUrchinSchool$Ledge;I)I"⟩, 11) := ⟨⟨by decide +kernel, by decide +kernel⟩, List.mem_of_getElem? (i := 123) (by decide +kernel), List.mem_of_getElem? (i := 677) (by decide +kernel), List.mem_of_getElem? (i := 678) (by decide +kernel)⟩
def lw_privs_1 : List (MethodName × Nat) := [(⟨"UrchinSchool$Ledge", "advance", "()V"⟩, 10), (⟨"UrchinSchool$Ledge", "readClause", "()Z"⟩, 10), (⟨"UrchinSchool$Ledge", "takeWord", "(Ljava/lang/String;)Z"⟩, 10), (⟨"UrchinSchool$Ledge", "take", "(I)Z"⟩, 10), (⟨"UrchinSchool$Ledge", "readNumber", "()Z"⟩, 10), (⟨"UrchinSchool$Ledge", "readEither", "(I)Z"⟩, 10), (⟨"UrchinSchool$Ledge", "readBoth", "(I)Z"⟩, 10), (⟨"UrchinSchool$Ledge", "readPart", "(I)Z"⟩, 10), (⟨"UrchinSchool$Ledge", "readTest", "()Z"⟩, 10), (⟨"UrchinSchool$Ledge", "put", "(I)Z"⟩, 10), (⟨"UrchinSchool", "holding", "()LUrchinSchool$Ledge;"⟩, 8), (⟨"UrchinSchool$Heeds", "look", "(LUrchinSchool$School;II)V"⟩, 11), (⟨"UrchinSchool$School", "knownBy", "(I)I"⟩, 14), (⟨"UrchinSchool", "toldLesson", "(I)I"⟩, 8), (⟨"UrchinSchool", "go", "(LUrchinSchool$School;I)V"⟩, 8), (⟨"UrchinSchool$Heeds", "weigh", "(LUrchinSchool$School;LUrchinSchool$Ledge;I)I"⟩, 11)]
theorem lw_r1 : ∀ q ∈ lw_privs_1, lw_okq q := List.forall_mem_cons.mpr ⟨lw_p0, List.forall_mem_cons.mpr ⟨lw_p1, List.forall_mem_cons.mpr ⟨lw_p2, List.forall_mem_cons.mpr ⟨lw_p3, List.forall_mem_cons.mpr ⟨lw_p4, List.forall_mem_cons.mpr ⟨lw_p5, List.forall_mem_cons.mpr ⟨lw_p6, List.forall_mem_cons.mpr ⟨lw_p7, List.forall_mem_cons.mpr ⟨lw_p8, List.forall_mem_cons.mpr ⟨lw_p9, List.forall_mem_cons.mpr ⟨lw_p10, List.forall_mem_cons.mpr ⟨lw_p11, List.forall_mem_cons.mpr ⟨lw_p12, List.forall_mem_cons.mpr ⟨lw_p13, List.forall_mem_cons.mpr ⟨lw_p14, List.forall_mem_cons.mpr ⟨lw_p15, fun _ h => absurd h List.not_mem_nil⟩⟩⟩⟩⟩⟩⟩⟩⟩⟩⟩⟩⟩⟩⟩⟩
theorem lw_p16 : lw_okq (⟨"UrchinSchool", "tidesAheadWith", "(I)I"⟩, 8) := ⟨⟨by decide +kernel, by decide +kernel⟩, List.mem_of_getElem? (i := 24) (by decide +kernel), List.mem_of_getElem? (i := 699) (by decide +kernel), List.mem_of_getElem? (i := 700) (by decide +kernel)⟩
theorem lw_p17 : lw_okq (⟨"UrchinSchool", "heldIfTaught", "(II)I"⟩, 8) := ⟨⟨by decide +kernel, by decide +kernel⟩, List.mem_of_getElem? (i := 24) (by decide +kernel), List.mem_of_getElem? (i := 707) (by decide +kernel), List.mem_of_getElem? (i := 708) (by decide +kernel)⟩
theorem lw_p18 : lw_okq (⟨"UrchinSchool", "tidesIfTold", "(II)I"⟩, 8) := ⟨⟨by decide +kernel, by decide +kernel⟩, List.mem_of_getElem? (i := 24) (by decide +kernel), List.mem_of_getElem? (i := 718) (by decide +kernel), List.mem_of_getElem? (i := 719) (by decide +kernel)⟩
theorem lw_p19 : lw_okq (⟨"UrchinSchool", "seenIsSo", "()Z"⟩, 8) := ⟨⟨by decide +kernel, by decide +kernel⟩, List.mem_of_getElem? (i := 24) (by decide +kernel), List.mem_of_getElem? (i := 745) (by decide +kernel), List.mem_of_getElem? (i := 746) (by decide +kernel)⟩
theorem lw_p20 : lw_okq (⟨"UrchinSchool", "isPlan", "(II)Z"⟩, 8) := ⟨⟨by decide +kernel, by decide +kernel⟩, List.mem_of_getElem? (i := 24) (by decide +kernel), List.mem_of_getElem? (i := 786) (by decide +kernel), List.mem_of_getElem? (i := 787) (by decide +kernel)⟩
theorem lw_p21 : lw_okq (⟨"UrchinSchool", "doPlanned", "(II)V"⟩, 8) := ⟨⟨by decide +kernel, by decide +kernel⟩, List.mem_of_getElem? (i := 24) (by decide +kernel), List.mem_of_getElem? (i := 795) (by decide +kernel), List.mem_of_getElem? (i := 796) (by decide +kernel)⟩
theorem lw_p22 : lw_okq (⟨"UrchinSchoolModel", "clauseHere", "()V"⟩, 21) := ⟨⟨by decide +kernel, by decide +kernel⟩, List.mem_of_getElem? (i := 954) (by decide +kernel), List.mem_of_getElem? (i := 1035) (by decide +kernel), List.mem_of_getElem? (i := 1036) (by decide +kernel)⟩
theorem lw_p23 : lw_okq (⟨"UrchinSchoolModel", "here", "()I"⟩, 21) := ⟨⟨by decide +kernel, by decide +kernel⟩, List.mem_of_getElem? (i := 954) (by decide +kernel), List.mem_of_getElem? (i := 1039) (by decide +kernel), List.mem_of_getElem? (i := 1040) (by decide +kernel)⟩
theorem lw_p24 : lw_okq (⟨"UrchinSchoolModel", "tellsHere", "(ILjava/lang/String;)V"⟩, 21) := ⟨⟨by decide +kernel, by decide +kernel⟩, List.mem_of_getElem? (i := 954) (by decide +kernel), List.mem_of_getElem? (i := 1044) (by decide +kernel), List.mem_of_getElem? (i := 1045) (by decide +kernel)⟩
theorem lw_p25 : lw_okq (⟨"UrchinSchoolModel", "spells", "(Ljava/lang/String;)V"⟩, 21) := ⟨⟨by decide +kernel, by decide +kernel⟩, List.mem_of_getElem? (i := 954) (by decide +kernel), List.mem_of_getElem? (i := 1048) (by decide +kernel), List.mem_of_getElem? (i := 1049) (by decide +kernel)⟩
theorem lw_p26 : lw_okq (⟨"UrchinSchoolModel", "must", "(I)V"⟩, 21) := ⟨⟨by decide +kernel, by decide +kernel⟩, List.mem_of_getElem? (i := 954) (by decide +kernel), List.mem_of_getElem? (i := 1054) (by decide +kernel), List.mem_of_getElem? (i := 1055) (by decide +kernel)⟩
theorem lw_p27 : lw_okq (⟨"UrchinSchoolModel", "figures", "()I"⟩, 21) := ⟨⟨by decide +kernel, by decide +kernel⟩, List.mem_of_getElem? (i := 954) (by decide +kernel), List.mem_of_getElem? (i := 1058) (by decide +kernel), List.mem_of_getElem? (i := 1059) (by decide +kernel)⟩
theorem lw_p28 : lw_okq (⟨"UrchinSchoolModel", "much", "(ILjava/lang/String;)V"⟩, 21) := ⟨⟨by decide +kernel, by decide +kernel⟩, List.mem_of_getElem? (i := 954) (by decide +kernel), List.mem_of_getElem? (i := 1064) (by decide +kernel), List.mem_of_getElem? (i := 1065) (by decide +kernel)⟩
theorem lw_p29 : lw_okq (⟨"UrchinSchoolModel", "some", "()V"⟩, 21) := ⟨⟨by decide +kernel, by decide +kernel⟩, List.mem_of_getElem? (i := 954) (by decide +kernel), List.mem_of_getElem? (i := 1068) (by decide +kernel), List.mem_of_getElem? (i := 1069) (by decide +kernel)⟩
theorem lw_p30 : lw_okq (⟨"UrchinSchoolModel", "every", "()V"⟩, 21) := ⟨⟨by decide +kernel, by decide +kernel⟩, List.mem_of_getElem? (i := 954) (by decide +kernel), List.mem_of_getElem? (i := 1072) (by decide +kernel), List.mem_of_getElem? (i := 1073) (by decide +kernel)⟩
theorem lw_p31 : lw_okq (⟨"UrchinSchoolModel", "factor", "()V"⟩, 21) := ⟨⟨by decide +kernel, by decide +kernel⟩, List.mem_of_getElem? (i := 954) (by decide +kernel), List.mem_of_getElem? (i := 1076) (by decide +kernel), List.mem_of_getElem? (i := 1077) (by decide +kernel)⟩
def lw_privs_2 : List (MethodName × Nat) := [(⟨"UrchinSchool", "tidesAheadWith", "(I)I"⟩, 8), (⟨"UrchinSchool", "heldIfTaught", "(II)I"⟩, 8), (⟨"UrchinSchool", "tidesIfTold", "(II)I"⟩, 8), (⟨"UrchinSchool", "seenIsSo", "()Z"⟩, 8), (⟨"UrchinSchool", "isPlan", "(II)Z"⟩, 8), (⟨"UrchinSchool", "doPlanned", "(II)V"⟩, 8), (⟨"UrchinSchoolModel", "clauseHere", "()V"⟩, 21), (⟨"UrchinSchoolModel", "here", "()I"⟩, 21), (⟨"UrchinSchoolModel", "tellsHere", "(ILjava/lang/String;)V"⟩, 21), (⟨"UrchinSchoolModel", "spells", "(Ljava/lang/String;)V"⟩, 21), (⟨"UrchinSchoolModel", "must", "(I)V"⟩, 21), (⟨"UrchinSchoolModel", "figures", "()I"⟩, 21), (⟨"UrchinSchoolModel", "much", "(ILjava/lang/String;)V"⟩, 21), (⟨"UrchinSchoolModel", "some", "()V"⟩, 21), (⟨"UrchinSchoolModel", "every", "()V"⟩, 21), (⟨"UrchinSchoolModel", "factor", "()V"⟩, 21)]
theorem lw_r2 : ∀ q ∈ lw_privs_2, lw_okq q := List.forall_mem_cons.mpr ⟨lw_p16, List.forall_mem_cons.mpr ⟨lw_p17, List.forall_mem_cons.mpr ⟨lw_p18, List.forall_mem_cons.mpr ⟨lw_p19, List.forall_mem_cons.mpr ⟨lw_p20, List.forall_mem_cons.mpr ⟨lw_p21, List.forall_mem_cons.mpr ⟨lw_p22, List.forall_mem_cons.mpr ⟨lw_p23, List.forall_mem_cons.mpr ⟨lw_p24, List.forall_mem_cons.mpr ⟨lw_p25, List.forall_mem_cons.mpr ⟨lw_p26, List.forall_mem_cons.mpr ⟨lw_p27, List.forall_mem_cons.mpr ⟨lw_p28, List.forall_mem_cons.mpr ⟨lw_p29, List.forall_mem_cons.mpr ⟨lw_p30, List.forall_mem_cons.mpr ⟨lw_p31, fun _ h => absurd h List.not_mem_nil⟩⟩⟩⟩⟩⟩⟩⟩⟩⟩⟩⟩⟩⟩⟩⟩
theorem lw_p32 : lw_okq (⟨"UrchinSchoolModel", "emits", "(I)V"⟩, 21) := ⟨⟨by decide +kernel, by decide +kernel⟩, List.mem_of_getElem? (i := 954) (by decide +kernel), List.mem_of_getElem? (i := 1080) (by decide +kernel), List.mem_of_getElem? (i := 1081) (by decide +kernel)⟩
theorem lw_p33 : lw_okq (⟨"UrchinSchoolModel", "among", "(Ljava/lang/String;)I"⟩, 21) := ⟨⟨by decide +kernel, by decide +kernel⟩, List.mem_of_getElem? (i := 954) (by decide +kernel), List.mem_of_getElem? (i := 1085) (by decide +kernel), List.mem_of_getElem? (i := 1086) (by decide +kernel)⟩
theorem lw_p34 : lw_okq (⟨"UrchinSchoolModel", "isUrchin", "(I)Z"⟩, 21) := ⟨⟨by decide +kernel, by decide +kernel⟩, List.mem_of_getElem? (i := 954) (by decide +kernel), List.mem_of_getElem? (i := 1099) (by decide +kernel), List.mem_of_getElem? (i := 1100) (by decide +kernel)⟩
theorem lw_p35 : lw_okq (⟨"UrchinSchoolModel", "looksAnew", "()V"⟩, 21) := ⟨⟨by decide +kernel, by decide +kernel⟩, List.mem_of_getElem? (i := 954) (by decide +kernel), List.mem_of_getElem? (i := 1104) (by decide +kernel), List.mem_of_getElem? (i := 1105) (by decide +kernel)⟩
theorem lw_p36 : lw_okq (⟨"UrchinSchoolModel", "heedOf", "(II)I"⟩, 21) := ⟨⟨by decide +kernel, by decide +kernel⟩, List.mem_of_getElem? (i := 954) (by decide +kernel), List.mem_of_getElem? (i := 1111) (by decide +kernel), List.mem_of_getElem? (i := 1112) (by decide +kernel)⟩
theorem lw_p37 : lw_okq (⟨"UrchinSchoolModel", "sumOf", "(II)I"⟩, 21) := ⟨⟨by decide +kernel, by decide +kernel⟩, List.mem_of_getElem? (i := 954) (by decide +kernel), List.mem_of_getElem? (i := 1115) (by decide +kernel), List.mem_of_getElem? (i := 1116) (by decide +kernel)⟩
theorem lw_p38 : lw_okq (⟨"UrchinSchoolModel", "clausesOf", "(IIII)I"⟩, 21) := ⟨⟨by decide +kernel, by decide +kernel⟩, List.mem_of_getElem? (i := 954) (by decide +kernel), List.mem_of_getElem? (i := 1122) (by decide +kernel), List.mem_of_getElem? (i := 1123) (by decide +kernel)⟩
theorem lw_p39 : lw_okq (⟨"UrchinSchoolModel", "tellsOf", "(II)I"⟩, 21) := ⟨⟨by decide +kernel, by decide +kernel⟩, List.mem_of_getElem? (i := 954) (by decide +kernel), List.mem_of_getElem? (i := 1126) (by decide +kernel), List.mem_of_getElem? (i := 1127) (by decide +kernel)⟩
theorem lw_p40 : lw_okq (⟨"UrchinSchoolModel", "becomes", "(II)I"⟩, 21) := ⟨⟨by decide +kernel, by decide +kernel⟩, List.mem_of_getElem? (i := 954) (by decide +kernel), List.mem_of_getElem? (i := 1134) (by decide +kernel), List.mem_of_getElem? (i := 1135) (by decide +kernel)⟩
theorem lw_p41 : lw_okq (⟨"UrchinSchoolModel", "knownByAny", "()I"⟩, 21) := ⟨⟨by decide +kernel, by decide +kernel⟩, List.mem_of_getElem? (i := 954) (by decide +kernel), List.mem_of_getElem? (i := 1154) (by decide +kernel), List.mem_of_getElem? (i := 1155) (by decide +kernel)⟩
theorem lw_p42 : lw_okq (⟨"UrchinSchoolModel", "heldByAll", "()I"⟩, 21) := ⟨⟨by decide +kernel, by decide +kernel⟩, List.mem_of_getElem? (i := 954) (by decide +kernel), List.mem_of_getElem? (i := 1158) (by decide +kernel), List.mem_of_getElem? (i := 1159) (by decide +kernel)⟩
theorem lw_p43 : lw_okq (⟨"UrchinSchoolModel", "awayOnes", "()I"⟩, 21) := ⟨⟨by decide +kernel, by decide +kernel⟩, List.mem_of_getElem? (i := 954) (by decide +kernel), List.mem_of_getElem? (i := 1162) (by decide +kernel), List.mem_of_getElem? (i := 1163) (by decide +kernel)⟩
theorem lw_p44 : lw_okq (⟨"UrchinSchoolModel", "fewest", "()I"⟩, 21) := ⟨⟨by decide +kernel, by decide +kernel⟩, List.mem_of_getElem? (i := 954) (by decide +kernel), List.mem_of_getElem? (i := 1166) (by decide +kernel), List.mem_of_getElem? (i := 1167) (by decide +kernel)⟩
theorem lw_p45 : lw_okq (⟨"UrchinSchoolModel", "knownBy", "(I)I"⟩, 21) := ⟨⟨by decide +kernel, by decide +kernel⟩, List.mem_of_getElem? (i := 954) (by decide +kernel), List.mem_of_getElem? (i := 1170) (by decide +kernel), List.mem_of_getElem? (i := 1171) (by decide +kernel)⟩
theorem lw_p46 : lw_okq (⟨"UrchinSchoolModel", "goesOn", "(I)V"⟩, 21) := ⟨⟨by decide +kernel, by decide +kernel⟩, List.mem_of_getElem? (i := 954) (by decide +kernel), List.mem_of_getElem? (i := 1178) (by decide +kernel), List.mem_of_getElem? (i := 1179) (by decide +kernel)⟩
theorem lw_p47 : lw_okq (⟨"UrchinSchoolModel", "goes", "()V"⟩, 21) := ⟨⟨by decide +kernel, by decide +kernel⟩, List.mem_of_getElem? (i := 954) (by decide +kernel), List.mem_of_getElem? (i := 1182) (by decide +kernel), List.mem_of_getElem? (i := 1183) (by decide +kernel)⟩
def lw_privs_3 : List (MethodName × Nat) := [(⟨"UrchinSchoolModel", "emits", "(I)V"⟩, 21), (⟨"UrchinSchoolModel", "among", "(Ljava/lang/String;)I"⟩, 21), (⟨"UrchinSchoolModel", "isUrchin", "(I)Z"⟩, 21), (⟨"UrchinSchoolModel", "looksAnew", "()V"⟩, 21), (⟨"UrchinSchoolModel", "heedOf", "(II)I"⟩, 21), (⟨"UrchinSchoolModel", "sumOf", "(II)I"⟩, 21), (⟨"UrchinSchoolModel", "clausesOf", "(IIII)I"⟩, 21), (⟨"UrchinSchoolModel", "tellsOf", "(II)I"⟩, 21), (⟨"UrchinSchoolModel", "becomes", "(II)I"⟩, 21), (⟨"UrchinSchoolModel", "knownByAny", "()I"⟩, 21), (⟨"UrchinSchoolModel", "heldByAll", "()I"⟩, 21), (⟨"UrchinSchoolModel", "awayOnes", "()I"⟩, 21), (⟨"UrchinSchoolModel", "fewest", "()I"⟩, 21), (⟨"UrchinSchoolModel", "knownBy", "(I)I"⟩, 21), (⟨"UrchinSchoolModel", "goesOn", "(I)V"⟩, 21), (⟨"UrchinSchoolModel", "goes", "()V"⟩, 21)]
theorem lw_r3 : ∀ q ∈ lw_privs_3, lw_okq q := List.forall_mem_cons.mpr ⟨lw_p32, List.forall_mem_cons.mpr ⟨lw_p33, List.forall_mem_cons.mpr ⟨lw_p34, List.forall_mem_cons.mpr ⟨lw_p35, List.forall_mem_cons.mpr ⟨lw_p36, List.forall_mem_cons.mpr ⟨lw_p37, List.forall_mem_cons.mpr ⟨lw_p38, List.forall_mem_cons.mpr ⟨lw_p39, List.forall_mem_cons.mpr ⟨lw_p40, List.forall_mem_cons.mpr ⟨lw_p41, List.forall_mem_cons.mpr ⟨lw_p42, List.forall_mem_cons.mpr ⟨lw_p43, List.forall_mem_cons.mpr ⟨lw_p44, List.forall_mem_cons.mpr ⟨lw_p45, List.forall_mem_cons.mpr ⟨lw_p46, List.forall_mem_cons.mpr ⟨lw_p47, fun _ h => absurd h List.not_mem_nil⟩⟩⟩⟩⟩⟩⟩⟩⟩⟩⟩⟩⟩⟩⟩⟩
theorem lw_p48 : lw_okq (⟨"UrchinSchoolModel", "goesBy", "(I)V"⟩, 21) := ⟨⟨by decide +kernel, by decide +kernel⟩, List.mem_of_getElem? (i := 954) (by decide +kernel), List.mem_of_getElem? (i := 1186) (by decide +kernel), List.mem_of_getElem? (i := 1187) (by decide +kernel)⟩
theorem lw_p49 : lw_okq (⟨"UrchinSchoolModel", "knownNext", "(II)I"⟩, 21) := ⟨⟨by decide +kernel, by decide +kernel⟩, List.mem_of_getElem? (i := 954) (by decide +kernel), List.mem_of_getElem? (i := 1190) (by decide +kernel), List.mem_of_getElem? (i := 1191) (by decide +kernel)⟩
theorem lw_p50 : lw_okq (⟨"UrchinSchoolModel", "isKnownNext", "(III)Z"⟩, 21) := ⟨⟨by decide +kernel, by decide +kernel⟩, List.mem_of_getElem? (i := 954) (by decide +kernel), List.mem_of_getElem? (i := 1194) (by decide +kernel), List.mem_of_getElem? (i := 1195) (by decide +kernel)⟩
theorem lw_p51 : lw_okq (⟨"UrchinSchoolModel", "isPassed", "(II)Z"⟩, 21) := ⟨⟨by decide +kernel, by decide +kernel⟩, List.mem_of_getElem? (i := 954) (by decide +kernel), List.mem_of_getElem? (i := 1198) (by decide +kernel), List.mem_of_getElem? (i := 1199) (by decide +kernel)⟩
theorem lw_p52 : lw_okq (⟨"UrchinSchoolModel", "keeps", "()V"⟩, 21) := ⟨⟨by decide +kernel, by decide +kernel⟩, List.mem_of_getElem? (i := 954) (by decide +kernel), List.mem_of_getElem? (i := 1206) (by decide +kernel), List.mem_of_getElem? (i := 1207) (by decide +kernel)⟩
theorem lw_p53 : lw_okq (⟨"UrchinSchoolModel", "goesBack", "()V"⟩, 21) := ⟨⟨by decide +kernel, by decide +kernel⟩, List.mem_of_getElem? (i := 954) (by decide +kernel), List.mem_of_getElem? (i := 1210) (by decide +kernel), List.mem_of_getElem? (i := 1211) (by decide +kernel)⟩
theorem lw_p54 : lw_okq (⟨"UrchinSchoolModel", "tidesKnown", "(I)I"⟩, 21) := ⟨⟨by decide +kernel, by decide +kernel⟩, List.mem_of_getElem? (i := 954) (by decide +kernel), List.mem_of_getElem? (i := 1218) (by decide +kernel), List.mem_of_getElem? (i := 1219) (by decide +kernel)⟩
theorem lw_p55 : lw_okq (⟨"UrchinSchoolModel", "heldBehind", "(II)I"⟩, 21) := ⟨⟨by decide +kernel, by decide +kernel⟩, List.mem_of_getElem? (i := 954) (by decide +kernel), List.mem_of_getElem? (i := 1230) (by decide +kernel), List.mem_of_getElem? (i := 1231) (by decide +kernel)⟩
theorem lw_p56 : lw_okq (⟨"UrchinSchoolModel", "fitting", "(III)I"⟩, 21) := ⟨⟨by decide +kernel, by decide +kernel⟩, List.mem_of_getElem? (i := 954) (by decide +kernel), List.mem_of_getElem? (i := 1242) (by decide +kernel), List.mem_of_getElem? (i := 1243) (by decide +kernel)⟩
theorem lw_p57 : lw_okq (⟨"UrchinSchoolModel", "areAsSeen", "()Z"⟩, 21) := ⟨⟨by decide +kernel, by decide +kernel⟩, List.mem_of_getElem? (i := 954) (by decide +kernel), List.mem_of_getElem? (i := 1246) (by decide +kernel), List.mem_of_getElem? (i := 1247) (by decide +kernel)⟩
theorem lw_p58 : lw_okq (⟨"UrchinSchoolModel", "isAsSeen", "(I)Z"⟩, 21) := ⟨⟨by decide +kernel, by decide +kernel⟩, List.mem_of_getElem? (i := 954) (by decide +kernel), List.mem_of_getElem? (i := 1250) (by decide +kernel), List.mem_of_getElem? (i := 1251) (by decide +kernel)⟩
theorem lw_p59 : lw_okq (⟨"UrchinSchoolModel", "isPlan", "(II)Z"⟩, 21) := ⟨⟨by decide +kernel, by decide +kernel⟩, List.mem_of_getElem? (i := 954) (by decide +kernel), List.mem_of_getElem? (i := 1274) (by decide +kernel), List.mem_of_getElem? (i := 1275) (by decide +kernel)⟩
theorem lw_p60 : lw_okq (⟨"UrchinSchoolModel", "does", "(II)V"⟩, 21) := ⟨⟨by decide +kernel, by decide +kernel⟩, List.mem_of_getElem? (i := 954) (by decide +kernel), List.mem_of_getElem? (i := 1282) (by decide +kernel), List.mem_of_getElem? (i := 1283) (by decide +kernel)⟩
theorem lw_p61 : lw_okq (⟨"UrchinSchoolModel", "leansActs", "(I)I"⟩, 21) := ⟨⟨by decide +kernel, by decide +kernel⟩, List.mem_of_getElem? (i := 954) (by decide +kernel), List.mem_of_getElem? (i := 1298) (by decide +kernel), List.mem_of_getElem? (i := 1299) (by decide +kernel)⟩
theorem lw_p62 : lw_okq (⟨"UrchinSchoolModel", "ranBody", "(I)V"⟩, 21) := ⟨⟨by decide +kernel, by decide +kernel⟩, List.mem_of_getElem? (i := 954) (by decide +kernel), List.mem_of_getElem? (i := 1305) (by decide +kernel), List.mem_of_getElem? (i := 1306) (by decide +kernel)⟩
theorem lw_p63 : lw_okq (⟨"UrchinSchoolModel", "plainLeans", "(I)I"⟩, 21) := ⟨⟨by decide +kernel, by decide +kernel⟩, List.mem_of_getElem? (i := 954) (by decide +kernel), List.mem_of_getElem? (i := 1309) (by decide +kernel), List.mem_of_getElem? (i := 1310) (by decide +kernel)⟩
def lw_privs_4 : List (MethodName × Nat) := [(⟨"UrchinSchoolModel", "goesBy", "(I)V"⟩, 21), (⟨"UrchinSchoolModel", "knownNext", "(II)I"⟩, 21), (⟨"UrchinSchoolModel", "isKnownNext", "(III)Z"⟩, 21), (⟨"UrchinSchoolModel", "isPassed", "(II)Z"⟩, 21), (⟨"UrchinSchoolModel", "keeps", "()V"⟩, 21), (⟨"UrchinSchoolModel", "goesBack", "()V"⟩, 21), (⟨"UrchinSchoolModel", "tidesKnown", "(I)I"⟩, 21), (⟨"UrchinSchoolModel", "heldBehind", "(II)I"⟩, 21), (⟨"UrchinSchoolModel", "fitting", "(III)I"⟩, 21), (⟨"UrchinSchoolModel", "areAsSeen", "()Z"⟩, 21), (⟨"UrchinSchoolModel", "isAsSeen", "(I)Z"⟩, 21), (⟨"UrchinSchoolModel", "isPlan", "(II)Z"⟩, 21), (⟨"UrchinSchoolModel", "does", "(II)V"⟩, 21), (⟨"UrchinSchoolModel", "leansActs", "(I)I"⟩, 21), (⟨"UrchinSchoolModel", "ranBody", "(I)V"⟩, 21), (⟨"UrchinSchoolModel", "plainLeans", "(I)I"⟩, 21)]
theorem lw_r4 : ∀ q ∈ lw_privs_4, lw_okq q := List.forall_mem_cons.mpr ⟨lw_p48, List.forall_mem_cons.mpr ⟨lw_p49, List.forall_mem_cons.mpr ⟨lw_p50, List.forall_mem_cons.mpr ⟨lw_p51, List.forall_mem_cons.mpr ⟨lw_p52, List.forall_mem_cons.mpr ⟨lw_p53, List.forall_mem_cons.mpr ⟨lw_p54, List.forall_mem_cons.mpr ⟨lw_p55, List.forall_mem_cons.mpr ⟨lw_p56, List.forall_mem_cons.mpr ⟨lw_p57, List.forall_mem_cons.mpr ⟨lw_p58, List.forall_mem_cons.mpr ⟨lw_p59, List.forall_mem_cons.mpr ⟨lw_p60, List.forall_mem_cons.mpr ⟨lw_p61, List.forall_mem_cons.mpr ⟨lw_p62, List.forall_mem_cons.mpr ⟨lw_p63, fun _ h => absurd h List.not_mem_nil⟩⟩⟩⟩⟩⟩⟩⟩⟩⟩⟩⟩⟩⟩⟩⟩
theorem lw_p64 : lw_okq (⟨"UrchinSchoolModel", "saysActs", "(I)I"⟩, 21) := ⟨⟨by decide +kernel, by decide +kernel⟩, List.mem_of_getElem? (i := 954) (by decide +kernel), List.mem_of_getElem? (i := 1313) (by decide +kernel), List.mem_of_getElem? (i := 1314) (by decide +kernel)⟩
theorem lw_p65 : lw_okq (⟨"UrchinSchoolModel", "plainSays", "(I)I"⟩, 21) := ⟨⟨by decide +kernel, by decide +kernel⟩, List.mem_of_getElem? (i := 954) (by decide +kernel), List.mem_of_getElem? (i := 1317) (by decide +kernel), List.mem_of_getElem? (i := 1318) (by decide +kernel)⟩
theorem lw_p66 : lw_okq (⟨"UrchinSchoolModel", "bristlesActs", "(I)I"⟩, 21) := ⟨⟨by decide +kernel, by decide +kernel⟩, List.mem_of_getElem? (i := 954) (by decide +kernel), List.mem_of_getElem? (i := 1321) (by decide +kernel), List.mem_of_getElem? (i := 1322) (by decide +kernel)⟩
theorem lw_p67 : lw_okq (⟨"UrchinSchoolModel", "plainTelling", "(I)I"⟩, 21) := ⟨⟨by decide +kernel, by decide +kernel⟩, List.mem_of_getElem? (i := 954) (by decide +kernel), List.mem_of_getElem? (i := 1325) (by decide +kernel), List.mem_of_getElem? (i := 1326) (by decide +kernel)⟩
def lw_privs_5 : List (MethodName × Nat) := [(⟨"UrchinSchoolModel", "saysActs", "(I)I"⟩, 21), (⟨"UrchinSchoolModel", "plainSays", "(I)I"⟩, 21), (⟨"UrchinSchoolModel", "bristlesActs", "(I)I"⟩, 21), (⟨"UrchinSchoolModel", "plainTelling", "(I)I"⟩, 21)]
theorem lw_r5 : ∀ q ∈ lw_privs_5, lw_okq q := List.forall_mem_cons.mpr ⟨lw_p64, List.forall_mem_cons.mpr ⟨lw_p65, List.forall_mem_cons.mpr ⟨lw_p66, List.forall_mem_cons.mpr ⟨lw_p67, fun _ h => absurd h List.not_mem_nil⟩⟩⟩⟩
def lw_privs : List (MethodName × Nat) := lw_privs_1 ++ (lw_privs_2 ++ (lw_privs_3 ++ (lw_privs_4 ++ (lw_privs_5))))
def lw_tbl : List Cond := k2_sels lw_privs ++ tables_1
theorem lw_privs_ok : ∀ q ∈ lw_privs, lw_okq q := by
  show ∀ q ∈ lw_privs_1 ++ (lw_privs_2 ++ (lw_privs_3 ++ (lw_privs_4 ++ (lw_privs_5)))), lw_okq q
  exact List.forall_mem_append.mpr ⟨lw_r1, List.forall_mem_append.mpr ⟨lw_r2, List.forall_mem_append.mpr ⟨lw_r3, List.forall_mem_append.mpr ⟨lw_r4, lw_r5⟩⟩⟩⟩
-- ===== end of PART A; then your names; then what follows =====
end
section
/-! THE ABSTRACT MACHINE: a frame whose references are places in a list of cells. 'xs code' says, for what stands ahead of it, what must hold so that the method goes on well: a value computed by unfolding alone. J: where the walk may stand (a jump), RT: what is returned, CT: contracts of what is called. -/
abbrev AE : Type := (Nat × vp_A) ⊕ (Nat × List Value)
abbrev LV : Type := List (Nat × Value)
abbrev JP : Type := Nat → LV → List Value → List AE → Prop
abbrev RP : Type := Option Value → List AE → Prop
/-- rank, number of the method, arguments, cells, what holds behind it -/
abbrev CTP : Type := Nat → Nat → List Value → List AE → RP → Prop
/-- fields: entry ↦ (place, kind of type, kinds of cells); calls: entry ↦ (kind, arguments, (receiver's kind, method)); constants; statics; fields and arrays that nobody writes -/
abbrev Pool : Type := List (Nat × Nat × Nat × List Nat) × List (Nat × Nat × Nat × List (Nat × Nat)) × List (Nat × Value) × List (Nat × Value) × List (Nat × Value) × List (Nat × Nat × Nat × (Nat → Int32))
abbrev Ins : Type := Nat × Instr × Nat
def a_look {α : Type} : List (Nat × α) → Nat → Option α
  | [], _ => none
  | (j, v) :: t, i => bif Nat.beq j i then some v else a_look t i
theorem a_look_mem {α : Type} : ∀ {l : List (Nat × α)} {i : Nat} {v : α}, a_look l i = some v → (i, v) ∈ l
  | [], _, _, h => by simp [a_look] at h
  | (j, w) :: t, i, v, h => by
    cases hb : Nat.beq j i with
    | true =>
      simp only [a_look, hb, cond_true, Option.some.injEq] at h
      rw [Nat.eq_of_beq_eq_true hb, h]
      exact List.mem_cons_self
    | false =>
      simp only [a_look, hb, cond_false] at h
      exact List.mem_cons_of_mem _ (a_look_mem h)
def a_mem : Nat → List Nat → Bool
  | _, [] => false
  | i, j :: t => bif Nat.beq j i then true else a_mem i t
theorem a_mem_mem : ∀ {i : Nat} {l : List Nat}, a_mem i l = true → i ∈ l
  | _, [], h => by simp [a_mem] at h
  | i, j :: t, h => by
    cases hb : Nat.beq j i with
    | true => rw [Nat.eq_of_beq_eq_true hb]; exact List.mem_cons_self
    | false =>
      simp only [a_mem, hb, cond_false] at h
      exact List.mem_cons_of_mem _ (a_mem_mem h)
def l_get {α : Type} : List α → Nat → Option α
  | [], _ => none
  | c :: _, 0 => some c
  | _ :: t, n + 1 => l_get t n
theorem l_get_eq {α : Type} : ∀ (l : List α) (n : Nat), l_get l n = l[n]?
  | [], n => by simp [l_get]
  | c :: _, 0 => by simp [l_get]
  | _ :: t, n + 1 => by simp [l_get, l_get_eq t n]
/-- a list with one entry anew, handed on in full -/
def l_put {α : Type} : List α → Nat → α → (List α → Prop) → Prop
  | [], _, _, k => k []
  | _ :: t, 0, v, k => k (v :: t)
  | c :: t, n + 1, v, k => l_put t n v (fun t' => k (c :: t'))
theorem l_put_eq {α : Type} : ∀ (l : List α) (n : Nat) (v : α) (k : List α → Prop), l_put l n v k → k (l.set n v)
  | [], _, _, _, h => h
  | _ :: _, 0, _, _, h => h
  | c :: t, n + 1, v, k, h => l_put_eq t n v (fun t' => k (c :: t')) h
def v_two : Value → Bool
  | .long _ => true
  | .double _ => true
  | _ => false
theorem v_two_eq (v : Value) : v_two v = (v.category == 2) := by cases v <;> rfl
theorem nb_eq (i j : Nat) : Nat.beq i j = (i == j) := by
  cases h : Nat.beq i j with
  | true => rw [Nat.eq_of_beq_eq_true h]; simp
  | false => have := Nat.ne_of_beq_eq_false h; simp [this]
/-- locals without place i -/
def ls_out : LV → Nat → (LV → Prop) → Prop
  | [], _, k => k []
  | (j, w) :: t, i, k => bif (Nat.beq j i || (Nat.beq (j + 1) i && v_two w)) then ls_out t i k else ls_out t i (fun t' => k ((j, w) :: t'))
theorem ls_out_eq : ∀ (l : LV) (i : Nat) (k : LV → Prop), ls_out l i k → k (l.filter (fun q => !(q.1 == i) && !(q.1 + 1 == i && q.2.category == 2)))
  | [], _, _, h => h
  | (j, w) :: t, i, k, h => by
    have e1 : Nat.beq j i = (j == i) := nb_eq _ _
    have e2 : Nat.beq (j + 1) i = (j + 1 == i) := nb_eq _ _
    unfold ls_out at h
    rw [e1, e2, v_two_eq] at h
    rw [List.filter_cons]
    cases hb : ((j == i) || (j + 1 == i && w.category == 2)) with
    | true =>
      rw [hb] at h
      have hn : (!(j == i) && !(j + 1 == i && w.category == 2)) = false := by rw [← Bool.not_or, hb]; rfl
      simp only [hn, Bool.false_eq_true, if_false]
      exact ls_out_eq t i k h
    | false =>
      rw [hb] at h
      have hn : (!(j == i) && !(j + 1 == i && w.category == 2)) = true := by rw [← Bool.not_or, hb]; rfl
      simp only [hn, if_true]
      exact ls_out_eq t i (fun t' => k ((j, w) :: t')) h
def ls_out2 : LV → Nat → (LV → Prop) → Prop
  | [], _, k => k []
  | (j, w) :: t, i, k => bif (Nat.beq j i || (Nat.beq j (i + 1) || (Nat.beq (j + 1) i && v_two w))) then ls_out2 t i k else ls_out2 t i (fun t' => k ((j, w) :: t'))
theorem ls_out2_eq : ∀ (l : LV) (i : Nat) (k : LV → Prop), ls_out2 l i k → k (l.filter (fun q => !(q.1 == i) && (!(q.1 == i + 1) && !(q.1 + 1 == i && q.2.category == 2))))
  | [], _, _, h => h
  | (j, w) :: t, i, k, h => by
    have e1 : Nat.beq j i = (j == i) := nb_eq _ _
    have e3 : Nat.beq j (i + 1) = (j == i + 1) := nb_eq _ _
    have e2 : Nat.beq (j + 1) i = (j + 1 == i) := nb_eq _ _
    unfold ls_out2 at h
    rw [e1, e2, e3, v_two_eq] at h
    rw [List.filter_cons]
    cases hb : ((j == i) || ((j == i + 1) || (j + 1 == i && w.category == 2))) with
    | true =>
      rw [hb] at h
      have hn : (!(j == i) && (!(j == i + 1) && !(j + 1 == i && w.category == 2))) = false := by rw [← Bool.not_or, ← Bool.not_or, hb]; rfl
      simp only [hn, Bool.false_eq_true, if_false]
      exact ls_out2_eq t i k h
    | false =>
      rw [hb] at h
      have hn : (!(j == i) && (!(j == i + 1) && !(j + 1 == i && w.category == 2))) = true := by rw [← Bool.not_or, ← Bool.not_or, hb]; rfl
      simp only [hn, if_true]
      exact ls_out2_eq t i (fun t' => k ((j, w) :: t')) h
/-- renaming of places: by a list; what lies beyond it keeps its number -/
def r_n (em : List Nat) (i : Nat) : Nat := match l_get em i with
  | some j => j
  | none => i
def r_v (em : List Nat) : Value → Value
  | .ref i => .ref (r_n em i)
  | v => v
def r_o (em : List Nat) : Option Value → Option Value
  | some v => some (r_v em v)
  | none => none
def r_e (em : List Nat) : AE → AE
  | .inl (t, n, .inr (.inr (.inr (.inr f)))) => .inl (t, n, .inr (.inr (.inr (.inr (fun j => (f j).map (r_n em))))))
  | .inl a => .inl a
  | .inr (ci, fs) => .inr (ci, fs.map (r_v em))
/-- the cells at the places em are those, renamed -/
def w_sub (h : List AE) (em : List Nat) (h0 : List AE) : Prop := em.map (fun i => l_get h i) = h0.map (fun c => some (r_e em c))
/-- they are put back -/
def w_back : List AE → List Nat → List AE → List AE
  | h, i :: em, c :: h1 => w_back (h.set i c) em h1
  | h, _, _ => h
/-- a call: by the whole world, or by a part of it -/
def CALL (CT : CTP) (d j : Nat) (as : List Value) (h : List AE) (k : Option Value → List AE → Prop) : Prop :=
  (∃ (d1 : Nat) (P : RP), d1 < d ∧ CT d1 j as h P ∧ ∀ r h1, P r h1 → h1.length = h.length → k r h1) ∨
  (∃ (d1 : Nat) (em : List Nat) (as0 : List Value) (h0 : List AE) (P : RP), d1 < d ∧ CT d1 j as0 h0 P ∧ as0.map (r_v em) = as ∧ w_sub h em h0 ∧ em.Nodup ∧ em.length ≤ 1000 ∧
    ∀ r h1, P r h1 → h1.length = h0.length → k (r_o em r) (w_back h em (h1.map (r_e em))))
/-- the last n of the stack, in the order of a call -/
def x_pop : Nat → List Value → List Value → Option (List Value × List Value)
  | 0, st, acc => some (acc, st)
  | n + 1, v :: st, acc => x_pop n st (v :: acc)
  | _ + 1, [], _ => none
theorem x_pop_eq : ∀ (n : Nat) (st acc as rest : List Value), x_pop n st acc = some (as, rest) → ∃ a1, as = a1 ++ acc ∧ st = a1.reverse ++ rest ∧ a1.length = n
  | 0, st, acc, as, rest, h => by
    simp only [x_pop, Option.some.injEq, Prod.mk.injEq] at h
    exact ⟨[], by rw [← h.1]; rfl, by rw [← h.2]; rfl, rfl⟩
  | n + 1, [], acc, as, rest, h => by simp [x_pop] at h
  | n + 1, v :: st, acc, as, rest, h => by
    obtain ⟨a1, h1, h2, h3⟩ := x_pop_eq n st (v :: acc) as rest h
    exact ⟨a1 ++ [v], by rw [h1]; simp, by rw [h2]; simp, by simp [h3]⟩
def x_cat : List Value → Nat
  | [] => 0
  | v :: t => (bif v_two v then 2 else 1) + x_cat t
theorem x_cat_eq : ∀ l : List Value, x_cat l = (l.map fun v => v.category).sum
  | [] => rfl
  | v :: t => by
    rw [x_cat, List.map_cons, List.sum_cons, x_cat_eq t]
    cases v <;> rfl
def x_push : Option Value → List Value → List Value
  | none, st => st
  | some v, st => v :: st
def x_int : Int → (Int32 → Prop) → Prop
  | .ofNat n, k => k (nI n)
  | .negSucc n, k => k (-(nI (n + 1)))
def x_sml (b : Nat) : Int → (Int32 → Prop) → Prop
  | .ofNat n, k => bif Nat.blt n b then k (nI n) else False
  | .negSucc n, k => bif Nat.blt n b then k (-(nI (n + 1))) else False
theorem x_neg (n : Nat) : Int32.ofInt (Int.negSucc n) = -(nI (n + 1)) := by
  rw [Int.negSucc_eq, ← Int32.neg_ofInt]
  rfl
theorem x_sml_eq {b : Nat} {k : Int32 → Prop} : ∀ {n : Int}, x_sml b n k → -(b : Int) ≤ n ∧ n < b ∧ k (Int32.ofInt n)
  | .ofNat n, h => by
    have h : (bif Nat.blt n b then k (nI n) else False) := h
    cases hb : Nat.blt n b with
    | false => rw [hb] at h; exact h.elim
    | true =>
      rw [hb] at h
      have : n < b := by simpa using hb
      exact ⟨by show -(b : Int) ≤ (n : Int); omega, by show (n : Int) < b; omega, h⟩
  | .negSucc n, h => by
    have h : (bif Nat.blt n b then k (-(nI (n + 1))) else False) := h
    cases hb : Nat.blt n b with
    | false => rw [hb] at h; exact h.elim
    | true =>
      rw [hb] at h
      have : n < b := by simpa using hb
      exact ⟨by rw [Int.negSucc_eq]; omega, by rw [Int.negSucc_eq]; omega, by rw [x_neg]; exact h⟩
theorem x_int_eq {k : Int32 → Prop} : ∀ {n : Int}, x_int n k → k (Int32.ofInt n)
  | .ofNat n, h => h
  | .negSucc n, h => by rw [x_neg]; exact h
theorem x_i8 {n : Int} (h1 : -128 ≤ n) (h2 : n < 128) : (Int8.ofInt n).toInt32 = Int32.ofInt n := by
  apply Int32.toInt_inj.mp
  rw [Int8.toInt_toInt32, Int8.toInt_ofInt_of_le (by omega) (by omega), Int32.toInt_ofInt_of_le (by omega) (by omega)]
theorem x_i16 {n : Int} (h1 : -32768 ≤ n) (h2 : n < 32768) : (Int16.ofInt n).toInt32 = Int32.ofInt n := by
  apply Int32.toInt_inj.mp
  rw [Int16.toInt_toInt32, Int16.toInt_ofInt_of_le (by omega) (by omega), Int32.toInt_ofInt_of_le (by omega) (by omega)]
def x_jmp (J : Nat → Prop) (pc : Nat) : Int → Prop
  | .ofNat n => J (pc + n)
  | .negSucc n => bif Nat.ble (n + 1) pc then J (pc - (n + 1)) else False
theorem x_jmp_eq {J : Nat → Prop} {pc : Nat} : ∀ {off : Int}, x_jmp J pc off → ∃ t : Nat, (pc : Int) + off = (t : Int) ∧ J t
  | .ofNat n, h => ⟨pc + n, by simp, h⟩
  | .negSucc n, h => by
    have h : (bif Nat.ble (n + 1) pc then J (pc - (n + 1)) else False) := h
    cases hb : Nat.ble (n + 1) pc with
    | false => rw [hb] at h; exact h.elim
    | true =>
      rw [hb] at h
      have := Nat.le_of_ble_eq_true hb
      exact ⟨pc - (n + 1), by rw [Int.negSucc_eq]; omega, h⟩
/-- the arms of a switch over successive numbers -/
def x_arms (J : Nat → Prop) (pc : Nat) (x : Int32) : Int → List Int → Prop
  | _, [] => True
  | lo, o :: t => (x.toInt = lo → x_jmp J pc o) ∧ x_arms J pc x (lo + 1) t
def x_pairs (J : Nat → Prop) (pc : Nat) (x : Int32) (d : Int) : List (Int × Int) → Prop
  | [] => x_jmp J pc d
  | (a, o) :: t => (x.toInt = a → x_jmp J pc o) ∧ (¬ x.toInt = a → x_pairs J pc x d t)
def x_ret (ty : Option FieldType) (x : Int32) : Prop := match ty with
  | some .int => True
  | some .boolean => x &&& 1 = x
  | some t => narrow t (.int x) = .int x
  | none => False
/-- a field's entry: its place, if the cell's kind is among those of the entry -/
def x_fld (P : Pool) (h : List AE) (idx i : Nat) : Option Value := match a_look P.1 idx with
  | some (kk, _, cis) => match l_get h i with
    | some (.inr (ci, fs)) => bif a_mem ci cis then l_get fs kk else none
    | some (.inl _) => none
    | none => bif a_mem 50 cis then a_look P.2.2.2.2.1 (16 * i + kk) else none
  | none => none
def x_kind (h : List AE) (i : Nat) : Option Nat := match l_get h i with
  | some (.inr (ci, _)) => some ci
  | some (.inl _) => none
  | none => bif Nat.ble 1000 i && Nat.blt i 1006 then some 50 else none
def x_ints (P : Pool) (h : List AE) (i t : Nat) : Option (Nat × (Nat → Int32)) := match l_get h i with
  | some (.inl (t', n, .inl f)) => bif Nat.beq t' t then some (n, f) else none
  | some _ => none
  | none => match a_look P.2.2.2.2.2 i with
    | some (t', n, f) => bif Nat.beq t' t then some (n, f) else none
    | none => none
def x_len (P : Pool) (h : List AE) (i : Nat) : Option Nat := match l_get h i with
  | some (.inl (t, n, _)) => bif Nat.blt t 5 then some n else none
  | some (.inr _) => none
  | none => match a_look P.2.2.2.2.2 i with
    | some (_, n, _) => some n
    | none => none
def x_own (h : List AE) (i t : Nat) : Option (Nat × (Nat → Int32)) := match l_get h i with
  | some (.inl (t', n, .inl f)) => bif Nat.beq t' t then some (n, f) else none
  | _ => none
def x_refs (h : List AE) (i : Nat) : Option (Nat × Nat × (Nat → Option Nat)) := match l_get h i with
  | some (.inl (t, n, .inr (.inr (.inr (.inr f))))) => some (t, n, f)
  | _ => none
def x_c0 (c : ClassFile.Cond) (x : Int32) (A B : Prop) : Prop := match c with
  | .eq => (x = 0 → A) ∧ (¬ x = 0 → B)
  | .ne => (¬ x = 0 → A) ∧ (x = 0 → B)
  | .lt => (x < 0 → A) ∧ (¬ x < 0 → B)
  | .ge => (0 ≤ x → A) ∧ (¬ 0 ≤ x → B)
  | .gt => (0 < x → A) ∧ (¬ 0 < x → B)
  | .le => (x ≤ 0 → A) ∧ (¬ x ≤ 0 → B)
def x_c2 (c : ClassFile.Cond) (x y : Int32) (A B : Prop) : Prop := match c with
  | .eq => (x = y → A) ∧ (¬ x = y → B)
  | .ne => (¬ x = y → A) ∧ (x = y → B)
  | .lt => (x < y → A) ∧ (¬ x < y → B)
  | .ge => (y ≤ x → A) ∧ (¬ y ≤ x → B)
  | .gt => (y < x → A) ∧ (¬ y < x → B)
  | .le => (x ≤ y → A) ∧ (¬ x ≤ y → B)
/-- loads, stores: what stands there must be of the kind that the instruction names -/
def x_ld (ls : LV) (i kd : Nat) : Option Value := match a_look ls i with
  | some (.int x) => bif Nat.beq kd 0 then some (.int x) else none
  | some (.long x) => bif Nat.beq kd 1 then some (.long x) else none
  | some (.ref a) => bif Nat.beq kd 2 then some (.ref a) else none
  | _ => none
def x_put (P : Pool) (h : List AE) (idx i : Nat) (v : Value) (k : List AE → Prop) : Prop := match a_look P.1 idx with
  | some (kk, ty, cis) => match l_get h i with
    | some (.inr (ci, fs)) => bif a_mem ci cis && Nat.blt kk fs.length then (match v with
        | .int x => (bif Nat.beq ty 0 then True else bif Nat.beq ty 1 then (x = 0 ∨ x = 1) else False) ∧ l_put fs kk (.int x) (fun fs' => l_put h i (.inr (ci, fs')) k)
        | .ref a => bif Nat.beq ty 2 then l_put fs kk (.ref a) (fun fs' => l_put h i (.inr (ci, fs')) k) else False
        | .null => bif Nat.beq ty 2 then l_put fs kk .null (fun fs' => l_put h i (.inr (ci, fs')) k) else False
        | _ => False) else False
    | _ => False
  | none => False
abbrev KP : Type := LV → List Value → List AE → Prop
def x_st1 (ls : LV) (nL i : Nat) (v : Value) (k : LV → Prop) : Prop := bif Nat.blt i nL then ls_out ls i (fun t => k ((i, v) :: t)) else False
def x_st2 (ls : LV) (nL i : Nat) (v : Value) (k : LV → Prop) : Prop := bif Nat.blt (i + 1) nL then ls_out2 ls i (fun t => k ((i, v) :: t)) else False
def x_inv (P : Pool) (CT : CTP) (d : Nat) (kd idx : Nat) (ls : LV) (st : List Value) (h : List AE) (k : KP) : Prop := match a_look P.2.1 idx with
  | some (kd', na, tg) => bif Nat.beq kd' kd then (match x_pop na st [] with
    | some (as, rest) => (bif Nat.beq kd 1 then (match a_look tg 0 with
        | some j => bif Nat.ble (x_cat rest) 8 then CALL CT d j as h (fun r h' => k ls (x_push r rest) h') else False
        | none => False)
      else match rest with
        | .ref b :: rest => (match x_kind h b with
          | some ci => (match a_look tg ci with
            | some j => bif Nat.ble (x_cat rest) 8 then CALL CT d j (.ref b :: as) h (fun r h' => k ls (x_push r rest) h') else False
            | none => False)
          | none => False)
        | _ => False)
    | none => False) else False
  | none => False
/-- System.arraycopy over arrays of ints or bytes -/
def x_copy (P : Pool) (d : Nat) (idx : Nat) (ls : LV) (st : List Value) (h : List AE) (k : KP) : Prop := match a_look P.2.1 idx with
  | some (kd, _, _) => bif Nat.beq kd 5 then (match st with
    | .int n :: .int dp :: .ref a :: .int sp :: .ref b :: rest => (match l_get h b, l_get h a with
      | some (.inl (t0, n0, .inl f)), some (.inl (t1, n1, .inl g)) => bif Nat.beq t0 t1 && Nat.blt t0 2 && Nat.ble (x_cat rest) 8 && Nat.ble 1 d then
          (¬ sp < 0 ∧ ¬ dp < 0 ∧ ¬ n < 0 ∧ sp.toNatClampNeg + n.toNatClampNeg ≤ n0 ∧ dp.toNatClampNeg + n.toNatClampNeg ≤ n1 ∧ (∀ i, i < n.toNatClampNeg → fits (bif Nat.beq t0 0 then .int else .byte) (.int (f (sp.toNatClampNeg + i))) = true) ∧
            l_put h a (.inl (t1, n1, .inl (va_cpy f g sp.toNatClampNeg dp.toNatClampNeg n.toNatClampNeg))) (fun h' => k ls rest h')) else False
      | _, _ => False)
    | _ => False) else False
  | none => False
/-- one instruction: k goes on behind it, J where it jumps, RT at a return -/
def x_step (P : Pool) (CT : CTP) (d nL : Nat) (ty : Option FieldType) (J : JP) (RT : RP) (pc : Nat) (ls : LV) (st : List Value) (h : List AE) (k : KP) : Instr → Prop
  | .iconst n => x_int n (fun v => k ls (.int v :: st) h)
  | .bipush n => x_sml 128 n (fun v => k ls (.int v :: st) h)
  | .sipush n => x_sml 32768 n (fun v => k ls (.int v :: st) h)
  | .lconst n => k ls (.long (lN n.val) :: st) h
  | .aconst_null => k ls (.null :: st) h
  | .ldc ix => match a_look P.2.2.1 ix with
    | some (.int v) => k ls (.int v :: st) h
    | some (.ref a) => k ls (.ref a :: st) h
    | _ => False
  | .ldc_w ix => match a_look P.2.2.1 ix with
    | some (.int v) => k ls (.int v :: st) h
    | _ => False
  | .ldc2_w ix => match a_look P.2.2.1 ix with
    | some (.long v) => k ls (.long v :: st) h
    | _ => False
  | .getstatic ix => match a_look P.2.2.2.1 ix with
    | some v => k ls (v :: st) h
    | none => False
  | .iload n => match x_ld ls n 0 with
    | some v => k ls (v :: st) h
    | none => False
  | .iload_n n => match x_ld ls n.val 0 with
    | some v => k ls (v :: st) h
    | none => False
  | .lload n => match x_ld ls n 1 with
    | some v => k ls (v :: st) h
    | none => False
  | .lload_n n => match x_ld ls n.val 1 with
    | some v => k ls (v :: st) h
    | none => False
  | .aload n => match x_ld ls n 2 with
    | some v => k ls (v :: st) h
    | none => False
  | .aload_n n => match x_ld ls n.val 2 with
    | some v => k ls (v :: st) h
    | none => False
  | .istore n => match st with
    | .int x :: r => x_st1 ls nL n (.int x) (fun ls' => k ls' r h)
    | _ => False
  | .istore_n n => match st with
    | .int x :: r => x_st1 ls nL n.val (.int x) (fun ls' => k ls' r h)
    | _ => False
  | .lstore n => match st with
    | .long x :: r => x_st2 ls nL n (.long x) (fun ls' => k ls' r h)
    | _ => False
  | .lstore_n n => match st with
    | .long x :: r => x_st2 ls nL n.val (.long x) (fun ls' => k ls' r h)
    | _ => False
  | .astore n => match st with
    | .ref x :: r => x_st1 ls nL n (.ref x) (fun ls' => k ls' r h)
    | _ => False
  | .astore_n n => match st with
    | .ref x :: r => x_st1 ls nL n.val (.ref x) (fun ls' => k ls' r h)
    | _ => False
  | .iinc n c => match a_look ls n with
    | some (.int x) => x_int c (fun v => x_st1 ls nL n (.int (x + v)) (fun ls' => k ls' st h))
    | _ => False
  | .dup => match st with
    | v :: r => bif v_two v then False else k ls (v :: v :: r) h
    | _ => False
  | .dup2 => match st with
    | v :: w :: r => bif v_two v || v_two w then False else k ls (v :: w :: v :: w :: r) h
    | _ => False
  | .pop => match st with
    | v :: r => bif v_two v then False else k ls r h
    | _ => False
  | .iadd => match st with
    | .int y :: .int x :: r => k ls (.int (x + y) :: r) h
    | _ => False
  | .isub => match st with
    | .int y :: .int x :: r => k ls (.int (x - y) :: r) h
    | _ => False
  | .imul => match st with
    | .int y :: .int x :: r => k ls (.int (x * y) :: r) h
    | _ => False
  | .idiv => match st with
    | .int y :: .int x :: r => ¬ y = 0 ∧ k ls (.int (x / y) :: r) h
    | _ => False
  | .irem => match st with
    | .int y :: .int x :: r => ¬ y = 0 ∧ k ls (.int (x - x / y * y) :: r) h
    | _ => False
  | .iand => match st with
    | .int y :: .int x :: r => k ls (.int (x &&& y) :: r) h
    | _ => False
  | .ior => match st with
    | .int y :: .int x :: r => k ls (.int (x ||| y) :: r) h
    | _ => False
  | .ixor => match st with
    | .int y :: .int x :: r => k ls (.int (x ^^^ y) :: r) h
    | _ => False
  | .ishl => match st with
    | .int y :: .int x :: r => k ls (.int (x <<< (y &&& 31)) :: r) h
    | _ => False
  | .ishr => match st with
    | .int y :: .int x :: r => k ls (.int (x >>> (y &&& 31)) :: r) h
    | _ => False
  | .iushr => match st with
    | .int y :: .int x :: r => k ls (.int ((x.toUInt32 >>> (y.toUInt32 &&& Int32.toUInt32 31)).toInt32) :: r) h
    | _ => False
  | .ineg => match st with
    | .int x :: r => k ls (.int (-x) :: r) h
    | _ => False
  | .i2l => match st with
    | .int x :: r => k ls (.long x.toInt64 :: r) h
    | _ => False
  | .i2b => match st with
    | .int x :: r => k ls (.int x.toInt8.toInt32 :: r) h
    | _ => False
  | .i2c => match st with
    | .int x :: r => k ls (.int (x.toUInt32 % 65536).toInt32 :: r) h
    | _ => False
  | .ladd => match st with
    | .long y :: .long x :: r => k ls (.long (x + y) :: r) h
    | _ => False
  | .lsub => match st with
    | .long y :: .long x :: r => k ls (.long (x - y) :: r) h
    | _ => False
  | .ldiv => match st with
    | .long y :: .long x :: r => ¬ y = 0 ∧ k ls (.long (x / y) :: r) h
    | _ => False
  | .lrem => match st with
    | .long y :: .long x :: r => ¬ y = 0 ∧ k ls (.long (x - x / y * y) :: r) h
    | _ => False
  | .lcmp => match st with
    | .long y :: .long x :: r => k ls (.int (lg_cmp x y) :: r) h
    | _ => False
  | .goto o => x_jmp (fun t => J t ls st h) pc o
  | .ifCond c o => match st with
    | .int x :: r => x_jmp (fun t => x_c0 c x (J t ls r h) (k ls r h)) pc o
    | _ => False
  | .if_icmp c o => match st with
    | .int y :: .int x :: r => x_jmp (fun t => x_c2 c x y (J t ls r h) (k ls r h)) pc o
    | _ => False
  | .ifnull o => match st with
    | .ref _ :: r => k ls r h
    | .null :: r => x_jmp (fun t => J t ls r h) pc o
    | _ => False
  | .ifnonnull o => match st with
    | .ref _ :: r => x_jmp (fun t => J t ls r h) pc o
    | .null :: r => k ls r h
    | _ => False
  | .tableswitch df lo hi offs => match st with
    | .int x :: r => (x.toInt < lo ∨ hi < x.toInt → x_jmp (fun t => J t ls r h) pc df) ∧ (hi = lo + offs.toList.length - 1 ∧ x_arms (fun t => J t ls r h) pc x lo offs.toList)
    | _ => False
  | .lookupswitch df ps => match st with
    | .int x :: r => (ps.toList.zip (ps.toList.drop 1)).all (fun (a, next) => a.1 < next.1) = true ∧ x_pairs (fun t => J t ls r h) pc x df ps.toList
    | _ => False
  | .getfield ix => match st with
    | .ref a :: r => (match x_fld P h ix a with
      | some v => k ls (v :: r) h
      | none => False)
    | _ => False
  | .putfield ix => match st with
    | v :: .ref a :: r => x_put P h ix a v (fun h' => k ls r h')
    | _ => False
  | .arraylength => match st with
    | .ref a :: r => (match x_len P h a with
      | some n => k ls (.int (nI n) :: r) h
      | none => False)
    | _ => False
  | .iaload => match st with
    | .int i :: .ref a :: r => (match x_ints P h a 0 with
      | some (n, f) => vp_in i n ∧ k ls (.int (f i.toNatClampNeg) :: r) h
      | none => False)
    | _ => False
  | .baload => match st with
    | .int i :: .ref a :: r => (match x_ints P h a 1 with
      | some (n, f) => vp_in i n ∧ k ls (.int (f i.toNatClampNeg) :: r) h
      | none => (match x_own h a 2 with
        | some (n, f) => vp_in i n ∧ k ls (.int (f i.toNatClampNeg) :: r) h
        | none => False))
    | _ => False
  | .iastore => match st with
    | .int x :: .int i :: .ref a :: r => (match x_own h a 0 with
      | some (n, f) => vp_in i n ∧ l_put h a (.inl (0, n, .inl (upd f i.toNatClampNeg x))) (fun h' => k ls r h')
      | none => False)
    | _ => False
  | .bastore => match st with
    | .int x :: .int i :: .ref a :: r => (match x_own h a 1 with
      | some (n, f) => vp_in i n ∧ l_put h a (.inl (1, n, .inl (upd f i.toNatClampNeg (vp_nar .byte x)))) (fun h' => k ls r h')
      | none => (match x_own h a 2 with
        | some (n, f) => vp_in i n ∧ l_put h a (.inl (2, n, .inl (upd f i.toNatClampNeg (vp_nar .boolean x)))) (fun h' => k ls r h')
        | none => False))
    | _ => False
  | .aaload => match st with
    | .int i :: .ref a :: r => (match x_refs h a with
      | some (t, n, f) => (t = 3 ∨ t = 4) ∧ vp_in i n ∧ ∃ q, f i.toNatClampNeg = some q ∧ k ls (.ref q :: r) h
      | none => False)
    | _ => False
  | .invokevirtual ix => x_inv P CT d 0 ix ls st h k
  | .invokestatic ix => match a_look P.2.1 ix with
    | some (5, _, _) => x_copy P d ix ls st h k
    | _ => x_inv P CT d 1 ix ls st h k
  | .invokespecial ix => x_inv P CT d 2 ix ls st h k
  | .ireturn => match st with
    | [.int x] => x_ret ty x ∧ RT (some (.int x)) h
    | _ => False
  | .lreturn => match st with
    | [.long x] => ty = some .long ∧ RT (some (.long x)) h
    | _ => False
  | .areturn => match st with
    | [.ref x] => (∃ n, ty = some (.object n)) ∧ RT (some (.ref x)) h
    | _ => False
  | .return_ => match st with
    | [] => ty = none ∧ RT none h
    | _ => False
  | _ => False
/-- at a cut the walk stands: J is asked for -/
def x_next (cuts : List Nat) (J : JP) (t : List Ins) (k : KP) : KP := match t with
  | [] => k
  | (q, _, _) :: _ => bif a_mem q cuts then J q else k
/-- the instructions ahead, one behind another -/
def xs (P : Pool) (CT : CTP) (d nL : Nat) (ty : Option FieldType) (cuts : List Nat) (J : JP) (RT : RP) : List Ins → KP
  | [] => fun _ _ _ => False
  | (pc, i, _) :: t => fun ls st h => x_step P CT d nL ty J RT pc ls st h (x_next cuts J t (xs P CT d nL ty cuts J RT t)) i
def seek (pc : Nat) : List Ins → List Ins
  | [] => []
  | (q, i, n) :: t => bif Nat.beq q pc then (q, i, n) :: t else seek pc t
/-- J stands for all that goes well from a place on -/
def Runs (P : Pool) (CT : CTP) (d nL : Nat) (ty : Option FieldType) (cuts : List Nat) (code : List Ins) (J : JP) (RT : RP) : Prop :=
  ∀ pc ls st h, xs P CT d nL ty cuts J RT (seek pc code) ls st h → J pc ls st h
/-- fewer locals, in any order: by their places -/
def ls_pick (ls : LV) (ks : List Nat) : LV := ks.filterMap (fun k => l_get ls k)
def Drops (J : JP) : Prop := ∀ pc ls ks st h, J pc (ls_pick ls ks) st h → J pc ls st h
/-- a body: from every start whose J is right, by whatever J -/
def Body (P : Pool) (CT : CTP) (d nL : Nat) (ty : Option FieldType) (cuts : List Nat) (code : List Ins) (as : List Value) (h : List AE) (RT : RP) : Prop :=
  ∀ J : JP, Runs P CT d nL ty cuts code J RT → Drops J → J 0 (lv_args 0 as) [] h
end
section
/-! THE ABSTRACT MACHINE IS RIGHT: what 'xs' asks for is enough for the machine itself. -/
def cv (ad : Nat → Nat) : Value → Value
  | .ref i => .ref (ad i)
  | v => v
theorem cv_cat (ad : Nat → Nat) (v : Value) : (cv ad v).category = v.category := by cases v <;> rfl
def ce (tc : Nat → ClassId) (ad : Nat → Nat) : AE → va_E
  | .inl (t, n, .inr (.inr (.inr (.inr f)))) => .inl (tc t, n, .inr (.inr (.inr (.inr (fun j => (f j).map ad)))))
  | .inl (t, a) => .inl (tc t, a)
  | .inr (ci, fs) => .inr (ci, fs.map (cv ad))
def wm (tc : Nat → ClassId) (ad : Nat → Nat) : Nat → List AE → va_W
  | _, [] => []
  | k, e :: t => (ad k, ce tc ad e) :: wm tc ad (k + 1) t
theorem wm_get (tc : Nat → ClassId) (ad : Nat → Nat) : ∀ (h : List AE) (k i : Nat), (wm tc ad k h)[i]? = (h[i]?).map (fun e => (ad (k + i), ce tc ad e))
  | [], k, i => by simp [wm]
  | e :: t, k, 0 => by simp [wm]
  | e :: t, k, i + 1 => by
    rw [wm, List.getElem?_cons_succ, List.getElem?_cons_succ, wm_get tc ad t (k + 1) i, show k + 1 + i = k + (i + 1) by omega]
theorem wm_set (tc : Nat → ClassId) (ad : Nat → Nat) : ∀ (h : List AE) (k i : Nat) (e : AE), (wm tc ad k h).set i (ad (k + i), ce tc ad e) = wm tc ad k (h.set i e)
  | [], k, i, e => by simp [wm]
  | c :: t, k, 0, e => by simp [wm]
  | c :: t, k, i + 1, e => by
    rw [wm, List.set_cons_succ, List.set_cons_succ, wm, show k + (i + 1) = k + 1 + i by omega, wm_set tc ad t (k + 1) i e]
theorem wm_get0 {tc : Nat → ClassId} {ad : Nat → Nat} {h : List AE} {i : Nat} {e : AE} (hi : l_get h i = some e) : (wm tc ad 0 h)[i]? = some (ad i, ce tc ad e) := by
  rw [l_get_eq] at hi
  rw [wm_get, hi]
  simp
theorem wm_set0 (tc : Nat → ClassId) (ad : Nat → Nat) (h : List AE) (i : Nat) (e : AE) : (wm tc ad 0 h).set i (ad i, ce tc ad e) = wm tc ad 0 (h.set i e) := by
  have := wm_set tc ad h 0 i e
  rwa [Nat.zero_add] at this
def INJ (ad : Nat → Nat) (N : Nat) : Prop := ∀ i j, i < N → j < N → ad i = ad j → i = j
def AA (ad : Nat → Nat) (N : Nat) : Nat → Prop := fun q => ∃ i, i < N ∧ q = ad i
theorem wm_D {tc : Nat → ClassId} {ad : Nat → Nat} {h : List AE} {N : Nat} (hN : h.length = N) (hi : INJ ad N) : va_D (AA ad N) (wm tc ad 0 h) := by
  have key : ∀ (i : Nat) (q : Nat × va_E), (wm tc ad 0 h)[i]? = some q → i < N ∧ q.1 = ad i := by
    intro i q hq
    rw [wm_get] at hq
    cases he : h[i]? with
    | none => rw [he] at hq; simp at hq
    | some e =>
      rw [he] at hq
      have hlt := (List.getElem?_eq_some_iff.mp he).1
      simp at hq
      exact ⟨by omega, by rw [← hq]⟩
  refine ⟨fun i j p q hp hq h => ?_, fun k q hq => ?_⟩
  · obtain ⟨h1, h2⟩ := key i p hp
    obtain ⟨h3, h4⟩ := key j q hq
    exact hi i j h1 h3 (by rw [← h2, ← h4, h])
  · obtain ⟨h1, h2⟩ := key k q hq
    exact ⟨k, h1, h2⟩
def lc (ad : Nat → Nat) (ls : LV) : LV := ls.map (fun q => (q.1, cv ad q.2))
theorem lc_at {la : Array Slot} {nL : Nat} {ad : Nat → Nat} {ls : LV} (h : lv_has la nL (lc ad ls)) {i : Nat} {v : Value} (hv : a_look ls i = some v) : la[i]? = some (.val (cv ad v)) :=
  h.2.2 (i, cv ad v) (List.mem_map.mpr ⟨(i, v), a_look_mem hv, rfl⟩)
theorem lc_f1 (ad : Nat → Nat) (ls : LV) (i : Nat) : (lc ad ls).filter (fun q => !(q.1 == i) && !(q.1 + 1 == i && q.2.category == 2)) = lc ad (ls.filter (fun q => !(q.1 == i) && !(q.1 + 1 == i && q.2.category == 2))) := by
  unfold lc
  rw [List.filter_map]
  congr 1
  apply List.filter_congr
  intro q _
  simp [cv_cat]
theorem lc_f2 (ad : Nat → Nat) (ls : LV) (i : Nat) : (lc ad ls).filter (fun q => !(q.1 == i) && (!(q.1 == i + 1) && !(q.1 + 1 == i && q.2.category == 2))) = lc ad (ls.filter (fun q => !(q.1 == i) && (!(q.1 == i + 1) && !(q.1 + 1 == i && q.2.category == 2)))) := by
  unfold lc
  rw [List.filter_map]
  congr 1
  apply List.filter_congr
  intro q _
  simp [cv_cat]
/-- what nobody writes: objects (place, name), their fields, arrays, statics, texts; words of nest mates -/
abbrev RoT : Type := List (Nat × String) × List (Nat × String × String × String × Value) × List (Nat × FieldType × Nat × (Nat → Int32)) × List (String × String × String × Value) × List (String × Nat × String × Nat) × List Cond
def v_far : Value → Prop
  | .ref i => 1000 ≤ i
  | _ => True
def w_nest : Cond → Prop
  | .fieldLinkNest .. => True
  | .methodLinkNest .. => True
  | _ => False
def RoOK (X : RoT) : Prop := (∀ q ∈ X.1, 1000 ≤ q.1) ∧ (∀ q ∈ X.2.1, 1000 ≤ q.1 ∧ v_far q.2.2.2.2) ∧ (∀ q ∈ X.2.2.1, 1000 ≤ q.1) ∧ (∀ q ∈ X.2.2.2.1, v_far q.2.2.2) ∧ (∀ q ∈ X.2.2.2.2.1, 1000 ≤ q.2.2.2) ∧ ∀ w ∈ X.2.2.2.2.2, w_nest w
def RO (X : RoT) (ad : Nat → Nat) (A : Nat → Prop) (U : State) (H : Heap) : Prop :=
  (∀ q ∈ X.1, va_O q.2 (ad q.1) A U H) ∧ (∀ q ∈ X.2.1, va_OF q.2.1 q.2.2.1 q.2.2.2.1 (cv ad q.2.2.2.2) (ad q.1) A U H) ∧ (∀ q ∈ X.2.2.1, va_T q.2.1 (ad q.1) q.2.2.1 (fun j => .int (q.2.2.2 j)) A U H) ∧
  (∀ q ∈ X.2.2.2.1, va_Z q.1 q.2.1 q.2.2.1 (cv ad q.2.2.2) A U H) ∧ (∀ q ∈ X.2.2.2.2.1, vk_R q.1 q.2.1 q.2.2.1 (ad q.2.2.2) U) ∧ ∀ w ∈ X.2.2.2.2.2, va_Nw w U
theorem RO.go {X : RoT} (hX : RoOK X) {ad : Nat → Nat} {A : Nat → Prop} {s U : State} {H H1 : Heap} (h : RO X ad A s H) (hW : s.WarmedH U.vm) (hq : ∀ a : Nat, a < H.size → ¬ A a → H1[a]? = H[a]?) : RO X ad A U H1 := by
  obtain ⟨h1, h2, h3, h4, h5, h6⟩ := h
  refine ⟨fun q m => (va_O.moved hW.alike (h1 q m)).kept hq, fun q m => (va_OF.moved hW.alike (h2 q m)).kept hq, fun q m => (va_T.moved hW.alike (h3 q m)).kept hq, fun q m => (va_Z.moved hW.alike (h4 q m)).kept hq, fun q m => (h5 q m).warm hW, fun w m => ?_⟩
  have hn := hX.2.2.2.2.2 w m
  have hw := h6 w m
  cases w with
  | fieldLinkNest a b c d e f => exact va_Nw.warmF hW hw
  | methodLinkNest a b c d => exact va_Nw.warmM hW hw
  | _ => exact hn.elim
theorem RO.narrow {X : RoT} {ad : Nat → Nat} {A B : Nat → Prop} {U : State} {H : Heap} (h : RO X ad A U H) (hAB : ∀ q, B q → A q) : RO X ad B U H := by
  obtain ⟨h1, h2, h3, h4, h5, h6⟩ := h
  exact ⟨fun q m => (h1 q m).narrow hAB, fun q m => (h2 q m).narrow hAB, fun q m => (h3 q m).narrow hAB, fun q m => (h4 q m).narrow hAB, h5, h6⟩
theorem RO.ren {X : RoT} (hX : RoOK X) {ad ad' : Nat → Nat} {A : Nat → Prop} {U : State} {H : Heap} (h : RO X ad A U H) (he : ∀ i, 1000 ≤ i → ad' i = ad i) : RO X ad' A U H := by
  obtain ⟨h1, h2, h3, h4, h5, h6⟩ := h
  have ev : ∀ v, v_far v → cv ad' v = cv ad v := by
    intro v hv
    cases v with
    | ref i => show Value.ref (ad' i) = Value.ref (ad i); rw [he i hv]
    | _ => rfl
  refine ⟨fun q m => ?_, fun q m => ?_, fun q m => ?_, fun q m => ?_, fun q m => ?_, h6⟩
  · rw [he _ (hX.1 q m)]; exact h1 q m
  · rw [he _ (hX.2.1 q m).1, ev _ (hX.2.1 q m).2]; exact h2 q m
  · rw [he _ (hX.2.2.1 q m)]; exact h3 q m
  · rw [ev _ (hX.2.2.2.1 q m)]; exact h4 q m
  · rw [he _ (hX.2.2.2.2.1 q m)]; exact h5 q m
/-- array kinds: 0 int, 1 byte, 2 boolean, 3 and 4 of references -/
def TY (tc : Nat → ClassId) : List (ClassId × FieldType) := [(tc 0, .int), (tc 1, .byte), (tc 2, .boolean), (tc 3, .object "UrchinSchool$Ledge"), (tc 4, .object "UrchinSchool$Urchin")]
/-- an entry of the constant pool of 'own' names field k of T -/
def FOK (Ts NW : List Cond) (own : String) (idx : Nat) (T : u_T) (k : Nat) : Prop := ∃ ref, (Cond.fieldLink own idx ref (T k).2.1 (T k).2.2.1 ∈ Ts ∨ ∃ host, Cond.fieldLinkNest own idx ref (T k).2.1 (T k).2.2.1 host ∈ NW) ∧ (ref = (T k).1 ∨ Cond.sameField ref (T k).1 (T k).2.1 (T k).2.2.1 ∈ Ts)
def f_kind : Nat → FieldType → Prop
  | 0, t => t = .int
  | 1, t => t = .boolean
  | 2, t => (∃ n, t = .object n) ∨ ∃ u, t = .array u
  | _, _ => False
def ClsOK (Ts : List Cond) (cl : List vw_C) : Prop := ∀ (ci : Nat) (C : String) (T : u_T) (N : Nat), cl[ci]? = some (C, T, N) → (∀ w ∈ u_ws C T N, w ∈ Ts) ∧ ∃ ty0 : Nat → FieldType, (∀ k, k < N → parseFieldDescriptor (T k).2.2.1 = some (ty0 k)) ∧ ∀ a, a < N → ∀ b, b < N → a ≠ b → (T a).2.1 ≠ (T b).2.1
def FldOK (Ts NW : List Cond) (cl : List vw_C) (own : String) (P : Pool) : Prop :=
  ∀ q ∈ P.1, ∀ ci ∈ q.2.2.2, ci = 50 ∨ ∃ (C : String) (T : u_T) (N : Nat), cl[ci]? = some (C, T, N) ∧ q.2.1 < N ∧ FOK Ts NW own q.1 T q.2.1 ∧ (q.2.2.1 = 9 ∨ ((T q.2.1).2.2.2 = false ∧ ∃ t, parseFieldDescriptor (T q.2.1).2.2.1 = some t ∧ f_kind q.2.2.1 t))
/-- what nobody writes, as the pool's lists tell it -/
def FarOK (Ts : List Cond) (X : RoT) (own : String) (P : Pool) : Prop :=
  (∀ q ∈ P.1, ∀ i v, 50 ∈ q.2.2.2 → (16 * i + q.2.1, v) ∈ P.2.2.2.2.1 → ∃ o n d, (i, o, n, d, v) ∈ X.2.1 ∧ Cond.fieldLink own q.1 o n d ∈ Ts) ∧
  (∀ q ∈ P.2.2.2.2.2, (q.2.1 = 0 ∧ (q.1, FieldType.int, q.2.2.1, q.2.2.2) ∈ X.2.2.1) ∨ (q.2.1 = 1 ∧ (q.1, FieldType.byte, q.2.2.1, q.2.2.2) ∈ X.2.2.1)) ∧
  (∀ q ∈ P.2.2.1, match q.2 with
    | .int x => Cond.constant own q.1 x ∈ Ts
    | .long x => Cond.constantLong own q.1 x ∈ Ts
    | .ref a => ∃ tx, (own, q.1, tx, a) ∈ X.2.2.2.2.1
    | _ => False) ∧
  (∀ q ∈ P.2.2.2.1, ∃ C n d, (C, n, d, q.2) ∈ X.2.2.2.1 ∧ Cond.fieldLink own q.1 C n d ∈ Ts)
/-- the numbers of bytes of what isn't a switch -/
def x_sw : Instr → Bool
  | .tableswitch .. => true
  | .lookupswitch .. => true
  | _ => false
def x_ln : Instr → Nat
  | .bipush _ => 2
  | .sipush _ => 3
  | .ldc _ => 2
  | .ldc_w _ => 3
  | .ldc2_w _ => 3
  | .getstatic _ => 3
  | .iload _ => 2
  | .lload _ => 2
  | .aload _ => 2
  | .istore _ => 2
  | .lstore _ => 2
  | .astore _ => 2
  | .iinc _ _ => 3
  | .goto _ => 3
  | .ifCond _ _ => 3
  | .if_icmp _ _ => 3
  | .ifnull _ => 3
  | .ifnonnull _ => 3
  | .getfield _ => 3
  | .putfield _ => 3
  | .invokevirtual _ => 3
  | .invokestatic _ => 3
  | .invokespecial _ => 3
  | _ => 1
section SND
variable {p : Program} {l : Launch} {e : Env} {R : Room} {s : State} {m : MethodId} {args : Array Value} {below : List Frame} {meth : Method} {c : Code} {cells slots : Nat} {Q : State → Prop}
variable {cl : List vw_C} {D : va_G} {tc : Nat → ClassId} {ad : Nat → Nat} {N nL : Nat} {cc : ByteArray} {own : String} {Ts : List Cond} {X : RoT} {P : Pool} {CT : CTP} {d : Nat} {ty : Option FieldType} {RT : RP}
/-- the walk stands at pc, and the machine goes on well from there -/
def WW (p : Program) (l : Launch) (e : Env) (R : Room) (s : State) (m : MethodId) (args : Array Value) (below : List Frame) (meth : Method) (c : Code) (cells slots : Nat) (Q : State → Prop) (cl : List vw_C) (D : va_G) (tc : Nat → ClassId) (ad : Nat → Nat) (N nL : Nat) : JP := fun pc ls st h =>
  ∀ (H : Heap) (locs : List Loc) (la : Array Slot), h.length = N → va_P D cl (wm tc ad 0 h) H → va_S (AA ad N) s.heap H locs → lv_has la nL (lc ad ls) → W p l e R s m args below meth c H locs cells slots Q (F0 m pc la (st.map (cv ad)))
/-- what stands fast while a method is walked -/
def CX (p : Program) (s : State) (m : MethodId) (args : Array Value) (c : Code) (cl : List vw_C) (D : va_G) (tc : Nat → ClassId) (ad : Nat → Nat) (N nL : Nat) (cc : ByteArray) (own : String) (Ts : List Cond) (X : RoT) : Prop :=
  p.tables.exec = Jvm.exec ∧ c.code = cc ∧ c.maxLocals = nL ∧ s.vm.findClass own = some m.cls ∧ (∀ w ∈ Ts, w.before args s = true) ∧ va_K D cl (TY tc) s ∧ INJ ad N ∧ RO X ad (AA ad N) s s.heap
theorem vp_ld {ls : LV} {i kd : Nat} {v : Value} (h : x_ld ls i kd = some v) : a_look ls i = some v ∧ ((kd = 0 ∧ ∃ x, v = .int x) ∨ (kd = 1 ∧ ∃ x, v = .long x) ∨ (kd = 2 ∧ ∃ x, v = .ref x)) := by
  unfold x_ld at h
  split at h
  · next x hx =>
    cases hb : Nat.beq kd 0 with
    | false => rw [hb] at h; cases h
    | true => rw [hb] at h; cases h; exact ⟨hx, Or.inl ⟨Nat.eq_of_beq_eq_true hb, x, rfl⟩⟩
  · next x hx =>
    cases hb : Nat.beq kd 1 with
    | false => rw [hb] at h; cases h
    | true => rw [hb] at h; cases h; exact ⟨hx, Or.inr (Or.inl ⟨Nat.eq_of_beq_eq_true hb, x, rfl⟩)⟩
  · next x hx =>
    cases hb : Nat.beq kd 2 with
    | false => rw [hb] at h; cases h
    | true => rw [hb] at h; cases h; exact ⟨hx, Or.inr (Or.inr ⟨Nat.eq_of_beq_eq_true hb, x, rfl⟩)⟩
  · cases h
theorem x_ld0 {ls : LV} {i : Nat} {v : Value} (h : x_ld ls i 0 = some v) : ∃ x, v = .int x ∧ a_look ls i = some (.int x) := by
  obtain ⟨h1, ⟨-, x, rfl⟩ | ⟨h2, -⟩ | ⟨h2, -⟩⟩ := vp_ld h
  · exact ⟨x, rfl, h1⟩
  · cases h2
  · cases h2
theorem x_ld1 {ls : LV} {i : Nat} {v : Value} (h : x_ld ls i 1 = some v) : ∃ x, v = .long x ∧ a_look ls i = some (.long x) := by
  obtain ⟨h1, ⟨h2, -⟩ | ⟨-, x, rfl⟩ | ⟨h2, -⟩⟩ := vp_ld h
  · cases h2
  · exact ⟨x, rfl, h1⟩
  · cases h2
theorem x_ld2 {ls : LV} {i : Nat} {v : Value} (h : x_ld ls i 2 = some v) : ∃ x, v = .ref x ∧ a_look ls i = some (.ref x) := by
  obtain ⟨h1, ⟨h2, -⟩ | ⟨h2, -⟩ | ⟨-, x, rfl⟩⟩ := vp_ld h
  · cases h2
  · cases h2
  · exact ⟨x, rfl, h1⟩
theorem x_st1_eq {ls : LV} {i : Nat} {v : Value} {k : LV → Prop} (h : x_st1 ls nL i v k) : i < nL ∧ k ((i, v) :: ls.filter (fun q => !(q.1 == i) && !(q.1 + 1 == i && q.2.category == 2))) := by
  unfold x_st1 at h
  cases hb : Nat.blt i nL with
  | false => rw [hb] at h; exact h.elim
  | true =>
    rw [hb] at h
    exact ⟨by simpa using hb, ls_out_eq ls i (fun t => k ((i, v) :: t)) h⟩
theorem x_st2_eq {ls : LV} {i : Nat} {v : Value} {k : LV → Prop} (h : x_st2 ls nL i v k) : i + 1 < nL ∧ k ((i, v) :: ls.filter (fun q => !(q.1 == i) && (!(q.1 == i + 1) && !(q.1 + 1 == i && q.2.category == 2)))) := by
  unfold x_st2 at h
  cases hb : Nat.blt (i + 1) nL with
  | false => rw [hb] at h; exact h.elim
  | true =>
    rw [hb] at h
    exact ⟨by simpa using hb, ls_out2_eq ls i (fun t => k ((i, v) :: t)) h⟩
theorem v_one {v : Value} (h : v_two v = false) (ad : Nat → Nat) : (cv ad v).category = 1 := by
  rw [cv_cat]
  cases v <;> first | rfl | cases h
def x_plain : Instr → Bool
  | .getfield _ => false
  | .putfield _ => false
  | .invokevirtual _ => false
  | .invokestatic _ => false
  | .invokespecial _ => false
  | .arraylength => false
  | .iaload => false
  | .baload => false
  | .iastore => false
  | .bastore => false
  | .aaload => false
  | .ireturn => false
  | .lreturn => false
  | .areturn => false
  | .return_ => false
  | _ => true
set_option maxHeartbeats 4000000 in
/-- the instructions that touch no cell and call nothing -/
theorem snd_a (C0 : CX p s m args c cl D tc ad N nL cc own Ts X) (hF : FarOK Ts X own P) {pc n : Nat} {i : Instr} {ls : LV} {st : List Value} {h : List AE} {k : KP} (hdg : decode cc pc = .ok (i, n)) (hn : x_sw i = true ∨ n = x_ln i)
    (hk : ∀ ls' st' h', k ls' st' h' → WW p l e R s m args below meth c cells slots Q cl D tc ad N nL (pc + n) ls' st' h')
    (hs : x_plain i = true)
    (hx : x_step P CT d nL ty (WW p l e R s m args below meth c cells slots Q cl D tc ad N nL) RT pc ls st h k i) : WW p l e R s m args below meth c cells slots Q cl D tc ad N nL pc ls st h := by
  obtain ⟨hxe, hb, hml, hown, hts, hK, hI, hR⟩ := C0
  cases i with
  | getfield ix => exact Bool.noConfusion (show false = true from hs)
  | putfield ix => exact Bool.noConfusion (show false = true from hs)
  | invokevirtual ix => exact Bool.noConfusion (show false = true from hs)
  | invokestatic ix => exact Bool.noConfusion (show false = true from hs)
  | invokespecial ix => exact Bool.noConfusion (show false = true from hs)
  | arraylength => exact Bool.noConfusion (show false = true from hs)
  | iaload => exact Bool.noConfusion (show false = true from hs)
  | baload => exact Bool.noConfusion (show false = true from hs)
  | iastore => exact Bool.noConfusion (show false = true from hs)
  | bastore => exact Bool.noConfusion (show false = true from hs)
  | aaload => exact Bool.noConfusion (show false = true from hs)
  | ireturn => exact Bool.noConfusion (show false = true from hs)
  | lreturn => exact Bool.noConfusion (show false = true from hs)
  | areturn => exact Bool.noConfusion (show false = true from hs)
  | return_ => exact Bool.noConfusion (show false = true from hs)
  | tableswitch df lo hi offs =>
    simp only [x_step] at hx
    split at hx
    · next x r =>
      obtain ⟨ho, hhi, ha⟩ := hx
      intro H locs la h1 h2 h3 h4
      by_cases hc : x.toInt < lo ∨ hi < x.toInt
      · obtain ⟨t, ht, hj⟩ := x_jmp_eq (ho hc)
        exact lv_tableOut hxe hb hdg hc ht (hj H locs la h1 h2 h3 h4)
      · have hc1 : ¬ x.toInt < lo := fun z => hc (Or.inl z)
        have hc2 : ¬ hi < x.toInt := fun z => hc (Or.inr z)
        have key : ∀ (os : List Int) (lo : Int), x_arms (fun t => WW p l e R s m args below meth c cells slots Q cl D tc ad N nL t ls r h) pc x lo os → lo ≤ x.toInt → x.toInt < lo + os.length → ∃ o, os[(x.toInt - lo).toNat]? = some o ∧ x_jmp (fun t => WW p l e R s m args below meth c cells slots Q cl D tc ad N nL t ls r h) pc o := by
          intro os
          induction os with
          | nil => intro lo _ h1 h2; simp at h2; omega
          | cons o t ih =>
            intro lo ha h1 h2
            by_cases he : x.toInt = lo
            · refine ⟨o, ?_, ha.1 he⟩
              rw [he]; simp
            · obtain ⟨o', h5, h6⟩ := ih (lo + 1) ha.2 (by omega) (by simp at h2; omega)
              refine ⟨o', ?_, h6⟩
              have e9 : (x.toInt - lo).toNat = (x.toInt - (lo + 1)).toNat + 1 := by omega
              rw [e9, List.getElem?_cons_succ]
              exact h5
        obtain ⟨o, h5, h6⟩ := key offs.toList lo ha (by omega) (by omega)
        obtain ⟨t, ht, hj⟩ := x_jmp_eq h6
        exact lv_tableIn hxe hb hdg hc1 hc2 (by rw [← Array.getElem?_toList]; exact h5) ht (hj H locs la h1 h2 h3 h4)
    · exact hx.elim
  | lookupswitch df ps =>
    simp only [x_step] at hx
    split at hx
    · next x r =>
      obtain ⟨hso, ha⟩ := hx
      intro H locs la h1 h2 h3 h4
      have key : ∀ (os : List (Int × Int)), x_pairs (fun t => WW p l e R s m args below meth c cells slots Q cl D tc ad N nL t ls r h) pc x df os → ∃ o, Op.lookupswitch.offset os df x.toInt = o ∧ x_jmp (fun t => WW p l e R s m args below meth c cells slots Q cl D tc ad N nL t ls r h) pc o := by
        intro os
        induction os with
        | nil => intro ha; exact ⟨df, rfl, ha⟩
        | cons o t ih =>
          obtain ⟨a, o⟩ := o
          intro ha
          rw [Op.lookupswitch.offset_cons]
          by_cases he : x.toInt = a
          · rw [if_pos he.symm]; exact ⟨o, rfl, ha.1 he⟩
          · rw [if_neg (fun z => he z.symm)]; exact ih (ha.2 he)
      obtain ⟨o, h5, h6⟩ := key ps.toList ha
      obtain ⟨t, ht, hj⟩ := x_jmp_eq h6
      exact lv_lookup hxe hb hdg hso h5 ht (hj H locs la h1 h2 h3 h4)
    · exact hx.elim
  | iconst n =>
    have z := hn.resolve_left (fun z => Bool.noConfusion (show false = true from z))
    subst z
    simp only [x_step] at hx
    exact fun H locs la h1 h2 h3 h4 => lv_iconst hxe hb hdg rfl (hk _ _ _ (x_int_eq hx) H locs la h1 h2 h3 h4)
  | bipush n =>
    have z := hn.resolve_left (fun z => Bool.noConfusion (show false = true from z))
    subst z
    simp only [x_step] at hx
    obtain ⟨g1, g2, g3⟩ := x_sml_eq hx
    exact fun H locs la h1 h2 h3 h4 => lv_bipush hxe hb hdg (x_i8 (by omega) (by omega)) (hk _ _ _ g3 H locs la h1 h2 h3 h4)
  | sipush n =>
    have z := hn.resolve_left (fun z => Bool.noConfusion (show false = true from z))
    subst z
    simp only [x_step] at hx
    obtain ⟨g1, g2, g3⟩ := x_sml_eq hx
    exact fun H locs la h1 h2 h3 h4 => lv_sipush hxe hb hdg (x_i16 (by omega) (by omega)) (hk _ _ _ g3 H locs la h1 h2 h3 h4)
  | lconst n =>
    have z := hn.resolve_left (fun z => Bool.noConfusion (show false = true from z))
    subst z
    simp only [x_step] at hx
    exact fun H locs la h1 h2 h3 h4 => lv_lconst hxe hb hdg rfl (hk _ _ _ hx H locs la h1 h2 h3 h4)
  | aconst_null =>
    have z := hn.resolve_left (fun z => Bool.noConfusion (show false = true from z))
    subst z
    simp only [x_step] at hx
    exact fun H locs la h1 h2 h3 h4 => lv_null hxe hb hdg (hk _ _ _ hx H locs la h1 h2 h3 h4)
  | ldc ix =>
    have z := hn.resolve_left (fun z => Bool.noConfusion (show false = true from z))
    subst z
    simp only [x_step] at hx
    split at hx
    · next v hv => exact fun H locs la h1 h2 h3 h4 => lv_ldc hxe hb hown (hts _ (hF.2.2.1 _ (a_look_mem hv))) hdg (hk _ _ _ hx H locs la h1 h2 h3 h4)
    · next a ha =>
      obtain ⟨tx, htx⟩ := hF.2.2.1 _ (a_look_mem ha)
      exact fun H locs la h1 h2 h3 h4 => va_ldcS hxe hb hown (hR.2.2.2.2.1 _ htx) hdg (hk _ _ _ hx H locs la h1 h2 h3 h4)
    · exact hx.elim
  | ldc_w ix =>
    have z := hn.resolve_left (fun z => Bool.noConfusion (show false = true from z))
    subst z
    simp only [x_step] at hx
    split at hx
    · next v hv => exact fun H locs la h1 h2 h3 h4 => lv_ldcw hxe hb hown (hts _ (hF.2.2.1 _ (a_look_mem hv))) hdg (hk _ _ _ hx H locs la h1 h2 h3 h4)
    · exact hx.elim
  | ldc2_w ix =>
    have z := hn.resolve_left (fun z => Bool.noConfusion (show false = true from z))
    subst z
    simp only [x_step] at hx
    split at hx
    · next v hv => exact fun H locs la h1 h2 h3 h4 => lv_ldc2 hxe hb hown (hts _ (hF.2.2.1 _ (a_look_mem hv))) hdg (hk _ _ _ hx H locs la h1 h2 h3 h4)
    · exact hx.elim
  | getstatic ix =>
    have z := hn.resolve_left (fun z => Bool.noConfusion (show false = true from z))
    subst z
    simp only [x_step] at hx
    split at hx
    · next v hv =>
      obtain ⟨C, nm, ds, g1, g2⟩ := hF.2.2.2 _ (a_look_mem hv)
      exact fun H locs la h1 h2 h3 h4 => va_gets hxe hb (hR.2.2.2.1 _ g1) h3 hown (hts _ g2) (fun _ z => z) hdg (hk _ _ _ hx H locs la h1 h2 h3 h4)
    · exact hx.elim
  | iload n =>
    have z := hn.resolve_left (fun z => Bool.noConfusion (show false = true from z))
    subst z
    simp only [x_step] at hx
    split at hx
    · next v hv =>
      obtain ⟨x, rfl, hl⟩ := x_ld0 hv
      exact fun H locs la h1 h2 h3 h4 => lv_iload hxe hb hdg (lc_at h4 hl) (hk _ _ _ hx H locs la h1 h2 h3 h4)
    · exact hx.elim
  | iload_n n =>
    have z := hn.resolve_left (fun z => Bool.noConfusion (show false = true from z))
    subst z
    simp only [x_step] at hx
    split at hx
    · next v hv =>
      obtain ⟨x, rfl, hl⟩ := x_ld0 hv
      exact fun H locs la h1 h2 h3 h4 => lv_iload_n hxe hb hdg rfl (lc_at h4 hl) (hk _ _ _ hx H locs la h1 h2 h3 h4)
    · exact hx.elim
  | lload n =>
    have z := hn.resolve_left (fun z => Bool.noConfusion (show false = true from z))
    subst z
    simp only [x_step] at hx
    split at hx
    · next v hv =>
      obtain ⟨x, rfl, hl⟩ := x_ld1 hv
      exact fun H locs la h1 h2 h3 h4 => lv_lload hxe hb hdg (lc_at h4 hl) (hk _ _ _ hx H locs la h1 h2 h3 h4)
    · exact hx.elim
  | lload_n n =>
    have z := hn.resolve_left (fun z => Bool.noConfusion (show false = true from z))
    subst z
    simp only [x_step] at hx
    split at hx
    · next v hv =>
      obtain ⟨x, rfl, hl⟩ := x_ld1 hv
      exact fun H locs la h1 h2 h3 h4 => lv_lload_n hxe hb hdg rfl (lc_at h4 hl) (hk _ _ _ hx H locs la h1 h2 h3 h4)
    · exact hx.elim
  | aload n =>
    have z := hn.resolve_left (fun z => Bool.noConfusion (show false = true from z))
    subst z
    simp only [x_step] at hx
    split at hx
    · next v hv =>
      obtain ⟨x, rfl, hl⟩ := x_ld2 hv
      exact fun H locs la h1 h2 h3 h4 => lv_aload hxe hb hdg (lc_at h4 hl) (hk _ _ _ hx H locs la h1 h2 h3 h4)
    · exact hx.elim
  | aload_n n =>
    have z := hn.resolve_left (fun z => Bool.noConfusion (show false = true from z))
    subst z
    simp only [x_step] at hx
    split at hx
    · next v hv =>
      obtain ⟨x, rfl, hl⟩ := x_ld2 hv
      exact fun H locs la h1 h2 h3 h4 => lv_aload_n hxe hb hdg rfl (lc_at h4 hl) (hk _ _ _ hx H locs la h1 h2 h3 h4)
    · exact hx.elim
  | istore n =>
    have z := hn.resolve_left (fun z => Bool.noConfusion (show false = true from z))
    subst z
    simp only [x_step] at hx
    split at hx
    · next x r =>
      obtain ⟨g1, g2⟩ := x_st1_eq hx
      exact fun H locs la h1 h2 h3 h4 => lv_istore hxe hb hdg h4 g1 (by rw [lc_f1]; rfl) (fun la' h5 => hk _ _ _ g2 H locs la' h1 h2 h3 h5)
    · exact hx.elim
  | istore_n n =>
    have z := hn.resolve_left (fun z => Bool.noConfusion (show false = true from z))
    subst z
    simp only [x_step] at hx
    split at hx
    · next x r =>
      obtain ⟨g1, g2⟩ := x_st1_eq hx
      exact fun H locs la h1 h2 h3 h4 => lv_istore_n hxe hb hdg rfl h4 g1 (by rw [lc_f1]; rfl) (fun la' h5 => hk _ _ _ g2 H locs la' h1 h2 h3 h5)
    · exact hx.elim
  | lstore n =>
    have z := hn.resolve_left (fun z => Bool.noConfusion (show false = true from z))
    subst z
    simp only [x_step] at hx
    split at hx
    · next x r =>
      obtain ⟨g1, g2⟩ := x_st2_eq hx
      exact fun H locs la h1 h2 h3 h4 => lv_lstore hxe hb hdg h4 g1 (by rw [lc_f2]; rfl) (fun la' h5 => hk _ _ _ g2 H locs la' h1 h2 h3 h5)
    · exact hx.elim
  | lstore_n n =>
    have z := hn.resolve_left (fun z => Bool.noConfusion (show false = true from z))
    subst z
    simp only [x_step] at hx
    split at hx
    · next x r =>
      obtain ⟨g1, g2⟩ := x_st2_eq hx
      exact fun H locs la h1 h2 h3 h4 => lv_lstore_n hxe hb hdg rfl h4 g1 (by rw [lc_f2]; rfl) (fun la' h5 => hk _ _ _ g2 H locs la' h1 h2 h3 h5)
    · exact hx.elim
  | astore n =>
    have z := hn.resolve_left (fun z => Bool.noConfusion (show false = true from z))
    subst z
    simp only [x_step] at hx
    split at hx
    · next x r =>
      obtain ⟨g1, g2⟩ := x_st1_eq hx
      exact fun H locs la h1 h2 h3 h4 => lv_astore hxe hb hdg h4 g1 (by rw [lc_f1]; rfl) (fun la' h5 => hk _ _ _ g2 H locs la' h1 h2 h3 h5)
    · exact hx.elim
  | astore_n n =>
    have z := hn.resolve_left (fun z => Bool.noConfusion (show false = true from z))
    subst z
    simp only [x_step] at hx
    split at hx
    · next x r =>
      obtain ⟨g1, g2⟩ := x_st1_eq hx
      exact fun H locs la h1 h2 h3 h4 => lv_astore_n hxe hb hdg rfl h4 g1 (by rw [lc_f1]; rfl) (fun la' h5 => hk _ _ _ g2 H locs la' h1 h2 h3 h5)
    · exact hx.elim
  | iinc n c =>
    have z := hn.resolve_left (fun z => Bool.noConfusion (show false = true from z))
    subst z
    simp only [x_step] at hx
    split at hx
    · next x hv =>
      obtain ⟨g1, g2⟩ := x_st1_eq (x_int_eq hx)
      obtain ⟨q, hq⟩ := List.getElem?_of_mem (a_look_mem hv)
      exact fun H locs la h1 h2 h3 h4 => lv_iinc (k := q) hxe hb hdg h4 (by unfold lc; rw [List.getElem?_map, hq]; rfl) rfl g1 (by rw [lc_f1]; rfl) (fun la' h5 => hk _ _ _ g2 H locs la' h1 h2 h3 h5)
    · exact hx.elim
  | dup =>
    have z := hn.resolve_left (fun z => Bool.noConfusion (show false = true from z))
    subst z
    simp only [x_step] at hx
    split at hx
    · next v r =>
      cases hv : v_two v with
      | true => rw [hv] at hx; exact hx.elim
      | false =>
        rw [hv] at hx
        exact fun H locs la h1 h2 h3 h4 => lv_dup hxe hb hdg (v_one hv ad) (hk _ _ _ hx H locs la h1 h2 h3 h4)
    · exact hx.elim
  | pop =>
    have z := hn.resolve_left (fun z => Bool.noConfusion (show false = true from z))
    subst z
    simp only [x_step] at hx
    split at hx
    · next v r =>
      cases hv : v_two v with
      | true => rw [hv] at hx; exact hx.elim
      | false =>
        rw [hv] at hx
        exact fun H locs la h1 h2 h3 h4 => lv_pop hxe hb hdg (v_one hv ad) (hk _ _ _ hx H locs la h1 h2 h3 h4)
    · exact hx.elim
  | dup2 =>
    have z := hn.resolve_left (fun z => Bool.noConfusion (show false = true from z))
    subst z
    simp only [x_step] at hx
    split at hx
    · next v w r =>
      cases hv : v_two v with
      | true => rw [hv] at hx; exact hx.elim
      | false =>
        cases hw : v_two w with
        | true => rw [hv, hw] at hx; exact hx.elim
        | false =>
          rw [hv, hw] at hx
          exact fun H locs la h1 h2 h3 h4 => lv_dup2_11 hxe hb hdg (v_one hv ad) (v_one hw ad) (hk _ _ _ hx H locs la h1 h2 h3 h4)
    · exact hx.elim
  | iadd =>
    have z := hn.resolve_left (fun z => Bool.noConfusion (show false = true from z))
    subst z
    simp only [x_step] at hx
    split at hx
    · exact fun H locs la h1 h2 h3 h4 => lv_iadd hxe hb hdg (hk _ _ _ hx H locs la h1 h2 h3 h4)
    · exact hx.elim
  | isub =>
    have z := hn.resolve_left (fun z => Bool.noConfusion (show false = true from z))
    subst z
    simp only [x_step] at hx
    split at hx
    · exact fun H locs la h1 h2 h3 h4 => lv_isub hxe hb hdg (hk _ _ _ hx H locs la h1 h2 h3 h4)
    · exact hx.elim
  | imul =>
    have z := hn.resolve_left (fun z => Bool.noConfusion (show false = true from z))
    subst z
    simp only [x_step] at hx
    split at hx
    · exact fun H locs la h1 h2 h3 h4 => lv_imul hxe hb hdg (hk _ _ _ hx H locs la h1 h2 h3 h4)
    · exact hx.elim
  | iand =>
    have z := hn.resolve_left (fun z => Bool.noConfusion (show false = true from z))
    subst z
    simp only [x_step] at hx
    split at hx
    · exact fun H locs la h1 h2 h3 h4 => lv_iand hxe hb hdg (hk _ _ _ hx H locs la h1 h2 h3 h4)
    · exact hx.elim
  | ior =>
    have z := hn.resolve_left (fun z => Bool.noConfusion (show false = true from z))
    subst z
    simp only [x_step] at hx
    split at hx
    · exact fun H locs la h1 h2 h3 h4 => lv_ior hxe hb hdg (hk _ _ _ hx H locs la h1 h2 h3 h4)
    · exact hx.elim
  | ixor =>
    have z := hn.resolve_left (fun z => Bool.noConfusion (show false = true from z))
    subst z
    simp only [x_step] at hx
    split at hx
    · exact fun H locs la h1 h2 h3 h4 => lv_ixor hxe hb hdg (hk _ _ _ hx H locs la h1 h2 h3 h4)
    · exact hx.elim
  | ishl =>
    have z := hn.resolve_left (fun z => Bool.noConfusion (show false = true from z))
    subst z
    simp only [x_step] at hx
    split at hx
    · exact fun H locs la h1 h2 h3 h4 => lv_ishl hxe hb hdg (hk _ _ _ hx H locs la h1 h2 h3 h4)
    · exact hx.elim
  | ishr =>
    have z := hn.resolve_left (fun z => Bool.noConfusion (show false = true from z))
    subst z
    simp only [x_step] at hx
    split at hx
    · exact fun H locs la h1 h2 h3 h4 => lv_ishr hxe hb hdg (hk _ _ _ hx H locs la h1 h2 h3 h4)
    · exact hx.elim
  | ladd =>
    have z := hn.resolve_left (fun z => Bool.noConfusion (show false = true from z))
    subst z
    simp only [x_step] at hx
    split at hx
    · exact fun H locs la h1 h2 h3 h4 => lv_ladd hxe hb hdg (hk _ _ _ hx H locs la h1 h2 h3 h4)
    · exact hx.elim
  | lsub =>
    have z := hn.resolve_left (fun z => Bool.noConfusion (show false = true from z))
    subst z
    simp only [x_step] at hx
    split at hx
    · exact fun H locs la h1 h2 h3 h4 => lv_lsub hxe hb hdg (hk _ _ _ hx H locs la h1 h2 h3 h4)
    · exact hx.elim
  | iushr =>
    have z := hn.resolve_left (fun z => Bool.noConfusion (show false = true from z))
    subst z
    simp only [x_step] at hx
    split at hx
    · exact fun H locs la h1 h2 h3 h4 => lv_iushr hxe hb hdg rfl (hk _ _ _ hx H locs la h1 h2 h3 h4)
    · exact hx.elim
  | lcmp =>
    have z := hn.resolve_left (fun z => Bool.noConfusion (show false = true from z))
    subst z
    simp only [x_step] at hx
    split at hx
    · exact fun H locs la h1 h2 h3 h4 => W.lcmp hxe hb hdg (hk _ _ _ hx H locs la h1 h2 h3 h4)
    · exact hx.elim
  | idiv =>
    have z := hn.resolve_left (fun z => Bool.noConfusion (show false = true from z))
    subst z
    simp only [x_step] at hx
    split at hx
    · exact fun H locs la h1 h2 h3 h4 => lv_idiv hxe hb hdg hx.1 (hk _ _ _ hx.2 H locs la h1 h2 h3 h4)
    · exact hx.elim
  | irem =>
    have z := hn.resolve_left (fun z => Bool.noConfusion (show false = true from z))
    subst z
    simp only [x_step] at hx
    split at hx
    · exact fun H locs la h1 h2 h3 h4 => lv_irem hxe hb hdg hx.1 (hk _ _ _ hx.2 H locs la h1 h2 h3 h4)
    · exact hx.elim
  | ldiv =>
    have z := hn.resolve_left (fun z => Bool.noConfusion (show false = true from z))
    subst z
    simp only [x_step] at hx
    split at hx
    · exact fun H locs la h1 h2 h3 h4 => lv_ldiv hxe hb hdg hx.1 (hk _ _ _ hx.2 H locs la h1 h2 h3 h4)
    · exact hx.elim
  | lrem =>
    have z := hn.resolve_left (fun z => Bool.noConfusion (show false = true from z))
    subst z
    simp only [x_step] at hx
    split at hx
    · exact fun H locs la h1 h2 h3 h4 => lv_lrem hxe hb hdg hx.1 (hk _ _ _ hx.2 H locs la h1 h2 h3 h4)
    · exact hx.elim
  | ineg =>
    have z := hn.resolve_left (fun z => Bool.noConfusion (show false = true from z))
    subst z
    simp only [x_step] at hx
    split at hx
    · exact fun H locs la h1 h2 h3 h4 => lv_ineg hxe hb hdg (hk _ _ _ hx H locs la h1 h2 h3 h4)
    · exact hx.elim
  | i2l =>
    have z := hn.resolve_left (fun z => Bool.noConfusion (show false = true from z))
    subst z
    simp only [x_step] at hx
    split at hx
    · exact fun H locs la h1 h2 h3 h4 => lv_i2l hxe hb hdg rfl (hk _ _ _ hx H locs la h1 h2 h3 h4)
    · exact hx.elim
  | i2b =>
    have z := hn.resolve_left (fun z => Bool.noConfusion (show false = true from z))
    subst z
    simp only [x_step] at hx
    split at hx
    · exact fun H locs la h1 h2 h3 h4 => lv_i2b hxe hb hdg rfl (hk _ _ _ hx H locs la h1 h2 h3 h4)
    · exact hx.elim
  | i2c =>
    have z := hn.resolve_left (fun z => Bool.noConfusion (show false = true from z))
    subst z
    simp only [x_step] at hx
    split at hx
    · exact fun H locs la h1 h2 h3 h4 => lv_i2c hxe hb hdg rfl (hk _ _ _ hx H locs la h1 h2 h3 h4)
    · exact hx.elim
  | goto o =>
    have z := hn.resolve_left (fun z => Bool.noConfusion (show false = true from z))
    subst z
    simp only [x_step] at hx
    obtain ⟨t, ht, hj⟩ := x_jmp_eq hx
    exact fun H locs la h1 h2 h3 h4 => lv_goto hxe hb hdg ht (hj H locs la h1 h2 h3 h4)
  | ifCond cn o =>
    have z := hn.resolve_left (fun z => Bool.noConfusion (show false = true from z))
    subst z
    simp only [x_step] at hx
    split at hx
    · obtain ⟨t, ht, hj⟩ := x_jmp_eq hx
      intro H locs la h1 h2 h3 h4
      cases cn with
      | eq => exact lv_if_eq hxe hb hdg ht (fun hc => hj.1 hc H locs la h1 h2 h3 h4) (fun hc => hk _ _ _ (hj.2 hc) H locs la h1 h2 h3 h4)
      | ne => exact lv_if_ne hxe hb hdg ht (fun hc => hj.1 hc H locs la h1 h2 h3 h4) (fun hc => hk _ _ _ (hj.2 hc) H locs la h1 h2 h3 h4)
      | lt => exact lv_if_lt hxe hb hdg ht (fun hc => hj.1 hc H locs la h1 h2 h3 h4) (fun hc => hk _ _ _ (hj.2 hc) H locs la h1 h2 h3 h4)
      | ge => exact lv_if_ge hxe hb hdg ht (fun hc => hj.1 hc H locs la h1 h2 h3 h4) (fun hc => hk _ _ _ (hj.2 hc) H locs la h1 h2 h3 h4)
      | gt => exact lv_if_gt hxe hb hdg ht (fun hc => hj.1 hc H locs la h1 h2 h3 h4) (fun hc => hk _ _ _ (hj.2 hc) H locs la h1 h2 h3 h4)
      | le => exact lv_if_le hxe hb hdg ht (fun hc => hj.1 hc H locs la h1 h2 h3 h4) (fun hc => hk _ _ _ (hj.2 hc) H locs la h1 h2 h3 h4)
    · exact hx.elim
  | if_icmp cn o =>
    have z := hn.resolve_left (fun z => Bool.noConfusion (show false = true from z))
    subst z
    simp only [x_step] at hx
    split at hx
    · obtain ⟨t, ht, hj⟩ := x_jmp_eq hx
      intro H locs la h1 h2 h3 h4
      cases cn with
      | eq => exact lv_icmp_eq hxe hb hdg ht (fun hc => hj.1 hc H locs la h1 h2 h3 h4) (fun hc => hk _ _ _ (hj.2 hc) H locs la h1 h2 h3 h4)
      | ne => exact lv_icmp_ne hxe hb hdg ht (fun hc => hj.1 hc H locs la h1 h2 h3 h4) (fun hc => hk _ _ _ (hj.2 hc) H locs la h1 h2 h3 h4)
      | lt => exact lv_icmp_lt hxe hb hdg ht (fun hc => hj.1 hc H locs la h1 h2 h3 h4) (fun hc => hk _ _ _ (hj.2 hc) H locs la h1 h2 h3 h4)
      | ge => exact lv_icmp_ge hxe hb hdg ht (fun hc => hj.1 hc H locs la h1 h2 h3 h4) (fun hc => hk _ _ _ (hj.2 hc) H locs la h1 h2 h3 h4)
      | gt => exact lv_icmp_gt hxe hb hdg ht (fun hc => hj.1 hc H locs la h1 h2 h3 h4) (fun hc => hk _ _ _ (hj.2 hc) H locs la h1 h2 h3 h4)
      | le => exact lv_icmp_le hxe hb hdg ht (fun hc => hj.1 hc H locs la h1 h2 h3 h4) (fun hc => hk _ _ _ (hj.2 hc) H locs la h1 h2 h3 h4)
    · exact hx.elim
  | ifnull o =>
    have z := hn.resolve_left (fun z => Bool.noConfusion (show false = true from z))
    subst z
    simp only [x_step] at hx
    split at hx
    · exact fun H locs la h1 h2 h3 h4 => lv_ifnull hxe hb hdg (hk _ _ _ hx H locs la h1 h2 h3 h4)
    · obtain ⟨t, ht, hj⟩ := x_jmp_eq hx
      exact fun H locs la h1 h2 h3 h4 => lv_ifnullN hxe hb hdg ht (hj H locs la h1 h2 h3 h4)
    · exact hx.elim
  | ifnonnull o =>
    have z := hn.resolve_left (fun z => Bool.noConfusion (show false = true from z))
    subst z
    simp only [x_step] at hx
    split at hx
    · obtain ⟨t, ht, hj⟩ := x_jmp_eq hx
      exact fun H locs la h1 h2 h3 h4 => lv_ifnonnull hxe hb hdg ht (hj H locs la h1 h2 h3 h4)
    · exact fun H locs la h1 h2 h3 h4 => lv_ifnonnullN hxe hb hdg (hk _ _ _ hx H locs la h1 h2 h3 h4)
    · exact hx.elim
  | _ => exact False.elim hx
end SND
end
section
/-! the abstract machine is right: cells, arrays, returns, calls -/
section SN2
variable {p : Program} {l : Launch} {e : Env} {R : Room} {s : State} {m : MethodId} {args : Array Value} {below : List Frame} {meth : Method} {c : Code} {cells slots : Nat} {Q : State → Prop}
variable {cl : List vw_C} {D : va_G} {tc : Nat → ClassId} {ad : Nat → Nat} {N nL : Nat} {cc : ByteArray} {own : String} {Ts : List Cond} {X : RoT} {P : Pool} {CT : CTP} {d : Nat} {ty : Option FieldType} {RT : RP}
theorem hsame_of {ref : String} {T : u_T} {k : Nat} (hts : ∀ w ∈ Ts, w.before args s = true) (h : ref = (T k).1 ∨ Cond.sameField ref (T k).1 (T k).2.1 (T k).2.2.1 ∈ Ts) : ∀ x, s.fieldFound? (T k).1 (T k).2.1 (T k).2.2.1 = some x → s.fieldFound? ref (T k).2.1 (T k).2.2.1 = some x := by
  rcases h with h | h
  · rw [h]; exact fun _ z => z
  · exact u_same (hts _ h)
theorem l_get_map {as : List Value} {k : Nat} {v : Value} (h : l_get as k = some v) (ad : Nat → Nat) : (as.map (cv ad))[k]? = some (cv ad v) := by
  rw [l_get_eq] at h
  rw [List.getElem?_map, h]
  rfl
theorem snd_getf (C0 : CX p s m args c cl D tc ad N nL cc own Ts X) (hF : FarOK Ts X own P) (hcl : cl.length ≤ 50) (hCl : ClsOK Ts cl) (hFl : FldOK Ts X.2.2.2.2.2 cl own P) {pc ix : Nat} {ls : LV} {st : List Value} {h : List AE} {k : KP} (hdg : decode cc pc = .ok (.getfield ix, 3))
    (hk : ∀ ls' st' h', k ls' st' h' → WW p l e R s m args below meth c cells slots Q cl D tc ad N nL (pc + 3) ls' st' h')
    (hx : x_step P CT d nL ty (WW p l e R s m args below meth c cells slots Q cl D tc ad N nL) RT pc ls st h k (.getfield ix)) : WW p l e R s m args below meth c cells slots Q cl D tc ad N nL pc ls st h := by
  obtain ⟨hxe, hb, hml, hown, hts, hK, hI, hR⟩ := C0
  simp only [x_step] at hx
  split at hx
  · next a r =>
    split at hx
    · next v hv =>
      intro H locs la h1 h2 h3 h4
      unfold x_fld at hv
      split at hv
      · next kk t cis hl =>
        have hmem := a_look_mem hl
        split at hv
        · next ci fs hc =>
          cases hm : a_mem ci cis with
          | false => rw [hm] at hv; cases hv
          | true =>
            rw [hm] at hv
            have hv : l_get fs kk = some v := hv
            rcases hFl _ hmem ci (a_mem_mem hm) with z | ⟨C, T, Nf, g1, g2, ⟨ref, g3, g4⟩, -⟩
            · subst z
              obtain ⟨r9, z9, -⟩ := h2 a _ (wm_get0 hc)
              have := (List.getElem?_eq_some_iff.mp z9).1
              omega
            · have hin := (hCl ci C T Nf g1).1
              rcases g3 with g3 | ⟨host, g3⟩
              · exact va_get hxe hb hts hin hown hK h2 a (wm_get0 hc) g1 kk g2 (hts _ g3) (hsame_of hts g4) (l_get_map hv ad) hdg (hk _ _ _ hx H locs la h1 h2 h3 h4)
              · exact va_getN hxe hb hts hin hown hK h2 a (wm_get0 hc) g1 kk g2 (va_Nw.use rfl (hR.2.2.2.2.2 _ g3)) (hsame_of hts g4) (l_get_map hv ad) hdg (hk _ _ _ hx H locs la h1 h2 h3 h4)
        · cases hv
        · next hc =>
          cases hm : a_mem 50 cis with
          | false => rw [hm] at hv; cases hv
          | true =>
            rw [hm] at hv
            have hv : a_look P.2.2.2.2.1 (16 * a + kk) = some v := hv
            obtain ⟨o, n, ds, g1, g2⟩ := hF.1 _ hmem a v (a_mem_mem hm) (a_look_mem hv)
            exact vk_getf hxe hb (hR.2.1 _ g1) h3 hown (hts _ g2) (fun _ z => z) hdg (hk _ _ _ hx H locs la h1 h2 h3 h4)
      · cases hv
    · exact hx.elim
  · exact hx.elim
theorem fs_set (fs : List Value) (ad : Nat → Nat) (k : Nat) (v : Value) : (fs.map (cv ad)).set k (cv ad v) = (fs.set k v).map (cv ad) := by rw [List.map_set]
theorem snd_putf (C0 : CX p s m args c cl D tc ad N nL cc own Ts X) (hcl : cl.length ≤ 50) (hCl : ClsOK Ts cl) (hFl : FldOK Ts X.2.2.2.2.2 cl own P) {pc ix : Nat} {ls : LV} {st : List Value} {h : List AE} {k : KP} (hdg : decode cc pc = .ok (.putfield ix, 3))
    (hk : ∀ ls' st' h', k ls' st' h' → WW p l e R s m args below meth c cells slots Q cl D tc ad N nL (pc + 3) ls' st' h')
    (hx : x_step P CT d nL ty (WW p l e R s m args below meth c cells slots Q cl D tc ad N nL) RT pc ls st h k (.putfield ix)) : WW p l e R s m args below meth c cells slots Q cl D tc ad N nL pc ls st h := by
  obtain ⟨hxe, hb, hml, hown, hts, hK, hI, hR⟩ := C0
  simp only [x_step] at hx
  split at hx
  · next v a r =>
    intro H locs la h1 h2 h3 h4
    unfold x_put at hx
    split at hx
    · next kk t cis hl =>
      have hmem := a_look_mem hl
      split at hx
      · next ci fs hc =>
        cases hm : a_mem ci cis && Nat.blt kk fs.length with
        | false => rw [hm] at hx; exact hx.elim
        | true =>
          rw [hm] at hx
          have hm1 : a_mem ci cis = true := (Bool.and_eq_true_iff.mp hm).1
          have hm2 : kk < fs.length := by have := (Bool.and_eq_true_iff.mp hm).2; simpa using this
          rcases hFl _ hmem ci (a_mem_mem hm1) with z | ⟨C, T, Nf, g1, g2, ⟨ref, g3, g4⟩, g5⟩
          · subst z
            obtain ⟨r9, z9, -⟩ := h2 a _ (wm_get0 hc)
            have := (List.getElem?_eq_some_iff.mp z9).1
            omega
          · obtain ⟨hin, ty0, q1, q2⟩ := hCl ci C T Nf g1
            have main : ∀ (u : FieldType) (v : Value), (T kk).2.2.2 = false → parseFieldDescriptor (T kk).2.2.1 = some u → narrow u (cv ad v) = cv ad v → fits u (cv ad v) = true → k ls r (h.set a (.inr (ci, fs.set kk v))) →
                W p l e R s m args below meth c H locs cells slots Q (F0 m pc la ((v :: .ref a :: r).map (cv ad))) := by
              intro u v w1 w2 w3 w4 w5
              have hlen : (h.set a (.inr (ci, fs.set kk v))).length = N := by rw [List.length_set]; exact h1
              rcases g3 with g3 | ⟨host, g3⟩
              · refine va_put hxe hb hts hin ty0 q1 q2 hown hK h2 (wm_D h1 hI) h3 a (wm_get0 hc) g1 kk g2 (hts _ g3) (hsame_of hts g4) w1 w2 w3 w4 (by rw [List.length_map]; exact hm2) hdg fun H1 locs1 hP1 hD1 hS1 => ?_
                rw [fs_set] at hP1
                have hP1 : va_P D cl ((wm tc ad 0 h).set a (ad a, ce tc ad (.inr (ci, fs.set kk v)))) H1 := hP1
                rw [wm_set0] at hP1
                exact hk _ _ _ w5 H1 locs1 la hlen hP1 hS1 h4
              · refine va_putN hxe hb hts hin ty0 q1 q2 hown hK h2 (wm_D h1 hI) h3 a (wm_get0 hc) g1 kk g2 (va_Nw.use rfl (hR.2.2.2.2.2 _ g3)) (hsame_of hts g4) w1 w2 w3 w4 (by rw [List.length_map]; exact hm2) hdg fun H1 locs1 hP1 hD1 hS1 => ?_
                rw [fs_set] at hP1
                have hP1 : va_P D cl ((wm tc ad 0 h).set a (ad a, ce tc ad (.inr (ci, fs.set kk v)))) H1 := hP1
                rw [wm_set0] at hP1
                exact hk _ _ _ w5 H1 locs1 la hlen hP1 hS1 h4
            have nf : t = 0 ∨ t = 1 ∨ t = 2 → (T kk).2.2.2 = false ∧ ∃ u, parseFieldDescriptor (T kk).2.2.1 = some u ∧ f_kind t u := by
              intro ht
              rcases g5 with g5 | g5
              · have g5 : t = 9 := g5
                omega
              · exact g5
            have rr : ∀ (v : Value), (∃ q, v = .ref q) ∨ v = .null → (bif Nat.beq t 2 then l_put fs kk v (fun fs' => l_put h a (.inr (ci, fs')) (fun h' => k ls r h')) else False) → W p l e R s m args below meth c H locs cells slots Q (F0 m pc la ((v :: .ref a :: r).map (cv ad))) := by
              intro v hv hy
              cases hb2 : Nat.beq t 2 with
              | false => rw [hb2] at hy; exact hy.elim
              | true =>
                rw [hb2] at hy
                have hy := l_put_eq _ _ _ _ (l_put_eq _ _ _ _ hy)
                have ht := Nat.eq_of_beq_eq_true hb2
                subst ht
                obtain ⟨n1, u, n2, n3⟩ := nf (Or.inr (Or.inr rfl))
                refine main u v n1 n2 ?_ ?_ hy
                · rcases n3 with ⟨n, rfl⟩ | ⟨w, rfl⟩ <;> rcases hv with ⟨q, rfl⟩ | rfl <;> rfl
                · rcases n3 with ⟨n, rfl⟩ | ⟨w, rfl⟩ <;> rcases hv with ⟨q, rfl⟩ | rfl <;> rfl
            simp only [cond_true] at hx
            cases v with
            | int x =>
              obtain ⟨x1, x2⟩ := hx
              have x2 := l_put_eq _ _ _ _ (l_put_eq _ _ _ _ x2)
              cases b0 : Nat.beq t 0 with
              | true =>
                have ht := Nat.eq_of_beq_eq_true b0
                subst ht
                obtain ⟨n1, u, n2, n3⟩ := nf (Or.inl rfl)
                have n3 : u = .int := n3
                subst n3
                exact main .int (.int x) n1 n2 rfl rfl x2
              | false =>
                cases b1 : Nat.beq t 1 with
                | false => rw [b0, b1] at x1; exact x1.elim
                | true =>
                  rw [b0, b1] at x1
                  have x1 : x = 0 ∨ x = 1 := x1
                  have ht := Nat.eq_of_beq_eq_true b1
                  subst ht
                  obtain ⟨n1, u, n2, n3⟩ := nf (Or.inr (Or.inl rfl))
                  have n3 : u = .boolean := n3
                  subst n3
                  exact main .boolean (.int x) n1 n2 (by rcases x1 with rfl | rfl <;> rfl) (by rcases x1 with rfl | rfl <;> rfl) x2
            | ref q => exact rr (.ref q) (Or.inl ⟨q, rfl⟩) hx
            | null => exact rr .null (Or.inr rfl) hx
            | _ => exact hx.elim
      · exact hx.elim
    · exact hx.elim
  · exact hx.elim
theorem x_own_eq {h : List AE} {i t n : Nat} {f : Nat → Int32} (hx : x_own h i t = some (n, f)) : l_get h i = some (.inl (t, n, .inl f)) := by
  unfold x_own at hx
  split at hx
  · next t' n' f' hc =>
    cases hb : Nat.beq t' t with
    | false => rw [hb] at hx; cases hx
    | true =>
      rw [hb] at hx
      cases hx
      rw [Nat.eq_of_beq_eq_true hb] at hc
      exact hc
  · cases hx
theorem x_ints_eq {h : List AE} {i t n : Nat} {f : Nat → Int32} (hx : x_ints P h i t = some (n, f)) : l_get h i = some (.inl (t, n, .inl f)) ∨ (i, t, n, f) ∈ P.2.2.2.2.2 := by
  unfold x_ints at hx
  split at hx
  · next t' n' f' hc =>
    cases hb : Nat.beq t' t with
    | false => rw [hb] at hx; cases hx
    | true =>
      rw [hb] at hx
      cases hx
      rw [Nat.eq_of_beq_eq_true hb] at hc
      exact Or.inl hc
  · cases hx
  · split at hx
    · next t' n' f' hc =>
      cases hb : Nat.beq t' t with
      | false => rw [hb] at hx; cases hx
      | true =>
        rw [hb] at hx
        cases hx
        rw [Nat.eq_of_beq_eq_true hb] at hc
        exact Or.inr (a_look_mem hc)
    · cases hx
theorem x_refs_eq {h : List AE} {i t n : Nat} {f : Nat → Option Nat} (hx : x_refs h i = some (t, n, f)) : l_get h i = some (.inl (t, n, .inr (.inr (.inr (.inr f))))) := by
  unfold x_refs at hx
  split at hx
  · next t' n' f' hc => cases hx; exact hc
  · cases hx
theorem x_len_eq {h : List AE} {i n : Nat} (hx : x_len P h i = some n) : (∃ t x, t < 5 ∧ l_get h i = some (.inl (t, n, x))) ∨ ∃ t f, (i, t, n, f) ∈ P.2.2.2.2.2 := by
  unfold x_len at hx
  split at hx
  · next t' n' x' hc =>
    cases hb : Nat.blt t' 5 with
    | false => rw [hb] at hx; cases hx
    | true => rw [hb] at hx; cases hx; exact Or.inl ⟨_, _, by simpa using hb, hc⟩
  · cases hx
  · split at hx
    · next t' n' f' hc => cases hx; exact Or.inr ⟨_, _, a_look_mem hc⟩
    · cases hx
theorem t_lt {t : Nat} {tc : Nat → ClassId} (h : t < 5) : ∃ u, (TY tc)[t]? = some (tc t, u) := by
  match t, h with
  | 0, _ => exact ⟨_, rfl⟩
  | 1, _ => exact ⟨_, rfl⟩
  | 2, _ => exact ⟨_, rfl⟩
  | 3, _ => exact ⟨_, rfl⟩
  | 4, _ => exact ⟨_, rfl⟩
theorem ce_fst (tc : Nat → ClassId) (ad : Nat → Nat) (t n : Nat) (x) : ∃ y, ce tc ad (.inl (t, n, x)) = .inl (tc t, n, y) := by
  match x with
  | .inl f => exact ⟨_, rfl⟩
  | .inr (.inl f) => exact ⟨_, rfl⟩
  | .inr (.inr (.inl f)) => exact ⟨_, rfl⟩
  | .inr (.inr (.inr (.inl f))) => exact ⟨_, rfl⟩
  | .inr (.inr (.inr (.inr f))) => exact ⟨_, rfl⟩
theorem snd_arr (C0 : CX p s m args c cl D tc ad N nL cc own Ts X) (hF : FarOK Ts X own P) {pc : Nat} {i : Instr} {ls : LV} {st : List Value} {h : List AE} {k : KP} (hdg : decode cc pc = .ok (i, 1))
    (hi : i = .arraylength ∨ i = .iaload ∨ i = .baload ∨ i = .iastore ∨ i = .bastore ∨ i = .aaload)
    (hk : ∀ ls' st' h', k ls' st' h' → WW p l e R s m args below meth c cells slots Q cl D tc ad N nL (pc + 1) ls' st' h')
    (hx : x_step P CT d nL ty (WW p l e R s m args below meth c cells slots Q cl D tc ad N nL) RT pc ls st h k i) : WW p l e R s m args below meth c cells slots Q cl D tc ad N nL pc ls st h := by
  obtain ⟨hxe, hb, hml, hown, hts, hK, hI, hR⟩ := C0
  rcases hi with rfl | rfl | rfl | rfl | rfl | rfl
  · simp only [x_step] at hx
    split at hx
    · next a r =>
      split at hx
      · next n hn =>
        intro H locs la h1 h2 h3 h4
        rcases x_len_eq hn with ⟨t, x, ht, hc⟩ | ⟨t, f, hc⟩
        · obtain ⟨y, hy⟩ := ce_fst tc ad t n x
          have hw := wm_get0 (tc := tc) (ad := ad) hc
          rw [hy] at hw
          obtain ⟨u, hu⟩ := t_lt (tc := tc) ht
          exact va_alen hxe hb hK h2 a t hw hu rfl hdg (hk _ _ _ hx H locs la h1 h2 h3 h4)
        · rcases hF.2.1 _ hc with ⟨-, g⟩ | ⟨-, g⟩
          · exact va_tlen hxe hb (hR.2.2.1 _ g) h3 rfl hdg (hk _ _ _ hx H locs la h1 h2 h3 h4)
          · exact va_tlen hxe hb (hR.2.2.1 _ g) h3 rfl hdg (hk _ _ _ hx H locs la h1 h2 h3 h4)
      · exact hx.elim
    · exact hx.elim
  · simp only [x_step] at hx
    split at hx
    · next i a r =>
      split at hx
      · next n f hn =>
        intro H locs la h1 h2 h3 h4
        rcases x_ints_eq hn with hc | hc
        · exact va_iald hxe hb hK h2 a 0 (wm_get0 hc) rfl hx.1 hdg (hk _ _ _ hx.2 H locs la h1 h2 h3 h4)
        · rcases hF.2.1 _ hc with ⟨-, g⟩ | ⟨z, -⟩
          · exact va_ti hxe hb (hR.2.2.1 _ g) h3 hx.1 rfl hdg (hk _ _ _ hx.2 H locs la h1 h2 h3 h4)
          · cases z
      · exact hx.elim
    · exact hx.elim
  · simp only [x_step] at hx
    split at hx
    · next i a r =>
      split at hx
      · next n f hn =>
        intro H locs la h1 h2 h3 h4
        rcases x_ints_eq hn with hc | hc
        · exact va_bald hxe hb hK h2 a 1 (wm_get0 hc) rfl hx.1 hdg (hk _ _ _ hx.2 H locs la h1 h2 h3 h4)
        · rcases hF.2.1 _ hc with ⟨z, -⟩ | ⟨-, g⟩
          · cases z
          · exact va_tb hxe hb (hR.2.2.1 _ g) h3 hx.1 rfl hdg (hk _ _ _ hx.2 H locs la h1 h2 h3 h4)
      · split at hx
        · next n f hn =>
          intro H locs la h1 h2 h3 h4
          exact va_zald hxe hb hK h2 a 2 (wm_get0 (x_own_eq hn)) rfl hx.1 hdg (hk _ _ _ hx.2 H locs la h1 h2 h3 h4)
        · exact hx.elim
    · exact hx.elim
  · simp only [x_step] at hx
    split at hx
    · next x i a r =>
      split at hx
      · next n f hn =>
        intro H locs la h1 h2 h3 h4
        refine va_iast hxe hb hK h2 (wm_D h1 hI) h3 a 0 (wm_get0 (x_own_eq hn)) rfl hx.1 hdg fun H1 locs1 hP1 hD1 hS1 => ?_
        have hP1 : va_P D cl ((wm tc ad 0 h).set a (ad a, ce tc ad (.inl (0, n, .inl (upd f i.toNatClampNeg x))))) H1 := hP1
        rw [wm_set0] at hP1
        exact hk _ _ _ (l_put_eq _ _ _ _ hx.2) H1 locs1 la (by rw [List.length_set]; exact h1) hP1 hS1 h4
      · exact hx.elim
    · exact hx.elim
  · simp only [x_step] at hx
    split at hx
    · next x i a r =>
      split at hx
      · next n f hn =>
        intro H locs la h1 h2 h3 h4
        refine va_bast hxe hb hK h2 (wm_D h1 hI) h3 a 1 (wm_get0 (x_own_eq hn)) rfl hx.1 hdg fun H1 locs1 hP1 hD1 hS1 => ?_
        have hP1 : va_P D cl ((wm tc ad 0 h).set a (ad a, ce tc ad (.inl (1, n, .inl (upd f i.toNatClampNeg (vp_nar .byte x)))))) H1 := hP1
        rw [wm_set0] at hP1
        exact hk _ _ _ (l_put_eq _ _ _ _ hx.2) H1 locs1 la (by rw [List.length_set]; exact h1) hP1 hS1 h4
      · split at hx
        · next n f hn =>
          intro H locs la h1 h2 h3 h4
          refine va_zast hxe hb hK h2 (wm_D h1 hI) h3 a 2 (wm_get0 (x_own_eq hn)) rfl hx.1 hdg fun H1 locs1 hP1 hD1 hS1 => ?_
          have hP1 : va_P D cl ((wm tc ad 0 h).set a (ad a, ce tc ad (.inl (2, n, .inl (upd f i.toNatClampNeg (vp_nar .boolean x)))))) H1 := hP1
          rw [wm_set0] at hP1
          exact hk _ _ _ (l_put_eq _ _ _ _ hx.2) H1 locs1 la (by rw [List.length_set]; exact h1) hP1 hS1 h4
        · exact hx.elim
    · exact hx.elim
  · simp only [x_step] at hx
    split at hx
    · next i a r =>
      split at hx
      · next t n f hn =>
        obtain ⟨g1, g2, q, g3, g4⟩ := hx
        intro H locs la h1 h2 h3 h4
        have hf : va_rf ((f i.toNatClampNeg).map ad) = cv ad (.ref q) := by rw [g3]; rfl
        rcases g1 with rfl | rfl
        · refine va_aldq hxe hb hK h2 a 3 (wm_get0 (x_refs_eq hn)) rfl g2 hdg ?_
          rw [hf]
          exact hk _ _ _ g4 H locs la h1 h2 h3 h4
        · refine va_aldq hxe hb hK h2 a 4 (wm_get0 (x_refs_eq hn)) rfl g2 hdg ?_
          rw [hf]
          exact hk _ _ _ g4 H locs la h1 h2 h3 h4
      · exact hx.elim
    · exact hx.elim
end SN2
end
section
/-! the abstract machine is right: calls -/
theorem w_back_get : ∀ (em : List Nat) (cs h : List AE), em.Nodup → em.length = cs.length → (∀ i ∈ em, i < h.length) → (w_back h em cs).length = h.length ∧ ∀ (k : Nat) (c : AE), (w_back h em cs)[k]? = some c → (∃ i : Nat, em[i]? = some k ∧ cs[i]? = some c) ∨ (k ∉ em ∧ h[k]? = some c)
  | [], cs, h, _, _, _ => by
    refine ⟨by cases cs <;> rfl, fun k c hc => Or.inr ⟨List.not_mem_nil, ?_⟩⟩
    cases cs <;> exact hc
  | i :: em, [], h, _, hl, _ => by simp at hl
  | i :: em, c0 :: cs, h, hn, hl, hb => by
    obtain ⟨hn1, hn2⟩ := List.nodup_cons.mp hn
    have hb0 := hb i List.mem_cons_self
    obtain ⟨e1, e2⟩ := w_back_get em cs (h.set i c0) hn2 (by simpa using hl) (fun j hj => by rw [List.length_set]; exact hb j (List.mem_cons_of_mem _ hj))
    refine ⟨by rw [w_back, e1, List.length_set], fun k c hc => ?_⟩
    rw [w_back] at hc
    rcases e2 k c hc with ⟨j, h1, h2⟩ | ⟨h1, h2⟩
    · exact Or.inl ⟨j + 1, by simpa using h1, by simpa using h2⟩
    · by_cases hk : k = i
      · subst hk
        rw [List.getElem?_set_self hb0] at h2
        exact Or.inl ⟨0, rfl, by simpa using h2⟩
      · rw [List.getElem?_set_ne (Ne.symm hk)] at h2
        exact Or.inr ⟨fun z => (List.mem_cons.mp z).elim hk h1, h2⟩
theorem cv_r (ad : Nat → Nat) (em : List Nat) (v : Value) : cv ad (r_v em v) = cv (fun i => ad (r_n em i)) v := by cases v <;> rfl
theorem ce_r (tc : Nat → ClassId) (ad : Nat → Nat) (em : List Nat) (c : AE) : ce tc ad (r_e em c) = ce tc (fun i => ad (r_n em i)) c := by
  rcases c with ⟨t, n, x⟩ | ⟨ci, fs⟩
  · match x with
    | .inl f => rfl
    | .inr (.inl f) => rfl
    | .inr (.inr (.inl f)) => rfl
    | .inr (.inr (.inr (.inl f))) => rfl
    | .inr (.inr (.inr (.inr f))) =>
      refine congrArg (fun g : Nat → Option Nat => (Sum.inl (tc t, n, Sum.inr (Sum.inr (Sum.inr (Sum.inr g)))) : va_E)) (funext fun j => ?_)
      show ((f j).map (r_n em)).map ad = (f j).map (fun i => ad (r_n em i))
      cases f j <;> rfl
  · show Sum.inr (ci, (fs.map (r_v em)).map (cv ad)) = Sum.inr (ci, fs.map (cv (fun i => ad (r_n em i))))
    rw [List.map_map]
    congr 2
    apply List.map_congr_left
    intro v _
    exact cv_r ad em v
section SN3
variable {p : Program} {l : Launch} {e : Env} {R : Room} {s : State} {m : MethodId} {args : Array Value} {below : List Frame} {meth : Method} {c : Code} {cells slots : Nat} {Q : State → Prop}
variable {cl : List vw_C} {D : va_G} {tc : Nat → ClassId} {ad : Nat → Nat} {N nL : Nat} {cc : ByteArray} {own : String} {Ts TB : List Cond} {X : RoT} {P : Pool} {d : Nat} {ty : Option FieldType} {RT : RP}
def W_in (cl : List vw_C) (X : RoT) (D : va_G) (tc : Nat → ClassId) (ad : Nat → Nat) (h : List AE) (U : State) : Prop :=
  va_P D cl (wm tc ad 0 h) U.heap ∧ va_K D cl (TY tc) U ∧ INJ ad h.length ∧ RO X ad (AA ad h.length) U U.heap
def Q_ct (cl : List vw_C) (D : va_G) (tc : Nat → ClassId) (ad : Nat → Nat) (h : List AE) (PP : RP) : Array Value → State → Outcome → State → Prop := fun _ st o t =>
  (∃ r h', o = .returned (r.map (cv ad)) ∧ PP r h' ∧ h'.length = h.length ∧ va_P D cl (wm tc ad 0 h') t.heap) ∧ va_F (AA ad h.length) st t
abbrev MT : Type := Nat → MethodName × ByteArray × Nat × Option FieldType
def cdOf (mt : MT) (j : Nat) : Cond := Cond.code (mt j).1 (mt j).2.1 (mt j).2.2.1 (mt j).2.2.2
def rmOf (d : Nat) : Room := { frames := d, cells := 0, slots := 0, locals := 60 * d }
/-- the contract of method j at rank d -/
def CTof (l : Launch) (TB : List Cond) (mt : MT) (cl : List vw_C) (X : RoT) : CTP := fun d j as h PP =>
  ∀ (D : va_G) (tc : Nat → ClassId) (ad : Nat → Nat), Met l (mt j).1 (cdOf mt j :: TB) (rmOf d) (va_Pc (as.map (cv ad)) (W_in cl X D tc ad h)) (Q_ct cl D tc ad h PP) 0 0 (AA ad h.length)
theorem W_in.blind (hX : RoOK X) {as : List Value} {h : List AE} : FrameBlind (va_Pc as (W_in cl X D tc ad h)) := fun a U g mk q => by
  obtain ⟨q0, q1, q2, q3, q4⟩ := q
  refine ⟨q0, q1, va_K.moved (u := U) (U := U.calling g mk a) (Vm.Alike.refl U.vm) q2, q3, ?_⟩
  obtain ⟨h1, h2, h3, h4, h5, h6⟩ := q4
  have hA : U.vm.Alike (U.calling g mk a).vm := Vm.Alike.refl U.vm
  refine ⟨fun q m => va_O.moved hA (h1 q m), fun q m => va_OF.moved hA (h2 q m), fun q m => va_T.moved hA (h3 q m), fun q m => va_Z.moved hA (h4 q m), fun q m => vk_R.same rfl (h5 q m), fun w m => ?_⟩
  have hn := hX.2.2.2.2.2 w m
  have hw := h6 w m
  cases w with
  | fieldLinkNest a b c d e f => exact va_Nw.same rfl rfl hw
  | methodLinkNest a b c d => exact va_Nw.same rfl rfl hw
  | _ => exact hn.elim
theorem call_go {a : Array Value} {pc : Nat} {la : Array Slot} {st0 rest : List Value} {H : Heap} {locs : List Loc} {ad' : Nat → Nat} {h0 : List AE} {PP : RP}
    (hr : va_Run p l e R s m args below meth c H locs cells slots 0 0 (F0 m pc la st0) rest (Q_ct cl D tc ad' h0 PP a) (AA ad' h0.length)) (hS : va_S (AA ad N) s.heap H locs) (hsub : ∀ q, AA ad' h0.length q → AA ad N q)
    (kk : ∀ r h1 H1 locs1, PP r h1 → h1.length = h0.length → va_P D cl (wm tc ad' 0 h1) H1 → H.size ≤ H1.size → (∀ q : Nat, q < H.size → ¬ AA ad' h0.length q → H1[q]? = H[q]?) → va_S (AA ad N) s.heap H1 locs1 → W p l e R s m args below meth c H1 locs1 cells slots Q (F0 m (pc + 3) la ((r.map (cv ad')).toList ++ rest))) :
    W p l e R s m args below meth c H locs cells slots Q (F0 m pc la st0) := by
  intro T hT X9
  obtain ⟨v, st₀, t, T', L, h0', X', hL, e1, e2, ⟨⟨r, h1, hv, hp, hl, hw⟩, hz, hk⟩, st⟩ := hr T hT X9
  cases hv
  rw [h0'] at hz hk
  obtain ⟨t2, a1, b1⟩ := kk r h1 T'.heap (locs ++ L) hp hl (by rw [e1]; exact hw) (by rw [e1]; exact hz) (fun q g1 g2 => by rw [e1]; exact hk q g1 g2)
    ⟨Nat.le_trans hS.1 (by rw [e1]; exact hz), fun q g1 g2 => by rw [e1, hk q (Nat.lt_of_lt_of_le g1 hS.1) (fun z => g2 (hsub q z))]; exact hS.2.1 q g1 g2, fun q hq => by
      rcases List.mem_append.mp hq with g | g
      · exact hS.2.2 q g
      · exact hsub _ (hL q g)⟩ T' rfl X'
  exact ⟨t2, st t2 a1, b1⟩
/-- what a call site must show of its callee, whoever it is -/
def CSite (p : Program) (l : Launch) (e : Env) (R : Room) (s : State) (m : MethodId) (args : Array Value) (below : List Frame) (meth : Method) (c : Code) (cells slots : Nat) (TB : List Cond) (mt : MT) (d j pc : Nat) (H : Heap) (locs : List Loc) (la : Array Slot) (as rest : List Value) (st0 : List Value) : Prop :=
  ∀ (d1 : Nat), d1 < d → ∀ (Pc : Array Value → State → Prop) (Qc : Array Value → State → Outcome → State → Prop) (free : Addr → Prop), Met l (mt j).1 (cdOf mt j :: TB) (rmOf d1) Pc Qc 0 0 free → FrameBlind Pc →
    (∀ U : State, U.heap = H → s.WarmedH U.vm → Pc as.toArray U) → va_Run p l e R s m args below meth c H locs cells slots 0 0 (F0 m pc la st0) rest (Qc as.toArray) free
theorem call_any {mt : MT} (hX : RoOK X) (hK : va_K D cl (TY tc) s) (hI : INJ ad N) (hR : RO X ad (AA ad N) s s.heap) {j pc : Nat} {H : Heap} {locs : List Loc} {la : Array Slot} {as rest st0 : List Value} {h : List AE} {k : Option Value → List AE → Prop}
    (site : CSite p l e R s m args below meth c cells slots TB mt d j pc H locs la (as.map (cv ad)) rest st0)
    (hx : CALL (CTof l TB mt cl X) d j as h k) (h1 : h.length = N) (h2 : va_P D cl (wm tc ad 0 h) H) (h3 : va_S (AA ad N) s.heap H locs)
    (kk : ∀ r h' H1 locs1, k r h' → h'.length = N → va_P D cl (wm tc ad 0 h') H1 → va_S (AA ad N) s.heap H1 locs1 → W p l e R s m args below meth c H1 locs1 cells slots Q (F0 m (pc + 3) la ((r.map (cv ad)).toList ++ rest))) :
    W p l e R s m args below meth c H locs cells slots Q (F0 m pc la st0) := by
  have hro : ∀ U : State, U.heap = H → s.WarmedH U.vm → RO X ad (AA ad N) U U.heap := fun U hU hW => hR.go hX hW (fun a g1 g2 => by rw [hU]; exact h3.2.1 a g1 g2)
  rcases hx with ⟨d1, PP, hd, hct, hgo⟩ | ⟨d1, em, as0, h0, PP, hd, hct, has, hsub, hnd, hle, hgo⟩
  · have hrun := site d1 hd _ _ _ (hct D tc ad) (W_in.blind hX) (fun U hU hW => ⟨rfl, by rw [hU]; exact h2, va_K.moved hW.alike hK, by rw [h1]; exact hI, by rw [h1]; exact hro U hU hW⟩)
    refine call_go hrun h3 (fun q z => by rw [h1] at z; exact z) fun r h' H1 locs1 g1 g2 g3 g4 g5 g6 => ?_
    exact kk r h' H1 locs1 (hgo r h' g1 g2) (by rw [g2, h1]) g3 g6
  · have hlen : em.length = h0.length := by have := congrArg List.length hsub; simpa using this
    have hat : ∀ (i : Nat) (c0 : AE), h0[i]? = some c0 → ∃ q, em[i]? = some q ∧ h[q]? = some (r_e em c0) := by
      intro i c0 hc
      have e9 := congrArg (fun z => z[i]?) hsub
      simp only [List.getElem?_map, hc, Option.map_some] at e9
      cases he : em[i]? with
      | none => rw [he] at e9; simp at e9
      | some q =>
        rw [he] at e9
        simp only [Option.map_some, Option.some.injEq, l_get_eq] at e9
        exact ⟨q, rfl, e9⟩
    have hrn : ∀ (i q : Nat), em[i]? = some q → r_n em i = q := by
      intro i q hq
      unfold r_n
      rw [l_get_eq, hq]
    have hltN : ∀ q, q ∈ em → q < N := by
      intro q hq
      obtain ⟨i, hi⟩ := List.getElem?_of_mem hq
      have hil : i < h0.length := by rw [← hlen]; exact (List.getElem?_eq_some_iff.mp hi).1
      obtain ⟨q', g1, g2⟩ := hat i _ (List.getElem?_eq_getElem hil)
      rw [hi] at g1
      cases g1
      rw [← h1]
      exact (List.getElem?_eq_some_iff.mp g2).1
    have hAA : ∀ q, AA (fun i => ad (r_n em i)) h0.length q → AA ad N q := by
      rintro q ⟨i, hi, rfl⟩
      have hi' : i < em.length := by rw [hlen]; exact hi
      have hq := List.getElem?_eq_getElem hi'
      exact ⟨em[i], hltN _ (List.mem_of_getElem? hq), by show ad (r_n em i) = ad em[i]; rw [hrn i _ hq]⟩
    have hI' : INJ (fun i => ad (r_n em i)) h0.length := by
      intro i j hi hj hij
      have hi' : i < em.length := by rw [hlen]; exact hi
      have hj' : j < em.length := by rw [hlen]; exact hj
      have e1 := List.getElem?_eq_getElem hi'
      have e2 := List.getElem?_eq_getElem hj'
      simp only [hrn i _ e1, hrn j _ e2] at hij
      have := hI _ _ (hltN _ (List.mem_of_getElem? e1)) (hltN _ (List.mem_of_getElem? e2)) hij
      exact (List.getElem?_inj hi' hnd).mp (by rw [e1, e2, this])
    have hfar : ∀ i, 1000 ≤ i → ad (r_n em i) = ad i := by
      intro i hi
      have : l_get em i = none := by rw [l_get_eq, List.getElem?_eq_none_iff]; omega
      unfold r_n
      rw [this]
    have hP0 : va_P D cl (wm tc (fun i => ad (r_n em i)) 0 h0) H := by
      intro i q hq
      rw [wm_get, Nat.zero_add] at hq
      cases hc : h0[i]? with
      | none => rw [hc] at hq; simp at hq
      | some c0 =>
        rw [hc] at hq
        simp only [Option.map_some, Option.some.injEq] at hq
        obtain ⟨q1, g1, g2⟩ := hat i c0 hc
        have g3 := h2 q1 _ (wm_get0 (by rw [l_get_eq]; exact g2))
        rw [ce_r] at g3
        rw [← hq, hrn i q1 g1]
        exact g3
    have has' : as0.map (cv (fun i => ad (r_n em i))) = as.map (cv ad) := by
      rw [← has, List.map_map]
      apply List.map_congr_left
      intro v _
      exact (cv_r ad em v).symm
    have hrun := site d1 hd _ _ _ (hct D tc (fun i => ad (r_n em i))) (W_in.blind hX) (fun U hU hW => ⟨by rw [has'], by rw [hU]; exact hP0, va_K.moved hW.alike hK, hI', ((hro U hU hW).ren hX hfar).narrow hAA⟩)
    refine call_go hrun h3 hAA fun r h' H1 locs1 g1 g2 g3 g4 g5 g6 => ?_
    obtain ⟨b1, b2⟩ := w_back_get em (h'.map (r_e em)) h hnd (by rw [List.length_map, g2, hlen]) (fun i hi => by rw [h1]; exact hltN i hi)
    have hval : (r.map (cv (fun i => ad (r_n em i)))).toList = ((r_o em r).map (cv ad)).toList := by
      cases r with
      | none => rfl
      | some v => show [cv _ v] = [cv ad (r_v em v)]; rw [cv_r]
    rw [hval]
    refine kk (r_o em r) _ H1 locs1 (hgo r h' g1 g2) (by rw [b1, h1]) ?_ g6
    intro i q hq
    rw [wm_get, Nat.zero_add] at hq
    cases hc : (w_back h em (h'.map (r_e em)))[i]? with
    | none => rw [hc] at hq; simp at hq
    | some c0 =>
      rw [hc] at hq
      simp only [Option.map_some, Option.some.injEq] at hq
      rw [← hq]
      rcases b2 i c0 hc with ⟨k0, z1, z2⟩ | ⟨z1, z2⟩
      · rw [List.getElem?_map] at z2
        cases hc' : h'[k0]? with
        | none => rw [hc'] at z2; simp at z2
        | some c1 =>
          rw [hc'] at z2
          simp only [Option.map_some, Option.some.injEq] at z2
          have z3 := g3 k0 _ (wm_get0 (by rw [l_get_eq]; exact hc'))
          simp only [hrn k0 i z1] at z3
          rw [← z2, ce_r]
          exact z3
      · have z3 := h2 i _ (wm_get0 (by rw [l_get_eq]; exact z2))
        refine z3.kept (g5 _ z3.lt ?_)
        rintro ⟨i9, hi9, he9⟩
        have hi9' : i9 < em.length := by rw [hlen]; exact hi9
        have e1 := List.getElem?_eq_getElem hi9'
        simp only [hrn i9 _ e1] at he9
        have hiN : i < N := by rw [← h1]; exact (List.getElem?_eq_some_iff.mp z2).1
        have := hI _ _ hiN (hltN _ (List.mem_of_getElem? e1)) he9
        rw [this] at z1
        exact z1 (List.mem_of_getElem? e1)
end SN3
end
section
/-! the abstract machine is right: call sites, returns, all instructions, bodies and contracts -/
def notMH (n : String) : Prop := n ≠ "java/lang/invoke/MethodHandle" ∧ n ≠ "java/lang/invoke/VarHandle"
def arOK (n : Nat) (y : MethodName) : Prop := (parseMethodDescriptor y.desc).map (fun d => d.parameters.length) = some n
/-- a method that can be called: its code is among the words, its locals are few -/
def MOK (TB : List Cond) (mt : MT) (j : Nat) : Prop := cdOf mt j ∈ TB ∧ (mt j).2.2.1 ≤ 41
def ClN (cl : List vw_C) (ci : Nat) (C : String) : Prop := (ci = 50 ∧ C = "java/lang/String") ∨ ∃ T N, cl[ci]? = some (C, T, N)
def VOK (TB : List Cond) (mt : MT) (own : String) (idx na : Nat) (C : String) (j : Nat) : Prop :=
  ((mt j).1.cls = C ∧ notMH C ∧ arOK na (mt j).1 ∧ ∀ w ∈ wsV own idx C (mt j).1 [], w ∈ TB) ∨
  (∃ x owner, (mt j).1 = ⟨owner, x.name, x.desc⟩ ∧ notMH owner ∧ arOK na x ∧ ∀ w ∈ va_wsU own idx C owner x (mt j).1 [], w ∈ TB) ∨
  (∃ x owner, notMH owner ∧ arOK na x ∧ (∀ w ∈ va_wsO own idx C owner x (mt j).1 [], w ∈ TB) ∧ ∃ b0 m0 r0, Cond.code ⟨owner, x.name, x.desc⟩ b0 m0 r0 ∈ TB)
def SOK (TB : List Cond) (mt : MT) (own : String) (idx na : Nat) (j : Nat) : Prop := notMH (mt j).1.cls ∧ arOK na (mt j).1 ∧ Cond.methodLink own idx (mt j).1 ∈ TB ∧ Cond.static (mt j).1 ∈ TB ∧ Cond.initialized (mt j).1.cls ∈ TB
def UOK (TB : List Cond) (mt : MT) (own : String) (idx na : Nat) (j : Nat) : Prop :=
  ((mt j).1.name ≠ "<init>" ∧ arOK na (mt j).1 ∧ ∀ w ∈ va_wsSU own idx (mt j).1 [], w ∈ TB) ∨
  (∃ x owner, (mt j).1 = ⟨owner, x.name, x.desc⟩ ∧ x.name ≠ "<init>" ∧ arOK na x ∧ Cond.methodLink own idx x ∈ TB ∧ Cond.sameMethod x.cls owner x.name x.desc ∈ TB ∧ Cond.superclass own x.cls ∈ TB ∧ Cond.superclass x.cls owner ∈ TB ∧ Cond.instanceMethod (mt j).1 ∈ TB ∧ Cond.initialized owner ∈ TB)
def CpOK (TB : List Cond) (mt : MT) (cl : List vw_C) (own : String) (P : Pool) : Prop := ∀ q ∈ P.2.1,
  (q.2.1 = 0 ∧ ∀ t ∈ q.2.2.2, MOK TB mt t.2 ∧ ∃ C, ClN cl t.1 C ∧ VOK TB mt own q.1 q.2.2.1 C t.2) ∨
  (q.2.1 = 1 ∧ ∀ t ∈ q.2.2.2, MOK TB mt t.2 ∧ SOK TB mt own q.1 q.2.2.1 t.2) ∨
  (q.2.1 = 2 ∧ ∀ t ∈ q.2.2.2, MOK TB mt t.2 ∧ (∃ C T N, cl[t.1]? = some (C, T, N)) ∧ UOK TB mt own q.1 q.2.2.1 t.2) ∨
  (q.2.1 = 5 ∧ Cond.methodLink own q.1 arraycopyName ∈ TB ∧ Cond.native arraycopyName ∈ TB ∧ Cond.static arraycopyName ∈ TB ∧ Cond.initialized "java/lang/System" ∈ TB)
def TbOK (TB : List Cond) : Prop := ∀ w ∈ TB, (w.onTables && w.keeps) = true ∨ ∃ ty, w = .arrayClass ty
section SN4
variable {p : Program} {l : Launch} {e : Env} {R : Room} {s : State} {m : MethodId} {args : Array Value} {below : List Frame} {meth : Method} {c : Code} {cells slots : Nat} {Q : State → Prop}
variable {cl : List vw_C} {D : va_G} {tc : Nat → ClassId} {ad : Nat → Nat} {N nL : Nat} {cc : ByteArray} {own : String} {Ts TB : List Cond} {X : RoT} {P : Pool} {d : Nat} {ty : Option FieldType} {RT : RP} {mt : MT}
theorem good_of {ws : List Cond} (hTB : TbOK TB) (hs : ∀ w ∈ TB, w ∈ Ts) (h : ∀ w ∈ ws, w ∈ TB) : GoodIn Ts ws := fun w hw => ⟨hs w (h w hw), hTB w (h w hw)⟩
theorem good_cd {j : Nat} {ws : List Cond} (hTB : TbOK TB) (hs : ∀ w ∈ TB, w ∈ Ts) (hm : MOK TB mt j) (h : ∀ w ∈ ws, w ∈ TB) : GoodIn Ts (ws ++ (cdOf mt j :: TB)) := good_of hTB hs fun w hw => by
  rcases List.mem_append.mp hw with hw | hw
  · exact h w hw
  · rcases List.mem_cons.mp hw with rfl | hw
    · exact hm.1
    · exact hw
theorem room_ok {j d1 : Nat} (hm : MOK TB mt j) (hd : d1 < d) (hRf : d ≤ R.frames) (hRl : 60 * d ≤ R.locals) : (rmOf d1).frames + 1 ≤ R.frames ∧ 8 + ((mt j).2.2.1 + 11) + (rmOf d1).locals ≤ R.locals := by
  have h2 := hm.2
  have e1 : (rmOf d1).frames = d1 := rfl
  have e2 : (rmOf d1).locals = 60 * d1 := rfl
  rw [e1, e2]
  omega
/-- the receiver: its cell, its name -/
theorem recv_ok (hK : va_K D cl (TY tc) s) (hR : RO X ad (AA ad N) s s.heap) (hstr : ∀ i, 1000 ≤ i → i < 1006 → (i, "java/lang/String") ∈ X.1) {h : List AE} {b ci : Nat} {C : String} {H : Heap} {locs : List Loc} (hcl : cl.length ≤ 50) (hk : x_kind h b = some ci) (hC : ClN cl ci C) (h2 : va_P D cl (wm tc ad 0 h) H) (h3 : va_S (AA ad N) s.heap H locs) :
    ∃ cellB : Cell, H[ad b]? = some cellB ∧ cellB.vm.isStatics = false ∧ s.vm.findClass C = some cellB.cls := by
  unfold x_kind at hk
  split at hk
  · next ci' fs hc =>
    cases hk
    rcases hC with ⟨rfl, rfl⟩ | ⟨T, Nf, hC⟩
    · obtain ⟨r9, z9, -⟩ := h2 b _ (wm_get0 hc)
      have := (List.getElem?_eq_some_iff.mp z9).1
      omega
    · exact va_recv hK h2 hC (wm_get0 hc)
  · cases hk
  · next hc =>
    cases hb : (Nat.ble 1000 b && Nat.blt b 1006) with
    | false => rw [hb] at hk; cases hk
    | true =>
      rw [hb] at hk
      cases hk
      rcases hC with ⟨-, rfl⟩ | ⟨T, Nf, hC⟩
      · have g1 := Nat.le_of_ble_eq_true (Bool.and_eq_true_iff.mp hb).1
        have g2 : b < 1006 := by have := (Bool.and_eq_true_iff.mp hb).2; simpa using this
        obtain ⟨cell, q1, q2, q3, -⟩ := (hR.1 _ (hstr b g1 g2)).kept h3.2.1
        exact ⟨cell, q1, q2, q3⟩
      · have := (List.getElem?_eq_some_iff.mp hC).1
        omega
theorem siteV (hx : p.tables.exec = Jvm.exec) (hb : c.code = cc) (hml : c.maxLocals = nL) (hown : s.vm.findClass own = some m.cls) (hts : ∀ w ∈ Ts, w.before args s = true) (hTB : TbOK TB) (hs : ∀ w ∈ TB, w ∈ Ts) (hRf : d ≤ R.frames) (hRl : 60 * d ≤ R.locals) (hcs : cells ≤ R.cells ∧ slots ≤ R.slots)
    {j pc idx na b : Nat} {C : String} {H : Heap} {locs : List Loc} {la : Array Slot} {as rest : List Value} (hm : MOK TB mt j) (hv : VOK TB mt own idx na C j) (hn : as.length = na) (hla : la.size = nL) (hcat : (rest.map fun v => v.category).sum ≤ 8) (hdg : decode cc pc = .ok (.invokevirtual idx, 3))
    (hrc : ∃ cellB : Cell, H[b]? = some cellB ∧ cellB.vm.isStatics = false ∧ s.vm.findClass C = some cellB.cls) :
    CSite p l e R s m args below meth c cells slots TB mt d j pc H locs la (.ref b :: as) rest (as.reverse ++ .ref b :: rest) := by
  intro d1 hd Pc Qc free hM hbl hpre
  have hfix : CallFix p m c cc nL s args Ts own := ⟨hx, hb, hml, hown, hts⟩
  have hroom := room_ok (R := R) hm hd hRf hRl
  rcases hv with ⟨h1, h2, h3, h4⟩ | ⟨x, owner, h1, h2, h3, h4⟩ | ⟨x, owner, h2, h3, h4, b0, m0, r0, h5⟩
  · refine va_runV (C := C) (index := idx) (n := na) (bytes := (mt j).2.1) (maxL := (mt j).2.2.1) (ret := (mt j).2.2.2) hfix hM (cwV na hts ?_ rfl rfl rfl ⟨h1, by rw [h1]; exact h2.1, by rw [h1]; exact h2.2, h3⟩ hroom) ⟨hbl, hrc, hpre⟩ rfl hn hla rfl (lv_room hcat) hdg hcs
    exact good_cd (ws := wsV own idx C (mt j).1 []) hTB hs hm h4
  · refine va_runU (C := C) (index := idx) (n := na) (bytes := (mt j).2.1) (maxL := (mt j).2.2.1) (ret := (mt j).2.2.2) hfix hM (va_cwU (owner := owner) (x := x) na hts ?_ rfl rfl rfl h1 ⟨h2.1, h2.2, h3⟩ hroom) ⟨hbl, hrc, hpre⟩ rfl hn hla rfl (lv_room hcat) hdg hcs
    exact good_cd (ws := va_wsU own idx C owner x (mt j).1 []) hTB hs hm h4
  · refine va_runU (C := C) (index := idx) (n := na) (bytes := (mt j).2.1) (maxL := (mt j).2.2.1) (ret := (mt j).2.2.2) hfix hM (va_cwO (owner := owner) (x := x) na hts ?_ rfl rfl rfl (hs _ h5) ⟨h2.1, h2.2, h3⟩ hroom) ⟨hbl, hrc, hpre⟩ rfl hn hla rfl (lv_room hcat) hdg hcs
    exact good_cd (ws := va_wsO own idx C owner x (mt j).1 []) hTB hs hm h4
theorem siteS (hx : p.tables.exec = Jvm.exec) (hb : c.code = cc) (hml : c.maxLocals = nL) (hown : s.vm.findClass own = some m.cls) (hts : ∀ w ∈ Ts, w.before args s = true) (hTB : TbOK TB) (hs : ∀ w ∈ TB, w ∈ Ts) (hRf : d ≤ R.frames) (hRl : 60 * d ≤ R.locals) (hcs : cells ≤ R.cells ∧ slots ≤ R.slots)
    {j pc idx na : Nat} {H : Heap} {locs : List Loc} {la : Array Slot} {as rest : List Value} (hm : MOK TB mt j) (hv : SOK TB mt own idx na j) (hn : as.length = na) (hla : la.size = nL) (hcat : (rest.map fun v => v.category).sum ≤ 8) (hdg : decode cc pc = .ok (.invokestatic idx, 3)) :
    CSite p l e R s m args below meth c cells slots TB mt d j pc H locs la as rest (as.reverse ++ rest) := by
  intro d1 hd Pc Qc free hM hbl hpre
  have hfix : CallFix p m c cc nL s args Ts own := ⟨hx, hb, hml, hown, hts⟩
  have hroom := room_ok (R := R) hm hd hRf hRl
  obtain ⟨h1, h2, h3, h4, h5⟩ := hv
  have hg : GoodIn Ts (cdOf mt j :: TB) := good_cd (ws := []) hTB hs hm (fun w h => by cases h)
  exact va_runS (index := idx) (n := na) (bytes := (mt j).2.1) (maxL := (mt j).2.2.1) (ret := (mt j).2.2.2) hfix hM ⟨callB_of na hts hg rfl rfl rfl (hts _ (hs _ h5)) (hts _ (hs _ h3)) ⟨h1.1, h1.2, h2⟩ hroom, hts _ (hs _ h4)⟩ ⟨hbl, hpre⟩ rfl hn hla rfl (lv_room hcat) hdg hcs
/-- super.m(..) where the class above inherits m from the one above it -/
theorem callSI {T : State} {locs : List Loc} (X9 : Stand p l e R s m args below meth c T locs cells slots) (hexec : p.tables.exec = Jvm.exec) {own owner : String} {index : Nat} {x y : MethodName} {bytes : ByteArray} {maxL : Nat} {ret : Option FieldType} (hy : y = ⟨owner, x.name, x.desc⟩)
    (hown : s.vm.findClass own = some m.cls) (hlink : (Cond.methodLink own index x).before args s = true) (hsame : (Cond.sameMethod x.cls owner x.name x.desc).before args s = true) (hsup : (Cond.superclass own x.cls).before args s = true) (hsup2 : (Cond.superclass x.cls owner).before args s = true)
    (hinst : (Cond.instanceMethod y).before args s = true) (hcode : (Cond.code y bytes maxL ret).before args s = true) (hno : x.name ≠ "<init>")
    {Wd : Nat} {Pre : Pt → Array Value → Prop} {Post : Pt → Array Value → Option Value → Pt → Prop} (hK : Back l R p e below s args y 3 Wd Pre Post)
    {b : Addr} {cellB : Cell} {kB : Class} (hcell : T.heap[b]? = some cellB) (hobj : cellB.vm.isStatics = false) (hkB : s.vm.classes[cellB.cls]? = some kB)
    {g : JFrame} (hg : g.method = m) (hsize : g.locals.size = c.maxLocals) {argsL rest : List Value} (hlen : ∀ sig, parseMethodDescriptor y.desc = some sig → argsL.length = sig.parameters.length)
    (hstack : g.stack = argsL.reverse ++ .ref b :: rest) (hW : 2 * g.monitorRoom + (rest.map fun v => v.category).sum ≤ Wd) (hdg : decode c.code g.pc = .ok (.invokespecial index, 3))
    (hpre : ∀ vm₁, s.WarmedH vm₁ → Pre ⟨T.setVm vm₁, locs, cells, slots⟩ (Value.ref b :: argsL).toArray) :
    ∃ (v : Option Value) (vm₁ : Vm) (B : Pt), s.WarmedH vm₁ ∧ Stand p l e R s m args below meth c B.U B.locs B.cells B.slots ∧ Post ⟨T.setVm vm₁, locs, cells, slots⟩ (Value.ref b :: argsL).toArray v B ∧
      ∀ target, Steps p.tables e below (B.U.setTop { g with pc := g.pc + 3, stack := v.toList ++ rest }) target → Steps p.tables e below (T.setTop g) target := by
  obtain ⟨mk, methM, hnamed, hmethM, hstM, habM⟩ := Cond.instanceMethod_spec hinst
  obtain ⟨methM', cM, hmethM', -, -, -, -, -, -, hsigM⟩ := Cond.code_spec hnamed hcode
  cases hmethM.symm.trans hmethM'
  obtain ⟨ps, dk, kp, hps, hdk, hkp, hsuper, -, -, hnid⟩ := Cond.superclass_spec hown hsup
  obtain ⟨po, dk2, ko, hpo, hdk2, hko, hsuper2, -, -, -⟩ := Cond.superclass_spec hps hsup2
  have hn : s.methodNamed? ⟨owner, x.name, x.desc⟩ = some mk := by rw [← hy]; exact hnamed
  have hpm : po = mk.cls := Option.some.inj (hpo.symm.trans (findClass_of_methodNamed hn))
  have hsz : 0 < s.vm.classes.size := Nat.lt_of_le_of_lt (Nat.zero_le _) (Array.getElem?_eq_some_iff.mp hdk2).1
  have hsub : s.vm.isSubclass ps mk.cls = true := by
    rw [← hpm]
    obtain ⟨n9, hn9⟩ : ∃ n9, s.vm.classes.size = n9 + 1 := ⟨s.vm.classes.size - 1, by omega⟩
    simp [Vm.isSubclass, Vm.isSubclassAux, hn9, hdk2, hsuper2]
  obtain ⟨vm₁, X₁, hstep₁⟩ := X9.invokespecialUp hexec hown hlink hsame hn hmethM hstM habM hno hdk hnid hps hsuper hsub (a := b) (cell := cellB) hcell
    (fun z h => by rw [h] at hobj; cases hobj) hkB (g := g) hg (argsL := argsL) (rest := rest) (hlen _ hsigM) hstack hdg
  obtain ⟨v, B, X', hpost, hsteps⟩ := hK m meth c ⟨T.setVm vm₁, locs, cells, slots⟩ { g with stack := rest } (.invokespecial index) mk (Value.ref b :: argsL).toArray X₁ hg hsize hdg hW (X₁.named hnamed) (hpre vm₁ X₁.warmed)
  exact ⟨v, vm₁, B, X₁.warmed, X', hpost, fun target h => hstep₁ _ (by rw [doInvoke_state]; exact hsteps.trans h)⟩
theorem runSI {y x : MethodName} {bytes : ByteArray} {maxL mc ms n index : Nat} {ret : Option FieldType} {ws : List Cond} {rm : Room} {Pc : Array Value → State → Prop} {Qc : Array Value → State → Outcome → State → Prop} {free : Addr → Prop} {own owner C : String} {cC : ClassId} {b : Addr} {As rest : List Value} {g : JFrame} {H : Heap} {locs : List Loc}
    (hat : ClassAt s C cC) (S : CallFix p m c cc nL s args Ts own) (hM : Met l y ws rm Pc Qc mc ms free) (hy : y = ⟨owner, x.name, x.desc⟩)
    (cw : rm.cells = mc ∧ rm.slots = ms ∧ rm.frames + 1 ≤ R.frames ∧ 8 + (maxL + 11) + rm.locals ≤ R.locals ∧ (∀ w ∈ ws, ∀ (a' : Array Value) (U : State), s.WarmedH U.vm → w.before a' U = true) ∧ Cond.code y bytes maxL ret ∈ ws)
    (hl1 : (Cond.methodLink own index x).before args s = true) (hl2 : (Cond.sameMethod x.cls owner x.name x.desc).before args s = true) (hl3 : (Cond.superclass own x.cls).before args s = true) (hl3' : (Cond.superclass x.cls owner).before args s = true) (hl4 : (Cond.instanceMethod y).before args s = true) (hini : (Cond.initialized y.cls).before args s = true) (hcode : (Cond.code y bytes maxL ret).before args s = true) (hno : x.name ≠ "<init>") (hlen : ∀ sig, parseMethodDescriptor y.desc = some sig → n = sig.parameters.length) (hp : PreV s H C b Pc As)
    (hg : g.method = m) (hn : As.length = n) (hsize : g.locals.size = nL) (hstack : g.stack = As.reverse ++ .ref b :: rest) (hW : 2 * g.monitorRoom + (rest.map fun v => v.category).sum ≤ 8) (hdg : decode cc g.pc = .ok (.invokespecial index, 3)) (hf : cells + mc ≤ R.cells ∧ slots + ms ≤ R.slots) :
    va_Run p l e R s m args below meth c H locs cells slots mc ms g rest (Qc (Value.ref b :: As).toArray) (free) := by
  obtain ⟨hrc, hrs, hfr, hlo, hws, hcw⟩ := cw
  have hK : Back l R p e below s args y 3 8 (PreOf R mc ms Pc) (PostOf Qc mc ms free) := back_of (bytes := bytes) (maxL := maxL) (ret := ret) hM hp.1 hrc hrs hfr hlo hws hcw (fun a' U hW => word_at hW (Or.inl (by first | rfl | simp [Cond.onTables, Cond.keeps, Cond.steady])) hini)
  obtain ⟨hx, hb, hml, ho, -⟩ := S
  obtain ⟨-, ⟨cellB, hcB, hoB, hclB⟩, hPc⟩ := hp
  obtain ⟨hfc, kB, hkB, -⟩ := hat
  cases hfc.symm.trans hclB
  intro T hT X9
  obtain ⟨v, vm₁, ⟨U', l2, c2, s2⟩, hW₁, X', ⟨g', mk, t, L, e1, e2, hq, h1, hL, h2, h3⟩, st⟩ := callSI X9 hx (bytes := bytes) (maxL := maxL) (ret := ret) hy ho hl1 hl2 hl3 hl3' hl4 hcode hno hK (by rw [hT]; exact hcB) hoB hkB hg (hsize.trans hml.symm) (argsL := As) (rest := rest) (fun sig h => hn.trans (hlen sig h)) hstack hW (by rw [hb]; exact hdg)
    (fun vm₁ hW₁ => ⟨hf.1, hf.2, hPc (T.setVm vm₁) hT hW₁⟩)
  dsimp only [Pt.U, Pt.locs, Pt.cells, Pt.slots] at X' e1 e2 h1 h2 h3 st
  subst h1; subst h2; subst h3
  exact ⟨v, (T.setVm vm₁).calling g' mk (Value.ref b :: As).toArray, t, U', L, hT, X', hL, e1, e2, hq, st⟩
theorem siteU (hx : p.tables.exec = Jvm.exec) (hb : c.code = cc) (hml : c.maxLocals = nL) (hown : s.vm.findClass own = some m.cls) (hts : ∀ w ∈ Ts, w.before args s = true) (hTB : TbOK TB) (hs : ∀ w ∈ TB, w ∈ Ts) (hRf : d ≤ R.frames) (hRl : 60 * d ≤ R.locals) (hcs : cells ≤ R.cells ∧ slots ≤ R.slots)
    {j pc idx na b : Nat} {C : String} {cC : ClassId} {H : Heap} {locs : List Loc} {la : Array Slot} {as rest : List Value} (hat : ClassAt s C cC) (hm : MOK TB mt j) (hv : UOK TB mt own idx na j) (hn : as.length = na) (hla : la.size = nL) (hcat : (rest.map fun v => v.category).sum ≤ 8) (hdg : decode cc pc = .ok (.invokespecial idx, 3))
    (hrc : ∃ cellB : Cell, H[b]? = some cellB ∧ cellB.vm.isStatics = false ∧ s.vm.findClass C = some cellB.cls) :
    CSite p l e R s m args below meth c cells slots TB mt d j pc H locs la (.ref b :: as) rest (as.reverse ++ .ref b :: rest) := by
  intro d1 hd Pc Qc free hM hbl hpre
  have hfix : CallFix p m c cc nL s args Ts own := ⟨hx, hb, hml, hown, hts⟩
  have hroom := room_ok (R := R) hm hd hRf hRl
  rcases hv with ⟨h1, h2, h3⟩ | ⟨x, owner, h1, h2, h3, h4, h5, h6, h7, h8, h9⟩
  rotate_left
  · have hg : GoodIn Ts (cdOf mt j :: TB) := good_cd (ws := []) hTB hs hm (fun w h => by cases h)
    have hlen : ∀ sig, parseMethodDescriptor (mt j).1.desc = some sig → na = sig.parameters.length := fun sig h => by
      have h3 : (parseMethodDescriptor x.desc).map (fun d => d.parameters.length) = some na := h3
      rw [h1] at h
      have h : parseMethodDescriptor x.desc = some sig := h
      rw [h] at h3
      exact (Option.some.inj h3).symm
    refine runSI (C := C) (n := na) (bytes := (mt j).2.1) (maxL := (mt j).2.2.1) (ret := (mt j).2.2.2) (owner := owner) (x := x) hat hfix hM h1 ⟨rfl, rfl, hroom.1, hroom.2, pay_in hts hg, List.mem_cons_self⟩ (hts _ (hs _ h4)) (hts _ (hs _ h5)) (hts _ (hs _ h6)) (hts _ (hs _ h7)) (hts _ (hs _ h8)) ?_ (hts _ (hs _ hm.1)) h2 hlen ⟨hbl, hrc, hpre⟩ rfl hn hla rfl (lv_room hcat) hdg hcs
    rw [h1]
    exact hts _ (hs _ h9)
  exact va_runSU (C := C) (index := idx) (n := na) (bytes := (mt j).2.1) (maxL := (mt j).2.2.1) (ret := (mt j).2.2.2) hat hfix hM (va_cwSU na hts (good_cd (ws := va_wsSU own idx (mt j).1 []) hTB hs hm h3) rfl rfl rfl ⟨h1, h2⟩ hroom) ⟨hbl, hrc, hpre⟩ rfl hn hla rfl (lv_room hcat) hdg hcs
end SN4
end
section
/-! the abstract machine is right: every instruction; bodies give contracts -/
section SN5
variable {p : Program} {l : Launch} {e : Env} {R : Room} {s : State} {m : MethodId} {args : Array Value} {below : List Frame} {meth : Method} {c : Code} {cells slots : Nat} {Q : State → Prop}
variable {cl : List vw_C} {D : va_G} {tc : Nat → ClassId} {ad : Nat → Nat} {N nL : Nat} {cc : ByteArray} {own : String} {Ts TB : List Cond} {X : RoT} {P : Pool} {d : Nat} {ty : Option FieldType} {RT : RP} {mt : MT}
theorem cat_cv (ad : Nat → Nat) : ∀ l : List Value, ((l.map (cv ad)).map fun v => v.category).sum = x_cat l
  | [] => rfl
  | v :: t => by
    rw [List.map_cons, List.map_cons, List.sum_cons, cat_cv ad t, x_cat, cv_cat]
    cases v <;> rfl
theorem push_cv (ad : Nat → Nat) (r : Option Value) (rest : List Value) : (x_push r rest).map (cv ad) = (r.map (cv ad)).toList ++ rest.map (cv ad) := by cases r <;> rfl
theorem snd_inv (C0 : CX p s m args c cl D tc ad N nL cc own Ts X) (hcl : cl.length ≤ 50) (hX : RoOK X) (hstr : ∀ i, 1000 ≤ i → i < 1006 → (i, "java/lang/String") ∈ X.1) (hTB : TbOK TB) (hs : ∀ w ∈ TB, w ∈ Ts) (hRf : d ≤ R.frames) (hRl : 60 * d ≤ R.locals) (hcs : cells ≤ R.cells ∧ slots ≤ R.slots) (hCp : CpOK TB mt cl own P)
    {pc ix kd : Nat} {i : Instr} {ls : LV} {st : List Value} {h : List AE} {k : KP} (hi : (kd = 0 ∧ i = .invokevirtual ix) ∨ (kd = 1 ∧ i = .invokestatic ix) ∨ (kd = 2 ∧ i = .invokespecial ix)) (hdg : decode cc pc = .ok (i, 3))
    (hk : ∀ ls' st' h', k ls' st' h' → WW p l e R s m args below meth c cells slots Q cl D tc ad N nL (pc + 3) ls' st' h')
    (hx : x_inv P (CTof l TB mt cl X) d kd ix ls st h k) : WW p l e R s m args below meth c cells slots Q cl D tc ad N nL pc ls st h := by
  obtain ⟨hxe, hb, hml, hown, hts, hK, hI, hR⟩ := C0
  intro H locs la h1 h2 h3 h4
  unfold x_inv at hx
  split at hx
  · next kd' na tg hl =>
    have hmem := a_look_mem hl
    cases hkd : Nat.beq kd' kd with
    | false => rw [hkd] at hx; exact hx.elim
    | true =>
      rw [hkd] at hx
      simp only [cond_true] at hx
      have hkk := Nat.eq_of_beq_eq_true hkd
      subst hkk
      split at hx
      · next as rest hp =>
        obtain ⟨a1, e1, e2, e3⟩ := x_pop_eq _ _ _ _ _ hp
        rw [List.append_nil] at e1
        subst e1
        subst e2
        cases hk1 : Nat.beq kd' 1 with
        | true =>
          rw [hk1] at hx
          simp only [cond_true] at hx
          have hkk := Nat.eq_of_beq_eq_true hk1
          subst hkk
          obtain ⟨z, -⟩ | ⟨-, rfl⟩ | ⟨z, -⟩ := hi
          · omega
          · split at hx
            · next j hj =>
              cases hcat : Nat.ble (x_cat rest) 8 with
              | false => rw [hcat] at hx; exact hx.elim
              | true =>
                rw [hcat] at hx
                simp only [cond_true] at hx
                rcases hCp _ hmem with ⟨z, -⟩ | ⟨-, hT⟩ | ⟨z, -⟩ | ⟨z, -⟩
                · have z : (1 : Nat) = 0 := z
                  omega
                · obtain ⟨hm, hv⟩ := hT _ (a_look_mem hj)
                  have site := siteS (p := p) (l := l) (e := e) (R := R) (below := below) (meth := meth) (pc := pc) (H := H) (locs := locs) (la := la) (as := as.map (cv ad)) (rest := rest.map (cv ad)) hxe hb hml hown hts hTB hs hRf hRl hcs hm hv (by rw [List.length_map]; exact e3) h4.1 (by rw [cat_cv]; exact Nat.le_of_ble_eq_true hcat) hdg
                  have e9 : (as.reverse ++ rest).map (cv ad) = (as.map (cv ad)).reverse ++ rest.map (cv ad) := by rw [List.map_append, List.map_reverse]
                  rw [e9]
                  exact call_any hX hK hI hR site hx h1 h2 h3 fun r h' H1 locs1 g1 g2 g3 g4 => by
                    rw [← push_cv]
                    exact hk _ _ _ g1 H1 locs1 la g2 g3 g4 h4
                · have z : (1 : Nat) = 2 := z
                  omega
                · have z : (1 : Nat) = 5 := z
                  omega
            · exact hx.elim
          · omega
        | false =>
          rw [hk1] at hx
          simp only [cond_false] at hx
          split at hx
          · next b rest' =>
            split at hx
            · next ci hci =>
              split at hx
              · next j hj =>
                cases hcat : Nat.ble (x_cat rest') 8 with
                | false => rw [hcat] at hx; exact hx.elim
                | true =>
                  rw [hcat] at hx
                  simp only [cond_true] at hx
                  have e9 : (as.reverse ++ .ref b :: rest').map (cv ad) = (as.map (cv ad)).reverse ++ .ref (ad b) :: rest'.map (cv ad) := by rw [List.map_append, List.map_reverse]; rfl
                  rw [e9]
                  rcases hCp _ hmem with ⟨z, hT⟩ | ⟨z, -⟩ | ⟨z, hT⟩ | ⟨z, -⟩
                  · have z : kd' = 0 := z
                    subst z
                    obtain ⟨-, rfl⟩ | ⟨z, -⟩ | ⟨z, -⟩ := hi
                    · obtain ⟨hm, C, hC, hv⟩ := hT _ (a_look_mem hj)
                      have hrc := recv_ok hK hR hstr hcl hci hC h2 h3
                      have site := siteV (p := p) (l := l) (e := e) (R := R) (below := below) (meth := meth) (pc := pc) (H := H) (locs := locs) (la := la) (as := as.map (cv ad)) (rest := rest'.map (cv ad)) (b := ad b) hxe hb hml hown hts hTB hs hRf hRl hcs hm hv (by rw [List.length_map]; exact e3) h4.1 (by rw [cat_cv]; exact Nat.le_of_ble_eq_true hcat) hdg hrc
                      exact call_any (as := .ref b :: as) hX hK hI hR site hx h1 h2 h3 fun r h' H1 locs1 g1 g2 g3 g4 => by
                        rw [← push_cv]
                        exact hk _ _ _ g1 H1 locs1 la g2 g3 g4 h4
                    · omega
                    · omega
                  · have z : kd' = 1 := z
                    subst z
                    cases hk1
                  · have z : kd' = 2 := z
                    subst z
                    obtain ⟨z, -⟩ | ⟨z, -⟩ | ⟨-, rfl⟩ := hi
                    · omega
                    · omega
                    · obtain ⟨hm, ⟨C, T, Nf, hC⟩, hv⟩ := hT _ (a_look_mem hj)
                      have hrc := recv_ok hK hR hstr hcl hci (Or.inr ⟨T, Nf, hC⟩) h2 h3
                      have hat := (hK.1 _ _ hC).2
                      have site := siteU (p := p) (l := l) (e := e) (R := R) (below := below) (meth := meth) (pc := pc) (H := H) (locs := locs) (la := la) (as := as.map (cv ad)) (rest := rest'.map (cv ad)) (b := ad b) hxe hb hml hown hts hTB hs hRf hRl hcs hat hm hv (by rw [List.length_map]; exact e3) h4.1 (by rw [cat_cv]; exact Nat.le_of_ble_eq_true hcat) hdg hrc
                      exact call_any (as := .ref b :: as) hX hK hI hR site hx h1 h2 h3 fun r h' H1 locs1 g1 g2 g3 g4 => by
                        rw [← push_cv]
                        exact hk _ _ _ g1 H1 locs1 la g2 g3 g4 h4
                  · have z : kd' = 5 := z
                    subst z
                    obtain ⟨z, -⟩ | ⟨z, -⟩ | ⟨z, -⟩ := hi <;> omega
              · exact hx.elim
            · exact hx.elim
          · exact hx.elim
      · exact hx.elim
  · exact hx.elim
theorem snd_copy (C0 : CX p s m args c cl D tc ad N nL cc own Ts X) (hs : ∀ w ∈ TB, w ∈ Ts) (hRf : d ≤ R.frames) (hRl : 60 * d ≤ R.locals) (hCp : CpOK TB mt cl own P)
    {pc ix : Nat} {ls : LV} {st : List Value} {h : List AE} {k : KP} (hdg : decode cc pc = .ok (.invokestatic ix, 3))
    (hk : ∀ ls' st' h', k ls' st' h' → WW p l e R s m args below meth c cells slots Q cl D tc ad N nL (pc + 3) ls' st' h')
    (hx : x_copy P d ix ls st h k) : WW p l e R s m args below meth c cells slots Q cl D tc ad N nL pc ls st h := by
  obtain ⟨hxe, hb, hml, hown, hts, hK, hI, hR⟩ := C0
  unfold x_copy at hx
  split at hx
  · next kd na tg hl =>
    have hmem := a_look_mem hl
    cases hkd : Nat.beq kd 5 with
    | false => rw [hkd] at hx; exact hx.elim
    | true =>
      rw [hkd] at hx
      simp only [cond_true] at hx
      have hkk := Nat.eq_of_beq_eq_true hkd
      subst hkk
      have hw : Cond.methodLink own ix arraycopyName ∈ TB ∧ Cond.native arraycopyName ∈ TB ∧ Cond.static arraycopyName ∈ TB ∧ Cond.initialized "java/lang/System" ∈ TB := by
        rcases hCp _ hmem with ⟨z, -⟩ | ⟨z, -⟩ | ⟨z, -⟩ | ⟨-, z⟩
        · have z : (5 : Nat) = 0 := z
          omega
        · have z : (5 : Nat) = 1 := z
          omega
        · have z : (5 : Nat) = 2 := z
          omega
        · exact z
      split at hx
      · next n dp a sp b rest =>
        split at hx
        · next t0 n0 f t1 n1 g hc0 hc1 =>
          cases hg : (Nat.beq t0 t1 && Nat.blt t0 2 && Nat.ble (x_cat rest) 8 && Nat.ble 1 d) with
          | false => rw [hg] at hx; exact hx.elim
          | true =>
            rw [hg] at hx
            simp only [cond_true] at hx
            obtain ⟨hg, g4⟩ := Bool.and_eq_true_iff.mp hg
            obtain ⟨hg, g3⟩ := Bool.and_eq_true_iff.mp hg
            obtain ⟨g1, g2⟩ := Bool.and_eq_true_iff.mp hg
            have g1 := Nat.eq_of_beq_eq_true g1
            subst g1
            have g2 : t0 < 2 := by simpa using g2
            have g3 := Nat.le_of_ble_eq_true g3
            have g4 := Nat.le_of_ble_eq_true g4
            obtain ⟨c1, c2, c3, c4, c5, c6, c7⟩ := hx
            intro H locs la h1 h2 h3 h4
            have hloc : ((rest.map (cv ad)).map fun v => v.category).sum + (nativeFrameWords "java/lang/System" "arraycopy" 5 + 11) ≤ R.locals := by
              rw [cat_cv]
              have : nativeFrameWords "java/lang/System" "arraycopy" 5 = 7 := by decide +kernel
              rw [this]
              omega
            match t0, g2 with
            | 0, _ =>
              refine va_copyi hxe hb (hml.trans h4.1.symm) hown (hts _ (hs _ hw.1)) (hts _ (hs _ hw.2.1)) (hts _ (hs _ hw.2.2.1)) (hts _ (hs _ hw.2.2.2)) hK h2 (wm_D h1 hI) h3 b a 0 0 (wm_get0 hc0) (wm_get0 hc1) rfl rfl rfl c1 c2 c3 c4 c5 c6 (by omega) hloc hdg fun H1 locs1 hP1 hD1 hS1 => ?_
              have hP1 : va_P D cl ((wm tc ad 0 h).set a (ad a, ce tc ad (.inl (0, n1, .inl (va_cpy f g sp.toNatClampNeg dp.toNatClampNeg n.toNatClampNeg))))) H1 := hP1
              rw [wm_set0] at hP1
              exact hk _ _ _ (l_put_eq _ _ _ _ c7) H1 locs1 la (by rw [List.length_set]; exact h1) hP1 hS1 h4
            | 1, _ =>
              refine va_copyi hxe hb (hml.trans h4.1.symm) hown (hts _ (hs _ hw.1)) (hts _ (hs _ hw.2.1)) (hts _ (hs _ hw.2.2.1)) (hts _ (hs _ hw.2.2.2)) hK h2 (wm_D h1 hI) h3 b a 1 1 (wm_get0 hc0) (wm_get0 hc1) rfl rfl rfl c1 c2 c3 c4 c5 c6 (by omega) hloc hdg fun H1 locs1 hP1 hD1 hS1 => ?_
              have hP1 : va_P D cl ((wm tc ad 0 h).set a (ad a, ce tc ad (.inl (1, n1, .inl (va_cpy f g sp.toNatClampNeg dp.toNatClampNeg n.toNatClampNeg))))) H1 := hP1
              rw [wm_set0] at hP1
              exact hk _ _ _ (l_put_eq _ _ _ _ c7) H1 locs1 la (by rw [List.length_set]; exact h1) hP1 hS1 h4
        · exact hx.elim
      · exact hx.elim
  · exact hx.elim
end SN5
end
section
/-! bodies give contracts -/
def okc (cc : ByteArray) : List Ins → Prop
  | [] => True
  | (pc, i, n) :: t => decode cc pc = .ok (i, n) ∧ (x_sw i = true ∨ n = x_ln i) ∧ (match t with
    | [] => True
    | (q, _, _) :: _ => q = pc + n) ∧ okc cc t
def okb (cc : ByteArray) : List Ins → Bool
  | [] => true
  | (pc, i, n) :: t => decide (decode cc pc = .ok (i, n)) && (x_sw i || Nat.beq n (x_ln i)) && (match t with
    | [] => true
    | (q, _, _) :: _ => Nat.beq q (pc + n)) && okb cc t
theorem okc_of {cc : ByteArray} : ∀ {code : List Ins}, okb cc code = true → okc cc code
  | [], _ => True.intro
  | (pc, i, n) :: t, h => by
    unfold okb at h
    obtain ⟨h, h4⟩ := Bool.and_eq_true_iff.mp h
    obtain ⟨h, h3⟩ := Bool.and_eq_true_iff.mp h
    obtain ⟨h1, h2⟩ := Bool.and_eq_true_iff.mp h
    refine ⟨of_decide_eq_true h1, ?_, ?_, okc_of h4⟩
    · rcases Bool.or_eq_true_iff.mp h2 with h2 | h2
      · exact Or.inl h2
      · exact Or.inr (Nat.eq_of_beq_eq_true h2)
    · match t, h3 with
      | [], _ => exact True.intro
      | (q, _, _) :: _, h3 => exact Nat.eq_of_beq_eq_true h3
section SN6
variable {p : Program} {l : Launch} {e : Env} {R : Room} {s : State} {m : MethodId} {args : Array Value} {below : List Frame} {meth : Method} {c : Code} {cells slots : Nat} {Q : State → Prop}
variable {cl : List vw_C} {D : va_G} {tc : Nat → ClassId} {ad : Nat → Nat} {N nL : Nat} {cc : ByteArray} {own : String} {Ts TB : List Cond} {X : RoT} {P : Pool} {d : Nat} {ty : Option FieldType} {RT : RP} {mt : MT}
/-- a return is right where the walk ends so -/
def RetOK (p : Program) (l : Launch) (e : Env) (R : Room) (s : State) (m : MethodId) (args : Array Value) (below : List Frame) (meth : Method) (c : Code) (cells slots : Nat) (Q : State → Prop) (cl : List vw_C) (D : va_G) (tc : Nat → ClassId) (ad : Nat → Nat) (N : Nat) (cc : ByteArray) (ty : Option FieldType) (RT : RP) : Prop :=
  ∀ (pc : Nat) (h : List AE) (H : Heap) (locs : List Loc) (la : Array Slot), h.length = N → va_P D cl (wm tc ad 0 h) H → va_S (AA ad N) s.heap H locs →
    (∀ x, decode cc pc = .ok (.ireturn, 1) → x_ret ty x → RT (some (.int x)) h → W p l e R s m args below meth c H locs cells slots Q (F0 m pc la [.int x])) ∧
    (∀ x, decode cc pc = .ok (.lreturn, 1) → ty = some .long → RT (some (.long x)) h → W p l e R s m args below meth c H locs cells slots Q (F0 m pc la [.long x])) ∧
    (∀ x n, decode cc pc = .ok (.areturn, 1) → ty = some (.object n) → RT (some (.ref x)) h → W p l e R s m args below meth c H locs cells slots Q (F0 m pc la [.ref (ad x)])) ∧
    (decode cc pc = .ok (.return_, 1) → ty = none → RT none h → W p l e R s m args below meth c H locs cells slots Q (F0 m pc la []))
/-- what holds of the tables for a body of the name 'own' -/
def TabOK (TB : List Cond) (mt : MT) (cl : List vw_C) (X : RoT) (own : String) (P : Pool) : Prop :=
  cl.length ≤ 50 ∧ RoOK X ∧ (∀ i, 1000 ≤ i → i < 1006 → (i, "java/lang/String") ∈ X.1) ∧ TbOK TB ∧ ClsOK TB cl ∧ FldOK TB X.2.2.2.2.2 cl own P ∧ FarOK TB X own P ∧ CpOK TB mt cl own P
theorem x_sound (C0 : CX p s m args c cl D tc ad N nL cc own TB X) (T0 : TabOK TB mt cl X own P) (hRf : d ≤ R.frames) (hRl : 60 * d ≤ R.locals) (hcs : cells ≤ R.cells ∧ slots ≤ R.slots) (hret : RetOK p l e R s m args below meth c cells slots Q cl D tc ad N cc ty RT)
    {pc n : Nat} {i : Instr} {ls : LV} {st : List Value} {h : List AE} {k : KP} (hdg : decode cc pc = .ok (i, n)) (hn : x_sw i = true ∨ n = x_ln i)
    (hk : ∀ ls' st' h', k ls' st' h' → WW p l e R s m args below meth c cells slots Q cl D tc ad N nL (pc + n) ls' st' h')
    (hx : x_step P (CTof l TB mt cl X) d nL ty (WW p l e R s m args below meth c cells slots Q cl D tc ad N nL) RT pc ls st h k i) : WW p l e R s m args below meth c cells slots Q cl D tc ad N nL pc ls st h := by
  obtain ⟨hcl, hX, hstr, hTB, hCl, hFl, hFar, hCp⟩ := T0
  have hs : ∀ w ∈ TB, w ∈ TB := fun _ z => z
  cases hp : x_plain i with
  | true => exact snd_a C0 hFar hdg hn hk hp hx
  | false =>
    cases i with
    | getfield ix =>
      have z := hn.resolve_left (fun z => Bool.noConfusion (show false = true from z))
      subst z
      exact snd_getf C0 hFar hcl hCl hFl hdg hk hx
    | putfield ix =>
      have z := hn.resolve_left (fun z => Bool.noConfusion (show false = true from z))
      subst z
      exact snd_putf C0 hcl hCl hFl hdg hk hx
    | invokevirtual ix =>
      have z := hn.resolve_left (fun z => Bool.noConfusion (show false = true from z))
      subst z
      exact snd_inv C0 hcl hX hstr hTB hs hRf hRl hcs hCp (Or.inl ⟨rfl, rfl⟩) hdg hk hx
    | invokestatic ix =>
      have z := hn.resolve_left (fun z => Bool.noConfusion (show false = true from z))
      subst z
      simp only [x_step] at hx
      split at hx
      · exact snd_copy C0 hs hRf hRl hCp hdg hk hx
      · exact snd_inv C0 hcl hX hstr hTB hs hRf hRl hcs hCp (Or.inr (Or.inl ⟨rfl, rfl⟩)) hdg hk hx
    | invokespecial ix =>
      have z := hn.resolve_left (fun z => Bool.noConfusion (show false = true from z))
      subst z
      exact snd_inv C0 hcl hX hstr hTB hs hRf hRl hcs hCp (Or.inr (Or.inr ⟨rfl, rfl⟩)) hdg hk hx
    | arraylength =>
      have z := hn.resolve_left (fun z => Bool.noConfusion (show false = true from z))
      subst z
      exact snd_arr C0 hFar hdg (Or.inl rfl) hk hx
    | iaload =>
      have z := hn.resolve_left (fun z => Bool.noConfusion (show false = true from z))
      subst z
      exact snd_arr C0 hFar hdg (Or.inr (Or.inl rfl)) hk hx
    | baload =>
      have z := hn.resolve_left (fun z => Bool.noConfusion (show false = true from z))
      subst z
      exact snd_arr C0 hFar hdg (Or.inr (Or.inr (Or.inl rfl))) hk hx
    | iastore =>
      have z := hn.resolve_left (fun z => Bool.noConfusion (show false = true from z))
      subst z
      exact snd_arr C0 hFar hdg (Or.inr (Or.inr (Or.inr (Or.inl rfl)))) hk hx
    | bastore =>
      have z := hn.resolve_left (fun z => Bool.noConfusion (show false = true from z))
      subst z
      exact snd_arr C0 hFar hdg (Or.inr (Or.inr (Or.inr (Or.inr (Or.inl rfl))))) hk hx
    | aaload =>
      have z := hn.resolve_left (fun z => Bool.noConfusion (show false = true from z))
      subst z
      exact snd_arr C0 hFar hdg (Or.inr (Or.inr (Or.inr (Or.inr (Or.inr rfl))))) hk hx
    | ireturn =>
      have z := hn.resolve_left (fun z => Bool.noConfusion (show false = true from z))
      subst z
      simp only [x_step] at hx
      split at hx
      · exact fun H locs la h1 h2 h3 h4 => (hret pc h H locs la h1 h2 h3).1 _ hdg hx.1 hx.2
      · exact hx.elim
    | lreturn =>
      have z := hn.resolve_left (fun z => Bool.noConfusion (show false = true from z))
      subst z
      simp only [x_step] at hx
      split at hx
      · exact fun H locs la h1 h2 h3 h4 => (hret pc h H locs la h1 h2 h3).2.1 _ hdg hx.1 hx.2
      · exact hx.elim
    | areturn =>
      have z := hn.resolve_left (fun z => Bool.noConfusion (show false = true from z))
      subst z
      simp only [x_step] at hx
      split at hx
      · obtain ⟨⟨nm, hnm⟩, hq⟩ := hx
        exact fun H locs la h1 h2 h3 h4 => (hret pc h H locs la h1 h2 h3).2.2.1 _ nm hdg hnm hq
      · exact hx.elim
    | return_ =>
      have z := hn.resolve_left (fun z => Bool.noConfusion (show false = true from z))
      subst z
      simp only [x_step] at hx
      split at hx
      · exact fun H locs la h1 h2 h3 h4 => (hret pc h H locs la h1 h2 h3).2.2.2 hdg hx.1 hx.2
      · exact hx.elim
    | _ => exact Bool.noConfusion (show true = false from hp)
theorem xs_sound {cuts : List Nat} (C0 : CX p s m args c cl D tc ad N nL cc own TB X) (T0 : TabOK TB mt cl X own P) (hRf : d ≤ R.frames) (hRl : 60 * d ≤ R.locals) (hcs : cells ≤ R.cells ∧ slots ≤ R.slots) (hret : RetOK p l e R s m args below meth c cells slots Q cl D tc ad N cc ty RT) :
    ∀ (code : List Ins), okc cc code → ∀ (pc : Nat) (i : Instr) (n : Nat) (t : List Ins), code = (pc, i, n) :: t → ∀ ls st h, xs P (CTof l TB mt cl X) d nL ty cuts (WW p l e R s m args below meth c cells slots Q cl D tc ad N nL) RT code ls st h → WW p l e R s m args below meth c cells slots Q cl D tc ad N nL pc ls st h
  | [], _, _, _, _, _, h, _, _, _, _ => by cases h
  | (pc, i, n) :: t, hok, _, _, _, _, rfl, ls, st, h, hx => by
    obtain ⟨h1, h2, h3, h4⟩ := hok
    refine x_sound C0 T0 hRf hRl hcs hret h1 h2 (fun ls' st' h' hy => ?_) hx
    match t, h3, h4, hy with
    | [], _, _, hy => exact hy.elim
    | (q, i', n') :: t', h3, h4, hy =>
      have h3 : q = pc + n := h3
      rw [← h3]
      unfold x_next at hy
      cases hc : a_mem q cuts with
      | true =>
        simp only [hc, cond_true] at hy
        exact hy
      | false =>
      simp only [hc, cond_false] at hy
      exact xs_sound C0 T0 hRf hRl hcs hret ((q, i', n') :: t') h4 q i' n' t' rfl ls' st' h' hy
theorem seek_ok (pc : Nat) : ∀ (code : List Ins), okc cc code → okc cc (seek pc code) ∧ (seek pc code = [] ∨ ∃ i n t, seek pc code = (pc, i, n) :: t)
  | [], h => ⟨h, Or.inl rfl⟩
  | (q, i, n) :: t, h => by
    unfold seek
    cases hb : Nat.beq q pc with
    | true =>
      have hq := Nat.eq_of_beq_eq_true hb
      subst hq
      rw [cond_true]
      exact ⟨h, Or.inr ⟨i, n, t, rfl⟩⟩
    | false =>
      rw [cond_false]
      exact seek_ok pc t h.2.2.2
theorem runs_of {cuts : List Nat} (C0 : CX p s m args c cl D tc ad N nL cc own TB X) (T0 : TabOK TB mt cl X own P) (hRf : d ≤ R.frames) (hRl : 60 * d ≤ R.locals) (hcs : cells ≤ R.cells ∧ slots ≤ R.slots) (hret : RetOK p l e R s m args below meth c cells slots Q cl D tc ad N cc ty RT) {code : List Ins} (hok : okc cc code) :
    Runs P (CTof l TB mt cl X) d nL ty cuts code (WW p l e R s m args below meth c cells slots Q cl D tc ad N nL) RT := by
  intro pc ls st h hx
  obtain ⟨h1, h2 | ⟨i, n, t, h2⟩⟩ := seek_ok (cc := cc) pc code hok
  · rw [h2] at hx
    exact hx.elim
  · exact xs_sound C0 T0 hRf hRl hcs hret _ h1 pc i n t h2 ls st h hx
theorem drops_of : Drops (WW p l e R s m args below meth c cells slots Q cl D tc ad N nL) := by
  intro pc ls ks st h hj H locs la h1 h2 h3 h4
  refine hj H locs la h1 h2 h3 ⟨h4.1, h4.2.1, fun q hq => ?_⟩
  obtain ⟨q0, hq0, rfl⟩ := List.mem_map.mp hq
  obtain ⟨k, -, hk⟩ := List.mem_filterMap.mp hq0
  rw [l_get_eq] at hk
  exact h4.2.2 _ (List.mem_map.mpr ⟨q0, List.mem_of_getElem? hk, rfl⟩)
theorem args_cv (ad : Nat → Nat) : ∀ (as : List Value) (k : Nat), lv_args k (as.map (cv ad)) = lc ad (lv_args k as)
  | [], _ => rfl
  | v :: t, k => by
    rw [List.map_cons, lv_args, lv_args, cv_cat, args_cv ad t]
    rfl
theorem sl_cv (ad : Nat → Nat) : ∀ as : List Value, (lg_sl (as.map (cv ad))).length = x_cat as
  | [] => rfl
  | v :: t => by
    have e : lg_sl ((v :: t).map (cv ad)) = (if (cv ad v).category = 2 then [.val (cv ad v), .second] else [.val (cv ad v)]) ++ lg_sl (t.map (cv ad)) := rfl
    rw [e, List.length_append, sl_cv ad t, x_cat, cv_cat]
    cases v <;> rfl
/-- A BODY GIVES ITS METHOD'S CONTRACT -/
theorem CT_of {j : Nat} (cuts : List Nat) {as : List Value} {h0 : List AE} {PP : RP} {code : List Ins} {y : MethodName} {cc : ByteArray} (hmt : mt j = (y, cc, nL, ty)) (hy : plainName y.cls = true) (T0 : TabOK TB mt cl X y.cls P) (hok : okc cc code) (hin : x_cat as ≤ nL)
    (hbody : Body P (CTof l TB mt cl X) d nL ty cuts code as h0 PP) : CTof l TB mt cl X d j as h0 PP := by
  intro D tc ad
  have e1 : (mt j).1 = y := by rw [hmt]
  have e2 : cdOf mt j = Cond.code y cc nL ty := by unfold cdOf; rw [hmt]
  rw [e1, e2]
  refine Met.ofW (cc := cc) (maxL := nL) (ret := ty) hy rfl ?_
  intro p e s m args below meth c s₁ B hml hv
  obtain ⟨rfl, hP, hK, hI, hR⟩ := hv
  have hts := atoms_spec (ws := Cond.code y cc nL ty :: TB) B.pre
  have hown : s.vm.findClass y.cls = some m.cls := findClass_of_methodNamed B.named
  have hr := B.returns
  have hx := B.exec
  have hb := B.bytes
  have hlocks := B.notSynchronized
  have C0 : CX p s m (as.map (cv ad)).toArray c cl D tc ad h0.length nL cc y.cls TB X := ⟨hx, hb, hml, hown, fun w hw => hts w (List.mem_cons_of_mem _ hw), hK, hI, hR⟩
  have hret : RetOK p l e (headSpec (Cond.code y cc nL ty :: TB) (rmOf d)).room s m (as.map (cv ad)).toArray below meth c 0 0 (MQ below (Q_ct cl D tc ad h0 PP) (as.map (cv ad)).toArray s 0 0 (AA ad h0.length)) cl D tc ad h0.length cc ty PP := by
    intro pc h H locs la h1 h2 h3
    refine ⟨fun x hd ht hq => ?_, fun x hd ht hq => ?_, fun x n hd ht hq => ?_, fun hd ht hq => ?_⟩
    · have post : ∀ t : State, t.heap = H → s.WarmedH t.vm → Q_ct cl D tc ad h0 PP (as.map (cv ad)).toArray s (.returned (some (.int x))) t := fun t e9 _ => ⟨⟨some (.int x), h, rfl, hq, h1, by rw [e9]; exact h2⟩, h3.F e9⟩
      cases ty with
      | none => exact ht.elim
      | some u =>
        refine W.zret hx hb hr ?_ post h3.2.2 hd
        cases u with
        | int => rfl
        | boolean => have ht : x &&& 1 = x := ht; show Value.int (x &&& 1) = Value.int x; rw [ht]
        | _ => exact ht
    · subst ht
      exact W.lret hx hb hr (fun t e9 _ => ⟨⟨some (.long x), h, rfl, hq, h1, by rw [e9]; exact h2⟩, h3.F e9⟩) h3.2.2 hd
    · subst ht
      exact W.aret hx hb hr (Or.inl ⟨n, rfl⟩) (Or.inr ⟨_, rfl⟩) (fun t e9 _ => ⟨⟨some (.ref x), h, rfl, hq, h1, by rw [e9]; exact h2⟩, h3.F e9⟩) h3.2.2 hd
    · subst ht
      exact W.vret hx hb hr (fun t e9 _ => ⟨⟨none, h, rfl, hq, h1, by rw [e9]; exact h2⟩, h3.F e9⟩) h3.2.2 hd
  have hl := lv_entry (as.map (cv ad)) (n := nL) (by rw [sl_cv]; exact hin)
  rw [args_cv] at hl
  rw [lg_entry_eq]
  exact hbody _ (runs_of C0 T0 (Nat.le_refl d) (Nat.le_refl _) ⟨Nat.le_refl 0, Nat.le_refl 0⟩ hret hok) drops_of s.heap [] _ rfl hP va_S.rf hl
end SN6
end
section
/-! printed by wip/whole/gen/tables.py out of the claim: names, fields, methods by their numbers -/
def RX0 : String := "UrchinSchool$Grey"
def TX0 : u_T := fun k => match k with
  | 0 => ("UrchinSchool$Urchin", "bodies", "[I", true)
  | 1 => ("UrchinSchool$Urchin", "ran", "I", false)
  | 2 => ("UrchinSchool$Urchin", "i", "I", false)
  | _ => ("UrchinSchool$Urchin", "v", "I", false)
def tyX0 : Nat → FieldType := fun k => match k with
  | 0 => .array .int
  | 1 => .int
  | 2 => .int
  | _ => .int
abbrev wsX00 : List Cond := u_ws RX0 TX0 4
theorem nmX0 : ∀ a, a < 4 → ∀ b, b < 4 → a ≠ b → (TX0 a).2.1 ≠ (TX0 b).2.1 := by decide +kernel
theorem tyX0_ok : ∀ k, k < 4 → parseFieldDescriptor (TX0 k).2.2.1 = some (tyX0 k) := by decide +kernel
abbrev cX0_init : ByteArray := prog_2_method_1_code
def yX0_init : MethodName := ⟨RX0, "<init>", "()V"⟩
abbrev cX0_heed : ByteArray := prog_2_method_2_code
def yX0_heed : MethodName := ⟨RX0, "heed", "(ILUrchinSchool$Heeds;)I"⟩
abbrev cX0_bristles : ByteArray := prog_2_method_3_code
def yX0_bristles : MethodName := ⟨RX0, "bristles", "(I)I"⟩
def RX1 : String := "UrchinSchool$Heeds"
def TX1 : u_T := fun k => match k with
  | 0 => ("UrchinSchool$Heeds", "plain", "LUrchinSchool$Urchin;", true)
  | 1 => ("UrchinSchool$Heeds", "kinds", "[LUrchinSchool$Urchin;", true)
  | 2 => ("UrchinSchool$Heeds", "sets", "[I", true)
  | 3 => ("UrchinSchool$Heeds", "p", "I", false)
  | 4 => ("UrchinSchool$Heeds", "k", "I", false)
  | 5 => ("UrchinSchool$Heeds", "v", "I", false)
  | 6 => ("UrchinSchool$Heeds", "f", "I", false)
  | 7 => ("UrchinSchool$Heeds", "c", "I", false)
  | 8 => ("UrchinSchool$Heeds", "t", "I", false)
  | 9 => ("UrchinSchool$Heeds", "row", "I", false)
  | _ => ("UrchinSchool$Heeds", "knows", "Z", false)
def tyX1 : Nat → FieldType := fun k => match k with
  | 0 => .object "UrchinSchool$Urchin"
  | 1 => .array (.object "UrchinSchool$Urchin")
  | 2 => .array .int
  | 3 => .int
  | 4 => .int
  | 5 => .int
  | 6 => .int
  | 7 => .int
  | 8 => .int
  | 9 => .int
  | _ => .boolean
abbrev wsX10 : List Cond := u_ws RX1 TX1 11
theorem nmX1 : ∀ a, a < 11 → ∀ b, b < 11 → a ≠ b → (TX1 a).2.1 ≠ (TX1 b).2.1 := by decide +kernel
theorem tyX1_ok : ∀ k, k < 11 → parseFieldDescriptor (TX1 k).2.2.1 = some (tyX1 k) := by decide +kernel
abbrev cX1_init : ByteArray := prog_3_method_1_code
def yX1_init : MethodName := ⟨RX1, "<init>", "()V"⟩
abbrev cX1_kindOf : ByteArray := prog_3_method_2_code
def yX1_kindOf : MethodName := ⟨RX1, "kindOf", "(I)LUrchinSchool$Urchin;"⟩
abbrev cX1_forget : ByteArray := prog_3_method_3_code
def yX1_forget : MethodName := ⟨RX1, "forget", "()V"⟩
abbrev cX1_setsOf : ByteArray := prog_3_method_4_code
def yX1_setsOf : MethodName := ⟨RX1, "setsOf", "(LUrchinSchool$School;LUrchinSchool$Ledge;I)I"⟩
abbrev cX1_weigh : ByteArray := prog_3_method_5_code
def yX1_weigh : MethodName := ⟨RX1, "weigh", "(LUrchinSchool$School;LUrchinSchool$Ledge;I)I"⟩
abbrev cX1_heedOf : ByteArray := prog_3_method_6_code
def yX1_heedOf : MethodName := ⟨RX1, "heedOf", "(LUrchinSchool$School;LUrchinSchool$Ledge;II)I"⟩
abbrev cX1_look : ByteArray := prog_3_method_7_code
def yX1_look : MethodName := ⟨RX1, "look", "(LUrchinSchool$School;II)V"⟩
def RX2 : String := "UrchinSchool$Infant"
def TX2 : u_T := fun k => match k with
  | 0 => ("UrchinSchool$Urchin", "bodies", "[I", true)
  | 1 => ("UrchinSchool$Urchin", "ran", "I", false)
  | 2 => ("UrchinSchool$Urchin", "i", "I", false)
  | _ => ("UrchinSchool$Urchin", "v", "I", false)
def tyX2 : Nat → FieldType := fun k => match k with
  | 0 => .array .int
  | 1 => .int
  | 2 => .int
  | _ => .int
abbrev wsX20 : List Cond := u_ws RX2 TX2 4
theorem nmX2 : ∀ a, a < 4 → ∀ b, b < 4 → a ≠ b → (TX2 a).2.1 ≠ (TX2 b).2.1 := by decide +kernel
theorem tyX2_ok : ∀ k, k < 4 → parseFieldDescriptor (TX2 k).2.2.1 = some (tyX2 k) := by decide +kernel
abbrev cX2_init : ByteArray := prog_4_method_1_code
def yX2_init : MethodName := ⟨RX2, "<init>", "()V"⟩
abbrev cX2_heed : ByteArray := prog_4_method_2_code
def yX2_heed : MethodName := ⟨RX2, "heed", "(ILUrchinSchool$Heeds;)I"⟩
abbrev cX2_says : ByteArray := prog_4_method_3_code
def yX2_says : MethodName := ⟨RX2, "says", "(I)I"⟩
def RX3 : String := "UrchinSchool$Keeper"
def TX3 : u_T := fun k => match k with
  | 0 => ("UrchinSchool$Urchin", "bodies", "[I", true)
  | 1 => ("UrchinSchool$Urchin", "ran", "I", false)
  | 2 => ("UrchinSchool$Urchin", "i", "I", false)
  | _ => ("UrchinSchool$Urchin", "v", "I", false)
def tyX3 : Nat → FieldType := fun k => match k with
  | 0 => .array .int
  | 1 => .int
  | 2 => .int
  | _ => .int
abbrev wsX30 : List Cond := u_ws RX3 TX3 4
theorem nmX3 : ∀ a, a < 4 → ∀ b, b < 4 → a ≠ b → (TX3 a).2.1 ≠ (TX3 b).2.1 := by decide +kernel
theorem tyX3_ok : ∀ k, k < 4 → parseFieldDescriptor (TX3 k).2.2.1 = some (tyX3 k) := by decide +kernel
abbrev cX3_init : ByteArray := prog_5_method_1_code
def yX3_init : MethodName := ⟨RX3, "<init>", "()V"⟩
abbrev cX3_heed : ByteArray := prog_5_method_2_code
def yX3_heed : MethodName := ⟨RX3, "heed", "(ILUrchinSchool$Heeds;)I"⟩
abbrev cX3_leans : ByteArray := prog_5_method_3_code
def yX3_leans : MethodName := ⟨RX3, "leans", "(I)I"⟩
def RX4 : String := "UrchinSchool$Ledge"
def TX4 : u_T := fun k => match k with
  | 0 => ("UrchinSchool$Ledge", "steps", "[I", true)
  | 1 => ("UrchinSchool$Ledge", "size", "I", false)
  | 2 => ("UrchinSchool$Ledge", "keep", "I", false)
  | 3 => ("UrchinSchool$Ledge", "pass", "I", false)
  | 4 => ("UrchinSchool$Ledge", "tape", "[B", false)
  | 5 => ("UrchinSchool$Ledge", "signs", "I", false)
  | 6 => ("UrchinSchool$Ledge", "at", "I", false)
  | 7 => ("UrchinSchool$Ledge", "sign", "I", false)
  | 8 => ("UrchinSchool$Ledge", "test", "I", false)
  | _ => ("UrchinSchool$Ledge", "number", "I", false)
def tyX4 : Nat → FieldType := fun k => match k with
  | 0 => .array .int
  | 1 => .int
  | 2 => .int
  | 3 => .int
  | 4 => .array .byte
  | 5 => .int
  | 6 => .int
  | 7 => .int
  | 8 => .int
  | _ => .int
abbrev wsX40 : List Cond := u_ws RX4 TX4 10
theorem nmX4 : ∀ a, a < 10 → ∀ b, b < 10 → a ≠ b → (TX4 a).2.1 ≠ (TX4 b).2.1 := by decide +kernel
theorem tyX4_ok : ∀ k, k < 10 → parseFieldDescriptor (TX4 k).2.2.1 = some (tyX4 k) := by decide +kernel
abbrev cX4_init : ByteArray := prog_6_method_1_code
def yX4_init : MethodName := ⟨RX4, "<init>", "()V"⟩
abbrev cX4_read : ByteArray := prog_6_method_2_code
def yX4_read : MethodName := ⟨RX4, "read", "([BI)I"⟩
abbrev cX4_readClause : ByteArray := prog_6_method_3_code
def yX4_readClause : MethodName := ⟨RX4, "readClause", "()Z"⟩
abbrev cX4_wordOf : ByteArray := prog_6_method_4_code
def yX4_wordOf : MethodName := ⟨RX4, "wordOf", "(I)Ljava/lang/String;"⟩
abbrev cX4_readEither : ByteArray := prog_6_method_5_code
def yX4_readEither : MethodName := ⟨RX4, "readEither", "(I)Z"⟩
abbrev cX4_readBoth : ByteArray := prog_6_method_6_code
def yX4_readBoth : MethodName := ⟨RX4, "readBoth", "(I)Z"⟩
abbrev cX4_readPart : ByteArray := prog_6_method_7_code
def yX4_readPart : MethodName := ⟨RX4, "readPart", "(I)Z"⟩
abbrev cX4_readTest : ByteArray := prog_6_method_8_code
def yX4_readTest : MethodName := ⟨RX4, "readTest", "()Z"⟩
abbrev cX4_placeOf : ByteArray := prog_6_method_9_code
def yX4_placeOf : MethodName := ⟨RX4, "placeOf", "(ILjava/lang/String;)I"⟩
abbrev cX4_readNumber : ByteArray := prog_6_method_10_code
def yX4_readNumber : MethodName := ⟨RX4, "readNumber", "()Z"⟩
abbrev cX4_isDigit : ByteArray := prog_6_method_11_code
def yX4_isDigit : MethodName := ⟨RX4, "isDigit", "(I)Z"⟩
abbrev cX4_takeWord : ByteArray := prog_6_method_12_code
def yX4_takeWord : MethodName := ⟨RX4, "takeWord", "(Ljava/lang/String;)Z"⟩
abbrev cX4_take : ByteArray := prog_6_method_13_code
def yX4_take : MethodName := ⟨RX4, "take", "(I)Z"⟩
abbrev cX4_advance : ByteArray := prog_6_method_14_code
def yX4_advance : MethodName := ⟨RX4, "advance", "()V"⟩
abbrev cX4_put : ByteArray := prog_6_method_15_code
def yX4_put : MethodName := ⟨RX4, "put", "(I)Z"⟩
abbrev cX4_sum : ByteArray := prog_6_method_16_code
def yX4_sum : MethodName := ⟨RX4, "sum", "(LUrchinSchool$Heeds;)I"⟩
abbrev cX4_joined : ByteArray := prog_6_method_17_code
def yX4_joined : MethodName := ⟨RX4, "joined", "(II)I"⟩
abbrev cX4_holds : ByteArray := prog_6_method_18_code
def yX4_holds : MethodName := ⟨RX4, "holds", "(ILUrchinSchool$Heeds;)Z"⟩
def RX5 : String := "UrchinSchool$Monitor"
def TX5 : u_T := fun k => match k with
  | 0 => ("UrchinSchool$Urchin", "bodies", "[I", true)
  | 1 => ("UrchinSchool$Urchin", "ran", "I", false)
  | 2 => ("UrchinSchool$Urchin", "i", "I", false)
  | _ => ("UrchinSchool$Urchin", "v", "I", false)
def tyX5 : Nat → FieldType := fun k => match k with
  | 0 => .array .int
  | 1 => .int
  | 2 => .int
  | _ => .int
abbrev wsX50 : List Cond := u_ws RX5 TX5 4
theorem nmX5 : ∀ a, a < 4 → ∀ b, b < 4 → a ≠ b → (TX5 a).2.1 ≠ (TX5 b).2.1 := by decide +kernel
theorem tyX5_ok : ∀ k, k < 4 → parseFieldDescriptor (TX5 k).2.2.1 = some (tyX5 k) := by decide +kernel
abbrev cX5_init : ByteArray := prog_7_method_1_code
def yX5_init : MethodName := ⟨RX5, "<init>", "()V"⟩
abbrev cX5_heed : ByteArray := prog_7_method_2_code
def yX5_heed : MethodName := ⟨RX5, "heed", "(ILUrchinSchool$Heeds;)I"⟩
abbrev cX5_bristles : ByteArray := prog_7_method_3_code
def yX5_bristles : MethodName := ⟨RX5, "bristles", "(I)I"⟩
def RX6 : String := "UrchinSchool$Pupil"
def TX6 : u_T := fun k => match k with
  | 0 => ("UrchinSchool$Urchin", "bodies", "[I", true)
  | 1 => ("UrchinSchool$Urchin", "ran", "I", false)
  | 2 => ("UrchinSchool$Urchin", "i", "I", false)
  | _ => ("UrchinSchool$Urchin", "v", "I", false)
def tyX6 : Nat → FieldType := fun k => match k with
  | 0 => .array .int
  | 1 => .int
  | 2 => .int
  | _ => .int
abbrev wsX60 : List Cond := u_ws RX6 TX6 4
theorem nmX6 : ∀ a, a < 4 → ∀ b, b < 4 → a ≠ b → (TX6 a).2.1 ≠ (TX6 b).2.1 := by decide +kernel
theorem tyX6_ok : ∀ k, k < 4 → parseFieldDescriptor (TX6 k).2.2.1 = some (tyX6 k) := by decide +kernel
abbrev cX6_init : ByteArray := prog_8_method_1_code
def yX6_init : MethodName := ⟨RX6, "<init>", "()V"⟩
abbrev cX6_heed : ByteArray := prog_8_method_2_code
def yX6_heed : MethodName := ⟨RX6, "heed", "(ILUrchinSchool$Heeds;)I"⟩
abbrev cX6_leans : ByteArray := prog_8_method_3_code
def yX6_leans : MethodName := ⟨RX6, "leans", "(I)I"⟩
def RX7 : String := "UrchinSchool$School"
def TX7 : u_T := fun k => match k with
  | 0 => ("UrchinSchool$School", "kind", "[I", true)
  | 1 => ("UrchinSchool$School", "v", "[I", true)
  | 2 => ("UrchinSchool$School", "knows", "[I", true)
  | 3 => ("UrchinSchool$School", "rows", "[I", true)
  | 4 => ("UrchinSchool$School", "lessons", "[I", true)
  | 5 => ("UrchinSchool$School", "size", "I", false)
  | 6 => ("UrchinSchool$School", "out", "I", false)
  | 7 => ("UrchinSchool$School", "tide", "I", false)
  | 8 => ("UrchinSchool$School", "tape", "[B", true)
  | 9 => ("UrchinSchool$School", "signs", "I", false)
  | 10 => ("UrchinSchool$School", "ledges", "I", false)
  | 11 => ("UrchinSchool$School", "seen", "LUrchinSchool$Table;", true)
  | 12 => ("UrchinSchool$School", "plan", "LUrchinSchool$Table;", true)
  | _ => ("UrchinSchool$School", "book", "LUrchinSchool$Table;", true)
def tyX7 : Nat → FieldType := fun k => match k with
  | 0 => .array .int
  | 1 => .array .int
  | 2 => .array .int
  | 3 => .array .int
  | 4 => .array .int
  | 5 => .int
  | 6 => .int
  | 7 => .int
  | 8 => .array .byte
  | 9 => .int
  | 10 => .int
  | 11 => .object "UrchinSchool$Table"
  | 12 => .object "UrchinSchool$Table"
  | _ => .object "UrchinSchool$Table"
abbrev wsX70 : List Cond := u_ws RX7 TX7 14
theorem nmX7 : ∀ a, a < 14 → ∀ b, b < 14 → a ≠ b → (TX7 a).2.1 ≠ (TX7 b).2.1 := by decide +kernel
theorem tyX7_ok : ∀ k, k < 14 → parseFieldDescriptor (TX7 k).2.2.1 = some (tyX7 k) := by decide +kernel
abbrev cX7_init : ByteArray := prog_9_method_1_code
def yX7_init : MethodName := ⟨RX7, "<init>", "()V"⟩
abbrev cX7_become : ByteArray := prog_9_method_2_code
def yX7_become : MethodName := ⟨RX7, "become", "(LUrchinSchool$School;)V"⟩
abbrev cX7_becomeRow : ByteArray := prog_9_method_3_code
def yX7_becomeRow : MethodName := ⟨RX7, "becomeRow", "(LUrchinSchool$School;)V"⟩
abbrev cX7_join : ByteArray := prog_9_method_4_code
def yX7_join : MethodName := ⟨RX7, "join", "(II)I"⟩
abbrev cX7_has : ByteArray := prog_9_method_5_code
def yX7_has : MethodName := ⟨RX7, "has", "(I)Z"⟩
abbrev cX7_isOut : ByteArray := prog_9_method_6_code
def yX7_isOut : MethodName := ⟨RX7, "isOut", "(I)Z"⟩
abbrev cX7_putOut : ByteArray := prog_9_method_7_code
def yX7_putOut : MethodName := ⟨RX7, "putOut", "(IZ)V"⟩
abbrev cX7_tellFact : ByteArray := prog_9_method_8_code
def yX7_tellFact : MethodName := ⟨RX7, "tellFact", "(II)V"⟩
abbrev cX7_all : ByteArray := prog_9_method_9_code
def yX7_all : MethodName := ⟨RX7, "all", "()I"⟩
abbrev cX7_held : ByteArray := prog_9_method_10_code
def yX7_held : MethodName := ⟨RX7, "held", "()I"⟩
abbrev cX7_notOut : ByteArray := prog_9_method_11_code
def yX7_notOut : MethodName := ⟨RX7, "notOut", "()I"⟩
abbrev cX7_few : ByteArray := prog_9_method_12_code
def yX7_few : MethodName := ⟨RX7, "few", "()I"⟩
abbrev cX7_knownBy : ByteArray := prog_9_method_13_code
def yX7_knownBy : MethodName := ⟨RX7, "knownBy", "(I)I"⟩
abbrev cX7_lastSeen : ByteArray := prog_9_method_14_code
def yX7_lastSeen : MethodName := ⟨RX7, "lastSeen", "()I"⟩
abbrev cX7_isAsSeen : ByteArray := prog_9_method_15_code
def yX7_isAsSeen : MethodName := ⟨RX7, "isAsSeen", "(LUrchinSchool$Table;I)Z"⟩
abbrev cX7_lessonNow : ByteArray := prog_9_method_16_code
def yX7_lessonNow : MethodName := ⟨RX7, "lessonNow", "()I"⟩
abbrev cX7_goTide : ByteArray := prog_9_method_17_code
def yX7_goTide : MethodName := ⟨RX7, "goTide", "(LUrchinSchool$Heeds;LUrchinSchool$Ledge;I)V"⟩
abbrev cX7_least : ByteArray := prog_9_method_18_code
def yX7_least : MethodName := ⟨RX7, "least", "(II)I"⟩
def RX8 : String := "UrchinSchool$Table"
def TX8 : u_T := fun k => match k with
  | 0 => ("UrchinSchool$Table", "cells", "[I", true)
  | 1 => ("UrchinSchool$Table", "limit", "I", true)
  | _ => ("UrchinSchool$Table", "size", "I", false)
def tyX8 : Nat → FieldType := fun k => match k with
  | 0 => .array .int
  | 1 => .int
  | _ => .int
abbrev wsX80 : List Cond := u_ws RX8 TX8 3
theorem nmX8 : ∀ a, a < 3 → ∀ b, b < 3 → a ≠ b → (TX8 a).2.1 ≠ (TX8 b).2.1 := by decide +kernel
theorem tyX8_ok : ∀ k, k < 3 → parseFieldDescriptor (TX8 k).2.2.1 = some (tyX8 k) := by decide +kernel
abbrev cX8_init : ByteArray := prog_10_method_1_code
def yX8_init : MethodName := ⟨RX8, "<init>", "(I)V"⟩
abbrev cX8_empty : ByteArray := prog_10_method_2_code
def yX8_empty : MethodName := ⟨RX8, "empty", "()I"⟩
abbrev cX8_add : ByteArray := prog_10_method_3_code
def yX8_add : MethodName := ⟨RX8, "add", "(IIII)I"⟩
abbrev cX8_cell : ByteArray := prog_10_method_4_code
def yX8_cell : MethodName := ⟨RX8, "cell", "(II)I"⟩
abbrev cX8_takeOver : ByteArray := prog_10_method_5_code
def yX8_takeOver : MethodName := ⟨RX8, "takeOver", "(LUrchinSchool$Table;)V"⟩
def RX9 : String := "UrchinSchool$Told"
def TX9 : u_T := fun k => match k with
  | 0 => ("UrchinSchool$Urchin", "bodies", "[I", true)
  | 1 => ("UrchinSchool$Urchin", "ran", "I", false)
  | 2 => ("UrchinSchool$Urchin", "i", "I", false)
  | _ => ("UrchinSchool$Urchin", "v", "I", false)
def tyX9 : Nat → FieldType := fun k => match k with
  | 0 => .array .int
  | 1 => .int
  | 2 => .int
  | _ => .int
abbrev wsX90 : List Cond := u_ws RX9 TX9 4
theorem nmX9 : ∀ a, a < 4 → ∀ b, b < 4 → a ≠ b → (TX9 a).2.1 ≠ (TX9 b).2.1 := by decide +kernel
theorem tyX9_ok : ∀ k, k < 4 → parseFieldDescriptor (TX9 k).2.2.1 = some (tyX9 k) := by decide +kernel
abbrev cX9_init : ByteArray := prog_11_method_1_code
def yX9_init : MethodName := ⟨RX9, "<init>", "()V"⟩
abbrev cX9_heed : ByteArray := prog_11_method_2_code
def yX9_heed : MethodName := ⟨RX9, "heed", "(ILUrchinSchool$Heeds;)I"⟩
abbrev cX9_says : ByteArray := prog_11_method_3_code
def yX9_says : MethodName := ⟨RX9, "says", "(I)I"⟩
def RX10 : String := "UrchinSchool$Urchin"
def TX10 : u_T := fun k => match k with
  | 0 => ("UrchinSchool$Urchin", "bodies", "[I", true)
  | 1 => ("UrchinSchool$Urchin", "ran", "I", false)
  | 2 => ("UrchinSchool$Urchin", "i", "I", false)
  | _ => ("UrchinSchool$Urchin", "v", "I", false)
def tyX10 : Nat → FieldType := fun k => match k with
  | 0 => .array .int
  | 1 => .int
  | 2 => .int
  | _ => .int
abbrev wsX100 : List Cond := u_ws RX10 TX10 4
theorem nmX10 : ∀ a, a < 4 → ∀ b, b < 4 → a ≠ b → (TX10 a).2.1 ≠ (TX10 b).2.1 := by decide +kernel
theorem tyX10_ok : ∀ k, k < 4 → parseFieldDescriptor (TX10 k).2.2.1 = some (tyX10 k) := by decide +kernel
abbrev cX10_init : ByteArray := prog_12_method_1_code
def yX10_init : MethodName := ⟨RX10, "<init>", "()V"⟩
abbrev cX10_wake : ByteArray := prog_12_method_2_code
def yX10_wake : MethodName := ⟨RX10, "wake", "(II)V"⟩
abbrev cX10_begin : ByteArray := prog_12_method_3_code
def yX10_begin : MethodName := ⟨RX10, "begin", "(I)V"⟩
abbrev cX10_bodyAt : ByteArray := prog_12_method_4_code
def yX10_bodyAt : MethodName := ⟨RX10, "bodyAt", "(I)I"⟩
abbrev cX10_heed : ByteArray := prog_12_method_5_code
def yX10_heed : MethodName := ⟨RX10, "heed", "(ILUrchinSchool$Heeds;)I"⟩
abbrev cX10_leans : ByteArray := prog_12_method_6_code
def yX10_leans : MethodName := ⟨RX10, "leans", "(I)I"⟩
abbrev cX10_says : ByteArray := prog_12_method_7_code
def yX10_says : MethodName := ⟨RX10, "says", "(I)I"⟩
abbrev cX10_bristles : ByteArray := prog_12_method_8_code
def yX10_bristles : MethodName := ⟨RX10, "bristles", "(I)I"⟩
def RX11 : String := "UrchinSchool"
def TX11 : u_T := fun k => match k with
  | 0 => ("UrchinSchool", "now", "LUrchinSchool$School;", true)
  | 1 => ("UrchinSchool", "kept", "LUrchinSchool$School;", true)
  | 2 => ("UrchinSchool", "ahead", "LUrchinSchool$School;", true)
  | 3 => ("UrchinSchool", "heeds", "LUrchinSchool$Heeds;", true)
  | 4 => ("UrchinSchool", "bare", "LUrchinSchool$Ledge;", true)
  | 5 => ("UrchinSchool", "ledges", "[LUrchinSchool$Ledge;", true)
  | 6 => ("UrchinSchool", "imageTaken", "Z", false)
  | _ => ("UrchinSchool", "actor", "LUrchinSchool$Urchin;", false)
def tyX11 : Nat → FieldType := fun k => match k with
  | 0 => .object "UrchinSchool$School"
  | 1 => .object "UrchinSchool$School"
  | 2 => .object "UrchinSchool$School"
  | 3 => .object "UrchinSchool$Heeds"
  | 4 => .object "UrchinSchool$Ledge"
  | 5 => .array (.object "UrchinSchool$Ledge")
  | 6 => .boolean
  | _ => .object "UrchinSchool$Urchin"
abbrev wsX110 : List Cond := u_ws RX11 TX11 8
theorem nmX11 : ∀ a, a < 8 → ∀ b, b < 8 → a ≠ b → (TX11 a).2.1 ≠ (TX11 b).2.1 := by decide +kernel
theorem tyX11_ok : ∀ k, k < 8 → parseFieldDescriptor (TX11 k).2.2.1 = some (tyX11 k) := by decide +kernel
abbrev cX11_init : ByteArray := prog_1_method_1_code
def yX11_init : MethodName := ⟨RX11, "<init>", "()V"⟩
abbrev cX11_feed : ByteArray := prog_1_method_2_code
def yX11_feed : MethodName := ⟨RX11, "feed", "(I)I"⟩
abbrev cX11_ledge : ByteArray := prog_1_method_3_code
def yX11_ledge : MethodName := ⟨RX11, "ledge", "()I"⟩
abbrev cX11_urchin : ByteArray := prog_1_method_4_code
def yX11_urchin : MethodName := ⟨RX11, "urchin", "(II)I"⟩
abbrev cX11_of : ByteArray := prog_1_method_5_code
def yX11_of : MethodName := ⟨RX11, "of", "(II)I"⟩
abbrev cX11_row : ByteArray := prog_1_method_6_code
def yX11_row : MethodName := ⟨RX11, "row", "(III)I"⟩
abbrev cX11_learn : ByteArray := prog_1_method_7_code
def yX11_learn : MethodName := ⟨RX11, "learn", "(II)I"⟩
abbrev cX11_beach : ByteArray := prog_1_method_8_code
def yX11_beach : MethodName := ⟨RX11, "beach", "(IZ)I"⟩
abbrev cX11_lesson : ByteArray := prog_1_method_9_code
def yX11_lesson : MethodName := ⟨RX11, "lesson", "(II)I"⟩
abbrev cX11_told : ByteArray := prog_1_method_10_code
def yX11_told : MethodName := ⟨RX11, "told", "(I)I"⟩
abbrev cX11_toldLesson : ByteArray := prog_1_method_11_code
def yX11_toldLesson : MethodName := ⟨RX11, "toldLesson", "(I)I"⟩
abbrev cX11_pass : ByteArray := prog_1_method_12_code
def yX11_pass : MethodName := ⟨RX11, "pass", "(I)I"⟩
abbrev cX11_on : ByteArray := prog_1_method_13_code
def yX11_on : MethodName := ⟨RX11, "on", "(II)I"⟩
abbrev cX11_lasts : ByteArray := prog_1_method_14_code
def yX11_lasts : MethodName := ⟨RX11, "lasts", "(I)I"⟩
abbrev cX11_teach : ByteArray := prog_1_method_15_code
def yX11_teach : MethodName := ⟨RX11, "teach", "(II)I"⟩
abbrev cX11_tell : ByteArray := prog_1_method_16_code
def yX11_tell : MethodName := ⟨RX11, "tell", "(I)I"⟩
abbrev cX11_tidesIfTold : ByteArray := prog_1_method_17_code
def yX11_tidesIfTold : MethodName := ⟨RX11, "tidesIfTold", "(II)I"⟩
abbrev cX11_tidesAheadWith : ByteArray := prog_1_method_18_code
def yX11_tidesAheadWith : MethodName := ⟨RX11, "tidesAheadWith", "(I)I"⟩
abbrev cX11_heldIfTaught : ByteArray := prog_1_method_19_code
def yX11_heldIfTaught : MethodName := ⟨RX11, "heldIfTaught", "(II)I"⟩
abbrev cX11_taughtAt : ByteArray := prog_1_method_20_code
def yX11_taughtAt : MethodName := ⟨RX11, "taughtAt", "(III)I"⟩
abbrev cX11_see : ByteArray := prog_1_method_21_code
def yX11_see : MethodName := ⟨RX11, "see", "(IIIZ)I"⟩
abbrev cX11_knew : ByteArray := prog_1_method_22_code
def yX11_knew : MethodName := ⟨RX11, "knew", "(II)I"⟩
abbrev cX11_firm : ByteArray := prog_1_method_23_code
def yX11_firm : MethodName := ⟨RX11, "firm", "(II)I"⟩
abbrev cX11_seenIsSo : ByteArray := prog_1_method_24_code
def yX11_seenIsSo : MethodName := ⟨RX11, "seenIsSo", "()Z"⟩
abbrev cX11_odds : ByteArray := prog_1_method_25_code
def yX11_odds : MethodName := ⟨RX11, "odds", "(III)J"⟩
abbrev cX11_mean : ByteArray := prog_1_method_26_code
def yX11_mean : MethodName := ⟨RX11, "mean", "(I)J"⟩
abbrev cX11_lowest : ByteArray := prog_1_method_27_code
def yX11_lowest : MethodName := ⟨RX11, "lowest", "(III)J"⟩
abbrev cX11_plan : ByteArray := prog_1_method_28_code
def yX11_plan : MethodName := ⟨RX11, "plan", "(II)I"⟩
abbrev cX11_isPlan : ByteArray := prog_1_method_29_code
def yX11_isPlan : MethodName := ⟨RX11, "isPlan", "(II)Z"⟩
abbrev cX11_done : ByteArray := prog_1_method_30_code
def yX11_done : MethodName := ⟨RX11, "done", "(I)I"⟩
abbrev cX11_doPlanned : ByteArray := prog_1_method_31_code
def yX11_doPlanned : MethodName := ⟨RX11, "doPlanned", "(II)V"⟩
abbrev cX11_book : ByteArray := prog_1_method_32_code
def yX11_book : MethodName := ⟨RX11, "book", "(II)I"⟩
abbrev cX11_looked : ByteArray := prog_1_method_33_code
def yX11_looked : MethodName := ⟨RX11, "looked", "()I"⟩
abbrev cX11_act : ByteArray := prog_1_method_34_code
def yX11_act : MethodName := ⟨RX11, "act", "(III)I"⟩
abbrev cX11_trace : ByteArray := prog_1_method_35_code
def yX11_trace : MethodName := ⟨RX11, "trace", "(I)I"⟩
abbrev cX11_as : ByteArray := prog_1_method_36_code
def yX11_as : MethodName := ⟨RX11, "as", "(II)I"⟩
abbrev cX11_image : ByteArray := prog_1_method_37_code
def yX11_image : MethodName := ⟨RX11, "image", "()I"⟩
abbrev cX11_undo : ByteArray := prog_1_method_38_code
def yX11_undo : MethodName := ⟨RX11, "undo", "()I"⟩
abbrev cX11_count : ByteArray := prog_1_method_39_code
def yX11_count : MethodName := ⟨RX11, "count", "(I)I"⟩
abbrev cX11_holding : ByteArray := prog_1_method_40_code
def yX11_holding : MethodName := ⟨RX11, "holding", "()LUrchinSchool$Ledge;"⟩
abbrev cX11_go : ByteArray := prog_1_method_41_code
def yX11_go : MethodName := ⟨RX11, "go", "(LUrchinSchool$School;I)V"⟩
abbrev cX11_isFact : ByteArray := prog_1_method_42_code
def yX11_isFact : MethodName := ⟨RX11, "isFact", "(J)Z"⟩
abbrev cX11_isSet : ByteArray := prog_1_method_43_code
def yX11_isSet : MethodName := ⟨RX11, "isSet", "(I)Z"⟩
abbrev cX11_isNumber : ByteArray := prog_1_method_44_code
def yX11_isNumber : MethodName := ⟨RX11, "isNumber", "(I)Z"⟩
abbrev cX11_isLesson : ByteArray := prog_1_method_45_code
def yX11_isLesson : MethodName := ⟨RX11, "isLesson", "(I)Z"⟩
abbrev cX11_areTides : ByteArray := prog_1_method_46_code
def yX11_areTides : MethodName := ⟨RX11, "areTides", "(I)Z"⟩
abbrev cX11_isPart : ByteArray := prog_1_method_47_code
def yX11_isPart : MethodName := ⟨RX11, "isPart", "(I)Z"⟩
def RX12 : String := "UrchinSchoolModel"
def TX12 : u_T := fun k => match k with
  | 0 => ("UrchinSchoolModel", "thrown", "I", false)
  | 1 => ("UrchinSchoolModel", "s", "[I", true)
  | 2 => ("UrchinSchoolModel", "image", "[I", true)
  | 3 => ("UrchinSchoolModel", "frame", "[I", true)
  | 4 => ("UrchinSchoolModel", "hasImage", "Z", false)
  | 5 => ("UrchinSchoolModel", "act", "I", false)
  | 6 => ("UrchinSchoolModel", "spot", "I", false)
  | 7 => ("UrchinSchoolModel", "end", "I", false)
  | 8 => ("UrchinSchoolModel", "isWrong", "Z", false)
  | 9 => ("UrchinSchoolModel", "open", "I", false)
  | 10 => ("UrchinSchoolModel", "by", "[I", true)
  | 11 => ("UrchinSchoolModel", "truths", "[Z", true)
  | 12 => ("UrchinSchoolModel", "sums", "[I", true)
  | 13 => ("UrchinSchoolModel", "lookedFor", "[I", true)
  | 14 => ("UrchinSchoolModel", "looking", "I", false)
  | 15 => ("UrchinSchoolModel", "next", "[I", true)
  | 16 => ("UrchinSchoolModel", "bodies", "[I", true)
  | 17 => ("UrchinSchoolModel", "ran", "I", false)
  | 18 => ("UrchinSchoolModel", "kind", "I", false)
  | 19 => ("UrchinSchoolModel", "number", "I", false)
  | _ => ("UrchinSchoolModel", "tellsV", "I", false)
def tyX12 : Nat → FieldType := fun k => match k with
  | 0 => .int
  | 1 => .array .int
  | 2 => .array .int
  | 3 => .array .int
  | 4 => .boolean
  | 5 => .int
  | 6 => .int
  | 7 => .int
  | 8 => .boolean
  | 9 => .int
  | 10 => .array .int
  | 11 => .array .boolean
  | 12 => .array .int
  | 13 => .array .int
  | 14 => .int
  | 15 => .array .int
  | 16 => .array .int
  | 17 => .int
  | 18 => .int
  | 19 => .int
  | _ => .int
abbrev wsX120 : List Cond := u_ws RX12 TX12 21
theorem nmX12 : ∀ a, a < 21 → ∀ b, b < 21 → a ≠ b → (TX12 a).2.1 ≠ (TX12 b).2.1 := by decide +kernel
theorem tyX12_ok : ∀ k, k < 21 → parseFieldDescriptor (TX12 k).2.2.1 = some (tyX12 k) := by decide +kernel
abbrev cX12_init : ByteArray := prog_14_method_1_code
def yX12_init : MethodName := ⟨RX12, "<init>", "()V"⟩
abbrev cX12_in : ByteArray := prog_14_method_3_code
def yX12_in : MethodName := ⟨RX12, "in", "(III)Z"⟩
abbrev cX12_isUrchin : ByteArray := prog_14_method_4_code
def yX12_isUrchin : MethodName := ⟨RX12, "isUrchin", "(I)Z"⟩
abbrev cX12_isFact : ByteArray := prog_14_method_5_code
def yX12_isFact : MethodName := ⟨RX12, "isFact", "(I)Z"⟩
abbrev cX12_keeps : ByteArray := prog_14_method_6_code
def yX12_keeps : MethodName := ⟨RX12, "keeps", "()V"⟩
abbrev cX12_goesBack : ByteArray := prog_14_method_7_code
def yX12_goesBack : MethodName := ⟨RX12, "goesBack", "()V"⟩
abbrev cX12_feed : ByteArray := prog_14_method_8_code
def yX12_feed : MethodName := ⟨RX12, "feed", "(I)I"⟩
abbrev cX12_here : ByteArray := prog_14_method_9_code
def yX12_here : MethodName := ⟨RX12, "here", "()I"⟩
abbrev cX12_must : ByteArray := prog_14_method_10_code
def yX12_must : MethodName := ⟨RX12, "must", "(I)V"⟩
abbrev cX12_spells : ByteArray := prog_14_method_11_code
def yX12_spells : MethodName := ⟨RX12, "spells", "(Ljava/lang/String;)V"⟩
abbrev cX12_figures : ByteArray := prog_14_method_12_code
def yX12_figures : MethodName := ⟨RX12, "figures", "()I"⟩
abbrev cX12_among : ByteArray := prog_14_method_13_code
def yX12_among : MethodName := ⟨RX12, "among", "(Ljava/lang/String;)I"⟩
abbrev cX12_emits : ByteArray := prog_14_method_14_code
def yX12_emits : MethodName := ⟨RX12, "emits", "(I)V"⟩
abbrev cX12_factor : ByteArray := prog_14_method_15_code
def yX12_factor : MethodName := ⟨RX12, "factor", "()V"⟩
abbrev cX12_every : ByteArray := prog_14_method_16_code
def yX12_every : MethodName := ⟨RX12, "every", "()V"⟩
abbrev cX12_some : ByteArray := prog_14_method_17_code
def yX12_some : MethodName := ⟨RX12, "some", "()V"⟩
abbrev cX12_much : ByteArray := prog_14_method_18_code
def yX12_much : MethodName := ⟨RX12, "much", "(ILjava/lang/String;)V"⟩
abbrev cX12_tellsHere : ByteArray := prog_14_method_19_code
def yX12_tellsHere : MethodName := ⟨RX12, "tellsHere", "(ILjava/lang/String;)V"⟩
abbrev cX12_clauseHere : ByteArray := prog_14_method_20_code
def yX12_clauseHere : MethodName := ⟨RX12, "clauseHere", "()V"⟩
abbrev cX12_ledge : ByteArray := prog_14_method_21_code
def yX12_ledge : MethodName := ⟨RX12, "ledge", "()I"⟩
abbrev cX12_tellsOf : ByteArray := prog_14_method_22_code
def yX12_tellsOf : MethodName := ⟨RX12, "tellsOf", "(II)I"⟩
abbrev cX12_countOf : ByteArray := prog_14_method_23_code
def yX12_countOf : MethodName := ⟨RX12, "countOf", "(I)I"⟩
abbrev cX12_clausesOf : ByteArray := prog_14_method_24_code
def yX12_clausesOf : MethodName := ⟨RX12, "clausesOf", "(IIII)I"⟩
abbrev cX12_looksAnew : ByteArray := prog_14_method_25_code
def yX12_looksAnew : MethodName := ⟨RX12, "looksAnew", "()V"⟩
abbrev cX12_sumOf : ByteArray := prog_14_method_26_code
def yX12_sumOf : MethodName := ⟨RX12, "sumOf", "(II)I"⟩
abbrev cX12_heedOf : ByteArray := prog_14_method_27_code
def yX12_heedOf : MethodName := ⟨RX12, "heedOf", "(II)I"⟩
abbrev cX12_becomes : ByteArray := prog_14_method_28_code
def yX12_becomes : MethodName := ⟨RX12, "becomes", "(II)I"⟩
abbrev cX12_urchin : ByteArray := prog_14_method_29_code
def yX12_urchin : MethodName := ⟨RX12, "urchin", "(II)I"⟩
abbrev cX12_of : ByteArray := prog_14_method_30_code
def yX12_of : MethodName := ⟨RX12, "of", "(II)I"⟩
abbrev cX12_row : ByteArray := prog_14_method_31_code
def yX12_row : MethodName := ⟨RX12, "row", "(III)I"⟩
abbrev cX12_learn : ByteArray := prog_14_method_32_code
def yX12_learn : MethodName := ⟨RX12, "learn", "(II)I"⟩
abbrev cX12_beach : ByteArray := prog_14_method_33_code
def yX12_beach : MethodName := ⟨RX12, "beach", "(IZ)I"⟩
abbrev cX12_lesson : ByteArray := prog_14_method_34_code
def yX12_lesson : MethodName := ⟨RX12, "lesson", "(II)I"⟩
abbrev cX12_knownByAny : ByteArray := prog_14_method_35_code
def yX12_knownByAny : MethodName := ⟨RX12, "knownByAny", "()I"⟩
abbrev cX12_heldByAll : ByteArray := prog_14_method_36_code
def yX12_heldByAll : MethodName := ⟨RX12, "heldByAll", "()I"⟩
abbrev cX12_awayOnes : ByteArray := prog_14_method_37_code
def yX12_awayOnes : MethodName := ⟨RX12, "awayOnes", "()I"⟩
abbrev cX12_knownBy : ByteArray := prog_14_method_38_code
def yX12_knownBy : MethodName := ⟨RX12, "knownBy", "(I)I"⟩
abbrev cX12_fewest : ByteArray := prog_14_method_39_code
def yX12_fewest : MethodName := ⟨RX12, "fewest", "()I"⟩
abbrev cX12_told : ByteArray := prog_14_method_40_code
def yX12_told : MethodName := ⟨RX12, "told", "(I)I"⟩
abbrev cX12_isPassed : ByteArray := prog_14_method_41_code
def yX12_isPassed : MethodName := ⟨RX12, "isPassed", "(II)Z"⟩
abbrev cX12_isKnownNext : ByteArray := prog_14_method_42_code
def yX12_isKnownNext : MethodName := ⟨RX12, "isKnownNext", "(III)Z"⟩
abbrev cX12_knownNext : ByteArray := prog_14_method_43_code
def yX12_knownNext : MethodName := ⟨RX12, "knownNext", "(II)I"⟩
abbrev cX12_goesBy : ByteArray := prog_14_method_44_code
def yX12_goesBy : MethodName := ⟨RX12, "goesBy", "(I)V"⟩
abbrev cX12_goes : ByteArray := prog_14_method_45_code
def yX12_goes : MethodName := ⟨RX12, "goes", "()V"⟩
abbrev cX12_goesOn : ByteArray := prog_14_method_46_code
def yX12_goesOn : MethodName := ⟨RX12, "goesOn", "(I)V"⟩
abbrev cX12_pass : ByteArray := prog_14_method_47_code
def yX12_pass : MethodName := ⟨RX12, "pass", "(I)I"⟩
abbrev cX12_on : ByteArray := prog_14_method_48_code
def yX12_on : MethodName := ⟨RX12, "on", "(II)I"⟩
abbrev cX12_tidesKnown : ByteArray := prog_14_method_49_code
def yX12_tidesKnown : MethodName := ⟨RX12, "tidesKnown", "(I)I"⟩
abbrev cX12_lasts : ByteArray := prog_14_method_50_code
def yX12_lasts : MethodName := ⟨RX12, "lasts", "(I)I"⟩
abbrev cX12_tell : ByteArray := prog_14_method_51_code
def yX12_tell : MethodName := ⟨RX12, "tell", "(I)I"⟩
abbrev cX12_heldBehind : ByteArray := prog_14_method_52_code
def yX12_heldBehind : MethodName := ⟨RX12, "heldBehind", "(II)I"⟩
abbrev cX12_teach : ByteArray := prog_14_method_53_code
def yX12_teach : MethodName := ⟨RX12, "teach", "(II)I"⟩
abbrev cX12_see : ByteArray := prog_14_method_54_code
def yX12_see : MethodName := ⟨RX12, "see", "(IIIZ)I"⟩
abbrev cX12_isAsSeen : ByteArray := prog_14_method_55_code
def yX12_isAsSeen : MethodName := ⟨RX12, "isAsSeen", "(I)Z"⟩
abbrev cX12_areAsSeen : ByteArray := prog_14_method_56_code
def yX12_areAsSeen : MethodName := ⟨RX12, "areAsSeen", "()Z"⟩
abbrev cX12_fitting : ByteArray := prog_14_method_57_code
def yX12_fitting : MethodName := ⟨RX12, "fitting", "(III)I"⟩
abbrev cX12_knew : ByteArray := prog_14_method_58_code
def yX12_knew : MethodName := ⟨RX12, "knew", "(II)I"⟩
abbrev cX12_firm : ByteArray := prog_14_method_59_code
def yX12_firm : MethodName := ⟨RX12, "firm", "(II)I"⟩
abbrev cX12_lowest : ByteArray := prog_14_method_60_code
def yX12_lowest : MethodName := ⟨RX12, "lowest", "(JJI)J"⟩
abbrev cX12_odds : ByteArray := prog_14_method_61_code
def yX12_odds : MethodName := ⟨RX12, "odds", "(III)J"⟩
abbrev cX12_mean : ByteArray := prog_14_method_62_code
def yX12_mean : MethodName := ⟨RX12, "mean", "(I)J"⟩
abbrev cX12_isPlan : ByteArray := prog_14_method_63_code
def yX12_isPlan : MethodName := ⟨RX12, "isPlan", "(II)Z"⟩
abbrev cX12_plan : ByteArray := prog_14_method_64_code
def yX12_plan : MethodName := ⟨RX12, "plan", "(II)I"⟩
abbrev cX12_does : ByteArray := prog_14_method_65_code
def yX12_does : MethodName := ⟨RX12, "does", "(II)V"⟩
abbrev cX12_done : ByteArray := prog_14_method_66_code
def yX12_done : MethodName := ⟨RX12, "done", "(I)I"⟩
abbrev cX12_book : ByteArray := prog_14_method_67_code
def yX12_book : MethodName := ⟨RX12, "book", "(II)I"⟩
abbrev cX12_looked : ByteArray := prog_14_method_68_code
def yX12_looked : MethodName := ⟨RX12, "looked", "()I"⟩
abbrev cX12_ranBody : ByteArray := prog_14_method_69_code
def yX12_ranBody : MethodName := ⟨RX12, "ranBody", "(I)V"⟩
abbrev cX12_isUnder : ByteArray := prog_14_method_70_code
def yX12_isUnder : MethodName := ⟨RX12, "isUnder", "(II)Z"⟩
abbrev cX12_plainLeans : ByteArray := prog_14_method_71_code
def yX12_plainLeans : MethodName := ⟨RX12, "plainLeans", "(I)I"⟩
abbrev cX12_leansActs : ByteArray := prog_14_method_72_code
def yX12_leansActs : MethodName := ⟨RX12, "leansActs", "(I)I"⟩
abbrev cX12_plainSays : ByteArray := prog_14_method_73_code
def yX12_plainSays : MethodName := ⟨RX12, "plainSays", "(I)I"⟩
abbrev cX12_saysActs : ByteArray := prog_14_method_74_code
def yX12_saysActs : MethodName := ⟨RX12, "saysActs", "(I)I"⟩
abbrev cX12_plainTelling : ByteArray := prog_14_method_75_code
def yX12_plainTelling : MethodName := ⟨RX12, "plainTelling", "(I)I"⟩
abbrev cX12_bristlesActs : ByteArray := prog_14_method_76_code
def yX12_bristlesActs : MethodName := ⟨RX12, "bristlesActs", "(I)I"⟩
abbrev cX12_act : ByteArray := prog_14_method_77_code
def yX12_act : MethodName := ⟨RX12, "act", "(III)I"⟩
abbrev cX12_trace : ByteArray := prog_14_method_78_code
def yX12_trace : MethodName := ⟨RX12, "trace", "(I)I"⟩
abbrev cX12_as : ByteArray := prog_14_method_79_code
def yX12_as : MethodName := ⟨RX12, "as", "(II)I"⟩
abbrev cX12_image : ByteArray := prog_14_method_80_code
def yX12_image : MethodName := ⟨RX12, "image", "()I"⟩
abbrev cX12_undo : ByteArray := prog_14_method_81_code
def yX12_undo : MethodName := ⟨RX12, "undo", "()I"⟩
abbrev cX12_count : ByteArray := prog_14_method_82_code
def yX12_count : MethodName := ⟨RX12, "count", "(I)I"⟩
def RJx145de : String := "java/io/Serializable"
def TJx145de : u_T := fun k => match k with
  | _ => ("", "", "", false)
def tyJx145de : Nat → FieldType := fun k => match k with
  | _ => .int
def RJx9f9b0 : String := "java/lang/CharSequence"
def TJx9f9b0 : u_T := fun k => match k with
  | _ => ("", "", "", false)
def tyJx9f9b0 : Nat → FieldType := fun k => match k with
  | _ => .int
def RJ11 : String := "java/lang/Character"
def TJ11 : u_T := fun k => match k with
  | _ => ("", "", "", false)
def tyJ11 : Nat → FieldType := fun k => match k with
  | _ => .int
abbrev cJ11_isValidCodePoint_9a6ad : ByteArray := prog_15_method_11_code
def yJ11_isValidCodePoint_9a6ad : MethodName := ⟨RJ11, "isValidCodePoint", "(I)Z"⟩
abbrev cJ11_highSurrogate_5068e : ByteArray := prog_15_method_28_code
def yJ11_highSurrogate_5068e : MethodName := ⟨RJ11, "highSurrogate", "(I)C"⟩
abbrev cJ11_lowSurrogate_5068e : ByteArray := prog_15_method_29_code
def yJ11_lowSurrogate_5068e : MethodName := ⟨RJ11, "lowSurrogate", "(I)C"⟩
def RJxb160c : String := "java/lang/Comparable"
def TJxb160c : u_T := fun k => match k with
  | _ => ("", "", "", false)
def tyJxb160c : Nat → FieldType := fun k => match k with
  | _ => .int
def RJ6 : String := "java/lang/Integer"
def TJ6 : u_T := fun k => match k with
  | _ => ("", "", "", false)
def tyJ6 : Nat → FieldType := fun k => match k with
  | _ => .int
abbrev cJ6_bitCount_0f7a4 : ByteArray := prog_16_method_49_code
def yJ6_bitCount_0f7a4 : MethodName := ⟨RJ6, "bitCount", "(I)I"⟩
def RJ9 : String := "java/lang/Math"
def TJ9 : u_T := fun k => match k with
  | _ => ("", "", "", false)
def tyJ9 : Nat → FieldType := fun k => match k with
  | _ => .int
abbrev cJ9_max_7cf53 : ByteArray := prog_17_method_65_code
def yJ9_max_7cf53 : MethodName := ⟨RJ9, "max", "(II)I"⟩
abbrev cJ9_min_7cf53 : ByteArray := prog_17_method_69_code
def yJ9_min_7cf53 : MethodName := ⟨RJ9, "min", "(II)I"⟩
def RJ0 : String := "java/lang/String"
def TJ0 : u_T := fun k => match k with
  | _ => ("", "", "", false)
def tyJ0 : Nat → FieldType := fun k => match k with
  | _ => .int
abbrev cJ0_length_8abf5 : ByteArray := prog_18_method_54_code
def yJ0_length_8abf5 : MethodName := ⟨RJ0, "length", "()I"⟩
abbrev cJ0_charAt_5068e : ByteArray := prog_18_method_56_code
def yJ0_charAt_5068e : MethodName := ⟨RJ0, "charAt", "(I)C"⟩
abbrev cJ0_indexOf_0f7a4 : ByteArray := prog_18_method_79_code
def yJ0_indexOf_0f7a4 : MethodName := ⟨RJ0, "indexOf", "(I)I"⟩
abbrev cJ0_indexOf_7cf53 : ByteArray := prog_18_method_80_code
def yJ0_indexOf_7cf53 : MethodName := ⟨RJ0, "indexOf", "(II)I"⟩
abbrev cJ0_coder_7d493 : ByteArray := prog_18_method_152_code
def yJ0_coder_7d493 : MethodName := ⟨RJ0, "coder", "()B"⟩
abbrev cJ0_isLatin1_aae02 : ByteArray := prog_18_method_154_code
def yJ0_isLatin1_aae02 : MethodName := ⟨RJ0, "isLatin1", "()Z"⟩
abbrev cJ0_checkIndex_df160 : ByteArray := prog_18_method_155_code
def yJ0_checkIndex_df160 : MethodName := ⟨RJ0, "checkIndex", "(II)V"⟩
abbrev cJ0_checkBoundsBeginEnd_23922 : ByteArray := prog_18_method_158_code
def yJ0_checkBoundsBeginEnd_23922 : MethodName := ⟨RJ0, "checkBoundsBeginEnd", "(III)V"⟩
def RJ1 : String := "java/lang/StringLatin1"
def TJ1 : u_T := fun k => match k with
  | _ => ("", "", "", false)
def tyJ1 : Nat → FieldType := fun k => match k with
  | _ => .int
abbrev cJ1_charAt_3b067 : ByteArray := prog_19_method_2_code
def yJ1_charAt_3b067 : MethodName := ⟨RJ1, "charAt", "([BI)C"⟩
abbrev cJ1_canEncode_9a6ad : ByteArray := prog_19_method_4_code
def yJ1_canEncode_9a6ad : MethodName := ⟨RJ1, "canEncode", "(I)Z"⟩
abbrev cJ1_indexOf_4cfef : ByteArray := prog_19_method_22_code
def yJ1_indexOf_4cfef : MethodName := ⟨RJ1, "indexOf", "([BIII)I"⟩
abbrev cJ1_indexOfChar_4cfef : ByteArray := prog_19_method_23_code
def yJ1_indexOfChar_4cfef : MethodName := ⟨RJ1, "indexOfChar", "([BIII)I"⟩
def RJ2 : String := "java/lang/StringUTF16"
def TJ2 : u_T := fun k => match k with
  | _ => ("", "", "", false)
def tyJ2 : Nat → FieldType := fun k => match k with
  | _ => .int
abbrev cJ2_getChar_3b067 : ByteArray := prog_20_method_5_code
def yJ2_getChar_3b067 : MethodName := ⟨RJ2, "getChar", "([BI)C"⟩
abbrev cJ2_length_9d52b : ByteArray := prog_20_method_6_code
def yJ2_length_9d52b : MethodName := ⟨RJ2, "length", "([B)I"⟩
abbrev cJ2_indexOf_4cfef : ByteArray := prog_20_method_40_code
def yJ2_indexOf_4cfef : MethodName := ⟨RJ2, "indexOf", "([BIII)I"⟩
abbrev cJ2_indexOfChar_4cfef : ByteArray := prog_20_method_47_code
def yJ2_indexOfChar_4cfef : MethodName := ⟨RJ2, "indexOfChar", "([BIII)I"⟩
abbrev cJ2_indexOfCharUnsafe_4cfef : ByteArray := prog_20_method_48_code
def yJ2_indexOfCharUnsafe_4cfef : MethodName := ⟨RJ2, "indexOfCharUnsafe", "([BIII)I"⟩
abbrev cJ2_indexOfSupplementary_4cfef : ByteArray := prog_20_method_49_code
def yJ2_indexOfSupplementary_4cfef : MethodName := ⟨RJ2, "indexOfSupplementary", "([BIII)I"⟩
abbrev cJ2_charAt_3b067 : ByteArray := prog_20_method_83_code
def yJ2_charAt_3b067 : MethodName := ⟨RJ2, "charAt", "([BI)C"⟩
abbrev cJ2_checkIndex_2214a : ByteArray := prog_20_method_91_code
def yJ2_checkIndex_2214a : MethodName := ⟨RJ2, "checkIndex", "(I[B)V"⟩
abbrev cJ2_checkBoundsBeginEnd_d044e : ByteArray := prog_20_method_93_code
def yJ2_checkBoundsBeginEnd_d044e : MethodName := ⟨RJ2, "checkBoundsBeginEnd", "(II[B)V"⟩
def RJ10 : String := "java/lang/System"
def TJ10 : u_T := fun k => match k with
  | _ => ("", "", "", false)
def tyJ10 : Nat → FieldType := fun k => match k with
  | _ => .int
def RJxfd54e : String := "java/lang/constant/Constable"
def TJxfd54e : u_T := fun k => match k with
  | _ => ("", "", "", false)
def tyJxfd54e : Nat → FieldType := fun k => match k with
  | _ => .int
def RJx3cf43 : String := "java/lang/constant/ConstantDesc"
def TJx3cf43 : u_T := fun k => match k with
  | _ => ("", "", "", false)
def tyJx3cf43 : Nat → FieldType := fun k => match k with
  | _ => .int
def RJ7 : String := "java/util/Arrays"
def TJ7 : u_T := fun k => match k with
  | _ => ("", "", "", false)
def tyJ7 : Nat → FieldType := fun k => match k with
  | _ => .int
abbrev cJ7_fill_53178 : ByteArray := prog_22_method_103_code
def yJ7_fill_53178 : MethodName := ⟨RJ7, "fill", "([II)V"⟩
def RJ3 : String := "jdk/internal/util/Preconditions"
def TJ3 : u_T := fun k => match k with
  | _ => ("", "", "", false)
def tyJ3 : Nat → FieldType := fun k => match k with
  | _ => .int
abbrev cJ3_checkIndex_8e157 : ByteArray := prog_23_method_11_code
def yJ3_checkIndex_8e157 : MethodName := ⟨RJ3, "checkIndex", "(IILjava/util/function/BiFunction;)I"⟩
abbrev cJ3_checkFromToIndex_8c36e : ByteArray := prog_23_method_12_code
def yJ3_checkFromToIndex_8c36e : MethodName := ⟨RJ3, "checkFromToIndex", "(IIILjava/util/function/BiFunction;)I"⟩
def RL : String := "UrchinSchoolLaw"
abbrev cL_law : ByteArray := code
def yL_law : MethodName := ⟨RL, "law", "([I)Z"⟩
abbrev vwCl : List vw_C := [(RX0, TX0, 4), (RX1, TX1, 11), (RX2, TX2, 4), (RX3, TX3, 4), (RX4, TX4, 10), (RX5, TX5, 4), (RX6, TX6, 4), (RX7, TX7, 14), (RX8, TX8, 3), (RX9, TX9, 4), (RX10, TX10, 4), (RX11, TX11, 8), (RX12, TX12, 21)]
abbrev jX11_init : Nat := 0
abbrev jX7_init : Nat := 1
abbrev jX8_init : Nat := 2
abbrev jJ9_min_7cf53 : Nat := 3
abbrev jX1_init : Nat := 4
abbrev jX10_init : Nat := 5
abbrev jX3_init : Nat := 6
abbrev jX2_init : Nat := 7
abbrev jX0_init : Nat := 8
abbrev jX5_init : Nat := 9
abbrev jX6_init : Nat := 10
abbrev jX9_init : Nat := 11
abbrev jX4_init : Nat := 12
abbrev jX11_feed : Nat := 13
abbrev jX11_ledge : Nat := 14
abbrev jX4_read : Nat := 15
abbrev jX4_advance : Nat := 16
abbrev jX4_readClause : Nat := 17
abbrev jX4_wordOf : Nat := 18
abbrev jX4_takeWord : Nat := 19
abbrev jJ0_length_8abf5 : Nat := 20
abbrev jJ0_coder_7d493 : Nat := 21
abbrev jJ0_charAt_5068e : Nat := 22
abbrev jJ0_isLatin1_aae02 : Nat := 23
abbrev jJ1_charAt_3b067 : Nat := 24
abbrev jJ0_checkIndex_df160 : Nat := 25
abbrev jJ3_checkIndex_8e157 : Nat := 26
abbrev jJ2_charAt_3b067 : Nat := 27
abbrev jJ2_checkIndex_2214a : Nat := 28
abbrev jJ2_length_9d52b : Nat := 29
abbrev jJ2_getChar_3b067 : Nat := 30
abbrev jX4_take : Nat := 31
abbrev jX4_readNumber : Nat := 32
abbrev jX4_isDigit : Nat := 33
abbrev jX4_readEither : Nat := 34
abbrev jX4_readBoth : Nat := 35
abbrev jX4_readPart : Nat := 36
abbrev jX4_readTest : Nat := 37
abbrev jX4_placeOf : Nat := 38
abbrev jJ0_indexOf_0f7a4 : Nat := 39
abbrev jJ0_indexOf_7cf53 : Nat := 40
abbrev jJ1_indexOf_4cfef : Nat := 41
abbrev jJ1_canEncode_9a6ad : Nat := 42
abbrev jJ9_max_7cf53 : Nat := 43
abbrev jJ1_indexOfChar_4cfef : Nat := 44
abbrev jJ2_indexOf_4cfef : Nat := 45
abbrev jJ2_indexOfChar_4cfef : Nat := 46
abbrev jJ2_checkBoundsBeginEnd_d044e : Nat := 47
abbrev jJ0_checkBoundsBeginEnd_23922 : Nat := 48
abbrev jJ3_checkFromToIndex_8c36e : Nat := 49
abbrev jJ2_indexOfCharUnsafe_4cfef : Nat := 50
abbrev jJ2_indexOfSupplementary_4cfef : Nat := 51
abbrev jJ11_isValidCodePoint_9a6ad : Nat := 52
abbrev jJ11_highSurrogate_5068e : Nat := 53
abbrev jJ11_lowSurrogate_5068e : Nat := 54
abbrev jX4_put : Nat := 55
abbrev jX11_urchin : Nat := 56
abbrev jX11_isNumber : Nat := 57
abbrev jX7_join : Nat := 58
abbrev jX7_putOut : Nat := 59
abbrev jX11_of : Nat := 60
abbrev jX7_has : Nat := 61
abbrev jX7_isOut : Nat := 62
abbrev jX11_isFact : Nat := 63
abbrev jX11_holding : Nat := 64
abbrev jX1_heedOf : Nat := 65
abbrev jX1_look : Nat := 66
abbrev jJ6_bitCount_0f7a4 : Nat := 67
abbrev jX1_kindOf : Nat := 68
abbrev jX4_sum : Nat := 69
abbrev jX4_holds : Nat := 70
abbrev jX4_joined : Nat := 71
abbrev jX0_heed : Nat := 72
abbrev jX2_heed : Nat := 73
abbrev jX3_heed : Nat := 74
abbrev jX5_heed : Nat := 75
abbrev jX6_heed : Nat := 76
abbrev jX9_heed : Nat := 77
abbrev jX10_heed : Nat := 78
abbrev jX11_row : Nat := 79
abbrev jX11_isLesson : Nat := 80
abbrev jX11_learn : Nat := 81
abbrev jX11_isSet : Nat := 82
abbrev jX11_beach : Nat := 83
abbrev jX11_lesson : Nat := 84
abbrev jX11_told : Nat := 85
abbrev jX7_all : Nat := 86
abbrev jX7_held : Nat := 87
abbrev jX7_few : Nat := 88
abbrev jX7_knownBy : Nat := 89
abbrev jX11_toldLesson : Nat := 90
abbrev jX11_pass : Nat := 91
abbrev jX11_areTides : Nat := 92
abbrev jX1_forget : Nat := 93
abbrev jJ7_fill_53178 : Nat := 94
abbrev jX11_go : Nat := 95
abbrev jX7_lessonNow : Nat := 96
abbrev jX7_goTide : Nat := 97
abbrev jX1_setsOf : Nat := 98
abbrev jX1_weigh : Nat := 99
abbrev jX7_least : Nat := 100
abbrev jX11_on : Nat := 101
abbrev jX7_becomeRow : Nat := 102
abbrev jX11_lasts : Nat := 103
abbrev jX11_tidesAheadWith : Nat := 104
abbrev jX11_teach : Nat := 105
abbrev jX11_heldIfTaught : Nat := 106
abbrev jX11_taughtAt : Nat := 107
abbrev jX11_tell : Nat := 108
abbrev jX11_tidesIfTold : Nat := 109
abbrev jX7_tellFact : Nat := 110
abbrev jX11_see : Nat := 111
abbrev jX8_empty : Nat := 112
abbrev jX8_add : Nat := 113
abbrev jX11_knew : Nat := 114
abbrev jX11_isPart : Nat := 115
abbrev jX11_seenIsSo : Nat := 116
abbrev jX7_lastSeen : Nat := 117
abbrev jX8_cell : Nat := 118
abbrev jX7_isAsSeen : Nat := 119
abbrev jX11_firm : Nat := 120
abbrev jX11_odds : Nat := 121
abbrev jX7_notOut : Nat := 122
abbrev jX11_lowest : Nat := 123
abbrev jX11_mean : Nat := 124
abbrev jX11_plan : Nat := 125
abbrev jX11_isPlan : Nat := 126
abbrev jX11_done : Nat := 127
abbrev jX11_doPlanned : Nat := 128
abbrev jX11_book : Nat := 129
abbrev jX11_looked : Nat := 130
abbrev jX11_act : Nat := 131
abbrev jX10_wake : Nat := 132
abbrev jX3_leans : Nat := 133
abbrev jX10_begin : Nat := 134
abbrev jX6_leans : Nat := 135
abbrev jX10_leans : Nat := 136
abbrev jX2_says : Nat := 137
abbrev jX9_says : Nat := 138
abbrev jX10_says : Nat := 139
abbrev jX0_bristles : Nat := 140
abbrev jX5_bristles : Nat := 141
abbrev jX10_bristles : Nat := 142
abbrev jX11_trace : Nat := 143
abbrev jX10_bodyAt : Nat := 144
abbrev jX11_as : Nat := 145
abbrev jX11_image : Nat := 146
abbrev jX7_become : Nat := 147
abbrev jX8_takeOver : Nat := 148
abbrev jX11_undo : Nat := 149
abbrev jX11_count : Nat := 150
abbrev jX12_init : Nat := 151
abbrev jX12_feed : Nat := 152
abbrev jX12_in : Nat := 153
abbrev jX12_ledge : Nat := 154
abbrev jX12_clauseHere : Nat := 155
abbrev jX12_here : Nat := 156
abbrev jX12_tellsHere : Nat := 157
abbrev jX12_spells : Nat := 158
abbrev jX12_must : Nat := 159
abbrev jX12_figures : Nat := 160
abbrev jX12_much : Nat := 161
abbrev jX12_some : Nat := 162
abbrev jX12_every : Nat := 163
abbrev jX12_factor : Nat := 164
abbrev jX12_emits : Nat := 165
abbrev jX12_among : Nat := 166
abbrev jX12_urchin : Nat := 167
abbrev jX12_of : Nat := 168
abbrev jX12_isUrchin : Nat := 169
abbrev jX12_looksAnew : Nat := 170
abbrev jX12_isFact : Nat := 171
abbrev jX12_heedOf : Nat := 172
abbrev jX12_sumOf : Nat := 173
abbrev jX12_countOf : Nat := 174
abbrev jX12_clausesOf : Nat := 175
abbrev jX12_tellsOf : Nat := 176
abbrev jX12_row : Nat := 177
abbrev jX12_becomes : Nat := 178
abbrev jX12_learn : Nat := 179
abbrev jX12_beach : Nat := 180
abbrev jX12_lesson : Nat := 181
abbrev jX12_told : Nat := 182
abbrev jX12_knownByAny : Nat := 183
abbrev jX12_heldByAll : Nat := 184
abbrev jX12_awayOnes : Nat := 185
abbrev jX12_fewest : Nat := 186
abbrev jX12_knownBy : Nat := 187
abbrev jX12_pass : Nat := 188
abbrev jX12_goesOn : Nat := 189
abbrev jX12_goes : Nat := 190
abbrev jX12_goesBy : Nat := 191
abbrev jX12_knownNext : Nat := 192
abbrev jX12_isKnownNext : Nat := 193
abbrev jX12_isPassed : Nat := 194
abbrev jX12_on : Nat := 195
abbrev jX12_keeps : Nat := 196
abbrev jX12_goesBack : Nat := 197
abbrev jX12_lasts : Nat := 198
abbrev jX12_tidesKnown : Nat := 199
abbrev jX12_tell : Nat := 200
abbrev jX12_teach : Nat := 201
abbrev jX12_heldBehind : Nat := 202
abbrev jX12_see : Nat := 203
abbrev jX12_knew : Nat := 204
abbrev jX12_fitting : Nat := 205
abbrev jX12_areAsSeen : Nat := 206
abbrev jX12_isAsSeen : Nat := 207
abbrev jX12_firm : Nat := 208
abbrev jX12_odds : Nat := 209
abbrev jX12_lowest : Nat := 210
abbrev jX12_mean : Nat := 211
abbrev jX12_plan : Nat := 212
abbrev jX12_isPlan : Nat := 213
abbrev jX12_done : Nat := 214
abbrev jX12_does : Nat := 215
abbrev jX12_book : Nat := 216
abbrev jX12_looked : Nat := 217
abbrev jX12_act : Nat := 218
abbrev jX12_leansActs : Nat := 219
abbrev jX12_isUnder : Nat := 220
abbrev jX12_ranBody : Nat := 221
abbrev jX12_plainLeans : Nat := 222
abbrev jX12_saysActs : Nat := 223
abbrev jX12_plainSays : Nat := 224
abbrev jX12_bristlesActs : Nat := 225
abbrev jX12_plainTelling : Nat := 226
abbrev jX12_trace : Nat := 227
abbrev jX12_as : Nat := 228
abbrev jX12_image : Nat := 229
abbrev jX12_undo : Nat := 230
abbrev jX12_count : Nat := 231
def mtL : List (MethodName × ByteArray × Nat × Option FieldType) := [(yX11_init, cX11_init, 1, none),
  (yX7_init, cX7_init, 1, none),
  (yX8_init, cX8_init, 2, none),
  (yJ9_min_7cf53, cJ9_min_7cf53, 2, (some FieldType.int)),
  (yX1_init, cX1_init, 1, none),
  (yX10_init, cX10_init, 1, none),
  (yX3_init, cX3_init, 1, none),
  (yX2_init, cX2_init, 1, none),
  (yX0_init, cX0_init, 1, none),
  (yX5_init, cX5_init, 1, none),
  (yX6_init, cX6_init, 1, none),
  (yX9_init, cX9_init, 1, none),
  (yX4_init, cX4_init, 1, none),
  (yX11_feed, cX11_feed, 2, (some FieldType.int)),
  (yX11_ledge, cX11_ledge, 2, (some FieldType.int)),
  (yX4_read, cX4_read, 4, (some FieldType.int)),
  (yX4_advance, cX4_advance, 1, none),
  (yX4_readClause, cX4_readClause, 3, (some FieldType.boolean)),
  (yX4_wordOf, cX4_wordOf, 1, (some (FieldType.object "java/lang/String"))),
  (yX4_takeWord, cX4_takeWord, 3, (some FieldType.boolean)),
  (yJ0_length_8abf5, cJ0_length_8abf5, 1, (some FieldType.int)),
  (yJ0_coder_7d493, cJ0_coder_7d493, 1, (some FieldType.byte)),
  (yJ0_charAt_5068e, cJ0_charAt_5068e, 2, (some FieldType.char)),
  (yJ0_isLatin1_aae02, cJ0_isLatin1_aae02, 1, (some FieldType.boolean)),
  (yJ1_charAt_3b067, cJ1_charAt_3b067, 2, (some FieldType.char)),
  (yJ0_checkIndex_df160, cJ0_checkIndex_df160, 2, none),
  (yJ3_checkIndex_8e157, cJ3_checkIndex_8e157, 3, (some FieldType.int)),
  (yJ2_charAt_3b067, cJ2_charAt_3b067, 2, (some FieldType.char)),
  (yJ2_checkIndex_2214a, cJ2_checkIndex_2214a, 2, none),
  (yJ2_length_9d52b, cJ2_length_9d52b, 1, (some FieldType.int)),
  (yJ2_getChar_3b067, cJ2_getChar_3b067, 2, (some FieldType.char)),
  (yX4_take, cX4_take, 2, (some FieldType.boolean)),
  (yX4_readNumber, cX4_readNumber, 1, (some FieldType.boolean)),
  (yX4_isDigit, cX4_isDigit, 1, (some FieldType.boolean)),
  (yX4_readEither, cX4_readEither, 3, (some FieldType.boolean)),
  (yX4_readBoth, cX4_readBoth, 3, (some FieldType.boolean)),
  (yX4_readPart, cX4_readPart, 2, (some FieldType.boolean)),
  (yX4_readTest, cX4_readTest, 3, (some FieldType.boolean)),
  (yX4_placeOf, cX4_placeOf, 2, (some FieldType.int)),
  (yJ0_indexOf_0f7a4, cJ0_indexOf_0f7a4, 2, (some FieldType.int)),
  (yJ0_indexOf_7cf53, cJ0_indexOf_7cf53, 3, (some FieldType.int)),
  (yJ1_indexOf_4cfef, cJ1_indexOf_4cfef, 4, (some FieldType.int)),
  (yJ1_canEncode_9a6ad, cJ1_canEncode_9a6ad, 1, (some FieldType.boolean)),
  (yJ9_max_7cf53, cJ9_max_7cf53, 2, (some FieldType.int)),
  (yJ1_indexOfChar_4cfef, cJ1_indexOfChar_4cfef, 6, (some FieldType.int)),
  (yJ2_indexOf_4cfef, cJ2_indexOf_4cfef, 4, (some FieldType.int)),
  (yJ2_indexOfChar_4cfef, cJ2_indexOfChar_4cfef, 4, (some FieldType.int)),
  (yJ2_checkBoundsBeginEnd_d044e, cJ2_checkBoundsBeginEnd_d044e, 3, none),
  (yJ0_checkBoundsBeginEnd_23922, cJ0_checkBoundsBeginEnd_23922, 3, none),
  (yJ3_checkFromToIndex_8c36e, cJ3_checkFromToIndex_8c36e, 4, (some FieldType.int)),
  (yJ2_indexOfCharUnsafe_4cfef, cJ2_indexOfCharUnsafe_4cfef, 5, (some FieldType.int)),
  (yJ2_indexOfSupplementary_4cfef, cJ2_indexOfSupplementary_4cfef, 7, (some FieldType.int)),
  (yJ11_isValidCodePoint_9a6ad, cJ11_isValidCodePoint_9a6ad, 2, (some FieldType.boolean)),
  (yJ11_highSurrogate_5068e, cJ11_highSurrogate_5068e, 1, (some FieldType.char)),
  (yJ11_lowSurrogate_5068e, cJ11_lowSurrogate_5068e, 1, (some FieldType.char)),
  (yX4_put, cX4_put, 2, (some FieldType.boolean)),
  (yX11_urchin, cX11_urchin, 3, (some FieldType.int)),
  (yX11_isNumber, cX11_isNumber, 1, (some FieldType.boolean)),
  (yX7_join, cX7_join, 4, (some FieldType.int)),
  (yX7_putOut, cX7_putOut, 3, none),
  (yX11_of, cX11_of, 3, (some FieldType.int)),
  (yX7_has, cX7_has, 2, (some FieldType.boolean)),
  (yX7_isOut, cX7_isOut, 2, (some FieldType.boolean)),
  (yX11_isFact, cX11_isFact, 2, (some FieldType.boolean)),
  (yX11_holding, cX11_holding, 2, (some (FieldType.object "UrchinSchool$Ledge"))),
  (yX1_heedOf, cX1_heedOf, 5, (some FieldType.int)),
  (yX1_look, cX1_look, 4, none),
  (yJ6_bitCount_0f7a4, cJ6_bitCount_0f7a4, 1, (some FieldType.int)),
  (yX1_kindOf, cX1_kindOf, 3, (some (FieldType.object "UrchinSchool$Urchin"))),
  (yX4_sum, cX4_sum, 6, (some FieldType.int)),
  (yX4_holds, cX4_holds, 5, (some FieldType.boolean)),
  (yX4_joined, cX4_joined, 4, (some FieldType.int)),
  (yX0_heed, cX0_heed, 3, (some FieldType.int)),
  (yX2_heed, cX2_heed, 3, (some FieldType.int)),
  (yX3_heed, cX3_heed, 3, (some FieldType.int)),
  (yX5_heed, cX5_heed, 4, (some FieldType.int)),
  (yX6_heed, cX6_heed, 3, (some FieldType.int)),
  (yX9_heed, cX9_heed, 3, (some FieldType.int)),
  (yX10_heed, cX10_heed, 3, (some FieldType.int)),
  (yX11_row, cX11_row, 6, (some FieldType.int)),
  (yX11_isLesson, cX11_isLesson, 1, (some FieldType.boolean)),
  (yX11_learn, cX11_learn, 4, (some FieldType.int)),
  (yX11_isSet, cX11_isSet, 1, (some FieldType.boolean)),
  (yX11_beach, cX11_beach, 4, (some FieldType.int)),
  (yX11_lesson, cX11_lesson, 4, (some FieldType.int)),
  (yX11_told, cX11_told, 2, (some FieldType.int)),
  (yX7_all, cX7_all, 3, (some FieldType.int)),
  (yX7_held, cX7_held, 3, (some FieldType.int)),
  (yX7_few, cX7_few, 5, (some FieldType.int)),
  (yX7_knownBy, cX7_knownBy, 4, (some FieldType.int)),
  (yX11_toldLesson, cX11_toldLesson, 3, (some FieldType.int)),
  (yX11_pass, cX11_pass, 2, (some FieldType.int)),
  (yX11_areTides, cX11_areTides, 1, (some FieldType.boolean)),
  (yX1_forget, cX1_forget, 1, none),
  (yJ7_fill_53178, cJ7_fill_53178, 4, none),
  (yX11_go, cX11_go, 5, none),
  (yX7_lessonNow, cX7_lessonNow, 2, (some FieldType.int)),
  (yX7_goTide, cX7_goTide, 10, none),
  (yX1_setsOf, cX1_setsOf, 6, (some FieldType.int)),
  (yX1_weigh, cX1_weigh, 7, (some FieldType.int)),
  (yX7_least, cX7_least, 5, (some FieldType.int)),
  (yX11_on, cX11_on, 4, (some FieldType.int)),
  (yX7_becomeRow, cX7_becomeRow, 2, none),
  (yX11_lasts, cX11_lasts, 3, (some FieldType.int)),
  (yX11_tidesAheadWith, cX11_tidesAheadWith, 4, (some FieldType.int)),
  (yX11_teach, cX11_teach, 8, (some FieldType.int)),
  (yX11_heldIfTaught, cX11_heldIfTaught, 5, (some FieldType.int)),
  (yX11_taughtAt, cX11_taughtAt, 5, (some FieldType.int)),
  (yX11_tell, cX11_tell, 6, (some FieldType.int)),
  (yX11_tidesIfTold, cX11_tidesIfTold, 3, (some FieldType.int)),
  (yX7_tellFact, cX7_tellFact, 3, none),
  (yX11_see, cX11_see, 5, (some FieldType.int)),
  (yX8_empty, cX8_empty, 1, (some FieldType.int)),
  (yX8_add, cX8_add, 6, (some FieldType.int)),
  (yX11_knew, cX11_knew, 6, (some FieldType.int)),
  (yX11_isPart, cX11_isPart, 1, (some FieldType.boolean)),
  (yX11_seenIsSo, cX11_seenIsSo, 4, (some FieldType.boolean)),
  (yX7_lastSeen, cX7_lastSeen, 3, (some FieldType.int)),
  (yX8_cell, cX8_cell, 4, (some FieldType.int)),
  (yX7_isAsSeen, cX7_isAsSeen, 5, (some FieldType.boolean)),
  (yX11_firm, cX11_firm, 6, (some FieldType.int)),
  (yX11_odds, cX11_odds, 6, (some FieldType.long)),
  (yX7_notOut, cX7_notOut, 3, (some FieldType.int)),
  (yX11_lowest, cX11_lowest, 7, (some FieldType.long)),
  (yX11_mean, cX11_mean, 2, (some FieldType.long)),
  (yX11_plan, cX11_plan, 3, (some FieldType.int)),
  (yX11_isPlan, cX11_isPlan, 3, (some FieldType.boolean)),
  (yX11_done, cX11_done, 3, (some FieldType.int)),
  (yX11_doPlanned, cX11_doPlanned, 3, none),
  (yX11_book, cX11_book, 3, (some FieldType.int)),
  (yX11_looked, cX11_looked, 3, (some FieldType.int)),
  (yX11_act, cX11_act, 5, (some FieldType.int)),
  (yX10_wake, cX10_wake, 3, none),
  (yX3_leans, cX3_leans, 2, (some FieldType.int)),
  (yX10_begin, cX10_begin, 2, none),
  (yX6_leans, cX6_leans, 2, (some FieldType.int)),
  (yX10_leans, cX10_leans, 2, (some FieldType.int)),
  (yX2_says, cX2_says, 2, (some FieldType.int)),
  (yX9_says, cX9_says, 2, (some FieldType.int)),
  (yX10_says, cX10_says, 2, (some FieldType.int)),
  (yX0_bristles, cX0_bristles, 2, (some FieldType.int)),
  (yX5_bristles, cX5_bristles, 2, (some FieldType.int)),
  (yX10_bristles, cX10_bristles, 2, (some FieldType.int)),
  (yX11_trace, cX11_trace, 2, (some FieldType.int)),
  (yX10_bodyAt, cX10_bodyAt, 2, (some FieldType.int)),
  (yX11_as, cX11_as, 5, (some FieldType.int)),
  (yX11_image, cX11_image, 1, (some FieldType.int)),
  (yX7_become, cX7_become, 2, none),
  (yX8_takeOver, cX8_takeOver, 2, none),
  (yX11_undo, cX11_undo, 1, (some FieldType.int)),
  (yX11_count, cX11_count, 2, (some FieldType.int)),
  (yX12_init, cX12_init, 2, none),
  (yX12_feed, cX12_feed, 2, (some FieldType.int)),
  (yX12_in, cX12_in, 3, (some FieldType.boolean)),
  (yX12_ledge, cX12_ledge, 2, (some FieldType.int)),
  (yX12_clauseHere, cX12_clauseHere, 1, none),
  (yX12_here, cX12_here, 1, (some FieldType.int)),
  (yX12_tellsHere, cX12_tellsHere, 4, none),
  (yX12_spells, cX12_spells, 3, none),
  (yX12_must, cX12_must, 2, none),
  (yX12_figures, cX12_figures, 3, (some FieldType.int)),
  (yX12_much, cX12_much, 4, none),
  (yX12_some, cX12_some, 1, none),
  (yX12_every, cX12_every, 1, none),
  (yX12_factor, cX12_factor, 5, none),
  (yX12_emits, cX12_emits, 2, none),
  (yX12_among, cX12_among, 3, (some FieldType.int)),
  (yX12_urchin, cX12_urchin, 5, (some FieldType.int)),
  (yX12_of, cX12_of, 3, (some FieldType.int)),
  (yX12_isUrchin, cX12_isUrchin, 2, (some FieldType.boolean)),
  (yX12_looksAnew, cX12_looksAnew, 1, none),
  (yX12_isFact, cX12_isFact, 1, (some FieldType.boolean)),
  (yX12_heedOf, cX12_heedOf, 5, (some FieldType.int)),
  (yX12_sumOf, cX12_sumOf, 6, (some FieldType.int)),
  (yX12_countOf, cX12_countOf, 3, (some FieldType.int)),
  (yX12_clausesOf, cX12_clausesOf, 14, (some FieldType.int)),
  (yX12_tellsOf, cX12_tellsOf, 3, (some FieldType.int)),
  (yX12_row, cX12_row, 4, (some FieldType.int)),
  (yX12_becomes, cX12_becomes, 4, (some FieldType.int)),
  (yX12_learn, cX12_learn, 3, (some FieldType.int)),
  (yX12_beach, cX12_beach, 3, (some FieldType.int)),
  (yX12_lesson, cX12_lesson, 3, (some FieldType.int)),
  (yX12_told, cX12_told, 2, (some FieldType.int)),
  (yX12_knownByAny, cX12_knownByAny, 3, (some FieldType.int)),
  (yX12_heldByAll, cX12_heldByAll, 3, (some FieldType.int)),
  (yX12_awayOnes, cX12_awayOnes, 3, (some FieldType.int)),
  (yX12_fewest, cX12_fewest, 4, (some FieldType.int)),
  (yX12_knownBy, cX12_knownBy, 4, (some FieldType.int)),
  (yX12_pass, cX12_pass, 2, (some FieldType.int)),
  (yX12_goesOn, cX12_goesOn, 3, none),
  (yX12_goes, cX12_goes, 1, none),
  (yX12_goesBy, cX12_goesBy, 3, none),
  (yX12_knownNext, cX12_knownNext, 6, (some FieldType.int)),
  (yX12_isKnownNext, cX12_isKnownNext, 7, (some FieldType.boolean)),
  (yX12_isPassed, cX12_isPassed, 5, (some FieldType.boolean)),
  (yX12_on, cX12_on, 4, (some FieldType.int)),
  (yX12_keeps, cX12_keeps, 2, none),
  (yX12_goesBack, cX12_goesBack, 2, none),
  (yX12_lasts, cX12_lasts, 3, (some FieldType.int)),
  (yX12_tidesKnown, cX12_tidesKnown, 4, (some FieldType.int)),
  (yX12_tell, cX12_tell, 6, (some FieldType.int)),
  (yX12_teach, cX12_teach, 8, (some FieldType.int)),
  (yX12_heldBehind, cX12_heldBehind, 6, (some FieldType.int)),
  (yX12_see, cX12_see, 5, (some FieldType.int)),
  (yX12_knew, cX12_knew, 3, (some FieldType.int)),
  (yX12_fitting, cX12_fitting, 9, (some FieldType.int)),
  (yX12_areAsSeen, cX12_areAsSeen, 3, (some FieldType.boolean)),
  (yX12_isAsSeen, cX12_isAsSeen, 5, (some FieldType.boolean)),
  (yX12_firm, cX12_firm, 3, (some FieldType.int)),
  (yX12_odds, cX12_odds, 9, (some FieldType.long)),
  (yX12_lowest, cX12_lowest, 11, (some FieldType.long)),
  (yX12_mean, cX12_mean, 4, (some FieldType.long)),
  (yX12_plan, cX12_plan, 3, (some FieldType.int)),
  (yX12_isPlan, cX12_isPlan, 3, (some FieldType.boolean)),
  (yX12_done, cX12_done, 3, (some FieldType.int)),
  (yX12_does, cX12_does, 3, none),
  (yX12_book, cX12_book, 3, (some FieldType.int)),
  (yX12_looked, cX12_looked, 2, (some FieldType.int)),
  (yX12_act, cX12_act, 4, (some FieldType.int)),
  (yX12_leansActs, cX12_leansActs, 2, (some FieldType.int)),
  (yX12_isUnder, cX12_isUnder, 2, (some FieldType.boolean)),
  (yX12_ranBody, cX12_ranBody, 2, none),
  (yX12_plainLeans, cX12_plainLeans, 2, (some FieldType.int)),
  (yX12_saysActs, cX12_saysActs, 2, (some FieldType.int)),
  (yX12_plainSays, cX12_plainSays, 2, (some FieldType.int)),
  (yX12_bristlesActs, cX12_bristlesActs, 3, (some FieldType.int)),
  (yX12_plainTelling, cX12_plainTelling, 2, (some FieldType.int)),
  (yX12_trace, cX12_trace, 2, (some FieldType.int)),
  (yX12_as, cX12_as, 3, (some FieldType.int)),
  (yX12_image, cX12_image, 2, (some FieldType.int)),
  (yX12_undo, cX12_undo, 2, (some FieldType.int)),
  (yX12_count, cX12_count, 2, (some FieldType.int))]
def mt : MT := fun j => match l_get mtL j with
  | some q => q
  | none => (⟨"", "", ""⟩, ⟨#[]⟩, 0, none)
theorem mt_X11_init : mt jX11_init = (yX11_init, cX11_init, 1, none) := rfl
theorem mt_X7_init : mt jX7_init = (yX7_init, cX7_init, 1, none) := rfl
theorem mt_X8_init : mt jX8_init = (yX8_init, cX8_init, 2, none) := rfl
theorem mt_J9_min_7cf53 : mt jJ9_min_7cf53 = (yJ9_min_7cf53, cJ9_min_7cf53, 2, (some FieldType.int)) := rfl
theorem mt_X1_init : mt jX1_init = (yX1_init, cX1_init, 1, none) := rfl
theorem mt_X10_init : mt jX10_init = (yX10_init, cX10_init, 1, none) := rfl
theorem mt_X3_init : mt jX3_init = (yX3_init, cX3_init, 1, none) := rfl
theorem mt_X2_init : mt jX2_init = (yX2_init, cX2_init, 1, none) := rfl
theorem mt_X0_init : mt jX0_init = (yX0_init, cX0_init, 1, none) := rfl
theorem mt_X5_init : mt jX5_init = (yX5_init, cX5_init, 1, none) := rfl
theorem mt_X6_init : mt jX6_init = (yX6_init, cX6_init, 1, none) := rfl
theorem mt_X9_init : mt jX9_init = (yX9_init, cX9_init, 1, none) := rfl
theorem mt_X4_init : mt jX4_init = (yX4_init, cX4_init, 1, none) := rfl
theorem mt_X11_feed : mt jX11_feed = (yX11_feed, cX11_feed, 2, (some FieldType.int)) := rfl
theorem mt_X11_ledge : mt jX11_ledge = (yX11_ledge, cX11_ledge, 2, (some FieldType.int)) := rfl
theorem mt_X4_read : mt jX4_read = (yX4_read, cX4_read, 4, (some FieldType.int)) := rfl
theorem mt_X4_advance : mt jX4_advance = (yX4_advance, cX4_advance, 1, none) := rfl
theorem mt_X4_readClause : mt jX4_readClause = (yX4_readClause, cX4_readClause, 3, (some FieldType.boolean)) := rfl
theorem mt_X4_wordOf : mt jX4_wordOf = (yX4_wordOf, cX4_wordOf, 1, (some (FieldType.object "java/lang/String"))) := rfl
theorem mt_X4_takeWord : mt jX4_takeWord = (yX4_takeWord, cX4_takeWord, 3, (some FieldType.boolean)) := rfl
theorem mt_J0_length_8abf5 : mt jJ0_length_8abf5 = (yJ0_length_8abf5, cJ0_length_8abf5, 1, (some FieldType.int)) := rfl
theorem mt_J0_coder_7d493 : mt jJ0_coder_7d493 = (yJ0_coder_7d493, cJ0_coder_7d493, 1, (some FieldType.byte)) := rfl
theorem mt_J0_charAt_5068e : mt jJ0_charAt_5068e = (yJ0_charAt_5068e, cJ0_charAt_5068e, 2, (some FieldType.char)) := rfl
theorem mt_J0_isLatin1_aae02 : mt jJ0_isLatin1_aae02 = (yJ0_isLatin1_aae02, cJ0_isLatin1_aae02, 1, (some FieldType.boolean)) := rfl
theorem mt_J1_charAt_3b067 : mt jJ1_charAt_3b067 = (yJ1_charAt_3b067, cJ1_charAt_3b067, 2, (some FieldType.char)) := rfl
theorem mt_J0_checkIndex_df160 : mt jJ0_checkIndex_df160 = (yJ0_checkIndex_df160, cJ0_checkIndex_df160, 2, none) := rfl
theorem mt_J3_checkIndex_8e157 : mt jJ3_checkIndex_8e157 = (yJ3_checkIndex_8e157, cJ3_checkIndex_8e157, 3, (some FieldType.int)) := rfl
theorem mt_J2_charAt_3b067 : mt jJ2_charAt_3b067 = (yJ2_charAt_3b067, cJ2_charAt_3b067, 2, (some FieldType.char)) := rfl
theorem mt_J2_checkIndex_2214a : mt jJ2_checkIndex_2214a = (yJ2_checkIndex_2214a, cJ2_checkIndex_2214a, 2, none) := rfl
theorem mt_J2_length_9d52b : mt jJ2_length_9d52b = (yJ2_length_9d52b, cJ2_length_9d52b, 1, (some FieldType.int)) := rfl
theorem mt_J2_getChar_3b067 : mt jJ2_getChar_3b067 = (yJ2_getChar_3b067, cJ2_getChar_3b067, 2, (some FieldType.char)) := rfl
theorem mt_X4_take : mt jX4_take = (yX4_take, cX4_take, 2, (some FieldType.boolean)) := rfl
theorem mt_X4_readNumber : mt jX4_readNumber = (yX4_readNumber, cX4_readNumber, 1, (some FieldType.boolean)) := rfl
theorem mt_X4_isDigit : mt jX4_isDigit = (yX4_isDigit, cX4_isDigit, 1, (some FieldType.boolean)) := rfl
theorem mt_X4_readEither : mt jX4_readEither = (yX4_readEither, cX4_readEither, 3, (some FieldType.boolean)) := rfl
theorem mt_X4_readBoth : mt jX4_readBoth = (yX4_readBoth, cX4_readBoth, 3, (some FieldType.boolean)) := rfl
theorem mt_X4_readPart : mt jX4_readPart = (yX4_readPart, cX4_readPart, 2, (some FieldType.boolean)) := rfl
theorem mt_X4_readTest : mt jX4_readTest = (yX4_readTest, cX4_readTest, 3, (some FieldType.boolean)) := rfl
theorem mt_X4_placeOf : mt jX4_placeOf = (yX4_placeOf, cX4_placeOf, 2, (some FieldType.int)) := rfl
theorem mt_J0_indexOf_0f7a4 : mt jJ0_indexOf_0f7a4 = (yJ0_indexOf_0f7a4, cJ0_indexOf_0f7a4, 2, (some FieldType.int)) := rfl
theorem mt_J0_indexOf_7cf53 : mt jJ0_indexOf_7cf53 = (yJ0_indexOf_7cf53, cJ0_indexOf_7cf53, 3, (some FieldType.int)) := rfl
theorem mt_J1_indexOf_4cfef : mt jJ1_indexOf_4cfef = (yJ1_indexOf_4cfef, cJ1_indexOf_4cfef, 4, (some FieldType.int)) := rfl
theorem mt_J1_canEncode_9a6ad : mt jJ1_canEncode_9a6ad = (yJ1_canEncode_9a6ad, cJ1_canEncode_9a6ad, 1, (some FieldType.boolean)) := rfl
theorem mt_J9_max_7cf53 : mt jJ9_max_7cf53 = (yJ9_max_7cf53, cJ9_max_7cf53, 2, (some FieldType.int)) := rfl
theorem mt_J1_indexOfChar_4cfef : mt jJ1_indexOfChar_4cfef = (yJ1_indexOfChar_4cfef, cJ1_indexOfChar_4cfef, 6, (some FieldType.int)) := rfl
theorem mt_J2_indexOf_4cfef : mt jJ2_indexOf_4cfef = (yJ2_indexOf_4cfef, cJ2_indexOf_4cfef, 4, (some FieldType.int)) := rfl
theorem mt_J2_indexOfChar_4cfef : mt jJ2_indexOfChar_4cfef = (yJ2_indexOfChar_4cfef, cJ2_indexOfChar_4cfef, 4, (some FieldType.int)) := rfl
theorem mt_J2_checkBoundsBeginEnd_d044e : mt jJ2_checkBoundsBeginEnd_d044e = (yJ2_checkBoundsBeginEnd_d044e, cJ2_checkBoundsBeginEnd_d044e, 3, none) := rfl
theorem mt_J0_checkBoundsBeginEnd_23922 : mt jJ0_checkBoundsBeginEnd_23922 = (yJ0_checkBoundsBeginEnd_23922, cJ0_checkBoundsBeginEnd_23922, 3, none) := rfl
theorem mt_J3_checkFromToIndex_8c36e : mt jJ3_checkFromToIndex_8c36e = (yJ3_checkFromToIndex_8c36e, cJ3_checkFromToIndex_8c36e, 4, (some FieldType.int)) := rfl
theorem mt_J2_indexOfCharUnsafe_4cfef : mt jJ2_indexOfCharUnsafe_4cfef = (yJ2_indexOfCharUnsafe_4cfef, cJ2_indexOfCharUnsafe_4cfef, 5, (some FieldType.int)) := rfl
theorem mt_J2_indexOfSupplementary_4cfef : mt jJ2_indexOfSupplementary_4cfef = (yJ2_indexOfSupplementary_4cfef, cJ2_indexOfSupplementary_4cfef, 7, (some FieldType.int)) := rfl
theorem mt_J11_isValidCodePoint_9a6ad : mt jJ11_isValidCodePoint_9a6ad = (yJ11_isValidCodePoint_9a6ad, cJ11_isValidCodePoint_9a6ad, 2, (some FieldType.boolean)) := rfl
theorem mt_J11_highSurrogate_5068e : mt jJ11_highSurrogate_5068e = (yJ11_highSurrogate_5068e, cJ11_highSurrogate_5068e, 1, (some FieldType.char)) := rfl
theorem mt_J11_lowSurrogate_5068e : mt jJ11_lowSurrogate_5068e = (yJ11_lowSurrogate_5068e, cJ11_lowSurrogate_5068e, 1, (some FieldType.char)) := rfl
theorem mt_X4_put : mt jX4_put = (yX4_put, cX4_put, 2, (some FieldType.boolean)) := rfl
theorem mt_X11_urchin : mt jX11_urchin = (yX11_urchin, cX11_urchin, 3, (some FieldType.int)) := rfl
theorem mt_X11_isNumber : mt jX11_isNumber = (yX11_isNumber, cX11_isNumber, 1, (some FieldType.boolean)) := rfl
theorem mt_X7_join : mt jX7_join = (yX7_join, cX7_join, 4, (some FieldType.int)) := rfl
theorem mt_X7_putOut : mt jX7_putOut = (yX7_putOut, cX7_putOut, 3, none) := rfl
theorem mt_X11_of : mt jX11_of = (yX11_of, cX11_of, 3, (some FieldType.int)) := rfl
theorem mt_X7_has : mt jX7_has = (yX7_has, cX7_has, 2, (some FieldType.boolean)) := rfl
theorem mt_X7_isOut : mt jX7_isOut = (yX7_isOut, cX7_isOut, 2, (some FieldType.boolean)) := rfl
theorem mt_X11_isFact : mt jX11_isFact = (yX11_isFact, cX11_isFact, 2, (some FieldType.boolean)) := rfl
theorem mt_X11_holding : mt jX11_holding = (yX11_holding, cX11_holding, 2, (some (FieldType.object "UrchinSchool$Ledge"))) := rfl
theorem mt_X1_heedOf : mt jX1_heedOf = (yX1_heedOf, cX1_heedOf, 5, (some FieldType.int)) := rfl
theorem mt_X1_look : mt jX1_look = (yX1_look, cX1_look, 4, none) := rfl
theorem mt_J6_bitCount_0f7a4 : mt jJ6_bitCount_0f7a4 = (yJ6_bitCount_0f7a4, cJ6_bitCount_0f7a4, 1, (some FieldType.int)) := rfl
theorem mt_X1_kindOf : mt jX1_kindOf = (yX1_kindOf, cX1_kindOf, 3, (some (FieldType.object "UrchinSchool$Urchin"))) := rfl
theorem mt_X4_sum : mt jX4_sum = (yX4_sum, cX4_sum, 6, (some FieldType.int)) := rfl
theorem mt_X4_holds : mt jX4_holds = (yX4_holds, cX4_holds, 5, (some FieldType.boolean)) := rfl
theorem mt_X4_joined : mt jX4_joined = (yX4_joined, cX4_joined, 4, (some FieldType.int)) := rfl
theorem mt_X0_heed : mt jX0_heed = (yX0_heed, cX0_heed, 3, (some FieldType.int)) := rfl
theorem mt_X2_heed : mt jX2_heed = (yX2_heed, cX2_heed, 3, (some FieldType.int)) := rfl
theorem mt_X3_heed : mt jX3_heed = (yX3_heed, cX3_heed, 3, (some FieldType.int)) := rfl
theorem mt_X5_heed : mt jX5_heed = (yX5_heed, cX5_heed, 4, (some FieldType.int)) := rfl
theorem mt_X6_heed : mt jX6_heed = (yX6_heed, cX6_heed, 3, (some FieldType.int)) := rfl
theorem mt_X9_heed : mt jX9_heed = (yX9_heed, cX9_heed, 3, (some FieldType.int)) := rfl
theorem mt_X10_heed : mt jX10_heed = (yX10_heed, cX10_heed, 3, (some FieldType.int)) := rfl
theorem mt_X11_row : mt jX11_row = (yX11_row, cX11_row, 6, (some FieldType.int)) := rfl
theorem mt_X11_isLesson : mt jX11_isLesson = (yX11_isLesson, cX11_isLesson, 1, (some FieldType.boolean)) := rfl
theorem mt_X11_learn : mt jX11_learn = (yX11_learn, cX11_learn, 4, (some FieldType.int)) := rfl
theorem mt_X11_isSet : mt jX11_isSet = (yX11_isSet, cX11_isSet, 1, (some FieldType.boolean)) := rfl
theorem mt_X11_beach : mt jX11_beach = (yX11_beach, cX11_beach, 4, (some FieldType.int)) := rfl
theorem mt_X11_lesson : mt jX11_lesson = (yX11_lesson, cX11_lesson, 4, (some FieldType.int)) := rfl
theorem mt_X11_told : mt jX11_told = (yX11_told, cX11_told, 2, (some FieldType.int)) := rfl
theorem mt_X7_all : mt jX7_all = (yX7_all, cX7_all, 3, (some FieldType.int)) := rfl
theorem mt_X7_held : mt jX7_held = (yX7_held, cX7_held, 3, (some FieldType.int)) := rfl
theorem mt_X7_few : mt jX7_few = (yX7_few, cX7_few, 5, (some FieldType.int)) := rfl
theorem mt_X7_knownBy : mt jX7_knownBy = (yX7_knownBy, cX7_knownBy, 4, (some FieldType.int)) := rfl
theorem mt_X11_toldLesson : mt jX11_toldLesson = (yX11_toldLesson, cX11_toldLesson, 3, (some FieldType.int)) := rfl
theorem mt_X11_pass : mt jX11_pass = (yX11_pass, cX11_pass, 2, (some FieldType.int)) := rfl
theorem mt_X11_areTides : mt jX11_areTides = (yX11_areTides, cX11_areTides, 1, (some FieldType.boolean)) := rfl
theorem mt_X1_forget : mt jX1_forget = (yX1_forget, cX1_forget, 1, none) := rfl
theorem mt_J7_fill_53178 : mt jJ7_fill_53178 = (yJ7_fill_53178, cJ7_fill_53178, 4, none) := rfl
theorem mt_X11_go : mt jX11_go = (yX11_go, cX11_go, 5, none) := rfl
theorem mt_X7_lessonNow : mt jX7_lessonNow = (yX7_lessonNow, cX7_lessonNow, 2, (some FieldType.int)) := rfl
theorem mt_X7_goTide : mt jX7_goTide = (yX7_goTide, cX7_goTide, 10, none) := rfl
theorem mt_X1_setsOf : mt jX1_setsOf = (yX1_setsOf, cX1_setsOf, 6, (some FieldType.int)) := rfl
theorem mt_X1_weigh : mt jX1_weigh = (yX1_weigh, cX1_weigh, 7, (some FieldType.int)) := rfl
theorem mt_X7_least : mt jX7_least = (yX7_least, cX7_least, 5, (some FieldType.int)) := rfl
theorem mt_X11_on : mt jX11_on = (yX11_on, cX11_on, 4, (some FieldType.int)) := rfl
theorem mt_X7_becomeRow : mt jX7_becomeRow = (yX7_becomeRow, cX7_becomeRow, 2, none) := rfl
theorem mt_X11_lasts : mt jX11_lasts = (yX11_lasts, cX11_lasts, 3, (some FieldType.int)) := rfl
theorem mt_X11_tidesAheadWith : mt jX11_tidesAheadWith = (yX11_tidesAheadWith, cX11_tidesAheadWith, 4, (some FieldType.int)) := rfl
theorem mt_X11_teach : mt jX11_teach = (yX11_teach, cX11_teach, 8, (some FieldType.int)) := rfl
theorem mt_X11_heldIfTaught : mt jX11_heldIfTaught = (yX11_heldIfTaught, cX11_heldIfTaught, 5, (some FieldType.int)) := rfl
theorem mt_X11_taughtAt : mt jX11_taughtAt = (yX11_taughtAt, cX11_taughtAt, 5, (some FieldType.int)) := rfl
theorem mt_X11_tell : mt jX11_tell = (yX11_tell, cX11_tell, 6, (some FieldType.int)) := rfl
theorem mt_X11_tidesIfTold : mt jX11_tidesIfTold = (yX11_tidesIfTold, cX11_tidesIfTold, 3, (some FieldType.int)) := rfl
theorem mt_X7_tellFact : mt jX7_tellFact = (yX7_tellFact, cX7_tellFact, 3, none) := rfl
theorem mt_X11_see : mt jX11_see = (yX11_see, cX11_see, 5, (some FieldType.int)) := rfl
theorem mt_X8_empty : mt jX8_empty = (yX8_empty, cX8_empty, 1, (some FieldType.int)) := rfl
theorem mt_X8_add : mt jX8_add = (yX8_add, cX8_add, 6, (some FieldType.int)) := rfl
theorem mt_X11_knew : mt jX11_knew = (yX11_knew, cX11_knew, 6, (some FieldType.int)) := rfl
theorem mt_X11_isPart : mt jX11_isPart = (yX11_isPart, cX11_isPart, 1, (some FieldType.boolean)) := rfl
theorem mt_X11_seenIsSo : mt jX11_seenIsSo = (yX11_seenIsSo, cX11_seenIsSo, 4, (some FieldType.boolean)) := rfl
theorem mt_X7_lastSeen : mt jX7_lastSeen = (yX7_lastSeen, cX7_lastSeen, 3, (some FieldType.int)) := rfl
theorem mt_X8_cell : mt jX8_cell = (yX8_cell, cX8_cell, 4, (some FieldType.int)) := rfl
theorem mt_X7_isAsSeen : mt jX7_isAsSeen = (yX7_isAsSeen, cX7_isAsSeen, 5, (some FieldType.boolean)) := rfl
theorem mt_X11_firm : mt jX11_firm = (yX11_firm, cX11_firm, 6, (some FieldType.int)) := rfl
theorem mt_X11_odds : mt jX11_odds = (yX11_odds, cX11_odds, 6, (some FieldType.long)) := rfl
theorem mt_X7_notOut : mt jX7_notOut = (yX7_notOut, cX7_notOut, 3, (some FieldType.int)) := rfl
theorem mt_X11_lowest : mt jX11_lowest = (yX11_lowest, cX11_lowest, 7, (some FieldType.long)) := rfl
theorem mt_X11_mean : mt jX11_mean = (yX11_mean, cX11_mean, 2, (some FieldType.long)) := rfl
theorem mt_X11_plan : mt jX11_plan = (yX11_plan, cX11_plan, 3, (some FieldType.int)) := rfl
theorem mt_X11_isPlan : mt jX11_isPlan = (yX11_isPlan, cX11_isPlan, 3, (some FieldType.boolean)) := rfl
theorem mt_X11_done : mt jX11_done = (yX11_done, cX11_done, 3, (some FieldType.int)) := rfl
theorem mt_X11_doPlanned : mt jX11_doPlanned = (yX11_doPlanned, cX11_doPlanned, 3, none) := rfl
theorem mt_X11_book : mt jX11_book = (yX11_book, cX11_book, 3, (some FieldType.int)) := rfl
theorem mt_X11_looked : mt jX11_looked = (yX11_looked, cX11_looked, 3, (some FieldType.int)) := rfl
theorem mt_X11_act : mt jX11_act = (yX11_act, cX11_act, 5, (some FieldType.int)) := rfl
theorem mt_X10_wake : mt jX10_wake = (yX10_wake, cX10_wake, 3, none) := rfl
theorem mt_X3_leans : mt jX3_leans = (yX3_leans, cX3_leans, 2, (some FieldType.int)) := rfl
theorem mt_X10_begin : mt jX10_begin = (yX10_begin, cX10_begin, 2, none) := rfl
theorem mt_X6_leans : mt jX6_leans = (yX6_leans, cX6_leans, 2, (some FieldType.int)) := rfl
theorem mt_X10_leans : mt jX10_leans = (yX10_leans, cX10_leans, 2, (some FieldType.int)) := rfl
theorem mt_X2_says : mt jX2_says = (yX2_says, cX2_says, 2, (some FieldType.int)) := rfl
theorem mt_X9_says : mt jX9_says = (yX9_says, cX9_says, 2, (some FieldType.int)) := rfl
theorem mt_X10_says : mt jX10_says = (yX10_says, cX10_says, 2, (some FieldType.int)) := rfl
theorem mt_X0_bristles : mt jX0_bristles = (yX0_bristles, cX0_bristles, 2, (some FieldType.int)) := rfl
theorem mt_X5_bristles : mt jX5_bristles = (yX5_bristles, cX5_bristles, 2, (some FieldType.int)) := rfl
theorem mt_X10_bristles : mt jX10_bristles = (yX10_bristles, cX10_bristles, 2, (some FieldType.int)) := rfl
theorem mt_X11_trace : mt jX11_trace = (yX11_trace, cX11_trace, 2, (some FieldType.int)) := rfl
theorem mt_X10_bodyAt : mt jX10_bodyAt = (yX10_bodyAt, cX10_bodyAt, 2, (some FieldType.int)) := rfl
theorem mt_X11_as : mt jX11_as = (yX11_as, cX11_as, 5, (some FieldType.int)) := rfl
theorem mt_X11_image : mt jX11_image = (yX11_image, cX11_image, 1, (some FieldType.int)) := rfl
theorem mt_X7_become : mt jX7_become = (yX7_become, cX7_become, 2, none) := rfl
theorem mt_X8_takeOver : mt jX8_takeOver = (yX8_takeOver, cX8_takeOver, 2, none) := rfl
theorem mt_X11_undo : mt jX11_undo = (yX11_undo, cX11_undo, 1, (some FieldType.int)) := rfl
theorem mt_X11_count : mt jX11_count = (yX11_count, cX11_count, 2, (some FieldType.int)) := rfl
theorem mt_X12_init : mt jX12_init = (yX12_init, cX12_init, 2, none) := rfl
theorem mt_X12_feed : mt jX12_feed = (yX12_feed, cX12_feed, 2, (some FieldType.int)) := rfl
theorem mt_X12_in : mt jX12_in = (yX12_in, cX12_in, 3, (some FieldType.boolean)) := rfl
theorem mt_X12_ledge : mt jX12_ledge = (yX12_ledge, cX12_ledge, 2, (some FieldType.int)) := rfl
theorem mt_X12_clauseHere : mt jX12_clauseHere = (yX12_clauseHere, cX12_clauseHere, 1, none) := rfl
theorem mt_X12_here : mt jX12_here = (yX12_here, cX12_here, 1, (some FieldType.int)) := rfl
theorem mt_X12_tellsHere : mt jX12_tellsHere = (yX12_tellsHere, cX12_tellsHere, 4, none) := rfl
theorem mt_X12_spells : mt jX12_spells = (yX12_spells, cX12_spells, 3, none) := rfl
theorem mt_X12_must : mt jX12_must = (yX12_must, cX12_must, 2, none) := rfl
theorem mt_X12_figures : mt jX12_figures = (yX12_figures, cX12_figures, 3, (some FieldType.int)) := rfl
theorem mt_X12_much : mt jX12_much = (yX12_much, cX12_much, 4, none) := rfl
theorem mt_X12_some : mt jX12_some = (yX12_some, cX12_some, 1, none) := rfl
theorem mt_X12_every : mt jX12_every = (yX12_every, cX12_every, 1, none) := rfl
theorem mt_X12_factor : mt jX12_factor = (yX12_factor, cX12_factor, 5, none) := rfl
theorem mt_X12_emits : mt jX12_emits = (yX12_emits, cX12_emits, 2, none) := rfl
theorem mt_X12_among : mt jX12_among = (yX12_among, cX12_among, 3, (some FieldType.int)) := rfl
theorem mt_X12_urchin : mt jX12_urchin = (yX12_urchin, cX12_urchin, 5, (some FieldType.int)) := rfl
theorem mt_X12_of : mt jX12_of = (yX12_of, cX12_of, 3, (some FieldType.int)) := rfl
theorem mt_X12_isUrchin : mt jX12_isUrchin = (yX12_isUrchin, cX12_isUrchin, 2, (some FieldType.boolean)) := rfl
theorem mt_X12_looksAnew : mt jX12_looksAnew = (yX12_looksAnew, cX12_looksAnew, 1, none) := rfl
theorem mt_X12_isFact : mt jX12_isFact = (yX12_isFact, cX12_isFact, 1, (some FieldType.boolean)) := rfl
theorem mt_X12_heedOf : mt jX12_heedOf = (yX12_heedOf, cX12_heedOf, 5, (some FieldType.int)) := rfl
theorem mt_X12_sumOf : mt jX12_sumOf = (yX12_sumOf, cX12_sumOf, 6, (some FieldType.int)) := rfl
theorem mt_X12_countOf : mt jX12_countOf = (yX12_countOf, cX12_countOf, 3, (some FieldType.int)) := rfl
theorem mt_X12_clausesOf : mt jX12_clausesOf = (yX12_clausesOf, cX12_clausesOf, 14, (some FieldType.int)) := rfl
theorem mt_X12_tellsOf : mt jX12_tellsOf = (yX12_tellsOf, cX12_tellsOf, 3, (some FieldType.int)) := rfl
theorem mt_X12_row : mt jX12_row = (yX12_row, cX12_row, 4, (some FieldType.int)) := rfl
theorem mt_X12_becomes : mt jX12_becomes = (yX12_becomes, cX12_becomes, 4, (some FieldType.int)) := rfl
theorem mt_X12_learn : mt jX12_learn = (yX12_learn, cX12_learn, 3, (some FieldType.int)) := rfl
theorem mt_X12_beach : mt jX12_beach = (yX12_beach, cX12_beach, 3, (some FieldType.int)) := rfl
theorem mt_X12_lesson : mt jX12_lesson = (yX12_lesson, cX12_lesson, 3, (some FieldType.int)) := rfl
theorem mt_X12_told : mt jX12_told = (yX12_told, cX12_told, 2, (some FieldType.int)) := rfl
theorem mt_X12_knownByAny : mt jX12_knownByAny = (yX12_knownByAny, cX12_knownByAny, 3, (some FieldType.int)) := rfl
theorem mt_X12_heldByAll : mt jX12_heldByAll = (yX12_heldByAll, cX12_heldByAll, 3, (some FieldType.int)) := rfl
theorem mt_X12_awayOnes : mt jX12_awayOnes = (yX12_awayOnes, cX12_awayOnes, 3, (some FieldType.int)) := rfl
theorem mt_X12_fewest : mt jX12_fewest = (yX12_fewest, cX12_fewest, 4, (some FieldType.int)) := rfl
theorem mt_X12_knownBy : mt jX12_knownBy = (yX12_knownBy, cX12_knownBy, 4, (some FieldType.int)) := rfl
theorem mt_X12_pass : mt jX12_pass = (yX12_pass, cX12_pass, 2, (some FieldType.int)) := rfl
theorem mt_X12_goesOn : mt jX12_goesOn = (yX12_goesOn, cX12_goesOn, 3, none) := rfl
theorem mt_X12_goes : mt jX12_goes = (yX12_goes, cX12_goes, 1, none) := rfl
theorem mt_X12_goesBy : mt jX12_goesBy = (yX12_goesBy, cX12_goesBy, 3, none) := rfl
theorem mt_X12_knownNext : mt jX12_knownNext = (yX12_knownNext, cX12_knownNext, 6, (some FieldType.int)) := rfl
theorem mt_X12_isKnownNext : mt jX12_isKnownNext = (yX12_isKnownNext, cX12_isKnownNext, 7, (some FieldType.boolean)) := rfl
theorem mt_X12_isPassed : mt jX12_isPassed = (yX12_isPassed, cX12_isPassed, 5, (some FieldType.boolean)) := rfl
theorem mt_X12_on : mt jX12_on = (yX12_on, cX12_on, 4, (some FieldType.int)) := rfl
theorem mt_X12_keeps : mt jX12_keeps = (yX12_keeps, cX12_keeps, 2, none) := rfl
theorem mt_X12_goesBack : mt jX12_goesBack = (yX12_goesBack, cX12_goesBack, 2, none) := rfl
theorem mt_X12_lasts : mt jX12_lasts = (yX12_lasts, cX12_lasts, 3, (some FieldType.int)) := rfl
theorem mt_X12_tidesKnown : mt jX12_tidesKnown = (yX12_tidesKnown, cX12_tidesKnown, 4, (some FieldType.int)) := rfl
theorem mt_X12_tell : mt jX12_tell = (yX12_tell, cX12_tell, 6, (some FieldType.int)) := rfl
theorem mt_X12_teach : mt jX12_teach = (yX12_teach, cX12_teach, 8, (some FieldType.int)) := rfl
theorem mt_X12_heldBehind : mt jX12_heldBehind = (yX12_heldBehind, cX12_heldBehind, 6, (some FieldType.int)) := rfl
theorem mt_X12_see : mt jX12_see = (yX12_see, cX12_see, 5, (some FieldType.int)) := rfl
theorem mt_X12_knew : mt jX12_knew = (yX12_knew, cX12_knew, 3, (some FieldType.int)) := rfl
theorem mt_X12_fitting : mt jX12_fitting = (yX12_fitting, cX12_fitting, 9, (some FieldType.int)) := rfl
theorem mt_X12_areAsSeen : mt jX12_areAsSeen = (yX12_areAsSeen, cX12_areAsSeen, 3, (some FieldType.boolean)) := rfl
theorem mt_X12_isAsSeen : mt jX12_isAsSeen = (yX12_isAsSeen, cX12_isAsSeen, 5, (some FieldType.boolean)) := rfl
theorem mt_X12_firm : mt jX12_firm = (yX12_firm, cX12_firm, 3, (some FieldType.int)) := rfl
theorem mt_X12_odds : mt jX12_odds = (yX12_odds, cX12_odds, 9, (some FieldType.long)) := rfl
theorem mt_X12_lowest : mt jX12_lowest = (yX12_lowest, cX12_lowest, 11, (some FieldType.long)) := rfl
theorem mt_X12_mean : mt jX12_mean = (yX12_mean, cX12_mean, 4, (some FieldType.long)) := rfl
theorem mt_X12_plan : mt jX12_plan = (yX12_plan, cX12_plan, 3, (some FieldType.int)) := rfl
theorem mt_X12_isPlan : mt jX12_isPlan = (yX12_isPlan, cX12_isPlan, 3, (some FieldType.boolean)) := rfl
theorem mt_X12_done : mt jX12_done = (yX12_done, cX12_done, 3, (some FieldType.int)) := rfl
theorem mt_X12_does : mt jX12_does = (yX12_does, cX12_does, 3, none) := rfl
theorem mt_X12_book : mt jX12_book = (yX12_book, cX12_book, 3, (some FieldType.int)) := rfl
theorem mt_X12_looked : mt jX12_looked = (yX12_looked, cX12_looked, 2, (some FieldType.int)) := rfl
theorem mt_X12_act : mt jX12_act = (yX12_act, cX12_act, 4, (some FieldType.int)) := rfl
theorem mt_X12_leansActs : mt jX12_leansActs = (yX12_leansActs, cX12_leansActs, 2, (some FieldType.int)) := rfl
theorem mt_X12_isUnder : mt jX12_isUnder = (yX12_isUnder, cX12_isUnder, 2, (some FieldType.boolean)) := rfl
theorem mt_X12_ranBody : mt jX12_ranBody = (yX12_ranBody, cX12_ranBody, 2, none) := rfl
theorem mt_X12_plainLeans : mt jX12_plainLeans = (yX12_plainLeans, cX12_plainLeans, 2, (some FieldType.int)) := rfl
theorem mt_X12_saysActs : mt jX12_saysActs = (yX12_saysActs, cX12_saysActs, 2, (some FieldType.int)) := rfl
theorem mt_X12_plainSays : mt jX12_plainSays = (yX12_plainSays, cX12_plainSays, 2, (some FieldType.int)) := rfl
theorem mt_X12_bristlesActs : mt jX12_bristlesActs = (yX12_bristlesActs, cX12_bristlesActs, 3, (some FieldType.int)) := rfl
theorem mt_X12_plainTelling : mt jX12_plainTelling = (yX12_plainTelling, cX12_plainTelling, 2, (some FieldType.int)) := rfl
theorem mt_X12_trace : mt jX12_trace = (yX12_trace, cX12_trace, 2, (some FieldType.int)) := rfl
theorem mt_X12_as : mt jX12_as = (yX12_as, cX12_as, 3, (some FieldType.int)) := rfl
theorem mt_X12_image : mt jX12_image = (yX12_image, cX12_image, 2, (some FieldType.int)) := rfl
theorem mt_X12_undo : mt jX12_undo = (yX12_undo, cX12_undo, 2, (some FieldType.int)) := rfl
theorem mt_X12_count : mt jX12_count = (yX12_count, cX12_count, 2, (some FieldType.int)) := rfl
end
section
/-! printed by wip/whole/gen/tables.py: the words of the tables that are used, each by its place -/
def TB : List Cond := lw_tbl.filter goodWord
theorem TB_ok : TbOK TB := fun w hw => good_of_word (List.mem_filter.mp hw).2
theorem in_S {w : Cond} {i : Nat} (h : (k2_sels lw_privs)[i]? = some w) (hg : goodWord w = true) : w ∈ TB := List.mem_filter.mpr ⟨List.mem_append_left _ (List.mem_of_getElem? h), hg⟩
theorem in_1 {w : Cond} {i : Nat} (h : tables_1_1[i]? = some w) (hg : goodWord w = true) : w ∈ TB := List.mem_filter.mpr ⟨List.mem_append_right _ (List.mem_append_left _ (List.mem_of_getElem? h)), hg⟩
theorem in_2 {w : Cond} {i : Nat} (h : tables_1_2[i]? = some w) (hg : goodWord w = true) : w ∈ TB := List.mem_filter.mpr ⟨List.mem_append_right _ (List.mem_append_right _ (List.mem_append_left _ (List.mem_of_getElem? h))), hg⟩
theorem in_3 {w : Cond} {i : Nat} (h : tables_1_3[i]? = some w) (hg : goodWord w = true) : w ∈ TB := List.mem_filter.mpr ⟨List.mem_append_right _ (List.mem_append_right _ (List.mem_append_right _ (List.mem_append_left _ (List.mem_of_getElem? h)))), hg⟩
theorem in_4 {w : Cond} {i : Nat} (h : tables_1_4[i]? = some w) (hg : goodWord w = true) : w ∈ TB := List.mem_filter.mpr ⟨List.mem_append_right _ (List.mem_append_right _ (List.mem_append_right _ (List.mem_append_right _ (List.mem_append_left _ (List.mem_of_getElem? h))))), hg⟩
theorem in_5 {w : Cond} {i : Nat} (h : tables_1_5[i]? = some w) (hg : goodWord w = true) : w ∈ TB := List.mem_filter.mpr ⟨List.mem_append_right _ (List.mem_append_right _ (List.mem_append_right _ (List.mem_append_right _ (List.mem_append_right _ (List.mem_append_left _ (List.mem_of_getElem? h)))))), hg⟩
theorem in_6 {w : Cond} {i : Nat} (h : tables_1_6[i]? = some w) (hg : goodWord w = true) : w ∈ TB := List.mem_filter.mpr ⟨List.mem_append_right _ (List.mem_append_right _ (List.mem_append_right _ (List.mem_append_right _ (List.mem_append_right _ (List.mem_append_right _ (List.mem_of_getElem? h)))))), hg⟩
theorem q_0 : Cond.laysFinal RX0 RX10 "bodies" "[I" ∈ TB := in_1 (i := 181) rfl rfl
theorem q_1 : Cond.lays RX0 RX10 "ran" "I" ∈ TB := in_1 (i := 182) rfl rfl
theorem q_2 : Cond.lays RX0 RX10 "i" "I" ∈ TB := in_1 (i := 183) rfl rfl
theorem q_3 : Cond.lays RX0 RX10 "v" "I" ∈ TB := in_1 (i := 184) rfl rfl
theorem q_4 : Cond.laysFinal RX1 RX1 "plain" "LUrchinSchool$Urchin;" ∈ TB := in_2 (i := 1) rfl rfl
theorem q_5 : Cond.laysFinal RX1 RX1 "kinds" "[LUrchinSchool$Urchin;" ∈ TB := in_2 (i := 3) rfl rfl
theorem q_6 : Cond.laysFinal RX1 RX1 "sets" "[I" ∈ TB := in_2 (i := 5) rfl rfl
theorem q_7 : Cond.lays RX1 RX1 "p" "I" ∈ TB := in_2 (i := 7) rfl rfl
theorem q_8 : Cond.lays RX1 RX1 "k" "I" ∈ TB := in_2 (i := 9) rfl rfl
theorem q_9 : Cond.lays RX1 RX1 "v" "I" ∈ TB := in_2 (i := 11) rfl rfl
theorem q_10 : Cond.lays RX1 RX1 "f" "I" ∈ TB := in_2 (i := 13) rfl rfl
theorem q_11 : Cond.lays RX1 RX1 "c" "I" ∈ TB := in_2 (i := 15) rfl rfl
theorem q_12 : Cond.lays RX1 RX1 "t" "I" ∈ TB := in_2 (i := 17) rfl rfl
theorem q_13 : Cond.lays RX1 RX1 "row" "I" ∈ TB := in_2 (i := 19) rfl rfl
theorem q_14 : Cond.lays RX1 RX1 "knows" "Z" ∈ TB := in_2 (i := 21) rfl rfl
theorem q_15 : Cond.laysFinal RX2 RX10 "bodies" "[I" ∈ TB := in_1 (i := 170) rfl rfl
theorem q_16 : Cond.lays RX2 RX10 "ran" "I" ∈ TB := in_1 (i := 171) rfl rfl
theorem q_17 : Cond.lays RX2 RX10 "i" "I" ∈ TB := in_1 (i := 172) rfl rfl
theorem q_18 : Cond.lays RX2 RX10 "v" "I" ∈ TB := in_1 (i := 173) rfl rfl
theorem q_19 : Cond.laysFinal RX3 RX10 "bodies" "[I" ∈ TB := in_1 (i := 159) rfl rfl
theorem q_20 : Cond.lays RX3 RX10 "ran" "I" ∈ TB := in_1 (i := 160) rfl rfl
theorem q_21 : Cond.lays RX3 RX10 "i" "I" ∈ TB := in_1 (i := 161) rfl rfl
theorem q_22 : Cond.lays RX3 RX10 "v" "I" ∈ TB := in_1 (i := 162) rfl rfl
theorem q_23 : Cond.laysFinal RX4 RX4 "steps" "[I" ∈ TB := in_2 (i := 44) rfl rfl
theorem q_24 : Cond.lays RX4 RX4 "size" "I" ∈ TB := in_2 (i := 46) rfl rfl
theorem q_25 : Cond.lays RX4 RX4 "keep" "I" ∈ TB := in_2 (i := 48) rfl rfl
theorem q_26 : Cond.lays RX4 RX4 "pass" "I" ∈ TB := in_2 (i := 50) rfl rfl
theorem q_27 : Cond.lays RX4 RX4 "tape" "[B" ∈ TB := in_2 (i := 52) rfl rfl
theorem q_28 : Cond.lays RX4 RX4 "signs" "I" ∈ TB := in_2 (i := 54) rfl rfl
theorem q_29 : Cond.lays RX4 RX4 "at" "I" ∈ TB := in_2 (i := 56) rfl rfl
theorem q_30 : Cond.lays RX4 RX4 "sign" "I" ∈ TB := in_2 (i := 58) rfl rfl
theorem q_31 : Cond.lays RX4 RX4 "test" "I" ∈ TB := in_2 (i := 60) rfl rfl
theorem q_32 : Cond.lays RX4 RX4 "number" "I" ∈ TB := in_2 (i := 62) rfl rfl
theorem q_33 : Cond.laysFinal RX5 RX10 "bodies" "[I" ∈ TB := in_1 (i := 192) rfl rfl
theorem q_34 : Cond.lays RX5 RX10 "ran" "I" ∈ TB := in_1 (i := 193) rfl rfl
theorem q_35 : Cond.lays RX5 RX10 "i" "I" ∈ TB := in_1 (i := 194) rfl rfl
theorem q_36 : Cond.lays RX5 RX10 "v" "I" ∈ TB := in_1 (i := 195) rfl rfl
theorem q_37 : Cond.laysFinal RX6 RX10 "bodies" "[I" ∈ TB := in_1 (i := 203) rfl rfl
theorem q_38 : Cond.lays RX6 RX10 "ran" "I" ∈ TB := in_1 (i := 204) rfl rfl
theorem q_39 : Cond.lays RX6 RX10 "i" "I" ∈ TB := in_1 (i := 205) rfl rfl
theorem q_40 : Cond.lays RX6 RX10 "v" "I" ∈ TB := in_1 (i := 206) rfl rfl
theorem q_41 : Cond.laysFinal RX7 RX7 "kind" "[I" ∈ TB := in_1 (i := 93) rfl rfl
theorem q_42 : Cond.laysFinal RX7 RX7 "v" "[I" ∈ TB := in_1 (i := 95) rfl rfl
theorem q_43 : Cond.laysFinal RX7 RX7 "knows" "[I" ∈ TB := in_1 (i := 97) rfl rfl
theorem q_44 : Cond.laysFinal RX7 RX7 "rows" "[I" ∈ TB := in_1 (i := 99) rfl rfl
theorem q_45 : Cond.laysFinal RX7 RX7 "lessons" "[I" ∈ TB := in_1 (i := 101) rfl rfl
theorem q_46 : Cond.lays RX7 RX7 "size" "I" ∈ TB := in_1 (i := 103) rfl rfl
theorem q_47 : Cond.lays RX7 RX7 "out" "I" ∈ TB := in_1 (i := 105) rfl rfl
theorem q_48 : Cond.lays RX7 RX7 "tide" "I" ∈ TB := in_1 (i := 107) rfl rfl
theorem q_49 : Cond.laysFinal RX7 RX7 "tape" "[B" ∈ TB := in_1 (i := 109) rfl rfl
theorem q_50 : Cond.lays RX7 RX7 "signs" "I" ∈ TB := in_1 (i := 111) rfl rfl
theorem q_51 : Cond.lays RX7 RX7 "ledges" "I" ∈ TB := in_1 (i := 113) rfl rfl
theorem q_52 : Cond.laysFinal RX7 RX7 "seen" "LUrchinSchool$Table;" ∈ TB := in_1 (i := 115) rfl rfl
theorem q_53 : Cond.laysFinal RX7 RX7 "plan" "LUrchinSchool$Table;" ∈ TB := in_1 (i := 117) rfl rfl
theorem q_54 : Cond.laysFinal RX7 RX7 "book" "LUrchinSchool$Table;" ∈ TB := in_1 (i := 119) rfl rfl
theorem q_55 : Cond.laysFinal RX8 RX8 "cells" "[I" ∈ TB := in_1 (i := 51) rfl rfl
theorem q_56 : Cond.laysFinal RX8 RX8 "limit" "I" ∈ TB := in_1 (i := 53) rfl rfl
theorem q_57 : Cond.lays RX8 RX8 "size" "I" ∈ TB := in_1 (i := 55) rfl rfl
theorem q_58 : Cond.laysFinal RX9 RX10 "bodies" "[I" ∈ TB := in_1 (i := 214) rfl rfl
theorem q_59 : Cond.lays RX9 RX10 "ran" "I" ∈ TB := in_1 (i := 215) rfl rfl
theorem q_60 : Cond.lays RX9 RX10 "i" "I" ∈ TB := in_1 (i := 216) rfl rfl
theorem q_61 : Cond.lays RX9 RX10 "v" "I" ∈ TB := in_1 (i := 217) rfl rfl
theorem q_62 : Cond.laysFinal RX10 RX10 "bodies" "[I" ∈ TB := in_1 (i := 143) rfl rfl
theorem q_63 : Cond.lays RX10 RX10 "ran" "I" ∈ TB := in_1 (i := 145) rfl rfl
theorem q_64 : Cond.lays RX10 RX10 "i" "I" ∈ TB := in_1 (i := 147) rfl rfl
theorem q_65 : Cond.lays RX10 RX10 "v" "I" ∈ TB := in_1 (i := 149) rfl rfl
theorem q_66 : Cond.laysFinal RX11 RX11 "now" "LUrchinSchool$School;" ∈ TB := in_2 (i := 74) rfl rfl
theorem q_67 : Cond.laysFinal RX11 RX11 "kept" "LUrchinSchool$School;" ∈ TB := in_2 (i := 76) rfl rfl
theorem q_68 : Cond.laysFinal RX11 RX11 "ahead" "LUrchinSchool$School;" ∈ TB := in_2 (i := 78) rfl rfl
theorem q_69 : Cond.laysFinal RX11 RX11 "heeds" "LUrchinSchool$Heeds;" ∈ TB := in_2 (i := 80) rfl rfl
theorem q_70 : Cond.laysFinal RX11 RX11 "bare" "LUrchinSchool$Ledge;" ∈ TB := in_2 (i := 82) rfl rfl
theorem q_71 : Cond.laysFinal RX11 RX11 "ledges" "[LUrchinSchool$Ledge;" ∈ TB := in_2 (i := 84) rfl rfl
theorem q_72 : Cond.lays RX11 RX11 "imageTaken" "Z" ∈ TB := in_2 (i := 86) rfl rfl
theorem q_73 : Cond.lays RX11 RX11 "actor" "LUrchinSchool$Urchin;" ∈ TB := in_2 (i := 88) rfl rfl
theorem q_74 : Cond.lays RX12 RX12 "thrown" "I" ∈ TB := in_5 (i := 19) rfl rfl
theorem q_75 : Cond.laysFinal RX12 RX12 "s" "[I" ∈ TB := in_5 (i := 21) rfl rfl
theorem q_76 : Cond.laysFinal RX12 RX12 "image" "[I" ∈ TB := in_5 (i := 23) rfl rfl
theorem q_77 : Cond.laysFinal RX12 RX12 "frame" "[I" ∈ TB := in_5 (i := 25) rfl rfl
theorem q_78 : Cond.lays RX12 RX12 "hasImage" "Z" ∈ TB := in_5 (i := 27) rfl rfl
theorem q_79 : Cond.lays RX12 RX12 "act" "I" ∈ TB := in_5 (i := 29) rfl rfl
theorem q_80 : Cond.lays RX12 RX12 "spot" "I" ∈ TB := in_5 (i := 31) rfl rfl
theorem q_81 : Cond.lays RX12 RX12 "end" "I" ∈ TB := in_5 (i := 33) rfl rfl
theorem q_82 : Cond.lays RX12 RX12 "isWrong" "Z" ∈ TB := in_5 (i := 35) rfl rfl
theorem q_83 : Cond.lays RX12 RX12 "open" "I" ∈ TB := in_5 (i := 37) rfl rfl
theorem q_84 : Cond.laysFinal RX12 RX12 "by" "[I" ∈ TB := in_5 (i := 39) rfl rfl
theorem q_85 : Cond.laysFinal RX12 RX12 "truths" "[Z" ∈ TB := in_5 (i := 41) rfl rfl
theorem q_86 : Cond.laysFinal RX12 RX12 "sums" "[I" ∈ TB := in_5 (i := 43) rfl rfl
theorem q_87 : Cond.laysFinal RX12 RX12 "lookedFor" "[I" ∈ TB := in_5 (i := 45) rfl rfl
theorem q_88 : Cond.lays RX12 RX12 "looking" "I" ∈ TB := in_5 (i := 47) rfl rfl
theorem q_89 : Cond.laysFinal RX12 RX12 "next" "[I" ∈ TB := in_5 (i := 49) rfl rfl
theorem q_90 : Cond.laysFinal RX12 RX12 "bodies" "[I" ∈ TB := in_5 (i := 51) rfl rfl
theorem q_91 : Cond.lays RX12 RX12 "ran" "I" ∈ TB := in_5 (i := 53) rfl rfl
theorem q_92 : Cond.lays RX12 RX12 "kind" "I" ∈ TB := in_5 (i := 55) rfl rfl
theorem q_93 : Cond.lays RX12 RX12 "number" "I" ∈ TB := in_5 (i := 57) rfl rfl
theorem q_94 : Cond.lays RX12 RX12 "tellsV" "I" ∈ TB := in_5 (i := 59) rfl rfl
theorem cw_X11_init : Cond.code yX11_init cX11_init 1 none ∈ TB := in_1 (i := 27) rfl rfl
theorem cw_X7_init : Cond.code yX7_init cX7_init 1 none ∈ TB := in_1 (i := 35) rfl rfl
theorem cw_X8_init : Cond.code yX8_init cX8_init 2 none ∈ TB := in_1 (i := 41) rfl rfl
theorem cw_J9_min_7cf53 : Cond.code yJ9_min_7cf53 cJ9_min_7cf53 2 (some FieldType.int) ∈ TB := in_1 (i := 45) rfl rfl
theorem cw_X1_init : Cond.code yX1_init cX1_init 1 none ∈ TB := in_1 (i := 126) rfl rfl
theorem cw_X10_init : Cond.code yX10_init cX10_init 1 none ∈ TB := in_1 (i := 132) rfl rfl
theorem cw_X3_init : Cond.code yX3_init cX3_init 1 none ∈ TB := in_1 (i := 157) rfl rfl
theorem cw_X2_init : Cond.code yX2_init cX2_init 1 none ∈ TB := in_1 (i := 168) rfl rfl
theorem cw_X0_init : Cond.code yX0_init cX0_init 1 none ∈ TB := in_1 (i := 179) rfl rfl
theorem cw_X5_init : Cond.code yX5_init cX5_init 1 none ∈ TB := in_1 (i := 190) rfl rfl
theorem cw_X6_init : Cond.code yX6_init cX6_init 1 none ∈ TB := in_1 (i := 201) rfl rfl
theorem cw_X9_init : Cond.code yX9_init cX9_init 1 none ∈ TB := in_1 (i := 212) rfl rfl
theorem cw_X4_init : Cond.code yX4_init cX4_init 1 none ∈ TB := in_2 (i := 28) rfl rfl
theorem cw_X11_feed : Cond.code yX11_feed cX11_feed 2 (some FieldType.int) ∈ TB := in_2 (i := 94) rfl rfl
theorem cw_X11_ledge : Cond.code yX11_ledge cX11_ledge 2 (some FieldType.int) ∈ TB := in_2 (i := 98) rfl rfl
theorem cw_X4_read : Cond.code yX4_read cX4_read 4 (some FieldType.int) ∈ TB := in_2 (i := 102) rfl rfl
theorem cw_X4_advance : Cond.code yX4_advance cX4_advance 1 none ∈ TB := in_2 (i := 106) rfl rfl
theorem cw_X4_readClause : Cond.code yX4_readClause cX4_readClause 3 (some FieldType.boolean) ∈ TB := in_2 (i := 110) rfl rfl
theorem cw_X4_wordOf : Cond.code yX4_wordOf cX4_wordOf 1 (some (FieldType.object "java/lang/String")) ∈ TB := in_2 (i := 113) rfl rfl
theorem cw_X4_takeWord : Cond.code yX4_takeWord cX4_takeWord 3 (some FieldType.boolean) ∈ TB := in_2 (i := 121) rfl rfl
theorem cw_J0_length_8abf5 : Cond.code yJ0_length_8abf5 cJ0_length_8abf5 1 (some FieldType.int) ∈ TB := in_2 (i := 125) rfl rfl
theorem cw_J0_coder_7d493 : Cond.code yJ0_coder_7d493 cJ0_coder_7d493 1 (some FieldType.byte) ∈ TB := in_2 (i := 129) rfl rfl
theorem cw_J0_charAt_5068e : Cond.code yJ0_charAt_5068e cJ0_charAt_5068e 2 (some FieldType.char) ∈ TB := in_2 (i := 135) rfl rfl
theorem cw_J0_isLatin1_aae02 : Cond.code yJ0_isLatin1_aae02 cJ0_isLatin1_aae02 1 (some FieldType.boolean) ∈ TB := in_2 (i := 139) rfl rfl
theorem cw_J1_charAt_3b067 : Cond.code yJ1_charAt_3b067 cJ1_charAt_3b067 2 (some FieldType.char) ∈ TB := in_2 (i := 142) rfl rfl
theorem cw_J0_checkIndex_df160 : Cond.code yJ0_checkIndex_df160 cJ0_checkIndex_df160 2 none ∈ TB := in_2 (i := 145) rfl rfl
theorem cw_J3_checkIndex_8e157 : Cond.code yJ3_checkIndex_8e157 cJ3_checkIndex_8e157 3 (some FieldType.int) ∈ TB := in_2 (i := 150) rfl rfl
theorem cw_J2_charAt_3b067 : Cond.code yJ2_charAt_3b067 cJ2_charAt_3b067 2 (some FieldType.char) ∈ TB := in_2 (i := 153) rfl rfl
theorem cw_J2_checkIndex_2214a : Cond.code yJ2_checkIndex_2214a cJ2_checkIndex_2214a 2 none ∈ TB := in_2 (i := 156) rfl rfl
theorem cw_J2_length_9d52b : Cond.code yJ2_length_9d52b cJ2_length_9d52b 1 (some FieldType.int) ∈ TB := in_2 (i := 159) rfl rfl
theorem cw_J2_getChar_3b067 : Cond.code yJ2_getChar_3b067 cJ2_getChar_3b067 2 (some FieldType.char) ∈ TB := in_2 (i := 163) rfl rfl
theorem cw_X4_take : Cond.code yX4_take cX4_take 2 (some FieldType.boolean) ∈ TB := in_2 (i := 173) rfl rfl
theorem cw_X4_readNumber : Cond.code yX4_readNumber cX4_readNumber 1 (some FieldType.boolean) ∈ TB := in_2 (i := 177) rfl rfl
theorem cw_X4_isDigit : Cond.code yX4_isDigit cX4_isDigit 1 (some FieldType.boolean) ∈ TB := in_2 (i := 180) rfl rfl
theorem cw_X4_readEither : Cond.code yX4_readEither cX4_readEither 3 (some FieldType.boolean) ∈ TB := in_2 (i := 184) rfl rfl
theorem cw_X4_readBoth : Cond.code yX4_readBoth cX4_readBoth 3 (some FieldType.boolean) ∈ TB := in_2 (i := 188) rfl rfl
theorem cw_X4_readPart : Cond.code yX4_readPart cX4_readPart 2 (some FieldType.boolean) ∈ TB := in_2 (i := 192) rfl rfl
theorem cw_X4_readTest : Cond.code yX4_readTest cX4_readTest 3 (some FieldType.boolean) ∈ TB := in_2 (i := 196) rfl rfl
theorem cw_X4_placeOf : Cond.code yX4_placeOf cX4_placeOf 2 (some FieldType.int) ∈ TB := in_2 (i := 200) rfl rfl
theorem cw_J0_indexOf_0f7a4 : Cond.code yJ0_indexOf_0f7a4 cJ0_indexOf_0f7a4 2 (some FieldType.int) ∈ TB := in_2 (i := 204) rfl rfl
theorem cw_J0_indexOf_7cf53 : Cond.code yJ0_indexOf_7cf53 cJ0_indexOf_7cf53 3 (some FieldType.int) ∈ TB := in_2 (i := 208) rfl rfl
theorem cw_J1_indexOf_4cfef : Cond.code yJ1_indexOf_4cfef cJ1_indexOf_4cfef 4 (some FieldType.int) ∈ TB := in_2 (i := 212) rfl rfl
theorem cw_J1_canEncode_9a6ad : Cond.code yJ1_canEncode_9a6ad cJ1_canEncode_9a6ad 1 (some FieldType.boolean) ∈ TB := in_2 (i := 215) rfl rfl
theorem cw_J9_max_7cf53 : Cond.code yJ9_max_7cf53 cJ9_max_7cf53 2 (some FieldType.int) ∈ TB := in_2 (i := 218) rfl rfl
theorem cw_J1_indexOfChar_4cfef : Cond.code yJ1_indexOfChar_4cfef cJ1_indexOfChar_4cfef 6 (some FieldType.int) ∈ TB := in_2 (i := 222) rfl rfl
theorem cw_J2_indexOf_4cfef : Cond.code yJ2_indexOf_4cfef cJ2_indexOf_4cfef 4 (some FieldType.int) ∈ TB := in_2 (i := 225) rfl rfl
theorem cw_J2_indexOfChar_4cfef : Cond.code yJ2_indexOfChar_4cfef cJ2_indexOfChar_4cfef 4 (some FieldType.int) ∈ TB := in_2 (i := 231) rfl rfl
theorem cw_J2_checkBoundsBeginEnd_d044e : Cond.code yJ2_checkBoundsBeginEnd_d044e cJ2_checkBoundsBeginEnd_d044e 3 none ∈ TB := in_2 (i := 234) rfl rfl
theorem cw_J0_checkBoundsBeginEnd_23922 : Cond.code yJ0_checkBoundsBeginEnd_23922 cJ0_checkBoundsBeginEnd_23922 3 none ∈ TB := in_2 (i := 237) rfl rfl
theorem cw_J3_checkFromToIndex_8c36e : Cond.code yJ3_checkFromToIndex_8c36e cJ3_checkFromToIndex_8c36e 4 (some FieldType.int) ∈ TB := in_3 (i := 0) rfl rfl
theorem cw_J2_indexOfCharUnsafe_4cfef : Cond.code yJ2_indexOfCharUnsafe_4cfef cJ2_indexOfCharUnsafe_4cfef 5 (some FieldType.int) ∈ TB := in_3 (i := 3) rfl rfl
theorem cw_J2_indexOfSupplementary_4cfef : Cond.code yJ2_indexOfSupplementary_4cfef cJ2_indexOfSupplementary_4cfef 7 (some FieldType.int) ∈ TB := in_3 (i := 6) rfl rfl
theorem cw_J11_isValidCodePoint_9a6ad : Cond.code yJ11_isValidCodePoint_9a6ad cJ11_isValidCodePoint_9a6ad 2 (some FieldType.boolean) ∈ TB := in_3 (i := 9) rfl rfl
theorem cw_J11_highSurrogate_5068e : Cond.code yJ11_highSurrogate_5068e cJ11_highSurrogate_5068e 1 (some FieldType.char) ∈ TB := in_3 (i := 12) rfl rfl
theorem cw_J11_lowSurrogate_5068e : Cond.code yJ11_lowSurrogate_5068e cJ11_lowSurrogate_5068e 1 (some FieldType.char) ∈ TB := in_3 (i := 16) rfl rfl
theorem cw_X4_put : Cond.code yX4_put cX4_put 2 (some FieldType.boolean) ∈ TB := in_3 (i := 22) rfl rfl
theorem cw_X11_urchin : Cond.code yX11_urchin cX11_urchin 3 (some FieldType.int) ∈ TB := in_3 (i := 26) rfl rfl
theorem cw_X11_isNumber : Cond.code yX11_isNumber cX11_isNumber 1 (some FieldType.boolean) ∈ TB := in_3 (i := 29) rfl rfl
theorem cw_X7_join : Cond.code yX7_join cX7_join 4 (some FieldType.int) ∈ TB := in_3 (i := 33) rfl rfl
theorem cw_X7_putOut : Cond.code yX7_putOut cX7_putOut 3 none ∈ TB := in_3 (i := 37) rfl rfl
theorem cw_X11_of : Cond.code yX11_of cX11_of 3 (some FieldType.int) ∈ TB := in_3 (i := 41) rfl rfl
theorem cw_X7_has : Cond.code yX7_has cX7_has 2 (some FieldType.boolean) ∈ TB := in_3 (i := 45) rfl rfl
theorem cw_X7_isOut : Cond.code yX7_isOut cX7_isOut 2 (some FieldType.boolean) ∈ TB := in_3 (i := 50) rfl rfl
theorem cw_X11_isFact : Cond.code yX11_isFact cX11_isFact 2 (some FieldType.boolean) ∈ TB := in_3 (i := 54) rfl rfl
theorem cw_X11_holding : Cond.code yX11_holding cX11_holding 2 (some (FieldType.object "UrchinSchool$Ledge")) ∈ TB := in_3 (i := 59) rfl rfl
theorem cw_X1_heedOf : Cond.code yX1_heedOf cX1_heedOf 5 (some FieldType.int) ∈ TB := in_3 (i := 63) rfl rfl
theorem cw_X1_look : Cond.code yX1_look cX1_look 4 none ∈ TB := in_3 (i := 67) rfl rfl
theorem cw_J6_bitCount_0f7a4 : Cond.code yJ6_bitCount_0f7a4 cJ6_bitCount_0f7a4 1 (some FieldType.int) ∈ TB := in_3 (i := 71) rfl rfl
theorem cw_X1_kindOf : Cond.code yX1_kindOf cX1_kindOf 3 (some (FieldType.object "UrchinSchool$Urchin")) ∈ TB := in_3 (i := 78) rfl rfl
theorem cw_X4_sum : Cond.code yX4_sum cX4_sum 6 (some FieldType.int) ∈ TB := in_3 (i := 82) rfl rfl
theorem cw_X4_holds : Cond.code yX4_holds cX4_holds 5 (some FieldType.boolean) ∈ TB := in_3 (i := 85) rfl rfl
theorem cw_X4_joined : Cond.code yX4_joined cX4_joined 4 (some FieldType.int) ∈ TB := in_3 (i := 88) rfl rfl
theorem cw_X0_heed : Cond.code yX0_heed cX0_heed 3 (some FieldType.int) ∈ TB := in_3 (i := 95) rfl rfl
theorem cw_X2_heed : Cond.code yX2_heed cX2_heed 3 (some FieldType.int) ∈ TB := in_3 (i := 98) rfl rfl
theorem cw_X3_heed : Cond.code yX3_heed cX3_heed 3 (some FieldType.int) ∈ TB := in_3 (i := 101) rfl rfl
theorem cw_X5_heed : Cond.code yX5_heed cX5_heed 4 (some FieldType.int) ∈ TB := in_3 (i := 104) rfl rfl
theorem cw_X6_heed : Cond.code yX6_heed cX6_heed 3 (some FieldType.int) ∈ TB := in_3 (i := 108) rfl rfl
theorem cw_X9_heed : Cond.code yX9_heed cX9_heed 3 (some FieldType.int) ∈ TB := in_3 (i := 112) rfl rfl
theorem cw_X10_heed : Cond.code yX10_heed cX10_heed 3 (some FieldType.int) ∈ TB := in_3 (i := 114) rfl rfl
theorem cw_X11_row : Cond.code yX11_row cX11_row 6 (some FieldType.int) ∈ TB := in_3 (i := 118) rfl rfl
theorem cw_X11_isLesson : Cond.code yX11_isLesson cX11_isLesson 1 (some FieldType.boolean) ∈ TB := in_3 (i := 121) rfl rfl
theorem cw_X11_learn : Cond.code yX11_learn cX11_learn 4 (some FieldType.int) ∈ TB := in_3 (i := 125) rfl rfl
theorem cw_X11_isSet : Cond.code yX11_isSet cX11_isSet 1 (some FieldType.boolean) ∈ TB := in_3 (i := 128) rfl rfl
theorem cw_X11_beach : Cond.code yX11_beach cX11_beach 4 (some FieldType.int) ∈ TB := in_3 (i := 132) rfl rfl
theorem cw_X11_lesson : Cond.code yX11_lesson cX11_lesson 4 (some FieldType.int) ∈ TB := in_3 (i := 137) rfl rfl
theorem cw_X11_told : Cond.code yX11_told cX11_told 2 (some FieldType.int) ∈ TB := in_3 (i := 141) rfl rfl
theorem cw_X7_all : Cond.code yX7_all cX7_all 3 (some FieldType.int) ∈ TB := in_3 (i := 145) rfl rfl
theorem cw_X7_held : Cond.code yX7_held cX7_held 3 (some FieldType.int) ∈ TB := in_3 (i := 150) rfl rfl
theorem cw_X7_few : Cond.code yX7_few cX7_few 5 (some FieldType.int) ∈ TB := in_3 (i := 155) rfl rfl
theorem cw_X7_knownBy : Cond.code yX7_knownBy cX7_knownBy 4 (some FieldType.int) ∈ TB := in_3 (i := 160) rfl rfl
theorem cw_X11_toldLesson : Cond.code yX11_toldLesson cX11_toldLesson 3 (some FieldType.int) ∈ TB := in_3 (i := 164) rfl rfl
theorem cw_X11_pass : Cond.code yX11_pass cX11_pass 2 (some FieldType.int) ∈ TB := in_3 (i := 168) rfl rfl
theorem cw_X11_areTides : Cond.code yX11_areTides cX11_areTides 1 (some FieldType.boolean) ∈ TB := in_3 (i := 171) rfl rfl
theorem cw_X1_forget : Cond.code yX1_forget cX1_forget 1 none ∈ TB := in_3 (i := 175) rfl rfl
theorem cw_J7_fill_53178 : Cond.code yJ7_fill_53178 cJ7_fill_53178 4 none ∈ TB := in_3 (i := 178) rfl rfl
theorem cw_X11_go : Cond.code yX11_go cX11_go 5 none ∈ TB := in_3 (i := 182) rfl rfl
theorem cw_X7_lessonNow : Cond.code yX7_lessonNow cX7_lessonNow 2 (some FieldType.int) ∈ TB := in_3 (i := 186) rfl rfl
theorem cw_X7_goTide : Cond.code yX7_goTide cX7_goTide 10 none ∈ TB := in_3 (i := 190) rfl rfl
theorem cw_X1_setsOf : Cond.code yX1_setsOf cX1_setsOf 6 (some FieldType.int) ∈ TB := in_3 (i := 195) rfl rfl
theorem cw_X1_weigh : Cond.code yX1_weigh cX1_weigh 7 (some FieldType.int) ∈ TB := in_3 (i := 199) rfl rfl
theorem cw_X7_least : Cond.code yX7_least cX7_least 5 (some FieldType.int) ∈ TB := in_3 (i := 202) rfl rfl
theorem cw_X11_on : Cond.code yX11_on cX11_on 4 (some FieldType.int) ∈ TB := in_3 (i := 206) rfl rfl
theorem cw_X7_becomeRow : Cond.code yX7_becomeRow cX7_becomeRow 2 none ∈ TB := in_3 (i := 210) rfl rfl
theorem cw_X11_lasts : Cond.code yX11_lasts cX11_lasts 3 (some FieldType.int) ∈ TB := in_3 (i := 217) rfl rfl
theorem cw_X11_tidesAheadWith : Cond.code yX11_tidesAheadWith cX11_tidesAheadWith 4 (some FieldType.int) ∈ TB := in_3 (i := 221) rfl rfl
theorem cw_X11_teach : Cond.code yX11_teach cX11_teach 8 (some FieldType.int) ∈ TB := in_3 (i := 225) rfl rfl
theorem cw_X11_heldIfTaught : Cond.code yX11_heldIfTaught cX11_heldIfTaught 5 (some FieldType.int) ∈ TB := in_3 (i := 229) rfl rfl
theorem cw_X11_taughtAt : Cond.code yX11_taughtAt cX11_taughtAt 5 (some FieldType.int) ∈ TB := in_3 (i := 232) rfl rfl
theorem cw_X11_tell : Cond.code yX11_tell cX11_tell 6 (some FieldType.int) ∈ TB := in_3 (i := 236) rfl rfl
theorem cw_X11_tidesIfTold : Cond.code yX11_tidesIfTold cX11_tidesIfTold 3 (some FieldType.int) ∈ TB := in_4 (i := 0) rfl rfl
theorem cw_X7_tellFact : Cond.code yX7_tellFact cX7_tellFact 3 none ∈ TB := in_4 (i := 4) rfl rfl
theorem cw_X11_see : Cond.code yX11_see cX11_see 5 (some FieldType.int) ∈ TB := in_4 (i := 8) rfl rfl
theorem cw_X8_empty : Cond.code yX8_empty cX8_empty 1 (some FieldType.int) ∈ TB := in_4 (i := 12) rfl rfl
theorem cw_X8_add : Cond.code yX8_add cX8_add 6 (some FieldType.int) ∈ TB := in_4 (i := 16) rfl rfl
theorem cw_X11_knew : Cond.code yX11_knew cX11_knew 6 (some FieldType.int) ∈ TB := in_4 (i := 20) rfl rfl
theorem cw_X11_isPart : Cond.code yX11_isPart cX11_isPart 1 (some FieldType.boolean) ∈ TB := in_4 (i := 23) rfl rfl
theorem cw_X11_seenIsSo : Cond.code yX11_seenIsSo cX11_seenIsSo 4 (some FieldType.boolean) ∈ TB := in_4 (i := 27) rfl rfl
theorem cw_X7_lastSeen : Cond.code yX7_lastSeen cX7_lastSeen 3 (some FieldType.int) ∈ TB := in_4 (i := 31) rfl rfl
theorem cw_X8_cell : Cond.code yX8_cell cX8_cell 4 (some FieldType.int) ∈ TB := in_4 (i := 35) rfl rfl
theorem cw_X7_isAsSeen : Cond.code yX7_isAsSeen cX7_isAsSeen 5 (some FieldType.boolean) ∈ TB := in_4 (i := 40) rfl rfl
theorem cw_X11_firm : Cond.code yX11_firm cX11_firm 6 (some FieldType.int) ∈ TB := in_4 (i := 44) rfl rfl
theorem cw_X11_odds : Cond.code yX11_odds cX11_odds 6 (some FieldType.long) ∈ TB := in_4 (i := 48) rfl rfl
theorem cw_X7_notOut : Cond.code yX7_notOut cX7_notOut 3 (some FieldType.int) ∈ TB := in_4 (i := 53) rfl rfl
theorem cw_X11_lowest : Cond.code yX11_lowest cX11_lowest 7 (some FieldType.long) ∈ TB := in_4 (i := 56) rfl rfl
theorem cw_X11_mean : Cond.code yX11_mean cX11_mean 2 (some FieldType.long) ∈ TB := in_4 (i := 60) rfl rfl
theorem cw_X11_plan : Cond.code yX11_plan cX11_plan 3 (some FieldType.int) ∈ TB := in_4 (i := 64) rfl rfl
theorem cw_X11_isPlan : Cond.code yX11_isPlan cX11_isPlan 3 (some FieldType.boolean) ∈ TB := in_4 (i := 68) rfl rfl
theorem cw_X11_done : Cond.code yX11_done cX11_done 3 (some FieldType.int) ∈ TB := in_4 (i := 72) rfl rfl
theorem cw_X11_doPlanned : Cond.code yX11_doPlanned cX11_doPlanned 3 none ∈ TB := in_4 (i := 77) rfl rfl
theorem cw_X11_book : Cond.code yX11_book cX11_book 3 (some FieldType.int) ∈ TB := in_4 (i := 81) rfl rfl
theorem cw_X11_looked : Cond.code yX11_looked cX11_looked 3 (some FieldType.int) ∈ TB := in_4 (i := 85) rfl rfl
theorem cw_X11_act : Cond.code yX11_act cX11_act 5 (some FieldType.int) ∈ TB := in_4 (i := 89) rfl rfl
theorem cw_X10_wake : Cond.code yX10_wake cX10_wake 3 none ∈ TB := in_4 (i := 101) rfl rfl
theorem cw_X3_leans : Cond.code yX3_leans cX3_leans 2 (some FieldType.int) ∈ TB := in_4 (i := 110) rfl rfl
theorem cw_X10_begin : Cond.code yX10_begin cX10_begin 2 none ∈ TB := in_4 (i := 117) rfl rfl
theorem cw_X6_leans : Cond.code yX6_leans cX6_leans 2 (some FieldType.int) ∈ TB := in_4 (i := 122) rfl rfl
theorem cw_X10_leans : Cond.code yX10_leans cX10_leans 2 (some FieldType.int) ∈ TB := in_4 (i := 130) rfl rfl
theorem cw_X2_says : Cond.code yX2_says cX2_says 2 (some FieldType.int) ∈ TB := in_4 (i := 139) rfl rfl
theorem cw_X9_says : Cond.code yX9_says cX9_says 2 (some FieldType.int) ∈ TB := in_4 (i := 150) rfl rfl
theorem cw_X10_says : Cond.code yX10_says cX10_says 2 (some FieldType.int) ∈ TB := in_4 (i := 157) rfl rfl
theorem cw_X0_bristles : Cond.code yX0_bristles cX0_bristles 2 (some FieldType.int) ∈ TB := in_4 (i := 165) rfl rfl
theorem cw_X5_bristles : Cond.code yX5_bristles cX5_bristles 2 (some FieldType.int) ∈ TB := in_4 (i := 175) rfl rfl
theorem cw_X10_bristles : Cond.code yX10_bristles cX10_bristles 2 (some FieldType.int) ∈ TB := in_4 (i := 188) rfl rfl
theorem cw_X11_trace : Cond.code yX11_trace cX11_trace 2 (some FieldType.int) ∈ TB := in_4 (i := 193) rfl rfl
theorem cw_X10_bodyAt : Cond.code yX10_bodyAt cX10_bodyAt 2 (some FieldType.int) ∈ TB := in_4 (i := 204) rfl rfl
theorem cw_X11_as : Cond.code yX11_as cX11_as 5 (some FieldType.int) ∈ TB := in_4 (i := 208) rfl rfl
theorem cw_X11_image : Cond.code yX11_image cX11_image 1 (some FieldType.int) ∈ TB := in_4 (i := 214) rfl rfl
theorem cw_X7_become : Cond.code yX7_become cX7_become 2 none ∈ TB := in_4 (i := 218) rfl rfl
theorem cw_X8_takeOver : Cond.code yX8_takeOver cX8_takeOver 2 none ∈ TB := in_4 (i := 223) rfl rfl
theorem cw_X11_undo : Cond.code yX11_undo cX11_undo 1 (some FieldType.int) ∈ TB := in_4 (i := 228) rfl rfl
theorem cw_X11_count : Cond.code yX11_count cX11_count 2 (some FieldType.int) ∈ TB := in_4 (i := 232) rfl rfl
theorem cw_X12_init : Cond.code yX12_init cX12_init 2 none ∈ TB := in_4 (i := 237) rfl rfl
theorem cw_X12_feed : Cond.code yX12_feed cX12_feed 2 (some FieldType.int) ∈ TB := in_5 (i := 66) rfl rfl
theorem cw_X12_in : Cond.code yX12_in cX12_in 3 (some FieldType.boolean) ∈ TB := in_5 (i := 69) rfl rfl
theorem cw_X12_ledge : Cond.code yX12_ledge cX12_ledge 2 (some FieldType.int) ∈ TB := in_5 (i := 73) rfl rfl
theorem cw_X12_clauseHere : Cond.code yX12_clauseHere cX12_clauseHere 1 none ∈ TB := in_5 (i := 77) rfl rfl
theorem cw_X12_here : Cond.code yX12_here cX12_here 1 (some FieldType.int) ∈ TB := in_5 (i := 81) rfl rfl
theorem cw_X12_tellsHere : Cond.code yX12_tellsHere cX12_tellsHere 4 none ∈ TB := in_5 (i := 86) rfl rfl
theorem cw_X12_spells : Cond.code yX12_spells cX12_spells 3 none ∈ TB := in_5 (i := 90) rfl rfl
theorem cw_X12_must : Cond.code yX12_must cX12_must 2 none ∈ TB := in_5 (i := 96) rfl rfl
theorem cw_X12_figures : Cond.code yX12_figures cX12_figures 3 (some FieldType.int) ∈ TB := in_5 (i := 100) rfl rfl
theorem cw_X12_much : Cond.code yX12_much cX12_much 4 none ∈ TB := in_5 (i := 106) rfl rfl
theorem cw_X12_some : Cond.code yX12_some cX12_some 1 none ∈ TB := in_5 (i := 110) rfl rfl
theorem cw_X12_every : Cond.code yX12_every cX12_every 1 none ∈ TB := in_5 (i := 114) rfl rfl
theorem cw_X12_factor : Cond.code yX12_factor cX12_factor 5 none ∈ TB := in_5 (i := 118) rfl rfl
theorem cw_X12_emits : Cond.code yX12_emits cX12_emits 2 none ∈ TB := in_5 (i := 122) rfl rfl
theorem cw_X12_among : Cond.code yX12_among cX12_among 3 (some FieldType.int) ∈ TB := in_5 (i := 127) rfl rfl
theorem cw_X12_urchin : Cond.code yX12_urchin cX12_urchin 5 (some FieldType.int) ∈ TB := in_5 (i := 133) rfl rfl
theorem cw_X12_of : Cond.code yX12_of cX12_of 3 (some FieldType.int) ∈ TB := in_5 (i := 137) rfl rfl
theorem cw_X12_isUrchin : Cond.code yX12_isUrchin cX12_isUrchin 2 (some FieldType.boolean) ∈ TB := in_5 (i := 141) rfl rfl
theorem cw_X12_looksAnew : Cond.code yX12_looksAnew cX12_looksAnew 1 none ∈ TB := in_5 (i := 146) rfl rfl
theorem cw_X12_isFact : Cond.code yX12_isFact cX12_isFact 1 (some FieldType.boolean) ∈ TB := in_5 (i := 149) rfl rfl
theorem cw_X12_heedOf : Cond.code yX12_heedOf cX12_heedOf 5 (some FieldType.int) ∈ TB := in_5 (i := 153) rfl rfl
theorem cw_X12_sumOf : Cond.code yX12_sumOf cX12_sumOf 6 (some FieldType.int) ∈ TB := in_5 (i := 157) rfl rfl
theorem cw_X12_countOf : Cond.code yX12_countOf cX12_countOf 3 (some FieldType.int) ∈ TB := in_5 (i := 160) rfl rfl
theorem cw_X12_clausesOf : Cond.code yX12_clausesOf cX12_clausesOf 14 (some FieldType.int) ∈ TB := in_5 (i := 164) rfl rfl
theorem cw_X12_tellsOf : Cond.code yX12_tellsOf cX12_tellsOf 3 (some FieldType.int) ∈ TB := in_5 (i := 168) rfl rfl
theorem cw_X12_row : Cond.code yX12_row cX12_row 4 (some FieldType.int) ∈ TB := in_5 (i := 172) rfl rfl
theorem cw_X12_becomes : Cond.code yX12_becomes cX12_becomes 4 (some FieldType.int) ∈ TB := in_5 (i := 176) rfl rfl
theorem cw_X12_learn : Cond.code yX12_learn cX12_learn 3 (some FieldType.int) ∈ TB := in_5 (i := 180) rfl rfl
theorem cw_X12_beach : Cond.code yX12_beach cX12_beach 3 (some FieldType.int) ∈ TB := in_5 (i := 184) rfl rfl
theorem cw_X12_lesson : Cond.code yX12_lesson cX12_lesson 3 (some FieldType.int) ∈ TB := in_5 (i := 188) rfl rfl
theorem cw_X12_told : Cond.code yX12_told cX12_told 2 (some FieldType.int) ∈ TB := in_5 (i := 192) rfl rfl
theorem cw_X12_knownByAny : Cond.code yX12_knownByAny cX12_knownByAny 3 (some FieldType.int) ∈ TB := in_5 (i := 196) rfl rfl
theorem cw_X12_heldByAll : Cond.code yX12_heldByAll cX12_heldByAll 3 (some FieldType.int) ∈ TB := in_5 (i := 200) rfl rfl
theorem cw_X12_awayOnes : Cond.code yX12_awayOnes cX12_awayOnes 3 (some FieldType.int) ∈ TB := in_5 (i := 204) rfl rfl
theorem cw_X12_fewest : Cond.code yX12_fewest cX12_fewest 4 (some FieldType.int) ∈ TB := in_5 (i := 208) rfl rfl
theorem cw_X12_knownBy : Cond.code yX12_knownBy cX12_knownBy 4 (some FieldType.int) ∈ TB := in_5 (i := 212) rfl rfl
theorem cw_X12_pass : Cond.code yX12_pass cX12_pass 2 (some FieldType.int) ∈ TB := in_5 (i := 216) rfl rfl
theorem cw_X12_goesOn : Cond.code yX12_goesOn cX12_goesOn 3 none ∈ TB := in_5 (i := 220) rfl rfl
theorem cw_X12_goes : Cond.code yX12_goes cX12_goes 1 none ∈ TB := in_5 (i := 224) rfl rfl
theorem cw_X12_goesBy : Cond.code yX12_goesBy cX12_goesBy 3 none ∈ TB := in_5 (i := 228) rfl rfl
theorem cw_X12_knownNext : Cond.code yX12_knownNext cX12_knownNext 6 (some FieldType.int) ∈ TB := in_5 (i := 232) rfl rfl
theorem cw_X12_isKnownNext : Cond.code yX12_isKnownNext cX12_isKnownNext 7 (some FieldType.boolean) ∈ TB := in_5 (i := 236) rfl rfl
theorem cw_X12_isPassed : Cond.code yX12_isPassed cX12_isPassed 5 (some FieldType.boolean) ∈ TB := in_6 (i := 0) rfl rfl
theorem cw_X12_on : Cond.code yX12_on cX12_on 4 (some FieldType.int) ∈ TB := in_6 (i := 4) rfl rfl
theorem cw_X12_keeps : Cond.code yX12_keeps cX12_keeps 2 none ∈ TB := in_6 (i := 8) rfl rfl
theorem cw_X12_goesBack : Cond.code yX12_goesBack cX12_goesBack 2 none ∈ TB := in_6 (i := 12) rfl rfl
theorem cw_X12_lasts : Cond.code yX12_lasts cX12_lasts 3 (some FieldType.int) ∈ TB := in_6 (i := 16) rfl rfl
theorem cw_X12_tidesKnown : Cond.code yX12_tidesKnown cX12_tidesKnown 4 (some FieldType.int) ∈ TB := in_6 (i := 20) rfl rfl
theorem cw_X12_tell : Cond.code yX12_tell cX12_tell 6 (some FieldType.int) ∈ TB := in_6 (i := 24) rfl rfl
theorem cw_X12_teach : Cond.code yX12_teach cX12_teach 8 (some FieldType.int) ∈ TB := in_6 (i := 28) rfl rfl
theorem cw_X12_heldBehind : Cond.code yX12_heldBehind cX12_heldBehind 6 (some FieldType.int) ∈ TB := in_6 (i := 32) rfl rfl
theorem cw_X12_see : Cond.code yX12_see cX12_see 5 (some FieldType.int) ∈ TB := in_6 (i := 36) rfl rfl
theorem cw_X12_knew : Cond.code yX12_knew cX12_knew 3 (some FieldType.int) ∈ TB := in_6 (i := 40) rfl rfl
theorem cw_X12_fitting : Cond.code yX12_fitting cX12_fitting 9 (some FieldType.int) ∈ TB := in_6 (i := 44) rfl rfl
theorem cw_X12_areAsSeen : Cond.code yX12_areAsSeen cX12_areAsSeen 3 (some FieldType.boolean) ∈ TB := in_6 (i := 48) rfl rfl
theorem cw_X12_isAsSeen : Cond.code yX12_isAsSeen cX12_isAsSeen 5 (some FieldType.boolean) ∈ TB := in_6 (i := 52) rfl rfl
theorem cw_X12_firm : Cond.code yX12_firm cX12_firm 3 (some FieldType.int) ∈ TB := in_6 (i := 56) rfl rfl
theorem cw_X12_odds : Cond.code yX12_odds cX12_odds 9 (some FieldType.long) ∈ TB := in_6 (i := 60) rfl rfl
theorem cw_X12_lowest : Cond.code yX12_lowest cX12_lowest 11 (some FieldType.long) ∈ TB := in_6 (i := 64) rfl rfl
theorem cw_X12_mean : Cond.code yX12_mean cX12_mean 4 (some FieldType.long) ∈ TB := in_6 (i := 68) rfl rfl
theorem cw_X12_plan : Cond.code yX12_plan cX12_plan 3 (some FieldType.int) ∈ TB := in_6 (i := 72) rfl rfl
theorem cw_X12_isPlan : Cond.code yX12_isPlan cX12_isPlan 3 (some FieldType.boolean) ∈ TB := in_6 (i := 76) rfl rfl
theorem cw_X12_done : Cond.code yX12_done cX12_done 3 (some FieldType.int) ∈ TB := in_6 (i := 80) rfl rfl
theorem cw_X12_does : Cond.code yX12_does cX12_does 3 none ∈ TB := in_6 (i := 84) rfl rfl
theorem cw_X12_book : Cond.code yX12_book cX12_book 3 (some FieldType.int) ∈ TB := in_6 (i := 88) rfl rfl
theorem cw_X12_looked : Cond.code yX12_looked cX12_looked 2 (some FieldType.int) ∈ TB := in_6 (i := 92) rfl rfl
theorem cw_X12_act : Cond.code yX12_act cX12_act 4 (some FieldType.int) ∈ TB := in_6 (i := 96) rfl rfl
theorem cw_X12_leansActs : Cond.code yX12_leansActs cX12_leansActs 2 (some FieldType.int) ∈ TB := in_6 (i := 100) rfl rfl
theorem cw_X12_isUnder : Cond.code yX12_isUnder cX12_isUnder 2 (some FieldType.boolean) ∈ TB := in_6 (i := 103) rfl rfl
theorem cw_X12_ranBody : Cond.code yX12_ranBody cX12_ranBody 2 none ∈ TB := in_6 (i := 107) rfl rfl
theorem cw_X12_plainLeans : Cond.code yX12_plainLeans cX12_plainLeans 2 (some FieldType.int) ∈ TB := in_6 (i := 111) rfl rfl
theorem cw_X12_saysActs : Cond.code yX12_saysActs cX12_saysActs 2 (some FieldType.int) ∈ TB := in_6 (i := 115) rfl rfl
theorem cw_X12_plainSays : Cond.code yX12_plainSays cX12_plainSays 2 (some FieldType.int) ∈ TB := in_6 (i := 119) rfl rfl
theorem cw_X12_bristlesActs : Cond.code yX12_bristlesActs cX12_bristlesActs 3 (some FieldType.int) ∈ TB := in_6 (i := 123) rfl rfl
theorem cw_X12_plainTelling : Cond.code yX12_plainTelling cX12_plainTelling 2 (some FieldType.int) ∈ TB := in_6 (i := 127) rfl rfl
theorem cw_X12_trace : Cond.code yX12_trace cX12_trace 2 (some FieldType.int) ∈ TB := in_6 (i := 131) rfl rfl
theorem cw_X12_as : Cond.code yX12_as cX12_as 3 (some FieldType.int) ∈ TB := in_6 (i := 135) rfl rfl
theorem cw_X12_image : Cond.code yX12_image cX12_image 2 (some FieldType.int) ∈ TB := in_6 (i := 139) rfl rfl
theorem cw_X12_undo : Cond.code yX12_undo cX12_undo 2 (some FieldType.int) ∈ TB := in_6 (i := 143) rfl rfl
theorem cw_X12_count : Cond.code yX12_count cX12_count 2 (some FieldType.int) ∈ TB := in_6 (i := 147) rfl rfl
theorem q_95 : Cond.methodLink RX0 13 ⟨RX0, "begin", "(I)V"⟩ ∈ TB := in_4 (i := 166) rfl rfl
theorem q_96 : Cond.sameMethod RX0 RX10 "begin" "(I)V" ∈ TB := in_4 (i := 167) rfl rfl
theorem q_97 : Cond.selects RX0 ⟨RX0, "begin", "(I)V"⟩ yX10_begin ∈ TB := in_4 (i := 168) rfl rfl
theorem q_98 : Cond.instanceMethod yX10_begin ∈ TB := in_4 (i := 116) rfl rfl
theorem q_99 : Cond.initialized RX10 ∈ TB := in_1 (i := 6) rfl rfl
theorem q_100 : Cond.selects RX9 ⟨RX0, "begin", "(I)V"⟩ yX10_begin ∈ TB := in_4 (i := 169) rfl rfl
theorem q_101 : Cond.methodLink RX0 19 yX10_bristles ∈ TB := in_4 (i := 170) rfl rfl
theorem q_102 : Cond.sameMethod RX10 RX10 "bristles" "(I)I" ∈ TB := in_4 (i := 162) rfl rfl
theorem q_103 : Cond.superclass RX0 RX10 ∈ TB := in_1 (i := 185) rfl rfl
theorem q_104 : Cond.instanceMethod yX10_bristles ∈ TB := in_4 (i := 160) rfl rfl
theorem q_105 : Cond.fieldLink RX1 12 RX1 "plain" "LUrchinSchool$Urchin;" ∈ TB := in_1 (i := 219) rfl rfl
theorem q_106 : Cond.fieldLink RX1 36 RX1 "kinds" "[LUrchinSchool$Urchin;" ∈ TB := in_1 (i := 220) rfl rfl
theorem q_107 : Cond.fieldLink RX1 40 RX1 "sets" "[I" ∈ TB := in_1 (i := 221) rfl rfl
theorem q_108 : Cond.methodLink RX1 44 yJ7_fill_53178 ∈ TB := in_3 (i := 176) rfl rfl
theorem q_109 : Cond.static yJ7_fill_53178 ∈ TB := in_3 (i := 177) rfl rfl
theorem q_110 : Cond.initialized RJ7 ∈ TB := in_1 (i := 21) rfl rfl
theorem q_111 : Cond.methodLink RX1 50 yX7_has ∈ TB := in_3 (i := 68) rfl rfl
theorem q_112 : Cond.instanceMethod yX7_has ∈ TB := in_3 (i := 43) rfl rfl
theorem q_113 : Cond.selects RX7 yX7_has yX7_has ∈ TB := in_3 (i := 44) rfl rfl
theorem q_114 : Cond.initialized RX7 ∈ TB := in_1 (i := 2) rfl rfl
theorem q_115 : Cond.fieldLink RX1 56 RX7 "knows" "[I" ∈ TB := in_1 (i := 67) rfl rfl
theorem q_116 : Cond.methodLink RX1 59 yJ6_bitCount_0f7a4 ∈ TB := in_3 (i := 69) rfl rfl
theorem q_117 : Cond.static yJ6_bitCount_0f7a4 ∈ TB := in_3 (i := 70) rfl rfl
theorem q_118 : Cond.initialized RJ6 ∈ TB := in_1 (i := 20) rfl rfl
theorem q_119 : Cond.fieldLink RX1 65 RX7 "tide" "I" ∈ TB := in_1 (i := 79) rfl rfl
theorem q_120 : Cond.methodLink RX1 69 yX1_weigh ∈ TB := in_3 (i := 196) rfl rfl
theorem q_121 : Cond.instanceMethod yX1_weigh ∈ TB := in_3 (i := 198) rfl rfl
theorem q_122 : Cond.selects RX1 yX1_weigh yX1_weigh ∈ TB := in_S (i := 15) rfl rfl
theorem q_123 : Cond.initialized RX1 ∈ TB := in_1 (i := 5) rfl rfl
theorem q_124 : Cond.methodLink RX1 73 yX1_look ∈ TB := in_3 (i := 64) rfl rfl
theorem q_125 : Cond.instanceMethod yX1_look ∈ TB := in_3 (i := 66) rfl rfl
theorem q_126 : Cond.selects RX1 yX1_look yX1_look ∈ TB := in_S (i := 11) rfl rfl
theorem q_127 : Cond.fieldLink RX1 77 RX1 "knows" "Z" ∈ TB := in_2 (i := 0) rfl rfl
theorem q_128 : Cond.fieldLink RX1 80 RX1 "k" "I" ∈ TB := in_1 (i := 224) rfl rfl
theorem q_129 : Cond.methodLink RX1 83 yX1_kindOf ∈ TB := in_3 (i := 75) rfl rfl
theorem q_130 : Cond.instanceMethod yX1_kindOf ∈ TB := in_3 (i := 76) rfl rfl
theorem q_131 : Cond.selects RX1 yX1_kindOf yX1_kindOf ∈ TB := in_3 (i := 77) rfl rfl
theorem q_132 : Cond.methodLink RX1 87 yX4_sum ∈ TB := in_3 (i := 79) rfl rfl
theorem q_133 : Cond.instanceMethod yX4_sum ∈ TB := in_3 (i := 80) rfl rfl
theorem q_134 : Cond.selects RX4 yX4_sum yX4_sum ∈ TB := in_3 (i := 81) rfl rfl
theorem q_135 : Cond.initialized RX4 ∈ TB := in_1 (i := 13) rfl rfl
theorem q_136 : Cond.methodLink RX1 93 yX10_heed ∈ TB := in_3 (i := 89) rfl rfl
theorem q_137 : Cond.sameMethod RX10 RX10 "heed" "(ILUrchinSchool$Heeds;)I" ∈ TB := in_3 (i := 92) rfl rfl
theorem q_138 : Cond.instanceMethod yX10_heed ∈ TB := in_3 (i := 90) rfl rfl
theorem q_139 : Cond.selects RX0 yX10_heed yX0_heed ∈ TB := in_3 (i := 93) rfl rfl
theorem q_140 : Cond.instanceMethod yX0_heed ∈ TB := in_3 (i := 94) rfl rfl
theorem q_141 : Cond.initialized RX0 ∈ TB := in_1 (i := 9) rfl rfl
theorem q_142 : Cond.selects RX2 yX10_heed yX2_heed ∈ TB := in_3 (i := 96) rfl rfl
theorem q_143 : Cond.instanceMethod yX2_heed ∈ TB := in_3 (i := 97) rfl rfl
theorem q_144 : Cond.initialized RX2 ∈ TB := in_1 (i := 8) rfl rfl
theorem q_145 : Cond.selects RX3 yX10_heed yX3_heed ∈ TB := in_3 (i := 99) rfl rfl
theorem q_146 : Cond.instanceMethod yX3_heed ∈ TB := in_3 (i := 100) rfl rfl
theorem q_147 : Cond.initialized RX3 ∈ TB := in_1 (i := 7) rfl rfl
theorem q_148 : Cond.selects RX5 yX10_heed yX5_heed ∈ TB := in_3 (i := 102) rfl rfl
theorem q_149 : Cond.instanceMethod yX5_heed ∈ TB := in_3 (i := 103) rfl rfl
theorem q_150 : Cond.initialized RX5 ∈ TB := in_1 (i := 10) rfl rfl
theorem q_151 : Cond.selects RX6 yX10_heed yX6_heed ∈ TB := in_3 (i := 106) rfl rfl
theorem q_152 : Cond.instanceMethod yX6_heed ∈ TB := in_3 (i := 107) rfl rfl
theorem q_153 : Cond.initialized RX6 ∈ TB := in_1 (i := 11) rfl rfl
theorem q_154 : Cond.selects RX9 yX10_heed yX9_heed ∈ TB := in_3 (i := 110) rfl rfl
theorem q_155 : Cond.instanceMethod yX9_heed ∈ TB := in_3 (i := 111) rfl rfl
theorem q_156 : Cond.initialized RX9 ∈ TB := in_1 (i := 12) rfl rfl
theorem q_157 : Cond.selects RX10 yX10_heed yX10_heed ∈ TB := in_3 (i := 91) rfl rfl
theorem q_158 : Cond.fieldLink RX1 100 RX1 "p" "I" ∈ TB := in_1 (i := 222) rfl rfl
theorem q_159 : Cond.fieldLink RX1 103 RX7 "kind" "[I" ∈ TB := in_1 (i := 62) rfl rfl
theorem q_160 : Cond.fieldLink RX1 106 RX7 "v" "[I" ∈ TB := in_1 (i := 65) rfl rfl
theorem q_161 : Cond.fieldLink RX1 109 RX1 "v" "I" ∈ TB := in_1 (i := 228) rfl rfl
theorem q_162 : Cond.fieldLink RX1 111 RX1 "f" "I" ∈ TB := in_1 (i := 230) rfl rfl
theorem q_163 : Cond.fieldLink RX1 114 RX1 "c" "I" ∈ TB := in_1 (i := 233) rfl rfl
theorem q_164 : Cond.fieldLink RX1 117 RX1 "t" "I" ∈ TB := in_1 (i := 235) rfl rfl
theorem q_165 : Cond.fieldLink RX1 120 RX7 "rows" "[I" ∈ TB := in_1 (i := 71) rfl rfl
theorem q_166 : Cond.fieldLink RX1 123 RX1 "row" "I" ∈ TB := in_1 (i := 238) rfl rfl
theorem q_167 : Cond.methodLink RX2 7 ⟨RX2, "begin", "(I)V"⟩ ∈ TB := in_4 (i := 140) rfl rfl
theorem q_168 : Cond.sameMethod RX2 RX10 "begin" "(I)V" ∈ TB := in_4 (i := 141) rfl rfl
theorem q_169 : Cond.selects RX2 ⟨RX2, "begin", "(I)V"⟩ yX10_begin ∈ TB := in_4 (i := 142) rfl rfl
theorem q_170 : Cond.selects RX6 ⟨RX2, "begin", "(I)V"⟩ yX10_begin ∈ TB := in_4 (i := 143) rfl rfl
theorem q_171 : Cond.methodLink RX2 13 yX10_says ∈ TB := in_4 (i := 144) rfl rfl
theorem q_172 : Cond.sameMethod RX10 RX10 "says" "(I)I" ∈ TB := in_4 (i := 135) rfl rfl
theorem q_173 : Cond.superclass RX2 RX10 ∈ TB := in_1 (i := 174) rfl rfl
theorem q_174 : Cond.instanceMethod yX10_says ∈ TB := in_4 (i := 133) rfl rfl
theorem q_175 : Cond.methodLink RX3 13 ⟨RX3, "begin", "(I)V"⟩ ∈ TB := in_4 (i := 111) rfl rfl
theorem q_176 : Cond.sameMethod RX3 RX10 "begin" "(I)V" ∈ TB := in_4 (i := 112) rfl rfl
theorem q_177 : Cond.selects RX3 ⟨RX3, "begin", "(I)V"⟩ yX10_begin ∈ TB := in_4 (i := 114) rfl rfl
theorem q_178 : Cond.selects RX5 ⟨RX3, "begin", "(I)V"⟩ yX10_begin ∈ TB := in_4 (i := 115) rfl rfl
theorem q_179 : Cond.methodLink RX3 19 yX10_leans ∈ TB := in_4 (i := 118) rfl rfl
theorem q_180 : Cond.sameMethod RX10 RX10 "leans" "(I)I" ∈ TB := in_4 (i := 105) rfl rfl
theorem q_181 : Cond.superclass RX3 RX10 ∈ TB := in_1 (i := 163) rfl rfl
theorem q_182 : Cond.instanceMethod yX10_leans ∈ TB := in_4 (i := 103) rfl rfl
theorem q_183 : Cond.fieldLink RX4 9 RX4 "steps" "[I" ∈ TB := in_2 (i := 30) rfl rfl
theorem q_184 : Cond.fieldLink RX4 15 RX4 "keep" "I" ∈ TB := in_2 (i := 32) rfl rfl
theorem q_185 : Cond.fieldLink RX4 19 RX4 "pass" "I" ∈ TB := in_2 (i := 35) rfl rfl
theorem q_186 : Cond.fieldLink RX4 22 RX4 "tape" "[B" ∈ TB := in_2 (i := 38) rfl rfl
theorem q_187 : Cond.fieldLink RX4 26 RX4 "signs" "I" ∈ TB := in_2 (i := 39) rfl rfl
theorem q_188 : Cond.fieldLink RX4 29 RX4 "at" "I" ∈ TB := in_2 (i := 40) rfl rfl
theorem q_189 : Cond.fieldLink RX4 32 RX4 "size" "I" ∈ TB := in_2 (i := 31) rfl rfl
theorem q_190 : Cond.methodLink RX4 35 yX4_advance ∈ TB := in_2 (i := 103) rfl rfl
theorem q_191 : Cond.instanceMethod yX4_advance ∈ TB := in_2 (i := 105) rfl rfl
theorem q_192 : Cond.selects RX4 yX4_advance yX4_advance ∈ TB := in_S (i := 0) rfl rfl
theorem q_193 : Cond.methodLink RX4 38 yX4_readClause ∈ TB := in_2 (i := 107) rfl rfl
theorem q_194 : Cond.instanceMethod yX4_readClause ∈ TB := in_2 (i := 109) rfl rfl
theorem q_195 : Cond.selects RX4 yX4_readClause yX4_readClause ∈ TB := in_S (i := 1) rfl rfl
theorem q_196 : Cond.fieldLink RX4 42 RX4 "sign" "I" ∈ TB := in_2 (i := 41) rfl rfl
theorem q_197 : Cond.methodLink RX4 45 yX4_take ∈ TB := in_2 (i := 170) rfl rfl
theorem q_198 : Cond.instanceMethod yX4_take ∈ TB := in_2 (i := 172) rfl rfl
theorem q_199 : Cond.selects RX4 yX4_take yX4_take ∈ TB := in_S (i := 3) rfl rfl
theorem q_200 : Cond.methodLink RX4 49 yX4_wordOf ∈ TB := in_2 (i := 111) rfl rfl
theorem q_201 : Cond.static yX4_wordOf ∈ TB := in_2 (i := 112) rfl rfl
theorem q_202 : Cond.methodLink RX4 53 yX4_takeWord ∈ TB := in_2 (i := 118) rfl rfl
theorem q_203 : Cond.instanceMethod yX4_takeWord ∈ TB := in_2 (i := 120) rfl rfl
theorem q_204 : Cond.selects RX4 yX4_takeWord yX4_takeWord ∈ TB := in_S (i := 2) rfl rfl
theorem q_205 : Cond.methodLink RX4 57 yX4_readNumber ∈ TB := in_2 (i := 174) rfl rfl
theorem q_206 : Cond.instanceMethod yX4_readNumber ∈ TB := in_2 (i := 176) rfl rfl
theorem q_207 : Cond.selects RX4 yX4_readNumber yX4_readNumber ∈ TB := in_S (i := 4) rfl rfl
theorem q_208 : Cond.fieldLink RX4 60 RX4 "number" "I" ∈ TB := in_2 (i := 43) rfl rfl
theorem q_209 : Cond.methodLink RX4 63 yX4_readEither ∈ TB := in_2 (i := 181) rfl rfl
theorem q_210 : Cond.instanceMethod yX4_readEither ∈ TB := in_2 (i := 183) rfl rfl
theorem q_211 : Cond.selects RX4 yX4_readEither yX4_readEither ∈ TB := in_S (i := 5) rfl rfl
theorem q_212 : Cond.methodLink RX4 66 yX4_put ∈ TB := in_3 (i := 19) rfl rfl
theorem q_213 : Cond.instanceMethod yX4_put ∈ TB := in_3 (i := 21) rfl rfl
theorem q_214 : Cond.selects RX4 yX4_put yX4_put ∈ TB := in_S (i := 9) rfl rfl
theorem q_215 : Cond.methodLink RX4 77 yX4_readBoth ∈ TB := in_2 (i := 185) rfl rfl
theorem q_216 : Cond.instanceMethod yX4_readBoth ∈ TB := in_2 (i := 187) rfl rfl
theorem q_217 : Cond.selects RX4 yX4_readBoth yX4_readBoth ∈ TB := in_S (i := 6) rfl rfl
theorem q_218 : Cond.methodLink RX4 80 yX4_readPart ∈ TB := in_2 (i := 189) rfl rfl
theorem q_219 : Cond.instanceMethod yX4_readPart ∈ TB := in_2 (i := 191) rfl rfl
theorem q_220 : Cond.selects RX4 yX4_readPart yX4_readPart ∈ TB := in_S (i := 7) rfl rfl
theorem q_221 : Cond.methodLink RX4 83 yX4_readTest ∈ TB := in_2 (i := 193) rfl rfl
theorem q_222 : Cond.instanceMethod yX4_readTest ∈ TB := in_2 (i := 195) rfl rfl
theorem q_223 : Cond.selects RX4 yX4_readTest yX4_readTest ∈ TB := in_S (i := 8) rfl rfl
theorem q_224 : Cond.fieldLink RX4 86 RX4 "test" "I" ∈ TB := in_2 (i := 42) rfl rfl
theorem q_225 : Cond.methodLink RX4 91 yX4_placeOf ∈ TB := in_2 (i := 198) rfl rfl
theorem q_226 : Cond.static yX4_placeOf ∈ TB := in_2 (i := 199) rfl rfl
theorem q_227 : Cond.methodLink RX4 97 yJ0_indexOf_0f7a4 ∈ TB := in_2 (i := 201) rfl rfl
theorem q_228 : Cond.instanceMethod yJ0_indexOf_0f7a4 ∈ TB := in_2 (i := 202) rfl rfl
theorem q_229 : Cond.selects RJ0 yJ0_indexOf_0f7a4 yJ0_indexOf_0f7a4 ∈ TB := in_2 (i := 203) rfl rfl
theorem q_230 : Cond.initialized RJ0 ∈ TB := in_1 (i := 15) rfl rfl
theorem q_231 : Cond.methodLink RX4 103 yX4_isDigit ∈ TB := in_2 (i := 178) rfl rfl
theorem q_232 : Cond.static yX4_isDigit ∈ TB := in_2 (i := 179) rfl rfl
theorem q_233 : Cond.methodLink RX4 106 yJ0_length_8abf5 ∈ TB := in_2 (i := 122) rfl rfl
theorem q_234 : Cond.instanceMethod yJ0_length_8abf5 ∈ TB := in_2 (i := 123) rfl rfl
theorem q_235 : Cond.selects RJ0 yJ0_length_8abf5 yJ0_length_8abf5 ∈ TB := in_2 (i := 124) rfl rfl
theorem q_236 : Cond.methodLink RX4 110 yJ0_charAt_5068e ∈ TB := in_2 (i := 132) rfl rfl
theorem q_237 : Cond.instanceMethod yJ0_charAt_5068e ∈ TB := in_2 (i := 133) rfl rfl
theorem q_238 : Cond.selects RJ0 yJ0_charAt_5068e yJ0_charAt_5068e ∈ TB := in_2 (i := 134) rfl rfl
theorem q_239 : Cond.methodLink RX4 114 yX4_holds ∈ TB := in_3 (i := 83) rfl rfl
theorem q_240 : Cond.static yX4_holds ∈ TB := in_3 (i := 84) rfl rfl
theorem q_241 : Cond.methodLink RX4 118 yX4_joined ∈ TB := in_3 (i := 86) rfl rfl
theorem q_242 : Cond.static yX4_joined ∈ TB := in_3 (i := 87) rfl rfl
theorem q_243 : Cond.methodLink RX5 7 yX3_heed ∈ TB := in_3 (i := 105) rfl rfl
theorem q_244 : Cond.sameMethod RX3 RX3 "heed" "(ILUrchinSchool$Heeds;)I" ∈ TB := in_6 (i := 148) rfl rfl
theorem q_245 : Cond.superclass RX5 RX3 ∈ TB := in_1 (i := 196) rfl rfl
theorem q_246 : Cond.methodLink RX5 17 ⟨RX5, "begin", "(I)V"⟩ ∈ TB := in_4 (i := 176) rfl rfl
theorem q_247 : Cond.sameMethod RX5 RX10 "begin" "(I)V" ∈ TB := in_4 (i := 177) rfl rfl
theorem q_248 : Cond.selects RX5 ⟨RX5, "begin", "(I)V"⟩ yX10_begin ∈ TB := in_4 (i := 178) rfl rfl
theorem q_249 : Cond.methodLink RX5 23 ⟨RX3, "bristles", "(I)I"⟩ ∈ TB := in_4 (i := 179) rfl rfl
theorem q_250 : Cond.sameMethod RX3 RX10 "bristles" "(I)I" ∈ TB := in_4 (i := 180) rfl rfl
theorem q_251 : Cond.methodLink RX5 27 ⟨RX5, "leans", "(I)I"⟩ ∈ TB := in_4 (i := 182) rfl rfl
theorem q_252 : Cond.sameMethod RX5 RX3 "leans" "(I)I" ∈ TB := in_4 (i := 183) rfl rfl
theorem q_253 : Cond.selects RX5 ⟨RX5, "leans", "(I)I"⟩ yX3_leans ∈ TB := in_4 (i := 185) rfl rfl
theorem q_254 : Cond.instanceMethod yX3_leans ∈ TB := in_4 (i := 109) rfl rfl
theorem q_255 : Cond.methodLink RX6 7 yX2_heed ∈ TB := in_3 (i := 109) rfl rfl
theorem q_256 : Cond.sameMethod RX2 RX2 "heed" "(ILUrchinSchool$Heeds;)I" ∈ TB := in_6 (i := 149) rfl rfl
theorem q_257 : Cond.superclass RX6 RX2 ∈ TB := in_1 (i := 207) rfl rfl
theorem q_258 : Cond.methodLink RX6 17 ⟨RX6, "begin", "(I)V"⟩ ∈ TB := in_4 (i := 123) rfl rfl
theorem q_259 : Cond.sameMethod RX6 RX10 "begin" "(I)V" ∈ TB := in_4 (i := 124) rfl rfl
theorem q_260 : Cond.selects RX6 ⟨RX6, "begin", "(I)V"⟩ yX10_begin ∈ TB := in_4 (i := 125) rfl rfl
theorem q_261 : Cond.methodLink RX6 23 ⟨RX2, "leans", "(I)I"⟩ ∈ TB := in_4 (i := 126) rfl rfl
theorem q_262 : Cond.sameMethod RX2 RX10 "leans" "(I)I" ∈ TB := in_4 (i := 127) rfl rfl
theorem q_263 : Cond.fieldLink RX6 27 RX6 "i" "I" ∈ TB := in_1 (i := 138) rfl rfl
theorem q_264 : Cond.sameField RX6 RX10 "i" "I" ∈ TB := in_1 (i := 139) rfl rfl
theorem q_265 : Cond.fieldLink RX7 9 RX7 "kind" "[I" ∈ TB := in_1 (i := 60) rfl rfl
theorem q_266 : Cond.fieldLink RX7 15 RX7 "v" "[I" ∈ TB := in_1 (i := 63) rfl rfl
theorem q_267 : Cond.fieldLink RX7 18 RX7 "knows" "[I" ∈ TB := in_1 (i := 66) rfl rfl
theorem q_268 : Cond.fieldLink RX7 21 RX7 "rows" "[I" ∈ TB := in_1 (i := 69) rfl rfl
theorem q_269 : Cond.fieldLink RX7 24 RX7 "lessons" "[I" ∈ TB := in_1 (i := 72) rfl rfl
theorem q_270 : Cond.fieldLink RX7 27 RX7 "tape" "[B" ∈ TB := in_1 (i := 81) rfl rfl
theorem q_271 : Cond.fieldLink RX7 36 RX7 "seen" "LUrchinSchool$Table;" ∈ TB := in_1 (i := 87) rfl rfl
theorem q_272 : Cond.fieldLink RX7 40 RX7 "plan" "LUrchinSchool$Table;" ∈ TB := in_1 (i := 89) rfl rfl
theorem q_273 : Cond.fieldLink RX7 43 RX7 "book" "LUrchinSchool$Table;" ∈ TB := in_1 (i := 91) rfl rfl
theorem q_274 : Cond.methodLink RX7 46 yX7_becomeRow ∈ TB := in_4 (i := 219) rfl rfl
theorem q_275 : Cond.instanceMethod yX7_becomeRow ∈ TB := in_3 (i := 208) rfl rfl
theorem q_276 : Cond.selects RX7 yX7_becomeRow yX7_becomeRow ∈ TB := in_3 (i := 209) rfl rfl
theorem q_277 : Cond.methodLink RX7 50 ⟨RJ10, "arraycopy", "(Ljava/lang/Object;ILjava/lang/Object;II)V"⟩ ∈ TB := in_3 (i := 211) rfl rfl
theorem q_278 : Cond.native ⟨RJ10, "arraycopy", "(Ljava/lang/Object;ILjava/lang/Object;II)V"⟩ ∈ TB := in_3 (i := 213) rfl rfl
theorem q_279 : Cond.static ⟨RJ10, "arraycopy", "(Ljava/lang/Object;ILjava/lang/Object;II)V"⟩ ∈ TB := in_3 (i := 212) rfl rfl
theorem q_280 : Cond.initialized RJ10 ∈ TB := in_1 (i := 22) rfl rfl
theorem q_281 : Cond.fieldLink RX7 56 RX7 "signs" "I" ∈ TB := in_1 (i := 84) rfl rfl
theorem q_282 : Cond.fieldLink RX7 60 RX7 "ledges" "I" ∈ TB := in_1 (i := 85) rfl rfl
theorem q_283 : Cond.methodLink RX7 63 yX8_takeOver ∈ TB := in_4 (i := 220) rfl rfl
theorem q_284 : Cond.instanceMethod yX8_takeOver ∈ TB := in_4 (i := 221) rfl rfl
theorem q_285 : Cond.selects RX8 yX8_takeOver yX8_takeOver ∈ TB := in_4 (i := 222) rfl rfl
theorem q_286 : Cond.initialized RX8 ∈ TB := in_1 (i := 3) rfl rfl
theorem q_287 : Cond.fieldLink RX7 67 RX7 "size" "I" ∈ TB := in_1 (i := 74) rfl rfl
theorem q_288 : Cond.fieldLink RX7 70 RX7 "out" "I" ∈ TB := in_1 (i := 76) rfl rfl
theorem q_289 : Cond.fieldLink RX7 73 RX7 "tide" "I" ∈ TB := in_1 (i := 78) rfl rfl
theorem q_290 : Cond.methodLink RX7 76 yX7_putOut ∈ TB := in_3 (i := 34) rfl rfl
theorem q_291 : Cond.instanceMethod yX7_putOut ∈ TB := in_3 (i := 35) rfl rfl
theorem q_292 : Cond.selects RX7 yX7_putOut yX7_putOut ∈ TB := in_3 (i := 36) rfl rfl
theorem q_293 : Cond.methodLink RX7 80 yX7_has ∈ TB := in_3 (i := 191) rfl rfl
theorem q_294 : Cond.methodLink RX7 84 yX7_isOut ∈ TB := in_3 (i := 146) rfl rfl
theorem q_295 : Cond.instanceMethod yX7_isOut ∈ TB := in_3 (i := 48) rfl rfl
theorem q_296 : Cond.selects RX7 yX7_isOut yX7_isOut ∈ TB := in_3 (i := 49) rfl rfl
theorem q_297 : Cond.methodLink RX7 87 yJ6_bitCount_0f7a4 ∈ TB := in_3 (i := 151) rfl rfl
theorem q_298 : Cond.methodLink RX7 93 yX7_all ∈ TB := in_3 (i := 156) rfl rfl
theorem q_299 : Cond.instanceMethod yX7_all ∈ TB := in_3 (i := 143) rfl rfl
theorem q_300 : Cond.selects RX7 yX7_all yX7_all ∈ TB := in_3 (i := 144) rfl rfl
theorem q_301 : Cond.methodLink RX7 97 yX7_knownBy ∈ TB := in_3 (i := 157) rfl rfl
theorem q_302 : Cond.instanceMethod yX7_knownBy ∈ TB := in_3 (i := 159) rfl rfl
theorem q_303 : Cond.selects RX7 yX7_knownBy yX7_knownBy ∈ TB := in_S (i := 12) rfl rfl
theorem q_304 : Cond.methodLink RX7 101 yX8_cell ∈ TB := in_4 (i := 32) rfl rfl
theorem q_305 : Cond.instanceMethod yX8_cell ∈ TB := in_4 (i := 33) rfl rfl
theorem q_306 : Cond.selects RX8 yX8_cell yX8_cell ∈ TB := in_4 (i := 34) rfl rfl
theorem q_307 : Cond.methodLink RX7 105 yJ9_max_7cf53 ∈ TB := in_4 (i := 36) rfl rfl
theorem q_308 : Cond.static yJ9_max_7cf53 ∈ TB := in_2 (i := 217) rfl rfl
theorem q_309 : Cond.initialized RJ9 ∈ TB := in_1 (i := 4) rfl rfl
theorem q_310 : Cond.methodLink RX7 110 yX1_setsOf ∈ TB := in_3 (i := 192) rfl rfl
theorem q_311 : Cond.instanceMethod yX1_setsOf ∈ TB := in_3 (i := 193) rfl rfl
theorem q_312 : Cond.selects RX1 yX1_setsOf yX1_setsOf ∈ TB := in_3 (i := 194) rfl rfl
theorem q_313 : Cond.methodLink RX7 121 yX7_least ∈ TB := in_3 (i := 200) rfl rfl
theorem q_314 : Cond.static yX7_least ∈ TB := in_3 (i := 201) rfl rfl
theorem q_315 : Cond.fieldLink RX8 11 RX8 "cells" "[I" ∈ TB := in_1 (i := 46) rfl rfl
theorem q_316 : Cond.methodLink RX8 15 yJ9_min_7cf53 ∈ TB := in_1 (i := 43) rfl rfl
theorem q_317 : Cond.static yJ9_min_7cf53 ∈ TB := in_1 (i := 44) rfl rfl
theorem q_318 : Cond.fieldLink RX8 21 RX8 "limit" "I" ∈ TB := in_1 (i := 47) rfl rfl
theorem q_319 : Cond.fieldLink RX8 25 RX8 "size" "I" ∈ TB := in_1 (i := 48) rfl rfl
theorem q_320 : Cond.methodLink RX8 28 ⟨RJ10, "arraycopy", "(Ljava/lang/Object;ILjava/lang/Object;II)V"⟩ ∈ TB := in_4 (i := 224) rfl rfl
theorem q_321 : Cond.methodLink RX9 7 yX0_heed ∈ TB := in_3 (i := 113) rfl rfl
theorem q_322 : Cond.sameMethod RX0 RX0 "heed" "(ILUrchinSchool$Heeds;)I" ∈ TB := in_6 (i := 150) rfl rfl
theorem q_323 : Cond.superclass RX9 RX0 ∈ TB := in_1 (i := 218) rfl rfl
theorem q_324 : Cond.methodLink RX9 17 ⟨RX9, "begin", "(I)V"⟩ ∈ TB := in_4 (i := 151) rfl rfl
theorem q_325 : Cond.sameMethod RX9 RX10 "begin" "(I)V" ∈ TB := in_4 (i := 152) rfl rfl
theorem q_326 : Cond.selects RX9 ⟨RX9, "begin", "(I)V"⟩ yX10_begin ∈ TB := in_4 (i := 153) rfl rfl
theorem q_327 : Cond.methodLink RX9 23 ⟨RX0, "says", "(I)I"⟩ ∈ TB := in_4 (i := 154) rfl rfl
theorem q_328 : Cond.sameMethod RX0 RX10 "says" "(I)I" ∈ TB := in_4 (i := 155) rfl rfl
theorem q_329 : Cond.fieldLink RX9 27 RX9 "v" "I" ∈ TB := in_1 (i := 141) rfl rfl
theorem q_330 : Cond.sameField RX9 RX10 "v" "I" ∈ TB := in_1 (i := 142) rfl rfl
theorem q_331 : Cond.fieldLink RX10 9 RX10 "bodies" "[I" ∈ TB := in_1 (i := 134) rfl rfl
theorem q_332 : Cond.fieldLink RX10 15 RX10 "i" "I" ∈ TB := in_1 (i := 137) rfl rfl
theorem q_333 : Cond.fieldLink RX10 19 RX10 "v" "I" ∈ TB := in_1 (i := 140) rfl rfl
theorem q_334 : Cond.fieldLink RX10 22 RX10 "ran" "I" ∈ TB := in_1 (i := 135) rfl rfl
theorem q_335 : Cond.methodLink RX10 25 yX10_begin ∈ TB := in_4 (i := 131) rfl rfl
theorem q_336 : Cond.sameMethod RX10 RX10 "begin" "(I)V" ∈ TB := in_6 (i := 151) rfl rfl
theorem q_337 : Cond.selects RX0 yX10_begin yX10_begin ∈ TB := in_6 (i := 152) rfl rfl
theorem q_338 : Cond.selects RX2 yX10_begin yX10_begin ∈ TB := in_6 (i := 153) rfl rfl
theorem q_339 : Cond.selects RX3 yX10_begin yX10_begin ∈ TB := in_6 (i := 154) rfl rfl
theorem q_340 : Cond.selects RX5 yX10_begin yX10_begin ∈ TB := in_6 (i := 155) rfl rfl
theorem q_341 : Cond.selects RX6 yX10_begin yX10_begin ∈ TB := in_6 (i := 156) rfl rfl
theorem q_342 : Cond.selects RX9 yX10_begin yX10_begin ∈ TB := in_6 (i := 157) rfl rfl
theorem q_343 : Cond.selects RX10 yX10_begin yX10_begin ∈ TB := in_6 (i := 158) rfl rfl
theorem q_344 : Cond.methodLink RX10 29 yX10_leans ∈ TB := in_4 (i := 158) rfl rfl
theorem q_345 : Cond.selects RX0 yX10_leans yX10_leans ∈ TB := in_4 (i := 106) rfl rfl
theorem q_346 : Cond.selects RX2 yX10_leans yX10_leans ∈ TB := in_4 (i := 107) rfl rfl
theorem q_347 : Cond.selects RX3 yX10_leans yX3_leans ∈ TB := in_4 (i := 108) rfl rfl
theorem q_348 : Cond.selects RX5 yX10_leans yX3_leans ∈ TB := in_4 (i := 119) rfl rfl
theorem q_349 : Cond.selects RX6 yX10_leans yX6_leans ∈ TB := in_4 (i := 120) rfl rfl
theorem q_350 : Cond.instanceMethod yX6_leans ∈ TB := in_4 (i := 121) rfl rfl
theorem q_351 : Cond.selects RX9 yX10_leans yX10_leans ∈ TB := in_4 (i := 129) rfl rfl
theorem q_352 : Cond.selects RX10 yX10_leans yX10_leans ∈ TB := in_4 (i := 104) rfl rfl
theorem q_353 : Cond.methodLink RX10 33 yX10_says ∈ TB := in_4 (i := 189) rfl rfl
theorem q_354 : Cond.selects RX0 yX10_says yX10_says ∈ TB := in_4 (i := 136) rfl rfl
theorem q_355 : Cond.selects RX2 yX10_says yX2_says ∈ TB := in_4 (i := 137) rfl rfl
theorem q_356 : Cond.instanceMethod yX2_says ∈ TB := in_4 (i := 138) rfl rfl
theorem q_357 : Cond.selects RX3 yX10_says yX10_says ∈ TB := in_4 (i := 145) rfl rfl
theorem q_358 : Cond.selects RX5 yX10_says yX10_says ∈ TB := in_4 (i := 146) rfl rfl
theorem q_359 : Cond.selects RX6 yX10_says yX2_says ∈ TB := in_4 (i := 147) rfl rfl
theorem q_360 : Cond.selects RX9 yX10_says yX9_says ∈ TB := in_4 (i := 148) rfl rfl
theorem q_361 : Cond.instanceMethod yX9_says ∈ TB := in_4 (i := 149) rfl rfl
theorem q_362 : Cond.selects RX10 yX10_says yX10_says ∈ TB := in_4 (i := 134) rfl rfl
theorem q_363 : Cond.fieldLink RX11 12 RX11 "now" "LUrchinSchool$School;" ∈ TB := in_2 (i := 66) rfl rfl
theorem q_364 : Cond.fieldLink RX11 18 RX11 "kept" "LUrchinSchool$School;" ∈ TB := in_2 (i := 67) rfl rfl
theorem q_365 : Cond.fieldLink RX11 21 RX11 "ahead" "LUrchinSchool$School;" ∈ TB := in_2 (i := 68) rfl rfl
theorem q_366 : Cond.fieldLink RX11 27 RX11 "heeds" "LUrchinSchool$Heeds;" ∈ TB := in_2 (i := 69) rfl rfl
theorem q_367 : Cond.fieldLink RX11 34 RX11 "bare" "LUrchinSchool$Ledge;" ∈ TB := in_2 (i := 70) rfl rfl
theorem q_368 : Cond.fieldLink RX11 38 RX11 "ledges" "[LUrchinSchool$Ledge;" ∈ TB := in_2 (i := 71) rfl rfl
theorem q_369 : Cond.fieldLink RX11 42 RX7 "signs" "I" ∈ TB := in_1 (i := 83) rfl rfl
theorem q_370 : Cond.fieldLink RX11 46 RX7 "tape" "[B" ∈ TB := in_1 (i := 82) rfl rfl
theorem q_371 : Cond.fieldLink RX11 50 RX7 "ledges" "I" ∈ TB := in_1 (i := 86) rfl rfl
theorem q_372 : Cond.methodLink RX11 52 yX4_read ∈ TB := in_2 (i := 99) rfl rfl
theorem q_373 : Cond.instanceMethod yX4_read ∈ TB := in_2 (i := 100) rfl rfl
theorem q_374 : Cond.selects RX4 yX4_read yX4_read ∈ TB := in_2 (i := 101) rfl rfl
theorem q_375 : Cond.methodLink RX11 56 yX11_isNumber ∈ TB := in_3 (i := 27) rfl rfl
theorem q_376 : Cond.static yX11_isNumber ∈ TB := in_3 (i := 28) rfl rfl
theorem q_377 : Cond.initialized RX11 ∈ TB := in_1 (i := 1) rfl rfl
theorem q_378 : Cond.methodLink RX11 60 yX7_join ∈ TB := in_3 (i := 30) rfl rfl
theorem q_379 : Cond.instanceMethod yX7_join ∈ TB := in_3 (i := 31) rfl rfl
theorem q_380 : Cond.selects RX7 yX7_join yX7_join ∈ TB := in_3 (i := 32) rfl rfl
theorem q_381 : Cond.methodLink RX11 64 yX7_has ∈ TB := in_3 (i := 42) rfl rfl
theorem q_382 : Cond.constant RX11 67 (-999999) ∈ TB := in_3 (i := 46) rfl rfl
theorem q_383 : Cond.fieldLink RX11 68 RX7 "kind" "[I" ∈ TB := in_1 (i := 61) rfl rfl
theorem q_384 : Cond.fieldLink RX11 72 RX7 "v" "[I" ∈ TB := in_1 (i := 64) rfl rfl
theorem q_385 : Cond.fieldLink RX11 75 RX7 "knows" "[I" ∈ TB := in_1 (i := 68) rfl rfl
theorem q_386 : Cond.methodLink RX11 78 yX7_isOut ∈ TB := in_3 (i := 47) rfl rfl
theorem q_387 : Cond.constantLong RX11 81 10 ∈ TB := in_3 (i := 51) rfl rfl
theorem q_388 : Cond.methodLink RX11 83 yX11_isFact ∈ TB := in_3 (i := 52) rfl rfl
theorem q_389 : Cond.static yX11_isFact ∈ TB := in_3 (i := 53) rfl rfl
theorem q_390 : Cond.methodLink RX11 87 yX11_holding ∈ TB := in_3 (i := 56) rfl rfl
theorem q_391 : Cond.instanceMethod yX11_holding ∈ TB := in_3 (i := 58) rfl rfl
theorem q_392 : Cond.selects RX11 yX11_holding yX11_holding ∈ TB := in_S (i := 10) rfl rfl
theorem q_393 : Cond.methodLink RX11 91 yX1_heedOf ∈ TB := in_3 (i := 60) rfl rfl
theorem q_394 : Cond.instanceMethod yX1_heedOf ∈ TB := in_3 (i := 61) rfl rfl
theorem q_395 : Cond.selects RX1 yX1_heedOf yX1_heedOf ∈ TB := in_3 (i := 62) rfl rfl
theorem q_396 : Cond.methodLink RX11 95 yX11_isLesson ∈ TB := in_3 (i := 119) rfl rfl
theorem q_397 : Cond.static yX11_isLesson ∈ TB := in_3 (i := 120) rfl rfl
theorem q_398 : Cond.fieldLink RX11 98 RX7 "rows" "[I" ∈ TB := in_1 (i := 70) rfl rfl
theorem q_399 : Cond.methodLink RX11 101 yX11_isSet ∈ TB := in_3 (i := 126) rfl rfl
theorem q_400 : Cond.static yX11_isSet ∈ TB := in_3 (i := 127) rfl rfl
theorem q_401 : Cond.methodLink RX11 104 yX7_putOut ∈ TB := in_3 (i := 133) rfl rfl
theorem q_402 : Cond.fieldLink RX11 108 RX7 "lessons" "[I" ∈ TB := in_1 (i := 73) rfl rfl
theorem q_403 : Cond.fieldLink RX11 111 RX7 "tide" "I" ∈ TB := in_1 (i := 80) rfl rfl
theorem q_404 : Cond.methodLink RX11 120 yX7_all ∈ TB := in_3 (i := 142) rfl rfl
theorem q_405 : Cond.methodLink RX11 124 yX7_held ∈ TB := in_3 (i := 147) rfl rfl
theorem q_406 : Cond.instanceMethod yX7_held ∈ TB := in_3 (i := 148) rfl rfl
theorem q_407 : Cond.selects RX7 yX7_held yX7_held ∈ TB := in_3 (i := 149) rfl rfl
theorem q_408 : Cond.fieldLink RX11 127 RX7 "out" "I" ∈ TB := in_1 (i := 77) rfl rfl
theorem q_409 : Cond.methodLink RX11 130 yX7_few ∈ TB := in_3 (i := 152) rfl rfl
theorem q_410 : Cond.instanceMethod yX7_few ∈ TB := in_3 (i := 153) rfl rfl
theorem q_411 : Cond.selects RX7 yX7_few yX7_few ∈ TB := in_3 (i := 154) rfl rfl
theorem q_412 : Cond.methodLink RX11 133 yX11_toldLesson ∈ TB := in_3 (i := 161) rfl rfl
theorem q_413 : Cond.instanceMethod yX11_toldLesson ∈ TB := in_3 (i := 163) rfl rfl
theorem q_414 : Cond.selects RX11 yX11_toldLesson yX11_toldLesson ∈ TB := in_S (i := 13) rfl rfl
theorem q_415 : Cond.methodLink RX11 137 yX11_areTides ∈ TB := in_3 (i := 169) rfl rfl
theorem q_416 : Cond.static yX11_areTides ∈ TB := in_3 (i := 170) rfl rfl
theorem q_417 : Cond.methodLink RX11 140 yX1_forget ∈ TB := in_3 (i := 172) rfl rfl
theorem q_418 : Cond.instanceMethod yX1_forget ∈ TB := in_3 (i := 173) rfl rfl
theorem q_419 : Cond.selects RX1 yX1_forget yX1_forget ∈ TB := in_3 (i := 174) rfl rfl
theorem q_420 : Cond.methodLink RX11 143 yX11_go ∈ TB := in_3 (i := 179) rfl rfl
theorem q_421 : Cond.instanceMethod yX11_go ∈ TB := in_3 (i := 181) rfl rfl
theorem q_422 : Cond.selects RX11 yX11_go yX11_go ∈ TB := in_S (i := 14) rfl rfl
theorem q_423 : Cond.methodLink RX11 147 yX7_becomeRow ∈ TB := in_3 (i := 207) rfl rfl
theorem q_424 : Cond.methodLink RX11 151 yX11_tidesAheadWith ∈ TB := in_3 (i := 218) rfl rfl
theorem q_425 : Cond.instanceMethod yX11_tidesAheadWith ∈ TB := in_3 (i := 220) rfl rfl
theorem q_426 : Cond.selects RX11 yX11_tidesAheadWith yX11_tidesAheadWith ∈ TB := in_S (i := 16) rfl rfl
theorem q_427 : Cond.methodLink RX11 154 yX11_heldIfTaught ∈ TB := in_3 (i := 226) rfl rfl
theorem q_428 : Cond.instanceMethod yX11_heldIfTaught ∈ TB := in_3 (i := 228) rfl rfl
theorem q_429 : Cond.selects RX11 yX11_heldIfTaught yX11_heldIfTaught ∈ TB := in_S (i := 17) rfl rfl
theorem q_430 : Cond.methodLink RX11 157 yX11_taughtAt ∈ TB := in_3 (i := 230) rfl rfl
theorem q_431 : Cond.static yX11_taughtAt ∈ TB := in_3 (i := 231) rfl rfl
theorem q_432 : Cond.fieldLink RX11 161 RX7 "size" "I" ∈ TB := in_1 (i := 75) rfl rfl
theorem q_433 : Cond.methodLink RX11 164 yX11_tidesIfTold ∈ TB := in_3 (i := 237) rfl rfl
theorem q_434 : Cond.instanceMethod yX11_tidesIfTold ∈ TB := in_3 (i := 239) rfl rfl
theorem q_435 : Cond.selects RX11 yX11_tidesIfTold yX11_tidesIfTold ∈ TB := in_S (i := 18) rfl rfl
theorem q_436 : Cond.methodLink RX11 167 yX7_tellFact ∈ TB := in_4 (i := 1) rfl rfl
theorem q_437 : Cond.instanceMethod yX7_tellFact ∈ TB := in_4 (i := 2) rfl rfl
theorem q_438 : Cond.selects RX7 yX7_tellFact yX7_tellFact ∈ TB := in_4 (i := 3) rfl rfl
theorem q_439 : Cond.methodLink RX11 171 yX7_lessonNow ∈ TB := in_3 (i := 183) rfl rfl
theorem q_440 : Cond.instanceMethod yX7_lessonNow ∈ TB := in_3 (i := 184) rfl rfl
theorem q_441 : Cond.selects RX7 yX7_lessonNow yX7_lessonNow ∈ TB := in_3 (i := 185) rfl rfl
theorem q_442 : Cond.methodLink RX11 174 yX7_goTide ∈ TB := in_3 (i := 187) rfl rfl
theorem q_443 : Cond.instanceMethod yX7_goTide ∈ TB := in_3 (i := 188) rfl rfl
theorem q_444 : Cond.selects RX7 yX7_goTide yX7_goTide ∈ TB := in_3 (i := 189) rfl rfl
theorem q_445 : Cond.fieldLink RX11 178 RX7 "seen" "LUrchinSchool$Table;" ∈ TB := in_1 (i := 88) rfl rfl
theorem q_446 : Cond.methodLink RX11 182 yX8_empty ∈ TB := in_4 (i := 9) rfl rfl
theorem q_447 : Cond.instanceMethod yX8_empty ∈ TB := in_4 (i := 10) rfl rfl
theorem q_448 : Cond.selects RX8 yX8_empty yX8_empty ∈ TB := in_4 (i := 11) rfl rfl
theorem q_449 : Cond.methodLink RX11 187 yX8_add ∈ TB := in_4 (i := 13) rfl rfl
theorem q_450 : Cond.instanceMethod yX8_add ∈ TB := in_4 (i := 14) rfl rfl
theorem q_451 : Cond.selects RX8 yX8_add yX8_add ∈ TB := in_4 (i := 15) rfl rfl
theorem q_452 : Cond.methodLink RX11 191 yX11_isPart ∈ TB := in_4 (i := 21) rfl rfl
theorem q_453 : Cond.static yX11_isPart ∈ TB := in_4 (i := 22) rfl rfl
theorem q_454 : Cond.methodLink RX11 194 yX11_seenIsSo ∈ TB := in_4 (i := 24) rfl rfl
theorem q_455 : Cond.instanceMethod yX11_seenIsSo ∈ TB := in_4 (i := 26) rfl rfl
theorem q_456 : Cond.selects RX11 yX11_seenIsSo yX11_seenIsSo ∈ TB := in_S (i := 19) rfl rfl
theorem q_457 : Cond.methodLink RX11 198 yX7_lastSeen ∈ TB := in_4 (i := 28) rfl rfl
theorem q_458 : Cond.instanceMethod yX7_lastSeen ∈ TB := in_4 (i := 29) rfl rfl
theorem q_459 : Cond.selects RX7 yX7_lastSeen yX7_lastSeen ∈ TB := in_4 (i := 30) rfl rfl
theorem q_460 : Cond.methodLink RX11 201 yX7_isAsSeen ∈ TB := in_4 (i := 37) rfl rfl
theorem q_461 : Cond.instanceMethod yX7_isAsSeen ∈ TB := in_4 (i := 38) rfl rfl
theorem q_462 : Cond.selects RX7 yX7_isAsSeen yX7_isAsSeen ∈ TB := in_4 (i := 39) rfl rfl
theorem q_463 : Cond.constantLong RX11 205 (-9223372036854775808) ∈ TB := in_4 (i := 49) rfl rfl
theorem q_464 : Cond.methodLink RX11 207 yX7_notOut ∈ TB := in_4 (i := 50) rfl rfl
theorem q_465 : Cond.instanceMethod yX7_notOut ∈ TB := in_4 (i := 51) rfl rfl
theorem q_466 : Cond.selects RX7 yX7_notOut yX7_notOut ∈ TB := in_4 (i := 52) rfl rfl
theorem q_467 : Cond.methodLink RX11 210 yX11_lowest ∈ TB := in_4 (i := 54) rfl rfl
theorem q_468 : Cond.static yX11_lowest ∈ TB := in_4 (i := 55) rfl rfl
theorem q_469 : Cond.fieldLink RX11 214 RX7 "plan" "LUrchinSchool$Table;" ∈ TB := in_1 (i := 90) rfl rfl
theorem q_470 : Cond.methodLink RX11 217 yX11_isPlan ∈ TB := in_4 (i := 65) rfl rfl
theorem q_471 : Cond.instanceMethod yX11_isPlan ∈ TB := in_4 (i := 67) rfl rfl
theorem q_472 : Cond.selects RX11 yX11_isPlan yX11_isPlan ∈ TB := in_S (i := 20) rfl rfl
theorem q_473 : Cond.methodLink RX11 222 yX8_cell ∈ TB := in_4 (i := 73) rfl rfl
theorem q_474 : Cond.methodLink RX11 225 yX11_doPlanned ∈ TB := in_4 (i := 74) rfl rfl
theorem q_475 : Cond.instanceMethod yX11_doPlanned ∈ TB := in_4 (i := 76) rfl rfl
theorem q_476 : Cond.selects RX11 yX11_doPlanned yX11_doPlanned ∈ TB := in_S (i := 21) rfl rfl
theorem q_477 : Cond.fieldLink RX11 228 RX7 "book" "LUrchinSchool$Table;" ∈ TB := in_1 (i := 92) rfl rfl
theorem q_478 : Cond.fieldLink RX11 231 RX11 "actor" "LUrchinSchool$Urchin;" ∈ TB := in_2 (i := 73) rfl rfl
theorem q_479 : Cond.methodLink RX11 235 yX1_kindOf ∈ TB := in_4 (i := 90) rfl rfl
theorem q_480 : Cond.methodLink RX11 239 yX10_wake ∈ TB := in_4 (i := 91) rfl rfl
theorem q_481 : Cond.sameMethod RX10 RX10 "wake" "(II)V" ∈ TB := in_4 (i := 94) rfl rfl
theorem q_482 : Cond.selects RX0 yX10_wake yX10_wake ∈ TB := in_4 (i := 95) rfl rfl
theorem q_483 : Cond.instanceMethod yX10_wake ∈ TB := in_4 (i := 92) rfl rfl
theorem q_484 : Cond.selects RX2 yX10_wake yX10_wake ∈ TB := in_4 (i := 96) rfl rfl
theorem q_485 : Cond.selects RX3 yX10_wake yX10_wake ∈ TB := in_4 (i := 97) rfl rfl
theorem q_486 : Cond.selects RX5 yX10_wake yX10_wake ∈ TB := in_4 (i := 98) rfl rfl
theorem q_487 : Cond.selects RX6 yX10_wake yX10_wake ∈ TB := in_4 (i := 99) rfl rfl
theorem q_488 : Cond.selects RX9 yX10_wake yX10_wake ∈ TB := in_4 (i := 100) rfl rfl
theorem q_489 : Cond.selects RX10 yX10_wake yX10_wake ∈ TB := in_4 (i := 93) rfl rfl
theorem q_490 : Cond.methodLink RX11 244 yX10_leans ∈ TB := in_4 (i := 102) rfl rfl
theorem q_491 : Cond.methodLink RX11 247 yX10_says ∈ TB := in_4 (i := 132) rfl rfl
theorem q_492 : Cond.methodLink RX11 250 yX10_bristles ∈ TB := in_4 (i := 159) rfl rfl
theorem q_493 : Cond.selects RX0 yX10_bristles yX0_bristles ∈ TB := in_4 (i := 163) rfl rfl
theorem q_494 : Cond.instanceMethod yX0_bristles ∈ TB := in_4 (i := 164) rfl rfl
theorem q_495 : Cond.selects RX2 yX10_bristles yX10_bristles ∈ TB := in_4 (i := 171) rfl rfl
theorem q_496 : Cond.selects RX3 yX10_bristles yX10_bristles ∈ TB := in_4 (i := 172) rfl rfl
theorem q_497 : Cond.selects RX5 yX10_bristles yX5_bristles ∈ TB := in_4 (i := 173) rfl rfl
theorem q_498 : Cond.instanceMethod yX5_bristles ∈ TB := in_4 (i := 174) rfl rfl
theorem q_499 : Cond.selects RX6 yX10_bristles yX10_bristles ∈ TB := in_4 (i := 186) rfl rfl
theorem q_500 : Cond.selects RX9 yX10_bristles yX0_bristles ∈ TB := in_4 (i := 187) rfl rfl
theorem q_501 : Cond.selects RX10 yX10_bristles yX10_bristles ∈ TB := in_4 (i := 161) rfl rfl
theorem q_502 : Cond.methodLink RX11 253 yX10_bodyAt ∈ TB := in_4 (i := 194) rfl rfl
theorem q_503 : Cond.sameMethod RX10 RX10 "bodyAt" "(I)I" ∈ TB := in_4 (i := 197) rfl rfl
theorem q_504 : Cond.selects RX0 yX10_bodyAt yX10_bodyAt ∈ TB := in_4 (i := 198) rfl rfl
theorem q_505 : Cond.instanceMethod yX10_bodyAt ∈ TB := in_4 (i := 195) rfl rfl
theorem q_506 : Cond.selects RX2 yX10_bodyAt yX10_bodyAt ∈ TB := in_4 (i := 199) rfl rfl
theorem q_507 : Cond.selects RX3 yX10_bodyAt yX10_bodyAt ∈ TB := in_4 (i := 200) rfl rfl
theorem q_508 : Cond.selects RX5 yX10_bodyAt yX10_bodyAt ∈ TB := in_4 (i := 201) rfl rfl
theorem q_509 : Cond.selects RX6 yX10_bodyAt yX10_bodyAt ∈ TB := in_4 (i := 202) rfl rfl
theorem q_510 : Cond.selects RX9 yX10_bodyAt yX10_bodyAt ∈ TB := in_4 (i := 203) rfl rfl
theorem q_511 : Cond.selects RX10 yX10_bodyAt yX10_bodyAt ∈ TB := in_4 (i := 196) rfl rfl
theorem q_512 : Cond.fieldLink RX11 256 RX11 "ABOVE" "[I" ∈ TB := in_4 (i := 209) rfl rfl
theorem q_513 : Cond.methodLink RX11 259 yX7_become ∈ TB := in_4 (i := 215) rfl rfl
theorem q_514 : Cond.instanceMethod yX7_become ∈ TB := in_4 (i := 216) rfl rfl
theorem q_515 : Cond.selects RX7 yX7_become yX7_become ∈ TB := in_4 (i := 217) rfl rfl
theorem q_516 : Cond.fieldLink RX11 262 RX11 "imageTaken" "Z" ∈ TB := in_2 (i := 72) rfl rfl
theorem q_517 : Cond.constantLong RX11 269 8 ∈ TB := in_3 (i := 55) rfl rfl
theorem q_518 : Cond.fieldLink RX12 9 RX12 "s" "[I" ∈ TB := in_4 (i := 239) rfl rfl
theorem q_519 : Cond.fieldLink RX12 15 RX12 "image" "[I" ∈ TB := in_5 (i := 0) rfl rfl
theorem q_520 : Cond.fieldLink RX12 18 RX12 "frame" "[I" ∈ TB := in_5 (i := 1) rfl rfl
theorem q_521 : Cond.fieldLink RX12 21 RX12 "by" "[I" ∈ TB := in_5 (i := 8) rfl rfl
theorem q_522 : Cond.fieldLink RX12 24 RX12 "truths" "[Z" ∈ TB := in_5 (i := 9) rfl rfl
theorem q_523 : Cond.fieldLink RX12 28 RX12 "sums" "[I" ∈ TB := in_5 (i := 10) rfl rfl
theorem q_524 : Cond.fieldLink RX12 31 RX12 "lookedFor" "[I" ∈ TB := in_5 (i := 11) rfl rfl
theorem q_525 : Cond.fieldLink RX12 34 RX12 "next" "[I" ∈ TB := in_5 (i := 13) rfl rfl
theorem q_526 : Cond.fieldLink RX12 37 RX12 "bodies" "[I" ∈ TB := in_5 (i := 14) rfl rfl
theorem q_527 : Cond.methodLink RX12 44 yX12_in ∈ TB := in_5 (i := 67) rfl rfl
theorem q_528 : Cond.static yX12_in ∈ TB := in_5 (i := 68) rfl rfl
theorem q_529 : Cond.initialized RX12 ∈ TB := in_1 (i := 14) rfl rfl
theorem q_530 : Cond.fieldLink RX12 48 RX12 "spot" "I" ∈ TB := in_5 (i := 4) rfl rfl
theorem q_531 : Cond.fieldLink RX12 51 RX12 "end" "I" ∈ TB := in_5 (i := 5) rfl rfl
theorem q_532 : Cond.fieldLink RX12 54 RX12 "isWrong" "Z" ∈ TB := in_5 (i := 6) rfl rfl
theorem q_533 : Cond.methodLink RX12 58 yX12_here ∈ TB := in_5 (i := 78) rfl rfl
theorem q_534 : Cond.instanceMethod yX12_here ∈ TB := in_5 (i := 80) rfl rfl
theorem q_535 : Cond.selects RX12 yX12_here yX12_here ∈ TB := in_S (i := 23) rfl rfl
theorem q_536 : Cond.methodLink RX12 62 yJ0_length_8abf5 ∈ TB := in_5 (i := 91) rfl rfl
theorem q_537 : Cond.methodLink RX12 67 yJ0_charAt_5068e ∈ TB := in_5 (i := 92) rfl rfl
theorem q_538 : Cond.methodLink RX12 71 yX12_must ∈ TB := in_5 (i := 93) rfl rfl
theorem q_539 : Cond.instanceMethod yX12_must ∈ TB := in_5 (i := 95) rfl rfl
theorem q_540 : Cond.selects RX12 yX12_must yX12_must ∈ TB := in_S (i := 26) rfl rfl
theorem q_541 : Cond.fieldLink RX12 75 RX12 "act" "I" ∈ TB := in_5 (i := 3) rfl rfl
theorem q_542 : Cond.fieldLink RX12 78 RX12 "open" "I" ∈ TB := in_5 (i := 7) rfl rfl
theorem q_543 : Cond.methodLink RX12 81 yX12_factor ∈ TB := in_5 (i := 115) rfl rfl
theorem q_544 : Cond.instanceMethod yX12_factor ∈ TB := in_5 (i := 117) rfl rfl
theorem q_545 : Cond.selects RX12 yX12_factor yX12_factor ∈ TB := in_S (i := 31) rfl rfl
theorem q_546 : Cond.methodLink RX12 84 yX12_emits ∈ TB := in_5 (i := 119) rfl rfl
theorem q_547 : Cond.instanceMethod yX12_emits ∈ TB := in_5 (i := 121) rfl rfl
theorem q_548 : Cond.selects RX12 yX12_emits yX12_emits ∈ TB := in_S (i := 32) rfl rfl
theorem q_549 : Cond.methodLink RX12 87 yX12_some ∈ TB := in_5 (i := 107) rfl rfl
theorem q_550 : Cond.instanceMethod yX12_some ∈ TB := in_5 (i := 109) rfl rfl
theorem q_551 : Cond.selects RX12 yX12_some yX12_some ∈ TB := in_S (i := 29) rfl rfl
theorem q_552 : Cond.methodLink RX12 92 yX12_among ∈ TB := in_5 (i := 124) rfl rfl
theorem q_553 : Cond.instanceMethod yX12_among ∈ TB := in_5 (i := 126) rfl rfl
theorem q_554 : Cond.selects RX12 yX12_among yX12_among ∈ TB := in_S (i := 33) rfl rfl
theorem q_555 : Cond.methodLink RX12 98 yX12_figures ∈ TB := in_5 (i := 97) rfl rfl
theorem q_556 : Cond.instanceMethod yX12_figures ∈ TB := in_5 (i := 99) rfl rfl
theorem q_557 : Cond.selects RX12 yX12_figures yX12_figures ∈ TB := in_S (i := 27) rfl rfl
theorem q_558 : Cond.methodLink RX12 101 yX12_every ∈ TB := in_5 (i := 111) rfl rfl
theorem q_559 : Cond.instanceMethod yX12_every ∈ TB := in_5 (i := 113) rfl rfl
theorem q_560 : Cond.selects RX12 yX12_every yX12_every ∈ TB := in_S (i := 30) rfl rfl
theorem q_561 : Cond.methodLink RX12 104 yX12_spells ∈ TB := in_5 (i := 87) rfl rfl
theorem q_562 : Cond.instanceMethod yX12_spells ∈ TB := in_5 (i := 89) rfl rfl
theorem q_563 : Cond.selects RX12 yX12_spells yX12_spells ∈ TB := in_S (i := 25) rfl rfl
theorem q_564 : Cond.methodLink RX12 110 yX12_tellsHere ∈ TB := in_5 (i := 83) rfl rfl
theorem q_565 : Cond.instanceMethod yX12_tellsHere ∈ TB := in_5 (i := 85) rfl rfl
theorem q_566 : Cond.selects RX12 yX12_tellsHere yX12_tellsHere ∈ TB := in_S (i := 24) rfl rfl
theorem q_567 : Cond.methodLink RX12 118 yX12_much ∈ TB := in_5 (i := 103) rfl rfl
theorem q_568 : Cond.instanceMethod yX12_much ∈ TB := in_5 (i := 105) rfl rfl
theorem q_569 : Cond.selects RX12 yX12_much yX12_much ∈ TB := in_S (i := 28) rfl rfl
theorem q_570 : Cond.methodLink RX12 123 yX12_clauseHere ∈ TB := in_5 (i := 74) rfl rfl
theorem q_571 : Cond.instanceMethod yX12_clauseHere ∈ TB := in_5 (i := 76) rfl rfl
theorem q_572 : Cond.selects RX12 yX12_clauseHere yX12_clauseHere ∈ TB := in_S (i := 22) rfl rfl
theorem q_573 : Cond.methodLink RX12 126 yX12_tellsOf ∈ TB := in_5 (i := 165) rfl rfl
theorem q_574 : Cond.instanceMethod yX12_tellsOf ∈ TB := in_5 (i := 167) rfl rfl
theorem q_575 : Cond.selects RX12 yX12_tellsOf yX12_tellsOf ∈ TB := in_S (i := 39) rfl rfl
theorem q_576 : Cond.fieldLink RX12 130 RX12 "looking" "I" ∈ TB := in_5 (i := 12) rfl rfl
theorem q_577 : Cond.methodLink RX12 133 yX12_countOf ∈ TB := in_5 (i := 158) rfl rfl
theorem q_578 : Cond.static yX12_countOf ∈ TB := in_5 (i := 159) rfl rfl
theorem q_579 : Cond.methodLink RX12 137 yX12_clausesOf ∈ TB := in_5 (i := 161) rfl rfl
theorem q_580 : Cond.instanceMethod yX12_clausesOf ∈ TB := in_5 (i := 163) rfl rfl
theorem q_581 : Cond.selects RX12 yX12_clausesOf yX12_clausesOf ∈ TB := in_S (i := 38) rfl rfl
theorem q_582 : Cond.methodLink RX12 141 yX12_sumOf ∈ TB := in_5 (i := 154) rfl rfl
theorem q_583 : Cond.instanceMethod yX12_sumOf ∈ TB := in_5 (i := 156) rfl rfl
theorem q_584 : Cond.selects RX12 yX12_sumOf yX12_sumOf ∈ TB := in_S (i := 37) rfl rfl
theorem q_585 : Cond.methodLink RX12 144 yX12_isUrchin ∈ TB := in_5 (i := 138) rfl rfl
theorem q_586 : Cond.instanceMethod yX12_isUrchin ∈ TB := in_5 (i := 140) rfl rfl
theorem q_587 : Cond.selects RX12 yX12_isUrchin yX12_isUrchin ∈ TB := in_S (i := 34) rfl rfl
theorem q_588 : Cond.constant RX12 148 (-999999) ∈ TB := in_5 (i := 142) rfl rfl
theorem q_589 : Cond.methodLink RX12 149 yX12_looksAnew ∈ TB := in_5 (i := 143) rfl rfl
theorem q_590 : Cond.instanceMethod yX12_looksAnew ∈ TB := in_5 (i := 145) rfl rfl
theorem q_591 : Cond.selects RX12 yX12_looksAnew yX12_looksAnew ∈ TB := in_S (i := 35) rfl rfl
theorem q_592 : Cond.methodLink RX12 152 yX12_isFact ∈ TB := in_5 (i := 147) rfl rfl
theorem q_593 : Cond.static yX12_isFact ∈ TB := in_5 (i := 148) rfl rfl
theorem q_594 : Cond.methodLink RX12 155 yX12_heedOf ∈ TB := in_5 (i := 150) rfl rfl
theorem q_595 : Cond.instanceMethod yX12_heedOf ∈ TB := in_5 (i := 152) rfl rfl
theorem q_596 : Cond.selects RX12 yX12_heedOf yX12_heedOf ∈ TB := in_S (i := 36) rfl rfl
theorem q_597 : Cond.methodLink RX12 158 yX12_becomes ∈ TB := in_5 (i := 173) rfl rfl
theorem q_598 : Cond.instanceMethod yX12_becomes ∈ TB := in_5 (i := 175) rfl rfl
theorem q_599 : Cond.selects RX12 yX12_becomes yX12_becomes ∈ TB := in_S (i := 40) rfl rfl
theorem q_600 : Cond.methodLink RX12 161 yX12_awayOnes ∈ TB := in_5 (i := 201) rfl rfl
theorem q_601 : Cond.instanceMethod yX12_awayOnes ∈ TB := in_5 (i := 203) rfl rfl
theorem q_602 : Cond.selects RX12 yX12_awayOnes yX12_awayOnes ∈ TB := in_S (i := 43) rfl rfl
theorem q_603 : Cond.methodLink RX12 164 yX12_knownBy ∈ TB := in_5 (i := 209) rfl rfl
theorem q_604 : Cond.instanceMethod yX12_knownBy ∈ TB := in_5 (i := 211) rfl rfl
theorem q_605 : Cond.selects RX12 yX12_knownBy yX12_knownBy ∈ TB := in_S (i := 45) rfl rfl
theorem q_606 : Cond.methodLink RX12 167 yX12_knownByAny ∈ TB := in_5 (i := 193) rfl rfl
theorem q_607 : Cond.instanceMethod yX12_knownByAny ∈ TB := in_5 (i := 195) rfl rfl
theorem q_608 : Cond.selects RX12 yX12_knownByAny yX12_knownByAny ∈ TB := in_S (i := 41) rfl rfl
theorem q_609 : Cond.methodLink RX12 170 yX12_heldByAll ∈ TB := in_5 (i := 197) rfl rfl
theorem q_610 : Cond.instanceMethod yX12_heldByAll ∈ TB := in_5 (i := 199) rfl rfl
theorem q_611 : Cond.selects RX12 yX12_heldByAll yX12_heldByAll ∈ TB := in_S (i := 42) rfl rfl
theorem q_612 : Cond.methodLink RX12 173 yX12_fewest ∈ TB := in_5 (i := 205) rfl rfl
theorem q_613 : Cond.instanceMethod yX12_fewest ∈ TB := in_5 (i := 207) rfl rfl
theorem q_614 : Cond.selects RX12 yX12_fewest yX12_fewest ∈ TB := in_S (i := 44) rfl rfl
theorem q_615 : Cond.methodLink RX12 176 yX12_isPassed ∈ TB := in_5 (i := 237) rfl rfl
theorem q_616 : Cond.instanceMethod yX12_isPassed ∈ TB := in_5 (i := 239) rfl rfl
theorem q_617 : Cond.selects RX12 yX12_isPassed yX12_isPassed ∈ TB := in_S (i := 51) rfl rfl
theorem q_618 : Cond.methodLink RX12 180 yX12_isKnownNext ∈ TB := in_5 (i := 233) rfl rfl
theorem q_619 : Cond.instanceMethod yX12_isKnownNext ∈ TB := in_5 (i := 235) rfl rfl
theorem q_620 : Cond.selects RX12 yX12_isKnownNext yX12_isKnownNext ∈ TB := in_S (i := 50) rfl rfl
theorem q_621 : Cond.methodLink RX12 183 yX12_knownNext ∈ TB := in_5 (i := 229) rfl rfl
theorem q_622 : Cond.instanceMethod yX12_knownNext ∈ TB := in_5 (i := 231) rfl rfl
theorem q_623 : Cond.selects RX12 yX12_knownNext yX12_knownNext ∈ TB := in_S (i := 49) rfl rfl
theorem q_624 : Cond.methodLink RX12 186 yX12_goesBy ∈ TB := in_5 (i := 225) rfl rfl
theorem q_625 : Cond.instanceMethod yX12_goesBy ∈ TB := in_5 (i := 227) rfl rfl
theorem q_626 : Cond.selects RX12 yX12_goesBy yX12_goesBy ∈ TB := in_S (i := 48) rfl rfl
theorem q_627 : Cond.methodLink RX12 189 yX12_goes ∈ TB := in_5 (i := 221) rfl rfl
theorem q_628 : Cond.instanceMethod yX12_goes ∈ TB := in_5 (i := 223) rfl rfl
theorem q_629 : Cond.selects RX12 yX12_goes yX12_goes ∈ TB := in_S (i := 47) rfl rfl
theorem q_630 : Cond.methodLink RX12 192 yX12_goesOn ∈ TB := in_5 (i := 217) rfl rfl
theorem q_631 : Cond.instanceMethod yX12_goesOn ∈ TB := in_5 (i := 219) rfl rfl
theorem q_632 : Cond.selects RX12 yX12_goesOn yX12_goesOn ∈ TB := in_S (i := 46) rfl rfl
theorem q_633 : Cond.methodLink RX12 195 yX12_keeps ∈ TB := in_6 (i := 5) rfl rfl
theorem q_634 : Cond.instanceMethod yX12_keeps ∈ TB := in_6 (i := 7) rfl rfl
theorem q_635 : Cond.selects RX12 yX12_keeps yX12_keeps ∈ TB := in_S (i := 52) rfl rfl
theorem q_636 : Cond.methodLink RX12 198 yX12_goesBack ∈ TB := in_6 (i := 9) rfl rfl
theorem q_637 : Cond.instanceMethod yX12_goesBack ∈ TB := in_6 (i := 11) rfl rfl
theorem q_638 : Cond.selects RX12 yX12_goesBack yX12_goesBack ∈ TB := in_S (i := 53) rfl rfl
theorem q_639 : Cond.methodLink RX12 201 yX12_tidesKnown ∈ TB := in_6 (i := 17) rfl rfl
theorem q_640 : Cond.instanceMethod yX12_tidesKnown ∈ TB := in_6 (i := 19) rfl rfl
theorem q_641 : Cond.selects RX12 yX12_tidesKnown yX12_tidesKnown ∈ TB := in_S (i := 54) rfl rfl
theorem q_642 : Cond.methodLink RX12 204 yX12_heldBehind ∈ TB := in_6 (i := 29) rfl rfl
theorem q_643 : Cond.instanceMethod yX12_heldBehind ∈ TB := in_6 (i := 31) rfl rfl
theorem q_644 : Cond.selects RX12 yX12_heldBehind yX12_heldBehind ∈ TB := in_S (i := 55) rfl rfl
theorem q_645 : Cond.methodLink RX12 207 yX12_isAsSeen ∈ TB := in_6 (i := 49) rfl rfl
theorem q_646 : Cond.instanceMethod yX12_isAsSeen ∈ TB := in_6 (i := 51) rfl rfl
theorem q_647 : Cond.selects RX12 yX12_isAsSeen yX12_isAsSeen ∈ TB := in_S (i := 58) rfl rfl
theorem q_648 : Cond.methodLink RX12 210 yX12_areAsSeen ∈ TB := in_6 (i := 45) rfl rfl
theorem q_649 : Cond.instanceMethod yX12_areAsSeen ∈ TB := in_6 (i := 47) rfl rfl
theorem q_650 : Cond.selects RX12 yX12_areAsSeen yX12_areAsSeen ∈ TB := in_S (i := 57) rfl rfl
theorem q_651 : Cond.methodLink RX12 214 yX12_fitting ∈ TB := in_6 (i := 41) rfl rfl
theorem q_652 : Cond.instanceMethod yX12_fitting ∈ TB := in_6 (i := 43) rfl rfl
theorem q_653 : Cond.selects RX12 yX12_fitting yX12_fitting ∈ TB := in_S (i := 56) rfl rfl
theorem q_654 : Cond.constantLong RX12 218 (-9223372036854775808) ∈ TB := in_6 (i := 61) rfl rfl
theorem q_655 : Cond.methodLink RX12 220 yX12_lowest ∈ TB := in_6 (i := 62) rfl rfl
theorem q_656 : Cond.static yX12_lowest ∈ TB := in_6 (i := 63) rfl rfl
theorem q_657 : Cond.methodLink RX12 224 yX12_isPlan ∈ TB := in_6 (i := 73) rfl rfl
theorem q_658 : Cond.instanceMethod yX12_isPlan ∈ TB := in_6 (i := 75) rfl rfl
theorem q_659 : Cond.selects RX12 yX12_isPlan yX12_isPlan ∈ TB := in_S (i := 59) rfl rfl
theorem q_660 : Cond.methodLink RX12 227 yX12_does ∈ TB := in_6 (i := 81) rfl rfl
theorem q_661 : Cond.instanceMethod yX12_does ∈ TB := in_6 (i := 83) rfl rfl
theorem q_662 : Cond.selects RX12 yX12_does yX12_does ∈ TB := in_S (i := 60) rfl rfl
theorem q_663 : Cond.fieldLink RX12 231 RX12 "ran" "I" ∈ TB := in_5 (i := 15) rfl rfl
theorem q_664 : Cond.methodLink RX12 234 yX12_ranBody ∈ TB := in_6 (i := 104) rfl rfl
theorem q_665 : Cond.instanceMethod yX12_ranBody ∈ TB := in_6 (i := 106) rfl rfl
theorem q_666 : Cond.selects RX12 yX12_ranBody yX12_ranBody ∈ TB := in_S (i := 62) rfl rfl
theorem q_667 : Cond.fieldLink RX12 237 RX12 "number" "I" ∈ TB := in_5 (i := 17) rfl rfl
theorem q_668 : Cond.fieldLink RX12 240 RX12 "kind" "I" ∈ TB := in_5 (i := 16) rfl rfl
theorem q_669 : Cond.methodLink RX12 243 yX12_isUnder ∈ TB := in_6 (i := 101) rfl rfl
theorem q_670 : Cond.static yX12_isUnder ∈ TB := in_6 (i := 102) rfl rfl
theorem q_671 : Cond.methodLink RX12 246 yX12_plainLeans ∈ TB := in_6 (i := 108) rfl rfl
theorem q_672 : Cond.instanceMethod yX12_plainLeans ∈ TB := in_6 (i := 110) rfl rfl
theorem q_673 : Cond.selects RX12 yX12_plainLeans yX12_plainLeans ∈ TB := in_S (i := 63) rfl rfl
theorem q_674 : Cond.methodLink RX12 249 yX12_leansActs ∈ TB := in_6 (i := 97) rfl rfl
theorem q_675 : Cond.instanceMethod yX12_leansActs ∈ TB := in_6 (i := 99) rfl rfl
theorem q_676 : Cond.selects RX12 yX12_leansActs yX12_leansActs ∈ TB := in_S (i := 61) rfl rfl
theorem q_677 : Cond.fieldLink RX12 252 RX12 "tellsV" "I" ∈ TB := in_5 (i := 18) rfl rfl
theorem q_678 : Cond.methodLink RX12 255 yX12_plainSays ∈ TB := in_6 (i := 116) rfl rfl
theorem q_679 : Cond.instanceMethod yX12_plainSays ∈ TB := in_6 (i := 118) rfl rfl
theorem q_680 : Cond.selects RX12 yX12_plainSays yX12_plainSays ∈ TB := in_S (i := 65) rfl rfl
theorem q_681 : Cond.methodLink RX12 258 yX12_saysActs ∈ TB := in_6 (i := 112) rfl rfl
theorem q_682 : Cond.instanceMethod yX12_saysActs ∈ TB := in_6 (i := 114) rfl rfl
theorem q_683 : Cond.selects RX12 yX12_saysActs yX12_saysActs ∈ TB := in_S (i := 64) rfl rfl
theorem q_684 : Cond.methodLink RX12 261 yX12_plainTelling ∈ TB := in_6 (i := 124) rfl rfl
theorem q_685 : Cond.instanceMethod yX12_plainTelling ∈ TB := in_6 (i := 126) rfl rfl
theorem q_686 : Cond.selects RX12 yX12_plainTelling yX12_plainTelling ∈ TB := in_S (i := 67) rfl rfl
theorem q_687 : Cond.methodLink RX12 264 yX12_bristlesActs ∈ TB := in_6 (i := 120) rfl rfl
theorem q_688 : Cond.instanceMethod yX12_bristlesActs ∈ TB := in_6 (i := 122) rfl rfl
theorem q_689 : Cond.selects RX12 yX12_bristlesActs yX12_bristlesActs ∈ TB := in_S (i := 66) rfl rfl
theorem q_690 : Cond.fieldLink RX12 267 RX12 "hasImage" "Z" ∈ TB := in_5 (i := 2) rfl rfl
theorem q_691 : Cond.constant RJ11 76 56320 ∈ TB := in_3 (i := 17) rfl rfl
theorem q_692 : Cond.constant RJ11 110 55232 ∈ TB := in_3 (i := 13) rfl rfl
theorem q_693 : Cond.constant RJ6 265 1431655765 ∈ TB := in_3 (i := 72) rfl rfl
theorem q_694 : Cond.constant RJ6 266 858993459 ∈ TB := in_3 (i := 73) rfl rfl
theorem q_695 : Cond.constant RJ6 267 252645135 ∈ TB := in_3 (i := 74) rfl rfl
theorem q_696 : Cond.fieldLink RJ0 38 RJ0 "COMPACT_STRINGS" "Z" ∈ TB := in_2 (i := 130) rfl rfl
theorem q_697 : Cond.methodLink RJ0 335 yJ0_coder_7d493 ∈ TB := in_2 (i := 126) rfl rfl
theorem q_698 : Cond.instanceMethod yJ0_coder_7d493 ∈ TB := in_2 (i := 127) rfl rfl
theorem q_699 : Cond.selects RJ0 yJ0_coder_7d493 yJ0_coder_7d493 ∈ TB := in_2 (i := 128) rfl rfl
theorem q_700 : Cond.methodLink RJ0 492 yJ0_isLatin1_aae02 ∈ TB := in_2 (i := 136) rfl rfl
theorem q_701 : Cond.instanceMethod yJ0_isLatin1_aae02 ∈ TB := in_2 (i := 137) rfl rfl
theorem q_702 : Cond.selects RJ0 yJ0_isLatin1_aae02 yJ0_isLatin1_aae02 ∈ TB := in_2 (i := 138) rfl rfl
theorem q_703 : Cond.methodLink RJ0 495 yJ1_charAt_3b067 ∈ TB := in_2 (i := 140) rfl rfl
theorem q_704 : Cond.static yJ1_charAt_3b067 ∈ TB := in_2 (i := 141) rfl rfl
theorem q_705 : Cond.initialized RJ1 ∈ TB := in_1 (i := 16) rfl rfl
theorem q_706 : Cond.methodLink RJ0 498 yJ2_charAt_3b067 ∈ TB := in_2 (i := 151) rfl rfl
theorem q_707 : Cond.static yJ2_charAt_3b067 ∈ TB := in_2 (i := 152) rfl rfl
theorem q_708 : Cond.initialized RJ2 ∈ TB := in_1 (i := 18) rfl rfl
theorem q_709 : Cond.methodLink RJ0 505 yJ0_length_8abf5 ∈ TB := in_2 (i := 209) rfl rfl
theorem q_710 : Cond.methodLink RJ0 633 yJ0_indexOf_7cf53 ∈ TB := in_2 (i := 205) rfl rfl
theorem q_711 : Cond.instanceMethod yJ0_indexOf_7cf53 ∈ TB := in_2 (i := 206) rfl rfl
theorem q_712 : Cond.selects RJ0 yJ0_indexOf_7cf53 yJ0_indexOf_7cf53 ∈ TB := in_2 (i := 207) rfl rfl
theorem q_713 : Cond.methodLink RJ0 637 yJ1_indexOf_4cfef ∈ TB := in_2 (i := 210) rfl rfl
theorem q_714 : Cond.static yJ1_indexOf_4cfef ∈ TB := in_2 (i := 211) rfl rfl
theorem q_715 : Cond.methodLink RJ0 640 yJ2_indexOf_4cfef ∈ TB := in_2 (i := 223) rfl rfl
theorem q_716 : Cond.static yJ2_indexOf_4cfef ∈ TB := in_2 (i := 224) rfl rfl
theorem q_717 : Cond.fieldLink RJ0 1053 RJ3 "SIOOBE_FORMATTER" "Ljava/util/function/BiFunction;" ∈ TB := in_2 (i := 146) rfl rfl
theorem q_718 : Cond.methodLink RJ0 1059 yJ3_checkIndex_8e157 ∈ TB := in_2 (i := 148) rfl rfl
theorem q_719 : Cond.static yJ3_checkIndex_8e157 ∈ TB := in_2 (i := 149) rfl rfl
theorem q_720 : Cond.initialized RJ3 ∈ TB := in_1 (i := 17) rfl rfl
theorem q_721 : Cond.methodLink RJ0 1062 yJ3_checkFromToIndex_8c36e ∈ TB := in_2 (i := 238) rfl rfl
theorem q_722 : Cond.static yJ3_checkFromToIndex_8c36e ∈ TB := in_2 (i := 239) rfl rfl
theorem q_723 : Cond.fieldLink RJ0 9 RJ0 "value" "[B" ∈ TB := in_6 (i := 165) rfl rfl
theorem q_724 : Cond.fieldLink RJ0 15 RJ0 "coder" "B" ∈ TB := in_6 (i := 166) rfl rfl
theorem q_725 : Cond.methodLink RJ1 9 yJ0_checkIndex_df160 ∈ TB := in_2 (i := 143) rfl rfl
theorem q_726 : Cond.static yJ0_checkIndex_df160 ∈ TB := in_2 (i := 144) rfl rfl
theorem q_727 : Cond.methodLink RJ1 38 yJ9_min_7cf53 ∈ TB := in_2 (i := 219) rfl rfl
theorem q_728 : Cond.methodLink RJ1 88 yJ1_canEncode_9a6ad ∈ TB := in_2 (i := 213) rfl rfl
theorem q_729 : Cond.static yJ1_canEncode_9a6ad ∈ TB := in_2 (i := 214) rfl rfl
theorem q_730 : Cond.methodLink RJ1 92 yJ9_max_7cf53 ∈ TB := in_2 (i := 216) rfl rfl
theorem q_731 : Cond.methodLink RJ1 95 yJ1_indexOfChar_4cfef ∈ TB := in_2 (i := 220) rfl rfl
theorem q_732 : Cond.static yJ1_indexOfChar_4cfef ∈ TB := in_2 (i := 221) rfl rfl
theorem q_733 : Cond.methodLink RJ2 48 yJ2_length_9d52b ∈ TB := in_2 (i := 157) rfl rfl
theorem q_734 : Cond.static yJ2_length_9d52b ∈ TB := in_2 (i := 158) rfl rfl
theorem q_735 : Cond.methodLink RJ2 67 yJ2_checkIndex_2214a ∈ TB := in_2 (i := 154) rfl rfl
theorem q_736 : Cond.static yJ2_checkIndex_2214a ∈ TB := in_2 (i := 155) rfl rfl
theorem q_737 : Cond.methodLink RJ2 71 yJ2_getChar_3b067 ∈ TB := in_2 (i := 161) rfl rfl
theorem q_738 : Cond.static yJ2_getChar_3b067 ∈ TB := in_2 (i := 162) rfl rfl
theorem q_739 : Cond.methodLink RJ2 96 yJ2_checkBoundsBeginEnd_d044e ∈ TB := in_2 (i := 232) rfl rfl
theorem q_740 : Cond.static yJ2_checkBoundsBeginEnd_d044e ∈ TB := in_2 (i := 233) rfl rfl
theorem q_741 : Cond.methodLink RJ2 157 yJ11_highSurrogate_5068e ∈ TB := in_3 (i := 10) rfl rfl
theorem q_742 : Cond.static yJ11_highSurrogate_5068e ∈ TB := in_3 (i := 11) rfl rfl
theorem q_743 : Cond.initialized RJ11 ∈ TB := in_1 (i := 19) rfl rfl
theorem q_744 : Cond.methodLink RJ2 161 yJ11_lowSurrogate_5068e ∈ TB := in_3 (i := 14) rfl rfl
theorem q_745 : Cond.static yJ11_lowSurrogate_5068e ∈ TB := in_3 (i := 15) rfl rfl
theorem q_746 : Cond.methodLink RJ2 164 yJ11_isValidCodePoint_9a6ad ∈ TB := in_3 (i := 7) rfl rfl
theorem q_747 : Cond.static yJ11_isValidCodePoint_9a6ad ∈ TB := in_3 (i := 8) rfl rfl
theorem q_748 : Cond.methodLink RJ2 183 yJ9_min_7cf53 ∈ TB := in_2 (i := 227) rfl rfl
theorem q_749 : Cond.methodLink RJ2 224 yJ9_max_7cf53 ∈ TB := in_2 (i := 226) rfl rfl
theorem q_750 : Cond.constant RJ2 227 65536 ∈ TB := in_2 (i := 228) rfl rfl
theorem q_751 : Cond.methodLink RJ2 228 yJ2_indexOfChar_4cfef ∈ TB := in_2 (i := 229) rfl rfl
theorem q_752 : Cond.static yJ2_indexOfChar_4cfef ∈ TB := in_2 (i := 230) rfl rfl
theorem q_753 : Cond.methodLink RJ2 232 yJ2_indexOfSupplementary_4cfef ∈ TB := in_3 (i := 4) rfl rfl
theorem q_754 : Cond.static yJ2_indexOfSupplementary_4cfef ∈ TB := in_3 (i := 5) rfl rfl
theorem q_755 : Cond.methodLink RJ2 241 yJ0_checkBoundsBeginEnd_23922 ∈ TB := in_2 (i := 235) rfl rfl
theorem q_756 : Cond.static yJ0_checkBoundsBeginEnd_23922 ∈ TB := in_2 (i := 236) rfl rfl
theorem q_757 : Cond.methodLink RJ2 244 yJ2_indexOfCharUnsafe_4cfef ∈ TB := in_3 (i := 1) rfl rfl
theorem q_758 : Cond.static yJ2_indexOfCharUnsafe_4cfef ∈ TB := in_3 (i := 2) rfl rfl
theorem q_759 : Cond.methodLink RJ2 414 yJ0_checkIndex_df160 ∈ TB := in_2 (i := 160) rfl rfl
theorem q_760 : Cond.methodLink RL 13 yX11_feed ∈ TB := in_2 (i := 91) rfl rfl
theorem q_761 : Cond.instanceMethod yX11_feed ∈ TB := in_2 (i := 92) rfl rfl
theorem q_762 : Cond.selects RX11 yX11_feed yX11_feed ∈ TB := in_2 (i := 93) rfl rfl
theorem q_763 : Cond.methodLink RL 17 yX12_feed ∈ TB := in_5 (i := 63) rfl rfl
theorem q_764 : Cond.instanceMethod yX12_feed ∈ TB := in_5 (i := 64) rfl rfl
theorem q_765 : Cond.selects RX12 yX12_feed yX12_feed ∈ TB := in_5 (i := 65) rfl rfl
theorem q_766 : Cond.methodLink RL 18 yX11_ledge ∈ TB := in_2 (i := 95) rfl rfl
theorem q_767 : Cond.instanceMethod yX11_ledge ∈ TB := in_2 (i := 96) rfl rfl
theorem q_768 : Cond.selects RX11 yX11_ledge yX11_ledge ∈ TB := in_2 (i := 97) rfl rfl
theorem q_769 : Cond.methodLink RL 22 yX12_ledge ∈ TB := in_5 (i := 70) rfl rfl
theorem q_770 : Cond.instanceMethod yX12_ledge ∈ TB := in_5 (i := 71) rfl rfl
theorem q_771 : Cond.selects RX12 yX12_ledge yX12_ledge ∈ TB := in_5 (i := 72) rfl rfl
theorem q_772 : Cond.methodLink RL 23 yX11_urchin ∈ TB := in_3 (i := 23) rfl rfl
theorem q_773 : Cond.instanceMethod yX11_urchin ∈ TB := in_3 (i := 24) rfl rfl
theorem q_774 : Cond.selects RX11 yX11_urchin yX11_urchin ∈ TB := in_3 (i := 25) rfl rfl
theorem q_775 : Cond.methodLink RL 27 yX12_urchin ∈ TB := in_5 (i := 130) rfl rfl
theorem q_776 : Cond.instanceMethod yX12_urchin ∈ TB := in_5 (i := 131) rfl rfl
theorem q_777 : Cond.selects RX12 yX12_urchin yX12_urchin ∈ TB := in_5 (i := 132) rfl rfl
theorem q_778 : Cond.methodLink RL 28 yX11_of ∈ TB := in_3 (i := 38) rfl rfl
theorem q_779 : Cond.instanceMethod yX11_of ∈ TB := in_3 (i := 39) rfl rfl
theorem q_780 : Cond.selects RX11 yX11_of yX11_of ∈ TB := in_3 (i := 40) rfl rfl
theorem q_781 : Cond.methodLink RL 31 yX12_of ∈ TB := in_5 (i := 134) rfl rfl
theorem q_782 : Cond.instanceMethod yX12_of ∈ TB := in_5 (i := 135) rfl rfl
theorem q_783 : Cond.selects RX12 yX12_of yX12_of ∈ TB := in_5 (i := 136) rfl rfl
theorem q_784 : Cond.methodLink RL 32 yX11_row ∈ TB := in_3 (i := 115) rfl rfl
theorem q_785 : Cond.instanceMethod yX11_row ∈ TB := in_3 (i := 116) rfl rfl
theorem q_786 : Cond.selects RX11 yX11_row yX11_row ∈ TB := in_3 (i := 117) rfl rfl
theorem q_787 : Cond.methodLink RL 36 yX12_row ∈ TB := in_5 (i := 169) rfl rfl
theorem q_788 : Cond.instanceMethod yX12_row ∈ TB := in_5 (i := 170) rfl rfl
theorem q_789 : Cond.selects RX12 yX12_row yX12_row ∈ TB := in_5 (i := 171) rfl rfl
theorem q_790 : Cond.methodLink RL 37 yX11_learn ∈ TB := in_3 (i := 122) rfl rfl
theorem q_791 : Cond.instanceMethod yX11_learn ∈ TB := in_3 (i := 123) rfl rfl
theorem q_792 : Cond.selects RX11 yX11_learn yX11_learn ∈ TB := in_3 (i := 124) rfl rfl
theorem q_793 : Cond.methodLink RL 40 yX12_learn ∈ TB := in_5 (i := 177) rfl rfl
theorem q_794 : Cond.instanceMethod yX12_learn ∈ TB := in_5 (i := 178) rfl rfl
theorem q_795 : Cond.selects RX12 yX12_learn yX12_learn ∈ TB := in_5 (i := 179) rfl rfl
theorem q_796 : Cond.methodLink RL 41 yX11_beach ∈ TB := in_3 (i := 129) rfl rfl
theorem q_797 : Cond.instanceMethod yX11_beach ∈ TB := in_3 (i := 130) rfl rfl
theorem q_798 : Cond.selects RX11 yX11_beach yX11_beach ∈ TB := in_3 (i := 131) rfl rfl
theorem q_799 : Cond.methodLink RL 45 yX12_beach ∈ TB := in_5 (i := 181) rfl rfl
theorem q_800 : Cond.instanceMethod yX12_beach ∈ TB := in_5 (i := 182) rfl rfl
theorem q_801 : Cond.selects RX12 yX12_beach yX12_beach ∈ TB := in_5 (i := 183) rfl rfl
theorem q_802 : Cond.methodLink RL 46 yX11_lesson ∈ TB := in_3 (i := 134) rfl rfl
theorem q_803 : Cond.instanceMethod yX11_lesson ∈ TB := in_3 (i := 135) rfl rfl
theorem q_804 : Cond.selects RX11 yX11_lesson yX11_lesson ∈ TB := in_3 (i := 136) rfl rfl
theorem q_805 : Cond.methodLink RL 49 yX12_lesson ∈ TB := in_5 (i := 185) rfl rfl
theorem q_806 : Cond.instanceMethod yX12_lesson ∈ TB := in_5 (i := 186) rfl rfl
theorem q_807 : Cond.selects RX12 yX12_lesson yX12_lesson ∈ TB := in_5 (i := 187) rfl rfl
theorem q_808 : Cond.methodLink RL 50 yX11_told ∈ TB := in_3 (i := 138) rfl rfl
theorem q_809 : Cond.instanceMethod yX11_told ∈ TB := in_3 (i := 139) rfl rfl
theorem q_810 : Cond.selects RX11 yX11_told yX11_told ∈ TB := in_3 (i := 140) rfl rfl
theorem q_811 : Cond.methodLink RL 53 yX12_told ∈ TB := in_5 (i := 189) rfl rfl
theorem q_812 : Cond.instanceMethod yX12_told ∈ TB := in_5 (i := 190) rfl rfl
theorem q_813 : Cond.selects RX12 yX12_told yX12_told ∈ TB := in_5 (i := 191) rfl rfl
theorem q_814 : Cond.methodLink RL 54 yX11_pass ∈ TB := in_3 (i := 165) rfl rfl
theorem q_815 : Cond.instanceMethod yX11_pass ∈ TB := in_3 (i := 166) rfl rfl
theorem q_816 : Cond.selects RX11 yX11_pass yX11_pass ∈ TB := in_3 (i := 167) rfl rfl
theorem q_817 : Cond.methodLink RL 57 yX12_pass ∈ TB := in_5 (i := 213) rfl rfl
theorem q_818 : Cond.instanceMethod yX12_pass ∈ TB := in_5 (i := 214) rfl rfl
theorem q_819 : Cond.selects RX12 yX12_pass yX12_pass ∈ TB := in_5 (i := 215) rfl rfl
theorem q_820 : Cond.methodLink RL 58 yX11_on ∈ TB := in_3 (i := 203) rfl rfl
theorem q_821 : Cond.instanceMethod yX11_on ∈ TB := in_3 (i := 204) rfl rfl
theorem q_822 : Cond.selects RX11 yX11_on yX11_on ∈ TB := in_3 (i := 205) rfl rfl
theorem q_823 : Cond.methodLink RL 61 yX12_on ∈ TB := in_6 (i := 1) rfl rfl
theorem q_824 : Cond.instanceMethod yX12_on ∈ TB := in_6 (i := 2) rfl rfl
theorem q_825 : Cond.selects RX12 yX12_on yX12_on ∈ TB := in_6 (i := 3) rfl rfl
theorem q_826 : Cond.methodLink RL 62 yX11_lasts ∈ TB := in_3 (i := 214) rfl rfl
theorem q_827 : Cond.instanceMethod yX11_lasts ∈ TB := in_3 (i := 215) rfl rfl
theorem q_828 : Cond.selects RX11 yX11_lasts yX11_lasts ∈ TB := in_3 (i := 216) rfl rfl
theorem q_829 : Cond.methodLink RL 65 yX12_lasts ∈ TB := in_6 (i := 13) rfl rfl
theorem q_830 : Cond.instanceMethod yX12_lasts ∈ TB := in_6 (i := 14) rfl rfl
theorem q_831 : Cond.selects RX12 yX12_lasts yX12_lasts ∈ TB := in_6 (i := 15) rfl rfl
theorem q_832 : Cond.methodLink RL 66 yX11_teach ∈ TB := in_3 (i := 222) rfl rfl
theorem q_833 : Cond.instanceMethod yX11_teach ∈ TB := in_3 (i := 223) rfl rfl
theorem q_834 : Cond.selects RX11 yX11_teach yX11_teach ∈ TB := in_3 (i := 224) rfl rfl
theorem q_835 : Cond.methodLink RL 69 yX12_teach ∈ TB := in_6 (i := 25) rfl rfl
theorem q_836 : Cond.instanceMethod yX12_teach ∈ TB := in_6 (i := 26) rfl rfl
theorem q_837 : Cond.selects RX12 yX12_teach yX12_teach ∈ TB := in_6 (i := 27) rfl rfl
theorem q_838 : Cond.methodLink RL 70 yX11_tell ∈ TB := in_3 (i := 233) rfl rfl
theorem q_839 : Cond.instanceMethod yX11_tell ∈ TB := in_3 (i := 234) rfl rfl
theorem q_840 : Cond.selects RX11 yX11_tell yX11_tell ∈ TB := in_3 (i := 235) rfl rfl
theorem q_841 : Cond.methodLink RL 73 yX12_tell ∈ TB := in_6 (i := 21) rfl rfl
theorem q_842 : Cond.instanceMethod yX12_tell ∈ TB := in_6 (i := 22) rfl rfl
theorem q_843 : Cond.selects RX12 yX12_tell yX12_tell ∈ TB := in_6 (i := 23) rfl rfl
theorem q_844 : Cond.methodLink RL 74 yX11_see ∈ TB := in_4 (i := 5) rfl rfl
theorem q_845 : Cond.instanceMethod yX11_see ∈ TB := in_4 (i := 6) rfl rfl
theorem q_846 : Cond.selects RX11 yX11_see yX11_see ∈ TB := in_4 (i := 7) rfl rfl
theorem q_847 : Cond.methodLink RL 78 yX12_see ∈ TB := in_6 (i := 33) rfl rfl
theorem q_848 : Cond.instanceMethod yX12_see ∈ TB := in_6 (i := 34) rfl rfl
theorem q_849 : Cond.selects RX12 yX12_see yX12_see ∈ TB := in_6 (i := 35) rfl rfl
theorem q_850 : Cond.methodLink RL 79 yX11_knew ∈ TB := in_4 (i := 17) rfl rfl
theorem q_851 : Cond.instanceMethod yX11_knew ∈ TB := in_4 (i := 18) rfl rfl
theorem q_852 : Cond.selects RX11 yX11_knew yX11_knew ∈ TB := in_4 (i := 19) rfl rfl
theorem q_853 : Cond.methodLink RL 82 yX12_knew ∈ TB := in_6 (i := 37) rfl rfl
theorem q_854 : Cond.instanceMethod yX12_knew ∈ TB := in_6 (i := 38) rfl rfl
theorem q_855 : Cond.selects RX12 yX12_knew yX12_knew ∈ TB := in_6 (i := 39) rfl rfl
theorem q_856 : Cond.methodLink RL 83 yX11_firm ∈ TB := in_4 (i := 41) rfl rfl
theorem q_857 : Cond.instanceMethod yX11_firm ∈ TB := in_4 (i := 42) rfl rfl
theorem q_858 : Cond.selects RX11 yX11_firm yX11_firm ∈ TB := in_4 (i := 43) rfl rfl
theorem q_859 : Cond.methodLink RL 86 yX12_firm ∈ TB := in_6 (i := 53) rfl rfl
theorem q_860 : Cond.instanceMethod yX12_firm ∈ TB := in_6 (i := 54) rfl rfl
theorem q_861 : Cond.selects RX12 yX12_firm yX12_firm ∈ TB := in_6 (i := 55) rfl rfl
theorem q_862 : Cond.methodLink RL 87 yX11_odds ∈ TB := in_4 (i := 45) rfl rfl
theorem q_863 : Cond.instanceMethod yX11_odds ∈ TB := in_4 (i := 46) rfl rfl
theorem q_864 : Cond.selects RX11 yX11_odds yX11_odds ∈ TB := in_4 (i := 47) rfl rfl
theorem q_865 : Cond.methodLink RL 91 yX12_odds ∈ TB := in_6 (i := 57) rfl rfl
theorem q_866 : Cond.instanceMethod yX12_odds ∈ TB := in_6 (i := 58) rfl rfl
theorem q_867 : Cond.selects RX12 yX12_odds yX12_odds ∈ TB := in_6 (i := 59) rfl rfl
theorem q_868 : Cond.methodLink RL 92 yX11_mean ∈ TB := in_4 (i := 57) rfl rfl
theorem q_869 : Cond.instanceMethod yX11_mean ∈ TB := in_4 (i := 58) rfl rfl
theorem q_870 : Cond.selects RX11 yX11_mean yX11_mean ∈ TB := in_4 (i := 59) rfl rfl
theorem q_871 : Cond.methodLink RL 96 yX12_mean ∈ TB := in_6 (i := 65) rfl rfl
theorem q_872 : Cond.instanceMethod yX12_mean ∈ TB := in_6 (i := 66) rfl rfl
theorem q_873 : Cond.selects RX12 yX12_mean yX12_mean ∈ TB := in_6 (i := 67) rfl rfl
theorem q_874 : Cond.methodLink RL 97 yX11_plan ∈ TB := in_4 (i := 61) rfl rfl
theorem q_875 : Cond.instanceMethod yX11_plan ∈ TB := in_4 (i := 62) rfl rfl
theorem q_876 : Cond.selects RX11 yX11_plan yX11_plan ∈ TB := in_4 (i := 63) rfl rfl
theorem q_877 : Cond.methodLink RL 100 yX12_plan ∈ TB := in_6 (i := 69) rfl rfl
theorem q_878 : Cond.instanceMethod yX12_plan ∈ TB := in_6 (i := 70) rfl rfl
theorem q_879 : Cond.selects RX12 yX12_plan yX12_plan ∈ TB := in_6 (i := 71) rfl rfl
theorem q_880 : Cond.methodLink RL 101 yX11_done ∈ TB := in_4 (i := 69) rfl rfl
theorem q_881 : Cond.instanceMethod yX11_done ∈ TB := in_4 (i := 70) rfl rfl
theorem q_882 : Cond.selects RX11 yX11_done yX11_done ∈ TB := in_4 (i := 71) rfl rfl
theorem q_883 : Cond.methodLink RL 104 yX12_done ∈ TB := in_6 (i := 77) rfl rfl
theorem q_884 : Cond.instanceMethod yX12_done ∈ TB := in_6 (i := 78) rfl rfl
theorem q_885 : Cond.selects RX12 yX12_done yX12_done ∈ TB := in_6 (i := 79) rfl rfl
theorem q_886 : Cond.methodLink RL 105 yX11_book ∈ TB := in_4 (i := 78) rfl rfl
theorem q_887 : Cond.instanceMethod yX11_book ∈ TB := in_4 (i := 79) rfl rfl
theorem q_888 : Cond.selects RX11 yX11_book yX11_book ∈ TB := in_4 (i := 80) rfl rfl
theorem q_889 : Cond.methodLink RL 108 yX12_book ∈ TB := in_6 (i := 85) rfl rfl
theorem q_890 : Cond.instanceMethod yX12_book ∈ TB := in_6 (i := 86) rfl rfl
theorem q_891 : Cond.selects RX12 yX12_book yX12_book ∈ TB := in_6 (i := 87) rfl rfl
theorem q_892 : Cond.methodLink RL 109 yX11_looked ∈ TB := in_4 (i := 82) rfl rfl
theorem q_893 : Cond.instanceMethod yX11_looked ∈ TB := in_4 (i := 83) rfl rfl
theorem q_894 : Cond.selects RX11 yX11_looked yX11_looked ∈ TB := in_4 (i := 84) rfl rfl
theorem q_895 : Cond.methodLink RL 112 yX12_looked ∈ TB := in_6 (i := 89) rfl rfl
theorem q_896 : Cond.instanceMethod yX12_looked ∈ TB := in_6 (i := 90) rfl rfl
theorem q_897 : Cond.selects RX12 yX12_looked yX12_looked ∈ TB := in_6 (i := 91) rfl rfl
theorem q_898 : Cond.methodLink RL 113 yX11_act ∈ TB := in_4 (i := 86) rfl rfl
theorem q_899 : Cond.instanceMethod yX11_act ∈ TB := in_4 (i := 87) rfl rfl
theorem q_900 : Cond.selects RX11 yX11_act yX11_act ∈ TB := in_4 (i := 88) rfl rfl
theorem q_901 : Cond.methodLink RL 116 yX12_act ∈ TB := in_6 (i := 93) rfl rfl
theorem q_902 : Cond.instanceMethod yX12_act ∈ TB := in_6 (i := 94) rfl rfl
theorem q_903 : Cond.selects RX12 yX12_act yX12_act ∈ TB := in_6 (i := 95) rfl rfl
theorem q_904 : Cond.methodLink RL 117 yX11_trace ∈ TB := in_4 (i := 190) rfl rfl
theorem q_905 : Cond.instanceMethod yX11_trace ∈ TB := in_4 (i := 191) rfl rfl
theorem q_906 : Cond.selects RX11 yX11_trace yX11_trace ∈ TB := in_4 (i := 192) rfl rfl
theorem q_907 : Cond.methodLink RL 120 yX12_trace ∈ TB := in_6 (i := 128) rfl rfl
theorem q_908 : Cond.instanceMethod yX12_trace ∈ TB := in_6 (i := 129) rfl rfl
theorem q_909 : Cond.selects RX12 yX12_trace yX12_trace ∈ TB := in_6 (i := 130) rfl rfl
theorem q_910 : Cond.methodLink RL 121 yX11_as ∈ TB := in_4 (i := 205) rfl rfl
theorem q_911 : Cond.instanceMethod yX11_as ∈ TB := in_4 (i := 206) rfl rfl
theorem q_912 : Cond.selects RX11 yX11_as yX11_as ∈ TB := in_4 (i := 207) rfl rfl
theorem q_913 : Cond.methodLink RL 124 yX12_as ∈ TB := in_6 (i := 132) rfl rfl
theorem q_914 : Cond.instanceMethod yX12_as ∈ TB := in_6 (i := 133) rfl rfl
theorem q_915 : Cond.selects RX12 yX12_as yX12_as ∈ TB := in_6 (i := 134) rfl rfl
theorem q_916 : Cond.methodLink RL 125 yX11_image ∈ TB := in_4 (i := 211) rfl rfl
theorem q_917 : Cond.instanceMethod yX11_image ∈ TB := in_4 (i := 212) rfl rfl
theorem q_918 : Cond.selects RX11 yX11_image yX11_image ∈ TB := in_4 (i := 213) rfl rfl
theorem q_919 : Cond.methodLink RL 128 yX12_image ∈ TB := in_6 (i := 136) rfl rfl
theorem q_920 : Cond.instanceMethod yX12_image ∈ TB := in_6 (i := 137) rfl rfl
theorem q_921 : Cond.selects RX12 yX12_image yX12_image ∈ TB := in_6 (i := 138) rfl rfl
theorem q_922 : Cond.methodLink RL 129 yX11_undo ∈ TB := in_4 (i := 225) rfl rfl
theorem q_923 : Cond.instanceMethod yX11_undo ∈ TB := in_4 (i := 226) rfl rfl
theorem q_924 : Cond.selects RX11 yX11_undo yX11_undo ∈ TB := in_4 (i := 227) rfl rfl
theorem q_925 : Cond.methodLink RL 132 yX12_undo ∈ TB := in_6 (i := 140) rfl rfl
theorem q_926 : Cond.instanceMethod yX12_undo ∈ TB := in_6 (i := 141) rfl rfl
theorem q_927 : Cond.selects RX12 yX12_undo yX12_undo ∈ TB := in_6 (i := 142) rfl rfl
theorem q_928 : Cond.methodLink RL 133 yX11_count ∈ TB := in_4 (i := 229) rfl rfl
theorem q_929 : Cond.instanceMethod yX11_count ∈ TB := in_4 (i := 230) rfl rfl
theorem q_930 : Cond.selects RX11 yX11_count yX11_count ∈ TB := in_4 (i := 231) rfl rfl
theorem q_931 : Cond.methodLink RL 136 yX12_count ∈ TB := in_6 (i := 144) rfl rfl
theorem q_932 : Cond.instanceMethod yX12_count ∈ TB := in_6 (i := 145) rfl rfl
theorem q_933 : Cond.selects RX12 yX12_count yX12_count ∈ TB := in_6 (i := 146) rfl rfl
end
section
/-! printed by wip/whole/gen/tables.py: the code of each method, as instructions -/
def kX0_heed : List Ins := [(0, .iload_n 1, 1), (1, .aload_n 2, 1), (2, .getfield 7, 3), (5, .isub, 1), (6, .ireturn, 1)]
theorem okX0_heed : okc cX0_heed kX0_heed := okc_of (by decide +kernel)
def kX0_bristles : List Ins := [(0, .aload_n 0, 1), (1, .bipush 31, 2), (3, .invokevirtual 13, 3), (6, .aload_n 0, 1), (7, .iload_n 1, 1), (8, .invokespecial 19, 3), (11, .bipush 7, 2), (13, .ixor, 1), (14, .ireturn, 1)]
theorem okX0_bristles : okc cX0_bristles kX0_bristles := okc_of (by decide +kernel)
def kX1_kindOf : List Ins := [(0, .iload_n 1, 1), (1, .ifCond .lt 21, 3), (4, .iload_n 1, 1), (5, .aload_n 0, 1), (6, .getfield 36, 3), (9, .arraylength, 1), (10, .if_icmp .ge 12, 3), (13, .aload_n 0, 1), (14, .getfield 36, 3), (17, .iload_n 1, 1), (18, .aaload, 1), (19, .goto 7, 3), (22, .aload_n 0, 1), (23, .getfield 12, 3), (26, .astore_n 2, 1), (27, .aload_n 2, 1), (28, .ifnonnull 10, 3), (31, .aload_n 0, 1), (32, .getfield 12, 3), (35, .goto 4, 3), (38, .aload_n 2, 1), (39, .areturn, 1)]
theorem okX1_kindOf : okc cX1_kindOf kX1_kindOf := okc_of (by decide +kernel)
def kX1_forget : List Ins := [(0, .aload_n 0, 1), (1, .getfield 40, 3), (4, .iconst (-1), 1), (5, .invokestatic 44, 3), (8, .return_, 1)]
theorem okX1_forget : okc cX1_forget kX1_forget := okc_of (by decide +kernel)
def kX1_setsOf : List Ins := [(0, .aload_n 1, 1), (1, .iload_n 3, 1), (2, .invokevirtual 50, 3), (5, .ifCond .ne 5, 3), (8, .iconst 0, 1), (9, .ireturn, 1), (10, .aload_n 1, 1), (11, .getfield 56, 3), (14, .iload_n 3, 1), (15, .iaload, 1), (16, .invokestatic 59, 3), (19, .istore 4, 2), (21, .iload_n 3, 1), (22, .bipush 9, 2), (24, .imul, 1), (25, .iload 4, 2), (27, .iadd, 1), (28, .bipush 10, 2), (30, .imul, 1), (31, .aload_n 1, 1), (32, .getfield 65, 3), (35, .bipush 10, 2), (37, .irem, 1), (38, .iadd, 1), (39, .istore 5, 2), (41, .iload 5, 2), (43, .ifCond .lt 13, 3), (46, .iload 5, 2), (48, .aload_n 0, 1), (49, .getfield 40, 3), (52, .arraylength, 1), (53, .if_icmp .lt 5, 3), (56, .iconst 0, 1), (57, .ireturn, 1), (58, .aload_n 0, 1), (59, .getfield 40, 3), (62, .iload 5, 2), (64, .iaload, 1), (65, .iconst (-1), 1), (66, .if_icmp .ne 17, 3), (69, .aload_n 0, 1), (70, .getfield 40, 3), (73, .iload 5, 2), (75, .aload_n 0, 1), (76, .aload_n 1, 1), (77, .aload_n 2, 1), (78, .iload_n 3, 1), (79, .invokevirtual 69, 3), (82, .iastore, 1), (83, .aload_n 0, 1), (84, .getfield 40, 3), (87, .iload 5, 2), (89, .iaload, 1), (90, .ireturn, 1)]
theorem okX1_setsOf : okc cX1_setsOf kX1_setsOf := okc_of (by decide +kernel)
def kX1_weigh : List Ins := [(0, .iconst 0, 1), (1, .istore 4, 2), (3, .iconst 0, 1), (4, .istore 5, 2), (6, .iload 5, 2), (8, .bipush 8, 2), (10, .if_icmp .ge 93, 3), (13, .aload_n 0, 1), (14, .aload_n 1, 1), (15, .iload_n 3, 1), (16, .iload 5, 2), (18, .invokevirtual 73, 3), (21, .aload_n 0, 1), (22, .iconst 0, 1), (23, .putfield 77, 3), (26, .aload_n 0, 1), (27, .aload_n 0, 1), (28, .getfield 80, 3), (31, .invokevirtual 83, 3), (34, .aload_n 2, 1), (35, .aload_n 0, 1), (36, .invokevirtual 87, 3), (39, .aload_n 0, 1), (40, .invokevirtual 93, 3), (43, .istore 6, 2), (45, .iload 6, 2), (47, .ifCond .lt 12, 3), (50, .iload 4, 2), (52, .iconst 1, 1), (53, .iload 5, 2), (55, .ishl, 1), (56, .ior, 1), (57, .istore 4, 2), (59, .iload 6, 2), (61, .ifCond .le 15, 3), (64, .iload 4, 2), (66, .iconst 1, 1), (67, .bipush 8, 2), (69, .iload 5, 2), (71, .iadd, 1), (72, .ishl, 1), (73, .ior, 1), (74, .istore 4, 2), (76, .iload 6, 2), (78, .aload_n 2, 1), (79, .getfield 97, 3), (82, .if_icmp .lt 15, 3), (85, .iload 4, 2), (87, .iconst 1, 1), (88, .bipush 16, 2), (90, .iload 5, 2), (92, .iadd, 1), (93, .ishl, 1), (94, .ior, 1), (95, .istore 4, 2), (97, .iinc 5 1, 3), (100, .goto (-94), 3), (103, .iload 4, 2), (105, .ireturn, 1)]
theorem okX1_weigh : okc cX1_weigh kX1_weigh := okc_of (by decide +kernel)
def kX1_heedOf : List Ins := [(0, .aload_n 0, 1), (1, .aload_n 1, 1), (2, .iload_n 3, 1), (3, .iload 4, 2), (5, .invokevirtual 73, 3), (8, .aload_n 0, 1), (9, .aload_n 0, 1), (10, .getfield 80, 3), (13, .invokevirtual 83, 3), (16, .aload_n 2, 1), (17, .aload_n 0, 1), (18, .invokevirtual 87, 3), (21, .aload_n 0, 1), (22, .invokevirtual 93, 3), (25, .ireturn, 1)]
theorem okX1_heedOf : okc cX1_heedOf kX1_heedOf := okc_of (by decide +kernel)
def kX1_look : List Ins := [(0, .aload_n 1, 1), (1, .iload_n 2, 1), (2, .invokevirtual 50, 3), (5, .ifCond .ne 4, 3), (8, .return_, 1), (9, .aload_n 0, 1), (10, .iload_n 2, 1), (11, .putfield 100, 3), (14, .aload_n 0, 1), (15, .aload_n 1, 1), (16, .getfield 103, 3), (19, .iload_n 2, 1), (20, .iaload, 1), (21, .putfield 80, 3), (24, .aload_n 0, 1), (25, .aload_n 1, 1), (26, .getfield 106, 3), (29, .iload_n 2, 1), (30, .iaload, 1), (31, .putfield 109, 3), (34, .aload_n 0, 1), (35, .iload_n 3, 1), (36, .putfield 111, 3), (39, .aload_n 0, 1), (40, .aload_n 1, 1), (41, .getfield 56, 3), (44, .iload_n 2, 1), (45, .iaload, 1), (46, .invokestatic 59, 3), (49, .putfield 114, 3), (52, .aload_n 0, 1), (53, .aload_n 1, 1), (54, .getfield 65, 3), (57, .bipush 10, 2), (59, .irem, 1), (60, .putfield 117, 3), (63, .aload_n 0, 1), (64, .aload_n 1, 1), (65, .getfield 120, 3), (68, .iload_n 2, 1), (69, .iconst 4, 1), (70, .imul, 1), (71, .iload_n 3, 1), (72, .iconst 4, 1), (73, .irem, 1), (74, .iadd, 1), (75, .iaload, 1), (76, .putfield 123, 3), (79, .aload_n 0, 1), (80, .aload_n 1, 1), (81, .getfield 56, 3), (84, .iload_n 2, 1), (85, .iaload, 1), (86, .iload_n 3, 1), (87, .ishr, 1), (88, .iconst 1, 1), (89, .iand, 1), (90, .iconst 1, 1), (91, .if_icmp .ne 7, 3), (94, .iconst 1, 1), (95, .goto 4, 3), (98, .iconst 0, 1), (99, .putfield 77, 3), (102, .return_, 1)]
theorem okX1_look : okc cX1_look kX1_look := okc_of (by decide +kernel)
def kX2_heed : List Ins := [(0, .iload_n 1, 1), (1, .iconst 2, 1), (2, .idiv, 1), (3, .ireturn, 1)]
theorem okX2_heed : okc cX2_heed kX2_heed := okc_of (by decide +kernel)
def kX2_says : List Ins := [(0, .aload_n 0, 1), (1, .bipush 21, 2), (3, .invokevirtual 7, 3), (6, .aload_n 0, 1), (7, .iload_n 1, 1), (8, .invokespecial 13, 3), (11, .ineg, 1), (12, .ireturn, 1)]
theorem okX2_says : okc cX2_says kX2_says := okc_of (by decide +kernel)
def kX3_heed : List Ins := [(0, .iload_n 1, 1), (1, .aload_n 2, 1), (2, .getfield 7, 3), (5, .iadd, 1), (6, .ireturn, 1)]
theorem okX3_heed : okc cX3_heed kX3_heed := okc_of (by decide +kernel)
def kX3_leans : List Ins := [(0, .aload_n 0, 1), (1, .bipush 11, 2), (3, .invokevirtual 13, 3), (6, .aload_n 0, 1), (7, .iload_n 1, 1), (8, .iconst 3, 1), (9, .imul, 1), (10, .invokespecial 19, 3), (13, .ireturn, 1)]
theorem okX3_leans : okc cX3_leans kX3_leans := okc_of (by decide +kernel)
def kX4_read : List Ins := [(0, .aload_n 0, 1), (1, .aload_n 1, 1), (2, .putfield 22, 3), (5, .aload_n 0, 1), (6, .iload_n 2, 1), (7, .putfield 26, 3), (10, .aload_n 0, 1), (11, .iconst (-1), 1), (12, .putfield 29, 3), (15, .aload_n 0, 1), (16, .iconst 0, 1), (17, .putfield 32, 3), (20, .aload_n 0, 1), (21, .iconst 4, 1), (22, .putfield 15, 3), (25, .aload_n 0, 1), (26, .bipush 6, 2), (28, .putfield 19, 3), (31, .aload_n 0, 1), (32, .invokevirtual 35, 3), (35, .iconst 1, 1), (36, .istore_n 3, 1), (37, .iload_n 3, 1), (38, .bipush 10, 2), (40, .if_icmp .gt 51, 3), (43, .aload_n 0, 1), (44, .invokevirtual 38, 3), (47, .ifCond .ne 8, 3), (50, .aload_n 0, 1), (51, .getfield 29, 3), (54, .ireturn, 1), (55, .aload_n 0, 1), (56, .getfield 42, 3), (59, .iconst (-1), 1), (60, .if_icmp .ne 5, 3), (63, .iconst (-1), 1), (64, .ireturn, 1), (65, .iload_n 3, 1), (66, .bipush 10, 2), (68, .if_icmp .eq 12, 3), (71, .aload_n 0, 1), (72, .bipush 59, 2), (74, .invokevirtual 45, 3), (77, .ifCond .ne 8, 3), (80, .aload_n 0, 1), (81, .getfield 29, 3), (84, .ireturn, 1), (85, .iinc 3 1, 3), (88, .goto (-51), 3), (91, .aload_n 0, 1), (92, .getfield 29, 3), (95, .ireturn, 1)]
theorem okX4_read : okc cX4_read kX4_read := okc_of (by decide +kernel)
def kX4_readClause : List Ins := [(0, .aload_n 0, 1), (1, .getfield 42, 3), (4, .istore_n 1, 1), (5, .aload_n 0, 1), (6, .iload_n 1, 1), (7, .invokestatic 49, 3), (10, .invokevirtual 53, 3), (13, .ifCond .eq 10, 3), (16, .aload_n 0, 1), (17, .invokevirtual 57, 3), (20, .ifCond .ne 5, 3), (23, .iconst 0, 1), (24, .ireturn, 1), (25, .iload_n 1, 1), (26, .bipush 107, 2), (28, .if_icmp .ne 13, 3), (31, .aload_n 0, 1), (32, .aload_n 0, 1), (33, .getfield 60, 3), (36, .putfield 15, 3), (39, .iconst 1, 1), (40, .ireturn, 1), (41, .iload_n 1, 1), (42, .bipush 112, 2), (44, .if_icmp .ne 13, 3), (47, .aload_n 0, 1), (48, .aload_n 0, 1), (49, .getfield 60, 3), (52, .putfield 19, 3), (55, .iconst 1, 1), (56, .ireturn, 1), (57, .iload_n 1, 1), (58, .bipush 108, 2), (60, .if_icmp .ne 9, 3), (63, .sipush 10000, 3), (66, .goto 6, 3), (69, .sipush 20000, 3), (72, .aload_n 0, 1), (73, .getfield 60, 3), (76, .iadd, 1), (77, .istore_n 2, 1), (78, .aload_n 0, 1), (79, .bipush 32, 2), (81, .invokevirtual 45, 3), (84, .ifCond .eq 23, 3), (87, .aload_n 0, 1), (88, .iconst 0, 1), (89, .invokevirtual 63, 3), (92, .ifCond .eq 15, 3), (95, .aload_n 0, 1), (96, .iload_n 2, 1), (97, .invokevirtual 66, 3), (100, .ifCond .eq 7, 3), (103, .iconst 1, 1), (104, .goto 4, 3), (107, .iconst 0, 1), (108, .ireturn, 1)]
theorem okX4_readClause : okc cX4_readClause kX4_readClause := okc_of (by decide +kernel)
def kX4_wordOf : List Ins := [(0, .iload_n 0, 1), (1, .lookupswitch 44 #[(107, 35), (108, 41), (112, 38)], 35), (36, .ldc 69, 2), (38, .areturn, 1), (39, .ldc 71, 2), (41, .areturn, 1), (42, .ldc 73, 2), (44, .areturn, 1), (45, .ldc 75, 2), (47, .areturn, 1)]
theorem okX4_wordOf : okc cX4_wordOf kX4_wordOf := okc_of (by decide +kernel)
def kX4_readEither : List Ins := [(0, .aload_n 0, 1), (1, .iload_n 1, 1), (2, .invokevirtual 77, 3), (5, .ifCond .ne 5, 3), (8, .iconst 0, 1), (9, .ireturn, 1), (10, .iconst 0, 1), (11, .istore_n 2, 1), (12, .iload_n 2, 1), (13, .bipush 100, 2), (15, .if_icmp .ge 37, 3), (18, .aload_n 0, 1), (19, .bipush 124, 2), (21, .invokevirtual 45, 3), (24, .ifCond .eq 28, 3), (27, .aload_n 0, 1), (28, .iload_n 1, 1), (29, .invokevirtual 77, 3), (32, .ifCond .eq 12, 3), (35, .aload_n 0, 1), (36, .bipush (-3), 2), (38, .invokevirtual 66, 3), (41, .ifCond .ne 5, 3), (44, .iconst 0, 1), (45, .ireturn, 1), (46, .iinc 2 1, 3), (49, .goto (-37), 3), (52, .iconst 1, 1), (53, .ireturn, 1)]
theorem okX4_readEither : okc cX4_readEither kX4_readEither := okc_of (by decide +kernel)
def kX4_readBoth : List Ins := [(0, .aload_n 0, 1), (1, .iload_n 1, 1), (2, .invokevirtual 80, 3), (5, .ifCond .ne 5, 3), (8, .iconst 0, 1), (9, .ireturn, 1), (10, .iconst 0, 1), (11, .istore_n 2, 1), (12, .iload_n 2, 1), (13, .bipush 100, 2), (15, .if_icmp .ge 37, 3), (18, .aload_n 0, 1), (19, .bipush 38, 2), (21, .invokevirtual 45, 3), (24, .ifCond .eq 28, 3), (27, .aload_n 0, 1), (28, .iload_n 1, 1), (29, .invokevirtual 80, 3), (32, .ifCond .eq 12, 3), (35, .aload_n 0, 1), (36, .bipush (-2), 2), (38, .invokevirtual 66, 3), (41, .ifCond .ne 5, 3), (44, .iconst 0, 1), (45, .ireturn, 1), (46, .iinc 2 1, 3), (49, .goto (-37), 3), (52, .iconst 1, 1), (53, .ireturn, 1)]
theorem okX4_readBoth : okc cX4_readBoth kX4_readBoth := okc_of (by decide +kernel)
def kX4_readPart : List Ins := [(0, .aload_n 0, 1), (1, .getfield 42, 3), (4, .bipush 33, 2), (6, .if_icmp .eq 48, 3), (9, .aload_n 0, 1), (10, .getfield 42, 3), (13, .bipush 40, 2), (15, .if_icmp .eq 39, 3), (18, .aload_n 0, 1), (19, .invokevirtual 83, 3), (22, .ifCond .eq 30, 3), (25, .aload_n 0, 1), (26, .invokevirtual 57, 3), (29, .ifCond .eq 23, 3), (32, .aload_n 0, 1), (33, .aload_n 0, 1), (34, .getfield 86, 3), (37, .aload_n 0, 1), (38, .getfield 60, 3), (41, .iadd, 1), (42, .invokevirtual 66, 3), (45, .ifCond .eq 7, 3), (48, .iconst 1, 1), (49, .goto 4, 3), (52, .iconst 0, 1), (53, .ireturn, 1), (54, .iload_n 1, 1), (55, .iconst 5, 1), (56, .if_icmp .lt 5, 3), (59, .iconst 0, 1), (60, .ireturn, 1), (61, .aload_n 0, 1), (62, .bipush 33, 2), (64, .invokevirtual 45, 3), (67, .ifCond .eq 27, 3), (70, .aload_n 0, 1), (71, .iload_n 1, 1), (72, .iconst 1, 1), (73, .iadd, 1), (74, .invokevirtual 80, 3), (77, .ifCond .eq 15, 3), (80, .aload_n 0, 1), (81, .iconst (-1), 1), (82, .invokevirtual 66, 3), (85, .ifCond .eq 7, 3), (88, .iconst 1, 1), (89, .goto 4, 3), (92, .iconst 0, 1), (93, .ireturn, 1), (94, .aload_n 0, 1), (95, .bipush 40, 2), (97, .invokevirtual 45, 3), (100, .ifCond .eq 26, 3), (103, .aload_n 0, 1), (104, .iload_n 1, 1), (105, .iconst 1, 1), (106, .iadd, 1), (107, .invokevirtual 63, 3), (110, .ifCond .eq 16, 3), (113, .aload_n 0, 1), (114, .bipush 41, 2), (116, .invokevirtual 45, 3), (119, .ifCond .eq 7, 3), (122, .iconst 1, 1), (123, .goto 4, 3), (126, .iconst 0, 1), (127, .ireturn, 1)]
theorem okX4_readPart : okc cX4_readPart kX4_readPart := okc_of (by decide +kernel)
def kX4_readTest : List Ins := [(0, .aload_n 0, 1), (1, .getfield 42, 3), (4, .ldc 89, 2), (6, .invokestatic 91, 3), (9, .istore_n 1, 1), (10, .iload_n 1, 1), (11, .ifCond .ge 5, 3), (14, .iconst 0, 1), (15, .ireturn, 1), (16, .aload_n 0, 1), (17, .invokevirtual 35, 3), (20, .aload_n 0, 1), (21, .getfield 42, 3), (24, .ldc 95, 2), (26, .invokestatic 91, 3), (29, .istore_n 2, 1), (30, .iload_n 2, 1), (31, .ifCond .ge 5, 3), (34, .iconst 0, 1), (35, .ireturn, 1), (36, .aload_n 0, 1), (37, .invokevirtual 35, 3), (40, .aload_n 0, 1), (41, .iload_n 1, 1), (42, .sipush 300, 3), (45, .imul, 1), (46, .iload_n 2, 1), (47, .bipush 100, 2), (49, .imul, 1), (50, .iadd, 1), (51, .putfield 86, 3), (54, .iconst 1, 1), (55, .ireturn, 1)]
theorem okX4_readTest : okc cX4_readTest kX4_readTest := okc_of (by decide +kernel)
def kX4_placeOf : List Ins := [(0, .iload_n 0, 1), (1, .iconst (-1), 1), (2, .if_icmp .ne 7, 3), (5, .iconst (-1), 1), (6, .goto 9, 3), (9, .aload_n 1, 1), (10, .iload_n 0, 1), (11, .i2c, 1), (12, .invokevirtual 97, 3), (15, .ireturn, 1)]
theorem okX4_placeOf : okc cX4_placeOf kX4_placeOf := okc_of (by decide +kernel)
def kX4_readNumber : List Ins := [(0, .aload_n 0, 1), (1, .getfield 42, 3), (4, .invokestatic 103, 3), (7, .ifCond .ne 5, 3), (10, .iconst 0, 1), (11, .ireturn, 1), (12, .aload_n 0, 1), (13, .aload_n 0, 1), (14, .getfield 42, 3), (17, .bipush 48, 2), (19, .isub, 1), (20, .putfield 60, 3), (23, .aload_n 0, 1), (24, .invokevirtual 35, 3), (27, .aload_n 0, 1), (28, .getfield 60, 3), (31, .ifCond .le 36, 3), (34, .aload_n 0, 1), (35, .getfield 42, 3), (38, .invokestatic 103, 3), (41, .ifCond .eq 26, 3), (44, .aload_n 0, 1), (45, .aload_n 0, 1), (46, .getfield 60, 3), (49, .bipush 10, 2), (51, .imul, 1), (52, .aload_n 0, 1), (53, .getfield 42, 3), (56, .iadd, 1), (57, .bipush 48, 2), (59, .isub, 1), (60, .putfield 60, 3), (63, .aload_n 0, 1), (64, .invokevirtual 35, 3), (67, .iconst 1, 1), (68, .ireturn, 1)]
theorem okX4_readNumber : okc cX4_readNumber kX4_readNumber := okc_of (by decide +kernel)
def kX4_isDigit : List Ins := [(0, .iload_n 0, 1), (1, .bipush 48, 2), (3, .if_icmp .lt 13, 3), (6, .iload_n 0, 1), (7, .bipush 57, 2), (9, .if_icmp .gt 7, 3), (12, .iconst 1, 1), (13, .goto 4, 3), (16, .iconst 0, 1), (17, .ireturn, 1)]
theorem okX4_isDigit : okc cX4_isDigit kX4_isDigit := okc_of (by decide +kernel)
def kX4_takeWord : List Ins := [(0, .iconst 0, 1), (1, .istore_n 2, 1), (2, .iload_n 2, 1), (3, .aload_n 1, 1), (4, .invokevirtual 106, 3), (7, .if_icmp .ge 23, 3), (10, .aload_n 0, 1), (11, .aload_n 1, 1), (12, .iload_n 2, 1), (13, .invokevirtual 110, 3), (16, .invokevirtual 45, 3), (19, .ifCond .ne 5, 3), (22, .iconst 0, 1), (23, .ireturn, 1), (24, .iinc 2 1, 3), (27, .goto (-25), 3), (30, .iconst 1, 1), (31, .ireturn, 1)]
theorem okX4_takeWord : okc cX4_takeWord kX4_takeWord := okc_of (by decide +kernel)
def kX4_take : List Ins := [(0, .aload_n 0, 1), (1, .getfield 42, 3), (4, .iload_n 1, 1), (5, .if_icmp .eq 5, 3), (8, .iconst 0, 1), (9, .ireturn, 1), (10, .aload_n 0, 1), (11, .invokevirtual 35, 3), (14, .iconst 1, 1), (15, .ireturn, 1)]
theorem okX4_take : okc cX4_take kX4_take := okc_of (by decide +kernel)
def kX4_advance : List Ins := [(0, .aload_n 0, 1), (1, .dup, 1), (2, .getfield 29, 3), (5, .iconst 1, 1), (6, .iadd, 1), (7, .putfield 29, 3), (10, .aload_n 0, 1), (11, .aload_n 0, 1), (12, .getfield 22, 3), (15, .ifnull 45, 3), (18, .aload_n 0, 1), (19, .getfield 29, 3), (22, .ifCond .lt 38, 3), (25, .aload_n 0, 1), (26, .getfield 29, 3), (29, .aload_n 0, 1), (30, .getfield 26, 3), (33, .if_icmp .ge 27, 3), (36, .aload_n 0, 1), (37, .getfield 29, 3), (40, .aload_n 0, 1), (41, .getfield 22, 3), (44, .arraylength, 1), (45, .if_icmp .ge 15, 3), (48, .aload_n 0, 1), (49, .getfield 22, 3), (52, .aload_n 0, 1), (53, .getfield 29, 3), (56, .baload, 1), (57, .goto 4, 3), (60, .iconst (-1), 1), (61, .putfield 42, 3), (64, .return_, 1)]
theorem okX4_advance : okc cX4_advance kX4_advance := okc_of (by decide +kernel)
def kX4_put : List Ins := [(0, .aload_n 0, 1), (1, .getfield 32, 3), (4, .ifCond .lt 15, 3), (7, .aload_n 0, 1), (8, .getfield 32, 3), (11, .aload_n 0, 1), (12, .getfield 9, 3), (15, .arraylength, 1), (16, .if_icmp .lt 5, 3), (19, .iconst 0, 1), (20, .ireturn, 1), (21, .aload_n 0, 1), (22, .getfield 9, 3), (25, .aload_n 0, 1), (26, .getfield 32, 3), (29, .iload_n 1, 1), (30, .iastore, 1), (31, .aload_n 0, 1), (32, .dup, 1), (33, .getfield 32, 3), (36, .iconst 1, 1), (37, .iadd, 1), (38, .putfield 32, 3), (41, .iconst 1, 1), (42, .ireturn, 1)]
theorem okX4_put : okc cX4_put kX4_put := okc_of (by decide +kernel)
def kX4_sum : List Ins := [(0, .iconst 3, 1), (1, .istore_n 2, 1), (2, .iconst 0, 1), (3, .istore_n 3, 1), (4, .iconst 0, 1), (5, .istore 4, 2), (7, .iload 4, 2), (9, .aload_n 0, 1), (10, .getfield 32, 3), (13, .if_icmp .ge 114, 3), (16, .iload 4, 2), (18, .aload_n 0, 1), (19, .getfield 9, 3), (22, .arraylength, 1), (23, .if_icmp .ge 104, 3), (26, .aload_n 0, 1), (27, .getfield 9, 3), (30, .iload 4, 2), (32, .iaload, 1), (33, .istore 5, 2), (35, .iload 5, 2), (37, .sipush 20000, 3), (40, .if_icmp .lt 21, 3), (43, .iload_n 2, 1), (44, .iload_n 3, 1), (45, .iconst 1, 1), (46, .iand, 1), (47, .iload 5, 2), (49, .sipush 20000, 3), (52, .isub, 1), (53, .imul, 1), (54, .isub, 1), (55, .istore_n 2, 1), (56, .iconst 0, 1), (57, .istore_n 3, 1), (58, .goto 63, 3), (61, .iload 5, 2), (63, .sipush 10000, 3), (66, .if_icmp .lt 21, 3), (69, .iload_n 2, 1), (70, .iload_n 3, 1), (71, .iconst 1, 1), (72, .iand, 1), (73, .iload 5, 2), (75, .sipush 10000, 3), (78, .isub, 1), (79, .imul, 1), (80, .iadd, 1), (81, .istore_n 2, 1), (82, .iconst 0, 1), (83, .istore_n 3, 1), (84, .goto 37, 3), (87, .iload 5, 2), (89, .ifCond .lt 25, 3), (92, .iload_n 3, 1), (93, .iconst 1, 1), (94, .ishl, 1), (95, .iload 5, 2), (97, .aload_n 1, 1), (98, .invokestatic 114, 3), (101, .ifCond .eq 7, 3), (104, .iconst 1, 1), (105, .goto 4, 3), (108, .iconst 0, 1), (109, .ior, 1), (110, .istore_n 3, 1), (111, .goto 10, 3), (114, .iload 5, 2), (116, .iload_n 3, 1), (117, .invokestatic 118, 3), (120, .istore_n 3, 1), (121, .iinc 4 1, 3), (124, .goto (-117), 3), (127, .iload_n 2, 1), (128, .ireturn, 1)]
theorem okX4_sum : okc cX4_sum kX4_sum := okc_of (by decide +kernel)
def kX4_joined : List Ins := [(0, .iload_n 0, 1), (1, .iconst (-1), 1), (2, .if_icmp .ne 7, 3), (5, .iload_n 1, 1), (6, .iconst 1, 1), (7, .ixor, 1), (8, .ireturn, 1), (9, .iload_n 1, 1), (10, .iconst 1, 1), (11, .ishr, 1), (12, .istore_n 2, 1), (13, .iload_n 0, 1), (14, .bipush (-2), 2), (16, .if_icmp .ne 9, 3), (19, .iload_n 1, 1), (20, .iload_n 2, 1), (21, .iand, 1), (22, .goto 6, 3), (25, .iload_n 1, 1), (26, .iload_n 2, 1), (27, .ior, 1), (28, .istore_n 3, 1), (29, .iload_n 2, 1), (30, .bipush (-2), 2), (32, .iand, 1), (33, .iload_n 3, 1), (34, .iconst 1, 1), (35, .iand, 1), (36, .ior, 1), (37, .ireturn, 1)]
theorem okX4_joined : okc cX4_joined kX4_joined := okc_of (by decide +kernel)
def kX4_holds : List Ins := [(0, .iload_n 0, 1), (1, .bipush 100, 2), (3, .irem, 1), (4, .istore_n 2, 1), (5, .iload_n 0, 1), (6, .sipush 300, 3), (9, .idiv, 1), (10, .tableswitch 74 0 4 #[34, 42, 50, 58, 66], 34), (44, .aload_n 1, 1), (45, .getfield 122, 3), (48, .istore_n 3, 1), (49, .goto 40, 3), (52, .aload_n 1, 1), (53, .getfield 127, 3), (56, .istore_n 3, 1), (57, .goto 32, 3), (60, .aload_n 1, 1), (61, .getfield 130, 3), (64, .istore_n 3, 1), (65, .goto 24, 3), (68, .aload_n 1, 1), (69, .getfield 133, 3), (72, .istore_n 3, 1), (73, .goto 16, 3), (76, .aload_n 1, 1), (77, .getfield 136, 3), (80, .istore_n 3, 1), (81, .goto 8, 3), (84, .aload_n 1, 1), (85, .getfield 139, 3), (88, .istore_n 3, 1), (89, .iload_n 0, 1), (90, .bipush 100, 2), (92, .idiv, 1), (93, .iconst 3, 1), (94, .irem, 1), (95, .istore 4, 2), (97, .iload 4, 2), (99, .ifCond .ne 16, 3), (102, .iload_n 3, 1), (103, .iload_n 2, 1), (104, .if_icmp .ge 7, 3), (107, .iconst 1, 1), (108, .goto 36, 3), (111, .iconst 0, 1), (112, .goto 32, 3), (115, .iload 4, 2), (117, .iconst 1, 1), (118, .if_icmp .ne 16, 3), (121, .iload_n 3, 1), (122, .iload_n 2, 1), (123, .if_icmp .ne 7, 3), (126, .iconst 1, 1), (127, .goto 17, 3), (130, .iconst 0, 1), (131, .goto 13, 3), (134, .iload_n 3, 1), (135, .iload_n 2, 1), (136, .if_icmp .le 7, 3), (139, .iconst 1, 1), (140, .goto 4, 3), (143, .iconst 0, 1), (144, .ireturn, 1)]
theorem okX4_holds : okc cX4_holds kX4_holds := okc_of (by decide +kernel)
def kX5_heed : List Ins := [(0, .aload_n 0, 1), (1, .iload_n 1, 1), (2, .aload_n 2, 1), (3, .invokespecial 7, 3), (6, .istore_n 3, 1), (7, .aload_n 2, 1), (8, .getfield 11, 3), (11, .ifCond .eq 9, 3), (14, .iload_n 3, 1), (15, .iconst 2, 1), (16, .imul, 1), (17, .goto 4, 3), (20, .iload_n 3, 1), (21, .ireturn, 1)]
theorem okX5_heed : okc cX5_heed kX5_heed := okc_of (by decide +kernel)
def kX5_bristles : List Ins := [(0, .aload_n 0, 1), (1, .bipush 41, 2), (3, .invokevirtual 17, 3), (6, .aload_n 0, 1), (7, .iload_n 1, 1), (8, .iconst 1, 1), (9, .isub, 1), (10, .invokespecial 23, 3), (13, .aload_n 0, 1), (14, .iconst 2, 1), (15, .invokevirtual 27, 3), (18, .iadd, 1), (19, .ireturn, 1)]
theorem okX5_bristles : okc cX5_bristles kX5_bristles := okc_of (by decide +kernel)
def kX6_heed : List Ins := [(0, .aload_n 0, 1), (1, .iload_n 1, 1), (2, .aload_n 2, 1), (3, .invokespecial 7, 3), (6, .aload_n 2, 1), (7, .getfield 11, 3), (10, .iadd, 1), (11, .ireturn, 1)]
theorem okX6_heed : okc cX6_heed kX6_heed := okc_of (by decide +kernel)
def kX6_leans : List Ins := [(0, .aload_n 0, 1), (1, .bipush 51, 2), (3, .invokevirtual 17, 3), (6, .aload_n 0, 1), (7, .iload_n 1, 1), (8, .invokespecial 23, 3), (11, .aload_n 0, 1), (12, .getfield 27, 3), (15, .ixor, 1), (16, .ireturn, 1)]
theorem okX6_leans : okc cX6_leans kX6_leans := okc_of (by decide +kernel)
def kX7_become : List Ins := [(0, .aload_n 0, 1), (1, .aload_n 1, 1), (2, .invokevirtual 46, 3), (5, .aload_n 1, 1), (6, .getfield 27, 3), (9, .iconst 0, 1), (10, .aload_n 0, 1), (11, .getfield 27, 3), (14, .iconst 0, 1), (15, .bipush 100, 2), (17, .invokestatic 50, 3), (20, .aload_n 0, 1), (21, .aload_n 1, 1), (22, .getfield 56, 3), (25, .putfield 56, 3), (28, .aload_n 0, 1), (29, .aload_n 1, 1), (30, .getfield 60, 3), (33, .putfield 60, 3), (36, .aload_n 0, 1), (37, .getfield 36, 3), (40, .aload_n 1, 1), (41, .getfield 36, 3), (44, .invokevirtual 63, 3), (47, .aload_n 0, 1), (48, .getfield 40, 3), (51, .aload_n 1, 1), (52, .getfield 40, 3), (55, .invokevirtual 63, 3), (58, .aload_n 0, 1), (59, .getfield 43, 3), (62, .aload_n 1, 1), (63, .getfield 43, 3), (66, .invokevirtual 63, 3), (69, .return_, 1)]
theorem okX7_become : okc cX7_become kX7_become := okc_of (by decide +kernel)
def kX7_becomeRow : List Ins := [(0, .aload_n 1, 1), (1, .getfield 9, 3), (4, .iconst 0, 1), (5, .aload_n 0, 1), (6, .getfield 9, 3), (9, .iconst 0, 1), (10, .bipush 6, 2), (12, .invokestatic 50, 3), (15, .aload_n 1, 1), (16, .getfield 15, 3), (19, .iconst 0, 1), (20, .aload_n 0, 1), (21, .getfield 15, 3), (24, .iconst 0, 1), (25, .bipush 6, 2), (27, .invokestatic 50, 3), (30, .aload_n 1, 1), (31, .getfield 18, 3), (34, .iconst 0, 1), (35, .aload_n 0, 1), (36, .getfield 18, 3), (39, .iconst 0, 1), (40, .bipush 6, 2), (42, .invokestatic 50, 3), (45, .aload_n 1, 1), (46, .getfield 21, 3), (49, .iconst 0, 1), (50, .aload_n 0, 1), (51, .getfield 21, 3), (54, .iconst 0, 1), (55, .bipush 24, 2), (57, .invokestatic 50, 3), (60, .aload_n 1, 1), (61, .getfield 24, 3), (64, .iconst 0, 1), (65, .aload_n 0, 1), (66, .getfield 24, 3), (69, .iconst 0, 1), (70, .iconst 4, 1), (71, .invokestatic 50, 3), (74, .aload_n 0, 1), (75, .aload_n 1, 1), (76, .getfield 67, 3), (79, .putfield 67, 3), (82, .aload_n 0, 1), (83, .aload_n 1, 1), (84, .getfield 70, 3), (87, .putfield 70, 3), (90, .aload_n 0, 1), (91, .aload_n 1, 1), (92, .getfield 73, 3), (95, .putfield 73, 3), (98, .return_, 1)]
theorem okX7_becomeRow : okc cX7_becomeRow kX7_becomeRow := okc_of (by decide +kernel)
def kX7_join : List Ins := [(0, .aload_n 0, 1), (1, .getfield 67, 3), (4, .ifCond .lt 12, 3), (7, .aload_n 0, 1), (8, .getfield 67, 3), (11, .bipush 6, 2), (13, .if_icmp .lt 6, 3), (16, .bipush (-4), 2), (18, .ireturn, 1), (19, .aload_n 0, 1), (20, .getfield 9, 3), (23, .aload_n 0, 1), (24, .getfield 67, 3), (27, .iload_n 1, 1), (28, .iastore, 1), (29, .aload_n 0, 1), (30, .getfield 15, 3), (33, .aload_n 0, 1), (34, .getfield 67, 3), (37, .iload_n 2, 1), (38, .iastore, 1), (39, .aload_n 0, 1), (40, .getfield 18, 3), (43, .aload_n 0, 1), (44, .getfield 67, 3), (47, .iconst 0, 1), (48, .iastore, 1), (49, .iconst 0, 1), (50, .istore_n 3, 1), (51, .iload_n 3, 1), (52, .iconst 4, 1), (53, .if_icmp .ge 23, 3), (56, .aload_n 0, 1), (57, .getfield 21, 3), (60, .aload_n 0, 1), (61, .getfield 67, 3), (64, .iconst 4, 1), (65, .imul, 1), (66, .iload_n 3, 1), (67, .iadd, 1), (68, .iconst 0, 1), (69, .iastore, 1), (70, .iinc 3 1, 3), (73, .goto (-22), 3), (76, .aload_n 0, 1), (77, .aload_n 0, 1), (78, .getfield 67, 3), (81, .iconst 0, 1), (82, .invokevirtual 76, 3), (85, .aload_n 0, 1), (86, .dup, 1), (87, .getfield 67, 3), (90, .iconst 1, 1), (91, .iadd, 1), (92, .putfield 67, 3), (95, .aload_n 0, 1), (96, .getfield 67, 3), (99, .iconst 1, 1), (100, .isub, 1), (101, .ireturn, 1)]
theorem okX7_join : okc cX7_join kX7_join := okc_of (by decide +kernel)
def kX7_has : List Ins := [(0, .iload_n 1, 1), (1, .ifCond .lt 21, 3), (4, .iload_n 1, 1), (5, .aload_n 0, 1), (6, .getfield 67, 3), (9, .if_icmp .ge 13, 3), (12, .iload_n 1, 1), (13, .bipush 6, 2), (15, .if_icmp .ge 7, 3), (18, .iconst 1, 1), (19, .goto 4, 3), (22, .iconst 0, 1), (23, .ireturn, 1)]
theorem okX7_has : okc cX7_has kX7_has := okc_of (by decide +kernel)
def kX7_isOut : List Ins := [(0, .aload_n 0, 1), (1, .getfield 70, 3), (4, .iload_n 1, 1), (5, .ishr, 1), (6, .iconst 1, 1), (7, .iand, 1), (8, .iconst 1, 1), (9, .if_icmp .ne 7, 3), (12, .iconst 1, 1), (13, .goto 4, 3), (16, .iconst 0, 1), (17, .ireturn, 1)]
theorem okX7_isOut : okc cX7_isOut kX7_isOut := okc_of (by decide +kernel)
def kX7_putOut : List Ins := [(0, .aload_n 0, 1), (1, .iload_n 2, 1), (2, .ifCond .eq 14, 3), (5, .aload_n 0, 1), (6, .getfield 70, 3), (9, .iconst 1, 1), (10, .iload_n 1, 1), (11, .ishl, 1), (12, .ior, 1), (13, .goto 13, 3), (16, .aload_n 0, 1), (17, .getfield 70, 3), (20, .iconst 1, 1), (21, .iload_n 1, 1), (22, .ishl, 1), (23, .iconst (-1), 1), (24, .ixor, 1), (25, .iand, 1), (26, .putfield 70, 3), (29, .return_, 1)]
theorem okX7_putOut : okc cX7_putOut kX7_putOut := okc_of (by decide +kernel)
def kX7_tellFact : List Ins := [(0, .aload_n 0, 1), (1, .iload_n 1, 1), (2, .invokevirtual 80, 3), (5, .ifCond .eq 15, 3), (8, .aload_n 0, 1), (9, .getfield 18, 3), (12, .iload_n 1, 1), (13, .dup2, 1), (14, .iaload, 1), (15, .iconst 1, 1), (16, .iload_n 2, 1), (17, .ishl, 1), (18, .ior, 1), (19, .iastore, 1), (20, .return_, 1)]
theorem okX7_tellFact : okc cX7_tellFact kX7_tellFact := okc_of (by decide +kernel)
def kX7_all : List Ins := [(0, .iconst 0, 1), (1, .istore_n 1, 1), (2, .iconst 0, 1), (3, .istore_n 2, 1), (4, .iload_n 2, 1), (5, .aload_n 0, 1), (6, .getfield 67, 3), (9, .if_icmp .ge 36, 3), (12, .iload_n 2, 1), (13, .bipush 6, 2), (15, .if_icmp .ge 30, 3), (18, .iload_n 1, 1), (19, .aload_n 0, 1), (20, .iload_n 2, 1), (21, .invokevirtual 84, 3), (24, .ifCond .eq 7, 3), (27, .iconst 0, 1), (28, .goto 9, 3), (31, .aload_n 0, 1), (32, .getfield 18, 3), (35, .iload_n 2, 1), (36, .iaload, 1), (37, .ior, 1), (38, .istore_n 1, 1), (39, .iinc 2 1, 3), (42, .goto (-38), 3), (45, .iload_n 1, 1), (46, .ireturn, 1)]
theorem okX7_all : okc cX7_all kX7_all := okc_of (by decide +kernel)
def kX7_held : List Ins := [(0, .iconst 0, 1), (1, .istore_n 1, 1), (2, .iconst 0, 1), (3, .istore_n 2, 1), (4, .iload_n 2, 1), (5, .aload_n 0, 1), (6, .getfield 67, 3), (9, .if_icmp .ge 39, 3), (12, .iload_n 2, 1), (13, .bipush 6, 2), (15, .if_icmp .ge 33, 3), (18, .iload_n 1, 1), (19, .aload_n 0, 1), (20, .iload_n 2, 1), (21, .invokevirtual 84, 3), (24, .ifCond .eq 7, 3), (27, .iconst 0, 1), (28, .goto 12, 3), (31, .aload_n 0, 1), (32, .getfield 18, 3), (35, .iload_n 2, 1), (36, .iaload, 1), (37, .invokestatic 87, 3), (40, .iadd, 1), (41, .istore_n 1, 1), (42, .iinc 2 1, 3), (45, .goto (-41), 3), (48, .iload_n 1, 1), (49, .ireturn, 1)]
theorem okX7_held : okc cX7_held kX7_held := okc_of (by decide +kernel)
def kX7_notOut : List Ins := [(0, .iconst 0, 1), (1, .istore_n 1, 1), (2, .iconst 0, 1), (3, .istore_n 2, 1), (4, .iload_n 2, 1), (5, .aload_n 0, 1), (6, .getfield 67, 3), (9, .if_icmp .ge 31, 3), (12, .iload_n 2, 1), (13, .bipush 6, 2), (15, .if_icmp .ge 25, 3), (18, .iload_n 1, 1), (19, .aload_n 0, 1), (20, .iload_n 2, 1), (21, .invokevirtual 84, 3), (24, .ifCond .eq 7, 3), (27, .iconst 0, 1), (28, .goto 4, 3), (31, .iconst 1, 1), (32, .iadd, 1), (33, .istore_n 1, 1), (34, .iinc 2 1, 3), (37, .goto (-33), 3), (40, .iload_n 1, 1), (41, .ireturn, 1)]
theorem okX7_notOut : okc cX7_notOut kX7_notOut := okc_of (by decide +kernel)
def kX7_few : List Ins := [(0, .aload_n 0, 1), (1, .invokevirtual 93, 3), (4, .istore_n 1, 1), (5, .bipush 7, 2), (7, .istore_n 2, 1), (8, .iconst 0, 1), (9, .istore_n 3, 1), (10, .iconst 0, 1), (11, .istore 4, 2), (13, .iload 4, 2), (15, .iconst 1, 1), (16, .aload_n 0, 1), (17, .getfield 67, 3), (20, .ishl, 1), (21, .if_icmp .ge 47, 3), (24, .iload 4, 2), (26, .invokestatic 87, 3), (29, .iload_n 2, 1), (30, .if_icmp .ge 32, 3), (33, .iload 4, 2), (35, .aload_n 0, 1), (36, .getfield 70, 3), (39, .iand, 1), (40, .ifCond .ne 22, 3), (43, .aload_n 0, 1), (44, .iload 4, 2), (46, .invokevirtual 97, 3), (49, .iload_n 1, 1), (50, .if_icmp .ne 12, 3), (53, .iload 4, 2), (55, .invokestatic 87, 3), (58, .istore_n 2, 1), (59, .iload 4, 2), (61, .istore_n 3, 1), (62, .iinc 4 1, 3), (65, .goto (-52), 3), (68, .iload_n 3, 1), (69, .ireturn, 1)]
theorem okX7_few : okc cX7_few kX7_few := okc_of (by decide +kernel)
def kX7_knownBy : List Ins := [(0, .iconst 0, 1), (1, .istore_n 2, 1), (2, .iconst 0, 1), (3, .istore_n 3, 1), (4, .iload_n 3, 1), (5, .aload_n 0, 1), (6, .getfield 67, 3), (9, .if_icmp .ge 37, 3), (12, .iload_n 3, 1), (13, .bipush 6, 2), (15, .if_icmp .ge 31, 3), (18, .iload_n 2, 1), (19, .iload_n 1, 1), (20, .iload_n 3, 1), (21, .ishr, 1), (22, .iconst 1, 1), (23, .iand, 1), (24, .iconst 1, 1), (25, .if_icmp .ne 12, 3), (28, .aload_n 0, 1), (29, .getfield 18, 3), (32, .iload_n 3, 1), (33, .iaload, 1), (34, .goto 4, 3), (37, .iconst 0, 1), (38, .ior, 1), (39, .istore_n 2, 1), (40, .iinc 3 1, 3), (43, .goto (-39), 3), (46, .iload_n 2, 1), (47, .ireturn, 1)]
theorem okX7_knownBy : okc cX7_knownBy kX7_knownBy := okc_of (by decide +kernel)
def kX7_lastSeen : List Ins := [(0, .iconst 0, 1), (1, .istore_n 1, 1), (2, .iconst 0, 1), (3, .istore_n 2, 1), (4, .iload_n 2, 1), (5, .aload_n 0, 1), (6, .getfield 36, 3), (9, .getfield 100, 3), (12, .if_icmp .ge 23, 3), (15, .iload_n 1, 1), (16, .aload_n 0, 1), (17, .getfield 36, 3), (20, .iload_n 2, 1), (21, .iconst 1, 1), (22, .invokevirtual 101, 3), (25, .invokestatic 105, 3), (28, .istore_n 1, 1), (29, .iinc 2 1, 3), (32, .goto (-28), 3), (35, .iload_n 1, 1), (36, .ireturn, 1)]
theorem okX7_lastSeen : okc cX7_lastSeen kX7_lastSeen := okc_of (by decide +kernel)
def kX7_isAsSeen : List Ins := [(0, .iconst 0, 1), (1, .istore_n 3, 1), (2, .iload_n 3, 1), (3, .aload_n 1, 1), (4, .getfield 100, 3), (7, .if_icmp .ge 63, 3), (10, .aload_n 1, 1), (11, .iload_n 3, 1), (12, .iconst 0, 1), (13, .invokevirtual 101, 3), (16, .istore 4, 2), (18, .aload_n 1, 1), (19, .iload_n 3, 1), (20, .iconst 1, 1), (21, .invokevirtual 101, 3), (24, .iload_n 2, 1), (25, .if_icmp .ne 39, 3), (28, .aload_n 0, 1), (29, .iload 4, 2), (31, .invokevirtual 80, 3), (34, .ifCond .eq 30, 3), (37, .aload_n 0, 1), (38, .getfield 18, 3), (41, .iload 4, 2), (43, .iaload, 1), (44, .aload_n 1, 1), (45, .iload_n 3, 1), (46, .iconst 2, 1), (47, .invokevirtual 101, 3), (50, .ishr, 1), (51, .iconst 1, 1), (52, .iand, 1), (53, .aload_n 1, 1), (54, .iload_n 3, 1), (55, .iconst 3, 1), (56, .invokevirtual 101, 3), (59, .if_icmp .eq 5, 3), (62, .iconst 0, 1), (63, .ireturn, 1), (64, .iinc 3 1, 3), (67, .goto (-65), 3), (70, .iconst 1, 1), (71, .ireturn, 1)]
theorem okX7_isAsSeen : okc cX7_isAsSeen kX7_isAsSeen := okc_of (by decide +kernel)
def kX7_lessonNow : List Ins := [(0, .aload_n 0, 1), (1, .getfield 73, 3), (4, .iconst 4, 1), (5, .irem, 1), (6, .istore_n 1, 1), (7, .iload_n 1, 1), (8, .ifCond .lt 12, 3), (11, .aload_n 0, 1), (12, .getfield 24, 3), (15, .iload_n 1, 1), (16, .iaload, 1), (17, .goto 5, 3), (20, .bipush 8, 2), (22, .ireturn, 1)]
theorem okX7_lessonNow : okc cX7_lessonNow kX7_lessonNow := okc_of (by decide +kernel)
def kX7_goTide : List Ins := [(0, .iconst 0, 1), (1, .istore 4, 2), (3, .iconst 0, 1), (4, .istore 5, 2), (6, .iload 5, 2), (8, .aload_n 0, 1), (9, .getfield 67, 3), (12, .if_icmp .ge 148, 3), (15, .iload 5, 2), (17, .bipush 6, 2), (19, .if_icmp .ge 141, 3), (22, .aload_n 0, 1), (23, .getfield 18, 3), (26, .iload 5, 2), (28, .iaload, 1), (29, .istore 6, 2), (31, .aload_n 0, 1), (32, .iload 5, 2), (34, .invokevirtual 84, 3), (37, .ifCond .eq 9, 3), (40, .iconst 0, 1), (41, .istore 4, 2), (43, .goto 111, 3), (46, .aload_n 0, 1), (47, .iload 5, 2), (49, .iconst 1, 1), (50, .iadd, 1), (51, .invokevirtual 80, 3), (54, .ifCond .eq 26, 3), (57, .aload_n 0, 1), (58, .iload 5, 2), (60, .iconst 1, 1), (61, .iadd, 1), (62, .invokevirtual 84, 3), (65, .ifCond .ne 15, 3), (68, .aload_n 0, 1), (69, .getfield 18, 3), (72, .iload 5, 2), (74, .iconst 1, 1), (75, .iadd, 1), (76, .iaload, 1), (77, .goto 4, 3), (80, .iconst 0, 1), (81, .istore 7, 2), (83, .aload_n 1, 1), (84, .aload_n 0, 1), (85, .aload_n 2, 1), (86, .iload 5, 2), (88, .invokevirtual 110, 3), (91, .istore 8, 2), (93, .iload 6, 2), (95, .iload 8, 2), (97, .iand, 1), (98, .istore 9, 2), (100, .iload 9, 2), (102, .iconst 1, 1), (103, .iload_n 3, 1), (104, .ishl, 1), (105, .iload 8, 2), (107, .bipush 8, 2), (109, .ishr, 1), (110, .iand, 1), (111, .sipush 255, 3), (114, .iand, 1), (115, .ior, 1), (116, .istore 9, 2), (118, .iload 9, 2), (120, .iload 4, 2), (122, .iload 7, 2), (124, .ior, 1), (125, .iload 8, 2), (127, .bipush 16, 2), (129, .ishr, 1), (130, .iand, 1), (131, .ior, 1), (132, .istore 9, 2), (134, .aload_n 0, 1), (135, .getfield 18, 3), (138, .iload 5, 2), (140, .iload 9, 2), (142, .aload_n 2, 1), (143, .getfield 116, 3), (146, .invokestatic 121, 3), (149, .iastore, 1), (150, .iload 6, 2), (152, .istore 4, 2), (154, .iinc 5 1, 3), (157, .goto (-151), 3), (160, .aload_n 0, 1), (161, .dup, 1), (162, .getfield 73, 3), (165, .iconst 1, 1), (166, .iadd, 1), (167, .putfield 73, 3), (170, .return_, 1)]
theorem okX7_goTide : okc cX7_goTide kX7_goTide := okc_of (by decide +kernel)
def kX7_least : List Ins := [(0, .iload_n 0, 1), (1, .istore_n 2, 1), (2, .iload_n 0, 1), (3, .invokestatic 87, 3), (6, .istore_n 3, 1), (7, .bipush 7, 2), (9, .istore 4, 2), (11, .iload 4, 2), (13, .ifCond .lt 36, 3), (16, .iload_n 3, 1), (17, .iload_n 1, 1), (18, .if_icmp .le 31, 3), (21, .iload_n 2, 1), (22, .iload 4, 2), (24, .ishr, 1), (25, .iconst 1, 1), (26, .iand, 1), (27, .iconst 1, 1), (28, .if_icmp .ne 15, 3), (31, .iload_n 2, 1), (32, .iconst 1, 1), (33, .iload 4, 2), (35, .ishl, 1), (36, .iconst (-1), 1), (37, .ixor, 1), (38, .iand, 1), (39, .istore_n 2, 1), (40, .iinc 3 (-1), 3), (43, .iinc 4 (-1), 3), (46, .goto (-35), 3), (49, .iload_n 2, 1), (50, .ireturn, 1)]
theorem okX7_least : okc cX7_least kX7_least := okc_of (by decide +kernel)
def kX8_empty : List Ins := [(0, .aload_n 0, 1), (1, .iconst 0, 1), (2, .putfield 25, 3), (5, .iconst 0, 1), (6, .ireturn, 1)]
theorem okX8_empty : okc cX8_empty kX8_empty := okc_of (by decide +kernel)
def kX8_add : List Ins := [(0, .aload_n 0, 1), (1, .getfield 25, 3), (4, .ifCond .lt 14, 3), (7, .aload_n 0, 1), (8, .getfield 25, 3), (11, .aload_n 0, 1), (12, .getfield 21, 3), (15, .if_icmp .lt 6, 3), (18, .bipush (-4), 2), (20, .ireturn, 1), (21, .aload_n 0, 1), (22, .getfield 25, 3), (25, .iconst 4, 1), (26, .imul, 1), (27, .istore 5, 2), (29, .aload_n 0, 1), (30, .getfield 11, 3), (33, .iload 5, 2), (35, .iload_n 1, 1), (36, .iastore, 1), (37, .aload_n 0, 1), (38, .getfield 11, 3), (41, .iload 5, 2), (43, .iconst 1, 1), (44, .iadd, 1), (45, .iload_n 2, 1), (46, .iastore, 1), (47, .aload_n 0, 1), (48, .getfield 11, 3), (51, .iload 5, 2), (53, .iconst 2, 1), (54, .iadd, 1), (55, .iload_n 3, 1), (56, .iastore, 1), (57, .aload_n 0, 1), (58, .getfield 11, 3), (61, .iload 5, 2), (63, .iconst 3, 1), (64, .iadd, 1), (65, .iload 4, 2), (67, .iastore, 1), (68, .aload_n 0, 1), (69, .dup, 1), (70, .getfield 25, 3), (73, .iconst 1, 1), (74, .iadd, 1), (75, .putfield 25, 3), (78, .aload_n 0, 1), (79, .getfield 25, 3), (82, .ireturn, 1)]
theorem okX8_add : okc cX8_add kX8_add := okc_of (by decide +kernel)
def kX8_cell : List Ins := [(0, .iload_n 1, 1), (1, .ifCond .lt 24, 3), (4, .iload_n 1, 1), (5, .aload_n 0, 1), (6, .getfield 25, 3), (9, .if_icmp .ge 16, 3), (12, .iload_n 2, 1), (13, .ifCond .lt 12, 3), (16, .iload_n 2, 1), (17, .iconst 4, 1), (18, .if_icmp .ge 7, 3), (21, .iconst 1, 1), (22, .goto 4, 3), (25, .iconst 0, 1), (26, .istore_n 3, 1), (27, .iload_n 3, 1), (28, .ifCond .eq 16, 3), (31, .aload_n 0, 1), (32, .getfield 11, 3), (35, .iload_n 1, 1), (36, .iconst 4, 1), (37, .imul, 1), (38, .iload_n 2, 1), (39, .iadd, 1), (40, .iaload, 1), (41, .goto 4, 3), (44, .iconst 0, 1), (45, .ireturn, 1)]
theorem okX8_cell : okc cX8_cell kX8_cell := okc_of (by decide +kernel)
def kX8_takeOver : List Ins := [(0, .aload_n 1, 1), (1, .getfield 11, 3), (4, .iconst 0, 1), (5, .aload_n 0, 1), (6, .getfield 11, 3), (9, .iconst 0, 1), (10, .bipush 32, 2), (12, .invokestatic 28, 3), (15, .aload_n 0, 1), (16, .aload_n 1, 1), (17, .getfield 25, 3), (20, .putfield 25, 3), (23, .return_, 1)]
theorem okX8_takeOver : okc cX8_takeOver kX8_takeOver := okc_of (by decide +kernel)
def kX9_heed : List Ins := [(0, .aload_n 0, 1), (1, .iload_n 1, 1), (2, .aload_n 2, 1), (3, .invokespecial 7, 3), (6, .aload_n 2, 1), (7, .getfield 11, 3), (10, .iadd, 1), (11, .iconst 4, 1), (12, .isub, 1), (13, .ireturn, 1)]
theorem okX9_heed : okc cX9_heed kX9_heed := okc_of (by decide +kernel)
def kX9_says : List Ins := [(0, .aload_n 0, 1), (1, .bipush 61, 2), (3, .invokevirtual 17, 3), (6, .aload_n 0, 1), (7, .iload_n 1, 1), (8, .invokespecial 23, 3), (11, .aload_n 0, 1), (12, .getfield 27, 3), (15, .iadd, 1), (16, .ireturn, 1)]
theorem okX9_says : okc cX9_says kX9_says := okc_of (by decide +kernel)
def kX10_wake : List Ins := [(0, .aload_n 0, 1), (1, .iload_n 1, 1), (2, .putfield 15, 3), (5, .aload_n 0, 1), (6, .iload_n 2, 1), (7, .putfield 19, 3), (10, .aload_n 0, 1), (11, .iconst 0, 1), (12, .putfield 22, 3), (15, .return_, 1)]
theorem okX10_wake : okc cX10_wake kX10_wake := okc_of (by decide +kernel)
def kX10_begin : List Ins := [(0, .aload_n 0, 1), (1, .getfield 22, 3), (4, .ifCond .lt 25, 3), (7, .aload_n 0, 1), (8, .getfield 22, 3), (11, .aload_n 0, 1), (12, .getfield 9, 3), (15, .arraylength, 1), (16, .if_icmp .ge 13, 3), (19, .aload_n 0, 1), (20, .getfield 9, 3), (23, .aload_n 0, 1), (24, .getfield 22, 3), (27, .iload_n 1, 1), (28, .iastore, 1), (29, .aload_n 0, 1), (30, .dup, 1), (31, .getfield 22, 3), (34, .iconst 1, 1), (35, .iadd, 1), (36, .putfield 22, 3), (39, .return_, 1)]
theorem okX10_begin : okc cX10_begin kX10_begin := okc_of (by decide +kernel)
def kX10_bodyAt : List Ins := [(0, .iload_n 1, 1), (1, .ifCond .lt 29, 3), (4, .iload_n 1, 1), (5, .aload_n 0, 1), (6, .getfield 22, 3), (9, .if_icmp .ge 21, 3), (12, .iload_n 1, 1), (13, .aload_n 0, 1), (14, .getfield 9, 3), (17, .arraylength, 1), (18, .if_icmp .ge 12, 3), (21, .aload_n 0, 1), (22, .getfield 9, 3), (25, .iload_n 1, 1), (26, .iaload, 1), (27, .goto 4, 3), (30, .iconst (-1), 1), (31, .ireturn, 1)]
theorem okX10_bodyAt : okc cX10_bodyAt kX10_bodyAt := okc_of (by decide +kernel)
def kX10_heed : List Ins := [(0, .iload_n 1, 1), (1, .ireturn, 1)]
theorem okX10_heed : okc cX10_heed kX10_heed := okc_of (by decide +kernel)
def kX10_leans : List Ins := [(0, .aload_n 0, 1), (1, .iconst 1, 1), (2, .invokevirtual 25, 3), (5, .iload_n 1, 1), (6, .aload_n 0, 1), (7, .getfield 15, 3), (10, .iadd, 1), (11, .ireturn, 1)]
theorem okX10_leans : okc cX10_leans kX10_leans := okc_of (by decide +kernel)
def kX10_says : List Ins := [(0, .aload_n 0, 1), (1, .iconst 2, 1), (2, .invokevirtual 25, 3), (5, .aload_n 0, 1), (6, .iload_n 1, 1), (7, .invokevirtual 29, 3), (10, .aload_n 0, 1), (11, .getfield 19, 3), (14, .isub, 1), (15, .ireturn, 1)]
theorem okX10_says : okc cX10_says kX10_says := okc_of (by decide +kernel)
def kX10_bristles : List Ins := [(0, .aload_n 0, 1), (1, .iconst 3, 1), (2, .invokevirtual 25, 3), (5, .aload_n 0, 1), (6, .iload_n 1, 1), (7, .invokevirtual 33, 3), (10, .iconst 2, 1), (11, .imul, 1), (12, .ireturn, 1)]
theorem okX10_bristles : okc cX10_bristles kX10_bristles := okc_of (by decide +kernel)
def kX11_feed : List Ins := [(0, .iload_n 1, 1), (1, .ifCond .lt 9, 3), (4, .iload_n 1, 1), (5, .bipush 127, 2), (7, .if_icmp .le 6, 3), (10, .bipush (-2), 2), (12, .ireturn, 1), (13, .aload_n 0, 1), (14, .getfield 12, 3), (17, .getfield 42, 3), (20, .aload_n 0, 1), (21, .getfield 12, 3), (24, .getfield 46, 3), (27, .arraylength, 1), (28, .if_icmp .lt 6, 3), (31, .bipush (-4), 2), (33, .ireturn, 1), (34, .aload_n 0, 1), (35, .getfield 12, 3), (38, .getfield 46, 3), (41, .aload_n 0, 1), (42, .getfield 12, 3), (45, .getfield 42, 3), (48, .iload_n 1, 1), (49, .i2b, 1), (50, .bastore, 1), (51, .aload_n 0, 1), (52, .getfield 12, 3), (55, .dup, 1), (56, .getfield 42, 3), (59, .iconst 1, 1), (60, .iadd, 1), (61, .putfield 42, 3), (64, .aload_n 0, 1), (65, .getfield 12, 3), (68, .getfield 42, 3), (71, .ireturn, 1)]
theorem okX11_feed : okc cX11_feed kX11_feed := okc_of (by decide +kernel)
def kX11_ledge : List Ins := [(0, .aload_n 0, 1), (1, .getfield 12, 3), (4, .getfield 50, 3), (7, .ifCond .lt 18, 3), (10, .aload_n 0, 1), (11, .getfield 12, 3), (14, .getfield 50, 3), (17, .aload_n 0, 1), (18, .getfield 38, 3), (21, .arraylength, 1), (22, .if_icmp .lt 6, 3), (25, .bipush (-4), 2), (27, .ireturn, 1), (28, .aload_n 0, 1), (29, .getfield 38, 3), (32, .aload_n 0, 1), (33, .getfield 12, 3), (36, .getfield 50, 3), (39, .aaload, 1), (40, .aload_n 0, 1), (41, .getfield 12, 3), (44, .getfield 46, 3), (47, .aload_n 0, 1), (48, .getfield 12, 3), (51, .getfield 42, 3), (54, .invokevirtual 52, 3), (57, .istore_n 1, 1), (58, .aload_n 0, 1), (59, .getfield 12, 3), (62, .iconst 0, 1), (63, .putfield 42, 3), (66, .iload_n 1, 1), (67, .ifCond .lt 8, 3), (70, .bipush (-10), 2), (72, .iload_n 1, 1), (73, .isub, 1), (74, .ireturn, 1), (75, .aload_n 0, 1), (76, .getfield 12, 3), (79, .dup, 1), (80, .getfield 50, 3), (83, .iconst 1, 1), (84, .iadd, 1), (85, .putfield 50, 3), (88, .aload_n 0, 1), (89, .getfield 12, 3), (92, .getfield 50, 3), (95, .iconst 1, 1), (96, .isub, 1), (97, .ireturn, 1)]
theorem okX11_ledge : okc cX11_ledge kX11_ledge := okc_of (by decide +kernel)
def kX11_urchin : List Ins := [(0, .iload_n 1, 1), (1, .ifCond .lt 9, 3), (4, .iload_n 1, 1), (5, .bipush 7, 2), (7, .if_icmp .lt 5, 3), (10, .iconst (-1), 1), (11, .ireturn, 1), (12, .iload_n 2, 1), (13, .invokestatic 56, 3), (16, .ifCond .ne 6, 3), (19, .bipush (-2), 2), (21, .ireturn, 1), (22, .aload_n 0, 1), (23, .getfield 12, 3), (26, .iload_n 1, 1), (27, .iload_n 2, 1), (28, .invokevirtual 60, 3), (31, .ireturn, 1)]
theorem okX11_urchin : okc cX11_urchin kX11_urchin := okc_of (by decide +kernel)
def kX11_of : List Ins := [(0, .aload_n 0, 1), (1, .getfield 12, 3), (4, .iload_n 1, 1), (5, .invokevirtual 64, 3), (8, .ifCond .ne 6, 3), (11, .ldc 67, 2), (13, .ireturn, 1), (14, .iload_n 2, 1), (15, .tableswitch 76 0 3 #[29, 39, 49, 59], 29), (44, .aload_n 0, 1), (45, .getfield 12, 3), (48, .getfield 68, 3), (51, .iload_n 1, 1), (52, .iaload, 1), (53, .ireturn, 1), (54, .aload_n 0, 1), (55, .getfield 12, 3), (58, .getfield 72, 3), (61, .iload_n 1, 1), (62, .iaload, 1), (63, .ireturn, 1), (64, .aload_n 0, 1), (65, .getfield 12, 3), (68, .getfield 75, 3), (71, .iload_n 1, 1), (72, .iaload, 1), (73, .ireturn, 1), (74, .aload_n 0, 1), (75, .getfield 12, 3), (78, .iload_n 1, 1), (79, .invokevirtual 78, 3), (82, .ifCond .eq 7, 3), (85, .iconst 1, 1), (86, .goto 4, 3), (89, .iconst 0, 1), (90, .ireturn, 1), (91, .iload_n 2, 1), (92, .i2l, 1), (93, .ldc2_w 81, 3), (96, .lsub, 1), (97, .invokestatic 83, 3), (100, .ifCond .eq 26, 3), (103, .aload_n 0, 1), (104, .getfield 27, 3), (107, .aload_n 0, 1), (108, .getfield 12, 3), (111, .aload_n 0, 1), (112, .invokevirtual 87, 3), (115, .iload_n 1, 1), (116, .iload_n 2, 1), (117, .bipush 10, 2), (119, .isub, 1), (120, .invokevirtual 91, 3), (123, .goto 5, 3), (126, .ldc 67, 2), (128, .ireturn, 1)]
theorem okX11_of : okc cX11_of kX11_of := okc_of (by decide +kernel)
def kX11_row : List Ins := [(0, .aload_n 0, 1), (1, .getfield 12, 3), (4, .iload_n 1, 1), (5, .invokevirtual 64, 3), (8, .ifCond .eq 10, 3), (11, .iload_n 2, 1), (12, .invokestatic 95, 3), (15, .ifCond .ne 5, 3), (18, .iconst (-1), 1), (19, .ireturn, 1), (20, .iload_n 3, 1), (21, .invokestatic 56, 3), (24, .ifCond .ne 6, 3), (27, .bipush (-2), 2), (29, .ireturn, 1), (30, .aload_n 0, 1), (31, .getfield 12, 3), (34, .getfield 68, 3), (37, .iload_n 1, 1), (38, .iaload, 1), (39, .bipush 6, 2), (41, .if_icmp .eq 6, 3), (44, .bipush (-3), 2), (46, .ireturn, 1), (47, .iload_n 1, 1), (48, .iconst 4, 1), (49, .imul, 1), (50, .iload_n 2, 1), (51, .iadd, 1), (52, .istore 4, 2), (54, .aload_n 0, 1), (55, .getfield 12, 3), (58, .getfield 98, 3), (61, .iload 4, 2), (63, .iaload, 1), (64, .istore 5, 2), (66, .aload_n 0, 1), (67, .getfield 12, 3), (70, .getfield 98, 3), (73, .iload 4, 2), (75, .iload_n 3, 1), (76, .iastore, 1), (77, .iload 5, 2), (79, .ireturn, 1)]
theorem okX11_row : okc cX11_row kX11_row := okc_of (by decide +kernel)
def kX11_learn : List Ins := [(0, .aload_n 0, 1), (1, .getfield 12, 3), (4, .iload_n 1, 1), (5, .invokevirtual 64, 3), (8, .ifCond .ne 5, 3), (11, .iconst (-1), 1), (12, .ireturn, 1), (13, .iload_n 2, 1), (14, .invokestatic 101, 3), (17, .ifCond .ne 6, 3), (20, .bipush (-2), 2), (22, .ireturn, 1), (23, .aload_n 0, 1), (24, .getfield 12, 3), (27, .getfield 75, 3), (30, .iload_n 1, 1), (31, .iaload, 1), (32, .istore_n 3, 1), (33, .aload_n 0, 1), (34, .getfield 12, 3), (37, .getfield 75, 3), (40, .iload_n 1, 1), (41, .iload_n 2, 1), (42, .iastore, 1), (43, .iload_n 3, 1), (44, .ireturn, 1)]
theorem okX11_learn : okc cX11_learn kX11_learn := okc_of (by decide +kernel)
def kX11_beach : List Ins := [(0, .aload_n 0, 1), (1, .getfield 12, 3), (4, .iload_n 1, 1), (5, .invokevirtual 64, 3), (8, .ifCond .ne 5, 3), (11, .iconst (-1), 1), (12, .ireturn, 1), (13, .aload_n 0, 1), (14, .getfield 12, 3), (17, .iload_n 1, 1), (18, .invokevirtual 78, 3), (21, .ifCond .eq 7, 3), (24, .iconst 1, 1), (25, .goto 4, 3), (28, .iconst 0, 1), (29, .istore_n 3, 1), (30, .aload_n 0, 1), (31, .getfield 12, 3), (34, .iload_n 1, 1), (35, .iload_n 2, 1), (36, .invokevirtual 104, 3), (39, .iload_n 3, 1), (40, .ireturn, 1)]
theorem okX11_beach : okc cX11_beach kX11_beach := okc_of (by decide +kernel)
def kX11_lesson : List Ins := [(0, .iload_n 1, 1), (1, .invokestatic 95, 3), (4, .ifCond .eq 16, 3), (7, .iload_n 2, 1), (8, .iconst (-1), 1), (9, .if_icmp .eq 13, 3), (12, .iload_n 2, 1), (13, .i2l, 1), (14, .invokestatic 83, 3), (17, .ifCond .ne 5, 3), (20, .iconst (-1), 1), (21, .ireturn, 1), (22, .aload_n 0, 1), (23, .getfield 12, 3), (26, .getfield 108, 3), (29, .iload_n 1, 1), (30, .iaload, 1), (31, .istore_n 3, 1), (32, .aload_n 0, 1), (33, .getfield 12, 3), (36, .getfield 108, 3), (39, .iload_n 1, 1), (40, .iload_n 2, 1), (41, .iconst (-1), 1), (42, .if_icmp .ne 8, 3), (45, .bipush 8, 2), (47, .goto 4, 3), (50, .iload_n 2, 1), (51, .iastore, 1), (52, .iload_n 3, 1), (53, .bipush 8, 2), (55, .if_icmp .ne 8, 3), (58, .bipush (-5), 2), (60, .goto 4, 3), (63, .iload_n 3, 1), (64, .ireturn, 1)]
theorem okX11_lesson : okc cX11_lesson kX11_lesson := okc_of (by decide +kernel)
def kX11_told : List Ins := [(0, .iload_n 1, 1), (1, .tableswitch 99 0 6 #[43, 51, 59, 67, 75, 83, 91], 43), (44, .aload_n 0, 1), (45, .getfield 12, 3), (48, .getfield 111, 3), (51, .ireturn, 1), (52, .aload_n 0, 1), (53, .invokevirtual 87, 3), (56, .getfield 114, 3), (59, .ireturn, 1), (60, .aload_n 0, 1), (61, .invokevirtual 87, 3), (64, .getfield 117, 3), (67, .ireturn, 1), (68, .aload_n 0, 1), (69, .getfield 12, 3), (72, .invokevirtual 120, 3), (75, .ireturn, 1), (76, .aload_n 0, 1), (77, .getfield 12, 3), (80, .invokevirtual 124, 3), (83, .ireturn, 1), (84, .aload_n 0, 1), (85, .getfield 12, 3), (88, .getfield 127, 3), (91, .ireturn, 1), (92, .aload_n 0, 1), (93, .getfield 12, 3), (96, .invokevirtual 130, 3), (99, .ireturn, 1), (100, .aload_n 0, 1), (101, .iload_n 1, 1), (102, .invokevirtual 133, 3), (105, .ireturn, 1)]
theorem okX11_told : okc cX11_told kX11_told := okc_of (by decide +kernel)
def kX11_toldLesson : List Ins := [(0, .iload_n 1, 1), (1, .bipush 10, 2), (3, .if_icmp .lt 9, 3), (6, .iload_n 1, 1), (7, .bipush 14, 2), (9, .if_icmp .lt 5, 3), (12, .iconst (-1), 1), (13, .ireturn, 1), (14, .aload_n 0, 1), (15, .getfield 12, 3), (18, .getfield 108, 3), (21, .iload_n 1, 1), (22, .bipush 10, 2), (24, .isub, 1), (25, .iaload, 1), (26, .istore_n 2, 1), (27, .iload_n 2, 1), (28, .bipush 8, 2), (30, .if_icmp .ne 8, 3), (33, .bipush (-5), 2), (35, .goto 4, 3), (38, .iload_n 2, 1), (39, .ireturn, 1)]
theorem okX11_toldLesson : okc cX11_toldLesson kX11_toldLesson := okc_of (by decide +kernel)
def kX11_pass : List Ins := [(0, .iload_n 1, 1), (1, .invokestatic 137, 3), (4, .ifCond .ne 6, 3), (7, .bipush (-2), 2), (9, .ireturn, 1), (10, .aload_n 0, 1), (11, .getfield 12, 3), (14, .getfield 111, 3), (17, .iload_n 1, 1), (18, .iadd, 1), (19, .sipush 9999, 3), (22, .if_icmp .le 6, 3), (25, .bipush (-3), 2), (27, .ireturn, 1), (28, .aload_n 0, 1), (29, .getfield 27, 3), (32, .invokevirtual 140, 3), (35, .aload_n 0, 1), (36, .aload_n 0, 1), (37, .getfield 12, 3), (40, .iload_n 1, 1), (41, .invokevirtual 143, 3), (44, .aload_n 0, 1), (45, .getfield 12, 3), (48, .getfield 111, 3), (51, .ireturn, 1)]
theorem okX11_pass : okc cX11_pass kX11_pass := okc_of (by decide +kernel)
def kX11_on : List Ins := [(0, .iload_n 2, 1), (1, .bipush 10, 2), (3, .if_icmp .lt 21, 3), (6, .aload_n 0, 1), (7, .getfield 12, 3), (10, .iload_n 2, 1), (11, .bipush 10, 2), (13, .isub, 1), (14, .invokevirtual 64, 3), (17, .ifCond .eq 7, 3), (20, .iconst 1, 1), (21, .goto 4, 3), (24, .iconst 0, 1), (25, .istore_n 3, 1), (26, .iload_n 2, 1), (27, .ifCond .eq 14, 3), (30, .iload_n 2, 1), (31, .iconst 1, 1), (32, .if_icmp .eq 9, 3), (35, .iload_n 3, 1), (36, .ifCond .ne 5, 3), (39, .iconst (-1), 1), (40, .ireturn, 1), (41, .iload_n 1, 1), (42, .invokestatic 137, 3), (45, .ifCond .ne 6, 3), (48, .bipush (-2), 2), (50, .ireturn, 1), (51, .aload_n 0, 1), (52, .getfield 27, 3), (55, .invokevirtual 140, 3), (58, .aload_n 0, 1), (59, .getfield 21, 3), (62, .aload_n 0, 1), (63, .getfield 12, 3), (66, .invokevirtual 147, 3), (69, .aload_n 0, 1), (70, .aload_n 0, 1), (71, .getfield 21, 3), (74, .iload_n 1, 1), (75, .invokevirtual 143, 3), (78, .iload_n 3, 1), (79, .ifCond .eq 16, 3), (82, .aload_n 0, 1), (83, .getfield 21, 3), (86, .getfield 75, 3), (89, .iload_n 2, 1), (90, .bipush 10, 2), (92, .isub, 1), (93, .iaload, 1), (94, .ireturn, 1), (95, .iload_n 2, 1), (96, .ifCond .ne 13, 3), (99, .aload_n 0, 1), (100, .getfield 21, 3), (103, .invokevirtual 120, 3), (106, .goto 10, 3), (109, .aload_n 0, 1), (110, .getfield 21, 3), (113, .invokevirtual 124, 3), (116, .ireturn, 1)]
theorem okX11_on : okc cX11_on kX11_on := okc_of (by decide +kernel)
def kX11_lasts : List Ins := [(0, .iload_n 1, 1), (1, .i2l, 1), (2, .invokestatic 83, 3), (5, .ifCond .ne 5, 3), (8, .iconst (-1), 1), (9, .ireturn, 1), (10, .aload_n 0, 1), (11, .getfield 27, 3), (14, .invokevirtual 140, 3), (17, .aload_n 0, 1), (18, .getfield 21, 3), (21, .aload_n 0, 1), (22, .getfield 12, 3), (25, .invokevirtual 147, 3), (28, .aload_n 0, 1), (29, .iload_n 1, 1), (30, .invokevirtual 151, 3), (33, .istore_n 2, 1), (34, .iload_n 2, 1), (35, .bipush 60, 2), (37, .if_icmp .le 8, 3), (40, .bipush (-5), 2), (42, .goto 4, 3), (45, .iload_n 2, 1), (46, .ireturn, 1)]
theorem okX11_lasts : okc cX11_lasts kX11_lasts := okc_of (by decide +kernel)
def kX11_teach : List Ins := [(0, .iload_n 2, 1), (1, .iconst (-1), 1), (2, .if_icmp .lt 8, 3), (5, .iload_n 2, 1), (6, .iconst 2, 1), (7, .if_icmp .le 5, 3), (10, .iconst (-1), 1), (11, .ireturn, 1), (12, .iload_n 1, 1), (13, .iconst 1, 1), (14, .if_icmp .lt 8, 3), (17, .iload_n 1, 1), (18, .iconst 3, 1), (19, .if_icmp .le 6, 3), (22, .bipush (-2), 2), (24, .ireturn, 1), (25, .iload_n 2, 1), (26, .iload_n 1, 1), (27, .if_icmp .lt 6, 3), (30, .bipush (-5), 2), (32, .ireturn, 1), (33, .aload_n 0, 1), (34, .getfield 27, 3), (37, .invokevirtual 140, 3), (40, .iload_n 1, 1), (41, .iconst 1, 1), (42, .if_icmp .ne 8, 3), (45, .bipush 9, 2), (47, .goto 16, 3), (50, .iload_n 1, 1), (51, .iconst 2, 1), (52, .if_icmp .ne 8, 3), (55, .bipush 81, 2), (57, .goto 6, 3), (60, .sipush 729, 3), (63, .istore_n 3, 1), (64, .iconst (-1), 1), (65, .istore 4, 2), (67, .iconst 0, 1), (68, .istore 5, 2), (70, .iconst 0, 1), (71, .istore 6, 2), (73, .iload 6, 2), (75, .iload_n 3, 1), (76, .if_icmp .ge 33, 3), (79, .aload_n 0, 1), (80, .iload 6, 2), (82, .iload_n 1, 1), (83, .invokevirtual 154, 3), (86, .istore 7, 2), (88, .iload 7, 2), (90, .iload 4, 2), (92, .if_icmp .le 11, 3), (95, .iload 7, 2), (97, .istore 4, 2), (99, .iload 6, 2), (101, .istore 5, 2), (103, .iinc 6 1, 3), (106, .goto (-33), 3), (109, .iload_n 2, 1), (110, .iconst (-1), 1), (111, .if_icmp .ne 8, 3), (114, .iload 4, 2), (116, .goto 10, 3), (119, .iload 5, 2), (121, .iload_n 1, 1), (122, .iload_n 2, 1), (123, .invokestatic 157, 3), (126, .ireturn, 1)]
theorem okX11_teach : okc cX11_teach kX11_teach := okc_of (by decide +kernel)
def kX11_tell : List Ins := [(0, .iload_n 1, 1), (1, .i2l, 1), (2, .invokestatic 83, 3), (5, .ifCond .ne 5, 3), (8, .iconst (-1), 1), (9, .ireturn, 1), (10, .aload_n 0, 1), (11, .getfield 27, 3), (14, .invokevirtual 140, 3), (17, .iconst (-1), 1), (18, .istore_n 2, 1), (19, .bipush (-5), 2), (21, .istore_n 3, 1), (22, .iconst 0, 1), (23, .istore 4, 2), (25, .iload 4, 2), (27, .aload_n 0, 1), (28, .getfield 12, 3), (31, .getfield 161, 3), (34, .if_icmp .ge 53, 3), (37, .iload 4, 2), (39, .bipush 6, 2), (41, .if_icmp .ge 46, 3), (44, .aload_n 0, 1), (45, .getfield 12, 3), (48, .iload 4, 2), (50, .invokevirtual 78, 3), (53, .ifCond .eq 7, 3), (56, .iconst (-1), 1), (57, .goto 10, 3), (60, .aload_n 0, 1), (61, .iload 4, 2), (63, .iload_n 1, 1), (64, .invokevirtual 164, 3), (67, .istore 5, 2), (69, .iload 5, 2), (71, .iload_n 2, 1), (72, .if_icmp .le 9, 3), (75, .iload 5, 2), (77, .istore_n 2, 1), (78, .iload 4, 2), (80, .istore_n 3, 1), (81, .iinc 4 1, 3), (84, .goto (-59), 3), (87, .iload_n 3, 1), (88, .ireturn, 1)]
theorem okX11_tell : okc cX11_tell kX11_tell := okc_of (by decide +kernel)
def kX11_tidesIfTold : List Ins := [(0, .aload_n 0, 1), (1, .getfield 21, 3), (4, .aload_n 0, 1), (5, .getfield 12, 3), (8, .invokevirtual 147, 3), (11, .aload_n 0, 1), (12, .getfield 21, 3), (15, .iload_n 1, 1), (16, .iload_n 2, 1), (17, .invokevirtual 167, 3), (20, .aload_n 0, 1), (21, .iload_n 2, 1), (22, .invokevirtual 151, 3), (25, .ireturn, 1)]
theorem okX11_tidesIfTold : okc cX11_tidesIfTold kX11_tidesIfTold := okc_of (by decide +kernel)
def kX11_tidesAheadWith : List Ins := [(0, .aload_n 0, 1), (1, .invokevirtual 87, 3), (4, .astore_n 2, 1), (5, .iconst 0, 1), (6, .istore_n 3, 1), (7, .iload_n 3, 1), (8, .bipush 60, 2), (10, .if_icmp .gt 44, 3), (13, .aload_n 0, 1), (14, .getfield 21, 3), (17, .invokevirtual 120, 3), (20, .iconst 1, 1), (21, .iload_n 1, 1), (22, .ishl, 1), (23, .iand, 1), (24, .ifCond .ne 5, 3), (27, .iload_n 3, 1), (28, .ireturn, 1), (29, .aload_n 0, 1), (30, .getfield 21, 3), (33, .aload_n 0, 1), (34, .getfield 27, 3), (37, .aload_n 2, 1), (38, .aload_n 0, 1), (39, .getfield 21, 3), (42, .invokevirtual 171, 3), (45, .invokevirtual 174, 3), (48, .iinc 3 1, 3), (51, .goto (-44), 3), (54, .bipush 61, 2), (56, .ireturn, 1)]
theorem okX11_tidesAheadWith : okc cX11_tidesAheadWith kX11_tidesAheadWith := okc_of (by decide +kernel)
def kX11_heldIfTaught : List Ins := [(0, .aload_n 0, 1), (1, .invokevirtual 87, 3), (4, .astore_n 3, 1), (5, .aload_n 0, 1), (6, .getfield 21, 3), (9, .aload_n 0, 1), (10, .getfield 12, 3), (13, .invokevirtual 147, 3), (16, .iconst 0, 1), (17, .istore 4, 2), (19, .iload 4, 2), (21, .iload_n 2, 1), (22, .if_icmp .ge 28, 3), (25, .aload_n 0, 1), (26, .getfield 21, 3), (29, .aload_n 0, 1), (30, .getfield 27, 3), (33, .aload_n 3, 1), (34, .iload_n 1, 1), (35, .iload_n 2, 1), (36, .iload 4, 2), (38, .invokestatic 157, 3), (41, .invokevirtual 174, 3), (44, .iinc 4 1, 3), (47, .goto (-28), 3), (50, .aload_n 0, 1), (51, .getfield 21, 3), (54, .invokevirtual 124, 3), (57, .ireturn, 1)]
theorem okX11_heldIfTaught : okc cX11_heldIfTaught kX11_heldIfTaught := okc_of (by decide +kernel)
def kX11_taughtAt : List Ins := [(0, .iload_n 0, 1), (1, .istore_n 3, 1), (2, .iload_n 1, 1), (3, .iconst 1, 1), (4, .isub, 1), (5, .istore 4, 2), (7, .iload 4, 2), (9, .iload_n 2, 1), (10, .if_icmp .le 14, 3), (13, .iload_n 3, 1), (14, .bipush 9, 2), (16, .idiv, 1), (17, .istore_n 3, 1), (18, .iinc 4 (-1), 3), (21, .goto (-14), 3), (24, .iload_n 3, 1), (25, .bipush 9, 2), (27, .irem, 1), (28, .ireturn, 1)]
theorem okX11_taughtAt : okc cX11_taughtAt kX11_taughtAt := okc_of (by decide +kernel)
def kX11_see : List Ins := [(0, .iload_n 1, 1), (1, .iconst (-1), 1), (2, .if_icmp .ne 14, 3), (5, .aload_n 0, 1), (6, .getfield 12, 3), (9, .getfield 178, 3), (12, .invokevirtual 182, 3), (15, .ireturn, 1), (16, .aload_n 0, 1), (17, .getfield 12, 3), (20, .iload_n 1, 1), (21, .invokevirtual 64, 3), (24, .ifCond .eq 11, 3), (27, .iload_n 3, 1), (28, .i2l, 1), (29, .invokestatic 83, 3), (32, .ifCond .ne 5, 3), (35, .iconst (-1), 1), (36, .ireturn, 1), (37, .iload_n 2, 1), (38, .ifCond .lt 9, 3), (41, .iload_n 2, 1), (42, .bipush 12, 2), (44, .if_icmp .le 6, 3), (47, .bipush (-2), 2), (49, .ireturn, 1), (50, .aload_n 0, 1), (51, .getfield 12, 3), (54, .getfield 178, 3), (57, .iload_n 1, 1), (58, .iload_n 2, 1), (59, .iload_n 3, 1), (60, .iload 4, 2), (62, .ifCond .eq 7, 3), (65, .iconst 1, 1), (66, .goto 4, 3), (69, .iconst 0, 1), (70, .invokevirtual 187, 3), (73, .ireturn, 1)]
theorem okX11_see : okc cX11_see kX11_see := okc_of (by decide +kernel)
def kX11_knew : List Ins := [(0, .aload_n 0, 1), (1, .getfield 12, 3), (4, .iload_n 1, 1), (5, .invokevirtual 64, 3), (8, .ifCond .eq 10, 3), (11, .iload_n 2, 1), (12, .invokestatic 191, 3), (15, .ifCond .ne 5, 3), (18, .iconst (-1), 1), (19, .ireturn, 1), (20, .aload_n 0, 1), (21, .getfield 27, 3), (24, .invokevirtual 140, 3), (27, .iconst 0, 1), (28, .istore_n 3, 1), (29, .bipush (-5), 2), (31, .istore 4, 2), (33, .sipush 255, 3), (36, .istore 5, 2), (38, .iload 5, 2), (40, .ifCond .lt 45, 3), (43, .aload_n 0, 1), (44, .getfield 21, 3), (47, .aload_n 0, 1), (48, .getfield 12, 3), (51, .invokevirtual 147, 3), (54, .aload_n 0, 1), (55, .getfield 21, 3), (58, .getfield 75, 3), (61, .iload_n 1, 1), (62, .iload 5, 2), (64, .iastore, 1), (65, .aload_n 0, 1), (66, .invokevirtual 194, 3), (69, .ifCond .eq 10, 3), (72, .iinc 3 1, 3), (75, .iload 5, 2), (77, .istore 4, 2), (79, .iinc 5 (-1), 3), (82, .goto (-44), 3), (85, .iload_n 2, 1), (86, .ifCond .ne 7, 3), (89, .iload_n 3, 1), (90, .goto 5, 3), (93, .iload 4, 2), (95, .ireturn, 1)]
theorem okX11_knew : okc cX11_knew kX11_knew := okc_of (by decide +kernel)
def kX11_firm : List Ins := [(0, .aload_n 0, 1), (1, .getfield 12, 3), (4, .iload_n 1, 1), (5, .invokevirtual 64, 3), (8, .ifCond .eq 10, 3), (11, .iload_n 2, 1), (12, .invokestatic 191, 3), (15, .ifCond .ne 5, 3), (18, .iconst (-1), 1), (19, .ireturn, 1), (20, .iconst 0, 1), (21, .istore_n 3, 1), (22, .bipush (-5), 2), (24, .istore 4, 2), (26, .bipush 9, 2), (28, .istore 5, 2), (30, .iload 5, 2), (32, .ifCond .lt 52, 3), (35, .aload_n 0, 1), (36, .getfield 27, 3), (39, .invokevirtual 140, 3), (42, .aload_n 0, 1), (43, .getfield 21, 3), (46, .aload_n 0, 1), (47, .getfield 12, 3), (50, .invokevirtual 147, 3), (53, .aload_n 0, 1), (54, .getfield 21, 3), (57, .getfield 72, 3), (60, .iload_n 1, 1), (61, .iload 5, 2), (63, .iastore, 1), (64, .aload_n 0, 1), (65, .invokevirtual 194, 3), (68, .ifCond .eq 10, 3), (71, .iinc 3 1, 3), (74, .iload 5, 2), (76, .istore 4, 2), (78, .iinc 5 (-1), 3), (81, .goto (-51), 3), (84, .iload_n 2, 1), (85, .ifCond .ne 7, 3), (88, .iload_n 3, 1), (89, .goto 5, 3), (92, .iload 4, 2), (94, .ireturn, 1)]
theorem okX11_firm : okc cX11_firm kX11_firm := okc_of (by decide +kernel)
def kX11_seenIsSo : List Ins := [(0, .aload_n 0, 1), (1, .invokevirtual 87, 3), (4, .astore_n 1, 1), (5, .aload_n 0, 1), (6, .getfield 12, 3), (9, .invokevirtual 198, 3), (12, .istore_n 2, 1), (13, .iconst 0, 1), (14, .istore_n 3, 1), (15, .iload_n 3, 1), (16, .iload_n 2, 1), (17, .if_icmp .gt 52, 3), (20, .iload_n 3, 1), (21, .ifCond .le 22, 3), (24, .aload_n 0, 1), (25, .getfield 21, 3), (28, .aload_n 0, 1), (29, .getfield 27, 3), (32, .aload_n 1, 1), (33, .aload_n 0, 1), (34, .getfield 21, 3), (37, .invokevirtual 171, 3), (40, .invokevirtual 174, 3), (43, .aload_n 0, 1), (44, .getfield 21, 3), (47, .aload_n 0, 1), (48, .getfield 12, 3), (51, .getfield 178, 3), (54, .iload_n 3, 1), (55, .invokevirtual 201, 3), (58, .ifCond .ne 5, 3), (61, .iconst 0, 1), (62, .ireturn, 1), (63, .iinc 3 1, 3), (66, .goto (-51), 3), (69, .iconst 1, 1), (70, .ireturn, 1)]
theorem okX11_seenIsSo : okc cX11_seenIsSo kX11_seenIsSo := okc_of (by decide +kernel)
def kX11_odds : List Ins := [(0, .iload_n 1, 1), (1, .i2l, 1), (2, .invokestatic 83, 3), (5, .ifCond .eq 17, 3), (8, .iload_n 2, 1), (9, .invokestatic 137, 3), (12, .ifCond .eq 10, 3), (15, .iload_n 3, 1), (16, .invokestatic 191, 3), (19, .ifCond .ne 7, 3), (22, .ldc2_w 205, 3), (25, .lreturn, 1), (26, .aload_n 0, 1), (27, .getfield 27, 3), (30, .invokevirtual 140, 3), (33, .iconst 0, 1), (34, .istore 4, 2), (36, .iconst 0, 1), (37, .istore 5, 2), (39, .iload 5, 2), (41, .aload_n 0, 1), (42, .getfield 12, 3), (45, .getfield 161, 3), (48, .if_icmp .ge 75, 3), (51, .iload 5, 2), (53, .bipush 6, 2), (55, .if_icmp .ge 68, 3), (58, .aload_n 0, 1), (59, .getfield 12, 3), (62, .iload 5, 2), (64, .invokevirtual 78, 3), (67, .ifCond .ne 50, 3), (70, .aload_n 0, 1), (71, .getfield 21, 3), (74, .aload_n 0, 1), (75, .getfield 12, 3), (78, .invokevirtual 147, 3), (81, .aload_n 0, 1), (82, .getfield 21, 3), (85, .getfield 75, 3), (88, .iload 5, 2), (90, .iconst 0, 1), (91, .iastore, 1), (92, .aload_n 0, 1), (93, .aload_n 0, 1), (94, .getfield 21, 3), (97, .iload_n 2, 1), (98, .invokevirtual 143, 3), (101, .iload 4, 2), (103, .aload_n 0, 1), (104, .getfield 21, 3), (107, .invokevirtual 120, 3), (110, .iload_n 1, 1), (111, .ishr, 1), (112, .iconst 1, 1), (113, .iand, 1), (114, .iadd, 1), (115, .istore 4, 2), (117, .iinc 5 1, 3), (120, .goto (-81), 3), (123, .iload 4, 2), (125, .aload_n 0, 1), (126, .getfield 12, 3), (129, .invokevirtual 207, 3), (132, .iload_n 3, 1), (133, .invokestatic 210, 3), (136, .lreturn, 1)]
theorem okX11_odds : okc cX11_odds kX11_odds := okc_of (by decide +kernel)
def kX11_mean : List Ins := [(0, .iload_n 1, 1), (1, .invokestatic 191, 3), (4, .ifCond .eq 24, 3), (7, .aload_n 0, 1), (8, .getfield 12, 3), (11, .invokevirtual 124, 3), (14, .aload_n 0, 1), (15, .getfield 12, 3), (18, .invokevirtual 207, 3), (21, .iload_n 1, 1), (22, .invokestatic 210, 3), (25, .goto 6, 3), (28, .ldc2_w 205, 3), (31, .lreturn, 1)]
theorem okX11_mean : okc cX11_mean kX11_mean := okc_of (by decide +kernel)
def kX11_lowest : List Ins := [(0, .iload_n 1, 1), (1, .ifCond .gt 7, 3), (4, .ldc2_w 205, 3), (7, .lreturn, 1), (8, .iload_n 1, 1), (9, .istore_n 3, 1), (10, .iload_n 0, 1), (11, .istore 4, 2), (13, .iconst 0, 1), (14, .istore 5, 2), (16, .iload 5, 2), (18, .bipush 100, 2), (20, .if_icmp .ge 27, 3), (23, .iload 4, 2), (25, .ifCond .le 22, 3), (28, .iload_n 3, 1), (29, .iload 4, 2), (31, .irem, 1), (32, .istore 6, 2), (34, .iload 4, 2), (36, .istore_n 3, 1), (37, .iload 6, 2), (39, .istore 4, 2), (41, .iinc 5 1, 3), (44, .goto (-28), 3), (47, .iload_n 3, 1), (48, .ifCond .gt 7, 3), (51, .ldc2_w 205, 3), (54, .lreturn, 1), (55, .iload_n 2, 1), (56, .ifCond .ne 10, 3), (59, .iload_n 0, 1), (60, .iload_n 3, 1), (61, .idiv, 1), (62, .i2l, 1), (63, .goto 7, 3), (66, .iload_n 1, 1), (67, .iload_n 3, 1), (68, .idiv, 1), (69, .i2l, 1), (70, .lreturn, 1)]
theorem okX11_lowest : okc cX11_lowest kX11_lowest := okc_of (by decide +kernel)
def kX11_plan : List Ins := [(0, .iload_n 1, 1), (1, .iconst (-1), 1), (2, .if_icmp .ne 14, 3), (5, .aload_n 0, 1), (6, .getfield 12, 3), (9, .getfield 214, 3), (12, .invokevirtual 182, 3), (15, .ireturn, 1), (16, .aload_n 0, 1), (17, .iload_n 1, 1), (18, .iload_n 2, 1), (19, .invokevirtual 217, 3), (22, .ifCond .ne 5, 3), (25, .iconst (-1), 1), (26, .ireturn, 1), (27, .aload_n 0, 1), (28, .getfield 12, 3), (31, .getfield 214, 3), (34, .iload_n 1, 1), (35, .iload_n 2, 1), (36, .iconst 0, 1), (37, .iconst 0, 1), (38, .invokevirtual 187, 3), (41, .ireturn, 1)]
theorem okX11_plan : okc cX11_plan kX11_plan := okc_of (by decide +kernel)
def kX11_isPlan : List Ins := [(0, .iload_n 1, 1), (1, .tableswitch 77 0 3 #[31, 33, 33, 42], 31), (32, .iconst 1, 1), (33, .ireturn, 1), (34, .aload_n 0, 1), (35, .getfield 12, 3), (38, .iload_n 2, 1), (39, .invokevirtual 64, 3), (42, .ireturn, 1), (43, .iload_n 2, 1), (44, .ifCond .lt 32, 3), (47, .aload_n 0, 1), (48, .getfield 12, 3), (51, .iload_n 2, 1), (52, .bipush 10, 2), (54, .idiv, 1), (55, .invokevirtual 64, 3), (58, .ifCond .eq 18, 3), (61, .iload_n 2, 1), (62, .bipush 10, 2), (64, .irem, 1), (65, .i2l, 1), (66, .invokestatic 83, 3), (69, .ifCond .eq 7, 3), (72, .iconst 1, 1), (73, .goto 4, 3), (76, .iconst 0, 1), (77, .ireturn, 1), (78, .iconst 0, 1), (79, .ireturn, 1)]
theorem okX11_isPlan : okc cX11_isPlan kX11_isPlan := okc_of (by decide +kernel)
def kX11_done : List Ins := [(0, .iload_n 1, 1), (1, .invokestatic 191, 3), (4, .ifCond .ne 5, 3), (7, .iconst (-1), 1), (8, .ireturn, 1), (9, .aload_n 0, 1), (10, .getfield 27, 3), (13, .invokevirtual 140, 3), (16, .aload_n 0, 1), (17, .getfield 21, 3), (20, .aload_n 0, 1), (21, .getfield 12, 3), (24, .invokevirtual 147, 3), (27, .iconst 0, 1), (28, .istore_n 2, 1), (29, .iload_n 2, 1), (30, .aload_n 0, 1), (31, .getfield 12, 3), (34, .getfield 214, 3), (37, .getfield 221, 3), (40, .if_icmp .ge 37, 3), (43, .aload_n 0, 1), (44, .aload_n 0, 1), (45, .getfield 12, 3), (48, .getfield 214, 3), (51, .iload_n 2, 1), (52, .iconst 0, 1), (53, .invokevirtual 222, 3), (56, .aload_n 0, 1), (57, .getfield 12, 3), (60, .getfield 214, 3), (63, .iload_n 2, 1), (64, .iconst 1, 1), (65, .invokevirtual 222, 3), (68, .invokevirtual 225, 3), (71, .iinc 2 1, 3), (74, .goto (-45), 3), (77, .iload_n 1, 1), (78, .ifCond .ne 13, 3), (81, .aload_n 0, 1), (82, .getfield 21, 3), (85, .invokevirtual 120, 3), (88, .goto 10, 3), (91, .aload_n 0, 1), (92, .getfield 21, 3), (95, .invokevirtual 124, 3), (98, .ireturn, 1)]
theorem okX11_done : okc cX11_done kX11_done := okc_of (by decide +kernel)
def kX11_doPlanned : List Ins := [(0, .iload_n 1, 1), (1, .ifCond .ne 15, 3), (4, .aload_n 0, 1), (5, .aload_n 0, 1), (6, .getfield 21, 3), (9, .iconst 1, 1), (10, .invokevirtual 143, 3), (13, .goto 44, 3), (16, .iload_n 1, 1), (17, .iconst 3, 1), (18, .if_icmp .ne 21, 3), (21, .aload_n 0, 1), (22, .getfield 21, 3), (25, .iload_n 2, 1), (26, .bipush 10, 2), (28, .idiv, 1), (29, .iload_n 2, 1), (30, .bipush 10, 2), (32, .irem, 1), (33, .invokevirtual 167, 3), (36, .goto 21, 3), (39, .aload_n 0, 1), (40, .getfield 21, 3), (43, .iload_n 2, 1), (44, .iload_n 1, 1), (45, .iconst 1, 1), (46, .if_icmp .ne 7, 3), (49, .iconst 1, 1), (50, .goto 4, 3), (53, .iconst 0, 1), (54, .invokevirtual 104, 3), (57, .return_, 1)]
theorem okX11_doPlanned : okc cX11_doPlanned kX11_doPlanned := okc_of (by decide +kernel)
def kX11_book : List Ins := [(0, .iload_n 1, 1), (1, .iconst (-1), 1), (2, .if_icmp .ne 14, 3), (5, .aload_n 0, 1), (6, .getfield 12, 3), (9, .getfield 228, 3), (12, .invokevirtual 182, 3), (15, .ireturn, 1), (16, .aload_n 0, 1), (17, .getfield 12, 3), (20, .iload_n 1, 1), (21, .invokevirtual 64, 3), (24, .ifCond .ne 5, 3), (27, .iconst (-1), 1), (28, .ireturn, 1), (29, .iload_n 2, 1), (30, .invokestatic 101, 3), (33, .ifCond .ne 6, 3), (36, .bipush (-2), 2), (38, .ireturn, 1), (39, .aload_n 0, 1), (40, .getfield 12, 3), (43, .getfield 228, 3), (46, .iload_n 1, 1), (47, .iload_n 2, 1), (48, .iconst 0, 1), (49, .iconst 0, 1), (50, .invokevirtual 187, 3), (53, .ireturn, 1)]
theorem okX11_book : okc cX11_book kX11_book := okc_of (by decide +kernel)
def kX11_looked : List Ins := [(0, .iconst 0, 1), (1, .istore_n 1, 1), (2, .iload_n 1, 1), (3, .aload_n 0, 1), (4, .getfield 12, 3), (7, .getfield 228, 3), (10, .getfield 221, 3), (13, .if_icmp .ge 59, 3), (16, .aload_n 0, 1), (17, .getfield 12, 3), (20, .getfield 228, 3), (23, .iload_n 1, 1), (24, .iconst 0, 1), (25, .invokevirtual 222, 3), (28, .istore_n 2, 1), (29, .aload_n 0, 1), (30, .getfield 12, 3), (33, .iload_n 2, 1), (34, .invokevirtual 64, 3), (37, .ifCond .eq 29, 3), (40, .aload_n 0, 1), (41, .getfield 12, 3), (44, .getfield 75, 3), (47, .iload_n 2, 1), (48, .iaload, 1), (49, .aload_n 0, 1), (50, .getfield 12, 3), (53, .getfield 228, 3), (56, .iload_n 1, 1), (57, .iconst 1, 1), (58, .invokevirtual 222, 3), (61, .if_icmp .eq 5, 3), (64, .iload_n 1, 1), (65, .ireturn, 1), (66, .iinc 1 1, 3), (69, .goto (-67), 3), (72, .bipush (-5), 2), (74, .ireturn, 1)]
theorem okX11_looked : okc cX11_looked kX11_looked := okc_of (by decide +kernel)
def kX11_act : List Ins := [(0, .aload_n 0, 1), (1, .aconst_null, 1), (2, .putfield 231, 3), (5, .aload_n 0, 1), (6, .getfield 12, 3), (9, .iload_n 1, 1), (10, .invokevirtual 64, 3), (13, .ifCond .eq 12, 3), (16, .iload_n 2, 1), (17, .ifCond .lt 8, 3), (20, .iload_n 2, 1), (21, .iconst 2, 1), (22, .if_icmp .le 5, 3), (25, .iconst 0, 1), (26, .ireturn, 1), (27, .aload_n 0, 1), (28, .getfield 27, 3), (31, .aload_n 0, 1), (32, .getfield 12, 3), (35, .getfield 68, 3), (38, .iload_n 1, 1), (39, .iaload, 1), (40, .invokevirtual 235, 3), (43, .astore 4, 2), (45, .aload 4, 2), (47, .iload_n 1, 1), (48, .aload_n 0, 1), (49, .getfield 12, 3), (52, .getfield 72, 3), (55, .iload_n 1, 1), (56, .iaload, 1), (57, .invokevirtual 239, 3), (60, .aload_n 0, 1), (61, .aload 4, 2), (63, .putfield 231, 3), (66, .iload_n 2, 1), (67, .ifCond .ne 10, 3), (70, .aload 4, 2), (72, .iload_n 3, 1), (73, .invokevirtual 244, 3), (76, .ireturn, 1), (77, .iload_n 2, 1), (78, .iconst 1, 1), (79, .if_icmp .ne 12, 3), (82, .aload 4, 2), (84, .iload_n 3, 1), (85, .invokevirtual 247, 3), (88, .goto 9, 3), (91, .aload 4, 2), (93, .iload_n 3, 1), (94, .invokevirtual 250, 3), (97, .ireturn, 1)]
theorem okX11_act : okc cX11_act kX11_act := okc_of (by decide +kernel)
def kX11_trace : List Ins := [(0, .aload_n 0, 1), (1, .getfield 231, 3), (4, .ifnonnull 7, 3), (7, .iconst (-1), 1), (8, .goto 11, 3), (11, .aload_n 0, 1), (12, .getfield 231, 3), (15, .iload_n 1, 1), (16, .invokevirtual 253, 3), (19, .ireturn, 1)]
theorem okX11_trace : okc cX11_trace kX11_trace := okc_of (by decide +kernel)
def kX11_as : List Ins := [(0, .aload_n 0, 1), (1, .getfield 12, 3), (4, .iload_n 1, 1), (5, .invokevirtual 64, 3), (8, .ifCond .eq 13, 3), (11, .iload_n 2, 1), (12, .ifCond .lt 9, 3), (15, .iload_n 2, 1), (16, .bipush 7, 2), (18, .if_icmp .lt 5, 3), (21, .iconst (-1), 1), (22, .ireturn, 1), (23, .aload_n 0, 1), (24, .getfield 12, 3), (27, .getfield 68, 3), (30, .iload_n 1, 1), (31, .iaload, 1), (32, .istore_n 3, 1), (33, .iconst 0, 1), (34, .istore 4, 2), (36, .iload 4, 2), (38, .bipush 7, 2), (40, .if_icmp .ge 42, 3), (43, .iload_n 3, 1), (44, .ifCond .lt 38, 3), (47, .iload_n 3, 1), (48, .getstatic 256, 3), (51, .arraylength, 1), (52, .if_icmp .ge 30, 3), (55, .iload_n 3, 1), (56, .iload_n 2, 1), (57, .if_icmp .ne 13, 3), (60, .aload_n 0, 1), (61, .getfield 12, 3), (64, .getfield 72, 3), (67, .iload_n 1, 1), (68, .iaload, 1), (69, .ireturn, 1), (70, .getstatic 256, 3), (73, .iload_n 3, 1), (74, .iaload, 1), (75, .istore_n 3, 1), (76, .iinc 4 1, 3), (79, .goto (-43), 3), (82, .bipush (-6), 2), (84, .ireturn, 1)]
theorem okX11_as : okc cX11_as kX11_as := okc_of (by decide +kernel)
def kX11_image : List Ins := [(0, .aload_n 0, 1), (1, .getfield 18, 3), (4, .aload_n 0, 1), (5, .getfield 12, 3), (8, .invokevirtual 259, 3), (11, .aload_n 0, 1), (12, .iconst 1, 1), (13, .putfield 262, 3), (16, .aload_n 0, 1), (17, .getfield 12, 3), (20, .getfield 161, 3), (23, .ireturn, 1)]
theorem okX11_image : okc cX11_image kX11_image := okc_of (by decide +kernel)
def kX11_undo : List Ins := [(0, .aload_n 0, 1), (1, .getfield 262, 3), (4, .ifCond .ne 6, 3), (7, .bipush (-3), 2), (9, .ireturn, 1), (10, .aload_n 0, 1), (11, .getfield 12, 3), (14, .aload_n 0, 1), (15, .getfield 18, 3), (18, .invokevirtual 259, 3), (21, .aload_n 0, 1), (22, .getfield 12, 3), (25, .getfield 161, 3), (28, .ireturn, 1)]
theorem okX11_undo : okc cX11_undo kX11_undo := okc_of (by decide +kernel)
def kX11_count : List Ins := [(0, .iload_n 1, 1), (1, .tableswitch 119 0 6 #[43, 51, 59, 70, 81, 92, 100], 43), (44, .aload_n 0, 1), (45, .getfield 12, 3), (48, .getfield 161, 3), (51, .ireturn, 1), (52, .aload_n 0, 1), (53, .getfield 12, 3), (56, .getfield 50, 3), (59, .ireturn, 1), (60, .aload_n 0, 1), (61, .getfield 12, 3), (64, .getfield 178, 3), (67, .getfield 221, 3), (70, .ireturn, 1), (71, .aload_n 0, 1), (72, .getfield 12, 3), (75, .getfield 214, 3), (78, .getfield 221, 3), (81, .ireturn, 1), (82, .aload_n 0, 1), (83, .getfield 12, 3), (86, .getfield 228, 3), (89, .getfield 221, 3), (92, .ireturn, 1), (93, .aload_n 0, 1), (94, .getfield 12, 3), (97, .getfield 42, 3), (100, .ireturn, 1), (101, .aload_n 0, 1), (102, .getfield 231, 3), (105, .ifnonnull 7, 3), (108, .iconst 0, 1), (109, .goto 10, 3), (112, .aload_n 0, 1), (113, .getfield 231, 3), (116, .getfield 266, 3), (119, .ireturn, 1), (120, .iconst (-1), 1), (121, .ireturn, 1)]
theorem okX11_count : okc cX11_count kX11_count := okc_of (by decide +kernel)
def kX11_holding : List Ins := [(0, .aload_n 0, 1), (1, .getfield 12, 3), (4, .getfield 50, 3), (7, .iconst 1, 1), (8, .isub, 1), (9, .istore_n 1, 1), (10, .iload_n 1, 1), (11, .ifCond .lt 21, 3), (14, .iload_n 1, 1), (15, .aload_n 0, 1), (16, .getfield 38, 3), (19, .arraylength, 1), (20, .if_icmp .ge 12, 3), (23, .aload_n 0, 1), (24, .getfield 38, 3), (27, .iload_n 1, 1), (28, .aaload, 1), (29, .goto 7, 3), (32, .aload_n 0, 1), (33, .getfield 34, 3), (36, .areturn, 1)]
theorem okX11_holding : okc cX11_holding kX11_holding := okc_of (by decide +kernel)
def kX11_go : List Ins := [(0, .aload_n 0, 1), (1, .invokevirtual 87, 3), (4, .astore_n 3, 1), (5, .iconst 0, 1), (6, .istore 4, 2), (8, .iload 4, 2), (10, .iload_n 2, 1), (11, .if_icmp .ge 22, 3), (14, .aload_n 1, 1), (15, .aload_n 0, 1), (16, .getfield 27, 3), (19, .aload_n 3, 1), (20, .aload_n 1, 1), (21, .invokevirtual 171, 3), (24, .invokevirtual 174, 3), (27, .iinc 4 1, 3), (30, .goto (-22), 3), (33, .return_, 1)]
theorem okX11_go : okc cX11_go kX11_go := okc_of (by decide +kernel)
def kX11_isFact : List Ins := [(0, .lload_n 0, 1), (1, .lconst 0, 1), (2, .lcmp, 1), (3, .ifCond .lt 15, 3), (6, .lload_n 0, 1), (7, .ldc2_w 269, 3), (10, .lcmp, 1), (11, .ifCond .ge 7, 3), (14, .iconst 1, 1), (15, .goto 4, 3), (18, .iconst 0, 1), (19, .ireturn, 1)]
theorem okX11_isFact : okc cX11_isFact kX11_isFact := okc_of (by decide +kernel)
def kX11_isSet : List Ins := [(0, .iload_n 0, 1), (1, .ifCond .lt 14, 3), (4, .iload_n 0, 1), (5, .sipush 255, 3), (8, .if_icmp .gt 7, 3), (11, .iconst 1, 1), (12, .goto 4, 3), (15, .iconst 0, 1), (16, .ireturn, 1)]
theorem okX11_isSet : okc cX11_isSet kX11_isSet := okc_of (by decide +kernel)
def kX11_isNumber : List Ins := [(0, .iload_n 0, 1), (1, .ifCond .lt 13, 3), (4, .iload_n 0, 1), (5, .bipush 9, 2), (7, .if_icmp .gt 7, 3), (10, .iconst 1, 1), (11, .goto 4, 3), (14, .iconst 0, 1), (15, .ireturn, 1)]
theorem okX11_isNumber : okc cX11_isNumber kX11_isNumber := okc_of (by decide +kernel)
def kX11_isLesson : List Ins := [(0, .iload_n 0, 1), (1, .ifCond .lt 12, 3), (4, .iload_n 0, 1), (5, .iconst 4, 1), (6, .if_icmp .ge 7, 3), (9, .iconst 1, 1), (10, .goto 4, 3), (13, .iconst 0, 1), (14, .ireturn, 1)]
theorem okX11_isLesson : okc cX11_isLesson kX11_isLesson := okc_of (by decide +kernel)
def kX11_areTides : List Ins := [(0, .iload_n 0, 1), (1, .ifCond .lt 13, 3), (4, .iload_n 0, 1), (5, .bipush 60, 2), (7, .if_icmp .gt 7, 3), (10, .iconst 1, 1), (11, .goto 4, 3), (14, .iconst 0, 1), (15, .ireturn, 1)]
theorem okX11_areTides : okc cX11_areTides kX11_areTides := okc_of (by decide +kernel)
def kX11_isPart : List Ins := [(0, .iload_n 0, 1), (1, .ifCond .eq 8, 3), (4, .iload_n 0, 1), (5, .iconst 1, 1), (6, .if_icmp .ne 7, 3), (9, .iconst 1, 1), (10, .goto 4, 3), (13, .iconst 0, 1), (14, .ireturn, 1)]
theorem okX11_isPart : okc cX11_isPart kX11_isPart := okc_of (by decide +kernel)
def kX12_in : List Ins := [(0, .iload_n 0, 1), (1, .iload_n 1, 1), (2, .if_icmp .lt 12, 3), (5, .iload_n 0, 1), (6, .iload_n 2, 1), (7, .if_icmp .gt 7, 3), (10, .iconst 1, 1), (11, .goto 4, 3), (14, .iconst 0, 1), (15, .ireturn, 1)]
theorem okX12_in : okc cX12_in kX12_in := okc_of (by decide +kernel)
def kX12_isUrchin : List Ins := [(0, .iload_n 1, 1), (1, .iconst 0, 1), (2, .aload_n 0, 1), (3, .getfield 9, 3), (6, .bipush 17, 2), (8, .iaload, 1), (9, .iconst 1, 1), (10, .isub, 1), (11, .invokestatic 44, 3), (14, .ireturn, 1)]
theorem okX12_isUrchin : okc cX12_isUrchin kX12_isUrchin := okc_of (by decide +kernel)
def kX12_isFact : List Ins := [(0, .iload_n 0, 1), (1, .iconst 0, 1), (2, .bipush 7, 2), (4, .invokestatic 44, 3), (7, .ireturn, 1)]
theorem okX12_isFact : okc cX12_isFact kX12_isFact := okc_of (by decide +kernel)
def kX12_keeps : List Ins := [(0, .iconst 0, 1), (1, .istore_n 1, 1), (2, .iload_n 1, 1), (3, .bipush 17, 2), (5, .if_icmp .ge 21, 3), (8, .aload_n 0, 1), (9, .getfield 18, 3), (12, .iload_n 1, 1), (13, .aload_n 0, 1), (14, .getfield 9, 3), (17, .iload_n 1, 1), (18, .iaload, 1), (19, .iastore, 1), (20, .iinc 1 1, 3), (23, .goto (-21), 3), (26, .return_, 1)]
theorem okX12_keeps : okc cX12_keeps kX12_keeps := okc_of (by decide +kernel)
def kX12_goesBack : List Ins := [(0, .iconst 0, 1), (1, .istore_n 1, 1), (2, .iload_n 1, 1), (3, .bipush 17, 2), (5, .if_icmp .ge 21, 3), (8, .aload_n 0, 1), (9, .getfield 9, 3), (12, .iload_n 1, 1), (13, .aload_n 0, 1), (14, .getfield 18, 3), (17, .iload_n 1, 1), (18, .iaload, 1), (19, .iastore, 1), (20, .iinc 1 1, 3), (23, .goto (-21), 3), (26, .return_, 1)]
theorem okX12_goesBack : okc cX12_goesBack kX12_goesBack := okc_of (by decide +kernel)
def kX12_feed : List Ins := [(0, .iload_n 1, 1), (1, .iconst 0, 1), (2, .bipush 127, 2), (4, .invokestatic 44, 3), (7, .ifCond .ne 6, 3), (10, .bipush (-2), 2), (12, .ireturn, 1), (13, .aload_n 0, 1), (14, .getfield 9, 3), (17, .bipush 22, 2), (19, .iaload, 1), (20, .bipush 100, 2), (22, .if_icmp .ne 6, 3), (25, .bipush (-4), 2), (27, .ireturn, 1), (28, .aload_n 0, 1), (29, .getfield 9, 3), (32, .bipush 112, 2), (34, .aload_n 0, 1), (35, .getfield 9, 3), (38, .bipush 22, 2), (40, .iaload, 1), (41, .iadd, 1), (42, .iload_n 1, 1), (43, .iastore, 1), (44, .aload_n 0, 1), (45, .getfield 9, 3), (48, .bipush 22, 2), (50, .dup2, 1), (51, .iaload, 1), (52, .iconst 1, 1), (53, .iadd, 1), (54, .iastore, 1), (55, .aload_n 0, 1), (56, .getfield 9, 3), (59, .bipush 22, 2), (61, .iaload, 1), (62, .ireturn, 1)]
theorem okX12_feed : okc cX12_feed kX12_feed := okc_of (by decide +kernel)
def kX12_here : List Ins := [(0, .aload_n 0, 1), (1, .getfield 48, 3), (4, .aload_n 0, 1), (5, .getfield 51, 3), (8, .if_icmp .ge 18, 3), (11, .aload_n 0, 1), (12, .getfield 9, 3), (15, .bipush 112, 2), (17, .aload_n 0, 1), (18, .getfield 48, 3), (21, .iadd, 1), (22, .iaload, 1), (23, .goto 4, 3), (26, .iconst (-1), 1), (27, .ireturn, 1)]
theorem okX12_here : okc cX12_here kX12_here := okc_of (by decide +kernel)
def kX12_must : List Ins := [(0, .aload_n 0, 1), (1, .aload_n 0, 1), (2, .getfield 54, 3), (5, .ifCond .ne 11, 3), (8, .aload_n 0, 1), (9, .invokevirtual 58, 3), (12, .iload_n 1, 1), (13, .if_icmp .eq 7, 3), (16, .iconst 1, 1), (17, .goto 4, 3), (20, .iconst 0, 1), (21, .putfield 54, 3), (24, .aload_n 0, 1), (25, .dup, 1), (26, .getfield 48, 3), (29, .aload_n 0, 1), (30, .getfield 54, 3), (33, .ifCond .eq 7, 3), (36, .iconst 0, 1), (37, .goto 4, 3), (40, .iconst 1, 1), (41, .iadd, 1), (42, .putfield 48, 3), (45, .return_, 1)]
theorem okX12_must : okc cX12_must kX12_must := okc_of (by decide +kernel)
def kX12_spells : List Ins := [(0, .iconst 0, 1), (1, .istore_n 2, 1), (2, .iload_n 2, 1), (3, .aload_n 1, 1), (4, .invokevirtual 62, 3), (7, .if_icmp .ge 18, 3), (10, .aload_n 0, 1), (11, .aload_n 1, 1), (12, .iload_n 2, 1), (13, .invokevirtual 67, 3), (16, .invokevirtual 71, 3), (19, .iinc 2 1, 3), (22, .goto (-20), 3), (25, .return_, 1)]
theorem okX12_spells : okc cX12_spells kX12_spells := okc_of (by decide +kernel)
def kX12_figures : List Ins := [(0, .aload_n 0, 1), (1, .aload_n 0, 1), (2, .getfield 54, 3), (5, .ifCond .ne 17, 3), (8, .aload_n 0, 1), (9, .invokevirtual 58, 3), (12, .bipush 48, 2), (14, .bipush 57, 2), (16, .invokestatic 44, 3), (19, .ifCond .ne 7, 3), (22, .iconst 1, 1), (23, .goto 4, 3), (26, .iconst 0, 1), (27, .putfield 54, 3), (30, .iconst 0, 1), (31, .istore_n 1, 1), (32, .iconst 0, 1), (33, .istore_n 2, 1), (34, .iload_n 2, 1), (35, .iconst 2, 1), (36, .if_icmp .ge 61, 3), (39, .aload_n 0, 1), (40, .getfield 54, 3), (43, .ifCond .ne 54, 3), (46, .aload_n 0, 1), (47, .invokevirtual 58, 3), (50, .bipush 48, 2), (52, .bipush 57, 2), (54, .invokestatic 44, 3), (57, .ifCond .eq 40, 3), (60, .iload_n 2, 1), (61, .ifCond .eq 7, 3), (64, .iload_n 1, 1), (65, .ifCond .le 32, 3), (68, .bipush 10, 2), (70, .iload_n 1, 1), (71, .imul, 1), (72, .aload_n 0, 1), (73, .invokevirtual 58, 3), (76, .iadd, 1), (77, .bipush 48, 2), (79, .isub, 1), (80, .istore_n 1, 1), (81, .aload_n 0, 1), (82, .dup, 1), (83, .getfield 48, 3), (86, .iconst 1, 1), (87, .iadd, 1), (88, .putfield 48, 3), (91, .iinc 2 1, 3), (94, .goto (-60), 3), (97, .iload_n 1, 1), (98, .ireturn, 1)]
theorem okX12_figures : okc cX12_figures kX12_figures := okc_of (by decide +kernel)
def kX12_among : List Ins := [(0, .iconst 0, 1), (1, .istore_n 2, 1), (2, .iload_n 2, 1), (3, .aload_n 1, 1), (4, .invokevirtual 62, 3), (7, .if_icmp .ge 33, 3), (10, .aload_n 0, 1), (11, .invokevirtual 58, 3), (14, .aload_n 1, 1), (15, .iload_n 2, 1), (16, .invokevirtual 67, 3), (19, .if_icmp .ne 15, 3), (22, .aload_n 0, 1), (23, .dup, 1), (24, .getfield 48, 3), (27, .iconst 1, 1), (28, .iadd, 1), (29, .putfield 48, 3), (32, .iload_n 2, 1), (33, .ireturn, 1), (34, .iinc 2 1, 3), (37, .goto (-35), 3), (40, .iconst (-1), 1), (41, .ireturn, 1)]
theorem okX12_among : okc cX12_among kX12_among := okc_of (by decide +kernel)
def kX12_emits : List Ins := [(0, .aload_n 0, 1), (1, .getfield 54, 3), (4, .ifCond .ne 52, 3), (7, .aload_n 0, 1), (8, .getfield 9, 3), (11, .sipush 227, 3), (14, .sipush 140, 3), (17, .aload_n 0, 1), (18, .getfield 75, 3), (21, .imul, 1), (22, .iadd, 1), (23, .aload_n 0, 1), (24, .getfield 9, 3), (27, .sipush 222, 3), (30, .aload_n 0, 1), (31, .getfield 75, 3), (34, .iadd, 1), (35, .iaload, 1), (36, .iadd, 1), (37, .iload_n 1, 1), (38, .iastore, 1), (39, .aload_n 0, 1), (40, .getfield 9, 3), (43, .sipush 222, 3), (46, .aload_n 0, 1), (47, .getfield 75, 3), (50, .iadd, 1), (51, .dup2, 1), (52, .iaload, 1), (53, .iconst 1, 1), (54, .iadd, 1), (55, .iastore, 1), (56, .return_, 1)]
theorem okX12_emits : okc cX12_emits kX12_emits := okc_of (by decide +kernel)
def kX12_factor : List Ins := [(0, .aload_n 0, 1), (1, .getfield 54, 3), (4, .ifCond .eq 4, 3), (7, .return_, 1), (8, .aload_n 0, 1), (9, .invokevirtual 58, 3), (12, .istore_n 1, 1), (13, .iload_n 1, 1), (14, .bipush 33, 2), (16, .if_icmp .eq 9, 3), (19, .iload_n 1, 1), (20, .bipush 40, 2), (22, .if_icmp .ne 90, 3), (25, .aload_n 0, 1), (26, .aload_n 0, 1), (27, .getfield 78, 3), (30, .iconst 5, 1), (31, .if_icmp .ne 7, 3), (34, .iconst 1, 1), (35, .goto 4, 3), (38, .iconst 0, 1), (39, .putfield 54, 3), (42, .aload_n 0, 1), (43, .dup, 1), (44, .getfield 78, 3), (47, .iconst 1, 1), (48, .iadd, 1), (49, .putfield 78, 3), (52, .aload_n 0, 1), (53, .dup, 1), (54, .getfield 48, 3), (57, .aload_n 0, 1), (58, .getfield 54, 3), (61, .ifCond .eq 7, 3), (64, .iconst 0, 1), (65, .goto 4, 3), (68, .iconst 1, 1), (69, .iadd, 1), (70, .putfield 48, 3), (73, .iload_n 1, 1), (74, .bipush 33, 2), (76, .if_icmp .ne 15, 3), (79, .aload_n 0, 1), (80, .invokevirtual 81, 3), (83, .aload_n 0, 1), (84, .iconst (-1), 1), (85, .invokevirtual 84, 3), (88, .goto 13, 3), (91, .aload_n 0, 1), (92, .invokevirtual 87, 3), (95, .aload_n 0, 1), (96, .bipush 41, 2), (98, .invokevirtual 71, 3), (101, .aload_n 0, 1), (102, .dup, 1), (103, .getfield 78, 3), (106, .iconst 1, 1), (107, .isub, 1), (108, .putfield 78, 3), (111, .return_, 1), (112, .aload_n 0, 1), (113, .ldc 90, 2), (115, .invokevirtual 92, 3), (118, .istore_n 2, 1), (119, .aload_n 0, 1), (120, .iload_n 2, 1), (121, .iconst (-1), 1), (122, .if_icmp .ne 7, 3), (125, .iconst 1, 1), (126, .goto 4, 3), (129, .iconst 0, 1), (130, .putfield 54, 3), (133, .aload_n 0, 1), (134, .getfield 54, 3), (137, .ifCond .eq 7, 3), (140, .iconst 0, 1), (141, .goto 9, 3), (144, .aload_n 0, 1), (145, .ldc 96, 2), (147, .invokevirtual 92, 3), (150, .istore_n 3, 1), (151, .aload_n 0, 1), (152, .aload_n 0, 1), (153, .getfield 54, 3), (156, .ifCond .ne 8, 3), (159, .iload_n 3, 1), (160, .iconst (-1), 1), (161, .if_icmp .ne 7, 3), (164, .iconst 1, 1), (165, .goto 4, 3), (168, .iconst 0, 1), (169, .putfield 54, 3), (172, .aload_n 0, 1), (173, .invokevirtual 98, 3), (176, .istore 4, 2), (178, .aload_n 0, 1), (179, .iload_n 2, 1), (180, .bipush 8, 2), (182, .iload_n 3, 1), (183, .imul, 1), (184, .iadd, 1), (185, .bipush 32, 2), (187, .iload 4, 2), (189, .imul, 1), (190, .iadd, 1), (191, .invokevirtual 84, 3), (194, .return_, 1)]
theorem okX12_factor : okc cX12_factor kX12_factor := okc_of (by decide +kernel)
def kX12_every : List Ins := [(0, .aload_n 0, 1), (1, .invokevirtual 81, 3), (4, .aload_n 0, 1), (5, .getfield 54, 3), (8, .ifCond .ne 35, 3), (11, .aload_n 0, 1), (12, .invokevirtual 58, 3), (15, .bipush 38, 2), (17, .if_icmp .ne 26, 3), (20, .aload_n 0, 1), (21, .dup, 1), (22, .getfield 48, 3), (25, .iconst 1, 1), (26, .iadd, 1), (27, .putfield 48, 3), (30, .aload_n 0, 1), (31, .invokevirtual 81, 3), (34, .aload_n 0, 1), (35, .bipush (-2), 2), (37, .invokevirtual 84, 3), (40, .goto (-36), 3), (43, .return_, 1)]
theorem okX12_every : okc cX12_every kX12_every := okc_of (by decide +kernel)
def kX12_some : List Ins := [(0, .aload_n 0, 1), (1, .invokevirtual 101, 3), (4, .aload_n 0, 1), (5, .getfield 54, 3), (8, .ifCond .ne 35, 3), (11, .aload_n 0, 1), (12, .invokevirtual 58, 3), (15, .bipush 124, 2), (17, .if_icmp .ne 26, 3), (20, .aload_n 0, 1), (21, .dup, 1), (22, .getfield 48, 3), (25, .iconst 1, 1), (26, .iadd, 1), (27, .putfield 48, 3), (30, .aload_n 0, 1), (31, .invokevirtual 101, 3), (34, .aload_n 0, 1), (35, .bipush (-3), 2), (37, .invokevirtual 84, 3), (40, .goto (-36), 3), (43, .return_, 1)]
theorem okX12_some : okc cX12_some kX12_some := okc_of (by decide +kernel)
def kX12_much : List Ins := [(0, .aload_n 0, 1), (1, .aload_n 2, 1), (2, .invokevirtual 104, 3), (5, .aload_n 0, 1), (6, .invokevirtual 98, 3), (9, .istore_n 3, 1), (10, .aload_n 0, 1), (11, .bipush 32, 2), (13, .invokevirtual 71, 3), (16, .aload_n 0, 1), (17, .invokevirtual 87, 3), (20, .aload_n 0, 1), (21, .iload_n 1, 1), (22, .iload_n 3, 1), (23, .isub, 1), (24, .invokevirtual 84, 3), (27, .return_, 1)]
theorem okX12_much : okc cX12_much kX12_much := okc_of (by decide +kernel)
def kX12_tellsHere : List Ins := [(0, .aload_n 0, 1), (1, .aload_n 2, 1), (2, .invokevirtual 104, 3), (5, .aload_n 0, 1), (6, .invokevirtual 98, 3), (9, .istore_n 3, 1), (10, .aload_n 0, 1), (11, .getfield 54, 3), (14, .ifCond .ne 15, 3), (17, .aload_n 0, 1), (18, .getfield 9, 3), (21, .iload_n 1, 1), (22, .aload_n 0, 1), (23, .getfield 75, 3), (26, .iadd, 1), (27, .iload_n 3, 1), (28, .iastore, 1), (29, .return_, 1)]
theorem okX12_tellsHere : okc cX12_tellsHere kX12_tellsHere := okc_of (by decide +kernel)
def kX12_clauseHere : List Ins := [(0, .aload_n 0, 1), (1, .invokevirtual 58, 3), (4, .lookupswitch 91 #[(100, 79), (107, 44), (108, 68), (112, 56)], 44), (48, .aload_n 0, 1), (49, .sipush 212, 3), (52, .ldc 108, 2), (54, .invokevirtual 110, 3), (57, .goto 43, 3), (60, .aload_n 0, 1), (61, .sipush 217, 3), (64, .ldc 114, 2), (66, .invokevirtual 110, 3), (69, .goto 31, 3), (72, .aload_n 0, 1), (73, .bipush (-10), 2), (75, .ldc 116, 2), (77, .invokevirtual 118, 3), (80, .goto 20, 3), (83, .aload_n 0, 1), (84, .sipush (-200), 3), (87, .ldc 121, 2), (89, .invokevirtual 118, 3), (92, .goto 8, 3), (95, .aload_n 0, 1), (96, .iconst 1, 1), (97, .putfield 54, 3), (100, .return_, 1)]
theorem okX12_clauseHere : okc cX12_clauseHere kX12_clauseHere := okc_of (by decide +kernel)
def kX12_ledge : List Ins := [(0, .aload_n 0, 1), (1, .getfield 9, 3), (4, .bipush 18, 2), (6, .iaload, 1), (7, .iconst 5, 1), (8, .if_icmp .ne 6, 3), (11, .bipush (-4), 2), (13, .ireturn, 1), (14, .aload_n 0, 1), (15, .aload_n 0, 1), (16, .getfield 9, 3), (19, .bipush 18, 2), (21, .iaload, 1), (22, .putfield 75, 3), (25, .aload_n 0, 1), (26, .aload_n 0, 1), (27, .getfield 9, 3), (30, .bipush 22, 2), (32, .iaload, 1), (33, .putfield 51, 3), (36, .aload_n 0, 1), (37, .getfield 9, 3), (40, .bipush 22, 2), (42, .iconst 0, 1), (43, .iastore, 1), (44, .aload_n 0, 1), (45, .getfield 9, 3), (48, .sipush 212, 3), (51, .aload_n 0, 1), (52, .getfield 75, 3), (55, .iadd, 1), (56, .iconst 4, 1), (57, .iastore, 1), (58, .aload_n 0, 1), (59, .getfield 9, 3), (62, .sipush 217, 3), (65, .aload_n 0, 1), (66, .getfield 75, 3), (69, .iadd, 1), (70, .bipush 6, 2), (72, .iastore, 1), (73, .aload_n 0, 1), (74, .getfield 9, 3), (77, .sipush 222, 3), (80, .aload_n 0, 1), (81, .getfield 75, 3), (84, .iadd, 1), (85, .iconst 0, 1), (86, .iastore, 1), (87, .aload_n 0, 1), (88, .iconst 0, 1), (89, .putfield 48, 3), (92, .aload_n 0, 1), (93, .iconst 0, 1), (94, .putfield 54, 3), (97, .aload_n 0, 1), (98, .iconst 0, 1), (99, .putfield 78, 3), (102, .iconst 1, 1), (103, .istore_n 1, 1), (104, .aload_n 0, 1), (105, .invokevirtual 123, 3), (108, .aload_n 0, 1), (109, .getfield 54, 3), (112, .ifCond .ne 38, 3), (115, .iload_n 1, 1), (116, .bipush 10, 2), (118, .if_icmp .ge 32, 3), (121, .aload_n 0, 1), (122, .invokevirtual 58, 3), (125, .bipush 59, 2), (127, .if_icmp .ne 23, 3), (130, .aload_n 0, 1), (131, .dup, 1), (132, .getfield 48, 3), (135, .iconst 1, 1), (136, .iadd, 1), (137, .putfield 48, 3), (140, .aload_n 0, 1), (141, .invokevirtual 123, 3), (144, .iinc 1 1, 3), (147, .goto (-39), 3), (150, .aload_n 0, 1), (151, .getfield 54, 3), (154, .ifCond .ne 14, 3), (157, .aload_n 0, 1), (158, .getfield 48, 3), (161, .aload_n 0, 1), (162, .getfield 51, 3), (165, .if_icmp .eq 11, 3), (168, .bipush (-10), 2), (170, .aload_n 0, 1), (171, .getfield 48, 3), (174, .isub, 1), (175, .ireturn, 1), (176, .aload_n 0, 1), (177, .getfield 9, 3), (180, .bipush 18, 2), (182, .dup2, 1), (183, .iaload, 1), (184, .iconst 1, 1), (185, .iadd, 1), (186, .iastore, 1), (187, .aload_n 0, 1), (188, .getfield 9, 3), (191, .bipush 23, 2), (193, .aload_n 0, 1), (194, .getfield 75, 3), (197, .iastore, 1), (198, .aload_n 0, 1), (199, .getfield 75, 3), (202, .ireturn, 1)]
theorem okX12_ledge : okc cX12_ledge kX12_ledge := okc_of (by decide +kernel)
def kX12_tellsOf : List Ins := [(0, .aload_n 0, 1), (1, .getfield 9, 3), (4, .bipush 23, 2), (6, .iaload, 1), (7, .iconst (-1), 1), (8, .if_icmp .ne 7, 3), (11, .iload_n 2, 1), (12, .goto 17, 3), (15, .aload_n 0, 1), (16, .getfield 9, 3), (19, .iload_n 1, 1), (20, .aload_n 0, 1), (21, .getfield 9, 3), (24, .bipush 23, 2), (26, .iaload, 1), (27, .iadd, 1), (28, .iaload, 1), (29, .ireturn, 1)]
theorem okX12_tellsOf : okc cX12_tellsOf kX12_tellsOf := okc_of (by decide +kernel)
def kX12_countOf : List Ins := [(0, .iconst 0, 1), (1, .istore_n 1, 1), (2, .iconst 0, 1), (3, .istore_n 2, 1), (4, .iload_n 2, 1), (5, .bipush 8, 2), (7, .if_icmp .ge 17, 3), (10, .iload_n 1, 1), (11, .iload_n 0, 1), (12, .iload_n 2, 1), (13, .ishr, 1), (14, .iconst 1, 1), (15, .iand, 1), (16, .iadd, 1), (17, .istore_n 1, 1), (18, .iinc 2 1, 3), (21, .goto (-17), 3), (24, .iload_n 1, 1), (25, .ireturn, 1)]
theorem okX12_countOf : okc cX12_countOf kX12_countOf := okc_of (by decide +kernel)
def kX12_clausesOf : List Ins := [(0, .aload_n 0, 1), (1, .getfield 21, 3), (4, .iconst 0, 1), (5, .iload_n 1, 1), (6, .iastore, 1), (7, .aload_n 0, 1), (8, .getfield 21, 3), (11, .iconst 1, 1), (12, .aload_n 0, 1), (13, .getfield 9, 3), (16, .bipush 24, 2), (18, .iload_n 1, 1), (19, .iadd, 1), (20, .iaload, 1), (21, .iastore, 1), (22, .aload_n 0, 1), (23, .getfield 21, 3), (26, .iconst 2, 1), (27, .aload_n 0, 1), (28, .getfield 9, 3), (31, .bipush 30, 2), (33, .iload_n 1, 1), (34, .iadd, 1), (35, .iaload, 1), (36, .iastore, 1), (37, .aload_n 0, 1), (38, .getfield 21, 3), (41, .iconst 3, 1), (42, .iload_n 2, 1), (43, .iastore, 1), (44, .aload_n 0, 1), (45, .getfield 21, 3), (48, .iconst 4, 1), (49, .iload_n 3, 1), (50, .iastore, 1), (51, .aload_n 0, 1), (52, .getfield 21, 3), (55, .iconst 5, 1), (56, .iload 4, 2), (58, .iastore, 1), (59, .iconst 3, 1), (60, .istore 5, 2), (62, .aload_n 0, 1), (63, .sipush 222, 3), (66, .iconst 0, 1), (67, .invokevirtual 126, 3), (70, .istore 6, 2), (72, .sipush 227, 3), (75, .sipush 140, 3), (78, .aload_n 0, 1), (79, .getfield 9, 3), (82, .bipush 23, 2), (84, .iaload, 1), (85, .imul, 1), (86, .iadd, 1), (87, .istore 7, 2), (89, .iconst 0, 1), (90, .istore 8, 2), (92, .iload 7, 2), (94, .istore 9, 2), (96, .iload 9, 2), (98, .iload 7, 2), (100, .iload 6, 2), (102, .iadd, 1), (103, .if_icmp .ge 304, 3), (106, .aload_n 0, 1), (107, .getfield 9, 3), (110, .iload 9, 2), (112, .iaload, 1), (113, .istore 10, 2), (115, .iload 10, 2), (117, .ifCond .lt 97, 3), (120, .aload_n 0, 1), (121, .getfield 21, 3), (124, .iload 10, 2), (126, .bipush 8, 2), (128, .irem, 1), (129, .iaload, 1), (130, .istore 11, 2), (132, .iload 10, 2), (134, .bipush 8, 2), (136, .idiv, 1), (137, .iconst 4, 1), (138, .irem, 1), (139, .istore 12, 2), (141, .iload 10, 2), (143, .bipush 32, 2), (145, .idiv, 1), (146, .istore 13, 2), (148, .aload_n 0, 1), (149, .getfield 24, 3), (152, .iload 8, 2), (154, .iload 12, 2), (156, .ifCond .ne 18, 3), (159, .iload 11, 2), (161, .iload 13, 2), (163, .if_icmp .ge 7, 3), (166, .iconst 1, 1), (167, .goto 40, 3), (170, .iconst 0, 1), (171, .goto 36, 3), (174, .iload 12, 2), (176, .iconst 1, 1), (177, .if_icmp .ne 18, 3), (180, .iload 11, 2), (182, .iload 13, 2), (184, .if_icmp .ne 7, 3), (187, .iconst 1, 1), (188, .goto 19, 3), (191, .iconst 0, 1), (192, .goto 15, 3), (195, .iload 11, 2), (197, .iload 13, 2), (199, .if_icmp .le 7, 3), (202, .iconst 1, 1), (203, .goto 4, 3), (206, .iconst 0, 1), (207, .bastore, 1), (208, .iinc 8 1, 3), (211, .goto 190, 3), (214, .iload 10, 2), (216, .iconst (-1), 1), (217, .if_icmp .ne 32, 3), (220, .aload_n 0, 1), (221, .getfield 24, 3), (224, .iload 8, 2), (226, .iconst 1, 1), (227, .isub, 1), (228, .aload_n 0, 1), (229, .getfield 24, 3), (232, .iload 8, 2), (234, .iconst 1, 1), (235, .isub, 1), (236, .baload, 1), (237, .ifCond .ne 7, 3), (240, .iconst 1, 1), (241, .goto 4, 3), (244, .iconst 0, 1), (245, .bastore, 1), (246, .goto 155, 3), (249, .iload 10, 2), (251, .bipush (-10), 2), (253, .if_icmp .le 82, 3), (256, .iinc 8 (-1), 3), (259, .aload_n 0, 1), (260, .getfield 24, 3), (263, .iload 8, 2), (265, .iconst 1, 1), (266, .isub, 1), (267, .iload 10, 2), (269, .bipush (-2), 2), (271, .if_icmp .ne 33, 3), (274, .aload_n 0, 1), (275, .getfield 24, 3), (278, .iload 8, 2), (280, .iconst 1, 1), (281, .isub, 1), (282, .baload, 1), (283, .ifCond .eq 17, 3), (286, .aload_n 0, 1), (287, .getfield 24, 3), (290, .iload 8, 2), (292, .baload, 1), (293, .ifCond .eq 7, 3), (296, .iconst 1, 1), (297, .goto 34, 3), (300, .iconst 0, 1), (301, .goto 30, 3), (304, .aload_n 0, 1), (305, .getfield 24, 3), (308, .iload 8, 2), (310, .iconst 1, 1), (311, .isub, 1), (312, .baload, 1), (313, .ifCond .ne 13, 3), (316, .aload_n 0, 1), (317, .getfield 24, 3), (320, .iload 8, 2), (322, .baload, 1), (323, .ifCond .eq 7, 3), (326, .iconst 1, 1), (327, .goto 4, 3), (330, .iconst 0, 1), (331, .bastore, 1), (332, .goto 69, 3), (335, .iconst 0, 1), (336, .istore 8, 2), (338, .aload_n 0, 1), (339, .getfield 24, 3), (342, .iconst 0, 1), (343, .baload, 1), (344, .istore 11, 2), (346, .iload 5, 2), (348, .iload 11, 2), (350, .ifCond .eq 19, 3), (353, .iload 10, 2), (355, .sipush (-200), 3), (358, .if_icmp .le 11, 3), (361, .bipush (-10), 2), (363, .iload 10, 2), (365, .isub, 1), (366, .goto 4, 3), (369, .iconst 0, 1), (370, .iadd, 1), (371, .istore 5, 2), (373, .iload 5, 2), (375, .iload 11, 2), (377, .ifCond .eq 20, 3), (380, .iload 10, 2), (382, .sipush (-200), 3), (385, .if_icmp .gt 12, 3), (388, .sipush (-200), 3), (391, .iload 10, 2), (393, .isub, 1), (394, .goto 4, 3), (397, .iconst 0, 1), (398, .isub, 1), (399, .istore 5, 2), (401, .iinc 9 1, 3), (404, .goto (-308), 3), (407, .iload 5, 2), (409, .ireturn, 1)]
theorem okX12_clausesOf : okc cX12_clausesOf kX12_clausesOf := okc_of (by decide +kernel)
def kX12_looksAnew : List Ins := [(0, .aload_n 0, 1), (1, .dup, 1), (2, .getfield 130, 3), (5, .iconst 1, 1), (6, .iadd, 1), (7, .putfield 130, 3), (10, .return_, 1)]
theorem okX12_looksAnew : okc cX12_looksAnew kX12_looksAnew := okc_of (by decide +kernel)
def kX12_sumOf : List Ins := [(0, .aload_n 0, 1), (1, .getfield 9, 3), (4, .iconst 1, 1), (5, .iload_n 1, 1), (6, .iadd, 1), (7, .iaload, 1), (8, .invokestatic 133, 3), (11, .istore_n 3, 1), (12, .aload_n 0, 1), (13, .getfield 9, 3), (16, .iconst 0, 1), (17, .iaload, 1), (18, .bipush 10, 2), (20, .irem, 1), (21, .istore 4, 2), (23, .bipush 9, 2), (25, .bipush 8, 2), (27, .bipush 6, 2), (29, .iload 4, 2), (31, .imul, 1), (32, .iload_n 1, 1), (33, .iadd, 1), (34, .imul, 1), (35, .iload_n 2, 1), (36, .iadd, 1), (37, .imul, 1), (38, .iload_n 3, 1), (39, .iadd, 1), (40, .istore 5, 2), (42, .aload_n 0, 1), (43, .getfield 31, 3), (46, .iload 5, 2), (48, .iaload, 1), (49, .aload_n 0, 1), (50, .getfield 130, 3), (53, .if_icmp .eq 30, 3), (56, .aload_n 0, 1), (57, .getfield 31, 3), (60, .iload 5, 2), (62, .aload_n 0, 1), (63, .getfield 130, 3), (66, .iastore, 1), (67, .aload_n 0, 1), (68, .getfield 28, 3), (71, .iload 5, 2), (73, .aload_n 0, 1), (74, .iload_n 1, 1), (75, .iload_n 2, 1), (76, .iload_n 3, 1), (77, .iload 4, 2), (79, .invokevirtual 137, 3), (82, .iastore, 1), (83, .aload_n 0, 1), (84, .getfield 28, 3), (87, .iload 5, 2), (89, .iaload, 1), (90, .ireturn, 1)]
theorem okX12_sumOf : okc cX12_sumOf kX12_sumOf := okc_of (by decide +kernel)
def kX12_heedOf : List Ins := [(0, .aload_n 0, 1), (1, .iload_n 1, 1), (2, .iload_n 2, 1), (3, .invokevirtual 141, 3), (6, .istore_n 3, 1), (7, .iload_n 3, 1), (8, .aload_n 0, 1), (9, .getfield 9, 3), (12, .iconst 1, 1), (13, .iload_n 1, 1), (14, .iadd, 1), (15, .iaload, 1), (16, .invokestatic 133, 3), (19, .isub, 1), (20, .istore 4, 2), (22, .aload_n 0, 1), (23, .getfield 9, 3), (26, .bipush 24, 2), (28, .iload_n 1, 1), (29, .iadd, 1), (30, .iaload, 1), (31, .tableswitch 125 1 6 #[37, 49, 53, 56, 90, 104], 37), (68, .iload_n 3, 1), (69, .aload_n 0, 1), (70, .getfield 9, 3), (73, .bipush 30, 2), (75, .iload_n 1, 1), (76, .iadd, 1), (77, .iaload, 1), (78, .iadd, 1), (79, .ireturn, 1), (80, .iload_n 3, 1), (81, .iconst 2, 1), (82, .idiv, 1), (83, .ireturn, 1), (84, .iload 4, 2), (86, .ireturn, 1), (87, .iload_n 3, 1), (88, .aload_n 0, 1), (89, .getfield 9, 3), (92, .bipush 30, 2), (94, .iload_n 1, 1), (95, .iadd, 1), (96, .iaload, 1), (97, .iadd, 1), (98, .aload_n 0, 1), (99, .getfield 9, 3), (102, .iconst 1, 1), (103, .iload_n 1, 1), (104, .iadd, 1), (105, .iaload, 1), (106, .iload_n 2, 1), (107, .ishr, 1), (108, .iconst 1, 1), (109, .iand, 1), (110, .iconst 1, 1), (111, .if_icmp .ne 7, 3), (114, .iconst 2, 1), (115, .goto 4, 3), (118, .iconst 1, 1), (119, .imul, 1), (120, .ireturn, 1), (121, .iload_n 3, 1), (122, .iconst 2, 1), (123, .idiv, 1), (124, .aload_n 0, 1), (125, .getfield 9, 3), (128, .bipush 30, 2), (130, .iload_n 1, 1), (131, .iadd, 1), (132, .iaload, 1), (133, .iadd, 1), (134, .ireturn, 1), (135, .iload 4, 2), (137, .aload_n 0, 1), (138, .getfield 9, 3), (141, .bipush 36, 2), (143, .iconst 4, 1), (144, .iload_n 1, 1), (145, .imul, 1), (146, .iadd, 1), (147, .iload_n 2, 1), (148, .iconst 4, 1), (149, .irem, 1), (150, .iadd, 1), (151, .iaload, 1), (152, .iadd, 1), (153, .iconst 4, 1), (154, .isub, 1), (155, .ireturn, 1), (156, .iload_n 3, 1), (157, .ireturn, 1)]
theorem okX12_heedOf : okc cX12_heedOf kX12_heedOf := okc_of (by decide +kernel)
def kX12_becomes : List Ins := [(0, .aload_n 0, 1), (1, .getfield 9, 3), (4, .iload_n 1, 1), (5, .iaload, 1), (6, .istore_n 3, 1), (7, .aload_n 0, 1), (8, .getfield 9, 3), (11, .iload_n 1, 1), (12, .iload_n 2, 1), (13, .iastore, 1), (14, .iload_n 3, 1), (15, .ireturn, 1)]
theorem okX12_becomes : okc cX12_becomes kX12_becomes := okc_of (by decide +kernel)
def kX12_urchin : List Ins := [(0, .iload_n 1, 1), (1, .iconst 0, 1), (2, .bipush 6, 2), (4, .invokestatic 44, 3), (7, .ifCond .ne 5, 3), (10, .iconst (-1), 1), (11, .ireturn, 1), (12, .iload_n 2, 1), (13, .iconst 0, 1), (14, .bipush 9, 2), (16, .invokestatic 44, 3), (19, .ifCond .ne 6, 3), (22, .bipush (-2), 2), (24, .ireturn, 1), (25, .aload_n 0, 1), (26, .getfield 9, 3), (29, .bipush 17, 2), (31, .iaload, 1), (32, .bipush 6, 2), (34, .if_icmp .ne 6, 3), (37, .bipush (-4), 2), (39, .ireturn, 1), (40, .aload_n 0, 1), (41, .getfield 9, 3), (44, .bipush 17, 2), (46, .iaload, 1), (47, .istore_n 3, 1), (48, .aload_n 0, 1), (49, .getfield 9, 3), (52, .bipush 24, 2), (54, .iload_n 3, 1), (55, .iadd, 1), (56, .iload_n 1, 1), (57, .iastore, 1), (58, .aload_n 0, 1), (59, .getfield 9, 3), (62, .bipush 30, 2), (64, .iload_n 3, 1), (65, .iadd, 1), (66, .iload_n 2, 1), (67, .iastore, 1), (68, .aload_n 0, 1), (69, .getfield 9, 3), (72, .iconst 1, 1), (73, .iload_n 3, 1), (74, .iadd, 1), (75, .iconst 0, 1), (76, .iastore, 1), (77, .aload_n 0, 1), (78, .getfield 9, 3), (81, .bipush 7, 2), (83, .iload_n 3, 1), (84, .iadd, 1), (85, .iconst 0, 1), (86, .iastore, 1), (87, .iconst 0, 1), (88, .istore 4, 2), (90, .iload 4, 2), (92, .iconst 4, 1), (93, .if_icmp .ge 24, 3), (96, .aload_n 0, 1), (97, .getfield 9, 3), (100, .bipush 36, 2), (102, .iconst 4, 1), (103, .iload_n 3, 1), (104, .imul, 1), (105, .iadd, 1), (106, .iload 4, 2), (108, .iadd, 1), (109, .iconst 0, 1), (110, .iastore, 1), (111, .iinc 4 1, 3), (114, .goto (-24), 3), (117, .aload_n 0, 1), (118, .getfield 9, 3), (121, .bipush 17, 2), (123, .dup2, 1), (124, .iaload, 1), (125, .iconst 1, 1), (126, .iadd, 1), (127, .iastore, 1), (128, .iload_n 3, 1), (129, .ireturn, 1)]
theorem okX12_urchin : okc cX12_urchin kX12_urchin := okc_of (by decide +kernel)
def kX12_of : List Ins := [(0, .aload_n 0, 1), (1, .iload_n 1, 1), (2, .invokevirtual 144, 3), (5, .ifCond .ne 6, 3), (8, .ldc 148, 2), (10, .ireturn, 1), (11, .aload_n 0, 1), (12, .invokevirtual 149, 3), (15, .iload_n 2, 1), (16, .tableswitch 71 0 3 #[32, 42, 52, 61], 32), (48, .aload_n 0, 1), (49, .getfield 9, 3), (52, .bipush 24, 2), (54, .iload_n 1, 1), (55, .iadd, 1), (56, .iaload, 1), (57, .ireturn, 1), (58, .aload_n 0, 1), (59, .getfield 9, 3), (62, .bipush 30, 2), (64, .iload_n 1, 1), (65, .iadd, 1), (66, .iaload, 1), (67, .ireturn, 1), (68, .aload_n 0, 1), (69, .getfield 9, 3), (72, .iconst 1, 1), (73, .iload_n 1, 1), (74, .iadd, 1), (75, .iaload, 1), (76, .ireturn, 1), (77, .aload_n 0, 1), (78, .getfield 9, 3), (81, .bipush 7, 2), (83, .iload_n 1, 1), (84, .iadd, 1), (85, .iaload, 1), (86, .ireturn, 1), (87, .iload_n 2, 1), (88, .bipush 10, 2), (90, .isub, 1), (91, .invokestatic 152, 3), (94, .ifCond .eq 15, 3), (97, .aload_n 0, 1), (98, .iload_n 1, 1), (99, .iload_n 2, 1), (100, .bipush 10, 2), (102, .isub, 1), (103, .invokevirtual 155, 3), (106, .goto 5, 3), (109, .ldc 148, 2), (111, .ireturn, 1)]
theorem okX12_of : okc cX12_of kX12_of := okc_of (by decide +kernel)
def kX12_row : List Ins := [(0, .aload_n 0, 1), (1, .iload_n 1, 1), (2, .invokevirtual 144, 3), (5, .ifCond .eq 12, 3), (8, .iload_n 2, 1), (9, .iconst 0, 1), (10, .iconst 3, 1), (11, .invokestatic 44, 3), (14, .ifCond .ne 5, 3), (17, .iconst (-1), 1), (18, .ireturn, 1), (19, .iload_n 3, 1), (20, .iconst 0, 1), (21, .bipush 9, 2), (23, .invokestatic 44, 3), (26, .ifCond .ne 6, 3), (29, .bipush (-2), 2), (31, .ireturn, 1), (32, .aload_n 0, 1), (33, .getfield 9, 3), (36, .bipush 24, 2), (38, .iload_n 1, 1), (39, .iadd, 1), (40, .iaload, 1), (41, .bipush 6, 2), (43, .if_icmp .ne 19, 3), (46, .aload_n 0, 1), (47, .bipush 36, 2), (49, .iconst 4, 1), (50, .iload_n 1, 1), (51, .imul, 1), (52, .iadd, 1), (53, .iload_n 2, 1), (54, .iadd, 1), (55, .iload_n 3, 1), (56, .invokevirtual 158, 3), (59, .goto 5, 3), (62, .bipush (-3), 2), (64, .ireturn, 1)]
theorem okX12_row : okc cX12_row kX12_row := okc_of (by decide +kernel)
def kX12_learn : List Ins := [(0, .aload_n 0, 1), (1, .iload_n 1, 1), (2, .invokevirtual 144, 3), (5, .ifCond .ne 5, 3), (8, .iconst (-1), 1), (9, .ireturn, 1), (10, .iload_n 2, 1), (11, .iconst 0, 1), (12, .sipush 255, 3), (15, .invokestatic 44, 3), (18, .ifCond .eq 14, 3), (21, .aload_n 0, 1), (22, .iconst 1, 1), (23, .iload_n 1, 1), (24, .iadd, 1), (25, .iload_n 2, 1), (26, .invokevirtual 158, 3), (29, .goto 5, 3), (32, .bipush (-2), 2), (34, .ireturn, 1)]
theorem okX12_learn : okc cX12_learn kX12_learn := okc_of (by decide +kernel)
def kX12_beach : List Ins := [(0, .aload_n 0, 1), (1, .iload_n 1, 1), (2, .invokevirtual 144, 3), (5, .ifCond .eq 23, 3), (8, .aload_n 0, 1), (9, .bipush 7, 2), (11, .iload_n 1, 1), (12, .iadd, 1), (13, .iload_n 2, 1), (14, .ifCond .eq 7, 3), (17, .iconst 1, 1), (18, .goto 4, 3), (21, .iconst 0, 1), (22, .invokevirtual 158, 3), (25, .goto 4, 3), (28, .iconst (-1), 1), (29, .ireturn, 1)]
theorem okX12_beach : okc cX12_beach kX12_beach := okc_of (by decide +kernel)
def kX12_lesson : List Ins := [(0, .iload_n 1, 1), (1, .iconst 0, 1), (2, .iconst 3, 1), (3, .invokestatic 44, 3), (6, .ifCond .eq 15, 3), (9, .iload_n 2, 1), (10, .iconst (-1), 1), (11, .if_icmp .eq 12, 3), (14, .iload_n 2, 1), (15, .invokestatic 152, 3), (18, .ifCond .ne 5, 3), (21, .iconst (-1), 1), (22, .ireturn, 1), (23, .aload_n 0, 1), (24, .bipush 13, 2), (26, .iload_n 1, 1), (27, .iadd, 1), (28, .iload_n 2, 1), (29, .iconst (-1), 1), (30, .if_icmp .ne 8, 3), (33, .bipush (-5), 2), (35, .goto 4, 3), (38, .iload_n 2, 1), (39, .invokevirtual 158, 3), (42, .ireturn, 1)]
theorem okX12_lesson : okc cX12_lesson kX12_lesson := okc_of (by decide +kernel)
def kX12_knownByAny : List Ins := [(0, .iconst 0, 1), (1, .istore_n 1, 1), (2, .iconst 0, 1), (3, .istore_n 2, 1), (4, .iload_n 2, 1), (5, .aload_n 0, 1), (6, .getfield 9, 3), (9, .bipush 17, 2), (11, .iaload, 1), (12, .if_icmp .ge 36, 3), (15, .iload_n 1, 1), (16, .aload_n 0, 1), (17, .getfield 9, 3), (20, .bipush 7, 2), (22, .iload_n 2, 1), (23, .iadd, 1), (24, .iaload, 1), (25, .ifCond .ne 14, 3), (28, .aload_n 0, 1), (29, .getfield 9, 3), (32, .iconst 1, 1), (33, .iload_n 2, 1), (34, .iadd, 1), (35, .iaload, 1), (36, .goto 4, 3), (39, .iconst 0, 1), (40, .ior, 1), (41, .istore_n 1, 1), (42, .iinc 2 1, 3), (45, .goto (-41), 3), (48, .iload_n 1, 1), (49, .ireturn, 1)]
theorem okX12_knownByAny : okc cX12_knownByAny kX12_knownByAny := okc_of (by decide +kernel)
def kX12_heldByAll : List Ins := [(0, .iconst 0, 1), (1, .istore_n 1, 1), (2, .iconst 0, 1), (3, .istore_n 2, 1), (4, .iload_n 2, 1), (5, .aload_n 0, 1), (6, .getfield 9, 3), (9, .bipush 17, 2), (11, .iaload, 1), (12, .if_icmp .ge 39, 3), (15, .iload_n 1, 1), (16, .aload_n 0, 1), (17, .getfield 9, 3), (20, .bipush 7, 2), (22, .iload_n 2, 1), (23, .iadd, 1), (24, .iaload, 1), (25, .ifCond .ne 17, 3), (28, .aload_n 0, 1), (29, .getfield 9, 3), (32, .iconst 1, 1), (33, .iload_n 2, 1), (34, .iadd, 1), (35, .iaload, 1), (36, .invokestatic 133, 3), (39, .goto 4, 3), (42, .iconst 0, 1), (43, .iadd, 1), (44, .istore_n 1, 1), (45, .iinc 2 1, 3), (48, .goto (-44), 3), (51, .iload_n 1, 1), (52, .ireturn, 1)]
theorem okX12_heldByAll : okc cX12_heldByAll kX12_heldByAll := okc_of (by decide +kernel)
def kX12_awayOnes : List Ins := [(0, .iconst 0, 1), (1, .istore_n 1, 1), (2, .iconst 0, 1), (3, .istore_n 2, 1), (4, .iload_n 2, 1), (5, .aload_n 0, 1), (6, .getfield 9, 3), (9, .bipush 17, 2), (11, .iaload, 1), (12, .if_icmp .ge 23, 3), (15, .iload_n 1, 1), (16, .aload_n 0, 1), (17, .getfield 9, 3), (20, .bipush 7, 2), (22, .iload_n 2, 1), (23, .iadd, 1), (24, .iaload, 1), (25, .iload_n 2, 1), (26, .ishl, 1), (27, .ior, 1), (28, .istore_n 1, 1), (29, .iinc 2 1, 3), (32, .goto (-28), 3), (35, .iload_n 1, 1), (36, .ireturn, 1)]
theorem okX12_awayOnes : okc cX12_awayOnes kX12_awayOnes := okc_of (by decide +kernel)
def kX12_knownBy : List Ins := [(0, .iconst 0, 1), (1, .istore_n 2, 1), (2, .iconst 0, 1), (3, .istore_n 3, 1), (4, .iload_n 3, 1), (5, .aload_n 0, 1), (6, .getfield 9, 3), (9, .bipush 17, 2), (11, .iaload, 1), (12, .if_icmp .ge 33, 3), (15, .iload_n 2, 1), (16, .iload_n 1, 1), (17, .iload_n 3, 1), (18, .ishr, 1), (19, .iconst 1, 1), (20, .iand, 1), (21, .iconst 1, 1), (22, .if_icmp .ne 14, 3), (25, .aload_n 0, 1), (26, .getfield 9, 3), (29, .iconst 1, 1), (30, .iload_n 3, 1), (31, .iadd, 1), (32, .iaload, 1), (33, .goto 4, 3), (36, .iconst 0, 1), (37, .ior, 1), (38, .istore_n 2, 1), (39, .iinc 3 1, 3), (42, .goto (-38), 3), (45, .iload_n 2, 1), (46, .ireturn, 1)]
theorem okX12_knownBy : okc cX12_knownBy kX12_knownBy := okc_of (by decide +kernel)
def kX12_fewest : List Ins := [(0, .iconst (-1), 1), (1, .istore_n 1, 1), (2, .iconst 0, 1), (3, .istore_n 2, 1), (4, .iload_n 2, 1), (5, .iconst 1, 1), (6, .aload_n 0, 1), (7, .getfield 9, 3), (10, .bipush 17, 2), (12, .iaload, 1), (13, .ishl, 1), (14, .if_icmp .ge 62, 3), (17, .iload_n 2, 1), (18, .aload_n 0, 1), (19, .invokevirtual 161, 3), (22, .iand, 1), (23, .ifCond .ne 19, 3), (26, .aload_n 0, 1), (27, .iload_n 2, 1), (28, .invokevirtual 164, 3), (31, .aload_n 0, 1), (32, .invokevirtual 167, 3), (35, .if_icmp .ne 7, 3), (38, .iconst 1, 1), (39, .goto 4, 3), (42, .iconst 0, 1), (43, .istore_n 3, 1), (44, .iload_n 3, 1), (45, .ifCond .eq 23, 3), (48, .iload_n 1, 1), (49, .iconst (-1), 1), (50, .if_icmp .eq 14, 3), (53, .iload_n 2, 1), (54, .invokestatic 133, 3), (57, .iload_n 1, 1), (58, .invokestatic 133, 3), (61, .if_icmp .ge 7, 3), (64, .iload_n 2, 1), (65, .goto 4, 3), (68, .iload_n 1, 1), (69, .istore_n 1, 1), (70, .iinc 2 1, 3), (73, .goto (-69), 3), (76, .iload_n 1, 1), (77, .ireturn, 1)]
theorem okX12_fewest : okc cX12_fewest kX12_fewest := okc_of (by decide +kernel)
def kX12_told : List Ins := [(0, .iload_n 1, 1), (1, .tableswitch 89 0 6 #[43, 50, 59, 69, 74, 79, 84], 43), (44, .aload_n 0, 1), (45, .getfield 9, 3), (48, .iconst 0, 1), (49, .iaload, 1), (50, .ireturn, 1), (51, .aload_n 0, 1), (52, .sipush 212, 3), (55, .iconst 4, 1), (56, .invokevirtual 126, 3), (59, .ireturn, 1), (60, .aload_n 0, 1), (61, .sipush 217, 3), (64, .bipush 6, 2), (66, .invokevirtual 126, 3), (69, .ireturn, 1), (70, .aload_n 0, 1), (71, .invokevirtual 167, 3), (74, .ireturn, 1), (75, .aload_n 0, 1), (76, .invokevirtual 170, 3), (79, .ireturn, 1), (80, .aload_n 0, 1), (81, .invokevirtual 161, 3), (84, .ireturn, 1), (85, .aload_n 0, 1), (86, .invokevirtual 173, 3), (89, .ireturn, 1), (90, .iload_n 1, 1), (91, .bipush 10, 2), (93, .isub, 1), (94, .iconst 0, 1), (95, .iconst 3, 1), (96, .invokestatic 44, 3), (99, .ifCond .eq 18, 3), (102, .aload_n 0, 1), (103, .getfield 9, 3), (106, .bipush 13, 2), (108, .iload_n 1, 1), (109, .iadd, 1), (110, .bipush 10, 2), (112, .isub, 1), (113, .iaload, 1), (114, .goto 4, 3), (117, .iconst (-1), 1), (118, .ireturn, 1)]
theorem okX12_told : okc cX12_told kX12_told := okc_of (by decide +kernel)
def kX12_isPassed : List Ins := [(0, .iload_n 1, 1), (1, .ifCond .le 39, 3), (4, .aload_n 0, 1), (5, .getfield 9, 3), (8, .bipush 7, 2), (10, .iload_n 1, 1), (11, .iadd, 1), (12, .iconst 1, 1), (13, .isub, 1), (14, .iaload, 1), (15, .ifCond .ne 25, 3), (18, .aload_n 0, 1), (19, .getfield 9, 3), (22, .iconst 1, 1), (23, .iload_n 1, 1), (24, .iadd, 1), (25, .iconst 1, 1), (26, .isub, 1), (27, .iaload, 1), (28, .iload_n 2, 1), (29, .ishr, 1), (30, .iconst 1, 1), (31, .iand, 1), (32, .iconst 1, 1), (33, .if_icmp .ne 7, 3), (36, .iconst 1, 1), (37, .goto 4, 3), (40, .iconst 0, 1), (41, .istore_n 3, 1), (42, .iload_n 1, 1), (43, .iconst 1, 1), (44, .iadd, 1), (45, .aload_n 0, 1), (46, .getfield 9, 3), (49, .bipush 17, 2), (51, .iaload, 1), (52, .if_icmp .ge 39, 3), (55, .aload_n 0, 1), (56, .getfield 9, 3), (59, .bipush 7, 2), (61, .iload_n 1, 1), (62, .iadd, 1), (63, .iconst 1, 1), (64, .iadd, 1), (65, .iaload, 1), (66, .ifCond .ne 25, 3), (69, .aload_n 0, 1), (70, .getfield 9, 3), (73, .iconst 1, 1), (74, .iload_n 1, 1), (75, .iadd, 1), (76, .iconst 1, 1), (77, .iadd, 1), (78, .iaload, 1), (79, .iload_n 2, 1), (80, .ishr, 1), (81, .iconst 1, 1), (82, .iand, 1), (83, .iconst 1, 1), (84, .if_icmp .ne 7, 3), (87, .iconst 1, 1), (88, .goto 4, 3), (91, .iconst 0, 1), (92, .istore 4, 2), (94, .iload_n 3, 1), (95, .ifCond .ne 8, 3), (98, .iload 4, 2), (100, .ifCond .eq 7, 3), (103, .iconst 1, 1), (104, .goto 4, 3), (107, .iconst 0, 1), (108, .ireturn, 1)]
theorem okX12_isPassed : okc cX12_isPassed kX12_isPassed := okc_of (by decide +kernel)
def kX12_isKnownNext : List Ins := [(0, .aload_n 0, 1), (1, .getfield 9, 3), (4, .iconst 1, 1), (5, .iload_n 1, 1), (6, .iadd, 1), (7, .iaload, 1), (8, .iload_n 2, 1), (9, .ishr, 1), (10, .iconst 1, 1), (11, .iand, 1), (12, .iconst 1, 1), (13, .if_icmp .ne 7, 3), (16, .iconst 1, 1), (17, .goto 4, 3), (20, .iconst 0, 1), (21, .istore 4, 2), (23, .aload_n 0, 1), (24, .iload_n 1, 1), (25, .iload_n 2, 1), (26, .invokevirtual 176, 3), (29, .istore 5, 2), (31, .iload 4, 2), (33, .ifCond .ne 15, 3), (36, .iload 5, 2), (38, .ifCond .ne 10, 3), (41, .iload_n 3, 1), (42, .iload_n 2, 1), (43, .if_icmp .eq 5, 3), (46, .iconst 0, 1), (47, .ireturn, 1), (48, .aload_n 0, 1), (49, .iload_n 1, 1), (50, .iload_n 2, 1), (51, .invokevirtual 155, 3), (54, .istore 6, 2), (56, .iload 4, 2), (58, .ifCond .eq 8, 3), (61, .iload 6, 2), (63, .ifCond .ge 32, 3), (66, .iload_n 3, 1), (67, .iload_n 2, 1), (68, .if_icmp .ne 8, 3), (71, .iload 6, 2), (73, .ifCond .gt 22, 3), (76, .iload 5, 2), (78, .ifCond .eq 21, 3), (81, .iload 6, 2), (83, .aload_n 0, 1), (84, .sipush 217, 3), (87, .bipush 6, 2), (89, .invokevirtual 126, 3), (92, .if_icmp .lt 7, 3), (95, .iconst 1, 1), (96, .goto 4, 3), (99, .iconst 0, 1), (100, .ireturn, 1)]
theorem okX12_isKnownNext : okc cX12_isKnownNext kX12_isKnownNext := okc_of (by decide +kernel)
def kX12_knownNext : List Ins := [(0, .iconst 0, 1), (1, .istore_n 3, 1), (2, .aload_n 0, 1), (3, .sipush 212, 3), (6, .iconst 4, 1), (7, .invokevirtual 126, 3), (10, .istore 4, 2), (12, .iconst 0, 1), (13, .istore 5, 2), (15, .iload 5, 2), (17, .bipush 8, 2), (19, .if_icmp .ge 35, 3), (22, .iload 4, 2), (24, .ifCond .le 30, 3), (27, .aload_n 0, 1), (28, .iload_n 1, 1), (29, .iload 5, 2), (31, .iload_n 2, 1), (32, .invokevirtual 180, 3), (35, .ifCond .eq 13, 3), (38, .iload_n 3, 1), (39, .iconst 1, 1), (40, .iload 5, 2), (42, .ishl, 1), (43, .ior, 1), (44, .istore_n 3, 1), (45, .iinc 4 (-1), 3), (48, .iinc 5 1, 3), (51, .goto (-36), 3), (54, .iload_n 3, 1), (55, .ireturn, 1)]
theorem okX12_knownNext : okc cX12_knownNext kX12_knownNext := okc_of (by decide +kernel)
def kX12_goesBy : List Ins := [(0, .iconst 0, 1), (1, .istore_n 2, 1), (2, .iload_n 2, 1), (3, .aload_n 0, 1), (4, .getfield 9, 3), (7, .bipush 17, 2), (9, .iaload, 1), (10, .if_icmp .ge 45, 3), (13, .aload_n 0, 1), (14, .getfield 34, 3), (17, .iload_n 2, 1), (18, .aload_n 0, 1), (19, .getfield 9, 3), (22, .bipush 7, 2), (24, .iload_n 2, 1), (25, .iadd, 1), (26, .iaload, 1), (27, .iconst 1, 1), (28, .if_icmp .ne 14, 3), (31, .aload_n 0, 1), (32, .getfield 9, 3), (35, .iconst 1, 1), (36, .iload_n 2, 1), (37, .iadd, 1), (38, .iaload, 1), (39, .goto 9, 3), (42, .aload_n 0, 1), (43, .iload_n 2, 1), (44, .iload_n 1, 1), (45, .invokevirtual 183, 3), (48, .iastore, 1), (49, .iinc 2 1, 3), (52, .goto (-50), 3), (55, .iconst 0, 1), (56, .istore_n 2, 1), (57, .iload_n 2, 1), (58, .aload_n 0, 1), (59, .getfield 9, 3), (62, .bipush 17, 2), (64, .iaload, 1), (65, .if_icmp .ge 23, 3), (68, .aload_n 0, 1), (69, .getfield 9, 3), (72, .iconst 1, 1), (73, .iload_n 2, 1), (74, .iadd, 1), (75, .aload_n 0, 1), (76, .getfield 34, 3), (79, .iload_n 2, 1), (80, .iaload, 1), (81, .iastore, 1), (82, .iinc 2 1, 3), (85, .goto (-28), 3), (88, .aload_n 0, 1), (89, .getfield 9, 3), (92, .iconst 0, 1), (93, .dup2, 1), (94, .iaload, 1), (95, .iconst 1, 1), (96, .iadd, 1), (97, .iastore, 1), (98, .return_, 1)]
theorem okX12_goesBy : okc cX12_goesBy kX12_goesBy := okc_of (by decide +kernel)
def kX12_goes : List Ins := [(0, .aload_n 0, 1), (1, .aload_n 0, 1), (2, .getfield 9, 3), (5, .bipush 13, 2), (7, .aload_n 0, 1), (8, .getfield 9, 3), (11, .iconst 0, 1), (12, .iaload, 1), (13, .iconst 4, 1), (14, .irem, 1), (15, .iadd, 1), (16, .iaload, 1), (17, .invokevirtual 186, 3), (20, .return_, 1)]
theorem okX12_goes : okc cX12_goes kX12_goes := okc_of (by decide +kernel)
def kX12_goesOn : List Ins := [(0, .iconst 0, 1), (1, .istore_n 2, 1), (2, .iload_n 2, 1), (3, .iload_n 1, 1), (4, .if_icmp .ge 13, 3), (7, .aload_n 0, 1), (8, .invokevirtual 189, 3), (11, .iinc 2 1, 3), (14, .goto (-12), 3), (17, .return_, 1)]
theorem okX12_goesOn : okc cX12_goesOn kX12_goesOn := okc_of (by decide +kernel)
def kX12_pass : List Ins := [(0, .iload_n 1, 1), (1, .iconst 0, 1), (2, .bipush 60, 2), (4, .invokestatic 44, 3), (7, .ifCond .ne 6, 3), (10, .bipush (-2), 2), (12, .ireturn, 1), (13, .aload_n 0, 1), (14, .getfield 9, 3), (17, .iconst 0, 1), (18, .iaload, 1), (19, .iload_n 1, 1), (20, .iadd, 1), (21, .sipush 9999, 3), (24, .if_icmp .le 6, 3), (27, .bipush (-3), 2), (29, .ireturn, 1), (30, .aload_n 0, 1), (31, .invokevirtual 149, 3), (34, .aload_n 0, 1), (35, .iload_n 1, 1), (36, .invokevirtual 192, 3), (39, .aload_n 0, 1), (40, .getfield 9, 3), (43, .iconst 0, 1), (44, .iaload, 1), (45, .ireturn, 1)]
theorem okX12_pass : okc cX12_pass kX12_pass := okc_of (by decide +kernel)
def kX12_on : List Ins := [(0, .iload_n 2, 1), (1, .iconst 0, 1), (2, .iconst 1, 1), (3, .invokestatic 44, 3), (6, .ifCond .ne 16, 3), (9, .aload_n 0, 1), (10, .iload_n 2, 1), (11, .bipush 10, 2), (13, .isub, 1), (14, .invokevirtual 144, 3), (17, .ifCond .ne 5, 3), (20, .iconst (-1), 1), (21, .ireturn, 1), (22, .iload_n 1, 1), (23, .iconst 0, 1), (24, .bipush 60, 2), (26, .invokestatic 44, 3), (29, .ifCond .ne 6, 3), (32, .bipush (-2), 2), (34, .ireturn, 1), (35, .aload_n 0, 1), (36, .invokevirtual 149, 3), (39, .aload_n 0, 1), (40, .invokevirtual 195, 3), (43, .aload_n 0, 1), (44, .iload_n 1, 1), (45, .invokevirtual 192, 3), (48, .iload_n 2, 1), (49, .ifCond .ne 10, 3), (52, .aload_n 0, 1), (53, .invokevirtual 167, 3), (56, .goto 26, 3), (59, .iload_n 2, 1), (60, .iconst 1, 1), (61, .if_icmp .ne 10, 3), (64, .aload_n 0, 1), (65, .invokevirtual 170, 3), (68, .goto 14, 3), (71, .aload_n 0, 1), (72, .getfield 9, 3), (75, .iconst 1, 1), (76, .iload_n 2, 1), (77, .iadd, 1), (78, .bipush 10, 2), (80, .isub, 1), (81, .iaload, 1), (82, .istore_n 3, 1), (83, .aload_n 0, 1), (84, .invokevirtual 198, 3), (87, .iload_n 3, 1), (88, .ireturn, 1)]
theorem okX12_on : okc cX12_on kX12_on := okc_of (by decide +kernel)
def kX12_tidesKnown : List Ins := [(0, .bipush 61, 2), (2, .istore_n 2, 1), (3, .iconst 0, 1), (4, .istore_n 3, 1), (5, .iload_n 3, 1), (6, .bipush 60, 2), (8, .if_icmp .gt 37, 3), (11, .iload_n 2, 1), (12, .bipush 61, 2), (14, .if_icmp .ne 31, 3), (17, .aload_n 0, 1), (18, .invokevirtual 167, 3), (21, .iload_n 1, 1), (22, .ishr, 1), (23, .iconst 1, 1), (24, .iand, 1), (25, .ifCond .ne 7, 3), (28, .iload_n 3, 1), (29, .goto 5, 3), (32, .bipush 61, 2), (34, .istore_n 2, 1), (35, .aload_n 0, 1), (36, .invokevirtual 189, 3), (39, .iinc 3 1, 3), (42, .goto (-37), 3), (45, .aload_n 0, 1), (46, .invokevirtual 198, 3), (49, .iload_n 2, 1), (50, .ireturn, 1)]
theorem okX12_tidesKnown : okc cX12_tidesKnown kX12_tidesKnown := okc_of (by decide +kernel)
def kX12_lasts : List Ins := [(0, .iload_n 1, 1), (1, .invokestatic 152, 3), (4, .ifCond .ne 5, 3), (7, .iconst (-1), 1), (8, .ireturn, 1), (9, .aload_n 0, 1), (10, .invokevirtual 149, 3), (13, .aload_n 0, 1), (14, .invokevirtual 195, 3), (17, .aload_n 0, 1), (18, .iload_n 1, 1), (19, .invokevirtual 201, 3), (22, .istore_n 2, 1), (23, .iload_n 2, 1), (24, .bipush 61, 2), (26, .if_icmp .ne 8, 3), (29, .bipush (-5), 2), (31, .goto 4, 3), (34, .iload_n 2, 1), (35, .ireturn, 1)]
theorem okX12_lasts : okc cX12_lasts kX12_lasts := okc_of (by decide +kernel)
def kX12_tell : List Ins := [(0, .iload_n 1, 1), (1, .invokestatic 152, 3), (4, .ifCond .ne 5, 3), (7, .iconst (-1), 1), (8, .ireturn, 1), (9, .aload_n 0, 1), (10, .invokevirtual 149, 3), (13, .bipush (-5), 2), (15, .istore_n 2, 1), (16, .iconst (-1), 1), (17, .istore_n 3, 1), (18, .iconst 0, 1), (19, .istore 4, 2), (21, .iload 4, 2), (23, .aload_n 0, 1), (24, .getfield 9, 3), (27, .bipush 17, 2), (29, .iaload, 1), (30, .if_icmp .ge 74, 3), (33, .aload_n 0, 1), (34, .getfield 9, 3), (37, .bipush 7, 2), (39, .iload 4, 2), (41, .iadd, 1), (42, .iaload, 1), (43, .ifCond .ne 55, 3), (46, .aload_n 0, 1), (47, .invokevirtual 195, 3), (50, .aload_n 0, 1), (51, .getfield 9, 3), (54, .iconst 1, 1), (55, .iload 4, 2), (57, .iadd, 1), (58, .dup2, 1), (59, .iaload, 1), (60, .iconst 1, 1), (61, .iload_n 1, 1), (62, .ishl, 1), (63, .ior, 1), (64, .iastore, 1), (65, .aload_n 0, 1), (66, .iload_n 1, 1), (67, .invokevirtual 201, 3), (70, .istore 5, 2), (72, .iload 5, 2), (74, .iload_n 3, 1), (75, .if_icmp .le 8, 3), (78, .iload 4, 2), (80, .goto 4, 3), (83, .iload_n 2, 1), (84, .istore_n 2, 1), (85, .iload 5, 2), (87, .iload_n 3, 1), (88, .if_icmp .le 8, 3), (91, .iload 5, 2), (93, .goto 4, 3), (96, .iload_n 3, 1), (97, .istore_n 3, 1), (98, .iinc 4 1, 3), (101, .goto (-80), 3), (104, .iload_n 2, 1), (105, .ireturn, 1)]
theorem okX12_tell : okc cX12_tell kX12_tell := okc_of (by decide +kernel)
def kX12_heldBehind : List Ins := [(0, .aload_n 0, 1), (1, .invokevirtual 195, 3), (4, .iload_n 1, 1), (5, .iconst 1, 1), (6, .if_icmp .ne 7, 3), (9, .iconst 1, 1), (10, .goto 15, 3), (13, .iload_n 1, 1), (14, .iconst 2, 1), (15, .if_icmp .ne 8, 3), (18, .bipush 9, 2), (20, .goto 5, 3), (23, .bipush 81, 2), (25, .istore_n 3, 1), (26, .iload_n 2, 1), (27, .istore 4, 2), (29, .iload_n 3, 1), (30, .ifCond .le 25, 3), (33, .aload_n 0, 1), (34, .iload 4, 2), (36, .iload_n 3, 1), (37, .idiv, 1), (38, .invokevirtual 186, 3), (41, .iload 4, 2), (43, .iload_n 3, 1), (44, .irem, 1), (45, .istore 4, 2), (47, .iload_n 3, 1), (48, .bipush 9, 2), (50, .idiv, 1), (51, .istore_n 3, 1), (52, .goto (-23), 3), (55, .aload_n 0, 1), (56, .invokevirtual 170, 3), (59, .istore 5, 2), (61, .aload_n 0, 1), (62, .invokevirtual 198, 3), (65, .iload 5, 2), (67, .ireturn, 1)]
theorem okX12_heldBehind : okc cX12_heldBehind kX12_heldBehind := okc_of (by decide +kernel)
def kX12_teach : List Ins := [(0, .iload_n 2, 1), (1, .iconst (-1), 1), (2, .iconst 2, 1), (3, .invokestatic 44, 3), (6, .ifCond .ne 5, 3), (9, .iconst (-1), 1), (10, .ireturn, 1), (11, .iload_n 1, 1), (12, .iconst 1, 1), (13, .iconst 3, 1), (14, .invokestatic 44, 3), (17, .ifCond .ne 6, 3), (20, .bipush (-2), 2), (22, .ireturn, 1), (23, .aload_n 0, 1), (24, .invokevirtual 149, 3), (27, .iload_n 1, 1), (28, .iconst 1, 1), (29, .if_icmp .ne 8, 3), (32, .bipush 9, 2), (34, .goto 16, 3), (37, .iload_n 1, 1), (38, .iconst 2, 1), (39, .if_icmp .ne 8, 3), (42, .bipush 81, 2), (44, .goto 6, 3), (47, .sipush 729, 3), (50, .istore_n 3, 1), (51, .iconst 0, 1), (52, .istore 4, 2), (54, .iconst (-1), 1), (55, .istore 5, 2), (57, .iconst 0, 1), (58, .istore 6, 2), (60, .iload 6, 2), (62, .iload_n 3, 1), (63, .if_icmp .ge 50, 3), (66, .aload_n 0, 1), (67, .iload_n 1, 1), (68, .iload 6, 2), (70, .invokevirtual 204, 3), (73, .istore 7, 2), (75, .iload 7, 2), (77, .iload 5, 2), (79, .if_icmp .le 8, 3), (82, .iload 6, 2), (84, .goto 5, 3), (87, .iload 4, 2), (89, .istore 4, 2), (91, .iload 7, 2), (93, .iload 5, 2), (95, .if_icmp .le 8, 3), (98, .iload 7, 2), (100, .goto 5, 3), (103, .iload 5, 2), (105, .istore 5, 2), (107, .iinc 6 1, 3), (110, .goto (-50), 3), (113, .iload_n 2, 1), (114, .iconst (-1), 1), (115, .if_icmp .ne 6, 3), (118, .iload 5, 2), (120, .ireturn, 1), (121, .iload_n 2, 1), (122, .iload_n 1, 1), (123, .iconst 1, 1), (124, .isub, 1), (125, .if_icmp .ne 7, 3), (128, .iconst 1, 1), (129, .goto 17, 3), (132, .iload_n 2, 1), (133, .iload_n 1, 1), (134, .iconst 2, 1), (135, .isub, 1), (136, .if_icmp .ne 8, 3), (139, .bipush 9, 2), (141, .goto 5, 3), (144, .bipush 81, 2), (146, .istore 6, 2), (148, .iload_n 2, 1), (149, .iload_n 1, 1), (150, .if_icmp .ge 14, 3), (153, .iload 4, 2), (155, .iload 6, 2), (157, .idiv, 1), (158, .bipush 9, 2), (160, .irem, 1), (161, .goto 5, 3), (164, .bipush (-5), 2), (166, .ireturn, 1)]
theorem okX12_teach : okc cX12_teach kX12_teach := okc_of (by decide +kernel)
def kX12_see : List Ins := [(0, .iload_n 1, 1), (1, .iconst (-1), 1), (2, .if_icmp .ne 13, 3), (5, .aload_n 0, 1), (6, .getfield 9, 3), (9, .bipush 19, 2), (11, .iconst 0, 1), (12, .iastore, 1), (13, .iconst 0, 1), (14, .ireturn, 1), (15, .aload_n 0, 1), (16, .iload_n 1, 1), (17, .invokevirtual 144, 3), (20, .ifCond .eq 10, 3), (23, .iload_n 3, 1), (24, .invokestatic 152, 3), (27, .ifCond .ne 5, 3), (30, .iconst (-1), 1), (31, .ireturn, 1), (32, .iload_n 2, 1), (33, .iconst 0, 1), (34, .bipush 12, 2), (36, .invokestatic 44, 3), (39, .ifCond .ne 6, 3), (42, .bipush (-2), 2), (44, .ireturn, 1), (45, .aload_n 0, 1), (46, .getfield 9, 3), (49, .bipush 19, 2), (51, .iaload, 1), (52, .iconst 5, 1), (53, .if_icmp .ne 6, 3), (56, .bipush (-4), 2), (58, .ireturn, 1), (59, .aload_n 0, 1), (60, .getfield 9, 3), (63, .bipush 60, 2), (65, .aload_n 0, 1), (66, .getfield 9, 3), (69, .bipush 19, 2), (71, .iaload, 1), (72, .iadd, 1), (73, .iload_n 1, 1), (74, .iastore, 1), (75, .aload_n 0, 1), (76, .getfield 9, 3), (79, .bipush 65, 2), (81, .aload_n 0, 1), (82, .getfield 9, 3), (85, .bipush 19, 2), (87, .iaload, 1), (88, .iadd, 1), (89, .iload_n 2, 1), (90, .iastore, 1), (91, .aload_n 0, 1), (92, .getfield 9, 3), (95, .bipush 70, 2), (97, .aload_n 0, 1), (98, .getfield 9, 3), (101, .bipush 19, 2), (103, .iaload, 1), (104, .iadd, 1), (105, .iload_n 3, 1), (106, .iastore, 1), (107, .aload_n 0, 1), (108, .getfield 9, 3), (111, .bipush 75, 2), (113, .aload_n 0, 1), (114, .getfield 9, 3), (117, .bipush 19, 2), (119, .iaload, 1), (120, .iadd, 1), (121, .iload 4, 2), (123, .ifCond .eq 7, 3), (126, .iconst 1, 1), (127, .goto 4, 3), (130, .iconst 0, 1), (131, .iastore, 1), (132, .aload_n 0, 1), (133, .getfield 9, 3), (136, .bipush 19, 2), (138, .dup2, 1), (139, .iaload, 1), (140, .iconst 1, 1), (141, .iadd, 1), (142, .iastore, 1), (143, .aload_n 0, 1), (144, .getfield 9, 3), (147, .bipush 19, 2), (149, .iaload, 1), (150, .ireturn, 1)]
theorem okX12_see : okc cX12_see kX12_see := okc_of (by decide +kernel)
def kX12_isAsSeen : List Ins := [(0, .iconst 1, 1), (1, .istore_n 2, 1), (2, .iconst 0, 1), (3, .istore_n 3, 1), (4, .iload_n 3, 1), (5, .aload_n 0, 1), (6, .getfield 9, 3), (9, .bipush 19, 2), (11, .iaload, 1), (12, .if_icmp .ge 76, 3), (15, .aload_n 0, 1), (16, .getfield 9, 3), (19, .iconst 1, 1), (20, .aload_n 0, 1), (21, .getfield 9, 3), (24, .bipush 60, 2), (26, .iload_n 3, 1), (27, .iadd, 1), (28, .iaload, 1), (29, .iadd, 1), (30, .iaload, 1), (31, .aload_n 0, 1), (32, .getfield 9, 3), (35, .bipush 70, 2), (37, .iload_n 3, 1), (38, .iadd, 1), (39, .iaload, 1), (40, .ishr, 1), (41, .iconst 1, 1), (42, .iand, 1), (43, .istore 4, 2), (45, .iload_n 2, 1), (46, .ifCond .eq 34, 3), (49, .aload_n 0, 1), (50, .getfield 9, 3), (53, .bipush 65, 2), (55, .iload_n 3, 1), (56, .iadd, 1), (57, .iaload, 1), (58, .iload_n 1, 1), (59, .if_icmp .ne 17, 3), (62, .iload 4, 2), (64, .aload_n 0, 1), (65, .getfield 9, 3), (68, .bipush 75, 2), (70, .iload_n 3, 1), (71, .iadd, 1), (72, .iaload, 1), (73, .if_icmp .ne 7, 3), (76, .iconst 1, 1), (77, .goto 4, 3), (80, .iconst 0, 1), (81, .istore_n 2, 1), (82, .iinc 3 1, 3), (85, .goto (-81), 3), (88, .iload_n 2, 1), (89, .ireturn, 1)]
theorem okX12_isAsSeen : okc cX12_isAsSeen kX12_isAsSeen := okc_of (by decide +kernel)
def kX12_areAsSeen : List Ins := [(0, .iconst 1, 1), (1, .istore_n 1, 1), (2, .iconst 0, 1), (3, .istore_n 2, 1), (4, .iload_n 2, 1), (5, .bipush 12, 2), (7, .if_icmp .gt 23, 3), (10, .iload_n 1, 1), (11, .ifCond .eq 19, 3), (14, .aload_n 0, 1), (15, .iload_n 2, 1), (16, .invokevirtual 207, 3), (19, .istore_n 1, 1), (20, .aload_n 0, 1), (21, .invokevirtual 189, 3), (24, .iinc 2 1, 3), (27, .goto (-23), 3), (30, .aload_n 0, 1), (31, .invokevirtual 198, 3), (34, .iload_n 1, 1), (35, .ireturn, 1)]
theorem okX12_areAsSeen : okc cX12_areAsSeen kX12_areAsSeen := okc_of (by decide +kernel)
def kX12_fitting : List Ins := [(0, .aload_n 0, 1), (1, .getfield 9, 3), (4, .iload_n 1, 1), (5, .iaload, 1), (6, .istore 4, 2), (8, .iconst 0, 1), (9, .istore 5, 2), (11, .bipush (-5), 2), (13, .istore 6, 2), (15, .aload_n 0, 1), (16, .invokevirtual 149, 3), (19, .iload_n 2, 1), (20, .istore 7, 2), (22, .iload 7, 2), (24, .ifCond .lt 66, 3), (27, .aload_n 0, 1), (28, .invokevirtual 195, 3), (31, .aload_n 0, 1), (32, .getfield 9, 3), (35, .iload_n 1, 1), (36, .iload 7, 2), (38, .iastore, 1), (39, .iload_n 2, 1), (40, .bipush 9, 2), (42, .if_icmp .ne 7, 3), (45, .aload_n 0, 1), (46, .invokevirtual 149, 3), (49, .aload_n 0, 1), (50, .invokevirtual 210, 3), (53, .istore 8, 2), (55, .iload 5, 2), (57, .iload 8, 2), (59, .ifCond .eq 7, 3), (62, .iconst 1, 1), (63, .goto 4, 3), (66, .iconst 0, 1), (67, .iadd, 1), (68, .istore 5, 2), (70, .iload 8, 2), (72, .ifCond .eq 8, 3), (75, .iload 7, 2), (77, .goto 5, 3), (80, .iload 6, 2), (82, .istore 6, 2), (84, .iinc 7 (-1), 3), (87, .goto (-65), 3), (90, .aload_n 0, 1), (91, .getfield 9, 3), (94, .iload_n 1, 1), (95, .iload 4, 2), (97, .iastore, 1), (98, .iload_n 3, 1), (99, .ifCond .ne 8, 3), (102, .iload 5, 2), (104, .goto 5, 3), (107, .iload 6, 2), (109, .ireturn, 1)]
theorem okX12_fitting : okc cX12_fitting kX12_fitting := okc_of (by decide +kernel)
def kX12_knew : List Ins := [(0, .aload_n 0, 1), (1, .iload_n 1, 1), (2, .invokevirtual 144, 3), (5, .ifCond .eq 26, 3), (8, .iload_n 2, 1), (9, .iconst 0, 1), (10, .iconst 1, 1), (11, .invokestatic 44, 3), (14, .ifCond .eq 17, 3), (17, .aload_n 0, 1), (18, .iconst 1, 1), (19, .iload_n 1, 1), (20, .iadd, 1), (21, .sipush 255, 3), (24, .iload_n 2, 1), (25, .invokevirtual 214, 3), (28, .goto 4, 3), (31, .iconst (-1), 1), (32, .ireturn, 1)]
theorem okX12_knew : okc cX12_knew kX12_knew := okc_of (by decide +kernel)
def kX12_firm : List Ins := [(0, .aload_n 0, 1), (1, .iload_n 1, 1), (2, .invokevirtual 144, 3), (5, .ifCond .eq 26, 3), (8, .iload_n 2, 1), (9, .iconst 0, 1), (10, .iconst 1, 1), (11, .invokestatic 44, 3), (14, .ifCond .eq 17, 3), (17, .aload_n 0, 1), (18, .bipush 30, 2), (20, .iload_n 1, 1), (21, .iadd, 1), (22, .bipush 9, 2), (24, .iload_n 2, 1), (25, .invokevirtual 214, 3), (28, .goto 4, 3), (31, .iconst (-1), 1), (32, .ireturn, 1)]
theorem okX12_firm : okc cX12_firm kX12_firm := okc_of (by decide +kernel)
def kX12_lowest : List Ins := [(0, .lload_n 0, 1), (1, .lstore 5, 2), (3, .lload_n 2, 1), (4, .lstore 7, 2), (6, .lload 7, 2), (8, .lconst 0, 1), (9, .lcmp, 1), (10, .ifCond .eq 21, 3), (13, .lload 5, 2), (15, .lload 7, 2), (17, .lrem, 1), (18, .lstore 9, 2), (20, .lload 7, 2), (22, .lstore 5, 2), (24, .lload 9, 2), (26, .lstore 7, 2), (28, .goto (-22), 3), (31, .iload 4, 2), (33, .ifCond .ne 7, 3), (36, .lload_n 0, 1), (37, .goto 4, 3), (40, .lload_n 2, 1), (41, .lload 5, 2), (43, .ldiv, 1), (44, .lreturn, 1)]
theorem okX12_lowest : okc cX12_lowest kX12_lowest := okc_of (by decide +kernel)
def kX12_odds : List Ins := [(0, .iload_n 1, 1), (1, .invokestatic 152, 3), (4, .ifCond .eq 22, 3), (7, .iload_n 2, 1), (8, .iconst 0, 1), (9, .bipush 60, 2), (11, .invokestatic 44, 3), (14, .ifCond .eq 12, 3), (17, .iload_n 3, 1), (18, .iconst 0, 1), (19, .iconst 1, 1), (20, .invokestatic 44, 3), (23, .ifCond .ne 7, 3), (26, .ldc2_w 218, 3), (29, .lreturn, 1), (30, .aload_n 0, 1), (31, .invokevirtual 149, 3), (34, .lconst 0, 1), (35, .lstore 4, 2), (37, .lconst 0, 1), (38, .lstore 6, 2), (40, .iconst 0, 1), (41, .istore 8, 2), (43, .iload 8, 2), (45, .aload_n 0, 1), (46, .getfield 9, 3), (49, .bipush 17, 2), (51, .iaload, 1), (52, .if_icmp .ge 65, 3), (55, .aload_n 0, 1), (56, .getfield 9, 3), (59, .bipush 7, 2), (61, .iload 8, 2), (63, .iadd, 1), (64, .iaload, 1), (65, .ifCond .ne 46, 3), (68, .aload_n 0, 1), (69, .invokevirtual 195, 3), (72, .aload_n 0, 1), (73, .getfield 9, 3), (76, .iconst 1, 1), (77, .iload 8, 2), (79, .iadd, 1), (80, .iconst 0, 1), (81, .iastore, 1), (82, .aload_n 0, 1), (83, .iload_n 2, 1), (84, .invokevirtual 192, 3), (87, .lload 4, 2), (89, .aload_n 0, 1), (90, .invokevirtual 167, 3), (93, .iload_n 1, 1), (94, .ishr, 1), (95, .iconst 1, 1), (96, .iand, 1), (97, .i2l, 1), (98, .ladd, 1), (99, .lstore 4, 2), (101, .lload 6, 2), (103, .lconst 1, 1), (104, .ladd, 1), (105, .lstore 6, 2), (107, .aload_n 0, 1), (108, .invokevirtual 198, 3), (111, .iinc 8 1, 3), (114, .goto (-71), 3), (117, .lload 6, 2), (119, .lconst 0, 1), (120, .lcmp, 1), (121, .ifCond .ne 9, 3), (124, .ldc2_w 218, 3), (127, .goto 11, 3), (130, .lload 4, 2), (132, .lload 6, 2), (134, .iload_n 3, 1), (135, .invokestatic 220, 3), (138, .lreturn, 1)]
theorem okX12_odds : okc cX12_odds kX12_odds := okc_of (by decide +kernel)
def kX12_mean : List Ins := [(0, .aload_n 0, 1), (1, .getfield 9, 3), (4, .bipush 17, 2), (6, .iaload, 1), (7, .aload_n 0, 1), (8, .invokevirtual 161, 3), (11, .invokestatic 133, 3), (14, .isub, 1), (15, .i2l, 1), (16, .lstore_n 2, 1), (17, .iload_n 1, 1), (18, .iconst 0, 1), (19, .iconst 1, 1), (20, .invokestatic 44, 3), (23, .ifCond .eq 9, 3), (26, .lload_n 2, 1), (27, .lconst 0, 1), (28, .lcmp, 1), (29, .ifCond .ne 9, 3), (32, .ldc2_w 218, 3), (35, .goto 13, 3), (38, .aload_n 0, 1), (39, .invokevirtual 170, 3), (42, .i2l, 1), (43, .lload_n 2, 1), (44, .iload_n 1, 1), (45, .invokestatic 220, 3), (48, .lreturn, 1)]
theorem okX12_mean : okc cX12_mean kX12_mean := okc_of (by decide +kernel)
def kX12_isPlan : List Ins := [(0, .iload_n 1, 1), (1, .ifCond .eq 50, 3), (4, .iload_n 1, 1), (5, .iconst 1, 1), (6, .iconst 2, 1), (7, .invokestatic 44, 3), (10, .ifCond .eq 11, 3), (13, .aload_n 0, 1), (14, .iload_n 2, 1), (15, .invokevirtual 144, 3), (18, .ifCond .ne 33, 3), (21, .iload_n 1, 1), (22, .iconst 3, 1), (23, .if_icmp .ne 32, 3), (26, .iload_n 2, 1), (27, .ifCond .lt 28, 3), (30, .aload_n 0, 1), (31, .iload_n 2, 1), (32, .bipush 10, 2), (34, .idiv, 1), (35, .invokevirtual 144, 3), (38, .ifCond .eq 17, 3), (41, .iload_n 2, 1), (42, .bipush 10, 2), (44, .irem, 1), (45, .invokestatic 152, 3), (48, .ifCond .eq 7, 3), (51, .iconst 1, 1), (52, .goto 4, 3), (55, .iconst 0, 1), (56, .ireturn, 1)]
theorem okX12_isPlan : okc cX12_isPlan kX12_isPlan := okc_of (by decide +kernel)
def kX12_plan : List Ins := [(0, .iload_n 1, 1), (1, .iconst (-1), 1), (2, .if_icmp .ne 13, 3), (5, .aload_n 0, 1), (6, .getfield 9, 3), (9, .bipush 20, 2), (11, .iconst 0, 1), (12, .iastore, 1), (13, .iconst 0, 1), (14, .ireturn, 1), (15, .aload_n 0, 1), (16, .iload_n 1, 1), (17, .iload_n 2, 1), (18, .invokevirtual 224, 3), (21, .ifCond .ne 5, 3), (24, .iconst (-1), 1), (25, .ireturn, 1), (26, .aload_n 0, 1), (27, .getfield 9, 3), (30, .bipush 20, 2), (32, .iaload, 1), (33, .bipush 8, 2), (35, .if_icmp .ne 6, 3), (38, .bipush (-4), 2), (40, .ireturn, 1), (41, .aload_n 0, 1), (42, .getfield 9, 3), (45, .bipush 80, 2), (47, .aload_n 0, 1), (48, .getfield 9, 3), (51, .bipush 20, 2), (53, .iaload, 1), (54, .iadd, 1), (55, .iload_n 1, 1), (56, .iastore, 1), (57, .aload_n 0, 1), (58, .getfield 9, 3), (61, .bipush 88, 2), (63, .aload_n 0, 1), (64, .getfield 9, 3), (67, .bipush 20, 2), (69, .iaload, 1), (70, .iadd, 1), (71, .iload_n 2, 1), (72, .iastore, 1), (73, .aload_n 0, 1), (74, .getfield 9, 3), (77, .bipush 20, 2), (79, .dup2, 1), (80, .iaload, 1), (81, .iconst 1, 1), (82, .iadd, 1), (83, .iastore, 1), (84, .aload_n 0, 1), (85, .getfield 9, 3), (88, .bipush 20, 2), (90, .iaload, 1), (91, .ireturn, 1)]
theorem okX12_plan : okc cX12_plan kX12_plan := okc_of (by decide +kernel)
def kX12_does : List Ins := [(0, .iload_n 1, 1), (1, .tableswitch 60 0 2 #[27, 34, 47], 27), (28, .aload_n 0, 1), (29, .invokevirtual 189, 3), (32, .goto 49, 3), (35, .aload_n 0, 1), (36, .getfield 9, 3), (39, .bipush 7, 2), (41, .iload_n 2, 1), (42, .iadd, 1), (43, .iconst 1, 1), (44, .iastore, 1), (45, .goto 36, 3), (48, .aload_n 0, 1), (49, .getfield 9, 3), (52, .bipush 7, 2), (54, .iload_n 2, 1), (55, .iadd, 1), (56, .iconst 0, 1), (57, .iastore, 1), (58, .goto 23, 3), (61, .aload_n 0, 1), (62, .getfield 9, 3), (65, .iconst 1, 1), (66, .iload_n 2, 1), (67, .bipush 10, 2), (69, .idiv, 1), (70, .iadd, 1), (71, .dup2, 1), (72, .iaload, 1), (73, .iconst 1, 1), (74, .iload_n 2, 1), (75, .bipush 10, 2), (77, .irem, 1), (78, .ishl, 1), (79, .ior, 1), (80, .iastore, 1), (81, .return_, 1)]
theorem okX12_does : okc cX12_does kX12_does := okc_of (by decide +kernel)
def kX12_done : List Ins := [(0, .iload_n 1, 1), (1, .iconst 0, 1), (2, .iconst 1, 1), (3, .invokestatic 44, 3), (6, .ifCond .ne 5, 3), (9, .iconst (-1), 1), (10, .ireturn, 1), (11, .aload_n 0, 1), (12, .invokevirtual 149, 3), (15, .aload_n 0, 1), (16, .invokevirtual 195, 3), (19, .iconst 0, 1), (20, .istore_n 2, 1), (21, .iload_n 2, 1), (22, .aload_n 0, 1), (23, .getfield 9, 3), (26, .bipush 20, 2), (28, .iaload, 1), (29, .if_icmp .ge 31, 3), (32, .aload_n 0, 1), (33, .aload_n 0, 1), (34, .getfield 9, 3), (37, .bipush 80, 2), (39, .iload_n 2, 1), (40, .iadd, 1), (41, .iaload, 1), (42, .aload_n 0, 1), (43, .getfield 9, 3), (46, .bipush 88, 2), (48, .iload_n 2, 1), (49, .iadd, 1), (50, .iaload, 1), (51, .invokevirtual 227, 3), (54, .iinc 2 1, 3), (57, .goto (-36), 3), (60, .iload_n 1, 1), (61, .ifCond .ne 10, 3), (64, .aload_n 0, 1), (65, .invokevirtual 167, 3), (68, .goto 7, 3), (71, .aload_n 0, 1), (72, .invokevirtual 170, 3), (75, .istore_n 2, 1), (76, .aload_n 0, 1), (77, .invokevirtual 198, 3), (80, .iload_n 2, 1), (81, .ireturn, 1)]
theorem okX12_done : okc cX12_done kX12_done := okc_of (by decide +kernel)
def kX12_book : List Ins := [(0, .iload_n 1, 1), (1, .iconst (-1), 1), (2, .if_icmp .ne 13, 3), (5, .aload_n 0, 1), (6, .getfield 9, 3), (9, .bipush 21, 2), (11, .iconst 0, 1), (12, .iastore, 1), (13, .iconst 0, 1), (14, .ireturn, 1), (15, .aload_n 0, 1), (16, .iload_n 1, 1), (17, .invokevirtual 144, 3), (20, .ifCond .ne 5, 3), (23, .iconst (-1), 1), (24, .ireturn, 1), (25, .iload_n 2, 1), (26, .iconst 0, 1), (27, .sipush 255, 3), (30, .invokestatic 44, 3), (33, .ifCond .ne 6, 3), (36, .bipush (-2), 2), (38, .ireturn, 1), (39, .aload_n 0, 1), (40, .getfield 9, 3), (43, .bipush 21, 2), (45, .iaload, 1), (46, .bipush 8, 2), (48, .if_icmp .ne 6, 3), (51, .bipush (-4), 2), (53, .ireturn, 1), (54, .aload_n 0, 1), (55, .getfield 9, 3), (58, .bipush 96, 2), (60, .aload_n 0, 1), (61, .getfield 9, 3), (64, .bipush 21, 2), (66, .iaload, 1), (67, .iadd, 1), (68, .iload_n 1, 1), (69, .iastore, 1), (70, .aload_n 0, 1), (71, .getfield 9, 3), (74, .bipush 104, 2), (76, .aload_n 0, 1), (77, .getfield 9, 3), (80, .bipush 21, 2), (82, .iaload, 1), (83, .iadd, 1), (84, .iload_n 2, 1), (85, .iastore, 1), (86, .aload_n 0, 1), (87, .getfield 9, 3), (90, .bipush 21, 2), (92, .dup2, 1), (93, .iaload, 1), (94, .iconst 1, 1), (95, .iadd, 1), (96, .iastore, 1), (97, .aload_n 0, 1), (98, .getfield 9, 3), (101, .bipush 21, 2), (103, .iaload, 1), (104, .ireturn, 1)]
theorem okX12_book : okc cX12_book kX12_book := okc_of (by decide +kernel)
def kX12_looked : List Ins := [(0, .iconst 0, 1), (1, .istore_n 1, 1), (2, .iload_n 1, 1), (3, .aload_n 0, 1), (4, .getfield 9, 3), (7, .bipush 21, 2), (9, .iaload, 1), (10, .if_icmp .ge 39, 3), (13, .aload_n 0, 1), (14, .getfield 9, 3), (17, .iconst 1, 1), (18, .aload_n 0, 1), (19, .getfield 9, 3), (22, .bipush 96, 2), (24, .iload_n 1, 1), (25, .iadd, 1), (26, .iaload, 1), (27, .iadd, 1), (28, .iaload, 1), (29, .aload_n 0, 1), (30, .getfield 9, 3), (33, .bipush 104, 2), (35, .iload_n 1, 1), (36, .iadd, 1), (37, .iaload, 1), (38, .if_icmp .eq 5, 3), (41, .iload_n 1, 1), (42, .ireturn, 1), (43, .iinc 1 1, 3), (46, .goto (-44), 3), (49, .bipush (-5), 2), (51, .ireturn, 1)]
theorem okX12_looked : okc cX12_looked kX12_looked := okc_of (by decide +kernel)
def kX12_ranBody : List Ins := [(0, .aload_n 0, 1), (1, .getfield 231, 3), (4, .bipush 20, 2), (6, .if_icmp .ge 13, 3), (9, .aload_n 0, 1), (10, .getfield 37, 3), (13, .aload_n 0, 1), (14, .getfield 231, 3), (17, .iload_n 1, 1), (18, .iastore, 1), (19, .aload_n 0, 1), (20, .dup, 1), (21, .getfield 231, 3), (24, .iconst 1, 1), (25, .iadd, 1), (26, .putfield 231, 3), (29, .return_, 1)]
theorem okX12_ranBody : okc cX12_ranBody kX12_ranBody := okc_of (by decide +kernel)
def kX12_isUnder : List Ins := [(0, .iload_n 1, 1), (1, .ifCond .eq 24, 3), (4, .iload_n 1, 1), (5, .iload_n 0, 1), (6, .if_icmp .eq 19, 3), (9, .iload_n 1, 1), (10, .ifCond .le 19, 3), (13, .iload_n 1, 1), (14, .iconst 4, 1), (15, .if_icmp .ge 14, 3), (18, .iload_n 0, 1), (19, .iload_n 1, 1), (20, .iconst 3, 1), (21, .iadd, 1), (22, .if_icmp .ne 7, 3), (25, .iconst 1, 1), (26, .goto 4, 3), (29, .iconst 0, 1), (30, .ireturn, 1)]
theorem okX12_isUnder : okc cX12_isUnder kX12_isUnder := okc_of (by decide +kernel)
def kX12_plainLeans : List Ins := [(0, .aload_n 0, 1), (1, .iconst 1, 1), (2, .invokevirtual 234, 3), (5, .iload_n 1, 1), (6, .aload_n 0, 1), (7, .getfield 237, 3), (10, .iadd, 1), (11, .ireturn, 1)]
theorem okX12_plainLeans : okc cX12_plainLeans kX12_plainLeans := okc_of (by decide +kernel)
def kX12_leansActs : List Ins := [(0, .aload_n 0, 1), (1, .getfield 240, 3), (4, .iconst 1, 1), (5, .invokestatic 243, 3), (8, .ifCond .eq 17, 3), (11, .aload_n 0, 1), (12, .bipush 11, 2), (14, .invokevirtual 234, 3), (17, .aload_n 0, 1), (18, .iload_n 1, 1), (19, .iconst 3, 1), (20, .imul, 1), (21, .invokevirtual 246, 3), (24, .ireturn, 1), (25, .aload_n 0, 1), (26, .getfield 240, 3), (29, .iconst 5, 1), (30, .if_icmp .ne 20, 3), (33, .aload_n 0, 1), (34, .bipush 51, 2), (36, .invokevirtual 234, 3), (39, .aload_n 0, 1), (40, .iload_n 1, 1), (41, .invokevirtual 246, 3), (44, .aload_n 0, 1), (45, .getfield 237, 3), (48, .ixor, 1), (49, .ireturn, 1), (50, .aload_n 0, 1), (51, .iload_n 1, 1), (52, .invokevirtual 246, 3), (55, .ireturn, 1)]
theorem okX12_leansActs : okc cX12_leansActs kX12_leansActs := okc_of (by decide +kernel)
def kX12_plainSays : List Ins := [(0, .aload_n 0, 1), (1, .iconst 2, 1), (2, .invokevirtual 234, 3), (5, .aload_n 0, 1), (6, .iload_n 1, 1), (7, .invokevirtual 249, 3), (10, .aload_n 0, 1), (11, .getfield 252, 3), (14, .isub, 1), (15, .ireturn, 1)]
theorem okX12_plainSays : okc cX12_plainSays kX12_plainSays := okc_of (by decide +kernel)
def kX12_saysActs : List Ins := [(0, .aload_n 0, 1), (1, .getfield 240, 3), (4, .iconst 2, 1), (5, .invokestatic 243, 3), (8, .ifCond .eq 16, 3), (11, .aload_n 0, 1), (12, .bipush 21, 2), (14, .invokevirtual 234, 3), (17, .aload_n 0, 1), (18, .iload_n 1, 1), (19, .invokevirtual 255, 3), (22, .ineg, 1), (23, .ireturn, 1), (24, .aload_n 0, 1), (25, .getfield 240, 3), (28, .bipush 6, 2), (30, .if_icmp .ne 20, 3), (33, .aload_n 0, 1), (34, .bipush 61, 2), (36, .invokevirtual 234, 3), (39, .aload_n 0, 1), (40, .iload_n 1, 1), (41, .invokevirtual 255, 3), (44, .aload_n 0, 1), (45, .getfield 252, 3), (48, .iadd, 1), (49, .ireturn, 1), (50, .aload_n 0, 1), (51, .iload_n 1, 1), (52, .invokevirtual 255, 3), (55, .ireturn, 1)]
theorem okX12_saysActs : okc cX12_saysActs kX12_saysActs := okc_of (by decide +kernel)
def kX12_plainTelling : List Ins := [(0, .aload_n 0, 1), (1, .iconst 3, 1), (2, .invokevirtual 234, 3), (5, .aload_n 0, 1), (6, .iload_n 1, 1), (7, .invokevirtual 258, 3), (10, .iconst 2, 1), (11, .imul, 1), (12, .ireturn, 1)]
theorem okX12_plainTelling : okc cX12_plainTelling kX12_plainTelling := okc_of (by decide +kernel)
def kX12_bristlesActs : List Ins := [(0, .aload_n 0, 1), (1, .getfield 240, 3), (4, .iconst 3, 1), (5, .invokestatic 243, 3), (8, .ifCond .eq 18, 3), (11, .aload_n 0, 1), (12, .bipush 31, 2), (14, .invokevirtual 234, 3), (17, .aload_n 0, 1), (18, .iload_n 1, 1), (19, .invokevirtual 261, 3), (22, .bipush 7, 2), (24, .ixor, 1), (25, .ireturn, 1), (26, .aload_n 0, 1), (27, .getfield 240, 3), (30, .iconst 4, 1), (31, .if_icmp .ne 25, 3), (34, .aload_n 0, 1), (35, .bipush 41, 2), (37, .invokevirtual 234, 3), (40, .aload_n 0, 1), (41, .iload_n 1, 1), (42, .iconst 1, 1), (43, .isub, 1), (44, .invokevirtual 261, 3), (47, .istore_n 2, 1), (48, .iload_n 2, 1), (49, .aload_n 0, 1), (50, .iconst 2, 1), (51, .invokevirtual 249, 3), (54, .iadd, 1), (55, .ireturn, 1), (56, .aload_n 0, 1), (57, .iload_n 1, 1), (58, .invokevirtual 261, 3), (61, .ireturn, 1)]
theorem okX12_bristlesActs : okc cX12_bristlesActs kX12_bristlesActs := okc_of (by decide +kernel)
def kX12_act : List Ins := [(0, .aload_n 0, 1), (1, .iconst 0, 1), (2, .putfield 231, 3), (5, .aload_n 0, 1), (6, .iload_n 1, 1), (7, .invokevirtual 144, 3), (10, .ifCond .eq 12, 3), (13, .iload_n 2, 1), (14, .iconst 0, 1), (15, .iconst 2, 1), (16, .invokestatic 44, 3), (19, .ifCond .ne 5, 3), (22, .iconst 0, 1), (23, .ireturn, 1), (24, .aload_n 0, 1), (25, .aload_n 0, 1), (26, .getfield 9, 3), (29, .bipush 24, 2), (31, .iload_n 1, 1), (32, .iadd, 1), (33, .iaload, 1), (34, .putfield 240, 3), (37, .aload_n 0, 1), (38, .iload_n 1, 1), (39, .putfield 237, 3), (42, .aload_n 0, 1), (43, .aload_n 0, 1), (44, .getfield 9, 3), (47, .bipush 30, 2), (49, .iload_n 1, 1), (50, .iadd, 1), (51, .iaload, 1), (52, .putfield 252, 3), (55, .iload_n 2, 1), (56, .ifCond .ne 11, 3), (59, .aload_n 0, 1), (60, .iload_n 3, 1), (61, .invokevirtual 249, 3), (64, .goto 21, 3), (67, .iload_n 2, 1), (68, .iconst 1, 1), (69, .if_icmp .ne 11, 3), (72, .aload_n 0, 1), (73, .iload_n 3, 1), (74, .invokevirtual 258, 3), (77, .goto 8, 3), (80, .aload_n 0, 1), (81, .iload_n 3, 1), (82, .invokevirtual 264, 3), (85, .ireturn, 1)]
theorem okX12_act : okc cX12_act kX12_act := okc_of (by decide +kernel)
def kX12_trace : List Ins := [(0, .iload_n 1, 1), (1, .iconst 0, 1), (2, .aload_n 0, 1), (3, .getfield 231, 3), (6, .bipush 20, 2), (8, .if_icmp .ge 10, 3), (11, .aload_n 0, 1), (12, .getfield 231, 3), (15, .goto 5, 3), (18, .bipush 20, 2), (20, .iconst 1, 1), (21, .isub, 1), (22, .invokestatic 44, 3), (25, .ifCond .eq 12, 3), (28, .aload_n 0, 1), (29, .getfield 37, 3), (32, .iload_n 1, 1), (33, .iaload, 1), (34, .goto 4, 3), (37, .iconst (-1), 1), (38, .ireturn, 1)]
theorem okX12_trace : okc cX12_trace kX12_trace := okc_of (by decide +kernel)
def kX12_as : List Ins := [(0, .aload_n 0, 1), (1, .iload_n 1, 1), (2, .invokevirtual 144, 3), (5, .ifCond .eq 13, 3), (8, .iload_n 2, 1), (9, .iconst 0, 1), (10, .bipush 6, 2), (12, .invokestatic 44, 3), (15, .ifCond .ne 5, 3), (18, .iconst (-1), 1), (19, .ireturn, 1), (20, .aload_n 0, 1), (21, .getfield 9, 3), (24, .bipush 24, 2), (26, .iload_n 1, 1), (27, .iadd, 1), (28, .iaload, 1), (29, .iload_n 2, 1), (30, .invokestatic 243, 3), (33, .ifCond .eq 15, 3), (36, .aload_n 0, 1), (37, .getfield 9, 3), (40, .bipush 30, 2), (42, .iload_n 1, 1), (43, .iadd, 1), (44, .iaload, 1), (45, .goto 5, 3), (48, .bipush (-6), 2), (50, .ireturn, 1)]
theorem okX12_as : okc cX12_as kX12_as := okc_of (by decide +kernel)
def kX12_image : List Ins := [(0, .iconst 0, 1), (1, .istore_n 1, 1), (2, .iload_n 1, 1), (3, .sipush 927, 3), (6, .if_icmp .ge 21, 3), (9, .aload_n 0, 1), (10, .getfield 15, 3), (13, .iload_n 1, 1), (14, .aload_n 0, 1), (15, .getfield 9, 3), (18, .iload_n 1, 1), (19, .iaload, 1), (20, .iastore, 1), (21, .iinc 1 1, 3), (24, .goto (-22), 3), (27, .aload_n 0, 1), (28, .iconst 1, 1), (29, .putfield 267, 3), (32, .aload_n 0, 1), (33, .getfield 9, 3), (36, .bipush 17, 2), (38, .iaload, 1), (39, .ireturn, 1)]
theorem okX12_image : okc cX12_image kX12_image := okc_of (by decide +kernel)
def kX12_undo : List Ins := [(0, .aload_n 0, 1), (1, .getfield 267, 3), (4, .ifCond .ne 6, 3), (7, .bipush (-3), 2), (9, .ireturn, 1), (10, .iconst 0, 1), (11, .istore_n 1, 1), (12, .iload_n 1, 1), (13, .sipush 927, 3), (16, .if_icmp .ge 21, 3), (19, .aload_n 0, 1), (20, .getfield 9, 3), (23, .iload_n 1, 1), (24, .aload_n 0, 1), (25, .getfield 15, 3), (28, .iload_n 1, 1), (29, .iaload, 1), (30, .iastore, 1), (31, .iinc 1 1, 3), (34, .goto (-22), 3), (37, .aload_n 0, 1), (38, .getfield 9, 3), (41, .bipush 17, 2), (43, .iaload, 1), (44, .ireturn, 1)]
theorem okX12_undo : okc cX12_undo kX12_undo := okc_of (by decide +kernel)
def kX12_count : List Ins := [(0, .iload_n 1, 1), (1, .bipush 6, 2), (3, .if_icmp .ne 10, 3), (6, .aload_n 0, 1), (7, .getfield 231, 3), (10, .goto 25, 3), (13, .iload_n 1, 1), (14, .iconst 0, 1), (15, .iconst 5, 1), (16, .invokestatic 44, 3), (19, .ifCond .eq 15, 3), (22, .aload_n 0, 1), (23, .getfield 9, 3), (26, .bipush 17, 2), (28, .iload_n 1, 1), (29, .iadd, 1), (30, .iaload, 1), (31, .goto 4, 3), (34, .iconst (-1), 1), (35, .ireturn, 1)]
theorem okX12_count : okc cX12_count kX12_count := okc_of (by decide +kernel)
def kJ6_bitCount_0f7a4 : List Ins := [(0, .iload_n 0, 1), (1, .iload_n 0, 1), (2, .iconst 1, 1), (3, .iushr, 1), (4, .ldc_w 265, 3), (7, .iand, 1), (8, .isub, 1), (9, .istore_n 0, 1), (10, .iload_n 0, 1), (11, .ldc_w 266, 3), (14, .iand, 1), (15, .iload_n 0, 1), (16, .iconst 2, 1), (17, .iushr, 1), (18, .ldc_w 266, 3), (21, .iand, 1), (22, .iadd, 1), (23, .istore_n 0, 1), (24, .iload_n 0, 1), (25, .iload_n 0, 1), (26, .iconst 4, 1), (27, .iushr, 1), (28, .iadd, 1), (29, .ldc_w 267, 3), (32, .iand, 1), (33, .istore_n 0, 1), (34, .iload_n 0, 1), (35, .iload_n 0, 1), (36, .bipush 8, 2), (38, .iushr, 1), (39, .iadd, 1), (40, .istore_n 0, 1), (41, .iload_n 0, 1), (42, .iload_n 0, 1), (43, .bipush 16, 2), (45, .iushr, 1), (46, .iadd, 1), (47, .istore_n 0, 1), (48, .iload_n 0, 1), (49, .bipush 63, 2), (51, .iand, 1), (52, .ireturn, 1)]
theorem okJ6_bitCount_0f7a4 : okc cJ6_bitCount_0f7a4 kJ6_bitCount_0f7a4 := okc_of (by decide +kernel)
def kJ9_max_7cf53 : List Ins := [(0, .iload_n 0, 1), (1, .iload_n 1, 1), (2, .if_icmp .lt 7, 3), (5, .iload_n 0, 1), (6, .goto 4, 3), (9, .iload_n 1, 1), (10, .ireturn, 1)]
theorem okJ9_max_7cf53 : okc cJ9_max_7cf53 kJ9_max_7cf53 := okc_of (by decide +kernel)
def kJ9_min_7cf53 : List Ins := [(0, .iload_n 0, 1), (1, .iload_n 1, 1), (2, .if_icmp .gt 7, 3), (5, .iload_n 0, 1), (6, .goto 4, 3), (9, .iload_n 1, 1), (10, .ireturn, 1)]
theorem okJ9_min_7cf53 : okc cJ9_min_7cf53 kJ9_min_7cf53 := okc_of (by decide +kernel)
def kJ0_length_8abf5 : List Ins := [(0, .aload_n 0, 1), (1, .getfield 9, 3), (4, .arraylength, 1), (5, .aload_n 0, 1), (6, .invokevirtual 335, 3), (9, .ishr, 1), (10, .ireturn, 1)]
theorem okJ0_length_8abf5 : okc cJ0_length_8abf5 kJ0_length_8abf5 := okc_of (by decide +kernel)
def kJ0_charAt_5068e : List Ins := [(0, .aload_n 0, 1), (1, .invokevirtual 492, 3), (4, .ifCond .eq 12, 3), (7, .aload_n 0, 1), (8, .getfield 9, 3), (11, .iload_n 1, 1), (12, .invokestatic 495, 3), (15, .ireturn, 1), (16, .aload_n 0, 1), (17, .getfield 9, 3), (20, .iload_n 1, 1), (21, .invokestatic 498, 3), (24, .ireturn, 1)]
theorem okJ0_charAt_5068e : okc cJ0_charAt_5068e kJ0_charAt_5068e := okc_of (by decide +kernel)
def kJ0_indexOf_0f7a4 : List Ins := [(0, .aload_n 0, 1), (1, .iload_n 1, 1), (2, .iconst 0, 1), (3, .invokevirtual 633, 3), (6, .ireturn, 1)]
theorem okJ0_indexOf_0f7a4 : okc cJ0_indexOf_0f7a4 kJ0_indexOf_0f7a4 := okc_of (by decide +kernel)
def kJ0_indexOf_7cf53 : List Ins := [(0, .aload_n 0, 1), (1, .invokevirtual 492, 3), (4, .ifCond .eq 19, 3), (7, .aload_n 0, 1), (8, .getfield 9, 3), (11, .iload_n 1, 1), (12, .iload_n 2, 1), (13, .aload_n 0, 1), (14, .invokevirtual 505, 3), (17, .invokestatic 637, 3), (20, .goto 16, 3), (23, .aload_n 0, 1), (24, .getfield 9, 3), (27, .iload_n 1, 1), (28, .iload_n 2, 1), (29, .aload_n 0, 1), (30, .invokevirtual 505, 3), (33, .invokestatic 640, 3), (36, .ireturn, 1)]
theorem okJ0_indexOf_7cf53 : okc cJ0_indexOf_7cf53 kJ0_indexOf_7cf53 := okc_of (by decide +kernel)
def kJ0_coder_7d493 : List Ins := [(0, .getstatic 38, 3), (3, .ifCond .eq 10, 3), (6, .aload_n 0, 1), (7, .getfield 15, 3), (10, .goto 4, 3), (13, .iconst 1, 1), (14, .ireturn, 1)]
theorem okJ0_coder_7d493 : okc cJ0_coder_7d493 kJ0_coder_7d493 := okc_of (by decide +kernel)
def kJ0_isLatin1_aae02 : List Ins := [(0, .getstatic 38, 3), (3, .ifCond .eq 14, 3), (6, .aload_n 0, 1), (7, .getfield 15, 3), (10, .ifCond .ne 7, 3), (13, .iconst 1, 1), (14, .goto 4, 3), (17, .iconst 0, 1), (18, .ireturn, 1)]
theorem okJ0_isLatin1_aae02 : okc cJ0_isLatin1_aae02 kJ0_isLatin1_aae02 := okc_of (by decide +kernel)
def kJ0_checkIndex_df160 : List Ins := [(0, .iload_n 0, 1), (1, .iload_n 1, 1), (2, .getstatic 1053, 3), (5, .invokestatic 1059, 3), (8, .pop, 1), (9, .return_, 1)]
theorem okJ0_checkIndex_df160 : okc cJ0_checkIndex_df160 kJ0_checkIndex_df160 := okc_of (by decide +kernel)
def kJ0_checkBoundsBeginEnd_23922 : List Ins := [(0, .iload_n 0, 1), (1, .iload_n 1, 1), (2, .iload_n 2, 1), (3, .getstatic 1053, 3), (6, .invokestatic 1062, 3), (9, .pop, 1), (10, .return_, 1)]
theorem okJ0_checkBoundsBeginEnd_23922 : okc cJ0_checkBoundsBeginEnd_23922 kJ0_checkBoundsBeginEnd_23922 := okc_of (by decide +kernel)
def kJ1_charAt_3b067 : List Ins := [(0, .iload_n 1, 1), (1, .aload_n 0, 1), (2, .arraylength, 1), (3, .invokestatic 9, 3), (6, .aload_n 0, 1), (7, .iload_n 1, 1), (8, .baload, 1), (9, .sipush 255, 3), (12, .iand, 1), (13, .i2c, 1), (14, .ireturn, 1)]
theorem okJ1_charAt_3b067 : okc cJ1_charAt_3b067 kJ1_charAt_3b067 := okc_of (by decide +kernel)
def kJ1_canEncode_9a6ad : List Ins := [(0, .iload_n 0, 1), (1, .ifCond .lt 14, 3), (4, .iload_n 0, 1), (5, .sipush 255, 3), (8, .if_icmp .gt 7, 3), (11, .iconst 1, 1), (12, .goto 4, 3), (15, .iconst 0, 1), (16, .ireturn, 1)]
theorem okJ1_canEncode_9a6ad : okc cJ1_canEncode_9a6ad kJ1_canEncode_9a6ad := okc_of (by decide +kernel)
def kJ1_indexOf_4cfef : List Ins := [(0, .iload_n 1, 1), (1, .invokestatic 88, 3), (4, .ifCond .ne 5, 3), (7, .iconst (-1), 1), (8, .ireturn, 1), (9, .iload_n 2, 1), (10, .iconst 0, 1), (11, .invokestatic 92, 3), (14, .istore_n 2, 1), (15, .iload_n 3, 1), (16, .aload_n 0, 1), (17, .arraylength, 1), (18, .invokestatic 38, 3), (21, .istore_n 3, 1), (22, .iload_n 2, 1), (23, .iload_n 3, 1), (24, .if_icmp .lt 5, 3), (27, .iconst (-1), 1), (28, .ireturn, 1), (29, .aload_n 0, 1), (30, .iload_n 1, 1), (31, .iload_n 2, 1), (32, .iload_n 3, 1), (33, .invokestatic 95, 3), (36, .ireturn, 1)]
theorem okJ1_indexOf_4cfef : okc cJ1_indexOf_4cfef kJ1_indexOf_4cfef := okc_of (by decide +kernel)
def kJ1_indexOfChar_4cfef : List Ins := [(0, .iload_n 1, 1), (1, .i2b, 1), (2, .istore 4, 2), (4, .iload_n 2, 1), (5, .istore 5, 2), (7, .iload 5, 2), (9, .iload_n 3, 1), (10, .if_icmp .ge 21, 3), (13, .aload_n 0, 1), (14, .iload 5, 2), (16, .baload, 1), (17, .iload 4, 2), (19, .if_icmp .ne 6, 3), (22, .iload 5, 2), (24, .ireturn, 1), (25, .iinc 5 1, 3), (28, .goto (-21), 3), (31, .iconst (-1), 1), (32, .ireturn, 1)]
theorem okJ1_indexOfChar_4cfef : okc cJ1_indexOfChar_4cfef kJ1_indexOfChar_4cfef := okc_of (by decide +kernel)
def kJ7_fill_53178 : List Ins := [(0, .iconst 0, 1), (1, .istore_n 2, 1), (2, .aload_n 0, 1), (3, .arraylength, 1), (4, .istore_n 3, 1), (5, .iload_n 2, 1), (6, .iload_n 3, 1), (7, .if_icmp .ge 13, 3), (10, .aload_n 0, 1), (11, .iload_n 2, 1), (12, .iload_n 1, 1), (13, .iastore, 1), (14, .iinc 2 1, 3), (17, .goto (-12), 3), (20, .return_, 1)]
theorem okJ7_fill_53178 : okc cJ7_fill_53178 kJ7_fill_53178 := okc_of (by decide +kernel)
def kJ3_checkIndex_8e157 : List Ins := [(0, .iload_n 0, 1), (1, .ifCond .lt 8, 3), (4, .iload_n 0, 1), (5, .iload_n 1, 1), (6, .if_icmp .lt 10, 3), (9, .aload_n 2, 1), (10, .iload_n 0, 1), (11, .iload_n 1, 1), (12, .invokestatic 95, 3), (15, .athrow, 1), (16, .iload_n 0, 1), (17, .ireturn, 1)]
theorem okJ3_checkIndex_8e157 : okc cJ3_checkIndex_8e157 kJ3_checkIndex_8e157 := okc_of (by decide +kernel)
def kJ3_checkFromToIndex_8c36e : List Ins := [(0, .iload_n 0, 1), (1, .ifCond .lt 13, 3), (4, .iload_n 0, 1), (5, .iload_n 1, 1), (6, .if_icmp .gt 8, 3), (9, .iload_n 1, 1), (10, .iload_n 2, 1), (11, .if_icmp .le 11, 3), (14, .aload_n 3, 1), (15, .iload_n 0, 1), (16, .iload_n 1, 1), (17, .iload_n 2, 1), (18, .invokestatic 99, 3), (21, .athrow, 1), (22, .iload_n 0, 1), (23, .ireturn, 1)]
theorem okJ3_checkFromToIndex_8c36e : okc cJ3_checkFromToIndex_8c36e kJ3_checkFromToIndex_8c36e := okc_of (by decide +kernel)
end
section
/-! printed by wip/whole/gen/tables.py: what nobody writes; the pools of the names, and that they are right -/
def strB : List (List Int32) := [[107, 101, 101, 112, 32], [112, 97, 115, 115, 32], [108, 111, 117, 100, 32], [100, 117, 108, 108, 32], [112, 107, 118, 102, 99, 116], [60, 61, 62]]
def sB_0 : Nat → Int32 := fun j => (strB.getD 0 []).getD j 0
def sB_1 : Nat → Int32 := fun j => (strB.getD 1 []).getD j 0
def sB_2 : Nat → Int32 := fun j => (strB.getD 2 []).getD j 0
def sB_3 : Nat → Int32 := fun j => (strB.getD 3 []).getD j 0
def sB_4 : Nat → Int32 := fun j => (strB.getD 4 []).getD j 0
def sB_5 : Nat → Int32 := fun j => (strB.getD 5 []).getD j 0
def sAb : Nat → Int32 := fun j => ([-1, 0, 0, 0, 1, 2, 3] : List Int32).getD j 0
/-- the formatter of the text's own checks: null, or some object -/
def FV (fv : Value) : Prop := fv = .null ∨ fv = .ref 1101
def nestW : List Cond := [.methodLinkNest RX11 11 yX7_init RX11,
  .fieldLinkNest RX7 100 RX8 "size" "I" RX11,
  .fieldLinkNest RX11 221 RX8 "size" "I" RX11,
  .methodLinkNest RX11 26 yX1_init RX11,
  .methodLinkNest RX1 11 yX10_init RX11,
  .fieldLinkNest RX11 266 RX10 "ran" "I" RX11,
  .methodLinkNest RX1 20 yX3_init RX11,
  .methodLinkNest RX3 1 yX10_init RX11,
  .methodLinkNest RX1 23 yX2_init RX11,
  .methodLinkNest RX2 1 yX10_init RX11,
  .methodLinkNest RX1 26 yX0_init RX11,
  .methodLinkNest RX0 1 yX10_init RX11,
  .methodLinkNest RX1 29 yX5_init RX11,
  .methodLinkNest RX5 1 yX3_init RX11,
  .methodLinkNest RX1 32 yX6_init RX11,
  .methodLinkNest RX6 1 yX2_init RX11,
  .methodLinkNest RX1 35 yX9_init RX11,
  .methodLinkNest RX9 1 yX0_init RX11,
  .fieldLinkNest RX4 122 RX1 "p" "I" RX11,
  .fieldLinkNest RX4 127 RX1 "k" "I" RX11,
  .fieldLinkNest RX3 7 RX1 "v" "I" RX11,
  .fieldLinkNest RX6 11 RX1 "v" "I" RX11,
  .fieldLinkNest RX4 130 RX1 "v" "I" RX11,
  .fieldLinkNest RX4 133 RX1 "f" "I" RX11,
  .fieldLinkNest RX0 7 RX1 "c" "I" RX11,
  .fieldLinkNest RX4 136 RX1 "c" "I" RX11,
  .fieldLinkNest RX4 139 RX1 "t" "I" RX11,
  .fieldLinkNest RX9 11 RX1 "row" "I" RX11,
  .fieldLinkNest RX5 11 RX1 "knows" "Z" RX11,
  .methodLinkNest RX11 33 yX4_init RX11,
  .fieldLinkNest RX11 114 RX4 "keep" "I" RX11,
  .fieldLinkNest RX7 116 RX4 "keep" "I" RX11,
  .fieldLinkNest RX1 97 RX4 "pass" "I" RX11,
  .fieldLinkNest RX11 117 RX4 "pass" "I" RX11]
def xrF : List (Nat × String × String × String × Value) := [(1000, "java/lang/String", "coder", "B", .int 0), (1000, "java/lang/String", "value", "[B", .ref 1050), (1001, "java/lang/String", "coder", "B", .int 0), (1001, "java/lang/String", "value", "[B", .ref 1051), (1002, "java/lang/String", "coder", "B", .int 0), (1002, "java/lang/String", "value", "[B", .ref 1052), (1003, "java/lang/String", "coder", "B", .int 0), (1003, "java/lang/String", "value", "[B", .ref 1053), (1004, "java/lang/String", "coder", "B", .int 0), (1004, "java/lang/String", "value", "[B", .ref 1054), (1005, "java/lang/String", "coder", "B", .int 0), (1005, "java/lang/String", "value", "[B", .ref 1055)]
def XR (fv : Value) : RoT := ([(1000, "java/lang/String"), (1001, "java/lang/String"), (1002, "java/lang/String"), (1003, "java/lang/String"), (1004, "java/lang/String"), (1005, "java/lang/String")],
  xrF,
  [(1050, .byte, 5, sB_0), (1051, .byte, 5, sB_1), (1052, .byte, 5, sB_2), (1053, .byte, 5, sB_3), (1054, .byte, 6, sB_4), (1055, .byte, 3, sB_5), (1100, .int, 7, sAb)],
  [("UrchinSchool", "ABOVE", "[I", .ref 1100), ("java/lang/String", "COMPACT_STRINGS", "Z", .int 1), ("jdk/internal/util/Preconditions", "SIOOBE_FORMATTER", "Ljava/util/function/BiFunction;", fv)],
  [(RX4, 69, "keep ", 1000), (RX4, 71, "pass ", 1001), (RX4, 73, "loud ", 1002), (RX4, 75, "dull ", 1003), (RX4, 89, "pkvfct", 1004), (RX4, 95, "<=>", 1005), (RX12, 108, "keep ", 1000), (RX12, 114, "pass ", 1001), (RX12, 116, "loud ", 1002), (RX12, 90, "pkvfct", 1004), (RX12, 96, "<=>", 1005), (RX12, 121, "dull ", 1003)],
  nestW)
theorem XR_ok {fv : Value} (h : FV fv) : RoOK (XR fv) := by
  refine ⟨?_, ?_, ?_, ?_, ?_, ?_⟩
  · intro q hq; simp only [XR, List.mem_cons, List.not_mem_nil, or_false] at hq; rcases hq with rfl | rfl | rfl | rfl | rfl | rfl <;> decide
  · intro q hq
    simp only [XR, xrF, List.mem_cons, List.not_mem_nil, or_false] at hq
    rcases hq with rfl | rfl | rfl | rfl | rfl | rfl | rfl | rfl | rfl | rfl | rfl | rfl <;> first | exact ⟨by decide, True.intro⟩ | exact ⟨by decide, (by decide : 1000 ≤ _)⟩
  · intro q hq; simp only [XR, List.mem_cons, List.not_mem_nil, or_false] at hq; rcases hq with rfl | rfl | rfl | rfl | rfl | rfl | rfl <;> decide
  · intro q hq
    simp only [XR, List.mem_cons, List.not_mem_nil, or_false] at hq
    rcases hq with rfl | rfl | rfl
    · exact (by decide : 1000 ≤ 1100)
    · exact True.intro
    · rcases h with rfl | rfl
      · exact True.intro
      · exact (by decide : 1000 ≤ 1101)
  · intro q hq; simp only [XR, List.mem_cons, List.not_mem_nil, or_false] at hq; rcases hq with rfl | rfl | rfl | rfl | rfl | rfl | rfl | rfl | rfl | rfl | rfl | rfl <;> decide
  · intro w hw
    have : ∀ w ∈ nestW, (match w with | .fieldLinkNest .. => true | .methodLinkNest .. => true | _ => false) = true := by decide +kernel
    have h9 := this w hw
    cases w <;> first | exact True.intro | exact Bool.noConfusion h9
theorem XR_str {fv : Value} : ∀ i, 1000 ≤ i → i < 1006 → (i, "java/lang/String") ∈ (XR fv).1 := by
  intro i h1 h2
  have : i = 1000 ∨ i = 1001 ∨ i = 1002 ∨ i = 1003 ∨ i = 1004 ∨ i = 1005 := by omega
  rcases this with rfl | rfl | rfl | rfl | rfl | rfl <;> simp [XR]
theorem cls_ok : ClsOK TB vwCl := by
  intro ci C T N h
  match ci, h with
  | 0, h => cases h; exact ⟨List.forall_mem_cons.mpr ⟨q_0, List.forall_mem_cons.mpr ⟨q_1, List.forall_mem_cons.mpr ⟨q_2, List.forall_mem_cons.mpr ⟨q_3, fun _ z => absurd z List.not_mem_nil⟩⟩⟩⟩, tyX0, tyX0_ok, nmX0⟩
  | 1, h => cases h; exact ⟨List.forall_mem_cons.mpr ⟨q_4, List.forall_mem_cons.mpr ⟨q_5, List.forall_mem_cons.mpr ⟨q_6, List.forall_mem_cons.mpr ⟨q_7, List.forall_mem_cons.mpr ⟨q_8, List.forall_mem_cons.mpr ⟨q_9, List.forall_mem_cons.mpr ⟨q_10, List.forall_mem_cons.mpr ⟨q_11, List.forall_mem_cons.mpr ⟨q_12, List.forall_mem_cons.mpr ⟨q_13, List.forall_mem_cons.mpr ⟨q_14, fun _ z => absurd z List.not_mem_nil⟩⟩⟩⟩⟩⟩⟩⟩⟩⟩⟩, tyX1, tyX1_ok, nmX1⟩
  | 2, h => cases h; exact ⟨List.forall_mem_cons.mpr ⟨q_15, List.forall_mem_cons.mpr ⟨q_16, List.forall_mem_cons.mpr ⟨q_17, List.forall_mem_cons.mpr ⟨q_18, fun _ z => absurd z List.not_mem_nil⟩⟩⟩⟩, tyX2, tyX2_ok, nmX2⟩
  | 3, h => cases h; exact ⟨List.forall_mem_cons.mpr ⟨q_19, List.forall_mem_cons.mpr ⟨q_20, List.forall_mem_cons.mpr ⟨q_21, List.forall_mem_cons.mpr ⟨q_22, fun _ z => absurd z List.not_mem_nil⟩⟩⟩⟩, tyX3, tyX3_ok, nmX3⟩
  | 4, h => cases h; exact ⟨List.forall_mem_cons.mpr ⟨q_23, List.forall_mem_cons.mpr ⟨q_24, List.forall_mem_cons.mpr ⟨q_25, List.forall_mem_cons.mpr ⟨q_26, List.forall_mem_cons.mpr ⟨q_27, List.forall_mem_cons.mpr ⟨q_28, List.forall_mem_cons.mpr ⟨q_29, List.forall_mem_cons.mpr ⟨q_30, List.forall_mem_cons.mpr ⟨q_31, List.forall_mem_cons.mpr ⟨q_32, fun _ z => absurd z List.not_mem_nil⟩⟩⟩⟩⟩⟩⟩⟩⟩⟩, tyX4, tyX4_ok, nmX4⟩
  | 5, h => cases h; exact ⟨List.forall_mem_cons.mpr ⟨q_33, List.forall_mem_cons.mpr ⟨q_34, List.forall_mem_cons.mpr ⟨q_35, List.forall_mem_cons.mpr ⟨q_36, fun _ z => absurd z List.not_mem_nil⟩⟩⟩⟩, tyX5, tyX5_ok, nmX5⟩
  | 6, h => cases h; exact ⟨List.forall_mem_cons.mpr ⟨q_37, List.forall_mem_cons.mpr ⟨q_38, List.forall_mem_cons.mpr ⟨q_39, List.forall_mem_cons.mpr ⟨q_40, fun _ z => absurd z List.not_mem_nil⟩⟩⟩⟩, tyX6, tyX6_ok, nmX6⟩
  | 7, h => cases h; exact ⟨List.forall_mem_cons.mpr ⟨q_41, List.forall_mem_cons.mpr ⟨q_42, List.forall_mem_cons.mpr ⟨q_43, List.forall_mem_cons.mpr ⟨q_44, List.forall_mem_cons.mpr ⟨q_45, List.forall_mem_cons.mpr ⟨q_46, List.forall_mem_cons.mpr ⟨q_47, List.forall_mem_cons.mpr ⟨q_48, List.forall_mem_cons.mpr ⟨q_49, List.forall_mem_cons.mpr ⟨q_50, List.forall_mem_cons.mpr ⟨q_51, List.forall_mem_cons.mpr ⟨q_52, List.forall_mem_cons.mpr ⟨q_53, List.forall_mem_cons.mpr ⟨q_54, fun _ z => absurd z List.not_mem_nil⟩⟩⟩⟩⟩⟩⟩⟩⟩⟩⟩⟩⟩⟩, tyX7, tyX7_ok, nmX7⟩
  | 8, h => cases h; exact ⟨List.forall_mem_cons.mpr ⟨q_55, List.forall_mem_cons.mpr ⟨q_56, List.forall_mem_cons.mpr ⟨q_57, fun _ z => absurd z List.not_mem_nil⟩⟩⟩, tyX8, tyX8_ok, nmX8⟩
  | 9, h => cases h; exact ⟨List.forall_mem_cons.mpr ⟨q_58, List.forall_mem_cons.mpr ⟨q_59, List.forall_mem_cons.mpr ⟨q_60, List.forall_mem_cons.mpr ⟨q_61, fun _ z => absurd z List.not_mem_nil⟩⟩⟩⟩, tyX9, tyX9_ok, nmX9⟩
  | 10, h => cases h; exact ⟨List.forall_mem_cons.mpr ⟨q_62, List.forall_mem_cons.mpr ⟨q_63, List.forall_mem_cons.mpr ⟨q_64, List.forall_mem_cons.mpr ⟨q_65, fun _ z => absurd z List.not_mem_nil⟩⟩⟩⟩, tyX10, tyX10_ok, nmX10⟩
  | 11, h => cases h; exact ⟨List.forall_mem_cons.mpr ⟨q_66, List.forall_mem_cons.mpr ⟨q_67, List.forall_mem_cons.mpr ⟨q_68, List.forall_mem_cons.mpr ⟨q_69, List.forall_mem_cons.mpr ⟨q_70, List.forall_mem_cons.mpr ⟨q_71, List.forall_mem_cons.mpr ⟨q_72, List.forall_mem_cons.mpr ⟨q_73, fun _ z => absurd z List.not_mem_nil⟩⟩⟩⟩⟩⟩⟩⟩, tyX11, tyX11_ok, nmX11⟩
  | 12, h => cases h; exact ⟨List.forall_mem_cons.mpr ⟨q_74, List.forall_mem_cons.mpr ⟨q_75, List.forall_mem_cons.mpr ⟨q_76, List.forall_mem_cons.mpr ⟨q_77, List.forall_mem_cons.mpr ⟨q_78, List.forall_mem_cons.mpr ⟨q_79, List.forall_mem_cons.mpr ⟨q_80, List.forall_mem_cons.mpr ⟨q_81, List.forall_mem_cons.mpr ⟨q_82, List.forall_mem_cons.mpr ⟨q_83, List.forall_mem_cons.mpr ⟨q_84, List.forall_mem_cons.mpr ⟨q_85, List.forall_mem_cons.mpr ⟨q_86, List.forall_mem_cons.mpr ⟨q_87, List.forall_mem_cons.mpr ⟨q_88, List.forall_mem_cons.mpr ⟨q_89, List.forall_mem_cons.mpr ⟨q_90, List.forall_mem_cons.mpr ⟨q_91, List.forall_mem_cons.mpr ⟨q_92, List.forall_mem_cons.mpr ⟨q_93, List.forall_mem_cons.mpr ⟨q_94, fun _ z => absurd z List.not_mem_nil⟩⟩⟩⟩⟩⟩⟩⟩⟩⟩⟩⟩⟩⟩⟩⟩⟩⟩⟩⟩⟩, tyX12, tyX12_ok, nmX12⟩
  | n + 13, h => exact absurd (List.getElem?_eq_some_iff.mp h).1 (by simp [vwCl])
def CT (l : Launch) (fv : Value) : CTP := CTof l TB mt vwCl (XR fv)
theorem mok_X11_init : MOK TB mt jX11_init := ⟨cw_X11_init, by decide⟩
theorem mok_X7_init : MOK TB mt jX7_init := ⟨cw_X7_init, by decide⟩
theorem mok_X8_init : MOK TB mt jX8_init := ⟨cw_X8_init, by decide⟩
theorem mok_J9_min_7cf53 : MOK TB mt jJ9_min_7cf53 := ⟨cw_J9_min_7cf53, by decide⟩
theorem mok_X1_init : MOK TB mt jX1_init := ⟨cw_X1_init, by decide⟩
theorem mok_X10_init : MOK TB mt jX10_init := ⟨cw_X10_init, by decide⟩
theorem mok_X3_init : MOK TB mt jX3_init := ⟨cw_X3_init, by decide⟩
theorem mok_X2_init : MOK TB mt jX2_init := ⟨cw_X2_init, by decide⟩
theorem mok_X0_init : MOK TB mt jX0_init := ⟨cw_X0_init, by decide⟩
theorem mok_X5_init : MOK TB mt jX5_init := ⟨cw_X5_init, by decide⟩
theorem mok_X6_init : MOK TB mt jX6_init := ⟨cw_X6_init, by decide⟩
theorem mok_X9_init : MOK TB mt jX9_init := ⟨cw_X9_init, by decide⟩
theorem mok_X4_init : MOK TB mt jX4_init := ⟨cw_X4_init, by decide⟩
theorem mok_X11_feed : MOK TB mt jX11_feed := ⟨cw_X11_feed, by decide⟩
theorem mok_X11_ledge : MOK TB mt jX11_ledge := ⟨cw_X11_ledge, by decide⟩
theorem mok_X4_read : MOK TB mt jX4_read := ⟨cw_X4_read, by decide⟩
theorem mok_X4_advance : MOK TB mt jX4_advance := ⟨cw_X4_advance, by decide⟩
theorem mok_X4_readClause : MOK TB mt jX4_readClause := ⟨cw_X4_readClause, by decide⟩
theorem mok_X4_wordOf : MOK TB mt jX4_wordOf := ⟨cw_X4_wordOf, by decide⟩
theorem mok_X4_takeWord : MOK TB mt jX4_takeWord := ⟨cw_X4_takeWord, by decide⟩
theorem mok_J0_length_8abf5 : MOK TB mt jJ0_length_8abf5 := ⟨cw_J0_length_8abf5, by decide⟩
theorem mok_J0_coder_7d493 : MOK TB mt jJ0_coder_7d493 := ⟨cw_J0_coder_7d493, by decide⟩
theorem mok_J0_charAt_5068e : MOK TB mt jJ0_charAt_5068e := ⟨cw_J0_charAt_5068e, by decide⟩
theorem mok_J0_isLatin1_aae02 : MOK TB mt jJ0_isLatin1_aae02 := ⟨cw_J0_isLatin1_aae02, by decide⟩
theorem mok_J1_charAt_3b067 : MOK TB mt jJ1_charAt_3b067 := ⟨cw_J1_charAt_3b067, by decide⟩
theorem mok_J0_checkIndex_df160 : MOK TB mt jJ0_checkIndex_df160 := ⟨cw_J0_checkIndex_df160, by decide⟩
theorem mok_J3_checkIndex_8e157 : MOK TB mt jJ3_checkIndex_8e157 := ⟨cw_J3_checkIndex_8e157, by decide⟩
theorem mok_J2_charAt_3b067 : MOK TB mt jJ2_charAt_3b067 := ⟨cw_J2_charAt_3b067, by decide⟩
theorem mok_J2_checkIndex_2214a : MOK TB mt jJ2_checkIndex_2214a := ⟨cw_J2_checkIndex_2214a, by decide⟩
theorem mok_J2_length_9d52b : MOK TB mt jJ2_length_9d52b := ⟨cw_J2_length_9d52b, by decide⟩
theorem mok_J2_getChar_3b067 : MOK TB mt jJ2_getChar_3b067 := ⟨cw_J2_getChar_3b067, by decide⟩
theorem mok_X4_take : MOK TB mt jX4_take := ⟨cw_X4_take, by decide⟩
theorem mok_X4_readNumber : MOK TB mt jX4_readNumber := ⟨cw_X4_readNumber, by decide⟩
theorem mok_X4_isDigit : MOK TB mt jX4_isDigit := ⟨cw_X4_isDigit, by decide⟩
theorem mok_X4_readEither : MOK TB mt jX4_readEither := ⟨cw_X4_readEither, by decide⟩
theorem mok_X4_readBoth : MOK TB mt jX4_readBoth := ⟨cw_X4_readBoth, by decide⟩
theorem mok_X4_readPart : MOK TB mt jX4_readPart := ⟨cw_X4_readPart, by decide⟩
theorem mok_X4_readTest : MOK TB mt jX4_readTest := ⟨cw_X4_readTest, by decide⟩
theorem mok_X4_placeOf : MOK TB mt jX4_placeOf := ⟨cw_X4_placeOf, by decide⟩
theorem mok_J0_indexOf_0f7a4 : MOK TB mt jJ0_indexOf_0f7a4 := ⟨cw_J0_indexOf_0f7a4, by decide⟩
theorem mok_J0_indexOf_7cf53 : MOK TB mt jJ0_indexOf_7cf53 := ⟨cw_J0_indexOf_7cf53, by decide⟩
theorem mok_J1_indexOf_4cfef : MOK TB mt jJ1_indexOf_4cfef := ⟨cw_J1_indexOf_4cfef, by decide⟩
theorem mok_J1_canEncode_9a6ad : MOK TB mt jJ1_canEncode_9a6ad := ⟨cw_J1_canEncode_9a6ad, by decide⟩
theorem mok_J9_max_7cf53 : MOK TB mt jJ9_max_7cf53 := ⟨cw_J9_max_7cf53, by decide⟩
theorem mok_J1_indexOfChar_4cfef : MOK TB mt jJ1_indexOfChar_4cfef := ⟨cw_J1_indexOfChar_4cfef, by decide⟩
theorem mok_J2_indexOf_4cfef : MOK TB mt jJ2_indexOf_4cfef := ⟨cw_J2_indexOf_4cfef, by decide⟩
theorem mok_J2_indexOfChar_4cfef : MOK TB mt jJ2_indexOfChar_4cfef := ⟨cw_J2_indexOfChar_4cfef, by decide⟩
theorem mok_J2_checkBoundsBeginEnd_d044e : MOK TB mt jJ2_checkBoundsBeginEnd_d044e := ⟨cw_J2_checkBoundsBeginEnd_d044e, by decide⟩
theorem mok_J0_checkBoundsBeginEnd_23922 : MOK TB mt jJ0_checkBoundsBeginEnd_23922 := ⟨cw_J0_checkBoundsBeginEnd_23922, by decide⟩
theorem mok_J3_checkFromToIndex_8c36e : MOK TB mt jJ3_checkFromToIndex_8c36e := ⟨cw_J3_checkFromToIndex_8c36e, by decide⟩
theorem mok_J2_indexOfCharUnsafe_4cfef : MOK TB mt jJ2_indexOfCharUnsafe_4cfef := ⟨cw_J2_indexOfCharUnsafe_4cfef, by decide⟩
theorem mok_J2_indexOfSupplementary_4cfef : MOK TB mt jJ2_indexOfSupplementary_4cfef := ⟨cw_J2_indexOfSupplementary_4cfef, by decide⟩
theorem mok_J11_isValidCodePoint_9a6ad : MOK TB mt jJ11_isValidCodePoint_9a6ad := ⟨cw_J11_isValidCodePoint_9a6ad, by decide⟩
theorem mok_J11_highSurrogate_5068e : MOK TB mt jJ11_highSurrogate_5068e := ⟨cw_J11_highSurrogate_5068e, by decide⟩
theorem mok_J11_lowSurrogate_5068e : MOK TB mt jJ11_lowSurrogate_5068e := ⟨cw_J11_lowSurrogate_5068e, by decide⟩
theorem mok_X4_put : MOK TB mt jX4_put := ⟨cw_X4_put, by decide⟩
theorem mok_X11_urchin : MOK TB mt jX11_urchin := ⟨cw_X11_urchin, by decide⟩
theorem mok_X11_isNumber : MOK TB mt jX11_isNumber := ⟨cw_X11_isNumber, by decide⟩
theorem mok_X7_join : MOK TB mt jX7_join := ⟨cw_X7_join, by decide⟩
theorem mok_X7_putOut : MOK TB mt jX7_putOut := ⟨cw_X7_putOut, by decide⟩
theorem mok_X11_of : MOK TB mt jX11_of := ⟨cw_X11_of, by decide⟩
theorem mok_X7_has : MOK TB mt jX7_has := ⟨cw_X7_has, by decide⟩
theorem mok_X7_isOut : MOK TB mt jX7_isOut := ⟨cw_X7_isOut, by decide⟩
theorem mok_X11_isFact : MOK TB mt jX11_isFact := ⟨cw_X11_isFact, by decide⟩
theorem mok_X11_holding : MOK TB mt jX11_holding := ⟨cw_X11_holding, by decide⟩
theorem mok_X1_heedOf : MOK TB mt jX1_heedOf := ⟨cw_X1_heedOf, by decide⟩
theorem mok_X1_look : MOK TB mt jX1_look := ⟨cw_X1_look, by decide⟩
theorem mok_J6_bitCount_0f7a4 : MOK TB mt jJ6_bitCount_0f7a4 := ⟨cw_J6_bitCount_0f7a4, by decide⟩
theorem mok_X1_kindOf : MOK TB mt jX1_kindOf := ⟨cw_X1_kindOf, by decide⟩
theorem mok_X4_sum : MOK TB mt jX4_sum := ⟨cw_X4_sum, by decide⟩
theorem mok_X4_holds : MOK TB mt jX4_holds := ⟨cw_X4_holds, by decide⟩
theorem mok_X4_joined : MOK TB mt jX4_joined := ⟨cw_X4_joined, by decide⟩
theorem mok_X0_heed : MOK TB mt jX0_heed := ⟨cw_X0_heed, by decide⟩
theorem mok_X2_heed : MOK TB mt jX2_heed := ⟨cw_X2_heed, by decide⟩
theorem mok_X3_heed : MOK TB mt jX3_heed := ⟨cw_X3_heed, by decide⟩
theorem mok_X5_heed : MOK TB mt jX5_heed := ⟨cw_X5_heed, by decide⟩
theorem mok_X6_heed : MOK TB mt jX6_heed := ⟨cw_X6_heed, by decide⟩
theorem mok_X9_heed : MOK TB mt jX9_heed := ⟨cw_X9_heed, by decide⟩
theorem mok_X10_heed : MOK TB mt jX10_heed := ⟨cw_X10_heed, by decide⟩
theorem mok_X11_row : MOK TB mt jX11_row := ⟨cw_X11_row, by decide⟩
theorem mok_X11_isLesson : MOK TB mt jX11_isLesson := ⟨cw_X11_isLesson, by decide⟩
theorem mok_X11_learn : MOK TB mt jX11_learn := ⟨cw_X11_learn, by decide⟩
theorem mok_X11_isSet : MOK TB mt jX11_isSet := ⟨cw_X11_isSet, by decide⟩
theorem mok_X11_beach : MOK TB mt jX11_beach := ⟨cw_X11_beach, by decide⟩
theorem mok_X11_lesson : MOK TB mt jX11_lesson := ⟨cw_X11_lesson, by decide⟩
theorem mok_X11_told : MOK TB mt jX11_told := ⟨cw_X11_told, by decide⟩
theorem mok_X7_all : MOK TB mt jX7_all := ⟨cw_X7_all, by decide⟩
theorem mok_X7_held : MOK TB mt jX7_held := ⟨cw_X7_held, by decide⟩
theorem mok_X7_few : MOK TB mt jX7_few := ⟨cw_X7_few, by decide⟩
theorem mok_X7_knownBy : MOK TB mt jX7_knownBy := ⟨cw_X7_knownBy, by decide⟩
theorem mok_X11_toldLesson : MOK TB mt jX11_toldLesson := ⟨cw_X11_toldLesson, by decide⟩
theorem mok_X11_pass : MOK TB mt jX11_pass := ⟨cw_X11_pass, by decide⟩
theorem mok_X11_areTides : MOK TB mt jX11_areTides := ⟨cw_X11_areTides, by decide⟩
theorem mok_X1_forget : MOK TB mt jX1_forget := ⟨cw_X1_forget, by decide⟩
theorem mok_J7_fill_53178 : MOK TB mt jJ7_fill_53178 := ⟨cw_J7_fill_53178, by decide⟩
theorem mok_X11_go : MOK TB mt jX11_go := ⟨cw_X11_go, by decide⟩
theorem mok_X7_lessonNow : MOK TB mt jX7_lessonNow := ⟨cw_X7_lessonNow, by decide⟩
theorem mok_X7_goTide : MOK TB mt jX7_goTide := ⟨cw_X7_goTide, by decide⟩
theorem mok_X1_setsOf : MOK TB mt jX1_setsOf := ⟨cw_X1_setsOf, by decide⟩
theorem mok_X1_weigh : MOK TB mt jX1_weigh := ⟨cw_X1_weigh, by decide⟩
theorem mok_X7_least : MOK TB mt jX7_least := ⟨cw_X7_least, by decide⟩
theorem mok_X11_on : MOK TB mt jX11_on := ⟨cw_X11_on, by decide⟩
theorem mok_X7_becomeRow : MOK TB mt jX7_becomeRow := ⟨cw_X7_becomeRow, by decide⟩
theorem mok_X11_lasts : MOK TB mt jX11_lasts := ⟨cw_X11_lasts, by decide⟩
theorem mok_X11_tidesAheadWith : MOK TB mt jX11_tidesAheadWith := ⟨cw_X11_tidesAheadWith, by decide⟩
theorem mok_X11_teach : MOK TB mt jX11_teach := ⟨cw_X11_teach, by decide⟩
theorem mok_X11_heldIfTaught : MOK TB mt jX11_heldIfTaught := ⟨cw_X11_heldIfTaught, by decide⟩
theorem mok_X11_taughtAt : MOK TB mt jX11_taughtAt := ⟨cw_X11_taughtAt, by decide⟩
theorem mok_X11_tell : MOK TB mt jX11_tell := ⟨cw_X11_tell, by decide⟩
theorem mok_X11_tidesIfTold : MOK TB mt jX11_tidesIfTold := ⟨cw_X11_tidesIfTold, by decide⟩
theorem mok_X7_tellFact : MOK TB mt jX7_tellFact := ⟨cw_X7_tellFact, by decide⟩
theorem mok_X11_see : MOK TB mt jX11_see := ⟨cw_X11_see, by decide⟩
theorem mok_X8_empty : MOK TB mt jX8_empty := ⟨cw_X8_empty, by decide⟩
theorem mok_X8_add : MOK TB mt jX8_add := ⟨cw_X8_add, by decide⟩
theorem mok_X11_knew : MOK TB mt jX11_knew := ⟨cw_X11_knew, by decide⟩
theorem mok_X11_isPart : MOK TB mt jX11_isPart := ⟨cw_X11_isPart, by decide⟩
theorem mok_X11_seenIsSo : MOK TB mt jX11_seenIsSo := ⟨cw_X11_seenIsSo, by decide⟩
theorem mok_X7_lastSeen : MOK TB mt jX7_lastSeen := ⟨cw_X7_lastSeen, by decide⟩
theorem mok_X8_cell : MOK TB mt jX8_cell := ⟨cw_X8_cell, by decide⟩
theorem mok_X7_isAsSeen : MOK TB mt jX7_isAsSeen := ⟨cw_X7_isAsSeen, by decide⟩
theorem mok_X11_firm : MOK TB mt jX11_firm := ⟨cw_X11_firm, by decide⟩
theorem mok_X11_odds : MOK TB mt jX11_odds := ⟨cw_X11_odds, by decide⟩
theorem mok_X7_notOut : MOK TB mt jX7_notOut := ⟨cw_X7_notOut, by decide⟩
theorem mok_X11_lowest : MOK TB mt jX11_lowest := ⟨cw_X11_lowest, by decide⟩
theorem mok_X11_mean : MOK TB mt jX11_mean := ⟨cw_X11_mean, by decide⟩
theorem mok_X11_plan : MOK TB mt jX11_plan := ⟨cw_X11_plan, by decide⟩
theorem mok_X11_isPlan : MOK TB mt jX11_isPlan := ⟨cw_X11_isPlan, by decide⟩
theorem mok_X11_done : MOK TB mt jX11_done := ⟨cw_X11_done, by decide⟩
theorem mok_X11_doPlanned : MOK TB mt jX11_doPlanned := ⟨cw_X11_doPlanned, by decide⟩
theorem mok_X11_book : MOK TB mt jX11_book := ⟨cw_X11_book, by decide⟩
theorem mok_X11_looked : MOK TB mt jX11_looked := ⟨cw_X11_looked, by decide⟩
theorem mok_X11_act : MOK TB mt jX11_act := ⟨cw_X11_act, by decide⟩
theorem mok_X10_wake : MOK TB mt jX10_wake := ⟨cw_X10_wake, by decide⟩
theorem mok_X3_leans : MOK TB mt jX3_leans := ⟨cw_X3_leans, by decide⟩
theorem mok_X10_begin : MOK TB mt jX10_begin := ⟨cw_X10_begin, by decide⟩
theorem mok_X6_leans : MOK TB mt jX6_leans := ⟨cw_X6_leans, by decide⟩
theorem mok_X10_leans : MOK TB mt jX10_leans := ⟨cw_X10_leans, by decide⟩
theorem mok_X2_says : MOK TB mt jX2_says := ⟨cw_X2_says, by decide⟩
theorem mok_X9_says : MOK TB mt jX9_says := ⟨cw_X9_says, by decide⟩
theorem mok_X10_says : MOK TB mt jX10_says := ⟨cw_X10_says, by decide⟩
theorem mok_X0_bristles : MOK TB mt jX0_bristles := ⟨cw_X0_bristles, by decide⟩
theorem mok_X5_bristles : MOK TB mt jX5_bristles := ⟨cw_X5_bristles, by decide⟩
theorem mok_X10_bristles : MOK TB mt jX10_bristles := ⟨cw_X10_bristles, by decide⟩
theorem mok_X11_trace : MOK TB mt jX11_trace := ⟨cw_X11_trace, by decide⟩
theorem mok_X10_bodyAt : MOK TB mt jX10_bodyAt := ⟨cw_X10_bodyAt, by decide⟩
theorem mok_X11_as : MOK TB mt jX11_as := ⟨cw_X11_as, by decide⟩
theorem mok_X11_image : MOK TB mt jX11_image := ⟨cw_X11_image, by decide⟩
theorem mok_X7_become : MOK TB mt jX7_become := ⟨cw_X7_become, by decide⟩
theorem mok_X8_takeOver : MOK TB mt jX8_takeOver := ⟨cw_X8_takeOver, by decide⟩
theorem mok_X11_undo : MOK TB mt jX11_undo := ⟨cw_X11_undo, by decide⟩
theorem mok_X11_count : MOK TB mt jX11_count := ⟨cw_X11_count, by decide⟩
theorem mok_X12_init : MOK TB mt jX12_init := ⟨cw_X12_init, by decide⟩
theorem mok_X12_feed : MOK TB mt jX12_feed := ⟨cw_X12_feed, by decide⟩
theorem mok_X12_in : MOK TB mt jX12_in := ⟨cw_X12_in, by decide⟩
theorem mok_X12_ledge : MOK TB mt jX12_ledge := ⟨cw_X12_ledge, by decide⟩
theorem mok_X12_clauseHere : MOK TB mt jX12_clauseHere := ⟨cw_X12_clauseHere, by decide⟩
theorem mok_X12_here : MOK TB mt jX12_here := ⟨cw_X12_here, by decide⟩
theorem mok_X12_tellsHere : MOK TB mt jX12_tellsHere := ⟨cw_X12_tellsHere, by decide⟩
theorem mok_X12_spells : MOK TB mt jX12_spells := ⟨cw_X12_spells, by decide⟩
theorem mok_X12_must : MOK TB mt jX12_must := ⟨cw_X12_must, by decide⟩
theorem mok_X12_figures : MOK TB mt jX12_figures := ⟨cw_X12_figures, by decide⟩
theorem mok_X12_much : MOK TB mt jX12_much := ⟨cw_X12_much, by decide⟩
theorem mok_X12_some : MOK TB mt jX12_some := ⟨cw_X12_some, by decide⟩
theorem mok_X12_every : MOK TB mt jX12_every := ⟨cw_X12_every, by decide⟩
theorem mok_X12_factor : MOK TB mt jX12_factor := ⟨cw_X12_factor, by decide⟩
theorem mok_X12_emits : MOK TB mt jX12_emits := ⟨cw_X12_emits, by decide⟩
theorem mok_X12_among : MOK TB mt jX12_among := ⟨cw_X12_among, by decide⟩
theorem mok_X12_urchin : MOK TB mt jX12_urchin := ⟨cw_X12_urchin, by decide⟩
theorem mok_X12_of : MOK TB mt jX12_of := ⟨cw_X12_of, by decide⟩
theorem mok_X12_isUrchin : MOK TB mt jX12_isUrchin := ⟨cw_X12_isUrchin, by decide⟩
theorem mok_X12_looksAnew : MOK TB mt jX12_looksAnew := ⟨cw_X12_looksAnew, by decide⟩
theorem mok_X12_isFact : MOK TB mt jX12_isFact := ⟨cw_X12_isFact, by decide⟩
theorem mok_X12_heedOf : MOK TB mt jX12_heedOf := ⟨cw_X12_heedOf, by decide⟩
theorem mok_X12_sumOf : MOK TB mt jX12_sumOf := ⟨cw_X12_sumOf, by decide⟩
theorem mok_X12_countOf : MOK TB mt jX12_countOf := ⟨cw_X12_countOf, by decide⟩
theorem mok_X12_clausesOf : MOK TB mt jX12_clausesOf := ⟨cw_X12_clausesOf, by decide⟩
theorem mok_X12_tellsOf : MOK TB mt jX12_tellsOf := ⟨cw_X12_tellsOf, by decide⟩
theorem mok_X12_row : MOK TB mt jX12_row := ⟨cw_X12_row, by decide⟩
theorem mok_X12_becomes : MOK TB mt jX12_becomes := ⟨cw_X12_becomes, by decide⟩
theorem mok_X12_learn : MOK TB mt jX12_learn := ⟨cw_X12_learn, by decide⟩
theorem mok_X12_beach : MOK TB mt jX12_beach := ⟨cw_X12_beach, by decide⟩
theorem mok_X12_lesson : MOK TB mt jX12_lesson := ⟨cw_X12_lesson, by decide⟩
theorem mok_X12_told : MOK TB mt jX12_told := ⟨cw_X12_told, by decide⟩
theorem mok_X12_knownByAny : MOK TB mt jX12_knownByAny := ⟨cw_X12_knownByAny, by decide⟩
theorem mok_X12_heldByAll : MOK TB mt jX12_heldByAll := ⟨cw_X12_heldByAll, by decide⟩
theorem mok_X12_awayOnes : MOK TB mt jX12_awayOnes := ⟨cw_X12_awayOnes, by decide⟩
theorem mok_X12_fewest : MOK TB mt jX12_fewest := ⟨cw_X12_fewest, by decide⟩
theorem mok_X12_knownBy : MOK TB mt jX12_knownBy := ⟨cw_X12_knownBy, by decide⟩
theorem mok_X12_pass : MOK TB mt jX12_pass := ⟨cw_X12_pass, by decide⟩
theorem mok_X12_goesOn : MOK TB mt jX12_goesOn := ⟨cw_X12_goesOn, by decide⟩
theorem mok_X12_goes : MOK TB mt jX12_goes := ⟨cw_X12_goes, by decide⟩
theorem mok_X12_goesBy : MOK TB mt jX12_goesBy := ⟨cw_X12_goesBy, by decide⟩
theorem mok_X12_knownNext : MOK TB mt jX12_knownNext := ⟨cw_X12_knownNext, by decide⟩
theorem mok_X12_isKnownNext : MOK TB mt jX12_isKnownNext := ⟨cw_X12_isKnownNext, by decide⟩
theorem mok_X12_isPassed : MOK TB mt jX12_isPassed := ⟨cw_X12_isPassed, by decide⟩
theorem mok_X12_on : MOK TB mt jX12_on := ⟨cw_X12_on, by decide⟩
theorem mok_X12_keeps : MOK TB mt jX12_keeps := ⟨cw_X12_keeps, by decide⟩
theorem mok_X12_goesBack : MOK TB mt jX12_goesBack := ⟨cw_X12_goesBack, by decide⟩
theorem mok_X12_lasts : MOK TB mt jX12_lasts := ⟨cw_X12_lasts, by decide⟩
theorem mok_X12_tidesKnown : MOK TB mt jX12_tidesKnown := ⟨cw_X12_tidesKnown, by decide⟩
theorem mok_X12_tell : MOK TB mt jX12_tell := ⟨cw_X12_tell, by decide⟩
theorem mok_X12_teach : MOK TB mt jX12_teach := ⟨cw_X12_teach, by decide⟩
theorem mok_X12_heldBehind : MOK TB mt jX12_heldBehind := ⟨cw_X12_heldBehind, by decide⟩
theorem mok_X12_see : MOK TB mt jX12_see := ⟨cw_X12_see, by decide⟩
theorem mok_X12_knew : MOK TB mt jX12_knew := ⟨cw_X12_knew, by decide⟩
theorem mok_X12_fitting : MOK TB mt jX12_fitting := ⟨cw_X12_fitting, by decide⟩
theorem mok_X12_areAsSeen : MOK TB mt jX12_areAsSeen := ⟨cw_X12_areAsSeen, by decide⟩
theorem mok_X12_isAsSeen : MOK TB mt jX12_isAsSeen := ⟨cw_X12_isAsSeen, by decide⟩
theorem mok_X12_firm : MOK TB mt jX12_firm := ⟨cw_X12_firm, by decide⟩
theorem mok_X12_odds : MOK TB mt jX12_odds := ⟨cw_X12_odds, by decide⟩
theorem mok_X12_lowest : MOK TB mt jX12_lowest := ⟨cw_X12_lowest, by decide⟩
theorem mok_X12_mean : MOK TB mt jX12_mean := ⟨cw_X12_mean, by decide⟩
theorem mok_X12_plan : MOK TB mt jX12_plan := ⟨cw_X12_plan, by decide⟩
theorem mok_X12_isPlan : MOK TB mt jX12_isPlan := ⟨cw_X12_isPlan, by decide⟩
theorem mok_X12_done : MOK TB mt jX12_done := ⟨cw_X12_done, by decide⟩
theorem mok_X12_does : MOK TB mt jX12_does := ⟨cw_X12_does, by decide⟩
theorem mok_X12_book : MOK TB mt jX12_book := ⟨cw_X12_book, by decide⟩
theorem mok_X12_looked : MOK TB mt jX12_looked := ⟨cw_X12_looked, by decide⟩
theorem mok_X12_act : MOK TB mt jX12_act := ⟨cw_X12_act, by decide⟩
theorem mok_X12_leansActs : MOK TB mt jX12_leansActs := ⟨cw_X12_leansActs, by decide⟩
theorem mok_X12_isUnder : MOK TB mt jX12_isUnder := ⟨cw_X12_isUnder, by decide⟩
theorem mok_X12_ranBody : MOK TB mt jX12_ranBody := ⟨cw_X12_ranBody, by decide⟩
theorem mok_X12_plainLeans : MOK TB mt jX12_plainLeans := ⟨cw_X12_plainLeans, by decide⟩
theorem mok_X12_saysActs : MOK TB mt jX12_saysActs := ⟨cw_X12_saysActs, by decide⟩
theorem mok_X12_plainSays : MOK TB mt jX12_plainSays := ⟨cw_X12_plainSays, by decide⟩
theorem mok_X12_bristlesActs : MOK TB mt jX12_bristlesActs := ⟨cw_X12_bristlesActs, by decide⟩
theorem mok_X12_plainTelling : MOK TB mt jX12_plainTelling := ⟨cw_X12_plainTelling, by decide⟩
theorem mok_X12_trace : MOK TB mt jX12_trace := ⟨cw_X12_trace, by decide⟩
theorem mok_X12_as : MOK TB mt jX12_as := ⟨cw_X12_as, by decide⟩
theorem mok_X12_image : MOK TB mt jX12_image := ⟨cw_X12_image, by decide⟩
theorem mok_X12_undo : MOK TB mt jX12_undo := ⟨cw_X12_undo, by decide⟩
theorem mok_X12_count : MOK TB mt jX12_count := ⟨cw_X12_count, by decide⟩
theorem nst_0 : Cond.methodLinkNest RX11 11 yX7_init RX11 ∈ nestW := List.mem_of_getElem? (i := 0) rfl
theorem nst_1 : Cond.fieldLinkNest RX7 100 RX8 "size" "I" RX11 ∈ nestW := List.mem_of_getElem? (i := 1) rfl
theorem nst_2 : Cond.fieldLinkNest RX11 221 RX8 "size" "I" RX11 ∈ nestW := List.mem_of_getElem? (i := 2) rfl
theorem nst_3 : Cond.methodLinkNest RX11 26 yX1_init RX11 ∈ nestW := List.mem_of_getElem? (i := 3) rfl
theorem nst_4 : Cond.methodLinkNest RX1 11 yX10_init RX11 ∈ nestW := List.mem_of_getElem? (i := 4) rfl
theorem nst_5 : Cond.fieldLinkNest RX11 266 RX10 "ran" "I" RX11 ∈ nestW := List.mem_of_getElem? (i := 5) rfl
theorem nst_6 : Cond.methodLinkNest RX1 20 yX3_init RX11 ∈ nestW := List.mem_of_getElem? (i := 6) rfl
theorem nst_7 : Cond.methodLinkNest RX3 1 yX10_init RX11 ∈ nestW := List.mem_of_getElem? (i := 7) rfl
theorem nst_8 : Cond.methodLinkNest RX1 23 yX2_init RX11 ∈ nestW := List.mem_of_getElem? (i := 8) rfl
theorem nst_9 : Cond.methodLinkNest RX2 1 yX10_init RX11 ∈ nestW := List.mem_of_getElem? (i := 9) rfl
theorem nst_10 : Cond.methodLinkNest RX1 26 yX0_init RX11 ∈ nestW := List.mem_of_getElem? (i := 10) rfl
theorem nst_11 : Cond.methodLinkNest RX0 1 yX10_init RX11 ∈ nestW := List.mem_of_getElem? (i := 11) rfl
theorem nst_12 : Cond.methodLinkNest RX1 29 yX5_init RX11 ∈ nestW := List.mem_of_getElem? (i := 12) rfl
theorem nst_13 : Cond.methodLinkNest RX5 1 yX3_init RX11 ∈ nestW := List.mem_of_getElem? (i := 13) rfl
theorem nst_14 : Cond.methodLinkNest RX1 32 yX6_init RX11 ∈ nestW := List.mem_of_getElem? (i := 14) rfl
theorem nst_15 : Cond.methodLinkNest RX6 1 yX2_init RX11 ∈ nestW := List.mem_of_getElem? (i := 15) rfl
theorem nst_16 : Cond.methodLinkNest RX1 35 yX9_init RX11 ∈ nestW := List.mem_of_getElem? (i := 16) rfl
theorem nst_17 : Cond.methodLinkNest RX9 1 yX0_init RX11 ∈ nestW := List.mem_of_getElem? (i := 17) rfl
theorem nst_18 : Cond.fieldLinkNest RX4 122 RX1 "p" "I" RX11 ∈ nestW := List.mem_of_getElem? (i := 18) rfl
theorem nst_19 : Cond.fieldLinkNest RX4 127 RX1 "k" "I" RX11 ∈ nestW := List.mem_of_getElem? (i := 19) rfl
theorem nst_20 : Cond.fieldLinkNest RX3 7 RX1 "v" "I" RX11 ∈ nestW := List.mem_of_getElem? (i := 20) rfl
theorem nst_21 : Cond.fieldLinkNest RX6 11 RX1 "v" "I" RX11 ∈ nestW := List.mem_of_getElem? (i := 21) rfl
theorem nst_22 : Cond.fieldLinkNest RX4 130 RX1 "v" "I" RX11 ∈ nestW := List.mem_of_getElem? (i := 22) rfl
theorem nst_23 : Cond.fieldLinkNest RX4 133 RX1 "f" "I" RX11 ∈ nestW := List.mem_of_getElem? (i := 23) rfl
theorem nst_24 : Cond.fieldLinkNest RX0 7 RX1 "c" "I" RX11 ∈ nestW := List.mem_of_getElem? (i := 24) rfl
theorem nst_25 : Cond.fieldLinkNest RX4 136 RX1 "c" "I" RX11 ∈ nestW := List.mem_of_getElem? (i := 25) rfl
theorem nst_26 : Cond.fieldLinkNest RX4 139 RX1 "t" "I" RX11 ∈ nestW := List.mem_of_getElem? (i := 26) rfl
theorem nst_27 : Cond.fieldLinkNest RX9 11 RX1 "row" "I" RX11 ∈ nestW := List.mem_of_getElem? (i := 27) rfl
theorem nst_28 : Cond.fieldLinkNest RX5 11 RX1 "knows" "Z" RX11 ∈ nestW := List.mem_of_getElem? (i := 28) rfl
theorem nst_29 : Cond.methodLinkNest RX11 33 yX4_init RX11 ∈ nestW := List.mem_of_getElem? (i := 29) rfl
theorem nst_30 : Cond.fieldLinkNest RX11 114 RX4 "keep" "I" RX11 ∈ nestW := List.mem_of_getElem? (i := 30) rfl
theorem nst_31 : Cond.fieldLinkNest RX7 116 RX4 "keep" "I" RX11 ∈ nestW := List.mem_of_getElem? (i := 31) rfl
theorem nst_32 : Cond.fieldLinkNest RX1 97 RX4 "pass" "I" RX11 ∈ nestW := List.mem_of_getElem? (i := 32) rfl
theorem nst_33 : Cond.fieldLinkNest RX11 117 RX4 "pass" "I" RX11 ∈ nestW := List.mem_of_getElem? (i := 33) rfl
theorem farN {own : String} {P : Pool} {X : RoT} (h : P.1.all (fun q => !(q.2.2.2.contains 50)) = true) : ∀ q ∈ P.1, ∀ i v, 50 ∈ q.2.2.2 → (16 * i + q.2.1, v) ∈ P.2.2.2.2.1 → ∃ o n d, (i, o, n, d, v) ∈ X.2.1 ∧ Cond.fieldLink own q.1 o n d ∈ TB := by
  intro q hq i v h5 _
  have h1 := List.all_eq_true.mp h q hq
  have h2 : q.2.2.2.contains 50 = true := List.contains_iff_mem.mpr h5
  rw [h2] at h1
  exact Bool.noConfusion h1
def rofS : List (Nat × Value) := [(16000, .ref 1050), (16001, .int 0), (16016, .ref 1051), (16017, .int 0), (16032, .ref 1052), (16033, .int 0), (16048, .ref 1053), (16049, .int 0), (16064, .ref 1054), (16065, .int 0), (16080, .ref 1055), (16081, .int 0)]
theorem farS_v {own : String} {ix : Nat} {fv : Value} (q : Cond.fieldLink own ix "java/lang/String" "value" "[B" ∈ TB) : ∀ i v, 50 ∈ [50] → (16 * i + 0, v) ∈ rofS → ∃ o n d, (i, o, n, d, v) ∈ (XR fv).2.1 ∧ Cond.fieldLink own ix o n d ∈ TB := by
  intro i v _ h
  have key : ∀ q ∈ rofS, q.1 % 16 = 0 → (q.1 / 16, "java/lang/String", "value", "[B", q.2) ∈ xrF := by decide +kernel
  have h1 := key _ h (by show (16 * i + 0) % 16 = 0; omega)
  have e : (16 * i + 0) / 16 = i := by omega
  simp only [e] at h1
  exact ⟨_, _, _, h1, q⟩
theorem farS_c {own : String} {ix : Nat} {fv : Value} (q : Cond.fieldLink own ix "java/lang/String" "coder" "B" ∈ TB) : ∀ i v, 50 ∈ [50] → (16 * i + 1, v) ∈ rofS → ∃ o n d, (i, o, n, d, v) ∈ (XR fv).2.1 ∧ Cond.fieldLink own ix o n d ∈ TB := by
  intro i v _ h
  have key : ∀ q ∈ rofS, q.1 % 16 = 1 → (q.1 / 16, "java/lang/String", "coder", "B", q.2) ∈ xrF := by decide +kernel
  have h1 := key _ h (by show (16 * i + 1) % 16 = 1; omega)
  have e : (16 * i + 1) / 16 = i := by omega
  simp only [e] at h1
  exact ⟨_, _, _, h1, q⟩
theorem nMH {n : String} (h1 : n ≠ "java/lang/invoke/MethodHandle") (h2 : n ≠ "java/lang/invoke/VarHandle") : notMH n := ⟨h1, h2⟩
theorem nmh_X0 : notMH RX0 := ⟨by decide +kernel, by decide +kernel⟩
theorem nmh_X1 : notMH RX1 := ⟨by decide +kernel, by decide +kernel⟩
theorem nmh_X2 : notMH RX2 := ⟨by decide +kernel, by decide +kernel⟩
theorem nmh_X3 : notMH RX3 := ⟨by decide +kernel, by decide +kernel⟩
theorem nmh_X4 : notMH RX4 := ⟨by decide +kernel, by decide +kernel⟩
theorem nmh_X5 : notMH RX5 := ⟨by decide +kernel, by decide +kernel⟩
theorem nmh_X6 : notMH RX6 := ⟨by decide +kernel, by decide +kernel⟩
theorem nmh_X7 : notMH RX7 := ⟨by decide +kernel, by decide +kernel⟩
theorem nmh_X8 : notMH RX8 := ⟨by decide +kernel, by decide +kernel⟩
theorem nmh_X9 : notMH RX9 := ⟨by decide +kernel, by decide +kernel⟩
theorem nmh_X10 : notMH RX10 := ⟨by decide +kernel, by decide +kernel⟩
theorem nmh_X11 : notMH RX11 := ⟨by decide +kernel, by decide +kernel⟩
theorem nmh_X12 : notMH RX12 := ⟨by decide +kernel, by decide +kernel⟩
theorem nmh_Jx145de : notMH RJx145de := ⟨by decide +kernel, by decide +kernel⟩
theorem nmh_Jx9f9b0 : notMH RJx9f9b0 := ⟨by decide +kernel, by decide +kernel⟩
theorem nmh_J11 : notMH RJ11 := ⟨by decide +kernel, by decide +kernel⟩
theorem nmh_Jxb160c : notMH RJxb160c := ⟨by decide +kernel, by decide +kernel⟩
theorem nmh_J6 : notMH RJ6 := ⟨by decide +kernel, by decide +kernel⟩
theorem nmh_J9 : notMH RJ9 := ⟨by decide +kernel, by decide +kernel⟩
theorem nmh_J0 : notMH RJ0 := ⟨by decide +kernel, by decide +kernel⟩
theorem nmh_J1 : notMH RJ1 := ⟨by decide +kernel, by decide +kernel⟩
theorem nmh_J2 : notMH RJ2 := ⟨by decide +kernel, by decide +kernel⟩
theorem nmh_J10 : notMH RJ10 := ⟨by decide +kernel, by decide +kernel⟩
theorem nmh_Jxfd54e : notMH RJxfd54e := ⟨by decide +kernel, by decide +kernel⟩
theorem nmh_Jx3cf43 : notMH RJx3cf43 := ⟨by decide +kernel, by decide +kernel⟩
theorem nmh_J7 : notMH RJ7 := ⟨by decide +kernel, by decide +kernel⟩
theorem nmh_J3 : notMH RJ3 := ⟨by decide +kernel, by decide +kernel⟩
theorem nmh_L : notMH RL := ⟨by decide +kernel, by decide +kernel⟩
theorem vokA {own C : String} {idx na j : Nat} {y : MethodName} (hy : (mt j).1 = y) (h1 : y.cls = C) (h2 : notMH C) (h3 : arOK na y) (q1 : Cond.methodLink own idx y ∈ TB) (q2 : Cond.instanceMethod y ∈ TB) (q3 : Cond.selects C y y ∈ TB) (q4 : Cond.initialized C ∈ TB) : VOK TB mt own idx na C j := by
  subst hy
  refine Or.inl ⟨h1, h2, h3, fun w hw => ?_⟩
  simp only [wsV, List.append_nil, List.mem_cons, List.not_mem_nil, or_false] at hw
  rcases hw with rfl | rfl | rfl | rfl
  · exact q1
  · exact q2
  · exact q3
  · exact q4
theorem vokU {own C owner : String} {idx na j : Nat} {x y : MethodName} (hy : (mt j).1 = y) (h1 : y = ⟨owner, x.name, x.desc⟩) (h2 : notMH owner) (h3 : arOK na x) (q1 : Cond.methodLink own idx x ∈ TB) (q2 : Cond.sameMethod x.cls owner x.name x.desc ∈ TB) (q3 : Cond.selects C x y ∈ TB) (q4 : Cond.instanceMethod y ∈ TB) (q5 : Cond.initialized y.cls ∈ TB) : VOK TB mt own idx na C j := by
  subst hy
  refine Or.inr (Or.inl ⟨x, owner, h1, h2, h3, fun w hw => ?_⟩)
  simp only [va_wsU, List.append_nil, List.mem_cons, List.not_mem_nil, or_false] at hw
  rcases hw with rfl | rfl | rfl | rfl | rfl
  · exact q1
  · exact q2
  · exact q3
  · exact q4
  · exact q5
theorem vokO {own C owner : String} {idx na j : Nat} {x y : MethodName} {b0 : ByteArray} {m0 : Nat} {r0 : Option FieldType} (hy : (mt j).1 = y) (h2 : notMH owner) (h3 : arOK na x) (q1 : Cond.methodLink own idx x ∈ TB) (q2 : Cond.sameMethod x.cls owner x.name x.desc ∈ TB) (q6 : Cond.instanceMethod ⟨owner, x.name, x.desc⟩ ∈ TB) (q3 : Cond.selects C x y ∈ TB) (q4 : Cond.instanceMethod y ∈ TB) (q5 : Cond.initialized y.cls ∈ TB) (q7 : Cond.code ⟨owner, x.name, x.desc⟩ b0 m0 r0 ∈ TB) : VOK TB mt own idx na C j := by
  subst hy
  refine Or.inr (Or.inr ⟨x, owner, h2, h3, fun w hw => ?_, b0, m0, r0, q7⟩)
  simp only [va_wsO, List.append_nil, List.mem_cons, List.not_mem_nil, or_false] at hw
  rcases hw with rfl | rfl | rfl | rfl | rfl | rfl
  · exact q1
  · exact q2
  · exact q6
  · exact q3
  · exact q4
  · exact q5
theorem sok {own : String} {idx na j : Nat} {y : MethodName} (hy : (mt j).1 = y) (h1 : notMH y.cls) (h2 : arOK na y) (q1 : Cond.methodLink own idx y ∈ TB) (q2 : Cond.static y ∈ TB) (q3 : Cond.initialized y.cls ∈ TB) : SOK TB mt own idx na j := by
  subst hy
  exact ⟨h1, h2, q1, q2, q3⟩
theorem uok {own : String} {idx na j : Nat} {y : MethodName} (hy : (mt j).1 = y) (h1 : y.name ≠ "<init>") (h2 : arOK na y) (q1 : Cond.methodLink own idx y ∈ TB) (q2 : Cond.sameMethod y.cls y.cls y.name y.desc ∈ TB) (q3 : Cond.superclass own y.cls ∈ TB) (q4 : Cond.instanceMethod y ∈ TB) (q5 : Cond.initialized y.cls ∈ TB) : UOK TB mt own idx na j := by
  subst hy
  refine Or.inl ⟨h1, h2, fun w hw => ?_⟩
  simp only [va_wsSU, List.append_nil, List.mem_cons, List.not_mem_nil, or_false] at hw
  rcases hw with rfl | rfl | rfl | rfl | rfl
  · exact q1
  · exact q2
  · exact q3
  · exact q4
  · exact q5
theorem uokI {own owner : String} {idx na j : Nat} {x y : MethodName} (hy : (mt j).1 = y) (h0 : y = ⟨owner, x.name, x.desc⟩) (h1 : x.name ≠ "<init>") (h2 : arOK na x) (q1 : Cond.methodLink own idx x ∈ TB) (q2 : Cond.sameMethod x.cls owner x.name x.desc ∈ TB) (q3 : Cond.superclass own x.cls ∈ TB) (q4 : Cond.superclass x.cls owner ∈ TB) (q5 : Cond.instanceMethod y ∈ TB) (q6 : Cond.initialized owner ∈ TB) : UOK TB mt own idx na j := by
  subst hy
  exact Or.inr ⟨x, owner, h0, h1, h2, q1, q2, q3, q4, q5, q6⟩
def P_X0 : Pool := ([(7, 7, 0, [1])],
  [(13, 0, 1, [(0, jX10_begin), (9, jX10_begin)]),
   (19, 2, 1, [(0, jX10_bristles), (9, jX10_bristles)])],
  [], [], [], [])
theorem fld_X0 : FldOK TB nestW vwCl RX0 (P_X0) := List.forall_mem_cons.mpr ⟨List.forall_mem_cons.mpr ⟨Or.inr ⟨RX1, TX1, 11, rfl, by decide, ⟨RX1, Or.inr ⟨RX11, nst_24⟩, Or.inl rfl⟩, Or.inr ⟨rfl, tyX1 7, tyX1_ok 7 (by decide), rfl⟩⟩, fun _ z => absurd z List.not_mem_nil⟩, fun _ z => absurd z List.not_mem_nil⟩
set_option maxRecDepth 4000 in
theorem cpo_X0 : CpOK TB mt vwCl RX0 (P_X0) := List.forall_mem_cons.mpr ⟨Or.inl ⟨rfl, List.forall_mem_cons.mpr ⟨⟨mok_X10_begin, RX0, Or.inr ⟨_, _, rfl⟩, vokU (x := ⟨RX0, "begin", "(I)V"⟩) (y := yX10_begin) rfl rfl nmh_X10 rfl q_95 q_96 q_97 q_98 q_99⟩, List.forall_mem_cons.mpr ⟨⟨mok_X10_begin, RX9, Or.inr ⟨_, _, rfl⟩, vokU (x := ⟨RX0, "begin", "(I)V"⟩) (y := yX10_begin) rfl rfl nmh_X10 rfl q_95 q_96 q_100 q_98 q_99⟩, fun _ z => absurd z List.not_mem_nil⟩⟩⟩, List.forall_mem_cons.mpr ⟨Or.inr (Or.inr (Or.inl ⟨rfl, List.forall_mem_cons.mpr ⟨⟨mok_X10_bristles, ⟨_, _, _, rfl⟩, uok (y := yX10_bristles) rfl (by decide +kernel) rfl q_101 q_102 q_103 q_104 q_99⟩, List.forall_mem_cons.mpr ⟨⟨mok_X10_bristles, ⟨_, _, _, rfl⟩, uok (y := yX10_bristles) rfl (by decide +kernel) rfl q_101 q_102 q_103 q_104 q_99⟩, fun _ z => absurd z List.not_mem_nil⟩⟩⟩)), fun _ z => absurd z List.not_mem_nil⟩⟩
theorem far_X0 (fv : Value) : FarOK TB (XR fv) RX0 (P_X0) := ⟨farN (by decide +kernel), fun _ z => absurd z List.not_mem_nil, fun _ z => absurd z List.not_mem_nil, fun _ z => absurd z List.not_mem_nil⟩
theorem tab_X0 {fv : Value} (h : FV fv) : TabOK TB mt vwCl (XR fv) RX0 (P_X0) := ⟨by decide, XR_ok h, XR_str, TB_ok, cls_ok, fld_X0, far_X0 fv, cpo_X0⟩
def P_X1 : Pool := ([(12, 0, 9, [1]), (36, 1, 9, [1]), (40, 2, 9, [1]), (56, 2, 9, [7]), (65, 7, 0, [7]), (77, 10, 1, [1]), (80, 4, 0, [1]), (97, 3, 0, [4]), (100, 3, 0, [1]), (103, 0, 9, [7]), (106, 1, 9, [7]), (109, 5, 0, [1]), (111, 6, 0, [1]), (114, 7, 0, [1]), (117, 8, 0, [1]), (120, 3, 9, [7]), (123, 9, 0, [1])],
  [(44, 1, 2, [(0, jJ7_fill_53178)]),
   (50, 0, 1, [(7, jX7_has)]),
   (59, 1, 1, [(0, jJ6_bitCount_0f7a4)]),
   (69, 0, 3, [(1, jX1_weigh)]),
   (73, 0, 3, [(1, jX1_look)]),
   (83, 0, 1, [(1, jX1_kindOf)]),
   (87, 0, 1, [(4, jX4_sum)]),
   (93, 0, 2, [(0, jX0_heed), (2, jX2_heed), (3, jX3_heed), (5, jX5_heed), (6, jX6_heed), (9, jX9_heed), (10, jX10_heed)])],
  [], [], [], [])
theorem fld_X1 : FldOK TB nestW vwCl RX1 (P_X1) := List.forall_mem_cons.mpr ⟨List.forall_mem_cons.mpr ⟨Or.inr ⟨RX1, TX1, 11, rfl, by decide, ⟨RX1, Or.inl q_105, Or.inl rfl⟩, Or.inl rfl⟩, fun _ z => absurd z List.not_mem_nil⟩, List.forall_mem_cons.mpr ⟨List.forall_mem_cons.mpr ⟨Or.inr ⟨RX1, TX1, 11, rfl, by decide, ⟨RX1, Or.inl q_106, Or.inl rfl⟩, Or.inl rfl⟩, fun _ z => absurd z List.not_mem_nil⟩, List.forall_mem_cons.mpr ⟨List.forall_mem_cons.mpr ⟨Or.inr ⟨RX1, TX1, 11, rfl, by decide, ⟨RX1, Or.inl q_107, Or.inl rfl⟩, Or.inl rfl⟩, fun _ z => absurd z List.not_mem_nil⟩, List.forall_mem_cons.mpr ⟨List.forall_mem_cons.mpr ⟨Or.inr ⟨RX7, TX7, 14, rfl, by decide, ⟨RX7, Or.inl q_115, Or.inl rfl⟩, Or.inl rfl⟩, fun _ z => absurd z List.not_mem_nil⟩, List.forall_mem_cons.mpr ⟨List.forall_mem_cons.mpr ⟨Or.inr ⟨RX7, TX7, 14, rfl, by decide, ⟨RX7, Or.inl q_119, Or.inl rfl⟩, Or.inr ⟨rfl, tyX7 7, tyX7_ok 7 (by decide), rfl⟩⟩, fun _ z => absurd z List.not_mem_nil⟩, List.forall_mem_cons.mpr ⟨List.forall_mem_cons.mpr ⟨Or.inr ⟨RX1, TX1, 11, rfl, by decide, ⟨RX1, Or.inl q_127, Or.inl rfl⟩, Or.inr ⟨rfl, tyX1 10, tyX1_ok 10 (by decide), rfl⟩⟩, fun _ z => absurd z List.not_mem_nil⟩, List.forall_mem_cons.mpr ⟨List.forall_mem_cons.mpr ⟨Or.inr ⟨RX1, TX1, 11, rfl, by decide, ⟨RX1, Or.inl q_128, Or.inl rfl⟩, Or.inr ⟨rfl, tyX1 4, tyX1_ok 4 (by decide), rfl⟩⟩, fun _ z => absurd z List.not_mem_nil⟩, List.forall_mem_cons.mpr ⟨List.forall_mem_cons.mpr ⟨Or.inr ⟨RX4, TX4, 10, rfl, by decide, ⟨RX4, Or.inr ⟨RX11, nst_32⟩, Or.inl rfl⟩, Or.inr ⟨rfl, tyX4 3, tyX4_ok 3 (by decide), rfl⟩⟩, fun _ z => absurd z List.not_mem_nil⟩, List.forall_mem_cons.mpr ⟨List.forall_mem_cons.mpr ⟨Or.inr ⟨RX1, TX1, 11, rfl, by decide, ⟨RX1, Or.inl q_158, Or.inl rfl⟩, Or.inr ⟨rfl, tyX1 3, tyX1_ok 3 (by decide), rfl⟩⟩, fun _ z => absurd z List.not_mem_nil⟩, List.forall_mem_cons.mpr ⟨List.forall_mem_cons.mpr ⟨Or.inr ⟨RX7, TX7, 14, rfl, by decide, ⟨RX7, Or.inl q_159, Or.inl rfl⟩, Or.inl rfl⟩, fun _ z => absurd z List.not_mem_nil⟩, List.forall_mem_cons.mpr ⟨List.forall_mem_cons.mpr ⟨Or.inr ⟨RX7, TX7, 14, rfl, by decide, ⟨RX7, Or.inl q_160, Or.inl rfl⟩, Or.inl rfl⟩, fun _ z => absurd z List.not_mem_nil⟩, List.forall_mem_cons.mpr ⟨List.forall_mem_cons.mpr ⟨Or.inr ⟨RX1, TX1, 11, rfl, by decide, ⟨RX1, Or.inl q_161, Or.inl rfl⟩, Or.inr ⟨rfl, tyX1 5, tyX1_ok 5 (by decide), rfl⟩⟩, fun _ z => absurd z List.not_mem_nil⟩, List.forall_mem_cons.mpr ⟨List.forall_mem_cons.mpr ⟨Or.inr ⟨RX1, TX1, 11, rfl, by decide, ⟨RX1, Or.inl q_162, Or.inl rfl⟩, Or.inr ⟨rfl, tyX1 6, tyX1_ok 6 (by decide), rfl⟩⟩, fun _ z => absurd z List.not_mem_nil⟩, List.forall_mem_cons.mpr ⟨List.forall_mem_cons.mpr ⟨Or.inr ⟨RX1, TX1, 11, rfl, by decide, ⟨RX1, Or.inl q_163, Or.inl rfl⟩, Or.inr ⟨rfl, tyX1 7, tyX1_ok 7 (by decide), rfl⟩⟩, fun _ z => absurd z List.not_mem_nil⟩, List.forall_mem_cons.mpr ⟨List.forall_mem_cons.mpr ⟨Or.inr ⟨RX1, TX1, 11, rfl, by decide, ⟨RX1, Or.inl q_164, Or.inl rfl⟩, Or.inr ⟨rfl, tyX1 8, tyX1_ok 8 (by decide), rfl⟩⟩, fun _ z => absurd z List.not_mem_nil⟩, List.forall_mem_cons.mpr ⟨List.forall_mem_cons.mpr ⟨Or.inr ⟨RX7, TX7, 14, rfl, by decide, ⟨RX7, Or.inl q_165, Or.inl rfl⟩, Or.inl rfl⟩, fun _ z => absurd z List.not_mem_nil⟩, List.forall_mem_cons.mpr ⟨List.forall_mem_cons.mpr ⟨Or.inr ⟨RX1, TX1, 11, rfl, by decide, ⟨RX1, Or.inl q_166, Or.inl rfl⟩, Or.inr ⟨rfl, tyX1 9, tyX1_ok 9 (by decide), rfl⟩⟩, fun _ z => absurd z List.not_mem_nil⟩, fun _ z => absurd z List.not_mem_nil⟩⟩⟩⟩⟩⟩⟩⟩⟩⟩⟩⟩⟩⟩⟩⟩⟩
set_option maxRecDepth 4000 in
theorem cpo_X1 : CpOK TB mt vwCl RX1 (P_X1) := List.forall_mem_cons.mpr ⟨Or.inr (Or.inl ⟨rfl, List.forall_mem_cons.mpr ⟨⟨mok_J7_fill_53178, sok (y := yJ7_fill_53178) rfl nmh_J7 rfl q_108 q_109 q_110⟩, fun _ z => absurd z List.not_mem_nil⟩⟩), List.forall_mem_cons.mpr ⟨Or.inl ⟨rfl, List.forall_mem_cons.mpr ⟨⟨mok_X7_has, RX7, Or.inr ⟨_, _, rfl⟩, vokA (y := yX7_has) rfl rfl nmh_X7 rfl q_111 q_112 q_113 q_114⟩, fun _ z => absurd z List.not_mem_nil⟩⟩, List.forall_mem_cons.mpr ⟨Or.inr (Or.inl ⟨rfl, List.forall_mem_cons.mpr ⟨⟨mok_J6_bitCount_0f7a4, sok (y := yJ6_bitCount_0f7a4) rfl nmh_J6 rfl q_116 q_117 q_118⟩, fun _ z => absurd z List.not_mem_nil⟩⟩), List.forall_mem_cons.mpr ⟨Or.inl ⟨rfl, List.forall_mem_cons.mpr ⟨⟨mok_X1_weigh, RX1, Or.inr ⟨_, _, rfl⟩, vokA (y := yX1_weigh) rfl rfl nmh_X1 rfl q_120 q_121 q_122 q_123⟩, fun _ z => absurd z List.not_mem_nil⟩⟩, List.forall_mem_cons.mpr ⟨Or.inl ⟨rfl, List.forall_mem_cons.mpr ⟨⟨mok_X1_look, RX1, Or.inr ⟨_, _, rfl⟩, vokA (y := yX1_look) rfl rfl nmh_X1 rfl q_124 q_125 q_126 q_123⟩, fun _ z => absurd z List.not_mem_nil⟩⟩, List.forall_mem_cons.mpr ⟨Or.inl ⟨rfl, List.forall_mem_cons.mpr ⟨⟨mok_X1_kindOf, RX1, Or.inr ⟨_, _, rfl⟩, vokA (y := yX1_kindOf) rfl rfl nmh_X1 rfl q_129 q_130 q_131 q_123⟩, fun _ z => absurd z List.not_mem_nil⟩⟩, List.forall_mem_cons.mpr ⟨Or.inl ⟨rfl, List.forall_mem_cons.mpr ⟨⟨mok_X4_sum, RX4, Or.inr ⟨_, _, rfl⟩, vokA (y := yX4_sum) rfl rfl nmh_X4 rfl q_132 q_133 q_134 q_135⟩, fun _ z => absurd z List.not_mem_nil⟩⟩, List.forall_mem_cons.mpr ⟨Or.inl ⟨rfl, List.forall_mem_cons.mpr ⟨⟨mok_X0_heed, RX0, Or.inr ⟨_, _, rfl⟩, vokO (x := yX10_heed) (y := yX0_heed) rfl nmh_X10 rfl q_136 q_137 q_138 q_139 q_140 q_141 cw_X10_heed⟩, List.forall_mem_cons.mpr ⟨⟨mok_X2_heed, RX2, Or.inr ⟨_, _, rfl⟩, vokO (x := yX10_heed) (y := yX2_heed) rfl nmh_X10 rfl q_136 q_137 q_138 q_142 q_143 q_144 cw_X10_heed⟩, List.forall_mem_cons.mpr ⟨⟨mok_X3_heed, RX3, Or.inr ⟨_, _, rfl⟩, vokO (x := yX10_heed) (y := yX3_heed) rfl nmh_X10 rfl q_136 q_137 q_138 q_145 q_146 q_147 cw_X10_heed⟩, List.forall_mem_cons.mpr ⟨⟨mok_X5_heed, RX5, Or.inr ⟨_, _, rfl⟩, vokO (x := yX10_heed) (y := yX5_heed) rfl nmh_X10 rfl q_136 q_137 q_138 q_148 q_149 q_150 cw_X10_heed⟩, List.forall_mem_cons.mpr ⟨⟨mok_X6_heed, RX6, Or.inr ⟨_, _, rfl⟩, vokO (x := yX10_heed) (y := yX6_heed) rfl nmh_X10 rfl q_136 q_137 q_138 q_151 q_152 q_153 cw_X10_heed⟩, List.forall_mem_cons.mpr ⟨⟨mok_X9_heed, RX9, Or.inr ⟨_, _, rfl⟩, vokO (x := yX10_heed) (y := yX9_heed) rfl nmh_X10 rfl q_136 q_137 q_138 q_154 q_155 q_156 cw_X10_heed⟩, List.forall_mem_cons.mpr ⟨⟨mok_X10_heed, RX10, Or.inr ⟨_, _, rfl⟩, vokA (y := yX10_heed) rfl rfl nmh_X10 rfl q_136 q_138 q_157 q_99⟩, fun _ z => absurd z List.not_mem_nil⟩⟩⟩⟩⟩⟩⟩⟩, fun _ z => absurd z List.not_mem_nil⟩⟩⟩⟩⟩⟩⟩⟩
theorem far_X1 (fv : Value) : FarOK TB (XR fv) RX1 (P_X1) := ⟨farN (by decide +kernel), fun _ z => absurd z List.not_mem_nil, fun _ z => absurd z List.not_mem_nil, fun _ z => absurd z List.not_mem_nil⟩
theorem tab_X1 {fv : Value} (h : FV fv) : TabOK TB mt vwCl (XR fv) RX1 (P_X1) := ⟨by decide, XR_ok h, XR_str, TB_ok, cls_ok, fld_X1, far_X1 fv, cpo_X1⟩
def P_X2 : Pool := ([],
  [(7, 0, 1, [(2, jX10_begin), (6, jX10_begin)]),
   (13, 2, 1, [(2, jX10_says), (6, jX10_says)])],
  [], [], [], [])
theorem fld_X2 : FldOK TB nestW vwCl RX2 (P_X2) := fun _ z => absurd z List.not_mem_nil
set_option maxRecDepth 4000 in
theorem cpo_X2 : CpOK TB mt vwCl RX2 (P_X2) := List.forall_mem_cons.mpr ⟨Or.inl ⟨rfl, List.forall_mem_cons.mpr ⟨⟨mok_X10_begin, RX2, Or.inr ⟨_, _, rfl⟩, vokU (x := ⟨RX2, "begin", "(I)V"⟩) (y := yX10_begin) rfl rfl nmh_X10 rfl q_167 q_168 q_169 q_98 q_99⟩, List.forall_mem_cons.mpr ⟨⟨mok_X10_begin, RX6, Or.inr ⟨_, _, rfl⟩, vokU (x := ⟨RX2, "begin", "(I)V"⟩) (y := yX10_begin) rfl rfl nmh_X10 rfl q_167 q_168 q_170 q_98 q_99⟩, fun _ z => absurd z List.not_mem_nil⟩⟩⟩, List.forall_mem_cons.mpr ⟨Or.inr (Or.inr (Or.inl ⟨rfl, List.forall_mem_cons.mpr ⟨⟨mok_X10_says, ⟨_, _, _, rfl⟩, uok (y := yX10_says) rfl (by decide +kernel) rfl q_171 q_172 q_173 q_174 q_99⟩, List.forall_mem_cons.mpr ⟨⟨mok_X10_says, ⟨_, _, _, rfl⟩, uok (y := yX10_says) rfl (by decide +kernel) rfl q_171 q_172 q_173 q_174 q_99⟩, fun _ z => absurd z List.not_mem_nil⟩⟩⟩)), fun _ z => absurd z List.not_mem_nil⟩⟩
theorem far_X2 (fv : Value) : FarOK TB (XR fv) RX2 (P_X2) := ⟨fun _ z => absurd z List.not_mem_nil, fun _ z => absurd z List.not_mem_nil, fun _ z => absurd z List.not_mem_nil, fun _ z => absurd z List.not_mem_nil⟩
theorem tab_X2 {fv : Value} (h : FV fv) : TabOK TB mt vwCl (XR fv) RX2 (P_X2) := ⟨by decide, XR_ok h, XR_str, TB_ok, cls_ok, fld_X2, far_X2 fv, cpo_X2⟩
def P_X3 : Pool := ([(7, 5, 0, [1])],
  [(13, 0, 1, [(3, jX10_begin), (5, jX10_begin)]),
   (19, 2, 1, [(3, jX10_leans), (5, jX10_leans)])],
  [], [], [], [])
theorem fld_X3 : FldOK TB nestW vwCl RX3 (P_X3) := List.forall_mem_cons.mpr ⟨List.forall_mem_cons.mpr ⟨Or.inr ⟨RX1, TX1, 11, rfl, by decide, ⟨RX1, Or.inr ⟨RX11, nst_20⟩, Or.inl rfl⟩, Or.inr ⟨rfl, tyX1 5, tyX1_ok 5 (by decide), rfl⟩⟩, fun _ z => absurd z List.not_mem_nil⟩, fun _ z => absurd z List.not_mem_nil⟩
set_option maxRecDepth 4000 in
theorem cpo_X3 : CpOK TB mt vwCl RX3 (P_X3) := List.forall_mem_cons.mpr ⟨Or.inl ⟨rfl, List.forall_mem_cons.mpr ⟨⟨mok_X10_begin, RX3, Or.inr ⟨_, _, rfl⟩, vokU (x := ⟨RX3, "begin", "(I)V"⟩) (y := yX10_begin) rfl rfl nmh_X10 rfl q_175 q_176 q_177 q_98 q_99⟩, List.forall_mem_cons.mpr ⟨⟨mok_X10_begin, RX5, Or.inr ⟨_, _, rfl⟩, vokU (x := ⟨RX3, "begin", "(I)V"⟩) (y := yX10_begin) rfl rfl nmh_X10 rfl q_175 q_176 q_178 q_98 q_99⟩, fun _ z => absurd z List.not_mem_nil⟩⟩⟩, List.forall_mem_cons.mpr ⟨Or.inr (Or.inr (Or.inl ⟨rfl, List.forall_mem_cons.mpr ⟨⟨mok_X10_leans, ⟨_, _, _, rfl⟩, uok (y := yX10_leans) rfl (by decide +kernel) rfl q_179 q_180 q_181 q_182 q_99⟩, List.forall_mem_cons.mpr ⟨⟨mok_X10_leans, ⟨_, _, _, rfl⟩, uok (y := yX10_leans) rfl (by decide +kernel) rfl q_179 q_180 q_181 q_182 q_99⟩, fun _ z => absurd z List.not_mem_nil⟩⟩⟩)), fun _ z => absurd z List.not_mem_nil⟩⟩
theorem far_X3 (fv : Value) : FarOK TB (XR fv) RX3 (P_X3) := ⟨farN (by decide +kernel), fun _ z => absurd z List.not_mem_nil, fun _ z => absurd z List.not_mem_nil, fun _ z => absurd z List.not_mem_nil⟩
theorem tab_X3 {fv : Value} (h : FV fv) : TabOK TB mt vwCl (XR fv) RX3 (P_X3) := ⟨by decide, XR_ok h, XR_str, TB_ok, cls_ok, fld_X3, far_X3 fv, cpo_X3⟩
def P_X4 : Pool := ([(9, 0, 9, [4]), (15, 2, 0, [4]), (19, 3, 0, [4]), (22, 4, 2, [4]), (26, 5, 0, [4]), (29, 6, 0, [4]), (32, 1, 0, [4]), (42, 7, 0, [4]), (60, 9, 0, [4]), (86, 8, 0, [4]), (122, 3, 0, [1]), (127, 4, 0, [1]), (130, 5, 0, [1]), (133, 6, 0, [1]), (136, 7, 0, [1]), (139, 8, 0, [1])],
  [(35, 0, 0, [(4, jX4_advance)]),
   (38, 0, 0, [(4, jX4_readClause)]),
   (45, 0, 1, [(4, jX4_take)]),
   (49, 1, 1, [(0, jX4_wordOf)]),
   (53, 0, 1, [(4, jX4_takeWord)]),
   (57, 0, 0, [(4, jX4_readNumber)]),
   (63, 0, 1, [(4, jX4_readEither)]),
   (66, 0, 1, [(4, jX4_put)]),
   (77, 0, 1, [(4, jX4_readBoth)]),
   (80, 0, 1, [(4, jX4_readPart)]),
   (83, 0, 0, [(4, jX4_readTest)]),
   (91, 1, 2, [(0, jX4_placeOf)]),
   (97, 0, 1, [(50, jJ0_indexOf_0f7a4)]),
   (103, 1, 1, [(0, jX4_isDigit)]),
   (106, 0, 0, [(50, jJ0_length_8abf5)]),
   (110, 0, 1, [(50, jJ0_charAt_5068e)]),
   (114, 1, 2, [(0, jX4_holds)]),
   (118, 1, 2, [(0, jX4_joined)])],
  [(69, .ref 1000), (71, .ref 1001), (73, .ref 1002), (75, .ref 1003), (89, .ref 1004), (95, .ref 1005)], [], [], [])
theorem fld_X4 : FldOK TB nestW vwCl RX4 (P_X4) := List.forall_mem_cons.mpr ⟨List.forall_mem_cons.mpr ⟨Or.inr ⟨RX4, TX4, 10, rfl, by decide, ⟨RX4, Or.inl q_183, Or.inl rfl⟩, Or.inl rfl⟩, fun _ z => absurd z List.not_mem_nil⟩, List.forall_mem_cons.mpr ⟨List.forall_mem_cons.mpr ⟨Or.inr ⟨RX4, TX4, 10, rfl, by decide, ⟨RX4, Or.inl q_184, Or.inl rfl⟩, Or.inr ⟨rfl, tyX4 2, tyX4_ok 2 (by decide), rfl⟩⟩, fun _ z => absurd z List.not_mem_nil⟩, List.forall_mem_cons.mpr ⟨List.forall_mem_cons.mpr ⟨Or.inr ⟨RX4, TX4, 10, rfl, by decide, ⟨RX4, Or.inl q_185, Or.inl rfl⟩, Or.inr ⟨rfl, tyX4 3, tyX4_ok 3 (by decide), rfl⟩⟩, fun _ z => absurd z List.not_mem_nil⟩, List.forall_mem_cons.mpr ⟨List.forall_mem_cons.mpr ⟨Or.inr ⟨RX4, TX4, 10, rfl, by decide, ⟨RX4, Or.inl q_186, Or.inl rfl⟩, Or.inr ⟨rfl, tyX4 4, tyX4_ok 4 (by decide), Or.inr ⟨_, rfl⟩⟩⟩, fun _ z => absurd z List.not_mem_nil⟩, List.forall_mem_cons.mpr ⟨List.forall_mem_cons.mpr ⟨Or.inr ⟨RX4, TX4, 10, rfl, by decide, ⟨RX4, Or.inl q_187, Or.inl rfl⟩, Or.inr ⟨rfl, tyX4 5, tyX4_ok 5 (by decide), rfl⟩⟩, fun _ z => absurd z List.not_mem_nil⟩, List.forall_mem_cons.mpr ⟨List.forall_mem_cons.mpr ⟨Or.inr ⟨RX4, TX4, 10, rfl, by decide, ⟨RX4, Or.inl q_188, Or.inl rfl⟩, Or.inr ⟨rfl, tyX4 6, tyX4_ok 6 (by decide), rfl⟩⟩, fun _ z => absurd z List.not_mem_nil⟩, List.forall_mem_cons.mpr ⟨List.forall_mem_cons.mpr ⟨Or.inr ⟨RX4, TX4, 10, rfl, by decide, ⟨RX4, Or.inl q_189, Or.inl rfl⟩, Or.inr ⟨rfl, tyX4 1, tyX4_ok 1 (by decide), rfl⟩⟩, fun _ z => absurd z List.not_mem_nil⟩, List.forall_mem_cons.mpr ⟨List.forall_mem_cons.mpr ⟨Or.inr ⟨RX4, TX4, 10, rfl, by decide, ⟨RX4, Or.inl q_196, Or.inl rfl⟩, Or.inr ⟨rfl, tyX4 7, tyX4_ok 7 (by decide), rfl⟩⟩, fun _ z => absurd z List.not_mem_nil⟩, List.forall_mem_cons.mpr ⟨List.forall_mem_cons.mpr ⟨Or.inr ⟨RX4, TX4, 10, rfl, by decide, ⟨RX4, Or.inl q_208, Or.inl rfl⟩, Or.inr ⟨rfl, tyX4 9, tyX4_ok 9 (by decide), rfl⟩⟩, fun _ z => absurd z List.not_mem_nil⟩, List.forall_mem_cons.mpr ⟨List.forall_mem_cons.mpr ⟨Or.inr ⟨RX4, TX4, 10, rfl, by decide, ⟨RX4, Or.inl q_224, Or.inl rfl⟩, Or.inr ⟨rfl, tyX4 8, tyX4_ok 8 (by decide), rfl⟩⟩, fun _ z => absurd z List.not_mem_nil⟩, List.forall_mem_cons.mpr ⟨List.forall_mem_cons.mpr ⟨Or.inr ⟨RX1, TX1, 11, rfl, by decide, ⟨RX1, Or.inr ⟨RX11, nst_18⟩, Or.inl rfl⟩, Or.inr ⟨rfl, tyX1 3, tyX1_ok 3 (by decide), rfl⟩⟩, fun _ z => absurd z List.not_mem_nil⟩, List.forall_mem_cons.mpr ⟨List.forall_mem_cons.mpr ⟨Or.inr ⟨RX1, TX1, 11, rfl, by decide, ⟨RX1, Or.inr ⟨RX11, nst_19⟩, Or.inl rfl⟩, Or.inr ⟨rfl, tyX1 4, tyX1_ok 4 (by decide), rfl⟩⟩, fun _ z => absurd z List.not_mem_nil⟩, List.forall_mem_cons.mpr ⟨List.forall_mem_cons.mpr ⟨Or.inr ⟨RX1, TX1, 11, rfl, by decide, ⟨RX1, Or.inr ⟨RX11, nst_22⟩, Or.inl rfl⟩, Or.inr ⟨rfl, tyX1 5, tyX1_ok 5 (by decide), rfl⟩⟩, fun _ z => absurd z List.not_mem_nil⟩, List.forall_mem_cons.mpr ⟨List.forall_mem_cons.mpr ⟨Or.inr ⟨RX1, TX1, 11, rfl, by decide, ⟨RX1, Or.inr ⟨RX11, nst_23⟩, Or.inl rfl⟩, Or.inr ⟨rfl, tyX1 6, tyX1_ok 6 (by decide), rfl⟩⟩, fun _ z => absurd z List.not_mem_nil⟩, List.forall_mem_cons.mpr ⟨List.forall_mem_cons.mpr ⟨Or.inr ⟨RX1, TX1, 11, rfl, by decide, ⟨RX1, Or.inr ⟨RX11, nst_25⟩, Or.inl rfl⟩, Or.inr ⟨rfl, tyX1 7, tyX1_ok 7 (by decide), rfl⟩⟩, fun _ z => absurd z List.not_mem_nil⟩, List.forall_mem_cons.mpr ⟨List.forall_mem_cons.mpr ⟨Or.inr ⟨RX1, TX1, 11, rfl, by decide, ⟨RX1, Or.inr ⟨RX11, nst_26⟩, Or.inl rfl⟩, Or.inr ⟨rfl, tyX1 8, tyX1_ok 8 (by decide), rfl⟩⟩, fun _ z => absurd z List.not_mem_nil⟩, fun _ z => absurd z List.not_mem_nil⟩⟩⟩⟩⟩⟩⟩⟩⟩⟩⟩⟩⟩⟩⟩⟩
set_option maxRecDepth 4000 in
theorem cpo_X4 : CpOK TB mt vwCl RX4 (P_X4) := List.forall_mem_cons.mpr ⟨Or.inl ⟨rfl, List.forall_mem_cons.mpr ⟨⟨mok_X4_advance, RX4, Or.inr ⟨_, _, rfl⟩, vokA (y := yX4_advance) rfl rfl nmh_X4 rfl q_190 q_191 q_192 q_135⟩, fun _ z => absurd z List.not_mem_nil⟩⟩, List.forall_mem_cons.mpr ⟨Or.inl ⟨rfl, List.forall_mem_cons.mpr ⟨⟨mok_X4_readClause, RX4, Or.inr ⟨_, _, rfl⟩, vokA (y := yX4_readClause) rfl rfl nmh_X4 rfl q_193 q_194 q_195 q_135⟩, fun _ z => absurd z List.not_mem_nil⟩⟩, List.forall_mem_cons.mpr ⟨Or.inl ⟨rfl, List.forall_mem_cons.mpr ⟨⟨mok_X4_take, RX4, Or.inr ⟨_, _, rfl⟩, vokA (y := yX4_take) rfl rfl nmh_X4 rfl q_197 q_198 q_199 q_135⟩, fun _ z => absurd z List.not_mem_nil⟩⟩, List.forall_mem_cons.mpr ⟨Or.inr (Or.inl ⟨rfl, List.forall_mem_cons.mpr ⟨⟨mok_X4_wordOf, sok (y := yX4_wordOf) rfl nmh_X4 rfl q_200 q_201 q_135⟩, fun _ z => absurd z List.not_mem_nil⟩⟩), List.forall_mem_cons.mpr ⟨Or.inl ⟨rfl, List.forall_mem_cons.mpr ⟨⟨mok_X4_takeWord, RX4, Or.inr ⟨_, _, rfl⟩, vokA (y := yX4_takeWord) rfl rfl nmh_X4 rfl q_202 q_203 q_204 q_135⟩, fun _ z => absurd z List.not_mem_nil⟩⟩, List.forall_mem_cons.mpr ⟨Or.inl ⟨rfl, List.forall_mem_cons.mpr ⟨⟨mok_X4_readNumber, RX4, Or.inr ⟨_, _, rfl⟩, vokA (y := yX4_readNumber) rfl rfl nmh_X4 rfl q_205 q_206 q_207 q_135⟩, fun _ z => absurd z List.not_mem_nil⟩⟩, List.forall_mem_cons.mpr ⟨Or.inl ⟨rfl, List.forall_mem_cons.mpr ⟨⟨mok_X4_readEither, RX4, Or.inr ⟨_, _, rfl⟩, vokA (y := yX4_readEither) rfl rfl nmh_X4 rfl q_209 q_210 q_211 q_135⟩, fun _ z => absurd z List.not_mem_nil⟩⟩, List.forall_mem_cons.mpr ⟨Or.inl ⟨rfl, List.forall_mem_cons.mpr ⟨⟨mok_X4_put, RX4, Or.inr ⟨_, _, rfl⟩, vokA (y := yX4_put) rfl rfl nmh_X4 rfl q_212 q_213 q_214 q_135⟩, fun _ z => absurd z List.not_mem_nil⟩⟩, List.forall_mem_cons.mpr ⟨Or.inl ⟨rfl, List.forall_mem_cons.mpr ⟨⟨mok_X4_readBoth, RX4, Or.inr ⟨_, _, rfl⟩, vokA (y := yX4_readBoth) rfl rfl nmh_X4 rfl q_215 q_216 q_217 q_135⟩, fun _ z => absurd z List.not_mem_nil⟩⟩, List.forall_mem_cons.mpr ⟨Or.inl ⟨rfl, List.forall_mem_cons.mpr ⟨⟨mok_X4_readPart, RX4, Or.inr ⟨_, _, rfl⟩, vokA (y := yX4_readPart) rfl rfl nmh_X4 rfl q_218 q_219 q_220 q_135⟩, fun _ z => absurd z List.not_mem_nil⟩⟩, List.forall_mem_cons.mpr ⟨Or.inl ⟨rfl, List.forall_mem_cons.mpr ⟨⟨mok_X4_readTest, RX4, Or.inr ⟨_, _, rfl⟩, vokA (y := yX4_readTest) rfl rfl nmh_X4 rfl q_221 q_222 q_223 q_135⟩, fun _ z => absurd z List.not_mem_nil⟩⟩, List.forall_mem_cons.mpr ⟨Or.inr (Or.inl ⟨rfl, List.forall_mem_cons.mpr ⟨⟨mok_X4_placeOf, sok (y := yX4_placeOf) rfl nmh_X4 rfl q_225 q_226 q_135⟩, fun _ z => absurd z List.not_mem_nil⟩⟩), List.forall_mem_cons.mpr ⟨Or.inl ⟨rfl, List.forall_mem_cons.mpr ⟨⟨mok_J0_indexOf_0f7a4, RJ0, Or.inl ⟨rfl, rfl⟩, vokA (y := yJ0_indexOf_0f7a4) rfl rfl nmh_J0 rfl q_227 q_228 q_229 q_230⟩, fun _ z => absurd z List.not_mem_nil⟩⟩, List.forall_mem_cons.mpr ⟨Or.inr (Or.inl ⟨rfl, List.forall_mem_cons.mpr ⟨⟨mok_X4_isDigit, sok (y := yX4_isDigit) rfl nmh_X4 rfl q_231 q_232 q_135⟩, fun _ z => absurd z List.not_mem_nil⟩⟩), List.forall_mem_cons.mpr ⟨Or.inl ⟨rfl, List.forall_mem_cons.mpr ⟨⟨mok_J0_length_8abf5, RJ0, Or.inl ⟨rfl, rfl⟩, vokA (y := yJ0_length_8abf5) rfl rfl nmh_J0 rfl q_233 q_234 q_235 q_230⟩, fun _ z => absurd z List.not_mem_nil⟩⟩, List.forall_mem_cons.mpr ⟨Or.inl ⟨rfl, List.forall_mem_cons.mpr ⟨⟨mok_J0_charAt_5068e, RJ0, Or.inl ⟨rfl, rfl⟩, vokA (y := yJ0_charAt_5068e) rfl rfl nmh_J0 rfl q_236 q_237 q_238 q_230⟩, fun _ z => absurd z List.not_mem_nil⟩⟩, List.forall_mem_cons.mpr ⟨Or.inr (Or.inl ⟨rfl, List.forall_mem_cons.mpr ⟨⟨mok_X4_holds, sok (y := yX4_holds) rfl nmh_X4 rfl q_239 q_240 q_135⟩, fun _ z => absurd z List.not_mem_nil⟩⟩), List.forall_mem_cons.mpr ⟨Or.inr (Or.inl ⟨rfl, List.forall_mem_cons.mpr ⟨⟨mok_X4_joined, sok (y := yX4_joined) rfl nmh_X4 rfl q_241 q_242 q_135⟩, fun _ z => absurd z List.not_mem_nil⟩⟩), fun _ z => absurd z List.not_mem_nil⟩⟩⟩⟩⟩⟩⟩⟩⟩⟩⟩⟩⟩⟩⟩⟩⟩⟩
theorem far_X4 (fv : Value) : FarOK TB (XR fv) RX4 (P_X4) := ⟨farN (by decide +kernel), fun _ z => absurd z List.not_mem_nil, List.forall_mem_cons.mpr ⟨⟨_, List.mem_cons_self⟩, List.forall_mem_cons.mpr ⟨⟨_, List.mem_cons_of_mem _ (List.mem_cons_self)⟩, List.forall_mem_cons.mpr ⟨⟨_, List.mem_cons_of_mem _ (List.mem_cons_of_mem _ (List.mem_cons_self))⟩, List.forall_mem_cons.mpr ⟨⟨_, List.mem_cons_of_mem _ (List.mem_cons_of_mem _ (List.mem_cons_of_mem _ (List.mem_cons_self)))⟩, List.forall_mem_cons.mpr ⟨⟨_, List.mem_cons_of_mem _ (List.mem_cons_of_mem _ (List.mem_cons_of_mem _ (List.mem_cons_of_mem _ (List.mem_cons_self))))⟩, List.forall_mem_cons.mpr ⟨⟨_, List.mem_cons_of_mem _ (List.mem_cons_of_mem _ (List.mem_cons_of_mem _ (List.mem_cons_of_mem _ (List.mem_cons_of_mem _ (List.mem_cons_self)))))⟩, fun _ z => absurd z List.not_mem_nil⟩⟩⟩⟩⟩⟩, fun _ z => absurd z List.not_mem_nil⟩
theorem tab_X4 {fv : Value} (h : FV fv) : TabOK TB mt vwCl (XR fv) RX4 (P_X4) := ⟨by decide, XR_ok h, XR_str, TB_ok, cls_ok, fld_X4, far_X4 fv, cpo_X4⟩
def P_X5 : Pool := ([(11, 10, 1, [1])],
  [(7, 2, 2, [(5, jX3_heed)]),
   (17, 0, 1, [(5, jX10_begin)]),
   (23, 2, 1, [(5, jX10_bristles)]),
   (27, 0, 1, [(5, jX3_leans)])],
  [], [], [], [])
theorem fld_X5 : FldOK TB nestW vwCl RX5 (P_X5) := List.forall_mem_cons.mpr ⟨List.forall_mem_cons.mpr ⟨Or.inr ⟨RX1, TX1, 11, rfl, by decide, ⟨RX1, Or.inr ⟨RX11, nst_28⟩, Or.inl rfl⟩, Or.inr ⟨rfl, tyX1 10, tyX1_ok 10 (by decide), rfl⟩⟩, fun _ z => absurd z List.not_mem_nil⟩, fun _ z => absurd z List.not_mem_nil⟩
set_option maxRecDepth 4000 in
theorem cpo_X5 : CpOK TB mt vwCl RX5 (P_X5) := List.forall_mem_cons.mpr ⟨Or.inr (Or.inr (Or.inl ⟨rfl, List.forall_mem_cons.mpr ⟨⟨mok_X3_heed, ⟨_, _, _, rfl⟩, uok (y := yX3_heed) rfl (by decide +kernel) rfl q_243 q_244 q_245 q_146 q_147⟩, fun _ z => absurd z List.not_mem_nil⟩⟩)), List.forall_mem_cons.mpr ⟨Or.inl ⟨rfl, List.forall_mem_cons.mpr ⟨⟨mok_X10_begin, RX5, Or.inr ⟨_, _, rfl⟩, vokU (x := ⟨RX5, "begin", "(I)V"⟩) (y := yX10_begin) rfl rfl nmh_X10 rfl q_246 q_247 q_248 q_98 q_99⟩, fun _ z => absurd z List.not_mem_nil⟩⟩, List.forall_mem_cons.mpr ⟨Or.inr (Or.inr (Or.inl ⟨rfl, List.forall_mem_cons.mpr ⟨⟨mok_X10_bristles, ⟨_, _, _, rfl⟩, uokI (x := ⟨RX3, "bristles", "(I)I"⟩) (y := yX10_bristles) rfl rfl (by decide +kernel) rfl q_249 q_250 q_245 q_181 q_104 q_99⟩, fun _ z => absurd z List.not_mem_nil⟩⟩)), List.forall_mem_cons.mpr ⟨Or.inl ⟨rfl, List.forall_mem_cons.mpr ⟨⟨mok_X3_leans, RX5, Or.inr ⟨_, _, rfl⟩, vokU (x := ⟨RX5, "leans", "(I)I"⟩) (y := yX3_leans) rfl rfl nmh_X3 rfl q_251 q_252 q_253 q_254 q_147⟩, fun _ z => absurd z List.not_mem_nil⟩⟩, fun _ z => absurd z List.not_mem_nil⟩⟩⟩⟩
theorem far_X5 (fv : Value) : FarOK TB (XR fv) RX5 (P_X5) := ⟨farN (by decide +kernel), fun _ z => absurd z List.not_mem_nil, fun _ z => absurd z List.not_mem_nil, fun _ z => absurd z List.not_mem_nil⟩
theorem tab_X5 {fv : Value} (h : FV fv) : TabOK TB mt vwCl (XR fv) RX5 (P_X5) := ⟨by decide, XR_ok h, XR_str, TB_ok, cls_ok, fld_X5, far_X5 fv, cpo_X5⟩
def P_X6 : Pool := ([(11, 5, 0, [1]), (27, 2, 0, [0, 2, 3, 5, 6, 9, 10])],
  [(7, 2, 2, [(6, jX2_heed)]),
   (17, 0, 1, [(6, jX10_begin)]),
   (23, 2, 1, [(6, jX10_leans)])],
  [], [], [], [])
theorem fld_X6 : FldOK TB nestW vwCl RX6 (P_X6) := List.forall_mem_cons.mpr ⟨List.forall_mem_cons.mpr ⟨Or.inr ⟨RX1, TX1, 11, rfl, by decide, ⟨RX1, Or.inr ⟨RX11, nst_21⟩, Or.inl rfl⟩, Or.inr ⟨rfl, tyX1 5, tyX1_ok 5 (by decide), rfl⟩⟩, fun _ z => absurd z List.not_mem_nil⟩, List.forall_mem_cons.mpr ⟨List.forall_mem_cons.mpr ⟨Or.inr ⟨RX0, TX0, 4, rfl, by decide, ⟨RX6, Or.inl q_263, Or.inr q_264⟩, Or.inr ⟨rfl, tyX0 2, tyX0_ok 2 (by decide), rfl⟩⟩, List.forall_mem_cons.mpr ⟨Or.inr ⟨RX2, TX2, 4, rfl, by decide, ⟨RX6, Or.inl q_263, Or.inr q_264⟩, Or.inr ⟨rfl, tyX2 2, tyX2_ok 2 (by decide), rfl⟩⟩, List.forall_mem_cons.mpr ⟨Or.inr ⟨RX3, TX3, 4, rfl, by decide, ⟨RX6, Or.inl q_263, Or.inr q_264⟩, Or.inr ⟨rfl, tyX3 2, tyX3_ok 2 (by decide), rfl⟩⟩, List.forall_mem_cons.mpr ⟨Or.inr ⟨RX5, TX5, 4, rfl, by decide, ⟨RX6, Or.inl q_263, Or.inr q_264⟩, Or.inr ⟨rfl, tyX5 2, tyX5_ok 2 (by decide), rfl⟩⟩, List.forall_mem_cons.mpr ⟨Or.inr ⟨RX6, TX6, 4, rfl, by decide, ⟨RX6, Or.inl q_263, Or.inr q_264⟩, Or.inr ⟨rfl, tyX6 2, tyX6_ok 2 (by decide), rfl⟩⟩, List.forall_mem_cons.mpr ⟨Or.inr ⟨RX9, TX9, 4, rfl, by decide, ⟨RX6, Or.inl q_263, Or.inr q_264⟩, Or.inr ⟨rfl, tyX9 2, tyX9_ok 2 (by decide), rfl⟩⟩, List.forall_mem_cons.mpr ⟨Or.inr ⟨RX10, TX10, 4, rfl, by decide, ⟨RX6, Or.inl q_263, Or.inr q_264⟩, Or.inr ⟨rfl, tyX10 2, tyX10_ok 2 (by decide), rfl⟩⟩, fun _ z => absurd z List.not_mem_nil⟩⟩⟩⟩⟩⟩⟩, fun _ z => absurd z List.not_mem_nil⟩⟩
set_option maxRecDepth 4000 in
theorem cpo_X6 : CpOK TB mt vwCl RX6 (P_X6) := List.forall_mem_cons.mpr ⟨Or.inr (Or.inr (Or.inl ⟨rfl, List.forall_mem_cons.mpr ⟨⟨mok_X2_heed, ⟨_, _, _, rfl⟩, uok (y := yX2_heed) rfl (by decide +kernel) rfl q_255 q_256 q_257 q_143 q_144⟩, fun _ z => absurd z List.not_mem_nil⟩⟩)), List.forall_mem_cons.mpr ⟨Or.inl ⟨rfl, List.forall_mem_cons.mpr ⟨⟨mok_X10_begin, RX6, Or.inr ⟨_, _, rfl⟩, vokU (x := ⟨RX6, "begin", "(I)V"⟩) (y := yX10_begin) rfl rfl nmh_X10 rfl q_258 q_259 q_260 q_98 q_99⟩, fun _ z => absurd z List.not_mem_nil⟩⟩, List.forall_mem_cons.mpr ⟨Or.inr (Or.inr (Or.inl ⟨rfl, List.forall_mem_cons.mpr ⟨⟨mok_X10_leans, ⟨_, _, _, rfl⟩, uokI (x := ⟨RX2, "leans", "(I)I"⟩) (y := yX10_leans) rfl rfl (by decide +kernel) rfl q_261 q_262 q_257 q_173 q_182 q_99⟩, fun _ z => absurd z List.not_mem_nil⟩⟩)), fun _ z => absurd z List.not_mem_nil⟩⟩⟩
theorem far_X6 (fv : Value) : FarOK TB (XR fv) RX6 (P_X6) := ⟨farN (by decide +kernel), fun _ z => absurd z List.not_mem_nil, fun _ z => absurd z List.not_mem_nil, fun _ z => absurd z List.not_mem_nil⟩
theorem tab_X6 {fv : Value} (h : FV fv) : TabOK TB mt vwCl (XR fv) RX6 (P_X6) := ⟨by decide, XR_ok h, XR_str, TB_ok, cls_ok, fld_X6, far_X6 fv, cpo_X6⟩
def P_X7 : Pool := ([(9, 0, 9, [7]), (15, 1, 9, [7]), (18, 2, 9, [7]), (21, 3, 9, [7]), (24, 4, 9, [7]), (27, 8, 9, [7]), (36, 11, 9, [7]), (40, 12, 9, [7]), (43, 13, 9, [7]), (56, 9, 0, [7]), (60, 10, 0, [7]), (67, 5, 0, [7]), (70, 6, 0, [7]), (73, 7, 0, [7]), (100, 2, 0, [8]), (116, 2, 0, [4])],
  [(46, 0, 1, [(7, jX7_becomeRow)]),
   (50, 5, 5, []),
   (63, 0, 1, [(8, jX8_takeOver)]),
   (76, 0, 2, [(7, jX7_putOut)]),
   (80, 0, 1, [(7, jX7_has)]),
   (84, 0, 1, [(7, jX7_isOut)]),
   (87, 1, 1, [(0, jJ6_bitCount_0f7a4)]),
   (93, 0, 0, [(7, jX7_all)]),
   (97, 0, 1, [(7, jX7_knownBy)]),
   (101, 0, 2, [(8, jX8_cell)]),
   (105, 1, 2, [(0, jJ9_max_7cf53)]),
   (110, 0, 3, [(1, jX1_setsOf)]),
   (121, 1, 2, [(0, jX7_least)])],
  [], [], [], [])
theorem fld_X7 : FldOK TB nestW vwCl RX7 (P_X7) := List.forall_mem_cons.mpr ⟨List.forall_mem_cons.mpr ⟨Or.inr ⟨RX7, TX7, 14, rfl, by decide, ⟨RX7, Or.inl q_265, Or.inl rfl⟩, Or.inl rfl⟩, fun _ z => absurd z List.not_mem_nil⟩, List.forall_mem_cons.mpr ⟨List.forall_mem_cons.mpr ⟨Or.inr ⟨RX7, TX7, 14, rfl, by decide, ⟨RX7, Or.inl q_266, Or.inl rfl⟩, Or.inl rfl⟩, fun _ z => absurd z List.not_mem_nil⟩, List.forall_mem_cons.mpr ⟨List.forall_mem_cons.mpr ⟨Or.inr ⟨RX7, TX7, 14, rfl, by decide, ⟨RX7, Or.inl q_267, Or.inl rfl⟩, Or.inl rfl⟩, fun _ z => absurd z List.not_mem_nil⟩, List.forall_mem_cons.mpr ⟨List.forall_mem_cons.mpr ⟨Or.inr ⟨RX7, TX7, 14, rfl, by decide, ⟨RX7, Or.inl q_268, Or.inl rfl⟩, Or.inl rfl⟩, fun _ z => absurd z List.not_mem_nil⟩, List.forall_mem_cons.mpr ⟨List.forall_mem_cons.mpr ⟨Or.inr ⟨RX7, TX7, 14, rfl, by decide, ⟨RX7, Or.inl q_269, Or.inl rfl⟩, Or.inl rfl⟩, fun _ z => absurd z List.not_mem_nil⟩, List.forall_mem_cons.mpr ⟨List.forall_mem_cons.mpr ⟨Or.inr ⟨RX7, TX7, 14, rfl, by decide, ⟨RX7, Or.inl q_270, Or.inl rfl⟩, Or.inl rfl⟩, fun _ z => absurd z List.not_mem_nil⟩, List.forall_mem_cons.mpr ⟨List.forall_mem_cons.mpr ⟨Or.inr ⟨RX7, TX7, 14, rfl, by decide, ⟨RX7, Or.inl q_271, Or.inl rfl⟩, Or.inl rfl⟩, fun _ z => absurd z List.not_mem_nil⟩, List.forall_mem_cons.mpr ⟨List.forall_mem_cons.mpr ⟨Or.inr ⟨RX7, TX7, 14, rfl, by decide, ⟨RX7, Or.inl q_272, Or.inl rfl⟩, Or.inl rfl⟩, fun _ z => absurd z List.not_mem_nil⟩, List.forall_mem_cons.mpr ⟨List.forall_mem_cons.mpr ⟨Or.inr ⟨RX7, TX7, 14, rfl, by decide, ⟨RX7, Or.inl q_273, Or.inl rfl⟩, Or.inl rfl⟩, fun _ z => absurd z List.not_mem_nil⟩, List.forall_mem_cons.mpr ⟨List.forall_mem_cons.mpr ⟨Or.inr ⟨RX7, TX7, 14, rfl, by decide, ⟨RX7, Or.inl q_281, Or.inl rfl⟩, Or.inr ⟨rfl, tyX7 9, tyX7_ok 9 (by decide), rfl⟩⟩, fun _ z => absurd z List.not_mem_nil⟩, List.forall_mem_cons.mpr ⟨List.forall_mem_cons.mpr ⟨Or.inr ⟨RX7, TX7, 14, rfl, by decide, ⟨RX7, Or.inl q_282, Or.inl rfl⟩, Or.inr ⟨rfl, tyX7 10, tyX7_ok 10 (by decide), rfl⟩⟩, fun _ z => absurd z List.not_mem_nil⟩, List.forall_mem_cons.mpr ⟨List.forall_mem_cons.mpr ⟨Or.inr ⟨RX7, TX7, 14, rfl, by decide, ⟨RX7, Or.inl q_287, Or.inl rfl⟩, Or.inr ⟨rfl, tyX7 5, tyX7_ok 5 (by decide), rfl⟩⟩, fun _ z => absurd z List.not_mem_nil⟩, List.forall_mem_cons.mpr ⟨List.forall_mem_cons.mpr ⟨Or.inr ⟨RX7, TX7, 14, rfl, by decide, ⟨RX7, Or.inl q_288, Or.inl rfl⟩, Or.inr ⟨rfl, tyX7 6, tyX7_ok 6 (by decide), rfl⟩⟩, fun _ z => absurd z List.not_mem_nil⟩, List.forall_mem_cons.mpr ⟨List.forall_mem_cons.mpr ⟨Or.inr ⟨RX7, TX7, 14, rfl, by decide, ⟨RX7, Or.inl q_289, Or.inl rfl⟩, Or.inr ⟨rfl, tyX7 7, tyX7_ok 7 (by decide), rfl⟩⟩, fun _ z => absurd z List.not_mem_nil⟩, List.forall_mem_cons.mpr ⟨List.forall_mem_cons.mpr ⟨Or.inr ⟨RX8, TX8, 3, rfl, by decide, ⟨RX8, Or.inr ⟨RX11, nst_1⟩, Or.inl rfl⟩, Or.inr ⟨rfl, tyX8 2, tyX8_ok 2 (by decide), rfl⟩⟩, fun _ z => absurd z List.not_mem_nil⟩, List.forall_mem_cons.mpr ⟨List.forall_mem_cons.mpr ⟨Or.inr ⟨RX4, TX4, 10, rfl, by decide, ⟨RX4, Or.inr ⟨RX11, nst_31⟩, Or.inl rfl⟩, Or.inr ⟨rfl, tyX4 2, tyX4_ok 2 (by decide), rfl⟩⟩, fun _ z => absurd z List.not_mem_nil⟩, fun _ z => absurd z List.not_mem_nil⟩⟩⟩⟩⟩⟩⟩⟩⟩⟩⟩⟩⟩⟩⟩⟩
set_option maxRecDepth 4000 in
theorem cpo_X7 : CpOK TB mt vwCl RX7 (P_X7) := List.forall_mem_cons.mpr ⟨Or.inl ⟨rfl, List.forall_mem_cons.mpr ⟨⟨mok_X7_becomeRow, RX7, Or.inr ⟨_, _, rfl⟩, vokA (y := yX7_becomeRow) rfl rfl nmh_X7 rfl q_274 q_275 q_276 q_114⟩, fun _ z => absurd z List.not_mem_nil⟩⟩, List.forall_mem_cons.mpr ⟨Or.inr (Or.inr (Or.inr ⟨rfl, q_277, q_278, q_279, q_280⟩)), List.forall_mem_cons.mpr ⟨Or.inl ⟨rfl, List.forall_mem_cons.mpr ⟨⟨mok_X8_takeOver, RX8, Or.inr ⟨_, _, rfl⟩, vokA (y := yX8_takeOver) rfl rfl nmh_X8 rfl q_283 q_284 q_285 q_286⟩, fun _ z => absurd z List.not_mem_nil⟩⟩, List.forall_mem_cons.mpr ⟨Or.inl ⟨rfl, List.forall_mem_cons.mpr ⟨⟨mok_X7_putOut, RX7, Or.inr ⟨_, _, rfl⟩, vokA (y := yX7_putOut) rfl rfl nmh_X7 rfl q_290 q_291 q_292 q_114⟩, fun _ z => absurd z List.not_mem_nil⟩⟩, List.forall_mem_cons.mpr ⟨Or.inl ⟨rfl, List.forall_mem_cons.mpr ⟨⟨mok_X7_has, RX7, Or.inr ⟨_, _, rfl⟩, vokA (y := yX7_has) rfl rfl nmh_X7 rfl q_293 q_112 q_113 q_114⟩, fun _ z => absurd z List.not_mem_nil⟩⟩, List.forall_mem_cons.mpr ⟨Or.inl ⟨rfl, List.forall_mem_cons.mpr ⟨⟨mok_X7_isOut, RX7, Or.inr ⟨_, _, rfl⟩, vokA (y := yX7_isOut) rfl rfl nmh_X7 rfl q_294 q_295 q_296 q_114⟩, fun _ z => absurd z List.not_mem_nil⟩⟩, List.forall_mem_cons.mpr ⟨Or.inr (Or.inl ⟨rfl, List.forall_mem_cons.mpr ⟨⟨mok_J6_bitCount_0f7a4, sok (y := yJ6_bitCount_0f7a4) rfl nmh_J6 rfl q_297 q_117 q_118⟩, fun _ z => absurd z List.not_mem_nil⟩⟩), List.forall_mem_cons.mpr ⟨Or.inl ⟨rfl, List.forall_mem_cons.mpr ⟨⟨mok_X7_all, RX7, Or.inr ⟨_, _, rfl⟩, vokA (y := yX7_all) rfl rfl nmh_X7 rfl q_298 q_299 q_300 q_114⟩, fun _ z => absurd z List.not_mem_nil⟩⟩, List.forall_mem_cons.mpr ⟨Or.inl ⟨rfl, List.forall_mem_cons.mpr ⟨⟨mok_X7_knownBy, RX7, Or.inr ⟨_, _, rfl⟩, vokA (y := yX7_knownBy) rfl rfl nmh_X7 rfl q_301 q_302 q_303 q_114⟩, fun _ z => absurd z List.not_mem_nil⟩⟩, List.forall_mem_cons.mpr ⟨Or.inl ⟨rfl, List.forall_mem_cons.mpr ⟨⟨mok_X8_cell, RX8, Or.inr ⟨_, _, rfl⟩, vokA (y := yX8_cell) rfl rfl nmh_X8 rfl q_304 q_305 q_306 q_286⟩, fun _ z => absurd z List.not_mem_nil⟩⟩, List.forall_mem_cons.mpr ⟨Or.inr (Or.inl ⟨rfl, List.forall_mem_cons.mpr ⟨⟨mok_J9_max_7cf53, sok (y := yJ9_max_7cf53) rfl nmh_J9 rfl q_307 q_308 q_309⟩, fun _ z => absurd z List.not_mem_nil⟩⟩), List.forall_mem_cons.mpr ⟨Or.inl ⟨rfl, List.forall_mem_cons.mpr ⟨⟨mok_X1_setsOf, RX1, Or.inr ⟨_, _, rfl⟩, vokA (y := yX1_setsOf) rfl rfl nmh_X1 rfl q_310 q_311 q_312 q_123⟩, fun _ z => absurd z List.not_mem_nil⟩⟩, List.forall_mem_cons.mpr ⟨Or.inr (Or.inl ⟨rfl, List.forall_mem_cons.mpr ⟨⟨mok_X7_least, sok (y := yX7_least) rfl nmh_X7 rfl q_313 q_314 q_114⟩, fun _ z => absurd z List.not_mem_nil⟩⟩), fun _ z => absurd z List.not_mem_nil⟩⟩⟩⟩⟩⟩⟩⟩⟩⟩⟩⟩⟩
theorem far_X7 (fv : Value) : FarOK TB (XR fv) RX7 (P_X7) := ⟨farN (by decide +kernel), fun _ z => absurd z List.not_mem_nil, fun _ z => absurd z List.not_mem_nil, fun _ z => absurd z List.not_mem_nil⟩
theorem tab_X7 {fv : Value} (h : FV fv) : TabOK TB mt vwCl (XR fv) RX7 (P_X7) := ⟨by decide, XR_ok h, XR_str, TB_ok, cls_ok, fld_X7, far_X7 fv, cpo_X7⟩
def P_X8 : Pool := ([(11, 0, 9, [8]), (21, 1, 9, [8]), (25, 2, 0, [8])],
  [(15, 1, 2, [(0, jJ9_min_7cf53)]),
   (28, 5, 5, [])],
  [], [], [], [])
theorem fld_X8 : FldOK TB nestW vwCl RX8 (P_X8) := List.forall_mem_cons.mpr ⟨List.forall_mem_cons.mpr ⟨Or.inr ⟨RX8, TX8, 3, rfl, by decide, ⟨RX8, Or.inl q_315, Or.inl rfl⟩, Or.inl rfl⟩, fun _ z => absurd z List.not_mem_nil⟩, List.forall_mem_cons.mpr ⟨List.forall_mem_cons.mpr ⟨Or.inr ⟨RX8, TX8, 3, rfl, by decide, ⟨RX8, Or.inl q_318, Or.inl rfl⟩, Or.inl rfl⟩, fun _ z => absurd z List.not_mem_nil⟩, List.forall_mem_cons.mpr ⟨List.forall_mem_cons.mpr ⟨Or.inr ⟨RX8, TX8, 3, rfl, by decide, ⟨RX8, Or.inl q_319, Or.inl rfl⟩, Or.inr ⟨rfl, tyX8 2, tyX8_ok 2 (by decide), rfl⟩⟩, fun _ z => absurd z List.not_mem_nil⟩, fun _ z => absurd z List.not_mem_nil⟩⟩⟩
set_option maxRecDepth 4000 in
theorem cpo_X8 : CpOK TB mt vwCl RX8 (P_X8) := List.forall_mem_cons.mpr ⟨Or.inr (Or.inl ⟨rfl, List.forall_mem_cons.mpr ⟨⟨mok_J9_min_7cf53, sok (y := yJ9_min_7cf53) rfl nmh_J9 rfl q_316 q_317 q_309⟩, fun _ z => absurd z List.not_mem_nil⟩⟩), List.forall_mem_cons.mpr ⟨Or.inr (Or.inr (Or.inr ⟨rfl, q_320, q_278, q_279, q_280⟩)), fun _ z => absurd z List.not_mem_nil⟩⟩
theorem far_X8 (fv : Value) : FarOK TB (XR fv) RX8 (P_X8) := ⟨farN (by decide +kernel), fun _ z => absurd z List.not_mem_nil, fun _ z => absurd z List.not_mem_nil, fun _ z => absurd z List.not_mem_nil⟩
theorem tab_X8 {fv : Value} (h : FV fv) : TabOK TB mt vwCl (XR fv) RX8 (P_X8) := ⟨by decide, XR_ok h, XR_str, TB_ok, cls_ok, fld_X8, far_X8 fv, cpo_X8⟩
def P_X9 : Pool := ([(11, 9, 0, [1]), (27, 3, 0, [0, 2, 3, 5, 6, 9, 10])],
  [(7, 2, 2, [(9, jX0_heed)]),
   (17, 0, 1, [(9, jX10_begin)]),
   (23, 2, 1, [(9, jX10_says)])],
  [], [], [], [])
theorem fld_X9 : FldOK TB nestW vwCl RX9 (P_X9) := List.forall_mem_cons.mpr ⟨List.forall_mem_cons.mpr ⟨Or.inr ⟨RX1, TX1, 11, rfl, by decide, ⟨RX1, Or.inr ⟨RX11, nst_27⟩, Or.inl rfl⟩, Or.inr ⟨rfl, tyX1 9, tyX1_ok 9 (by decide), rfl⟩⟩, fun _ z => absurd z List.not_mem_nil⟩, List.forall_mem_cons.mpr ⟨List.forall_mem_cons.mpr ⟨Or.inr ⟨RX0, TX0, 4, rfl, by decide, ⟨RX9, Or.inl q_329, Or.inr q_330⟩, Or.inr ⟨rfl, tyX0 3, tyX0_ok 3 (by decide), rfl⟩⟩, List.forall_mem_cons.mpr ⟨Or.inr ⟨RX2, TX2, 4, rfl, by decide, ⟨RX9, Or.inl q_329, Or.inr q_330⟩, Or.inr ⟨rfl, tyX2 3, tyX2_ok 3 (by decide), rfl⟩⟩, List.forall_mem_cons.mpr ⟨Or.inr ⟨RX3, TX3, 4, rfl, by decide, ⟨RX9, Or.inl q_329, Or.inr q_330⟩, Or.inr ⟨rfl, tyX3 3, tyX3_ok 3 (by decide), rfl⟩⟩, List.forall_mem_cons.mpr ⟨Or.inr ⟨RX5, TX5, 4, rfl, by decide, ⟨RX9, Or.inl q_329, Or.inr q_330⟩, Or.inr ⟨rfl, tyX5 3, tyX5_ok 3 (by decide), rfl⟩⟩, List.forall_mem_cons.mpr ⟨Or.inr ⟨RX6, TX6, 4, rfl, by decide, ⟨RX9, Or.inl q_329, Or.inr q_330⟩, Or.inr ⟨rfl, tyX6 3, tyX6_ok 3 (by decide), rfl⟩⟩, List.forall_mem_cons.mpr ⟨Or.inr ⟨RX9, TX9, 4, rfl, by decide, ⟨RX9, Or.inl q_329, Or.inr q_330⟩, Or.inr ⟨rfl, tyX9 3, tyX9_ok 3 (by decide), rfl⟩⟩, List.forall_mem_cons.mpr ⟨Or.inr ⟨RX10, TX10, 4, rfl, by decide, ⟨RX9, Or.inl q_329, Or.inr q_330⟩, Or.inr ⟨rfl, tyX10 3, tyX10_ok 3 (by decide), rfl⟩⟩, fun _ z => absurd z List.not_mem_nil⟩⟩⟩⟩⟩⟩⟩, fun _ z => absurd z List.not_mem_nil⟩⟩
set_option maxRecDepth 4000 in
theorem cpo_X9 : CpOK TB mt vwCl RX9 (P_X9) := List.forall_mem_cons.mpr ⟨Or.inr (Or.inr (Or.inl ⟨rfl, List.forall_mem_cons.mpr ⟨⟨mok_X0_heed, ⟨_, _, _, rfl⟩, uok (y := yX0_heed) rfl (by decide +kernel) rfl q_321 q_322 q_323 q_140 q_141⟩, fun _ z => absurd z List.not_mem_nil⟩⟩)), List.forall_mem_cons.mpr ⟨Or.inl ⟨rfl, List.forall_mem_cons.mpr ⟨⟨mok_X10_begin, RX9, Or.inr ⟨_, _, rfl⟩, vokU (x := ⟨RX9, "begin", "(I)V"⟩) (y := yX10_begin) rfl rfl nmh_X10 rfl q_324 q_325 q_326 q_98 q_99⟩, fun _ z => absurd z List.not_mem_nil⟩⟩, List.forall_mem_cons.mpr ⟨Or.inr (Or.inr (Or.inl ⟨rfl, List.forall_mem_cons.mpr ⟨⟨mok_X10_says, ⟨_, _, _, rfl⟩, uokI (x := ⟨RX0, "says", "(I)I"⟩) (y := yX10_says) rfl rfl (by decide +kernel) rfl q_327 q_328 q_323 q_103 q_174 q_99⟩, fun _ z => absurd z List.not_mem_nil⟩⟩)), fun _ z => absurd z List.not_mem_nil⟩⟩⟩
theorem far_X9 (fv : Value) : FarOK TB (XR fv) RX9 (P_X9) := ⟨farN (by decide +kernel), fun _ z => absurd z List.not_mem_nil, fun _ z => absurd z List.not_mem_nil, fun _ z => absurd z List.not_mem_nil⟩
theorem tab_X9 {fv : Value} (h : FV fv) : TabOK TB mt vwCl (XR fv) RX9 (P_X9) := ⟨by decide, XR_ok h, XR_str, TB_ok, cls_ok, fld_X9, far_X9 fv, cpo_X9⟩
def P_X10 : Pool := ([(9, 0, 9, [0, 2, 3, 5, 6, 9, 10]), (15, 2, 0, [0, 2, 3, 5, 6, 9, 10]), (19, 3, 0, [0, 2, 3, 5, 6, 9, 10]), (22, 1, 0, [0, 2, 3, 5, 6, 9, 10])],
  [(25, 0, 1, [(0, jX10_begin), (2, jX10_begin), (3, jX10_begin), (5, jX10_begin), (6, jX10_begin), (9, jX10_begin), (10, jX10_begin)]),
   (29, 0, 1, [(0, jX10_leans), (2, jX10_leans), (3, jX3_leans), (5, jX3_leans), (6, jX6_leans), (9, jX10_leans), (10, jX10_leans)]),
   (33, 0, 1, [(0, jX10_says), (2, jX2_says), (3, jX10_says), (5, jX10_says), (6, jX2_says), (9, jX9_says), (10, jX10_says)])],
  [], [], [], [])
theorem fld_X10 : FldOK TB nestW vwCl RX10 (P_X10) := List.forall_mem_cons.mpr ⟨List.forall_mem_cons.mpr ⟨Or.inr ⟨RX0, TX0, 4, rfl, by decide, ⟨RX10, Or.inl q_331, Or.inl rfl⟩, Or.inl rfl⟩, List.forall_mem_cons.mpr ⟨Or.inr ⟨RX2, TX2, 4, rfl, by decide, ⟨RX10, Or.inl q_331, Or.inl rfl⟩, Or.inl rfl⟩, List.forall_mem_cons.mpr ⟨Or.inr ⟨RX3, TX3, 4, rfl, by decide, ⟨RX10, Or.inl q_331, Or.inl rfl⟩, Or.inl rfl⟩, List.forall_mem_cons.mpr ⟨Or.inr ⟨RX5, TX5, 4, rfl, by decide, ⟨RX10, Or.inl q_331, Or.inl rfl⟩, Or.inl rfl⟩, List.forall_mem_cons.mpr ⟨Or.inr ⟨RX6, TX6, 4, rfl, by decide, ⟨RX10, Or.inl q_331, Or.inl rfl⟩, Or.inl rfl⟩, List.forall_mem_cons.mpr ⟨Or.inr ⟨RX9, TX9, 4, rfl, by decide, ⟨RX10, Or.inl q_331, Or.inl rfl⟩, Or.inl rfl⟩, List.forall_mem_cons.mpr ⟨Or.inr ⟨RX10, TX10, 4, rfl, by decide, ⟨RX10, Or.inl q_331, Or.inl rfl⟩, Or.inl rfl⟩, fun _ z => absurd z List.not_mem_nil⟩⟩⟩⟩⟩⟩⟩, List.forall_mem_cons.mpr ⟨List.forall_mem_cons.mpr ⟨Or.inr ⟨RX0, TX0, 4, rfl, by decide, ⟨RX10, Or.inl q_332, Or.inl rfl⟩, Or.inr ⟨rfl, tyX0 2, tyX0_ok 2 (by decide), rfl⟩⟩, List.forall_mem_cons.mpr ⟨Or.inr ⟨RX2, TX2, 4, rfl, by decide, ⟨RX10, Or.inl q_332, Or.inl rfl⟩, Or.inr ⟨rfl, tyX2 2, tyX2_ok 2 (by decide), rfl⟩⟩, List.forall_mem_cons.mpr ⟨Or.inr ⟨RX3, TX3, 4, rfl, by decide, ⟨RX10, Or.inl q_332, Or.inl rfl⟩, Or.inr ⟨rfl, tyX3 2, tyX3_ok 2 (by decide), rfl⟩⟩, List.forall_mem_cons.mpr ⟨Or.inr ⟨RX5, TX5, 4, rfl, by decide, ⟨RX10, Or.inl q_332, Or.inl rfl⟩, Or.inr ⟨rfl, tyX5 2, tyX5_ok 2 (by decide), rfl⟩⟩, List.forall_mem_cons.mpr ⟨Or.inr ⟨RX6, TX6, 4, rfl, by decide, ⟨RX10, Or.inl q_332, Or.inl rfl⟩, Or.inr ⟨rfl, tyX6 2, tyX6_ok 2 (by decide), rfl⟩⟩, List.forall_mem_cons.mpr ⟨Or.inr ⟨RX9, TX9, 4, rfl, by decide, ⟨RX10, Or.inl q_332, Or.inl rfl⟩, Or.inr ⟨rfl, tyX9 2, tyX9_ok 2 (by decide), rfl⟩⟩, List.forall_mem_cons.mpr ⟨Or.inr ⟨RX10, TX10, 4, rfl, by decide, ⟨RX10, Or.inl q_332, Or.inl rfl⟩, Or.inr ⟨rfl, tyX10 2, tyX10_ok 2 (by decide), rfl⟩⟩, fun _ z => absurd z List.not_mem_nil⟩⟩⟩⟩⟩⟩⟩, List.forall_mem_cons.mpr ⟨List.forall_mem_cons.mpr ⟨Or.inr ⟨RX0, TX0, 4, rfl, by decide, ⟨RX10, Or.inl q_333, Or.inl rfl⟩, Or.inr ⟨rfl, tyX0 3, tyX0_ok 3 (by decide), rfl⟩⟩, List.forall_mem_cons.mpr ⟨Or.inr ⟨RX2, TX2, 4, rfl, by decide, ⟨RX10, Or.inl q_333, Or.inl rfl⟩, Or.inr ⟨rfl, tyX2 3, tyX2_ok 3 (by decide), rfl⟩⟩, List.forall_mem_cons.mpr ⟨Or.inr ⟨RX3, TX3, 4, rfl, by decide, ⟨RX10, Or.inl q_333, Or.inl rfl⟩, Or.inr ⟨rfl, tyX3 3, tyX3_ok 3 (by decide), rfl⟩⟩, List.forall_mem_cons.mpr ⟨Or.inr ⟨RX5, TX5, 4, rfl, by decide, ⟨RX10, Or.inl q_333, Or.inl rfl⟩, Or.inr ⟨rfl, tyX5 3, tyX5_ok 3 (by decide), rfl⟩⟩, List.forall_mem_cons.mpr ⟨Or.inr ⟨RX6, TX6, 4, rfl, by decide, ⟨RX10, Or.inl q_333, Or.inl rfl⟩, Or.inr ⟨rfl, tyX6 3, tyX6_ok 3 (by decide), rfl⟩⟩, List.forall_mem_cons.mpr ⟨Or.inr ⟨RX9, TX9, 4, rfl, by decide, ⟨RX10, Or.inl q_333, Or.inl rfl⟩, Or.inr ⟨rfl, tyX9 3, tyX9_ok 3 (by decide), rfl⟩⟩, List.forall_mem_cons.mpr ⟨Or.inr ⟨RX10, TX10, 4, rfl, by decide, ⟨RX10, Or.inl q_333, Or.inl rfl⟩, Or.inr ⟨rfl, tyX10 3, tyX10_ok 3 (by decide), rfl⟩⟩, fun _ z => absurd z List.not_mem_nil⟩⟩⟩⟩⟩⟩⟩, List.forall_mem_cons.mpr ⟨List.forall_mem_cons.mpr ⟨Or.inr ⟨RX0, TX0, 4, rfl, by decide, ⟨RX10, Or.inl q_334, Or.inl rfl⟩, Or.inr ⟨rfl, tyX0 1, tyX0_ok 1 (by decide), rfl⟩⟩, List.forall_mem_cons.mpr ⟨Or.inr ⟨RX2, TX2, 4, rfl, by decide, ⟨RX10, Or.inl q_334, Or.inl rfl⟩, Or.inr ⟨rfl, tyX2 1, tyX2_ok 1 (by decide), rfl⟩⟩, List.forall_mem_cons.mpr ⟨Or.inr ⟨RX3, TX3, 4, rfl, by decide, ⟨RX10, Or.inl q_334, Or.inl rfl⟩, Or.inr ⟨rfl, tyX3 1, tyX3_ok 1 (by decide), rfl⟩⟩, List.forall_mem_cons.mpr ⟨Or.inr ⟨RX5, TX5, 4, rfl, by decide, ⟨RX10, Or.inl q_334, Or.inl rfl⟩, Or.inr ⟨rfl, tyX5 1, tyX5_ok 1 (by decide), rfl⟩⟩, List.forall_mem_cons.mpr ⟨Or.inr ⟨RX6, TX6, 4, rfl, by decide, ⟨RX10, Or.inl q_334, Or.inl rfl⟩, Or.inr ⟨rfl, tyX6 1, tyX6_ok 1 (by decide), rfl⟩⟩, List.forall_mem_cons.mpr ⟨Or.inr ⟨RX9, TX9, 4, rfl, by decide, ⟨RX10, Or.inl q_334, Or.inl rfl⟩, Or.inr ⟨rfl, tyX9 1, tyX9_ok 1 (by decide), rfl⟩⟩, List.forall_mem_cons.mpr ⟨Or.inr ⟨RX10, TX10, 4, rfl, by decide, ⟨RX10, Or.inl q_334, Or.inl rfl⟩, Or.inr ⟨rfl, tyX10 1, tyX10_ok 1 (by decide), rfl⟩⟩, fun _ z => absurd z List.not_mem_nil⟩⟩⟩⟩⟩⟩⟩, fun _ z => absurd z List.not_mem_nil⟩⟩⟩⟩
set_option maxRecDepth 4000 in
theorem cpo_X10 : CpOK TB mt vwCl RX10 (P_X10) := List.forall_mem_cons.mpr ⟨Or.inl ⟨rfl, List.forall_mem_cons.mpr ⟨⟨mok_X10_begin, RX0, Or.inr ⟨_, _, rfl⟩, vokU (x := yX10_begin) (y := yX10_begin) rfl rfl nmh_X10 rfl q_335 q_336 q_337 q_98 q_99⟩, List.forall_mem_cons.mpr ⟨⟨mok_X10_begin, RX2, Or.inr ⟨_, _, rfl⟩, vokU (x := yX10_begin) (y := yX10_begin) rfl rfl nmh_X10 rfl q_335 q_336 q_338 q_98 q_99⟩, List.forall_mem_cons.mpr ⟨⟨mok_X10_begin, RX3, Or.inr ⟨_, _, rfl⟩, vokU (x := yX10_begin) (y := yX10_begin) rfl rfl nmh_X10 rfl q_335 q_336 q_339 q_98 q_99⟩, List.forall_mem_cons.mpr ⟨⟨mok_X10_begin, RX5, Or.inr ⟨_, _, rfl⟩, vokU (x := yX10_begin) (y := yX10_begin) rfl rfl nmh_X10 rfl q_335 q_336 q_340 q_98 q_99⟩, List.forall_mem_cons.mpr ⟨⟨mok_X10_begin, RX6, Or.inr ⟨_, _, rfl⟩, vokU (x := yX10_begin) (y := yX10_begin) rfl rfl nmh_X10 rfl q_335 q_336 q_341 q_98 q_99⟩, List.forall_mem_cons.mpr ⟨⟨mok_X10_begin, RX9, Or.inr ⟨_, _, rfl⟩, vokU (x := yX10_begin) (y := yX10_begin) rfl rfl nmh_X10 rfl q_335 q_336 q_342 q_98 q_99⟩, List.forall_mem_cons.mpr ⟨⟨mok_X10_begin, RX10, Or.inr ⟨_, _, rfl⟩, vokA (y := yX10_begin) rfl rfl nmh_X10 rfl q_335 q_98 q_343 q_99⟩, fun _ z => absurd z List.not_mem_nil⟩⟩⟩⟩⟩⟩⟩⟩, List.forall_mem_cons.mpr ⟨Or.inl ⟨rfl, List.forall_mem_cons.mpr ⟨⟨mok_X10_leans, RX0, Or.inr ⟨_, _, rfl⟩, vokU (x := yX10_leans) (y := yX10_leans) rfl rfl nmh_X10 rfl q_344 q_180 q_345 q_182 q_99⟩, List.forall_mem_cons.mpr ⟨⟨mok_X10_leans, RX2, Or.inr ⟨_, _, rfl⟩, vokU (x := yX10_leans) (y := yX10_leans) rfl rfl nmh_X10 rfl q_344 q_180 q_346 q_182 q_99⟩, List.forall_mem_cons.mpr ⟨⟨mok_X3_leans, RX3, Or.inr ⟨_, _, rfl⟩, vokO (x := yX10_leans) (y := yX3_leans) rfl nmh_X10 rfl q_344 q_180 q_182 q_347 q_254 q_147 cw_X10_leans⟩, List.forall_mem_cons.mpr ⟨⟨mok_X3_leans, RX5, Or.inr ⟨_, _, rfl⟩, vokO (x := yX10_leans) (y := yX3_leans) rfl nmh_X10 rfl q_344 q_180 q_182 q_348 q_254 q_147 cw_X10_leans⟩, List.forall_mem_cons.mpr ⟨⟨mok_X6_leans, RX6, Or.inr ⟨_, _, rfl⟩, vokO (x := yX10_leans) (y := yX6_leans) rfl nmh_X10 rfl q_344 q_180 q_182 q_349 q_350 q_153 cw_X10_leans⟩, List.forall_mem_cons.mpr ⟨⟨mok_X10_leans, RX9, Or.inr ⟨_, _, rfl⟩, vokU (x := yX10_leans) (y := yX10_leans) rfl rfl nmh_X10 rfl q_344 q_180 q_351 q_182 q_99⟩, List.forall_mem_cons.mpr ⟨⟨mok_X10_leans, RX10, Or.inr ⟨_, _, rfl⟩, vokA (y := yX10_leans) rfl rfl nmh_X10 rfl q_344 q_182 q_352 q_99⟩, fun _ z => absurd z List.not_mem_nil⟩⟩⟩⟩⟩⟩⟩⟩, List.forall_mem_cons.mpr ⟨Or.inl ⟨rfl, List.forall_mem_cons.mpr ⟨⟨mok_X10_says, RX0, Or.inr ⟨_, _, rfl⟩, vokU (x := yX10_says) (y := yX10_says) rfl rfl nmh_X10 rfl q_353 q_172 q_354 q_174 q_99⟩, List.forall_mem_cons.mpr ⟨⟨mok_X2_says, RX2, Or.inr ⟨_, _, rfl⟩, vokO (x := yX10_says) (y := yX2_says) rfl nmh_X10 rfl q_353 q_172 q_174 q_355 q_356 q_144 cw_X10_says⟩, List.forall_mem_cons.mpr ⟨⟨mok_X10_says, RX3, Or.inr ⟨_, _, rfl⟩, vokU (x := yX10_says) (y := yX10_says) rfl rfl nmh_X10 rfl q_353 q_172 q_357 q_174 q_99⟩, List.forall_mem_cons.mpr ⟨⟨mok_X10_says, RX5, Or.inr ⟨_, _, rfl⟩, vokU (x := yX10_says) (y := yX10_says) rfl rfl nmh_X10 rfl q_353 q_172 q_358 q_174 q_99⟩, List.forall_mem_cons.mpr ⟨⟨mok_X2_says, RX6, Or.inr ⟨_, _, rfl⟩, vokO (x := yX10_says) (y := yX2_says) rfl nmh_X10 rfl q_353 q_172 q_174 q_359 q_356 q_144 cw_X10_says⟩, List.forall_mem_cons.mpr ⟨⟨mok_X9_says, RX9, Or.inr ⟨_, _, rfl⟩, vokO (x := yX10_says) (y := yX9_says) rfl nmh_X10 rfl q_353 q_172 q_174 q_360 q_361 q_156 cw_X10_says⟩, List.forall_mem_cons.mpr ⟨⟨mok_X10_says, RX10, Or.inr ⟨_, _, rfl⟩, vokA (y := yX10_says) rfl rfl nmh_X10 rfl q_353 q_174 q_362 q_99⟩, fun _ z => absurd z List.not_mem_nil⟩⟩⟩⟩⟩⟩⟩⟩, fun _ z => absurd z List.not_mem_nil⟩⟩⟩
theorem far_X10 (fv : Value) : FarOK TB (XR fv) RX10 (P_X10) := ⟨farN (by decide +kernel), fun _ z => absurd z List.not_mem_nil, fun _ z => absurd z List.not_mem_nil, fun _ z => absurd z List.not_mem_nil⟩
theorem tab_X10 {fv : Value} (h : FV fv) : TabOK TB mt vwCl (XR fv) RX10 (P_X10) := ⟨by decide, XR_ok h, XR_str, TB_ok, cls_ok, fld_X10, far_X10 fv, cpo_X10⟩
def P_X11 : Pool := ([(12, 0, 9, [11]), (18, 1, 9, [11]), (21, 2, 9, [11]), (27, 3, 9, [11]), (34, 4, 9, [11]), (38, 5, 9, [11]), (42, 9, 0, [7]), (46, 8, 9, [7]), (50, 10, 0, [7]), (68, 0, 9, [7]), (72, 1, 9, [7]), (75, 2, 9, [7]), (98, 3, 9, [7]), (108, 4, 9, [7]), (111, 7, 0, [7]), (114, 2, 0, [4]), (117, 3, 0, [4]), (127, 6, 0, [7]), (161, 5, 0, [7]), (178, 11, 9, [7]), (214, 12, 9, [7]), (221, 2, 0, [8]), (228, 13, 9, [7]), (231, 7, 2, [11]), (262, 6, 1, [11]), (266, 1, 0, [0, 2, 3, 5, 6, 9, 10])],
  [(52, 0, 2, [(4, jX4_read)]),
   (56, 1, 1, [(0, jX11_isNumber)]),
   (60, 0, 2, [(7, jX7_join)]),
   (64, 0, 1, [(7, jX7_has)]),
   (78, 0, 1, [(7, jX7_isOut)]),
   (83, 1, 1, [(0, jX11_isFact)]),
   (87, 0, 0, [(11, jX11_holding)]),
   (91, 0, 4, [(1, jX1_heedOf)]),
   (95, 1, 1, [(0, jX11_isLesson)]),
   (101, 1, 1, [(0, jX11_isSet)]),
   (104, 0, 2, [(7, jX7_putOut)]),
   (120, 0, 0, [(7, jX7_all)]),
   (124, 0, 0, [(7, jX7_held)]),
   (130, 0, 0, [(7, jX7_few)]),
   (133, 0, 1, [(11, jX11_toldLesson)]),
   (137, 1, 1, [(0, jX11_areTides)]),
   (140, 0, 0, [(1, jX1_forget)]),
   (143, 0, 2, [(11, jX11_go)]),
   (147, 0, 1, [(7, jX7_becomeRow)]),
   (151, 0, 1, [(11, jX11_tidesAheadWith)]),
   (154, 0, 2, [(11, jX11_heldIfTaught)]),
   (157, 1, 3, [(0, jX11_taughtAt)]),
   (164, 0, 2, [(11, jX11_tidesIfTold)]),
   (167, 0, 2, [(7, jX7_tellFact)]),
   (171, 0, 0, [(7, jX7_lessonNow)]),
   (174, 0, 3, [(7, jX7_goTide)]),
   (182, 0, 0, [(8, jX8_empty)]),
   (187, 0, 4, [(8, jX8_add)]),
   (191, 1, 1, [(0, jX11_isPart)]),
   (194, 0, 0, [(11, jX11_seenIsSo)]),
   (198, 0, 0, [(7, jX7_lastSeen)]),
   (201, 0, 2, [(7, jX7_isAsSeen)]),
   (207, 0, 0, [(7, jX7_notOut)]),
   (210, 1, 3, [(0, jX11_lowest)]),
   (217, 0, 2, [(11, jX11_isPlan)]),
   (222, 0, 2, [(8, jX8_cell)]),
   (225, 0, 2, [(11, jX11_doPlanned)]),
   (235, 0, 1, [(1, jX1_kindOf)]),
   (239, 0, 2, [(0, jX10_wake), (2, jX10_wake), (3, jX10_wake), (5, jX10_wake), (6, jX10_wake), (9, jX10_wake), (10, jX10_wake)]),
   (244, 0, 1, [(0, jX10_leans), (2, jX10_leans), (3, jX3_leans), (5, jX3_leans), (6, jX6_leans), (9, jX10_leans), (10, jX10_leans)]),
   (247, 0, 1, [(0, jX10_says), (2, jX2_says), (3, jX10_says), (5, jX10_says), (6, jX2_says), (9, jX9_says), (10, jX10_says)]),
   (250, 0, 1, [(0, jX0_bristles), (2, jX10_bristles), (3, jX10_bristles), (5, jX5_bristles), (6, jX10_bristles), (9, jX0_bristles), (10, jX10_bristles)]),
   (253, 0, 1, [(0, jX10_bodyAt), (2, jX10_bodyAt), (3, jX10_bodyAt), (5, jX10_bodyAt), (6, jX10_bodyAt), (9, jX10_bodyAt), (10, jX10_bodyAt)]),
   (259, 0, 1, [(7, jX7_become)])],
  [(67, .int (-999999)), (81, .long 10), (205, .long (-9223372036854775808)), (269, .long 8)], [(256, .ref 1100)], [], [(1100, 0, 7, sAb)])
theorem fld_X11 : FldOK TB nestW vwCl RX11 (P_X11) := List.forall_mem_cons.mpr ⟨List.forall_mem_cons.mpr ⟨Or.inr ⟨RX11, TX11, 8, rfl, by decide, ⟨RX11, Or.inl q_363, Or.inl rfl⟩, Or.inl rfl⟩, fun _ z => absurd z List.not_mem_nil⟩, List.forall_mem_cons.mpr ⟨List.forall_mem_cons.mpr ⟨Or.inr ⟨RX11, TX11, 8, rfl, by decide, ⟨RX11, Or.inl q_364, Or.inl rfl⟩, Or.inl rfl⟩, fun _ z => absurd z List.not_mem_nil⟩, List.forall_mem_cons.mpr ⟨List.forall_mem_cons.mpr ⟨Or.inr ⟨RX11, TX11, 8, rfl, by decide, ⟨RX11, Or.inl q_365, Or.inl rfl⟩, Or.inl rfl⟩, fun _ z => absurd z List.not_mem_nil⟩, List.forall_mem_cons.mpr ⟨List.forall_mem_cons.mpr ⟨Or.inr ⟨RX11, TX11, 8, rfl, by decide, ⟨RX11, Or.inl q_366, Or.inl rfl⟩, Or.inl rfl⟩, fun _ z => absurd z List.not_mem_nil⟩, List.forall_mem_cons.mpr ⟨List.forall_mem_cons.mpr ⟨Or.inr ⟨RX11, TX11, 8, rfl, by decide, ⟨RX11, Or.inl q_367, Or.inl rfl⟩, Or.inl rfl⟩, fun _ z => absurd z List.not_mem_nil⟩, List.forall_mem_cons.mpr ⟨List.forall_mem_cons.mpr ⟨Or.inr ⟨RX11, TX11, 8, rfl, by decide, ⟨RX11, Or.inl q_368, Or.inl rfl⟩, Or.inl rfl⟩, fun _ z => absurd z List.not_mem_nil⟩, List.forall_mem_cons.mpr ⟨List.forall_mem_cons.mpr ⟨Or.inr ⟨RX7, TX7, 14, rfl, by decide, ⟨RX7, Or.inl q_369, Or.inl rfl⟩, Or.inr ⟨rfl, tyX7 9, tyX7_ok 9 (by decide), rfl⟩⟩, fun _ z => absurd z List.not_mem_nil⟩, List.forall_mem_cons.mpr ⟨List.forall_mem_cons.mpr ⟨Or.inr ⟨RX7, TX7, 14, rfl, by decide, ⟨RX7, Or.inl q_370, Or.inl rfl⟩, Or.inl rfl⟩, fun _ z => absurd z List.not_mem_nil⟩, List.forall_mem_cons.mpr ⟨List.forall_mem_cons.mpr ⟨Or.inr ⟨RX7, TX7, 14, rfl, by decide, ⟨RX7, Or.inl q_371, Or.inl rfl⟩, Or.inr ⟨rfl, tyX7 10, tyX7_ok 10 (by decide), rfl⟩⟩, fun _ z => absurd z List.not_mem_nil⟩, List.forall_mem_cons.mpr ⟨List.forall_mem_cons.mpr ⟨Or.inr ⟨RX7, TX7, 14, rfl, by decide, ⟨RX7, Or.inl q_383, Or.inl rfl⟩, Or.inl rfl⟩, fun _ z => absurd z List.not_mem_nil⟩, List.forall_mem_cons.mpr ⟨List.forall_mem_cons.mpr ⟨Or.inr ⟨RX7, TX7, 14, rfl, by decide, ⟨RX7, Or.inl q_384, Or.inl rfl⟩, Or.inl rfl⟩, fun _ z => absurd z List.not_mem_nil⟩, List.forall_mem_cons.mpr ⟨List.forall_mem_cons.mpr ⟨Or.inr ⟨RX7, TX7, 14, rfl, by decide, ⟨RX7, Or.inl q_385, Or.inl rfl⟩, Or.inl rfl⟩, fun _ z => absurd z List.not_mem_nil⟩, List.forall_mem_cons.mpr ⟨List.forall_mem_cons.mpr ⟨Or.inr ⟨RX7, TX7, 14, rfl, by decide, ⟨RX7, Or.inl q_398, Or.inl rfl⟩, Or.inl rfl⟩, fun _ z => absurd z List.not_mem_nil⟩, List.forall_mem_cons.mpr ⟨List.forall_mem_cons.mpr ⟨Or.inr ⟨RX7, TX7, 14, rfl, by decide, ⟨RX7, Or.inl q_402, Or.inl rfl⟩, Or.inl rfl⟩, fun _ z => absurd z List.not_mem_nil⟩, List.forall_mem_cons.mpr ⟨List.forall_mem_cons.mpr ⟨Or.inr ⟨RX7, TX7, 14, rfl, by decide, ⟨RX7, Or.inl q_403, Or.inl rfl⟩, Or.inr ⟨rfl, tyX7 7, tyX7_ok 7 (by decide), rfl⟩⟩, fun _ z => absurd z List.not_mem_nil⟩, List.forall_mem_cons.mpr ⟨List.forall_mem_cons.mpr ⟨Or.inr ⟨RX4, TX4, 10, rfl, by decide, ⟨RX4, Or.inr ⟨RX11, nst_30⟩, Or.inl rfl⟩, Or.inr ⟨rfl, tyX4 2, tyX4_ok 2 (by decide), rfl⟩⟩, fun _ z => absurd z List.not_mem_nil⟩, List.forall_mem_cons.mpr ⟨List.forall_mem_cons.mpr ⟨Or.inr ⟨RX4, TX4, 10, rfl, by decide, ⟨RX4, Or.inr ⟨RX11, nst_33⟩, Or.inl rfl⟩, Or.inr ⟨rfl, tyX4 3, tyX4_ok 3 (by decide), rfl⟩⟩, fun _ z => absurd z List.not_mem_nil⟩, List.forall_mem_cons.mpr ⟨List.forall_mem_cons.mpr ⟨Or.inr ⟨RX7, TX7, 14, rfl, by decide, ⟨RX7, Or.inl q_408, Or.inl rfl⟩, Or.inr ⟨rfl, tyX7 6, tyX7_ok 6 (by decide), rfl⟩⟩, fun _ z => absurd z List.not_mem_nil⟩, List.forall_mem_cons.mpr ⟨List.forall_mem_cons.mpr ⟨Or.inr ⟨RX7, TX7, 14, rfl, by decide, ⟨RX7, Or.inl q_432, Or.inl rfl⟩, Or.inr ⟨rfl, tyX7 5, tyX7_ok 5 (by decide), rfl⟩⟩, fun _ z => absurd z List.not_mem_nil⟩, List.forall_mem_cons.mpr ⟨List.forall_mem_cons.mpr ⟨Or.inr ⟨RX7, TX7, 14, rfl, by decide, ⟨RX7, Or.inl q_445, Or.inl rfl⟩, Or.inl rfl⟩, fun _ z => absurd z List.not_mem_nil⟩, List.forall_mem_cons.mpr ⟨List.forall_mem_cons.mpr ⟨Or.inr ⟨RX7, TX7, 14, rfl, by decide, ⟨RX7, Or.inl q_469, Or.inl rfl⟩, Or.inl rfl⟩, fun _ z => absurd z List.not_mem_nil⟩, List.forall_mem_cons.mpr ⟨List.forall_mem_cons.mpr ⟨Or.inr ⟨RX8, TX8, 3, rfl, by decide, ⟨RX8, Or.inr ⟨RX11, nst_2⟩, Or.inl rfl⟩, Or.inr ⟨rfl, tyX8 2, tyX8_ok 2 (by decide), rfl⟩⟩, fun _ z => absurd z List.not_mem_nil⟩, List.forall_mem_cons.mpr ⟨List.forall_mem_cons.mpr ⟨Or.inr ⟨RX7, TX7, 14, rfl, by decide, ⟨RX7, Or.inl q_477, Or.inl rfl⟩, Or.inl rfl⟩, fun _ z => absurd z List.not_mem_nil⟩, List.forall_mem_cons.mpr ⟨List.forall_mem_cons.mpr ⟨Or.inr ⟨RX11, TX11, 8, rfl, by decide, ⟨RX11, Or.inl q_478, Or.inl rfl⟩, Or.inr ⟨rfl, tyX11 7, tyX11_ok 7 (by decide), Or.inl ⟨_, rfl⟩⟩⟩, fun _ z => absurd z List.not_mem_nil⟩, List.forall_mem_cons.mpr ⟨List.forall_mem_cons.mpr ⟨Or.inr ⟨RX11, TX11, 8, rfl, by decide, ⟨RX11, Or.inl q_516, Or.inl rfl⟩, Or.inr ⟨rfl, tyX11 6, tyX11_ok 6 (by decide), rfl⟩⟩, fun _ z => absurd z List.not_mem_nil⟩, List.forall_mem_cons.mpr ⟨List.forall_mem_cons.mpr ⟨Or.inr ⟨RX0, TX0, 4, rfl, by decide, ⟨RX10, Or.inr ⟨RX11, nst_5⟩, Or.inl rfl⟩, Or.inr ⟨rfl, tyX0 1, tyX0_ok 1 (by decide), rfl⟩⟩, List.forall_mem_cons.mpr ⟨Or.inr ⟨RX2, TX2, 4, rfl, by decide, ⟨RX10, Or.inr ⟨RX11, nst_5⟩, Or.inl rfl⟩, Or.inr ⟨rfl, tyX2 1, tyX2_ok 1 (by decide), rfl⟩⟩, List.forall_mem_cons.mpr ⟨Or.inr ⟨RX3, TX3, 4, rfl, by decide, ⟨RX10, Or.inr ⟨RX11, nst_5⟩, Or.inl rfl⟩, Or.inr ⟨rfl, tyX3 1, tyX3_ok 1 (by decide), rfl⟩⟩, List.forall_mem_cons.mpr ⟨Or.inr ⟨RX5, TX5, 4, rfl, by decide, ⟨RX10, Or.inr ⟨RX11, nst_5⟩, Or.inl rfl⟩, Or.inr ⟨rfl, tyX5 1, tyX5_ok 1 (by decide), rfl⟩⟩, List.forall_mem_cons.mpr ⟨Or.inr ⟨RX6, TX6, 4, rfl, by decide, ⟨RX10, Or.inr ⟨RX11, nst_5⟩, Or.inl rfl⟩, Or.inr ⟨rfl, tyX6 1, tyX6_ok 1 (by decide), rfl⟩⟩, List.forall_mem_cons.mpr ⟨Or.inr ⟨RX9, TX9, 4, rfl, by decide, ⟨RX10, Or.inr ⟨RX11, nst_5⟩, Or.inl rfl⟩, Or.inr ⟨rfl, tyX9 1, tyX9_ok 1 (by decide), rfl⟩⟩, List.forall_mem_cons.mpr ⟨Or.inr ⟨RX10, TX10, 4, rfl, by decide, ⟨RX10, Or.inr ⟨RX11, nst_5⟩, Or.inl rfl⟩, Or.inr ⟨rfl, tyX10 1, tyX10_ok 1 (by decide), rfl⟩⟩, fun _ z => absurd z List.not_mem_nil⟩⟩⟩⟩⟩⟩⟩, fun _ z => absurd z List.not_mem_nil⟩⟩⟩⟩⟩⟩⟩⟩⟩⟩⟩⟩⟩⟩⟩⟩⟩⟩⟩⟩⟩⟩⟩⟩⟩⟩
set_option maxRecDepth 4000 in
theorem cpo_X11 : CpOK TB mt vwCl RX11 (P_X11) := List.forall_mem_cons.mpr ⟨Or.inl ⟨rfl, List.forall_mem_cons.mpr ⟨⟨mok_X4_read, RX4, Or.inr ⟨_, _, rfl⟩, vokA (y := yX4_read) rfl rfl nmh_X4 rfl q_372 q_373 q_374 q_135⟩, fun _ z => absurd z List.not_mem_nil⟩⟩, List.forall_mem_cons.mpr ⟨Or.inr (Or.inl ⟨rfl, List.forall_mem_cons.mpr ⟨⟨mok_X11_isNumber, sok (y := yX11_isNumber) rfl nmh_X11 rfl q_375 q_376 q_377⟩, fun _ z => absurd z List.not_mem_nil⟩⟩), List.forall_mem_cons.mpr ⟨Or.inl ⟨rfl, List.forall_mem_cons.mpr ⟨⟨mok_X7_join, RX7, Or.inr ⟨_, _, rfl⟩, vokA (y := yX7_join) rfl rfl nmh_X7 rfl q_378 q_379 q_380 q_114⟩, fun _ z => absurd z List.not_mem_nil⟩⟩, List.forall_mem_cons.mpr ⟨Or.inl ⟨rfl, List.forall_mem_cons.mpr ⟨⟨mok_X7_has, RX7, Or.inr ⟨_, _, rfl⟩, vokA (y := yX7_has) rfl rfl nmh_X7 rfl q_381 q_112 q_113 q_114⟩, fun _ z => absurd z List.not_mem_nil⟩⟩, List.forall_mem_cons.mpr ⟨Or.inl ⟨rfl, List.forall_mem_cons.mpr ⟨⟨mok_X7_isOut, RX7, Or.inr ⟨_, _, rfl⟩, vokA (y := yX7_isOut) rfl rfl nmh_X7 rfl q_386 q_295 q_296 q_114⟩, fun _ z => absurd z List.not_mem_nil⟩⟩, List.forall_mem_cons.mpr ⟨Or.inr (Or.inl ⟨rfl, List.forall_mem_cons.mpr ⟨⟨mok_X11_isFact, sok (y := yX11_isFact) rfl nmh_X11 rfl q_388 q_389 q_377⟩, fun _ z => absurd z List.not_mem_nil⟩⟩), List.forall_mem_cons.mpr ⟨Or.inl ⟨rfl, List.forall_mem_cons.mpr ⟨⟨mok_X11_holding, RX11, Or.inr ⟨_, _, rfl⟩, vokA (y := yX11_holding) rfl rfl nmh_X11 rfl q_390 q_391 q_392 q_377⟩, fun _ z => absurd z List.not_mem_nil⟩⟩, List.forall_mem_cons.mpr ⟨Or.inl ⟨rfl, List.forall_mem_cons.mpr ⟨⟨mok_X1_heedOf, RX1, Or.inr ⟨_, _, rfl⟩, vokA (y := yX1_heedOf) rfl rfl nmh_X1 rfl q_393 q_394 q_395 q_123⟩, fun _ z => absurd z List.not_mem_nil⟩⟩, List.forall_mem_cons.mpr ⟨Or.inr (Or.inl ⟨rfl, List.forall_mem_cons.mpr ⟨⟨mok_X11_isLesson, sok (y := yX11_isLesson) rfl nmh_X11 rfl q_396 q_397 q_377⟩, fun _ z => absurd z List.not_mem_nil⟩⟩), List.forall_mem_cons.mpr ⟨Or.inr (Or.inl ⟨rfl, List.forall_mem_cons.mpr ⟨⟨mok_X11_isSet, sok (y := yX11_isSet) rfl nmh_X11 rfl q_399 q_400 q_377⟩, fun _ z => absurd z List.not_mem_nil⟩⟩), List.forall_mem_cons.mpr ⟨Or.inl ⟨rfl, List.forall_mem_cons.mpr ⟨⟨mok_X7_putOut, RX7, Or.inr ⟨_, _, rfl⟩, vokA (y := yX7_putOut) rfl rfl nmh_X7 rfl q_401 q_291 q_292 q_114⟩, fun _ z => absurd z List.not_mem_nil⟩⟩, List.forall_mem_cons.mpr ⟨Or.inl ⟨rfl, List.forall_mem_cons.mpr ⟨⟨mok_X7_all, RX7, Or.inr ⟨_, _, rfl⟩, vokA (y := yX7_all) rfl rfl nmh_X7 rfl q_404 q_299 q_300 q_114⟩, fun _ z => absurd z List.not_mem_nil⟩⟩, List.forall_mem_cons.mpr ⟨Or.inl ⟨rfl, List.forall_mem_cons.mpr ⟨⟨mok_X7_held, RX7, Or.inr ⟨_, _, rfl⟩, vokA (y := yX7_held) rfl rfl nmh_X7 rfl q_405 q_406 q_407 q_114⟩, fun _ z => absurd z List.not_mem_nil⟩⟩, List.forall_mem_cons.mpr ⟨Or.inl ⟨rfl, List.forall_mem_cons.mpr ⟨⟨mok_X7_few, RX7, Or.inr ⟨_, _, rfl⟩, vokA (y := yX7_few) rfl rfl nmh_X7 rfl q_409 q_410 q_411 q_114⟩, fun _ z => absurd z List.not_mem_nil⟩⟩, List.forall_mem_cons.mpr ⟨Or.inl ⟨rfl, List.forall_mem_cons.mpr ⟨⟨mok_X11_toldLesson, RX11, Or.inr ⟨_, _, rfl⟩, vokA (y := yX11_toldLesson) rfl rfl nmh_X11 rfl q_412 q_413 q_414 q_377⟩, fun _ z => absurd z List.not_mem_nil⟩⟩, List.forall_mem_cons.mpr ⟨Or.inr (Or.inl ⟨rfl, List.forall_mem_cons.mpr ⟨⟨mok_X11_areTides, sok (y := yX11_areTides) rfl nmh_X11 rfl q_415 q_416 q_377⟩, fun _ z => absurd z List.not_mem_nil⟩⟩), List.forall_mem_cons.mpr ⟨Or.inl ⟨rfl, List.forall_mem_cons.mpr ⟨⟨mok_X1_forget, RX1, Or.inr ⟨_, _, rfl⟩, vokA (y := yX1_forget) rfl rfl nmh_X1 rfl q_417 q_418 q_419 q_123⟩, fun _ z => absurd z List.not_mem_nil⟩⟩, List.forall_mem_cons.mpr ⟨Or.inl ⟨rfl, List.forall_mem_cons.mpr ⟨⟨mok_X11_go, RX11, Or.inr ⟨_, _, rfl⟩, vokA (y := yX11_go) rfl rfl nmh_X11 rfl q_420 q_421 q_422 q_377⟩, fun _ z => absurd z List.not_mem_nil⟩⟩, List.forall_mem_cons.mpr ⟨Or.inl ⟨rfl, List.forall_mem_cons.mpr ⟨⟨mok_X7_becomeRow, RX7, Or.inr ⟨_, _, rfl⟩, vokA (y := yX7_becomeRow) rfl rfl nmh_X7 rfl q_423 q_275 q_276 q_114⟩, fun _ z => absurd z List.not_mem_nil⟩⟩, List.forall_mem_cons.mpr ⟨Or.inl ⟨rfl, List.forall_mem_cons.mpr ⟨⟨mok_X11_tidesAheadWith, RX11, Or.inr ⟨_, _, rfl⟩, vokA (y := yX11_tidesAheadWith) rfl rfl nmh_X11 rfl q_424 q_425 q_426 q_377⟩, fun _ z => absurd z List.not_mem_nil⟩⟩, List.forall_mem_cons.mpr ⟨Or.inl ⟨rfl, List.forall_mem_cons.mpr ⟨⟨mok_X11_heldIfTaught, RX11, Or.inr ⟨_, _, rfl⟩, vokA (y := yX11_heldIfTaught) rfl rfl nmh_X11 rfl q_427 q_428 q_429 q_377⟩, fun _ z => absurd z List.not_mem_nil⟩⟩, List.forall_mem_cons.mpr ⟨Or.inr (Or.inl ⟨rfl, List.forall_mem_cons.mpr ⟨⟨mok_X11_taughtAt, sok (y := yX11_taughtAt) rfl nmh_X11 rfl q_430 q_431 q_377⟩, fun _ z => absurd z List.not_mem_nil⟩⟩), List.forall_mem_cons.mpr ⟨Or.inl ⟨rfl, List.forall_mem_cons.mpr ⟨⟨mok_X11_tidesIfTold, RX11, Or.inr ⟨_, _, rfl⟩, vokA (y := yX11_tidesIfTold) rfl rfl nmh_X11 rfl q_433 q_434 q_435 q_377⟩, fun _ z => absurd z List.not_mem_nil⟩⟩, List.forall_mem_cons.mpr ⟨Or.inl ⟨rfl, List.forall_mem_cons.mpr ⟨⟨mok_X7_tellFact, RX7, Or.inr ⟨_, _, rfl⟩, vokA (y := yX7_tellFact) rfl rfl nmh_X7 rfl q_436 q_437 q_438 q_114⟩, fun _ z => absurd z List.not_mem_nil⟩⟩, List.forall_mem_cons.mpr ⟨Or.inl ⟨rfl, List.forall_mem_cons.mpr ⟨⟨mok_X7_lessonNow, RX7, Or.inr ⟨_, _, rfl⟩, vokA (y := yX7_lessonNow) rfl rfl nmh_X7 rfl q_439 q_440 q_441 q_114⟩, fun _ z => absurd z List.not_mem_nil⟩⟩, List.forall_mem_cons.mpr ⟨Or.inl ⟨rfl, List.forall_mem_cons.mpr ⟨⟨mok_X7_goTide, RX7, Or.inr ⟨_, _, rfl⟩, vokA (y := yX7_goTide) rfl rfl nmh_X7 rfl q_442 q_443 q_444 q_114⟩, fun _ z => absurd z List.not_mem_nil⟩⟩, List.forall_mem_cons.mpr ⟨Or.inl ⟨rfl, List.forall_mem_cons.mpr ⟨⟨mok_X8_empty, RX8, Or.inr ⟨_, _, rfl⟩, vokA (y := yX8_empty) rfl rfl nmh_X8 rfl q_446 q_447 q_448 q_286⟩, fun _ z => absurd z List.not_mem_nil⟩⟩, List.forall_mem_cons.mpr ⟨Or.inl ⟨rfl, List.forall_mem_cons.mpr ⟨⟨mok_X8_add, RX8, Or.inr ⟨_, _, rfl⟩, vokA (y := yX8_add) rfl rfl nmh_X8 rfl q_449 q_450 q_451 q_286⟩, fun _ z => absurd z List.not_mem_nil⟩⟩, List.forall_mem_cons.mpr ⟨Or.inr (Or.inl ⟨rfl, List.forall_mem_cons.mpr ⟨⟨mok_X11_isPart, sok (y := yX11_isPart) rfl nmh_X11 rfl q_452 q_453 q_377⟩, fun _ z => absurd z List.not_mem_nil⟩⟩), List.forall_mem_cons.mpr ⟨Or.inl ⟨rfl, List.forall_mem_cons.mpr ⟨⟨mok_X11_seenIsSo, RX11, Or.inr ⟨_, _, rfl⟩, vokA (y := yX11_seenIsSo) rfl rfl nmh_X11 rfl q_454 q_455 q_456 q_377⟩, fun _ z => absurd z List.not_mem_nil⟩⟩, List.forall_mem_cons.mpr ⟨Or.inl ⟨rfl, List.forall_mem_cons.mpr ⟨⟨mok_X7_lastSeen, RX7, Or.inr ⟨_, _, rfl⟩, vokA (y := yX7_lastSeen) rfl rfl nmh_X7 rfl q_457 q_458 q_459 q_114⟩, fun _ z => absurd z List.not_mem_nil⟩⟩, List.forall_mem_cons.mpr ⟨Or.inl ⟨rfl, List.forall_mem_cons.mpr ⟨⟨mok_X7_isAsSeen, RX7, Or.inr ⟨_, _, rfl⟩, vokA (y := yX7_isAsSeen) rfl rfl nmh_X7 rfl q_460 q_461 q_462 q_114⟩, fun _ z => absurd z List.not_mem_nil⟩⟩, List.forall_mem_cons.mpr ⟨Or.inl ⟨rfl, List.forall_mem_cons.mpr ⟨⟨mok_X7_notOut, RX7, Or.inr ⟨_, _, rfl⟩, vokA (y := yX7_notOut) rfl rfl nmh_X7 rfl q_464 q_465 q_466 q_114⟩, fun _ z => absurd z List.not_mem_nil⟩⟩, List.forall_mem_cons.mpr ⟨Or.inr (Or.inl ⟨rfl, List.forall_mem_cons.mpr ⟨⟨mok_X11_lowest, sok (y := yX11_lowest) rfl nmh_X11 rfl q_467 q_468 q_377⟩, fun _ z => absurd z List.not_mem_nil⟩⟩), List.forall_mem_cons.mpr ⟨Or.inl ⟨rfl, List.forall_mem_cons.mpr ⟨⟨mok_X11_isPlan, RX11, Or.inr ⟨_, _, rfl⟩, vokA (y := yX11_isPlan) rfl rfl nmh_X11 rfl q_470 q_471 q_472 q_377⟩, fun _ z => absurd z List.not_mem_nil⟩⟩, List.forall_mem_cons.mpr ⟨Or.inl ⟨rfl, List.forall_mem_cons.mpr ⟨⟨mok_X8_cell, RX8, Or.inr ⟨_, _, rfl⟩, vokA (y := yX8_cell) rfl rfl nmh_X8 rfl q_473 q_305 q_306 q_286⟩, fun _ z => absurd z List.not_mem_nil⟩⟩, List.forall_mem_cons.mpr ⟨Or.inl ⟨rfl, List.forall_mem_cons.mpr ⟨⟨mok_X11_doPlanned, RX11, Or.inr ⟨_, _, rfl⟩, vokA (y := yX11_doPlanned) rfl rfl nmh_X11 rfl q_474 q_475 q_476 q_377⟩, fun _ z => absurd z List.not_mem_nil⟩⟩, List.forall_mem_cons.mpr ⟨Or.inl ⟨rfl, List.forall_mem_cons.mpr ⟨⟨mok_X1_kindOf, RX1, Or.inr ⟨_, _, rfl⟩, vokA (y := yX1_kindOf) rfl rfl nmh_X1 rfl q_479 q_130 q_131 q_123⟩, fun _ z => absurd z List.not_mem_nil⟩⟩, List.forall_mem_cons.mpr ⟨Or.inl ⟨rfl, List.forall_mem_cons.mpr ⟨⟨mok_X10_wake, RX0, Or.inr ⟨_, _, rfl⟩, vokU (x := yX10_wake) (y := yX10_wake) rfl rfl nmh_X10 rfl q_480 q_481 q_482 q_483 q_99⟩, List.forall_mem_cons.mpr ⟨⟨mok_X10_wake, RX2, Or.inr ⟨_, _, rfl⟩, vokU (x := yX10_wake) (y := yX10_wake) rfl rfl nmh_X10 rfl q_480 q_481 q_484 q_483 q_99⟩, List.forall_mem_cons.mpr ⟨⟨mok_X10_wake, RX3, Or.inr ⟨_, _, rfl⟩, vokU (x := yX10_wake) (y := yX10_wake) rfl rfl nmh_X10 rfl q_480 q_481 q_485 q_483 q_99⟩, List.forall_mem_cons.mpr ⟨⟨mok_X10_wake, RX5, Or.inr ⟨_, _, rfl⟩, vokU (x := yX10_wake) (y := yX10_wake) rfl rfl nmh_X10 rfl q_480 q_481 q_486 q_483 q_99⟩, List.forall_mem_cons.mpr ⟨⟨mok_X10_wake, RX6, Or.inr ⟨_, _, rfl⟩, vokU (x := yX10_wake) (y := yX10_wake) rfl rfl nmh_X10 rfl q_480 q_481 q_487 q_483 q_99⟩, List.forall_mem_cons.mpr ⟨⟨mok_X10_wake, RX9, Or.inr ⟨_, _, rfl⟩, vokU (x := yX10_wake) (y := yX10_wake) rfl rfl nmh_X10 rfl q_480 q_481 q_488 q_483 q_99⟩, List.forall_mem_cons.mpr ⟨⟨mok_X10_wake, RX10, Or.inr ⟨_, _, rfl⟩, vokA (y := yX10_wake) rfl rfl nmh_X10 rfl q_480 q_483 q_489 q_99⟩, fun _ z => absurd z List.not_mem_nil⟩⟩⟩⟩⟩⟩⟩⟩, List.forall_mem_cons.mpr ⟨Or.inl ⟨rfl, List.forall_mem_cons.mpr ⟨⟨mok_X10_leans, RX0, Or.inr ⟨_, _, rfl⟩, vokU (x := yX10_leans) (y := yX10_leans) rfl rfl nmh_X10 rfl q_490 q_180 q_345 q_182 q_99⟩, List.forall_mem_cons.mpr ⟨⟨mok_X10_leans, RX2, Or.inr ⟨_, _, rfl⟩, vokU (x := yX10_leans) (y := yX10_leans) rfl rfl nmh_X10 rfl q_490 q_180 q_346 q_182 q_99⟩, List.forall_mem_cons.mpr ⟨⟨mok_X3_leans, RX3, Or.inr ⟨_, _, rfl⟩, vokO (x := yX10_leans) (y := yX3_leans) rfl nmh_X10 rfl q_490 q_180 q_182 q_347 q_254 q_147 cw_X10_leans⟩, List.forall_mem_cons.mpr ⟨⟨mok_X3_leans, RX5, Or.inr ⟨_, _, rfl⟩, vokO (x := yX10_leans) (y := yX3_leans) rfl nmh_X10 rfl q_490 q_180 q_182 q_348 q_254 q_147 cw_X10_leans⟩, List.forall_mem_cons.mpr ⟨⟨mok_X6_leans, RX6, Or.inr ⟨_, _, rfl⟩, vokO (x := yX10_leans) (y := yX6_leans) rfl nmh_X10 rfl q_490 q_180 q_182 q_349 q_350 q_153 cw_X10_leans⟩, List.forall_mem_cons.mpr ⟨⟨mok_X10_leans, RX9, Or.inr ⟨_, _, rfl⟩, vokU (x := yX10_leans) (y := yX10_leans) rfl rfl nmh_X10 rfl q_490 q_180 q_351 q_182 q_99⟩, List.forall_mem_cons.mpr ⟨⟨mok_X10_leans, RX10, Or.inr ⟨_, _, rfl⟩, vokA (y := yX10_leans) rfl rfl nmh_X10 rfl q_490 q_182 q_352 q_99⟩, fun _ z => absurd z List.not_mem_nil⟩⟩⟩⟩⟩⟩⟩⟩, List.forall_mem_cons.mpr ⟨Or.inl ⟨rfl, List.forall_mem_cons.mpr ⟨⟨mok_X10_says, RX0, Or.inr ⟨_, _, rfl⟩, vokU (x := yX10_says) (y := yX10_says) rfl rfl nmh_X10 rfl q_491 q_172 q_354 q_174 q_99⟩, List.forall_mem_cons.mpr ⟨⟨mok_X2_says, RX2, Or.inr ⟨_, _, rfl⟩, vokO (x := yX10_says) (y := yX2_says) rfl nmh_X10 rfl q_491 q_172 q_174 q_355 q_356 q_144 cw_X10_says⟩, List.forall_mem_cons.mpr ⟨⟨mok_X10_says, RX3, Or.inr ⟨_, _, rfl⟩, vokU (x := yX10_says) (y := yX10_says) rfl rfl nmh_X10 rfl q_491 q_172 q_357 q_174 q_99⟩, List.forall_mem_cons.mpr ⟨⟨mok_X10_says, RX5, Or.inr ⟨_, _, rfl⟩, vokU (x := yX10_says) (y := yX10_says) rfl rfl nmh_X10 rfl q_491 q_172 q_358 q_174 q_99⟩, List.forall_mem_cons.mpr ⟨⟨mok_X2_says, RX6, Or.inr ⟨_, _, rfl⟩, vokO (x := yX10_says) (y := yX2_says) rfl nmh_X10 rfl q_491 q_172 q_174 q_359 q_356 q_144 cw_X10_says⟩, List.forall_mem_cons.mpr ⟨⟨mok_X9_says, RX9, Or.inr ⟨_, _, rfl⟩, vokO (x := yX10_says) (y := yX9_says) rfl nmh_X10 rfl q_491 q_172 q_174 q_360 q_361 q_156 cw_X10_says⟩, List.forall_mem_cons.mpr ⟨⟨mok_X10_says, RX10, Or.inr ⟨_, _, rfl⟩, vokA (y := yX10_says) rfl rfl nmh_X10 rfl q_491 q_174 q_362 q_99⟩, fun _ z => absurd z List.not_mem_nil⟩⟩⟩⟩⟩⟩⟩⟩, List.forall_mem_cons.mpr ⟨Or.inl ⟨rfl, List.forall_mem_cons.mpr ⟨⟨mok_X0_bristles, RX0, Or.inr ⟨_, _, rfl⟩, vokO (x := yX10_bristles) (y := yX0_bristles) rfl nmh_X10 rfl q_492 q_102 q_104 q_493 q_494 q_141 cw_X10_bristles⟩, List.forall_mem_cons.mpr ⟨⟨mok_X10_bristles, RX2, Or.inr ⟨_, _, rfl⟩, vokU (x := yX10_bristles) (y := yX10_bristles) rfl rfl nmh_X10 rfl q_492 q_102 q_495 q_104 q_99⟩, List.forall_mem_cons.mpr ⟨⟨mok_X10_bristles, RX3, Or.inr ⟨_, _, rfl⟩, vokU (x := yX10_bristles) (y := yX10_bristles) rfl rfl nmh_X10 rfl q_492 q_102 q_496 q_104 q_99⟩, List.forall_mem_cons.mpr ⟨⟨mok_X5_bristles, RX5, Or.inr ⟨_, _, rfl⟩, vokO (x := yX10_bristles) (y := yX5_bristles) rfl nmh_X10 rfl q_492 q_102 q_104 q_497 q_498 q_150 cw_X10_bristles⟩, List.forall_mem_cons.mpr ⟨⟨mok_X10_bristles, RX6, Or.inr ⟨_, _, rfl⟩, vokU (x := yX10_bristles) (y := yX10_bristles) rfl rfl nmh_X10 rfl q_492 q_102 q_499 q_104 q_99⟩, List.forall_mem_cons.mpr ⟨⟨mok_X0_bristles, RX9, Or.inr ⟨_, _, rfl⟩, vokO (x := yX10_bristles) (y := yX0_bristles) rfl nmh_X10 rfl q_492 q_102 q_104 q_500 q_494 q_141 cw_X10_bristles⟩, List.forall_mem_cons.mpr ⟨⟨mok_X10_bristles, RX10, Or.inr ⟨_, _, rfl⟩, vokA (y := yX10_bristles) rfl rfl nmh_X10 rfl q_492 q_104 q_501 q_99⟩, fun _ z => absurd z List.not_mem_nil⟩⟩⟩⟩⟩⟩⟩⟩, List.forall_mem_cons.mpr ⟨Or.inl ⟨rfl, List.forall_mem_cons.mpr ⟨⟨mok_X10_bodyAt, RX0, Or.inr ⟨_, _, rfl⟩, vokU (x := yX10_bodyAt) (y := yX10_bodyAt) rfl rfl nmh_X10 rfl q_502 q_503 q_504 q_505 q_99⟩, List.forall_mem_cons.mpr ⟨⟨mok_X10_bodyAt, RX2, Or.inr ⟨_, _, rfl⟩, vokU (x := yX10_bodyAt) (y := yX10_bodyAt) rfl rfl nmh_X10 rfl q_502 q_503 q_506 q_505 q_99⟩, List.forall_mem_cons.mpr ⟨⟨mok_X10_bodyAt, RX3, Or.inr ⟨_, _, rfl⟩, vokU (x := yX10_bodyAt) (y := yX10_bodyAt) rfl rfl nmh_X10 rfl q_502 q_503 q_507 q_505 q_99⟩, List.forall_mem_cons.mpr ⟨⟨mok_X10_bodyAt, RX5, Or.inr ⟨_, _, rfl⟩, vokU (x := yX10_bodyAt) (y := yX10_bodyAt) rfl rfl nmh_X10 rfl q_502 q_503 q_508 q_505 q_99⟩, List.forall_mem_cons.mpr ⟨⟨mok_X10_bodyAt, RX6, Or.inr ⟨_, _, rfl⟩, vokU (x := yX10_bodyAt) (y := yX10_bodyAt) rfl rfl nmh_X10 rfl q_502 q_503 q_509 q_505 q_99⟩, List.forall_mem_cons.mpr ⟨⟨mok_X10_bodyAt, RX9, Or.inr ⟨_, _, rfl⟩, vokU (x := yX10_bodyAt) (y := yX10_bodyAt) rfl rfl nmh_X10 rfl q_502 q_503 q_510 q_505 q_99⟩, List.forall_mem_cons.mpr ⟨⟨mok_X10_bodyAt, RX10, Or.inr ⟨_, _, rfl⟩, vokA (y := yX10_bodyAt) rfl rfl nmh_X10 rfl q_502 q_505 q_511 q_99⟩, fun _ z => absurd z List.not_mem_nil⟩⟩⟩⟩⟩⟩⟩⟩, List.forall_mem_cons.mpr ⟨Or.inl ⟨rfl, List.forall_mem_cons.mpr ⟨⟨mok_X7_become, RX7, Or.inr ⟨_, _, rfl⟩, vokA (y := yX7_become) rfl rfl nmh_X7 rfl q_513 q_514 q_515 q_114⟩, fun _ z => absurd z List.not_mem_nil⟩⟩, fun _ z => absurd z List.not_mem_nil⟩⟩⟩⟩⟩⟩⟩⟩⟩⟩⟩⟩⟩⟩⟩⟩⟩⟩⟩⟩⟩⟩⟩⟩⟩⟩⟩⟩⟩⟩⟩⟩⟩⟩⟩⟩⟩⟩⟩⟩⟩⟩⟩⟩
theorem far_X11 (fv : Value) : FarOK TB (XR fv) RX11 (P_X11) := ⟨farN (by decide +kernel), List.forall_mem_cons.mpr ⟨Or.inl ⟨rfl, List.mem_cons_of_mem _ (List.mem_cons_of_mem _ (List.mem_cons_of_mem _ (List.mem_cons_of_mem _ (List.mem_cons_of_mem _ (List.mem_cons_of_mem _ (List.mem_cons_self))))))⟩, fun _ z => absurd z List.not_mem_nil⟩, List.forall_mem_cons.mpr ⟨q_382, List.forall_mem_cons.mpr ⟨q_387, List.forall_mem_cons.mpr ⟨q_463, List.forall_mem_cons.mpr ⟨q_517, fun _ z => absurd z List.not_mem_nil⟩⟩⟩⟩, List.forall_mem_cons.mpr ⟨⟨_, _, _, List.mem_cons_self, q_512⟩, fun _ z => absurd z List.not_mem_nil⟩⟩
theorem tab_X11 {fv : Value} (h : FV fv) : TabOK TB mt vwCl (XR fv) RX11 (P_X11) := ⟨by decide, XR_ok h, XR_str, TB_ok, cls_ok, fld_X11, far_X11 fv, cpo_X11⟩
def P_X12 : Pool := ([(9, 1, 9, [12]), (15, 2, 9, [12]), (18, 3, 9, [12]), (21, 10, 9, [12]), (24, 11, 9, [12]), (28, 12, 9, [12]), (31, 13, 9, [12]), (34, 15, 9, [12]), (37, 16, 9, [12]), (48, 6, 0, [12]), (51, 7, 0, [12]), (54, 8, 1, [12]), (75, 5, 0, [12]), (78, 9, 0, [12]), (130, 14, 0, [12]), (231, 17, 0, [12]), (237, 19, 0, [12]), (240, 18, 0, [12]), (252, 20, 0, [12]), (267, 4, 1, [12])],
  [(44, 1, 3, [(0, jX12_in)]),
   (58, 0, 0, [(12, jX12_here)]),
   (62, 0, 0, [(50, jJ0_length_8abf5)]),
   (67, 0, 1, [(50, jJ0_charAt_5068e)]),
   (71, 0, 1, [(12, jX12_must)]),
   (81, 0, 0, [(12, jX12_factor)]),
   (84, 0, 1, [(12, jX12_emits)]),
   (87, 0, 0, [(12, jX12_some)]),
   (92, 0, 1, [(12, jX12_among)]),
   (98, 0, 0, [(12, jX12_figures)]),
   (101, 0, 0, [(12, jX12_every)]),
   (104, 0, 1, [(12, jX12_spells)]),
   (110, 0, 2, [(12, jX12_tellsHere)]),
   (118, 0, 2, [(12, jX12_much)]),
   (123, 0, 0, [(12, jX12_clauseHere)]),
   (126, 0, 2, [(12, jX12_tellsOf)]),
   (133, 1, 1, [(0, jX12_countOf)]),
   (137, 0, 4, [(12, jX12_clausesOf)]),
   (141, 0, 2, [(12, jX12_sumOf)]),
   (144, 0, 1, [(12, jX12_isUrchin)]),
   (149, 0, 0, [(12, jX12_looksAnew)]),
   (152, 1, 1, [(0, jX12_isFact)]),
   (155, 0, 2, [(12, jX12_heedOf)]),
   (158, 0, 2, [(12, jX12_becomes)]),
   (161, 0, 0, [(12, jX12_awayOnes)]),
   (164, 0, 1, [(12, jX12_knownBy)]),
   (167, 0, 0, [(12, jX12_knownByAny)]),
   (170, 0, 0, [(12, jX12_heldByAll)]),
   (173, 0, 0, [(12, jX12_fewest)]),
   (176, 0, 2, [(12, jX12_isPassed)]),
   (180, 0, 3, [(12, jX12_isKnownNext)]),
   (183, 0, 2, [(12, jX12_knownNext)]),
   (186, 0, 1, [(12, jX12_goesBy)]),
   (189, 0, 0, [(12, jX12_goes)]),
   (192, 0, 1, [(12, jX12_goesOn)]),
   (195, 0, 0, [(12, jX12_keeps)]),
   (198, 0, 0, [(12, jX12_goesBack)]),
   (201, 0, 1, [(12, jX12_tidesKnown)]),
   (204, 0, 2, [(12, jX12_heldBehind)]),
   (207, 0, 1, [(12, jX12_isAsSeen)]),
   (210, 0, 0, [(12, jX12_areAsSeen)]),
   (214, 0, 3, [(12, jX12_fitting)]),
   (220, 1, 3, [(0, jX12_lowest)]),
   (224, 0, 2, [(12, jX12_isPlan)]),
   (227, 0, 2, [(12, jX12_does)]),
   (234, 0, 1, [(12, jX12_ranBody)]),
   (243, 1, 2, [(0, jX12_isUnder)]),
   (246, 0, 1, [(12, jX12_plainLeans)]),
   (249, 0, 1, [(12, jX12_leansActs)]),
   (255, 0, 1, [(12, jX12_plainSays)]),
   (258, 0, 1, [(12, jX12_saysActs)]),
   (261, 0, 1, [(12, jX12_plainTelling)]),
   (264, 0, 1, [(12, jX12_bristlesActs)])],
  [(90, .ref 1004), (96, .ref 1005), (108, .ref 1000), (114, .ref 1001), (116, .ref 1002), (121, .ref 1003), (148, .int (-999999)), (218, .long (-9223372036854775808))], [], [], [])
theorem fld_X12 : FldOK TB nestW vwCl RX12 (P_X12) := List.forall_mem_cons.mpr ⟨List.forall_mem_cons.mpr ⟨Or.inr ⟨RX12, TX12, 21, rfl, by decide, ⟨RX12, Or.inl q_518, Or.inl rfl⟩, Or.inl rfl⟩, fun _ z => absurd z List.not_mem_nil⟩, List.forall_mem_cons.mpr ⟨List.forall_mem_cons.mpr ⟨Or.inr ⟨RX12, TX12, 21, rfl, by decide, ⟨RX12, Or.inl q_519, Or.inl rfl⟩, Or.inl rfl⟩, fun _ z => absurd z List.not_mem_nil⟩, List.forall_mem_cons.mpr ⟨List.forall_mem_cons.mpr ⟨Or.inr ⟨RX12, TX12, 21, rfl, by decide, ⟨RX12, Or.inl q_520, Or.inl rfl⟩, Or.inl rfl⟩, fun _ z => absurd z List.not_mem_nil⟩, List.forall_mem_cons.mpr ⟨List.forall_mem_cons.mpr ⟨Or.inr ⟨RX12, TX12, 21, rfl, by decide, ⟨RX12, Or.inl q_521, Or.inl rfl⟩, Or.inl rfl⟩, fun _ z => absurd z List.not_mem_nil⟩, List.forall_mem_cons.mpr ⟨List.forall_mem_cons.mpr ⟨Or.inr ⟨RX12, TX12, 21, rfl, by decide, ⟨RX12, Or.inl q_522, Or.inl rfl⟩, Or.inl rfl⟩, fun _ z => absurd z List.not_mem_nil⟩, List.forall_mem_cons.mpr ⟨List.forall_mem_cons.mpr ⟨Or.inr ⟨RX12, TX12, 21, rfl, by decide, ⟨RX12, Or.inl q_523, Or.inl rfl⟩, Or.inl rfl⟩, fun _ z => absurd z List.not_mem_nil⟩, List.forall_mem_cons.mpr ⟨List.forall_mem_cons.mpr ⟨Or.inr ⟨RX12, TX12, 21, rfl, by decide, ⟨RX12, Or.inl q_524, Or.inl rfl⟩, Or.inl rfl⟩, fun _ z => absurd z List.not_mem_nil⟩, List.forall_mem_cons.mpr ⟨List.forall_mem_cons.mpr ⟨Or.inr ⟨RX12, TX12, 21, rfl, by decide, ⟨RX12, Or.inl q_525, Or.inl rfl⟩, Or.inl rfl⟩, fun _ z => absurd z List.not_mem_nil⟩, List.forall_mem_cons.mpr ⟨List.forall_mem_cons.mpr ⟨Or.inr ⟨RX12, TX12, 21, rfl, by decide, ⟨RX12, Or.inl q_526, Or.inl rfl⟩, Or.inl rfl⟩, fun _ z => absurd z List.not_mem_nil⟩, List.forall_mem_cons.mpr ⟨List.forall_mem_cons.mpr ⟨Or.inr ⟨RX12, TX12, 21, rfl, by decide, ⟨RX12, Or.inl q_530, Or.inl rfl⟩, Or.inr ⟨rfl, tyX12 6, tyX12_ok 6 (by decide), rfl⟩⟩, fun _ z => absurd z List.not_mem_nil⟩, List.forall_mem_cons.mpr ⟨List.forall_mem_cons.mpr ⟨Or.inr ⟨RX12, TX12, 21, rfl, by decide, ⟨RX12, Or.inl q_531, Or.inl rfl⟩, Or.inr ⟨rfl, tyX12 7, tyX12_ok 7 (by decide), rfl⟩⟩, fun _ z => absurd z List.not_mem_nil⟩, List.forall_mem_cons.mpr ⟨List.forall_mem_cons.mpr ⟨Or.inr ⟨RX12, TX12, 21, rfl, by decide, ⟨RX12, Or.inl q_532, Or.inl rfl⟩, Or.inr ⟨rfl, tyX12 8, tyX12_ok 8 (by decide), rfl⟩⟩, fun _ z => absurd z List.not_mem_nil⟩, List.forall_mem_cons.mpr ⟨List.forall_mem_cons.mpr ⟨Or.inr ⟨RX12, TX12, 21, rfl, by decide, ⟨RX12, Or.inl q_541, Or.inl rfl⟩, Or.inr ⟨rfl, tyX12 5, tyX12_ok 5 (by decide), rfl⟩⟩, fun _ z => absurd z List.not_mem_nil⟩, List.forall_mem_cons.mpr ⟨List.forall_mem_cons.mpr ⟨Or.inr ⟨RX12, TX12, 21, rfl, by decide, ⟨RX12, Or.inl q_542, Or.inl rfl⟩, Or.inr ⟨rfl, tyX12 9, tyX12_ok 9 (by decide), rfl⟩⟩, fun _ z => absurd z List.not_mem_nil⟩, List.forall_mem_cons.mpr ⟨List.forall_mem_cons.mpr ⟨Or.inr ⟨RX12, TX12, 21, rfl, by decide, ⟨RX12, Or.inl q_576, Or.inl rfl⟩, Or.inr ⟨rfl, tyX12 14, tyX12_ok 14 (by decide), rfl⟩⟩, fun _ z => absurd z List.not_mem_nil⟩, List.forall_mem_cons.mpr ⟨List.forall_mem_cons.mpr ⟨Or.inr ⟨RX12, TX12, 21, rfl, by decide, ⟨RX12, Or.inl q_663, Or.inl rfl⟩, Or.inr ⟨rfl, tyX12 17, tyX12_ok 17 (by decide), rfl⟩⟩, fun _ z => absurd z List.not_mem_nil⟩, List.forall_mem_cons.mpr ⟨List.forall_mem_cons.mpr ⟨Or.inr ⟨RX12, TX12, 21, rfl, by decide, ⟨RX12, Or.inl q_667, Or.inl rfl⟩, Or.inr ⟨rfl, tyX12 19, tyX12_ok 19 (by decide), rfl⟩⟩, fun _ z => absurd z List.not_mem_nil⟩, List.forall_mem_cons.mpr ⟨List.forall_mem_cons.mpr ⟨Or.inr ⟨RX12, TX12, 21, rfl, by decide, ⟨RX12, Or.inl q_668, Or.inl rfl⟩, Or.inr ⟨rfl, tyX12 18, tyX12_ok 18 (by decide), rfl⟩⟩, fun _ z => absurd z List.not_mem_nil⟩, List.forall_mem_cons.mpr ⟨List.forall_mem_cons.mpr ⟨Or.inr ⟨RX12, TX12, 21, rfl, by decide, ⟨RX12, Or.inl q_677, Or.inl rfl⟩, Or.inr ⟨rfl, tyX12 20, tyX12_ok 20 (by decide), rfl⟩⟩, fun _ z => absurd z List.not_mem_nil⟩, List.forall_mem_cons.mpr ⟨List.forall_mem_cons.mpr ⟨Or.inr ⟨RX12, TX12, 21, rfl, by decide, ⟨RX12, Or.inl q_690, Or.inl rfl⟩, Or.inr ⟨rfl, tyX12 4, tyX12_ok 4 (by decide), rfl⟩⟩, fun _ z => absurd z List.not_mem_nil⟩, fun _ z => absurd z List.not_mem_nil⟩⟩⟩⟩⟩⟩⟩⟩⟩⟩⟩⟩⟩⟩⟩⟩⟩⟩⟩⟩
set_option maxRecDepth 4000 in
theorem cpo_X12 : CpOK TB mt vwCl RX12 (P_X12) := List.forall_mem_cons.mpr ⟨Or.inr (Or.inl ⟨rfl, List.forall_mem_cons.mpr ⟨⟨mok_X12_in, sok (y := yX12_in) rfl nmh_X12 rfl q_527 q_528 q_529⟩, fun _ z => absurd z List.not_mem_nil⟩⟩), List.forall_mem_cons.mpr ⟨Or.inl ⟨rfl, List.forall_mem_cons.mpr ⟨⟨mok_X12_here, RX12, Or.inr ⟨_, _, rfl⟩, vokA (y := yX12_here) rfl rfl nmh_X12 rfl q_533 q_534 q_535 q_529⟩, fun _ z => absurd z List.not_mem_nil⟩⟩, List.forall_mem_cons.mpr ⟨Or.inl ⟨rfl, List.forall_mem_cons.mpr ⟨⟨mok_J0_length_8abf5, RJ0, Or.inl ⟨rfl, rfl⟩, vokA (y := yJ0_length_8abf5) rfl rfl nmh_J0 rfl q_536 q_234 q_235 q_230⟩, fun _ z => absurd z List.not_mem_nil⟩⟩, List.forall_mem_cons.mpr ⟨Or.inl ⟨rfl, List.forall_mem_cons.mpr ⟨⟨mok_J0_charAt_5068e, RJ0, Or.inl ⟨rfl, rfl⟩, vokA (y := yJ0_charAt_5068e) rfl rfl nmh_J0 rfl q_537 q_237 q_238 q_230⟩, fun _ z => absurd z List.not_mem_nil⟩⟩, List.forall_mem_cons.mpr ⟨Or.inl ⟨rfl, List.forall_mem_cons.mpr ⟨⟨mok_X12_must, RX12, Or.inr ⟨_, _, rfl⟩, vokA (y := yX12_must) rfl rfl nmh_X12 rfl q_538 q_539 q_540 q_529⟩, fun _ z => absurd z List.not_mem_nil⟩⟩, List.forall_mem_cons.mpr ⟨Or.inl ⟨rfl, List.forall_mem_cons.mpr ⟨⟨mok_X12_factor, RX12, Or.inr ⟨_, _, rfl⟩, vokA (y := yX12_factor) rfl rfl nmh_X12 rfl q_543 q_544 q_545 q_529⟩, fun _ z => absurd z List.not_mem_nil⟩⟩, List.forall_mem_cons.mpr ⟨Or.inl ⟨rfl, List.forall_mem_cons.mpr ⟨⟨mok_X12_emits, RX12, Or.inr ⟨_, _, rfl⟩, vokA (y := yX12_emits) rfl rfl nmh_X12 rfl q_546 q_547 q_548 q_529⟩, fun _ z => absurd z List.not_mem_nil⟩⟩, List.forall_mem_cons.mpr ⟨Or.inl ⟨rfl, List.forall_mem_cons.mpr ⟨⟨mok_X12_some, RX12, Or.inr ⟨_, _, rfl⟩, vokA (y := yX12_some) rfl rfl nmh_X12 rfl q_549 q_550 q_551 q_529⟩, fun _ z => absurd z List.not_mem_nil⟩⟩, List.forall_mem_cons.mpr ⟨Or.inl ⟨rfl, List.forall_mem_cons.mpr ⟨⟨mok_X12_among, RX12, Or.inr ⟨_, _, rfl⟩, vokA (y := yX12_among) rfl rfl nmh_X12 rfl q_552 q_553 q_554 q_529⟩, fun _ z => absurd z List.not_mem_nil⟩⟩, List.forall_mem_cons.mpr ⟨Or.inl ⟨rfl, List.forall_mem_cons.mpr ⟨⟨mok_X12_figures, RX12, Or.inr ⟨_, _, rfl⟩, vokA (y := yX12_figures) rfl rfl nmh_X12 rfl q_555 q_556 q_557 q_529⟩, fun _ z => absurd z List.not_mem_nil⟩⟩, List.forall_mem_cons.mpr ⟨Or.inl ⟨rfl, List.forall_mem_cons.mpr ⟨⟨mok_X12_every, RX12, Or.inr ⟨_, _, rfl⟩, vokA (y := yX12_every) rfl rfl nmh_X12 rfl q_558 q_559 q_560 q_529⟩, fun _ z => absurd z List.not_mem_nil⟩⟩, List.forall_mem_cons.mpr ⟨Or.inl ⟨rfl, List.forall_mem_cons.mpr ⟨⟨mok_X12_spells, RX12, Or.inr ⟨_, _, rfl⟩, vokA (y := yX12_spells) rfl rfl nmh_X12 rfl q_561 q_562 q_563 q_529⟩, fun _ z => absurd z List.not_mem_nil⟩⟩, List.forall_mem_cons.mpr ⟨Or.inl ⟨rfl, List.forall_mem_cons.mpr ⟨⟨mok_X12_tellsHere, RX12, Or.inr ⟨_, _, rfl⟩, vokA (y := yX12_tellsHere) rfl rfl nmh_X12 rfl q_564 q_565 q_566 q_529⟩, fun _ z => absurd z List.not_mem_nil⟩⟩, List.forall_mem_cons.mpr ⟨Or.inl ⟨rfl, List.forall_mem_cons.mpr ⟨⟨mok_X12_much, RX12, Or.inr ⟨_, _, rfl⟩, vokA (y := yX12_much) rfl rfl nmh_X12 rfl q_567 q_568 q_569 q_529⟩, fun _ z => absurd z List.not_mem_nil⟩⟩, List.forall_mem_cons.mpr ⟨Or.inl ⟨rfl, List.forall_mem_cons.mpr ⟨⟨mok_X12_clauseHere, RX12, Or.inr ⟨_, _, rfl⟩, vokA (y := yX12_clauseHere) rfl rfl nmh_X12 rfl q_570 q_571 q_572 q_529⟩, fun _ z => absurd z List.not_mem_nil⟩⟩, List.forall_mem_cons.mpr ⟨Or.inl ⟨rfl, List.forall_mem_cons.mpr ⟨⟨mok_X12_tellsOf, RX12, Or.inr ⟨_, _, rfl⟩, vokA (y := yX12_tellsOf) rfl rfl nmh_X12 rfl q_573 q_574 q_575 q_529⟩, fun _ z => absurd z List.not_mem_nil⟩⟩, List.forall_mem_cons.mpr ⟨Or.inr (Or.inl ⟨rfl, List.forall_mem_cons.mpr ⟨⟨mok_X12_countOf, sok (y := yX12_countOf) rfl nmh_X12 rfl q_577 q_578 q_529⟩, fun _ z => absurd z List.not_mem_nil⟩⟩), List.forall_mem_cons.mpr ⟨Or.inl ⟨rfl, List.forall_mem_cons.mpr ⟨⟨mok_X12_clausesOf, RX12, Or.inr ⟨_, _, rfl⟩, vokA (y := yX12_clausesOf) rfl rfl nmh_X12 rfl q_579 q_580 q_581 q_529⟩, fun _ z => absurd z List.not_mem_nil⟩⟩, List.forall_mem_cons.mpr ⟨Or.inl ⟨rfl, List.forall_mem_cons.mpr ⟨⟨mok_X12_sumOf, RX12, Or.inr ⟨_, _, rfl⟩, vokA (y := yX12_sumOf) rfl rfl nmh_X12 rfl q_582 q_583 q_584 q_529⟩, fun _ z => absurd z List.not_mem_nil⟩⟩, List.forall_mem_cons.mpr ⟨Or.inl ⟨rfl, List.forall_mem_cons.mpr ⟨⟨mok_X12_isUrchin, RX12, Or.inr ⟨_, _, rfl⟩, vokA (y := yX12_isUrchin) rfl rfl nmh_X12 rfl q_585 q_586 q_587 q_529⟩, fun _ z => absurd z List.not_mem_nil⟩⟩, List.forall_mem_cons.mpr ⟨Or.inl ⟨rfl, List.forall_mem_cons.mpr ⟨⟨mok_X12_looksAnew, RX12, Or.inr ⟨_, _, rfl⟩, vokA (y := yX12_looksAnew) rfl rfl nmh_X12 rfl q_589 q_590 q_591 q_529⟩, fun _ z => absurd z List.not_mem_nil⟩⟩, List.forall_mem_cons.mpr ⟨Or.inr (Or.inl ⟨rfl, List.forall_mem_cons.mpr ⟨⟨mok_X12_isFact, sok (y := yX12_isFact) rfl nmh_X12 rfl q_592 q_593 q_529⟩, fun _ z => absurd z List.not_mem_nil⟩⟩), List.forall_mem_cons.mpr ⟨Or.inl ⟨rfl, List.forall_mem_cons.mpr ⟨⟨mok_X12_heedOf, RX12, Or.inr ⟨_, _, rfl⟩, vokA (y := yX12_heedOf) rfl rfl nmh_X12 rfl q_594 q_595 q_596 q_529⟩, fun _ z => absurd z List.not_mem_nil⟩⟩, List.forall_mem_cons.mpr ⟨Or.inl ⟨rfl, List.forall_mem_cons.mpr ⟨⟨mok_X12_becomes, RX12, Or.inr ⟨_, _, rfl⟩, vokA (y := yX12_becomes) rfl rfl nmh_X12 rfl q_597 q_598 q_599 q_529⟩, fun _ z => absurd z List.not_mem_nil⟩⟩, List.forall_mem_cons.mpr ⟨Or.inl ⟨rfl, List.forall_mem_cons.mpr ⟨⟨mok_X12_awayOnes, RX12, Or.inr ⟨_, _, rfl⟩, vokA (y := yX12_awayOnes) rfl rfl nmh_X12 rfl q_600 q_601 q_602 q_529⟩, fun _ z => absurd z List.not_mem_nil⟩⟩, List.forall_mem_cons.mpr ⟨Or.inl ⟨rfl, List.forall_mem_cons.mpr ⟨⟨mok_X12_knownBy, RX12, Or.inr ⟨_, _, rfl⟩, vokA (y := yX12_knownBy) rfl rfl nmh_X12 rfl q_603 q_604 q_605 q_529⟩, fun _ z => absurd z List.not_mem_nil⟩⟩, List.forall_mem_cons.mpr ⟨Or.inl ⟨rfl, List.forall_mem_cons.mpr ⟨⟨mok_X12_knownByAny, RX12, Or.inr ⟨_, _, rfl⟩, vokA (y := yX12_knownByAny) rfl rfl nmh_X12 rfl q_606 q_607 q_608 q_529⟩, fun _ z => absurd z List.not_mem_nil⟩⟩, List.forall_mem_cons.mpr ⟨Or.inl ⟨rfl, List.forall_mem_cons.mpr ⟨⟨mok_X12_heldByAll, RX12, Or.inr ⟨_, _, rfl⟩, vokA (y := yX12_heldByAll) rfl rfl nmh_X12 rfl q_609 q_610 q_611 q_529⟩, fun _ z => absurd z List.not_mem_nil⟩⟩, List.forall_mem_cons.mpr ⟨Or.inl ⟨rfl, List.forall_mem_cons.mpr ⟨⟨mok_X12_fewest, RX12, Or.inr ⟨_, _, rfl⟩, vokA (y := yX12_fewest) rfl rfl nmh_X12 rfl q_612 q_613 q_614 q_529⟩, fun _ z => absurd z List.not_mem_nil⟩⟩, List.forall_mem_cons.mpr ⟨Or.inl ⟨rfl, List.forall_mem_cons.mpr ⟨⟨mok_X12_isPassed, RX12, Or.inr ⟨_, _, rfl⟩, vokA (y := yX12_isPassed) rfl rfl nmh_X12 rfl q_615 q_616 q_617 q_529⟩, fun _ z => absurd z List.not_mem_nil⟩⟩, List.forall_mem_cons.mpr ⟨Or.inl ⟨rfl, List.forall_mem_cons.mpr ⟨⟨mok_X12_isKnownNext, RX12, Or.inr ⟨_, _, rfl⟩, vokA (y := yX12_isKnownNext) rfl rfl nmh_X12 rfl q_618 q_619 q_620 q_529⟩, fun _ z => absurd z List.not_mem_nil⟩⟩, List.forall_mem_cons.mpr ⟨Or.inl ⟨rfl, List.forall_mem_cons.mpr ⟨⟨mok_X12_knownNext, RX12, Or.inr ⟨_, _, rfl⟩, vokA (y := yX12_knownNext) rfl rfl nmh_X12 rfl q_621 q_622 q_623 q_529⟩, fun _ z => absurd z List.not_mem_nil⟩⟩, List.forall_mem_cons.mpr ⟨Or.inl ⟨rfl, List.forall_mem_cons.mpr ⟨⟨mok_X12_goesBy, RX12, Or.inr ⟨_, _, rfl⟩, vokA (y := yX12_goesBy) rfl rfl nmh_X12 rfl q_624 q_625 q_626 q_529⟩, fun _ z => absurd z List.not_mem_nil⟩⟩, List.forall_mem_cons.mpr ⟨Or.inl ⟨rfl, List.forall_mem_cons.mpr ⟨⟨mok_X12_goes, RX12, Or.inr ⟨_, _, rfl⟩, vokA (y := yX12_goes) rfl rfl nmh_X12 rfl q_627 q_628 q_629 q_529⟩, fun _ z => absurd z List.not_mem_nil⟩⟩, List.forall_mem_cons.mpr ⟨Or.inl ⟨rfl, List.forall_mem_cons.mpr ⟨⟨mok_X12_goesOn, RX12, Or.inr ⟨_, _, rfl⟩, vokA (y := yX12_goesOn) rfl rfl nmh_X12 rfl q_630 q_631 q_632 q_529⟩, fun _ z => absurd z List.not_mem_nil⟩⟩, List.forall_mem_cons.mpr ⟨Or.inl ⟨rfl, List.forall_mem_cons.mpr ⟨⟨mok_X12_keeps, RX12, Or.inr ⟨_, _, rfl⟩, vokA (y := yX12_keeps) rfl rfl nmh_X12 rfl q_633 q_634 q_635 q_529⟩, fun _ z => absurd z List.not_mem_nil⟩⟩, List.forall_mem_cons.mpr ⟨Or.inl ⟨rfl, List.forall_mem_cons.mpr ⟨⟨mok_X12_goesBack, RX12, Or.inr ⟨_, _, rfl⟩, vokA (y := yX12_goesBack) rfl rfl nmh_X12 rfl q_636 q_637 q_638 q_529⟩, fun _ z => absurd z List.not_mem_nil⟩⟩, List.forall_mem_cons.mpr ⟨Or.inl ⟨rfl, List.forall_mem_cons.mpr ⟨⟨mok_X12_tidesKnown, RX12, Or.inr ⟨_, _, rfl⟩, vokA (y := yX12_tidesKnown) rfl rfl nmh_X12 rfl q_639 q_640 q_641 q_529⟩, fun _ z => absurd z List.not_mem_nil⟩⟩, List.forall_mem_cons.mpr ⟨Or.inl ⟨rfl, List.forall_mem_cons.mpr ⟨⟨mok_X12_heldBehind, RX12, Or.inr ⟨_, _, rfl⟩, vokA (y := yX12_heldBehind) rfl rfl nmh_X12 rfl q_642 q_643 q_644 q_529⟩, fun _ z => absurd z List.not_mem_nil⟩⟩, List.forall_mem_cons.mpr ⟨Or.inl ⟨rfl, List.forall_mem_cons.mpr ⟨⟨mok_X12_isAsSeen, RX12, Or.inr ⟨_, _, rfl⟩, vokA (y := yX12_isAsSeen) rfl rfl nmh_X12 rfl q_645 q_646 q_647 q_529⟩, fun _ z => absurd z List.not_mem_nil⟩⟩, List.forall_mem_cons.mpr ⟨Or.inl ⟨rfl, List.forall_mem_cons.mpr ⟨⟨mok_X12_areAsSeen, RX12, Or.inr ⟨_, _, rfl⟩, vokA (y := yX12_areAsSeen) rfl rfl nmh_X12 rfl q_648 q_649 q_650 q_529⟩, fun _ z => absurd z List.not_mem_nil⟩⟩, List.forall_mem_cons.mpr ⟨Or.inl ⟨rfl, List.forall_mem_cons.mpr ⟨⟨mok_X12_fitting, RX12, Or.inr ⟨_, _, rfl⟩, vokA (y := yX12_fitting) rfl rfl nmh_X12 rfl q_651 q_652 q_653 q_529⟩, fun _ z => absurd z List.not_mem_nil⟩⟩, List.forall_mem_cons.mpr ⟨Or.inr (Or.inl ⟨rfl, List.forall_mem_cons.mpr ⟨⟨mok_X12_lowest, sok (y := yX12_lowest) rfl nmh_X12 rfl q_655 q_656 q_529⟩, fun _ z => absurd z List.not_mem_nil⟩⟩), List.forall_mem_cons.mpr ⟨Or.inl ⟨rfl, List.forall_mem_cons.mpr ⟨⟨mok_X12_isPlan, RX12, Or.inr ⟨_, _, rfl⟩, vokA (y := yX12_isPlan) rfl rfl nmh_X12 rfl q_657 q_658 q_659 q_529⟩, fun _ z => absurd z List.not_mem_nil⟩⟩, List.forall_mem_cons.mpr ⟨Or.inl ⟨rfl, List.forall_mem_cons.mpr ⟨⟨mok_X12_does, RX12, Or.inr ⟨_, _, rfl⟩, vokA (y := yX12_does) rfl rfl nmh_X12 rfl q_660 q_661 q_662 q_529⟩, fun _ z => absurd z List.not_mem_nil⟩⟩, List.forall_mem_cons.mpr ⟨Or.inl ⟨rfl, List.forall_mem_cons.mpr ⟨⟨mok_X12_ranBody, RX12, Or.inr ⟨_, _, rfl⟩, vokA (y := yX12_ranBody) rfl rfl nmh_X12 rfl q_664 q_665 q_666 q_529⟩, fun _ z => absurd z List.not_mem_nil⟩⟩, List.forall_mem_cons.mpr ⟨Or.inr (Or.inl ⟨rfl, List.forall_mem_cons.mpr ⟨⟨mok_X12_isUnder, sok (y := yX12_isUnder) rfl nmh_X12 rfl q_669 q_670 q_529⟩, fun _ z => absurd z List.not_mem_nil⟩⟩), List.forall_mem_cons.mpr ⟨Or.inl ⟨rfl, List.forall_mem_cons.mpr ⟨⟨mok_X12_plainLeans, RX12, Or.inr ⟨_, _, rfl⟩, vokA (y := yX12_plainLeans) rfl rfl nmh_X12 rfl q_671 q_672 q_673 q_529⟩, fun _ z => absurd z List.not_mem_nil⟩⟩, List.forall_mem_cons.mpr ⟨Or.inl ⟨rfl, List.forall_mem_cons.mpr ⟨⟨mok_X12_leansActs, RX12, Or.inr ⟨_, _, rfl⟩, vokA (y := yX12_leansActs) rfl rfl nmh_X12 rfl q_674 q_675 q_676 q_529⟩, fun _ z => absurd z List.not_mem_nil⟩⟩, List.forall_mem_cons.mpr ⟨Or.inl ⟨rfl, List.forall_mem_cons.mpr ⟨⟨mok_X12_plainSays, RX12, Or.inr ⟨_, _, rfl⟩, vokA (y := yX12_plainSays) rfl rfl nmh_X12 rfl q_678 q_679 q_680 q_529⟩, fun _ z => absurd z List.not_mem_nil⟩⟩, List.forall_mem_cons.mpr ⟨Or.inl ⟨rfl, List.forall_mem_cons.mpr ⟨⟨mok_X12_saysActs, RX12, Or.inr ⟨_, _, rfl⟩, vokA (y := yX12_saysActs) rfl rfl nmh_X12 rfl q_681 q_682 q_683 q_529⟩, fun _ z => absurd z List.not_mem_nil⟩⟩, List.forall_mem_cons.mpr ⟨Or.inl ⟨rfl, List.forall_mem_cons.mpr ⟨⟨mok_X12_plainTelling, RX12, Or.inr ⟨_, _, rfl⟩, vokA (y := yX12_plainTelling) rfl rfl nmh_X12 rfl q_684 q_685 q_686 q_529⟩, fun _ z => absurd z List.not_mem_nil⟩⟩, List.forall_mem_cons.mpr ⟨Or.inl ⟨rfl, List.forall_mem_cons.mpr ⟨⟨mok_X12_bristlesActs, RX12, Or.inr ⟨_, _, rfl⟩, vokA (y := yX12_bristlesActs) rfl rfl nmh_X12 rfl q_687 q_688 q_689 q_529⟩, fun _ z => absurd z List.not_mem_nil⟩⟩, fun _ z => absurd z List.not_mem_nil⟩⟩⟩⟩⟩⟩⟩⟩⟩⟩⟩⟩⟩⟩⟩⟩⟩⟩⟩⟩⟩⟩⟩⟩⟩⟩⟩⟩⟩⟩⟩⟩⟩⟩⟩⟩⟩⟩⟩⟩⟩⟩⟩⟩⟩⟩⟩⟩⟩⟩⟩⟩⟩
theorem far_X12 (fv : Value) : FarOK TB (XR fv) RX12 (P_X12) := ⟨farN (by decide +kernel), fun _ z => absurd z List.not_mem_nil, List.forall_mem_cons.mpr ⟨⟨_, List.mem_cons_of_mem _ (List.mem_cons_of_mem _ (List.mem_cons_of_mem _ (List.mem_cons_of_mem _ (List.mem_cons_of_mem _ (List.mem_cons_of_mem _ (List.mem_cons_of_mem _ (List.mem_cons_of_mem _ (List.mem_cons_of_mem _ (List.mem_cons_self)))))))))⟩, List.forall_mem_cons.mpr ⟨⟨_, List.mem_cons_of_mem _ (List.mem_cons_of_mem _ (List.mem_cons_of_mem _ (List.mem_cons_of_mem _ (List.mem_cons_of_mem _ (List.mem_cons_of_mem _ (List.mem_cons_of_mem _ (List.mem_cons_of_mem _ (List.mem_cons_of_mem _ (List.mem_cons_of_mem _ (List.mem_cons_self))))))))))⟩, List.forall_mem_cons.mpr ⟨⟨_, List.mem_cons_of_mem _ (List.mem_cons_of_mem _ (List.mem_cons_of_mem _ (List.mem_cons_of_mem _ (List.mem_cons_of_mem _ (List.mem_cons_of_mem _ (List.mem_cons_self))))))⟩, List.forall_mem_cons.mpr ⟨⟨_, List.mem_cons_of_mem _ (List.mem_cons_of_mem _ (List.mem_cons_of_mem _ (List.mem_cons_of_mem _ (List.mem_cons_of_mem _ (List.mem_cons_of_mem _ (List.mem_cons_of_mem _ (List.mem_cons_self)))))))⟩, List.forall_mem_cons.mpr ⟨⟨_, List.mem_cons_of_mem _ (List.mem_cons_of_mem _ (List.mem_cons_of_mem _ (List.mem_cons_of_mem _ (List.mem_cons_of_mem _ (List.mem_cons_of_mem _ (List.mem_cons_of_mem _ (List.mem_cons_of_mem _ (List.mem_cons_self))))))))⟩, List.forall_mem_cons.mpr ⟨⟨_, List.mem_cons_of_mem _ (List.mem_cons_of_mem _ (List.mem_cons_of_mem _ (List.mem_cons_of_mem _ (List.mem_cons_of_mem _ (List.mem_cons_of_mem _ (List.mem_cons_of_mem _ (List.mem_cons_of_mem _ (List.mem_cons_of_mem _ (List.mem_cons_of_mem _ (List.mem_cons_of_mem _ (List.mem_cons_self)))))))))))⟩, List.forall_mem_cons.mpr ⟨q_588, List.forall_mem_cons.mpr ⟨q_654, fun _ z => absurd z List.not_mem_nil⟩⟩⟩⟩⟩⟩⟩⟩, fun _ z => absurd z List.not_mem_nil⟩
theorem tab_X12 {fv : Value} (h : FV fv) : TabOK TB mt vwCl (XR fv) RX12 (P_X12) := ⟨by decide, XR_ok h, XR_str, TB_ok, cls_ok, fld_X12, far_X12 fv, cpo_X12⟩
def P_J11 : Pool := ([],
  [],
  [(76, .int 56320), (110, .int 55232)], [], [], [])
theorem fld_J11 : FldOK TB nestW vwCl RJ11 (P_J11) := fun _ z => absurd z List.not_mem_nil
set_option maxRecDepth 4000 in
theorem cpo_J11 : CpOK TB mt vwCl RJ11 (P_J11) := fun _ z => absurd z List.not_mem_nil
theorem far_J11 (fv : Value) : FarOK TB (XR fv) RJ11 (P_J11) := ⟨fun _ z => absurd z List.not_mem_nil, fun _ z => absurd z List.not_mem_nil, List.forall_mem_cons.mpr ⟨q_691, List.forall_mem_cons.mpr ⟨q_692, fun _ z => absurd z List.not_mem_nil⟩⟩, fun _ z => absurd z List.not_mem_nil⟩
theorem tab_J11 {fv : Value} (h : FV fv) : TabOK TB mt vwCl (XR fv) RJ11 (P_J11) := ⟨by decide, XR_ok h, XR_str, TB_ok, cls_ok, fld_J11, far_J11 fv, cpo_J11⟩
def P_J6 : Pool := ([],
  [],
  [(265, .int 1431655765), (266, .int 858993459), (267, .int 252645135)], [], [], [])
theorem fld_J6 : FldOK TB nestW vwCl RJ6 (P_J6) := fun _ z => absurd z List.not_mem_nil
set_option maxRecDepth 4000 in
theorem cpo_J6 : CpOK TB mt vwCl RJ6 (P_J6) := fun _ z => absurd z List.not_mem_nil
theorem far_J6 (fv : Value) : FarOK TB (XR fv) RJ6 (P_J6) := ⟨fun _ z => absurd z List.not_mem_nil, fun _ z => absurd z List.not_mem_nil, List.forall_mem_cons.mpr ⟨q_693, List.forall_mem_cons.mpr ⟨q_694, List.forall_mem_cons.mpr ⟨q_695, fun _ z => absurd z List.not_mem_nil⟩⟩⟩, fun _ z => absurd z List.not_mem_nil⟩
theorem tab_J6 {fv : Value} (h : FV fv) : TabOK TB mt vwCl (XR fv) RJ6 (P_J6) := ⟨by decide, XR_ok h, XR_str, TB_ok, cls_ok, fld_J6, far_J6 fv, cpo_J6⟩
def P_J9 : Pool := ([],
  [],
  [], [], [], [])
theorem fld_J9 : FldOK TB nestW vwCl RJ9 (P_J9) := fun _ z => absurd z List.not_mem_nil
set_option maxRecDepth 4000 in
theorem cpo_J9 : CpOK TB mt vwCl RJ9 (P_J9) := fun _ z => absurd z List.not_mem_nil
theorem far_J9 (fv : Value) : FarOK TB (XR fv) RJ9 (P_J9) := ⟨fun _ z => absurd z List.not_mem_nil, fun _ z => absurd z List.not_mem_nil, fun _ z => absurd z List.not_mem_nil, fun _ z => absurd z List.not_mem_nil⟩
theorem tab_J9 {fv : Value} (h : FV fv) : TabOK TB mt vwCl (XR fv) RJ9 (P_J9) := ⟨by decide, XR_ok h, XR_str, TB_ok, cls_ok, fld_J9, far_J9 fv, cpo_J9⟩
def P_J0 (fv : Value) : Pool := ([(9, 0, 9, [50]), (15, 1, 9, [50])],
  [(335, 0, 0, [(50, jJ0_coder_7d493)]),
   (492, 0, 0, [(50, jJ0_isLatin1_aae02)]),
   (495, 1, 2, [(0, jJ1_charAt_3b067)]),
   (498, 1, 2, [(0, jJ2_charAt_3b067)]),
   (505, 0, 0, [(50, jJ0_length_8abf5)]),
   (633, 0, 2, [(50, jJ0_indexOf_7cf53)]),
   (637, 1, 4, [(0, jJ1_indexOf_4cfef)]),
   (640, 1, 4, [(0, jJ2_indexOf_4cfef)]),
   (1059, 1, 3, [(0, jJ3_checkIndex_8e157)]),
   (1062, 1, 4, [(0, jJ3_checkFromToIndex_8c36e)])],
  [], [(38, .int 1), (1053, fv)], [(16000, .ref 1050), (16001, .int 0), (16016, .ref 1051), (16017, .int 0), (16032, .ref 1052), (16033, .int 0), (16048, .ref 1053), (16049, .int 0), (16064, .ref 1054), (16065, .int 0), (16080, .ref 1055), (16081, .int 0)], [(1050, 1, 5, sB_0), (1051, 1, 5, sB_1), (1052, 1, 5, sB_2), (1053, 1, 5, sB_3), (1054, 1, 6, sB_4), (1055, 1, 3, sB_5)])
theorem fld_J0 (fv : Value) : FldOK TB nestW vwCl RJ0 (P_J0 fv) := List.forall_mem_cons.mpr ⟨List.forall_mem_cons.mpr ⟨Or.inl rfl, fun _ z => absurd z List.not_mem_nil⟩, List.forall_mem_cons.mpr ⟨List.forall_mem_cons.mpr ⟨Or.inl rfl, fun _ z => absurd z List.not_mem_nil⟩, fun _ z => absurd z List.not_mem_nil⟩⟩
set_option maxRecDepth 4000 in
theorem cpo_J0 (fv : Value) : CpOK TB mt vwCl RJ0 (P_J0 fv) := List.forall_mem_cons.mpr ⟨Or.inl ⟨rfl, List.forall_mem_cons.mpr ⟨⟨mok_J0_coder_7d493, RJ0, Or.inl ⟨rfl, rfl⟩, vokA (y := yJ0_coder_7d493) rfl rfl nmh_J0 rfl q_697 q_698 q_699 q_230⟩, fun _ z => absurd z List.not_mem_nil⟩⟩, List.forall_mem_cons.mpr ⟨Or.inl ⟨rfl, List.forall_mem_cons.mpr ⟨⟨mok_J0_isLatin1_aae02, RJ0, Or.inl ⟨rfl, rfl⟩, vokA (y := yJ0_isLatin1_aae02) rfl rfl nmh_J0 rfl q_700 q_701 q_702 q_230⟩, fun _ z => absurd z List.not_mem_nil⟩⟩, List.forall_mem_cons.mpr ⟨Or.inr (Or.inl ⟨rfl, List.forall_mem_cons.mpr ⟨⟨mok_J1_charAt_3b067, sok (y := yJ1_charAt_3b067) rfl nmh_J1 rfl q_703 q_704 q_705⟩, fun _ z => absurd z List.not_mem_nil⟩⟩), List.forall_mem_cons.mpr ⟨Or.inr (Or.inl ⟨rfl, List.forall_mem_cons.mpr ⟨⟨mok_J2_charAt_3b067, sok (y := yJ2_charAt_3b067) rfl nmh_J2 rfl q_706 q_707 q_708⟩, fun _ z => absurd z List.not_mem_nil⟩⟩), List.forall_mem_cons.mpr ⟨Or.inl ⟨rfl, List.forall_mem_cons.mpr ⟨⟨mok_J0_length_8abf5, RJ0, Or.inl ⟨rfl, rfl⟩, vokA (y := yJ0_length_8abf5) rfl rfl nmh_J0 rfl q_709 q_234 q_235 q_230⟩, fun _ z => absurd z List.not_mem_nil⟩⟩, List.forall_mem_cons.mpr ⟨Or.inl ⟨rfl, List.forall_mem_cons.mpr ⟨⟨mok_J0_indexOf_7cf53, RJ0, Or.inl ⟨rfl, rfl⟩, vokA (y := yJ0_indexOf_7cf53) rfl rfl nmh_J0 rfl q_710 q_711 q_712 q_230⟩, fun _ z => absurd z List.not_mem_nil⟩⟩, List.forall_mem_cons.mpr ⟨Or.inr (Or.inl ⟨rfl, List.forall_mem_cons.mpr ⟨⟨mok_J1_indexOf_4cfef, sok (y := yJ1_indexOf_4cfef) rfl nmh_J1 rfl q_713 q_714 q_705⟩, fun _ z => absurd z List.not_mem_nil⟩⟩), List.forall_mem_cons.mpr ⟨Or.inr (Or.inl ⟨rfl, List.forall_mem_cons.mpr ⟨⟨mok_J2_indexOf_4cfef, sok (y := yJ2_indexOf_4cfef) rfl nmh_J2 rfl q_715 q_716 q_708⟩, fun _ z => absurd z List.not_mem_nil⟩⟩), List.forall_mem_cons.mpr ⟨Or.inr (Or.inl ⟨rfl, List.forall_mem_cons.mpr ⟨⟨mok_J3_checkIndex_8e157, sok (y := yJ3_checkIndex_8e157) rfl nmh_J3 rfl q_718 q_719 q_720⟩, fun _ z => absurd z List.not_mem_nil⟩⟩), List.forall_mem_cons.mpr ⟨Or.inr (Or.inl ⟨rfl, List.forall_mem_cons.mpr ⟨⟨mok_J3_checkFromToIndex_8c36e, sok (y := yJ3_checkFromToIndex_8c36e) rfl nmh_J3 rfl q_721 q_722 q_720⟩, fun _ z => absurd z List.not_mem_nil⟩⟩), fun _ z => absurd z List.not_mem_nil⟩⟩⟩⟩⟩⟩⟩⟩⟩⟩
theorem far_J0 (fv : Value) : FarOK TB (XR fv) RJ0 (P_J0 fv) := ⟨List.forall_mem_cons.mpr ⟨farS_v q_723, List.forall_mem_cons.mpr ⟨farS_c q_724, fun _ z => absurd z List.not_mem_nil⟩⟩, List.forall_mem_cons.mpr ⟨Or.inr ⟨rfl, List.mem_cons_self⟩, List.forall_mem_cons.mpr ⟨Or.inr ⟨rfl, List.mem_cons_of_mem _ (List.mem_cons_self)⟩, List.forall_mem_cons.mpr ⟨Or.inr ⟨rfl, List.mem_cons_of_mem _ (List.mem_cons_of_mem _ (List.mem_cons_self))⟩, List.forall_mem_cons.mpr ⟨Or.inr ⟨rfl, List.mem_cons_of_mem _ (List.mem_cons_of_mem _ (List.mem_cons_of_mem _ (List.mem_cons_self)))⟩, List.forall_mem_cons.mpr ⟨Or.inr ⟨rfl, List.mem_cons_of_mem _ (List.mem_cons_of_mem _ (List.mem_cons_of_mem _ (List.mem_cons_of_mem _ (List.mem_cons_self))))⟩, List.forall_mem_cons.mpr ⟨Or.inr ⟨rfl, List.mem_cons_of_mem _ (List.mem_cons_of_mem _ (List.mem_cons_of_mem _ (List.mem_cons_of_mem _ (List.mem_cons_of_mem _ (List.mem_cons_self)))))⟩, fun _ z => absurd z List.not_mem_nil⟩⟩⟩⟩⟩⟩, fun _ z => absurd z List.not_mem_nil, List.forall_mem_cons.mpr ⟨⟨_, _, _, List.mem_cons_of_mem _ (List.mem_cons_self), q_696⟩, List.forall_mem_cons.mpr ⟨⟨_, _, _, List.mem_cons_of_mem _ (List.mem_cons_of_mem _ (List.mem_cons_self)), q_717⟩, fun _ z => absurd z List.not_mem_nil⟩⟩⟩
theorem tab_J0 {fv : Value} (h : FV fv) : TabOK TB mt vwCl (XR fv) RJ0 (P_J0 fv) := ⟨by decide, XR_ok h, XR_str, TB_ok, cls_ok, fld_J0 fv, far_J0 fv, cpo_J0 fv⟩
def P_J1 : Pool := ([],
  [(9, 1, 2, [(0, jJ0_checkIndex_df160)]),
   (38, 1, 2, [(0, jJ9_min_7cf53)]),
   (88, 1, 1, [(0, jJ1_canEncode_9a6ad)]),
   (92, 1, 2, [(0, jJ9_max_7cf53)]),
   (95, 1, 4, [(0, jJ1_indexOfChar_4cfef)])],
  [], [], [], [(1050, 1, 5, sB_0), (1051, 1, 5, sB_1), (1052, 1, 5, sB_2), (1053, 1, 5, sB_3), (1054, 1, 6, sB_4), (1055, 1, 3, sB_5)])
theorem fld_J1 : FldOK TB nestW vwCl RJ1 (P_J1) := fun _ z => absurd z List.not_mem_nil
set_option maxRecDepth 4000 in
theorem cpo_J1 : CpOK TB mt vwCl RJ1 (P_J1) := List.forall_mem_cons.mpr ⟨Or.inr (Or.inl ⟨rfl, List.forall_mem_cons.mpr ⟨⟨mok_J0_checkIndex_df160, sok (y := yJ0_checkIndex_df160) rfl nmh_J0 rfl q_725 q_726 q_230⟩, fun _ z => absurd z List.not_mem_nil⟩⟩), List.forall_mem_cons.mpr ⟨Or.inr (Or.inl ⟨rfl, List.forall_mem_cons.mpr ⟨⟨mok_J9_min_7cf53, sok (y := yJ9_min_7cf53) rfl nmh_J9 rfl q_727 q_317 q_309⟩, fun _ z => absurd z List.not_mem_nil⟩⟩), List.forall_mem_cons.mpr ⟨Or.inr (Or.inl ⟨rfl, List.forall_mem_cons.mpr ⟨⟨mok_J1_canEncode_9a6ad, sok (y := yJ1_canEncode_9a6ad) rfl nmh_J1 rfl q_728 q_729 q_705⟩, fun _ z => absurd z List.not_mem_nil⟩⟩), List.forall_mem_cons.mpr ⟨Or.inr (Or.inl ⟨rfl, List.forall_mem_cons.mpr ⟨⟨mok_J9_max_7cf53, sok (y := yJ9_max_7cf53) rfl nmh_J9 rfl q_730 q_308 q_309⟩, fun _ z => absurd z List.not_mem_nil⟩⟩), List.forall_mem_cons.mpr ⟨Or.inr (Or.inl ⟨rfl, List.forall_mem_cons.mpr ⟨⟨mok_J1_indexOfChar_4cfef, sok (y := yJ1_indexOfChar_4cfef) rfl nmh_J1 rfl q_731 q_732 q_705⟩, fun _ z => absurd z List.not_mem_nil⟩⟩), fun _ z => absurd z List.not_mem_nil⟩⟩⟩⟩⟩
theorem far_J1 (fv : Value) : FarOK TB (XR fv) RJ1 (P_J1) := ⟨fun _ z => absurd z List.not_mem_nil, List.forall_mem_cons.mpr ⟨Or.inr ⟨rfl, List.mem_cons_self⟩, List.forall_mem_cons.mpr ⟨Or.inr ⟨rfl, List.mem_cons_of_mem _ (List.mem_cons_self)⟩, List.forall_mem_cons.mpr ⟨Or.inr ⟨rfl, List.mem_cons_of_mem _ (List.mem_cons_of_mem _ (List.mem_cons_self))⟩, List.forall_mem_cons.mpr ⟨Or.inr ⟨rfl, List.mem_cons_of_mem _ (List.mem_cons_of_mem _ (List.mem_cons_of_mem _ (List.mem_cons_self)))⟩, List.forall_mem_cons.mpr ⟨Or.inr ⟨rfl, List.mem_cons_of_mem _ (List.mem_cons_of_mem _ (List.mem_cons_of_mem _ (List.mem_cons_of_mem _ (List.mem_cons_self))))⟩, List.forall_mem_cons.mpr ⟨Or.inr ⟨rfl, List.mem_cons_of_mem _ (List.mem_cons_of_mem _ (List.mem_cons_of_mem _ (List.mem_cons_of_mem _ (List.mem_cons_of_mem _ (List.mem_cons_self)))))⟩, fun _ z => absurd z List.not_mem_nil⟩⟩⟩⟩⟩⟩, fun _ z => absurd z List.not_mem_nil, fun _ z => absurd z List.not_mem_nil⟩
theorem tab_J1 {fv : Value} (h : FV fv) : TabOK TB mt vwCl (XR fv) RJ1 (P_J1) := ⟨by decide, XR_ok h, XR_str, TB_ok, cls_ok, fld_J1, far_J1 fv, cpo_J1⟩
def P_J2 : Pool := ([],
  [(48, 1, 1, [(0, jJ2_length_9d52b)]),
   (67, 1, 2, [(0, jJ2_checkIndex_2214a)]),
   (71, 1, 2, [(0, jJ2_getChar_3b067)]),
   (96, 1, 3, [(0, jJ2_checkBoundsBeginEnd_d044e)]),
   (157, 1, 1, [(0, jJ11_highSurrogate_5068e)]),
   (161, 1, 1, [(0, jJ11_lowSurrogate_5068e)]),
   (164, 1, 1, [(0, jJ11_isValidCodePoint_9a6ad)]),
   (183, 1, 2, [(0, jJ9_min_7cf53)]),
   (224, 1, 2, [(0, jJ9_max_7cf53)]),
   (228, 1, 4, [(0, jJ2_indexOfChar_4cfef)]),
   (232, 1, 4, [(0, jJ2_indexOfSupplementary_4cfef)]),
   (241, 1, 3, [(0, jJ0_checkBoundsBeginEnd_23922)]),
   (244, 1, 4, [(0, jJ2_indexOfCharUnsafe_4cfef)]),
   (414, 1, 2, [(0, jJ0_checkIndex_df160)])],
  [(227, .int 65536)], [], [], [])
theorem fld_J2 : FldOK TB nestW vwCl RJ2 (P_J2) := fun _ z => absurd z List.not_mem_nil
set_option maxRecDepth 4000 in
theorem cpo_J2 : CpOK TB mt vwCl RJ2 (P_J2) := List.forall_mem_cons.mpr ⟨Or.inr (Or.inl ⟨rfl, List.forall_mem_cons.mpr ⟨⟨mok_J2_length_9d52b, sok (y := yJ2_length_9d52b) rfl nmh_J2 rfl q_733 q_734 q_708⟩, fun _ z => absurd z List.not_mem_nil⟩⟩), List.forall_mem_cons.mpr ⟨Or.inr (Or.inl ⟨rfl, List.forall_mem_cons.mpr ⟨⟨mok_J2_checkIndex_2214a, sok (y := yJ2_checkIndex_2214a) rfl nmh_J2 rfl q_735 q_736 q_708⟩, fun _ z => absurd z List.not_mem_nil⟩⟩), List.forall_mem_cons.mpr ⟨Or.inr (Or.inl ⟨rfl, List.forall_mem_cons.mpr ⟨⟨mok_J2_getChar_3b067, sok (y := yJ2_getChar_3b067) rfl nmh_J2 rfl q_737 q_738 q_708⟩, fun _ z => absurd z List.not_mem_nil⟩⟩), List.forall_mem_cons.mpr ⟨Or.inr (Or.inl ⟨rfl, List.forall_mem_cons.mpr ⟨⟨mok_J2_checkBoundsBeginEnd_d044e, sok (y := yJ2_checkBoundsBeginEnd_d044e) rfl nmh_J2 rfl q_739 q_740 q_708⟩, fun _ z => absurd z List.not_mem_nil⟩⟩), List.forall_mem_cons.mpr ⟨Or.inr (Or.inl ⟨rfl, List.forall_mem_cons.mpr ⟨⟨mok_J11_highSurrogate_5068e, sok (y := yJ11_highSurrogate_5068e) rfl nmh_J11 rfl q_741 q_742 q_743⟩, fun _ z => absurd z List.not_mem_nil⟩⟩), List.forall_mem_cons.mpr ⟨Or.inr (Or.inl ⟨rfl, List.forall_mem_cons.mpr ⟨⟨mok_J11_lowSurrogate_5068e, sok (y := yJ11_lowSurrogate_5068e) rfl nmh_J11 rfl q_744 q_745 q_743⟩, fun _ z => absurd z List.not_mem_nil⟩⟩), List.forall_mem_cons.mpr ⟨Or.inr (Or.inl ⟨rfl, List.forall_mem_cons.mpr ⟨⟨mok_J11_isValidCodePoint_9a6ad, sok (y := yJ11_isValidCodePoint_9a6ad) rfl nmh_J11 rfl q_746 q_747 q_743⟩, fun _ z => absurd z List.not_mem_nil⟩⟩), List.forall_mem_cons.mpr ⟨Or.inr (Or.inl ⟨rfl, List.forall_mem_cons.mpr ⟨⟨mok_J9_min_7cf53, sok (y := yJ9_min_7cf53) rfl nmh_J9 rfl q_748 q_317 q_309⟩, fun _ z => absurd z List.not_mem_nil⟩⟩), List.forall_mem_cons.mpr ⟨Or.inr (Or.inl ⟨rfl, List.forall_mem_cons.mpr ⟨⟨mok_J9_max_7cf53, sok (y := yJ9_max_7cf53) rfl nmh_J9 rfl q_749 q_308 q_309⟩, fun _ z => absurd z List.not_mem_nil⟩⟩), List.forall_mem_cons.mpr ⟨Or.inr (Or.inl ⟨rfl, List.forall_mem_cons.mpr ⟨⟨mok_J2_indexOfChar_4cfef, sok (y := yJ2_indexOfChar_4cfef) rfl nmh_J2 rfl q_751 q_752 q_708⟩, fun _ z => absurd z List.not_mem_nil⟩⟩), List.forall_mem_cons.mpr ⟨Or.inr (Or.inl ⟨rfl, List.forall_mem_cons.mpr ⟨⟨mok_J2_indexOfSupplementary_4cfef, sok (y := yJ2_indexOfSupplementary_4cfef) rfl nmh_J2 rfl q_753 q_754 q_708⟩, fun _ z => absurd z List.not_mem_nil⟩⟩), List.forall_mem_cons.mpr ⟨Or.inr (Or.inl ⟨rfl, List.forall_mem_cons.mpr ⟨⟨mok_J0_checkBoundsBeginEnd_23922, sok (y := yJ0_checkBoundsBeginEnd_23922) rfl nmh_J0 rfl q_755 q_756 q_230⟩, fun _ z => absurd z List.not_mem_nil⟩⟩), List.forall_mem_cons.mpr ⟨Or.inr (Or.inl ⟨rfl, List.forall_mem_cons.mpr ⟨⟨mok_J2_indexOfCharUnsafe_4cfef, sok (y := yJ2_indexOfCharUnsafe_4cfef) rfl nmh_J2 rfl q_757 q_758 q_708⟩, fun _ z => absurd z List.not_mem_nil⟩⟩), List.forall_mem_cons.mpr ⟨Or.inr (Or.inl ⟨rfl, List.forall_mem_cons.mpr ⟨⟨mok_J0_checkIndex_df160, sok (y := yJ0_checkIndex_df160) rfl nmh_J0 rfl q_759 q_726 q_230⟩, fun _ z => absurd z List.not_mem_nil⟩⟩), fun _ z => absurd z List.not_mem_nil⟩⟩⟩⟩⟩⟩⟩⟩⟩⟩⟩⟩⟩⟩
theorem far_J2 (fv : Value) : FarOK TB (XR fv) RJ2 (P_J2) := ⟨fun _ z => absurd z List.not_mem_nil, fun _ z => absurd z List.not_mem_nil, List.forall_mem_cons.mpr ⟨q_750, fun _ z => absurd z List.not_mem_nil⟩, fun _ z => absurd z List.not_mem_nil⟩
theorem tab_J2 {fv : Value} (h : FV fv) : TabOK TB mt vwCl (XR fv) RJ2 (P_J2) := ⟨by decide, XR_ok h, XR_str, TB_ok, cls_ok, fld_J2, far_J2 fv, cpo_J2⟩
def P_J7 : Pool := ([],
  [],
  [], [], [], [])
theorem fld_J7 : FldOK TB nestW vwCl RJ7 (P_J7) := fun _ z => absurd z List.not_mem_nil
set_option maxRecDepth 4000 in
theorem cpo_J7 : CpOK TB mt vwCl RJ7 (P_J7) := fun _ z => absurd z List.not_mem_nil
theorem far_J7 (fv : Value) : FarOK TB (XR fv) RJ7 (P_J7) := ⟨fun _ z => absurd z List.not_mem_nil, fun _ z => absurd z List.not_mem_nil, fun _ z => absurd z List.not_mem_nil, fun _ z => absurd z List.not_mem_nil⟩
theorem tab_J7 {fv : Value} (h : FV fv) : TabOK TB mt vwCl (XR fv) RJ7 (P_J7) := ⟨by decide, XR_ok h, XR_str, TB_ok, cls_ok, fld_J7, far_J7 fv, cpo_J7⟩
def P_J3 : Pool := ([],
  [],
  [], [], [], [])
theorem fld_J3 : FldOK TB nestW vwCl RJ3 (P_J3) := fun _ z => absurd z List.not_mem_nil
set_option maxRecDepth 4000 in
theorem cpo_J3 : CpOK TB mt vwCl RJ3 (P_J3) := fun _ z => absurd z List.not_mem_nil
theorem far_J3 (fv : Value) : FarOK TB (XR fv) RJ3 (P_J3) := ⟨fun _ z => absurd z List.not_mem_nil, fun _ z => absurd z List.not_mem_nil, fun _ z => absurd z List.not_mem_nil, fun _ z => absurd z List.not_mem_nil⟩
theorem tab_J3 {fv : Value} (h : FV fv) : TabOK TB mt vwCl (XR fv) RJ3 (P_J3) := ⟨by decide, XR_ok h, XR_str, TB_ok, cls_ok, fld_J3, far_J3 fv, cpo_J3⟩
def P_L : Pool := ([],
  [(13, 0, 1, [(11, jX11_feed)]),
   (17, 0, 1, [(12, jX12_feed)]),
   (18, 0, 0, [(11, jX11_ledge)]),
   (22, 0, 0, [(12, jX12_ledge)]),
   (23, 0, 2, [(11, jX11_urchin)]),
   (27, 0, 2, [(12, jX12_urchin)]),
   (28, 0, 2, [(11, jX11_of)]),
   (31, 0, 2, [(12, jX12_of)]),
   (32, 0, 3, [(11, jX11_row)]),
   (36, 0, 3, [(12, jX12_row)]),
   (37, 0, 2, [(11, jX11_learn)]),
   (40, 0, 2, [(12, jX12_learn)]),
   (41, 0, 2, [(11, jX11_beach)]),
   (45, 0, 2, [(12, jX12_beach)]),
   (46, 0, 2, [(11, jX11_lesson)]),
   (49, 0, 2, [(12, jX12_lesson)]),
   (50, 0, 1, [(11, jX11_told)]),
   (53, 0, 1, [(12, jX12_told)]),
   (54, 0, 1, [(11, jX11_pass)]),
   (57, 0, 1, [(12, jX12_pass)]),
   (58, 0, 2, [(11, jX11_on)]),
   (61, 0, 2, [(12, jX12_on)]),
   (62, 0, 1, [(11, jX11_lasts)]),
   (65, 0, 1, [(12, jX12_lasts)]),
   (66, 0, 2, [(11, jX11_teach)]),
   (69, 0, 2, [(12, jX12_teach)]),
   (70, 0, 1, [(11, jX11_tell)]),
   (73, 0, 1, [(12, jX12_tell)]),
   (74, 0, 4, [(11, jX11_see)]),
   (78, 0, 4, [(12, jX12_see)]),
   (79, 0, 2, [(11, jX11_knew)]),
   (82, 0, 2, [(12, jX12_knew)]),
   (83, 0, 2, [(11, jX11_firm)]),
   (86, 0, 2, [(12, jX12_firm)]),
   (87, 0, 3, [(11, jX11_odds)]),
   (91, 0, 3, [(12, jX12_odds)]),
   (92, 0, 1, [(11, jX11_mean)]),
   (96, 0, 1, [(12, jX12_mean)]),
   (97, 0, 2, [(11, jX11_plan)]),
   (100, 0, 2, [(12, jX12_plan)]),
   (101, 0, 1, [(11, jX11_done)]),
   (104, 0, 1, [(12, jX12_done)]),
   (105, 0, 2, [(11, jX11_book)]),
   (108, 0, 2, [(12, jX12_book)]),
   (109, 0, 0, [(11, jX11_looked)]),
   (112, 0, 0, [(12, jX12_looked)]),
   (113, 0, 3, [(11, jX11_act)]),
   (116, 0, 3, [(12, jX12_act)]),
   (117, 0, 1, [(11, jX11_trace)]),
   (120, 0, 1, [(12, jX12_trace)]),
   (121, 0, 2, [(11, jX11_as)]),
   (124, 0, 2, [(12, jX12_as)]),
   (125, 0, 0, [(11, jX11_image)]),
   (128, 0, 0, [(12, jX12_image)]),
   (129, 0, 0, [(11, jX11_undo)]),
   (132, 0, 0, [(12, jX12_undo)]),
   (133, 0, 1, [(11, jX11_count)]),
   (136, 0, 1, [(12, jX12_count)])],
  [], [], [], [])
theorem fld_L : FldOK TB nestW vwCl RL (P_L) := fun _ z => absurd z List.not_mem_nil
set_option maxRecDepth 4000 in
theorem cpo_L : CpOK TB mt vwCl RL (P_L) := List.forall_mem_cons.mpr ⟨Or.inl ⟨rfl, List.forall_mem_cons.mpr ⟨⟨mok_X11_feed, RX11, Or.inr ⟨_, _, rfl⟩, vokA (y := yX11_feed) rfl rfl nmh_X11 rfl q_760 q_761 q_762 q_377⟩, fun _ z => absurd z List.not_mem_nil⟩⟩, List.forall_mem_cons.mpr ⟨Or.inl ⟨rfl, List.forall_mem_cons.mpr ⟨⟨mok_X12_feed, RX12, Or.inr ⟨_, _, rfl⟩, vokA (y := yX12_feed) rfl rfl nmh_X12 rfl q_763 q_764 q_765 q_529⟩, fun _ z => absurd z List.not_mem_nil⟩⟩, List.forall_mem_cons.mpr ⟨Or.inl ⟨rfl, List.forall_mem_cons.mpr ⟨⟨mok_X11_ledge, RX11, Or.inr ⟨_, _, rfl⟩, vokA (y := yX11_ledge) rfl rfl nmh_X11 rfl q_766 q_767 q_768 q_377⟩, fun _ z => absurd z List.not_mem_nil⟩⟩, List.forall_mem_cons.mpr ⟨Or.inl ⟨rfl, List.forall_mem_cons.mpr ⟨⟨mok_X12_ledge, RX12, Or.inr ⟨_, _, rfl⟩, vokA (y := yX12_ledge) rfl rfl nmh_X12 rfl q_769 q_770 q_771 q_529⟩, fun _ z => absurd z List.not_mem_nil⟩⟩, List.forall_mem_cons.mpr ⟨Or.inl ⟨rfl, List.forall_mem_cons.mpr ⟨⟨mok_X11_urchin, RX11, Or.inr ⟨_, _, rfl⟩, vokA (y := yX11_urchin) rfl rfl nmh_X11 rfl q_772 q_773 q_774 q_377⟩, fun _ z => absurd z List.not_mem_nil⟩⟩, List.forall_mem_cons.mpr ⟨Or.inl ⟨rfl, List.forall_mem_cons.mpr ⟨⟨mok_X12_urchin, RX12, Or.inr ⟨_, _, rfl⟩, vokA (y := yX12_urchin) rfl rfl nmh_X12 rfl q_775 q_776 q_777 q_529⟩, fun _ z => absurd z List.not_mem_nil⟩⟩, List.forall_mem_cons.mpr ⟨Or.inl ⟨rfl, List.forall_mem_cons.mpr ⟨⟨mok_X11_of, RX11, Or.inr ⟨_, _, rfl⟩, vokA (y := yX11_of) rfl rfl nmh_X11 rfl q_778 q_779 q_780 q_377⟩, fun _ z => absurd z List.not_mem_nil⟩⟩, List.forall_mem_cons.mpr ⟨Or.inl ⟨rfl, List.forall_mem_cons.mpr ⟨⟨mok_X12_of, RX12, Or.inr ⟨_, _, rfl⟩, vokA (y := yX12_of) rfl rfl nmh_X12 rfl q_781 q_782 q_783 q_529⟩, fun _ z => absurd z List.not_mem_nil⟩⟩, List.forall_mem_cons.mpr ⟨Or.inl ⟨rfl, List.forall_mem_cons.mpr ⟨⟨mok_X11_row, RX11, Or.inr ⟨_, _, rfl⟩, vokA (y := yX11_row) rfl rfl nmh_X11 rfl q_784 q_785 q_786 q_377⟩, fun _ z => absurd z List.not_mem_nil⟩⟩, List.forall_mem_cons.mpr ⟨Or.inl ⟨rfl, List.forall_mem_cons.mpr ⟨⟨mok_X12_row, RX12, Or.inr ⟨_, _, rfl⟩, vokA (y := yX12_row) rfl rfl nmh_X12 rfl q_787 q_788 q_789 q_529⟩, fun _ z => absurd z List.not_mem_nil⟩⟩, List.forall_mem_cons.mpr ⟨Or.inl ⟨rfl, List.forall_mem_cons.mpr ⟨⟨mok_X11_learn, RX11, Or.inr ⟨_, _, rfl⟩, vokA (y := yX11_learn) rfl rfl nmh_X11 rfl q_790 q_791 q_792 q_377⟩, fun _ z => absurd z List.not_mem_nil⟩⟩, List.forall_mem_cons.mpr ⟨Or.inl ⟨rfl, List.forall_mem_cons.mpr ⟨⟨mok_X12_learn, RX12, Or.inr ⟨_, _, rfl⟩, vokA (y := yX12_learn) rfl rfl nmh_X12 rfl q_793 q_794 q_795 q_529⟩, fun _ z => absurd z List.not_mem_nil⟩⟩, List.forall_mem_cons.mpr ⟨Or.inl ⟨rfl, List.forall_mem_cons.mpr ⟨⟨mok_X11_beach, RX11, Or.inr ⟨_, _, rfl⟩, vokA (y := yX11_beach) rfl rfl nmh_X11 rfl q_796 q_797 q_798 q_377⟩, fun _ z => absurd z List.not_mem_nil⟩⟩, List.forall_mem_cons.mpr ⟨Or.inl ⟨rfl, List.forall_mem_cons.mpr ⟨⟨mok_X12_beach, RX12, Or.inr ⟨_, _, rfl⟩, vokA (y := yX12_beach) rfl rfl nmh_X12 rfl q_799 q_800 q_801 q_529⟩, fun _ z => absurd z List.not_mem_nil⟩⟩, List.forall_mem_cons.mpr ⟨Or.inl ⟨rfl, List.forall_mem_cons.mpr ⟨⟨mok_X11_lesson, RX11, Or.inr ⟨_, _, rfl⟩, vokA (y := yX11_lesson) rfl rfl nmh_X11 rfl q_802 q_803 q_804 q_377⟩, fun _ z => absurd z List.not_mem_nil⟩⟩, List.forall_mem_cons.mpr ⟨Or.inl ⟨rfl, List.forall_mem_cons.mpr ⟨⟨mok_X12_lesson, RX12, Or.inr ⟨_, _, rfl⟩, vokA (y := yX12_lesson) rfl rfl nmh_X12 rfl q_805 q_806 q_807 q_529⟩, fun _ z => absurd z List.not_mem_nil⟩⟩, List.forall_mem_cons.mpr ⟨Or.inl ⟨rfl, List.forall_mem_cons.mpr ⟨⟨mok_X11_told, RX11, Or.inr ⟨_, _, rfl⟩, vokA (y := yX11_told) rfl rfl nmh_X11 rfl q_808 q_809 q_810 q_377⟩, fun _ z => absurd z List.not_mem_nil⟩⟩, List.forall_mem_cons.mpr ⟨Or.inl ⟨rfl, List.forall_mem_cons.mpr ⟨⟨mok_X12_told, RX12, Or.inr ⟨_, _, rfl⟩, vokA (y := yX12_told) rfl rfl nmh_X12 rfl q_811 q_812 q_813 q_529⟩, fun _ z => absurd z List.not_mem_nil⟩⟩, List.forall_mem_cons.mpr ⟨Or.inl ⟨rfl, List.forall_mem_cons.mpr ⟨⟨mok_X11_pass, RX11, Or.inr ⟨_, _, rfl⟩, vokA (y := yX11_pass) rfl rfl nmh_X11 rfl q_814 q_815 q_816 q_377⟩, fun _ z => absurd z List.not_mem_nil⟩⟩, List.forall_mem_cons.mpr ⟨Or.inl ⟨rfl, List.forall_mem_cons.mpr ⟨⟨mok_X12_pass, RX12, Or.inr ⟨_, _, rfl⟩, vokA (y := yX12_pass) rfl rfl nmh_X12 rfl q_817 q_818 q_819 q_529⟩, fun _ z => absurd z List.not_mem_nil⟩⟩, List.forall_mem_cons.mpr ⟨Or.inl ⟨rfl, List.forall_mem_cons.mpr ⟨⟨mok_X11_on, RX11, Or.inr ⟨_, _, rfl⟩, vokA (y := yX11_on) rfl rfl nmh_X11 rfl q_820 q_821 q_822 q_377⟩, fun _ z => absurd z List.not_mem_nil⟩⟩, List.forall_mem_cons.mpr ⟨Or.inl ⟨rfl, List.forall_mem_cons.mpr ⟨⟨mok_X12_on, RX12, Or.inr ⟨_, _, rfl⟩, vokA (y := yX12_on) rfl rfl nmh_X12 rfl q_823 q_824 q_825 q_529⟩, fun _ z => absurd z List.not_mem_nil⟩⟩, List.forall_mem_cons.mpr ⟨Or.inl ⟨rfl, List.forall_mem_cons.mpr ⟨⟨mok_X11_lasts, RX11, Or.inr ⟨_, _, rfl⟩, vokA (y := yX11_lasts) rfl rfl nmh_X11 rfl q_826 q_827 q_828 q_377⟩, fun _ z => absurd z List.not_mem_nil⟩⟩, List.forall_mem_cons.mpr ⟨Or.inl ⟨rfl, List.forall_mem_cons.mpr ⟨⟨mok_X12_lasts, RX12, Or.inr ⟨_, _, rfl⟩, vokA (y := yX12_lasts) rfl rfl nmh_X12 rfl q_829 q_830 q_831 q_529⟩, fun _ z => absurd z List.not_mem_nil⟩⟩, List.forall_mem_cons.mpr ⟨Or.inl ⟨rfl, List.forall_mem_cons.mpr ⟨⟨mok_X11_teach, RX11, Or.inr ⟨_, _, rfl⟩, vokA (y := yX11_teach) rfl rfl nmh_X11 rfl q_832 q_833 q_834 q_377⟩, fun _ z => absurd z List.not_mem_nil⟩⟩, List.forall_mem_cons.mpr ⟨Or.inl ⟨rfl, List.forall_mem_cons.mpr ⟨⟨mok_X12_teach, RX12, Or.inr ⟨_, _, rfl⟩, vokA (y := yX12_teach) rfl rfl nmh_X12 rfl q_835 q_836 q_837 q_529⟩, fun _ z => absurd z List.not_mem_nil⟩⟩, List.forall_mem_cons.mpr ⟨Or.inl ⟨rfl, List.forall_mem_cons.mpr ⟨⟨mok_X11_tell, RX11, Or.inr ⟨_, _, rfl⟩, vokA (y := yX11_tell) rfl rfl nmh_X11 rfl q_838 q_839 q_840 q_377⟩, fun _ z => absurd z List.not_mem_nil⟩⟩, List.forall_mem_cons.mpr ⟨Or.inl ⟨rfl, List.forall_mem_cons.mpr ⟨⟨mok_X12_tell, RX12, Or.inr ⟨_, _, rfl⟩, vokA (y := yX12_tell) rfl rfl nmh_X12 rfl q_841 q_842 q_843 q_529⟩, fun _ z => absurd z List.not_mem_nil⟩⟩, List.forall_mem_cons.mpr ⟨Or.inl ⟨rfl, List.forall_mem_cons.mpr ⟨⟨mok_X11_see, RX11, Or.inr ⟨_, _, rfl⟩, vokA (y := yX11_see) rfl rfl nmh_X11 rfl q_844 q_845 q_846 q_377⟩, fun _ z => absurd z List.not_mem_nil⟩⟩, List.forall_mem_cons.mpr ⟨Or.inl ⟨rfl, List.forall_mem_cons.mpr ⟨⟨mok_X12_see, RX12, Or.inr ⟨_, _, rfl⟩, vokA (y := yX12_see) rfl rfl nmh_X12 rfl q_847 q_848 q_849 q_529⟩, fun _ z => absurd z List.not_mem_nil⟩⟩, List.forall_mem_cons.mpr ⟨Or.inl ⟨rfl, List.forall_mem_cons.mpr ⟨⟨mok_X11_knew, RX11, Or.inr ⟨_, _, rfl⟩, vokA (y := yX11_knew) rfl rfl nmh_X11 rfl q_850 q_851 q_852 q_377⟩, fun _ z => absurd z List.not_mem_nil⟩⟩, List.forall_mem_cons.mpr ⟨Or.inl ⟨rfl, List.forall_mem_cons.mpr ⟨⟨mok_X12_knew, RX12, Or.inr ⟨_, _, rfl⟩, vokA (y := yX12_knew) rfl rfl nmh_X12 rfl q_853 q_854 q_855 q_529⟩, fun _ z => absurd z List.not_mem_nil⟩⟩, List.forall_mem_cons.mpr ⟨Or.inl ⟨rfl, List.forall_mem_cons.mpr ⟨⟨mok_X11_firm, RX11, Or.inr ⟨_, _, rfl⟩, vokA (y := yX11_firm) rfl rfl nmh_X11 rfl q_856 q_857 q_858 q_377⟩, fun _ z => absurd z List.not_mem_nil⟩⟩, List.forall_mem_cons.mpr ⟨Or.inl ⟨rfl, List.forall_mem_cons.mpr ⟨⟨mok_X12_firm, RX12, Or.inr ⟨_, _, rfl⟩, vokA (y := yX12_firm) rfl rfl nmh_X12 rfl q_859 q_860 q_861 q_529⟩, fun _ z => absurd z List.not_mem_nil⟩⟩, List.forall_mem_cons.mpr ⟨Or.inl ⟨rfl, List.forall_mem_cons.mpr ⟨⟨mok_X11_odds, RX11, Or.inr ⟨_, _, rfl⟩, vokA (y := yX11_odds) rfl rfl nmh_X11 rfl q_862 q_863 q_864 q_377⟩, fun _ z => absurd z List.not_mem_nil⟩⟩, List.forall_mem_cons.mpr ⟨Or.inl ⟨rfl, List.forall_mem_cons.mpr ⟨⟨mok_X12_odds, RX12, Or.inr ⟨_, _, rfl⟩, vokA (y := yX12_odds) rfl rfl nmh_X12 rfl q_865 q_866 q_867 q_529⟩, fun _ z => absurd z List.not_mem_nil⟩⟩, List.forall_mem_cons.mpr ⟨Or.inl ⟨rfl, List.forall_mem_cons.mpr ⟨⟨mok_X11_mean, RX11, Or.inr ⟨_, _, rfl⟩, vokA (y := yX11_mean) rfl rfl nmh_X11 rfl q_868 q_869 q_870 q_377⟩, fun _ z => absurd z List.not_mem_nil⟩⟩, List.forall_mem_cons.mpr ⟨Or.inl ⟨rfl, List.forall_mem_cons.mpr ⟨⟨mok_X12_mean, RX12, Or.inr ⟨_, _, rfl⟩, vokA (y := yX12_mean) rfl rfl nmh_X12 rfl q_871 q_872 q_873 q_529⟩, fun _ z => absurd z List.not_mem_nil⟩⟩, List.forall_mem_cons.mpr ⟨Or.inl ⟨rfl, List.forall_mem_cons.mpr ⟨⟨mok_X11_plan, RX11, Or.inr ⟨_, _, rfl⟩, vokA (y := yX11_plan) rfl rfl nmh_X11 rfl q_874 q_875 q_876 q_377⟩, fun _ z => absurd z List.not_mem_nil⟩⟩, List.forall_mem_cons.mpr ⟨Or.inl ⟨rfl, List.forall_mem_cons.mpr ⟨⟨mok_X12_plan, RX12, Or.inr ⟨_, _, rfl⟩, vokA (y := yX12_plan) rfl rfl nmh_X12 rfl q_877 q_878 q_879 q_529⟩, fun _ z => absurd z List.not_mem_nil⟩⟩, List.forall_mem_cons.mpr ⟨Or.inl ⟨rfl, List.forall_mem_cons.mpr ⟨⟨mok_X11_done, RX11, Or.inr ⟨_, _, rfl⟩, vokA (y := yX11_done) rfl rfl nmh_X11 rfl q_880 q_881 q_882 q_377⟩, fun _ z => absurd z List.not_mem_nil⟩⟩, List.forall_mem_cons.mpr ⟨Or.inl ⟨rfl, List.forall_mem_cons.mpr ⟨⟨mok_X12_done, RX12, Or.inr ⟨_, _, rfl⟩, vokA (y := yX12_done) rfl rfl nmh_X12 rfl q_883 q_884 q_885 q_529⟩, fun _ z => absurd z List.not_mem_nil⟩⟩, List.forall_mem_cons.mpr ⟨Or.inl ⟨rfl, List.forall_mem_cons.mpr ⟨⟨mok_X11_book, RX11, Or.inr ⟨_, _, rfl⟩, vokA (y := yX11_book) rfl rfl nmh_X11 rfl q_886 q_887 q_888 q_377⟩, fun _ z => absurd z List.not_mem_nil⟩⟩, List.forall_mem_cons.mpr ⟨Or.inl ⟨rfl, List.forall_mem_cons.mpr ⟨⟨mok_X12_book, RX12, Or.inr ⟨_, _, rfl⟩, vokA (y := yX12_book) rfl rfl nmh_X12 rfl q_889 q_890 q_891 q_529⟩, fun _ z => absurd z List.not_mem_nil⟩⟩, List.forall_mem_cons.mpr ⟨Or.inl ⟨rfl, List.forall_mem_cons.mpr ⟨⟨mok_X11_looked, RX11, Or.inr ⟨_, _, rfl⟩, vokA (y := yX11_looked) rfl rfl nmh_X11 rfl q_892 q_893 q_894 q_377⟩, fun _ z => absurd z List.not_mem_nil⟩⟩, List.forall_mem_cons.mpr ⟨Or.inl ⟨rfl, List.forall_mem_cons.mpr ⟨⟨mok_X12_looked, RX12, Or.inr ⟨_, _, rfl⟩, vokA (y := yX12_looked) rfl rfl nmh_X12 rfl q_895 q_896 q_897 q_529⟩, fun _ z => absurd z List.not_mem_nil⟩⟩, List.forall_mem_cons.mpr ⟨Or.inl ⟨rfl, List.forall_mem_cons.mpr ⟨⟨mok_X11_act, RX11, Or.inr ⟨_, _, rfl⟩, vokA (y := yX11_act) rfl rfl nmh_X11 rfl q_898 q_899 q_900 q_377⟩, fun _ z => absurd z List.not_mem_nil⟩⟩, List.forall_mem_cons.mpr ⟨Or.inl ⟨rfl, List.forall_mem_cons.mpr ⟨⟨mok_X12_act, RX12, Or.inr ⟨_, _, rfl⟩, vokA (y := yX12_act) rfl rfl nmh_X12 rfl q_901 q_902 q_903 q_529⟩, fun _ z => absurd z List.not_mem_nil⟩⟩, List.forall_mem_cons.mpr ⟨Or.inl ⟨rfl, List.forall_mem_cons.mpr ⟨⟨mok_X11_trace, RX11, Or.inr ⟨_, _, rfl⟩, vokA (y := yX11_trace) rfl rfl nmh_X11 rfl q_904 q_905 q_906 q_377⟩, fun _ z => absurd z List.not_mem_nil⟩⟩, List.forall_mem_cons.mpr ⟨Or.inl ⟨rfl, List.forall_mem_cons.mpr ⟨⟨mok_X12_trace, RX12, Or.inr ⟨_, _, rfl⟩, vokA (y := yX12_trace) rfl rfl nmh_X12 rfl q_907 q_908 q_909 q_529⟩, fun _ z => absurd z List.not_mem_nil⟩⟩, List.forall_mem_cons.mpr ⟨Or.inl ⟨rfl, List.forall_mem_cons.mpr ⟨⟨mok_X11_as, RX11, Or.inr ⟨_, _, rfl⟩, vokA (y := yX11_as) rfl rfl nmh_X11 rfl q_910 q_911 q_912 q_377⟩, fun _ z => absurd z List.not_mem_nil⟩⟩, List.forall_mem_cons.mpr ⟨Or.inl ⟨rfl, List.forall_mem_cons.mpr ⟨⟨mok_X12_as, RX12, Or.inr ⟨_, _, rfl⟩, vokA (y := yX12_as) rfl rfl nmh_X12 rfl q_913 q_914 q_915 q_529⟩, fun _ z => absurd z List.not_mem_nil⟩⟩, List.forall_mem_cons.mpr ⟨Or.inl ⟨rfl, List.forall_mem_cons.mpr ⟨⟨mok_X11_image, RX11, Or.inr ⟨_, _, rfl⟩, vokA (y := yX11_image) rfl rfl nmh_X11 rfl q_916 q_917 q_918 q_377⟩, fun _ z => absurd z List.not_mem_nil⟩⟩, List.forall_mem_cons.mpr ⟨Or.inl ⟨rfl, List.forall_mem_cons.mpr ⟨⟨mok_X12_image, RX12, Or.inr ⟨_, _, rfl⟩, vokA (y := yX12_image) rfl rfl nmh_X12 rfl q_919 q_920 q_921 q_529⟩, fun _ z => absurd z List.not_mem_nil⟩⟩, List.forall_mem_cons.mpr ⟨Or.inl ⟨rfl, List.forall_mem_cons.mpr ⟨⟨mok_X11_undo, RX11, Or.inr ⟨_, _, rfl⟩, vokA (y := yX11_undo) rfl rfl nmh_X11 rfl q_922 q_923 q_924 q_377⟩, fun _ z => absurd z List.not_mem_nil⟩⟩, List.forall_mem_cons.mpr ⟨Or.inl ⟨rfl, List.forall_mem_cons.mpr ⟨⟨mok_X12_undo, RX12, Or.inr ⟨_, _, rfl⟩, vokA (y := yX12_undo) rfl rfl nmh_X12 rfl q_925 q_926 q_927 q_529⟩, fun _ z => absurd z List.not_mem_nil⟩⟩, List.forall_mem_cons.mpr ⟨Or.inl ⟨rfl, List.forall_mem_cons.mpr ⟨⟨mok_X11_count, RX11, Or.inr ⟨_, _, rfl⟩, vokA (y := yX11_count) rfl rfl nmh_X11 rfl q_928 q_929 q_930 q_377⟩, fun _ z => absurd z List.not_mem_nil⟩⟩, List.forall_mem_cons.mpr ⟨Or.inl ⟨rfl, List.forall_mem_cons.mpr ⟨⟨mok_X12_count, RX12, Or.inr ⟨_, _, rfl⟩, vokA (y := yX12_count) rfl rfl nmh_X12 rfl q_931 q_932 q_933 q_529⟩, fun _ z => absurd z List.not_mem_nil⟩⟩, fun _ z => absurd z List.not_mem_nil⟩⟩⟩⟩⟩⟩⟩⟩⟩⟩⟩⟩⟩⟩⟩⟩⟩⟩⟩⟩⟩⟩⟩⟩⟩⟩⟩⟩⟩⟩⟩⟩⟩⟩⟩⟩⟩⟩⟩⟩⟩⟩⟩⟩⟩⟩⟩⟩⟩⟩⟩⟩⟩⟩⟩⟩⟩⟩
theorem far_L (fv : Value) : FarOK TB (XR fv) RL (P_L) := ⟨fun _ z => absurd z List.not_mem_nil, fun _ z => absurd z List.not_mem_nil, fun _ z => absurd z List.not_mem_nil, fun _ z => absurd z List.not_mem_nil⟩
theorem tab_L {fv : Value} (h : FV fv) : TabOK TB mt vwCl (XR fv) RL (P_L) := ⟨by decide, XR_ok h, XR_str, TB_ok, cls_ok, fld_L, far_L fv, cpo_L⟩
end
section
/-! what a walk ends in; calls; counting loops; numbers -/
def DP (r : Option Value) (h : List AE) : RP := fun r' h' => r' = r ∧ h' = h
theorem DPi {m r : Int32} {h : List AE} (e : m = r) : DP (some (.int m)) h (some (.int r)) h := ⟨by rw [e], rfl⟩
theorem DPl {m r : Int64} {h : List AE} (e : m = r) : DP (some (.long m)) h (some (.long r)) h := ⟨by rw [e], rfl⟩
theorem DPis {σ : Type} {m : Int32 × σ} {r : Int32} {s' : σ} {F : σ → List AE} (e : m = (r, s')) : DP (some (.int m.1)) (F m.2) (some (.int r)) (F s') := by subst e; exact ⟨rfl, rfl⟩
theorem DPls {σ : Type} {m : Int64 × σ} {r : Int64} {s' : σ} {F : σ → List AE} (e : m = (r, s')) : DP (some (.long m.1)) (F m.2) (some (.long r)) (F s') := by subst e; exact ⟨rfl, rfl⟩
theorem DPs {σ : Type} {m s' : σ} {F : σ → List AE} (e : m = s') : DP none (F m) none (F s') := by subst e; exact ⟨rfl, rfl⟩
theorem xb0 : x_ret (some .boolean) (nI 0) := rfl
theorem xb1 : x_ret (some .boolean) (nI 1) := rfl
def bindv {α β : Type} (a : α) (f : α → β) : β := f a
theorem bindv_eq {α β : Type} {a b : α} {f : α → β} (e : a = b) : bindv a f = f b := by rw [bindv, e]
theorem CALL_same {CT : CTP} {d d1 j : Nat} {as : List Value} {h h1 : List AE} {r : Option Value} {k : Option Value → List AE → Prop} (hd : d1 < d) (hc : CT d1 j as h (DP r h1)) (hk : k r h1) : CALL CT d j as h k :=
  Or.inl ⟨d1, _, hd, hc, fun r' h' q _ => by rw [q.1, q.2]; exact hk⟩
theorem CALL_sub {CT : CTP} {d d1 j : Nat} {as as0 : List Value} {h h0 h1 h' : List AE} {r : Option Value} {k : Option Value → List AE → Prop} (em : List Nat) (hd : d1 < d) (hc : CT d1 j as0 h0 (DP r h1)) (ha : as0.map (r_v em) = as) (hs : w_sub h em h0) (hn : em.Nodup) (hl : em.length ≤ 1000) (hb : w_back h em (h1.map (r_e em)) = h') (hk : k (r_o em r) h') : CALL CT d j as h k :=
  Or.inr ⟨d1, em, as0, h0, _, hd, hc, ha, hs, hn, hl, fun r' h'' q _ => by rw [q.1, q.2, hb]; exact hk⟩
theorem cnt_lt {k N : Nat} {i : Int32} (hi : i = nI k) (hk : k ≤ N) (hN : N < 2 ^ 31) (c : ¬ nI N ≤ i) : k < N := by
  rw [hi] at c
  rcases Nat.lt_or_ge k N with h | h
  · exact h
  · exact absurd (nI_le h (by omega)) c
theorem sw_ne {x : Int32} {lo hi : Int} (k : Nat) (c : x.toInt < lo ∨ hi < x.toInt) (h1 : lo ≤ (k : Int)) (h2 : (k : Int) ≤ hi) (h3 : k < 2 ^ 31) : ¬ x = nI k := by
  intro h
  rw [h, nI_toInt h3] at c
  omega
theorem sw_eq {x : Int32} {z : Int} (k : Nat) (c : x.toInt = z) (hz : z = (k : Int)) (h3 : k < 2 ^ 31) : x = nI k := Int32.toInt_inj.mp (by rw [c, hz, nI_toInt h3])
theorem sw_ot {x : Int32} {z : Int} (k : Nat) (c : x.toInt = z) (hz : z ≠ (k : Int)) (h3 : k < 2 ^ 31) : ¬ x = nI k := by
  intro h
  rw [h, nI_toInt h3] at c
  exact hz c.symm
theorem sw_nn {x : Int32} {z : Int} (k : Nat) (c : ¬ x.toInt = z) (hz : z = (k : Int)) (h3 : k < 2 ^ 31) : ¬ x = nI k := by
  intro h
  apply c
  rw [h, nI_toInt h3, hz]
def bl (x : Int32) : Prop := x = nI 0 ∨ x = nI 1
theorem xret_bl {x : Int32} (h : bl x) : x_ret (some .boolean) x := by rcases h with rfl | rfl <;> rfl
end
section
/-! printed by wip/whole/gen/specs30.py: a School, a Table: their cells, the contracts of their methods; each method's answer and state by a function that mirrors its code -/
abbrev Fn : Type := Nat → Int32
abbrev Sc : Type := Fn × Fn × Fn × Fn × Fn × Int32 × Int32 × Int32 × Int32 × Int32
def Sc.kd (s : Sc) : Fn := s.1
def Sc.vv (s : Sc) : Fn := s.2.1
def Sc.kn (s : Sc) : Fn := s.2.2.1
def Sc.rw (s : Sc) : Fn := s.2.2.2.1
def Sc.le (s : Sc) : Fn := s.2.2.2.2.1
def Sc.sz (s : Sc) : Int32 := s.2.2.2.2.2.1
def Sc.ou (s : Sc) : Int32 := s.2.2.2.2.2.2.1
def Sc.ti (s : Sc) : Int32 := s.2.2.2.2.2.2.2.1
def Sc.sg (s : Sc) : Int32 := s.2.2.2.2.2.2.2.2.1
def Sc.lg (s : Sc) : Int32 := s.2.2.2.2.2.2.2.2.2
def wSc (zkd : Fn) (zvv : Fn) (zkn : Fn) (zrw : Fn) (zle : Fn) (zsz : Int32) (zou : Int32) (zti : Int32) (zsg : Int32) (zlg : Int32) (t u v w : Nat) : List AE := [.inr (7, [.ref 1, .ref 2, .ref 3, .ref 4, .ref 5, .int (zsz), .int (zou), .int (zti), .ref t, .int (zsg), .int (zlg), .ref u, .ref v, .ref w]), .inl (0, 6, .inl (zkd)), .inl (0, 6, .inl (zvv)), .inl (0, 6, .inl (zkn)), .inl (0, 24, .inl (zrw)), .inl (0, 4, .inl (zle))]
def hSc (s : Sc) (t u v w : Nat) : List AE := wSc (Sc.kd s) (Sc.vv s) (Sc.kn s) (Sc.rw s) (Sc.le s) (Sc.sz s) (Sc.ou s) (Sc.ti s) (Sc.sg s) (Sc.lg s) t u v w
abbrev Tb : Type := Fn × Int32 × Int32
def Tb.ce (s : Tb) : Fn := s.1
def Tb.li (s : Tb) : Int32 := s.2.1
def Tb.n (s : Tb) : Int32 := s.2.2
def wTb (zce : Fn) (zli : Int32) (zn : Int32) : List AE := [.inr (8, [.ref 1, .int (zli), .int (zn)]), .inl (0, 32, .inl (zce))]
def hTb (s : Tb) : List AE := wTb (Tb.ce s) (Tb.li s) (Tb.n s)
def m_X8_empty (s : Tb) : Int32 × Tb := (nI 0, (Tb.ce s, Tb.li s, nI 0))
set_option maxRecDepth 100000 in
set_option maxHeartbeats 4000000 in
theorem c_X8_empty (l : Launch) {fv : Value} (hf : FV fv) (s : Tb) : CT l fv 1 jX8_empty [.ref 0] (hTb s) (DP (some (.int (m_X8_empty s).1)) (hTb ((m_X8_empty s).2))) := by
  refine CT_of [] mt_X8_empty (by decide +kernel) (tab_X8 hf) okX8_empty (Nat.le_of_ble_eq_true rfl) ?_
  intro J hJ hD
  refine hJ 0 _ _ _ ?_
  refine And.intro True.intro ?_
  exact And.intro True.intro (DPis (F := (fun z => hTb z)) (s' := (Tb.ce s, Tb.li s, nI 0)) (rfl))
def m_X7_has (zsz : Int32) (i : Int32) : Int32 := if i < 0 then nI 0 else (if zsz ≤ i then nI 0 else (if nI 6 ≤ i then nI 0 else nI 1))
theorem bl_X7_has {zsz : Int32} {i : Int32} : bl (m_X7_has zsz i) := by
  unfold m_X7_has
  (repeat' split) <;> first | exact Or.inl rfl | exact Or.inr rfl
set_option maxRecDepth 100000 in
set_option maxHeartbeats 4000000 in
theorem c_X7_has (l : Launch) {fv : Value} (hf : FV fv) (s : Sc) (t u v w : Nat) (i : Int32) : CT l fv 1 jX7_has [.ref 0, .int i] (hSc s t u v w) (DP (some (.int (m_X7_has (Sc.sz s) i))) (hSc s t u v w)) := by
  refine CT_of [] mt_X7_has (by decide +kernel) (tab_X7 hf) okX7_has (Nat.le_of_ble_eq_true rfl) ?_
  intro J hJ hD
  refine hJ 0 _ _ _ ?_
  refine And.intro (fun c1 => ?_) (fun c1 => ?_)
  · skip
    refine hJ 22 _ _ _ ?_
    exact And.intro xb0 (DPi (if_pos c1))
  · skip
    refine And.intro (fun c2 => ?_) (fun c2 => ?_)
    · skip
      refine hJ 22 _ _ _ ?_
      exact And.intro xb0 (DPi ((if_neg c1).trans (if_pos c2)))
    · skip
      refine And.intro (fun c3 => ?_) (fun c3 => ?_)
      · skip
        refine hJ 22 _ _ _ ?_
        exact And.intro xb0 (DPi ((if_neg c1).trans ((if_neg c2).trans (if_pos c3))))
      · skip
        refine hJ 23 _ _ _ ?_
        exact And.intro xb1 (DPi ((if_neg c1).trans ((if_neg c2).trans (if_neg c3))))
def m_X7_isOut (zou : Int32) (i : Int32) : Int32 := if ((zou >>> (i &&& 31)) &&& nI 1) = nI 1 then nI 1 else nI 0
theorem bl_X7_isOut {zou : Int32} {i : Int32} : bl (m_X7_isOut zou i) := by
  unfold m_X7_isOut
  (repeat' split) <;> first | exact Or.inl rfl | exact Or.inr rfl
set_option maxRecDepth 100000 in
set_option maxHeartbeats 4000000 in
theorem c_X7_isOut (l : Launch) {fv : Value} (hf : FV fv) (s : Sc) (t u v w : Nat) (i : Int32) : CT l fv 1 jX7_isOut [.ref 0, .int i] (hSc s t u v w) (DP (some (.int (m_X7_isOut (Sc.ou s) i))) (hSc s t u v w)) := by
  refine CT_of [] mt_X7_isOut (by decide +kernel) (tab_X7 hf) okX7_isOut (Nat.le_of_ble_eq_true rfl) ?_
  intro J hJ hD
  refine hJ 0 _ _ _ ?_
  refine And.intro (fun c1 => ?_) (fun c1 => ?_)
  · skip
    refine hJ 16 _ _ _ ?_
    exact And.intro xb0 (DPi (if_neg c1))
  · skip
    refine hJ 17 _ _ _ ?_
    exact And.intro xb1 (DPi (if_pos c1))
def m_X7_putOut (s : Sc) (i : Int32) (b : Int32) : Sc := bindv (if b = 0 then (Sc.ou s &&& ((nI 1 <<< (i &&& 31)) ^^^ (-nI 1))) else (Sc.ou s ||| (nI 1 <<< (i &&& 31)))) (fun x1_0 => (Sc.kd s, Sc.vv s, Sc.kn s, Sc.rw s, Sc.le s, Sc.sz s, x1_0, Sc.ti s, Sc.sg s, Sc.lg s))
set_option maxRecDepth 100000 in
set_option maxHeartbeats 4000000 in
theorem c_X7_putOut (l : Launch) {fv : Value} (hf : FV fv) (s : Sc) (t u v w : Nat) (i : Int32) (b : Int32) : CT l fv 1 jX7_putOut [.ref 0, .int i, .int b] (hSc s t u v w) (DP none (hSc (m_X7_putOut s i b) t u v w)) := by
  refine CT_of [26] mt_X7_putOut (by decide +kernel) (tab_X7 hf) okX7_putOut (Nat.le_of_ble_eq_true rfl) ?_
  intro J hJ hD
  refine hJ 0 _ _ _ ?_
  have K1 : ∀ (x1_0 : Int32), (if b = 0 then (Sc.ou s &&& ((nI 1 <<< (i &&& 31)) ^^^ (-nI 1))) else (Sc.ou s ||| (nI 1 <<< (i &&& 31)))) = x1_0 → J 26 [] [.int x1_0, .ref 0] (hSc s t u v w) := by
    intro x1_0 ex1_0
    refine hJ 26 _ _ _ ?_
    refine And.intro True.intro ?_
    exact And.intro rfl (DPs (F := (fun z => hSc z t u v w)) (s' := (Sc.kd s, Sc.vv s, Sc.kn s, Sc.rw s, Sc.le s, Sc.sz s, x1_0, Sc.ti s, Sc.sg s, Sc.lg s)) (bindv_eq ex1_0))
  refine And.intro (fun c2 => ?_) (fun c2 => ?_)
  · skip
    refine hJ 16 _ _ _ ?_
    exact hD _ _ [] _ _ (K1 _ (if_pos c2))
  · skip
    exact hD _ _ [] _ _ (K1 _ (if_neg c2))
def l_X7_all_4 (zkn : Fn) (zsz : Int32) (zou : Int32) : Nat → Int32 → Int32 → Int32
  | 0, _, _ => 0
  | n4 + 1, a, i => if zsz ≤ i then a else (if nI 6 ≤ i then a else (bindv (if (m_X7_isOut (zou) i) = 0 then (zkn i.toNatClampNeg) else (nI 0)) (fun x3_0 => l_X7_all_4 zkn zsz zou n4 (a ||| x3_0) (i + nI 1))))
theorem q_X7_all_4 (zkn : Fn) (zsz : Int32) (zou : Int32) (n4 : Nat) (a : Int32) (i : Int32) : l_X7_all_4 zkn zsz zou (n4 + 1) a i = (if zsz ≤ i then a else (if nI 6 ≤ i then a else (bindv (if (m_X7_isOut (zou) i) = 0 then (zkn i.toNatClampNeg) else (nI 0)) (fun x3_0 => l_X7_all_4 zkn zsz zou n4 (a ||| x3_0) (i + nI 1))))) := rfl
def m_X7_all (zkn : Fn) (zsz : Int32) (zou : Int32) : Int32 := l_X7_all_4 zkn zsz zou 7 (nI 0) (nI 0)
set_option maxRecDepth 100000 in
set_option maxHeartbeats 4000000 in
theorem c_X7_all (l : Launch) {fv : Value} (hf : FV fv) (s : Sc) (t u v w : Nat) : CT l fv 2 jX7_all [.ref 0] (hSc s t u v w) (DP (some (.int (m_X7_all (Sc.kn s) (Sc.sz s) (Sc.ou s)))) (hSc s t u v w)) := by
  refine CT_of [4, 37] mt_X7_all (by decide +kernel) (tab_X7 hf) okX7_all (Nat.le_of_ble_eq_true rfl) ?_
  intro J hJ hD
  refine hJ 0 _ _ _ ?_
  have L4 : ∀ (n4 : Nat) (a : Int32) (i : Int32), (∃ z9 : Nat, z9 ≤ 6 ∧ n4 + z9 = 7 ∧ i = nI z9) → m_X7_all (Sc.kn s) (Sc.sz s) (Sc.ou s) = l_X7_all_4 (Sc.kn s) (Sc.sz s) (Sc.ou s) n4 a i → J 4 [(0, .ref 0), (1, .int a), (2, .int i)] [] (hSc s t u v w) := by
    intro n4
    induction n4 with
    | zero =>
      intro a i hv
      obtain ⟨z9, h1, h2, h3⟩ := hv
      omega
    | succ n4 ih4 =>
      intro a i hv e4
      obtain ⟨z9, h1, h2, h3⟩ := hv
      refine hJ 4 _ _ _ ?_
      refine And.intro (fun c1 => ?_) (fun c1 => ?_)
      · skip
        refine hJ 45 _ _ _ ?_
        exact And.intro True.intro (DPi (e4.trans ((q_X7_all_4 (Sc.kn s) (Sc.sz s) (Sc.ou s) n4 a i).trans (if_pos c1))))
      · skip
        refine And.intro (fun c2 => ?_) (fun c2 => ?_)
        · skip
          refine hJ 45 _ _ _ ?_
          exact And.intro True.intro (DPi (e4.trans ((q_X7_all_4 (Sc.kn s) (Sc.sz s) (Sc.ou s) n4 a i).trans ((if_neg c1).trans (if_pos c2)))))
        · skip
          have h4 := cnt_lt h3 h1 (by decide) c2
          refine CALL_same (r := some (.int (m_X7_isOut (Sc.ou s) i))) (h1 := hSc s t u v w) (by decide) (c_X7_isOut l hf s t u v w i) ?_
          have K3 : ∀ (x3_0 : Int32), (if (m_X7_isOut (Sc.ou s) i) = 0 then (Sc.kn s i.toNatClampNeg) else (nI 0)) = x3_0 → J 37 [(0, .ref 0), (2, .int i)] [.int x3_0, .int a] (hSc s t u v w) := by
            intro x3_0 ex3_0
            refine hJ 37 _ _ _ ?_
            exact hD _ _ [2, 1, 0] _ _ (ih4 _ _ ⟨z9 + 1, h4, by omega, by rw [h3]; exact nI_add z9 1⟩ (e4.trans ((q_X7_all_4 (Sc.kn s) (Sc.sz s) (Sc.ou s) n4 a i).trans ((if_neg c1).trans ((if_neg c2).trans (bindv_eq ex3_0))))))
          refine And.intro (fun c4 => ?_) (fun c4 => ?_)
          · skip
            refine hJ 31 _ _ _ ?_
            refine And.intro (by rw [h3]; exact vp_in_nI h4 (by decide)) ?_
            exact hD _ _ [0, 2] _ _ (K3 _ (if_pos c4))
          · skip
            exact hD _ _ [0, 2] _ _ (K3 _ (if_neg c4))
  exact hD _ _ [2, 1, 0] _ _ (L4 7 _ _ ⟨0, by decide, by decide, rfl⟩ (rfl))
def l_X7_notOut_4 (zsz : Int32) (zou : Int32) : Nat → Int32 → Int32 → Int32
  | 0, _, _ => 0
  | n4 + 1, a, i => if zsz ≤ i then a else (if nI 6 ≤ i then a else (bindv (if (m_X7_isOut (zou) i) = 0 then (nI 1) else (nI 0)) (fun x3_0 => l_X7_notOut_4 zsz zou n4 (a + x3_0) (i + nI 1))))
theorem q_X7_notOut_4 (zsz : Int32) (zou : Int32) (n4 : Nat) (a : Int32) (i : Int32) : l_X7_notOut_4 zsz zou (n4 + 1) a i = (if zsz ≤ i then a else (if nI 6 ≤ i then a else (bindv (if (m_X7_isOut (zou) i) = 0 then (nI 1) else (nI 0)) (fun x3_0 => l_X7_notOut_4 zsz zou n4 (a + x3_0) (i + nI 1))))) := rfl
def m_X7_notOut (zsz : Int32) (zou : Int32) : Int32 := l_X7_notOut_4 zsz zou 7 (nI 0) (nI 0)
set_option maxRecDepth 100000 in
set_option maxHeartbeats 4000000 in
theorem c_X7_notOut (l : Launch) {fv : Value} (hf : FV fv) (s : Sc) (t u v w : Nat) : CT l fv 2 jX7_notOut [.ref 0] (hSc s t u v w) (DP (some (.int (m_X7_notOut (Sc.sz s) (Sc.ou s)))) (hSc s t u v w)) := by
  refine CT_of [4, 32] mt_X7_notOut (by decide +kernel) (tab_X7 hf) okX7_notOut (Nat.le_of_ble_eq_true rfl) ?_
  intro J hJ hD
  refine hJ 0 _ _ _ ?_
  have L4 : ∀ (n4 : Nat) (a : Int32) (i : Int32), (∃ z9 : Nat, z9 ≤ 6 ∧ n4 + z9 = 7 ∧ i = nI z9) → m_X7_notOut (Sc.sz s) (Sc.ou s) = l_X7_notOut_4 (Sc.sz s) (Sc.ou s) n4 a i → J 4 [(0, .ref 0), (1, .int a), (2, .int i)] [] (hSc s t u v w) := by
    intro n4
    induction n4 with
    | zero =>
      intro a i hv
      obtain ⟨z9, h1, h2, h3⟩ := hv
      omega
    | succ n4 ih4 =>
      intro a i hv e4
      obtain ⟨z9, h1, h2, h3⟩ := hv
      refine hJ 4 _ _ _ ?_
      refine And.intro (fun c1 => ?_) (fun c1 => ?_)
      · skip
        refine hJ 40 _ _ _ ?_
        exact And.intro True.intro (DPi (e4.trans ((q_X7_notOut_4 (Sc.sz s) (Sc.ou s) n4 a i).trans (if_pos c1))))
      · skip
        refine And.intro (fun c2 => ?_) (fun c2 => ?_)
        · skip
          refine hJ 40 _ _ _ ?_
          exact And.intro True.intro (DPi (e4.trans ((q_X7_notOut_4 (Sc.sz s) (Sc.ou s) n4 a i).trans ((if_neg c1).trans (if_pos c2)))))
        · skip
          have h4 := cnt_lt h3 h1 (by decide) c2
          refine CALL_same (r := some (.int (m_X7_isOut (Sc.ou s) i))) (h1 := hSc s t u v w) (by decide) (c_X7_isOut l hf s t u v w i) ?_
          have K3 : ∀ (x3_0 : Int32), (if (m_X7_isOut (Sc.ou s) i) = 0 then (nI 1) else (nI 0)) = x3_0 → J 32 [(0, .ref 0), (2, .int i)] [.int x3_0, .int a] (hSc s t u v w) := by
            intro x3_0 ex3_0
            refine hJ 32 _ _ _ ?_
            exact hD _ _ [2, 1, 0] _ _ (ih4 _ _ ⟨z9 + 1, h4, by omega, by rw [h3]; exact nI_add z9 1⟩ (e4.trans ((q_X7_notOut_4 (Sc.sz s) (Sc.ou s) n4 a i).trans ((if_neg c1).trans ((if_neg c2).trans (bindv_eq ex3_0))))))
          refine And.intro (fun c4 => ?_) (fun c4 => ?_)
          · skip
            refine hJ 31 _ _ _ ?_
            exact hD _ _ [0, 2] _ _ (K3 _ (if_pos c4))
          · skip
            exact hD _ _ [0, 2] _ _ (K3 _ (if_neg c4))
  exact hD _ _ [2, 1, 0] _ _ (L4 7 _ _ ⟨0, by decide, by decide, rfl⟩ (rfl))
def l_X7_knownBy_4 (zkn : Fn) (zsz : Int32) (b : Int32) : Nat → Int32 → Int32 → Int32
  | 0, _, _ => 0
  | n4 + 1, a, i => if zsz ≤ i then a else (if nI 6 ≤ i then a else (bindv (if ((b >>> (i &&& 31)) &&& nI 1) = nI 1 then (zkn i.toNatClampNeg) else (nI 0)) (fun x3_0 => l_X7_knownBy_4 zkn zsz b n4 (a ||| x3_0) (i + nI 1))))
theorem q_X7_knownBy_4 (zkn : Fn) (zsz : Int32) (b : Int32) (n4 : Nat) (a : Int32) (i : Int32) : l_X7_knownBy_4 zkn zsz b (n4 + 1) a i = (if zsz ≤ i then a else (if nI 6 ≤ i then a else (bindv (if ((b >>> (i &&& 31)) &&& nI 1) = nI 1 then (zkn i.toNatClampNeg) else (nI 0)) (fun x3_0 => l_X7_knownBy_4 zkn zsz b n4 (a ||| x3_0) (i + nI 1))))) := rfl
def m_X7_knownBy (zkn : Fn) (zsz : Int32) (b : Int32) : Int32 := l_X7_knownBy_4 zkn zsz b 7 (nI 0) (nI 0)
set_option maxRecDepth 100000 in
set_option maxHeartbeats 4000000 in
theorem c_X7_knownBy (l : Launch) {fv : Value} (hf : FV fv) (s : Sc) (t u v w : Nat) (b : Int32) : CT l fv 2 jX7_knownBy [.ref 0, .int b] (hSc s t u v w) (DP (some (.int (m_X7_knownBy (Sc.kn s) (Sc.sz s) b))) (hSc s t u v w)) := by
  refine CT_of [4, 38] mt_X7_knownBy (by decide +kernel) (tab_X7 hf) okX7_knownBy (Nat.le_of_ble_eq_true rfl) ?_
  intro J hJ hD
  refine hJ 0 _ _ _ ?_
  have L4 : ∀ (n4 : Nat) (a : Int32) (i : Int32), (∃ z9 : Nat, z9 ≤ 6 ∧ n4 + z9 = 7 ∧ i = nI z9) → m_X7_knownBy (Sc.kn s) (Sc.sz s) b = l_X7_knownBy_4 (Sc.kn s) (Sc.sz s) b n4 a i → J 4 [(0, .ref 0), (1, .int b), (2, .int a), (3, .int i)] [] (hSc s t u v w) := by
    intro n4
    induction n4 with
    | zero =>
      intro a i hv
      obtain ⟨z9, h1, h2, h3⟩ := hv
      omega
    | succ n4 ih4 =>
      intro a i hv e4
      obtain ⟨z9, h1, h2, h3⟩ := hv
      refine hJ 4 _ _ _ ?_
      refine And.intro (fun c1 => ?_) (fun c1 => ?_)
      · skip
        refine hJ 46 _ _ _ ?_
        exact And.intro True.intro (DPi (e4.trans ((q_X7_knownBy_4 (Sc.kn s) (Sc.sz s) b n4 a i).trans (if_pos c1))))
      · skip
        refine And.intro (fun c2 => ?_) (fun c2 => ?_)
        · skip
          refine hJ 46 _ _ _ ?_
          exact And.intro True.intro (DPi (e4.trans ((q_X7_knownBy_4 (Sc.kn s) (Sc.sz s) b n4 a i).trans ((if_neg c1).trans (if_pos c2)))))
        · skip
          have h4 := cnt_lt h3 h1 (by decide) c2
          have K3 : ∀ (x3_0 : Int32), (if ((b >>> (i &&& 31)) &&& nI 1) = nI 1 then (Sc.kn s i.toNatClampNeg) else (nI 0)) = x3_0 → J 38 [(0, .ref 0), (1, .int b), (3, .int i)] [.int x3_0, .int a] (hSc s t u v w) := by
            intro x3_0 ex3_0
            refine hJ 38 _ _ _ ?_
            exact hD _ _ [2, 3, 1, 0] _ _ (ih4 _ _ ⟨z9 + 1, h4, by omega, by rw [h3]; exact nI_add z9 1⟩ (e4.trans ((q_X7_knownBy_4 (Sc.kn s) (Sc.sz s) b n4 a i).trans ((if_neg c1).trans ((if_neg c2).trans (bindv_eq ex3_0))))))
          refine And.intro (fun c4 => ?_) (fun c4 => ?_)
          · skip
            refine hJ 37 _ _ _ ?_
            exact hD _ _ [0, 1, 3] _ _ (K3 _ (if_neg c4))
          · skip
            refine And.intro (by rw [h3]; exact vp_in_nI h4 (by decide)) ?_
            exact hD _ _ [0, 1, 3] _ _ (K3 _ (if_pos c4))
  exact hD _ _ [2, 3, 1, 0] _ _ (L4 7 _ _ ⟨0, by decide, by decide, rfl⟩ (rfl))
end
section
/-! printed by wip/whole/gen/specs31.py: the check's own cells, and the contracts of its small methods -/
abbrev Ms : Type := Int32 × Fn × Fn × Fn × Int32 × Int32 × Int32 × Int32 × Int32 × Int32 × Fn × Fn × Fn × Fn × Int32 × Fn × Fn × Int32 × Int32 × Int32 × Int32
def Ms.th (s : Ms) : Int32 := s.1
def Ms.s (s : Ms) : Fn := s.2.1
def Ms.im (s : Ms) : Fn := s.2.2.1
def Ms.fr (s : Ms) : Fn := s.2.2.2.1
def Ms.hi (s : Ms) : Int32 := s.2.2.2.2.1
def Ms.ac (s : Ms) : Int32 := s.2.2.2.2.2.1
def Ms.sp (s : Ms) : Int32 := s.2.2.2.2.2.2.1
def Ms.en (s : Ms) : Int32 := s.2.2.2.2.2.2.2.1
def Ms.wr (s : Ms) : Int32 := s.2.2.2.2.2.2.2.2.1
def Ms.op (s : Ms) : Int32 := s.2.2.2.2.2.2.2.2.2.1
def Ms.bb (s : Ms) : Fn := s.2.2.2.2.2.2.2.2.2.2.1
def Ms.tr (s : Ms) : Fn := s.2.2.2.2.2.2.2.2.2.2.2.1
def Ms.su (s : Ms) : Fn := s.2.2.2.2.2.2.2.2.2.2.2.2.1
def Ms.lf (s : Ms) : Fn := s.2.2.2.2.2.2.2.2.2.2.2.2.2.1
def Ms.lk (s : Ms) : Int32 := s.2.2.2.2.2.2.2.2.2.2.2.2.2.2.1
def Ms.nx (s : Ms) : Fn := s.2.2.2.2.2.2.2.2.2.2.2.2.2.2.2.1
def Ms.bo (s : Ms) : Fn := s.2.2.2.2.2.2.2.2.2.2.2.2.2.2.2.2.1
def Ms.ra (s : Ms) : Int32 := s.2.2.2.2.2.2.2.2.2.2.2.2.2.2.2.2.2.1
def Ms.ki (s : Ms) : Int32 := s.2.2.2.2.2.2.2.2.2.2.2.2.2.2.2.2.2.2.1
def Ms.nu (s : Ms) : Int32 := s.2.2.2.2.2.2.2.2.2.2.2.2.2.2.2.2.2.2.2.1
def Ms.tv (s : Ms) : Int32 := s.2.2.2.2.2.2.2.2.2.2.2.2.2.2.2.2.2.2.2.2
def wMs (zth : Int32) (zs : Fn) (zim : Fn) (zfr : Fn) (zhi : Int32) (zac : Int32) (zsp : Int32) (zen : Int32) (zwr : Int32) (zop : Int32) (zbb : Fn) (ztr : Fn) (zsu : Fn) (zlf : Fn) (zlk : Int32) (znx : Fn) (zbo : Fn) (zra : Int32) (zki : Int32) (znu : Int32) (ztv : Int32) : List AE := [.inr (12, [.int (zth), .ref 1, .ref 2, .ref 3, .int (zhi), .int (zac), .int (zsp), .int (zen), .int (zwr), .int (zop), .ref 4, .ref 5, .ref 6, .ref 7, .int (zlk), .ref 8, .ref 9, .int (zra), .int (zki), .int (znu), .int (ztv)]), .inl (0, 927, .inl (zs)), .inl (0, 927, .inl (zim)), .inl (0, 17, .inl (zfr)), .inl (0, 6, .inl (zbb)), .inl (2, 64, .inl (ztr)), .inl (0, 4320, .inl (zsu)), .inl (0, 4320, .inl (zlf)), .inl (0, 6, .inl (znx)), .inl (0, 20, .inl (zbo))]
def hMs (s : Ms) : List AE := wMs (Ms.th s) (Ms.s s) (Ms.im s) (Ms.fr s) (Ms.hi s) (Ms.ac s) (Ms.sp s) (Ms.en s) (Ms.wr s) (Ms.op s) (Ms.bb s) (Ms.tr s) (Ms.su s) (Ms.lf s) (Ms.lk s) (Ms.nx s) (Ms.bo s) (Ms.ra s) (Ms.ki s) (Ms.nu s) (Ms.tv s)
def rl (N : Nat) (x : Int32) : Prop := ∃ k : Nat, k ≤ N ∧ x = nI k
theorem vp_ad (a : Nat) {n N : Nat} {p : Int32} (hp : vp_in p n) (h : a + n ≤ N) (hN : N < 2 ^ 31) : vp_in (nI a + p) N := by
  obtain ⟨k, hk, rfl⟩ := vp_in_of hp (by omega)
  rw [nI_add]
  exact vp_in_nI (by omega) hN
theorem vp_nI {n N : Nat} {x : Int32} (hx : x = nI n) (h : n < N) (hN : N < 2 ^ 31) : vp_in x N := by rw [hx]; exact vp_in_nI h hN
def m_X12_in  (v : Int32) (lo : Int32) (hi : Int32) : Int32 := if v < lo then nI 0 else (if hi < v then nI 0 else nI 1)
theorem bl_X12_in  {v : Int32} {lo : Int32} {hi : Int32} : bl (m_X12_in v lo hi) := by
  unfold m_X12_in
  (repeat' split) <;> first | exact Or.inl rfl | exact Or.inr rfl
set_option maxRecDepth 100000 in
set_option maxHeartbeats 4000000 in
theorem c_X12_in (l : Launch) {fv : Value} (hf : FV fv)  (v : Int32) (lo : Int32) (hi : Int32) : CT l fv 1 jX12_in [.int v, .int lo, .int hi] ([]) (DP (some (.int (m_X12_in v lo hi))) ([])) := by
  refine CT_of [] mt_X12_in (by decide +kernel) (tab_X12 hf) okX12_in (Nat.le_of_ble_eq_true rfl) ?_
  intro J hJ hD
  refine hJ 0 _ _ _ ?_
  refine And.intro (fun c1 => ?_) (fun c1 => ?_)
  · skip
    refine hJ 14 _ _ _ ?_
    exact And.intro xb0 (DPi (if_pos c1))
  · skip
    refine And.intro (fun c2 => ?_) (fun c2 => ?_)
    · skip
      refine hJ 14 _ _ _ ?_
      exact And.intro xb0 (DPi ((if_neg c1).trans (if_pos c2)))
    · skip
      refine hJ 15 _ _ _ ?_
      exact And.intro xb1 (DPi ((if_neg c1).trans (if_neg c2)))
def m_X12_isUrchin (zs : Fn) (p : Int32) : Int32 := (m_X12_in p (nI 0) ((zs (nI 17).toNatClampNeg) - nI 1))
theorem bl_X12_isUrchin {zs : Fn} {p : Int32} : bl (m_X12_isUrchin zs p) := by
  unfold m_X12_isUrchin
  (repeat' split) <;> first | exact Or.inl rfl | exact Or.inr rfl | exact bl_X12_in
set_option maxRecDepth 100000 in
set_option maxHeartbeats 4000000 in
theorem c_X12_isUrchin (l : Launch) {fv : Value} (hf : FV fv) (m : Ms) (p : Int32) : CT l fv 2 jX12_isUrchin [.ref 0, .int p] (hMs m) (DP (some (.int (m_X12_isUrchin (Ms.s m) p))) (hMs m)) := by
  refine CT_of [] mt_X12_isUrchin (by decide +kernel) (tab_X12 hf) okX12_isUrchin (Nat.le_of_ble_eq_true rfl) ?_
  intro J hJ hD
  refine hJ 0 _ _ _ ?_
  refine And.intro (vp_in_nI (by decide) (by decide)) ?_
  refine CALL_sub (h' := hMs m) [] (by decide) (c_X12_in l hf p (nI 0) ((Ms.s m (nI 17).toNatClampNeg) - nI 1)) rfl rfl (by decide) (by decide) rfl ?_
  exact And.intro (xret_bl bl_X12_in) (DPi (rfl))
def m_X12_isFact  (f : Int32) : Int32 := (m_X12_in f (nI 0) (nI 7))
theorem bl_X12_isFact  {f : Int32} : bl (m_X12_isFact f) := by
  unfold m_X12_isFact
  (repeat' split) <;> first | exact Or.inl rfl | exact Or.inr rfl | exact bl_X12_in
set_option maxRecDepth 100000 in
set_option maxHeartbeats 4000000 in
theorem c_X12_isFact (l : Launch) {fv : Value} (hf : FV fv)  (f : Int32) : CT l fv 2 jX12_isFact [.int f] ([]) (DP (some (.int (m_X12_isFact f))) ([])) := by
  refine CT_of [] mt_X12_isFact (by decide +kernel) (tab_X12 hf) okX12_isFact (Nat.le_of_ble_eq_true rfl) ?_
  intro J hJ hD
  refine hJ 0 _ _ _ ?_
  refine CALL_sub (h' := []) [] (by decide) (c_X12_in l hf f (nI 0) (nI 7)) rfl rfl (by decide) (by decide) rfl ?_
  exact And.intro (xret_bl bl_X12_in) (DPi (rfl))
def l_X12_keeps_2 (m : Ms) : Nat → Int32 → Fn → Ms
  | 0, _, _ => m
  | n2 + 1, i, fr => if nI 17 ≤ i then (Ms.th m, Ms.s m, Ms.im m, fr, Ms.hi m, Ms.ac m, Ms.sp m, Ms.en m, Ms.wr m, Ms.op m, Ms.bb m, Ms.tr m, Ms.su m, Ms.lf m, Ms.lk m, Ms.nx m, Ms.bo m, Ms.ra m, Ms.ki m, Ms.nu m, Ms.tv m) else l_X12_keeps_2 m n2 (i + nI 1) (upd fr i.toNatClampNeg (Ms.s m i.toNatClampNeg))
theorem q_X12_keeps_2 (m : Ms) (n2 : Nat) (i : Int32) (fr : Fn) : l_X12_keeps_2 m (n2 + 1) i fr = (if nI 17 ≤ i then (Ms.th m, Ms.s m, Ms.im m, fr, Ms.hi m, Ms.ac m, Ms.sp m, Ms.en m, Ms.wr m, Ms.op m, Ms.bb m, Ms.tr m, Ms.su m, Ms.lf m, Ms.lk m, Ms.nx m, Ms.bo m, Ms.ra m, Ms.ki m, Ms.nu m, Ms.tv m) else l_X12_keeps_2 m n2 (i + nI 1) (upd fr i.toNatClampNeg (Ms.s m i.toNatClampNeg))) := rfl
def m_X12_keeps (m : Ms) : Ms := l_X12_keeps_2 m 18 (nI 0) (Ms.fr m)
set_option maxRecDepth 100000 in
set_option maxHeartbeats 4000000 in
theorem c_X12_keeps (l : Launch) {fv : Value} (hf : FV fv) (m : Ms) : CT l fv 1 jX12_keeps [.ref 0] (hMs m) (DP none (hMs (m_X12_keeps m))) := by
  refine CT_of [2] mt_X12_keeps (by decide +kernel) (tab_X12 hf) okX12_keeps (Nat.le_of_ble_eq_true rfl) ?_
  intro J hJ hD
  refine hJ 0 _ _ _ ?_
  have L2 : ∀ (n2 : Nat) (i : Int32) (fr : Fn), (∃ z9 : Nat, z9 ≤ 17 ∧ n2 + z9 = 18 ∧ i = nI z9) → m_X12_keeps m = l_X12_keeps_2 m n2 i fr → J 2 [(0, .ref 0), (1, .int i)] [] (wMs (Ms.th m) (Ms.s m) (Ms.im m) fr (Ms.hi m) (Ms.ac m) (Ms.sp m) (Ms.en m) (Ms.wr m) (Ms.op m) (Ms.bb m) (Ms.tr m) (Ms.su m) (Ms.lf m) (Ms.lk m) (Ms.nx m) (Ms.bo m) (Ms.ra m) (Ms.ki m) (Ms.nu m) (Ms.tv m)) := by
    intro n2
    induction n2 with
    | zero =>
      intro i fr hv
      obtain ⟨z9, h1, h2, h3⟩ := hv
      omega
    | succ n2 ih2 =>
      intro i fr hv e2
      obtain ⟨z9, h1, h2, h3⟩ := hv
      refine hJ 2 _ _ _ ?_
      refine And.intro (fun c1 => ?_) (fun c1 => ?_)
      · skip
        refine hJ 26 _ _ _ ?_
        exact And.intro rfl (DPs (F := (fun z => hMs z)) (s' := (Ms.th m, Ms.s m, Ms.im m, fr, Ms.hi m, Ms.ac m, Ms.sp m, Ms.en m, Ms.wr m, Ms.op m, Ms.bb m, Ms.tr m, Ms.su m, Ms.lf m, Ms.lk m, Ms.nx m, Ms.bo m, Ms.ra m, Ms.ki m, Ms.nu m, Ms.tv m)) (e2.trans ((q_X12_keeps_2 m n2 i fr).trans (if_pos c1))))
      · skip
        have h4 := cnt_lt h3 h1 (by decide) c1
        refine And.intro (by rw [h3]; exact vp_in_nI (by omega) (by decide)) ?_
        refine And.intro (by rw [h3]; exact vp_in_nI (by omega) (by decide)) ?_
        exact hD _ _ [1, 0] _ _ (ih2 _ _ ⟨z9 + 1, h4, by omega, by rw [h3]; exact nI_add z9 1⟩ (e2.trans ((q_X12_keeps_2 m n2 i fr).trans (if_neg c1))))
  exact hD _ _ [1, 0] _ _ (L2 18 _ _ ⟨0, by decide, by decide, rfl⟩ (rfl))
def l_X12_goesBack_2 (m : Ms) : Nat → Int32 → Fn → Ms
  | 0, _, _ => m
  | n2 + 1, i, s => if nI 17 ≤ i then (Ms.th m, s, Ms.im m, Ms.fr m, Ms.hi m, Ms.ac m, Ms.sp m, Ms.en m, Ms.wr m, Ms.op m, Ms.bb m, Ms.tr m, Ms.su m, Ms.lf m, Ms.lk m, Ms.nx m, Ms.bo m, Ms.ra m, Ms.ki m, Ms.nu m, Ms.tv m) else l_X12_goesBack_2 m n2 (i + nI 1) (upd s i.toNatClampNeg (Ms.fr m i.toNatClampNeg))
theorem q_X12_goesBack_2 (m : Ms) (n2 : Nat) (i : Int32) (s : Fn) : l_X12_goesBack_2 m (n2 + 1) i s = (if nI 17 ≤ i then (Ms.th m, s, Ms.im m, Ms.fr m, Ms.hi m, Ms.ac m, Ms.sp m, Ms.en m, Ms.wr m, Ms.op m, Ms.bb m, Ms.tr m, Ms.su m, Ms.lf m, Ms.lk m, Ms.nx m, Ms.bo m, Ms.ra m, Ms.ki m, Ms.nu m, Ms.tv m) else l_X12_goesBack_2 m n2 (i + nI 1) (upd s i.toNatClampNeg (Ms.fr m i.toNatClampNeg))) := rfl
def m_X12_goesBack (m : Ms) : Ms := l_X12_goesBack_2 m 18 (nI 0) (Ms.s m)
set_option maxRecDepth 100000 in
set_option maxHeartbeats 4000000 in
theorem c_X12_goesBack (l : Launch) {fv : Value} (hf : FV fv) (m : Ms) : CT l fv 1 jX12_goesBack [.ref 0] (hMs m) (DP none (hMs (m_X12_goesBack m))) := by
  refine CT_of [2] mt_X12_goesBack (by decide +kernel) (tab_X12 hf) okX12_goesBack (Nat.le_of_ble_eq_true rfl) ?_
  intro J hJ hD
  refine hJ 0 _ _ _ ?_
  have L2 : ∀ (n2 : Nat) (i : Int32) (s : Fn), (∃ z9 : Nat, z9 ≤ 17 ∧ n2 + z9 = 18 ∧ i = nI z9) → m_X12_goesBack m = l_X12_goesBack_2 m n2 i s → J 2 [(0, .ref 0), (1, .int i)] [] (wMs (Ms.th m) s (Ms.im m) (Ms.fr m) (Ms.hi m) (Ms.ac m) (Ms.sp m) (Ms.en m) (Ms.wr m) (Ms.op m) (Ms.bb m) (Ms.tr m) (Ms.su m) (Ms.lf m) (Ms.lk m) (Ms.nx m) (Ms.bo m) (Ms.ra m) (Ms.ki m) (Ms.nu m) (Ms.tv m)) := by
    intro n2
    induction n2 with
    | zero =>
      intro i s hv
      obtain ⟨z9, h1, h2, h3⟩ := hv
      omega
    | succ n2 ih2 =>
      intro i s hv e2
      obtain ⟨z9, h1, h2, h3⟩ := hv
      refine hJ 2 _ _ _ ?_
      refine And.intro (fun c1 => ?_) (fun c1 => ?_)
      · skip
        refine hJ 26 _ _ _ ?_
        exact And.intro rfl (DPs (F := (fun z => hMs z)) (s' := (Ms.th m, s, Ms.im m, Ms.fr m, Ms.hi m, Ms.ac m, Ms.sp m, Ms.en m, Ms.wr m, Ms.op m, Ms.bb m, Ms.tr m, Ms.su m, Ms.lf m, Ms.lk m, Ms.nx m, Ms.bo m, Ms.ra m, Ms.ki m, Ms.nu m, Ms.tv m)) (e2.trans ((q_X12_goesBack_2 m n2 i s).trans (if_pos c1))))
      · skip
        have h4 := cnt_lt h3 h1 (by decide) c1
        refine And.intro (by rw [h3]; exact vp_in_nI (by omega) (by decide)) ?_
        refine And.intro (by rw [h3]; exact vp_in_nI (by omega) (by decide)) ?_
        exact hD _ _ [1, 0] _ _ (ih2 _ _ ⟨z9 + 1, h4, by omega, by rw [h3]; exact nI_add z9 1⟩ (e2.trans ((q_X12_goesBack_2 m n2 i s).trans (if_neg c1))))
  exact hD _ _ [1, 0] _ _ (L2 18 _ _ ⟨0, by decide, by decide, rfl⟩ (rfl))
def m_X12_looksAnew (m : Ms) : Ms := (Ms.th m, Ms.s m, Ms.im m, Ms.fr m, Ms.hi m, Ms.ac m, Ms.sp m, Ms.en m, Ms.wr m, Ms.op m, Ms.bb m, Ms.tr m, Ms.su m, Ms.lf m, (Ms.lk m + nI 1), Ms.nx m, Ms.bo m, Ms.ra m, Ms.ki m, Ms.nu m, Ms.tv m)
set_option maxRecDepth 100000 in
set_option maxHeartbeats 4000000 in
theorem c_X12_looksAnew (l : Launch) {fv : Value} (hf : FV fv) (m : Ms) : CT l fv 1 jX12_looksAnew [.ref 0] (hMs m) (DP none (hMs (m_X12_looksAnew m))) := by
  refine CT_of [] mt_X12_looksAnew (by decide +kernel) (tab_X12 hf) okX12_looksAnew (Nat.le_of_ble_eq_true rfl) ?_
  intro J hJ hD
  refine hJ 0 _ _ _ ?_
  refine And.intro True.intro ?_
  exact And.intro rfl (DPs (F := (fun z => hMs z)) (s' := (Ms.th m, Ms.s m, Ms.im m, Ms.fr m, Ms.hi m, Ms.ac m, Ms.sp m, Ms.en m, Ms.wr m, Ms.op m, Ms.bb m, Ms.tr m, Ms.su m, Ms.lf m, (Ms.lk m + nI 1), Ms.nx m, Ms.bo m, Ms.ra m, Ms.ki m, Ms.nu m, Ms.tv m)) (rfl))
def m_X12_becomes (m : Ms) (x : Int32) (n : Int32) : Int32 × Ms := ((Ms.s m x.toNatClampNeg), (Ms.th m, (upd (Ms.s m) x.toNatClampNeg n), Ms.im m, Ms.fr m, Ms.hi m, Ms.ac m, Ms.sp m, Ms.en m, Ms.wr m, Ms.op m, Ms.bb m, Ms.tr m, Ms.su m, Ms.lf m, Ms.lk m, Ms.nx m, Ms.bo m, Ms.ra m, Ms.ki m, Ms.nu m, Ms.tv m))
set_option maxRecDepth 100000 in
set_option maxHeartbeats 4000000 in
theorem c_X12_becomes (l : Launch) {fv : Value} (hf : FV fv) (m : Ms) (x : Int32) (n : Int32) (hx : vp_in x 927) : CT l fv 1 jX12_becomes [.ref 0, .int x, .int n] (hMs m) (DP (some (.int (m_X12_becomes m x n).1)) (hMs ((m_X12_becomes m x n).2))) := by
  refine CT_of [] mt_X12_becomes (by decide +kernel) (tab_X12 hf) okX12_becomes (Nat.le_of_ble_eq_true rfl) ?_
  intro J hJ hD
  refine hJ 0 _ _ _ ?_
  refine And.intro (hx) ?_
  refine And.intro (hx) ?_
  exact And.intro True.intro (DPis (F := (fun z => hMs z)) (s' := (Ms.th m, (upd (Ms.s m) x.toNatClampNeg n), Ms.im m, Ms.fr m, Ms.hi m, Ms.ac m, Ms.sp m, Ms.en m, Ms.wr m, Ms.op m, Ms.bb m, Ms.tr m, Ms.su m, Ms.lf m, Ms.lk m, Ms.nx m, Ms.bo m, Ms.ra m, Ms.ki m, Ms.nu m, Ms.tv m)) (rfl))
def m_X12_tellsOf (zs : Fn) (x : Int32) (z : Int32) : Int32 := if (zs (nI 23).toNatClampNeg) = (-nI 1) then z else (zs (x + (zs (nI 23).toNatClampNeg)).toNatClampNeg)
set_option maxRecDepth 100000 in
set_option maxHeartbeats 4000000 in
theorem c_X12_tellsOf (l : Launch) {fv : Value} (hf : FV fv) (m : Ms) (x : Int32) (z : Int32) (hx : ¬ Ms.s m (nI 23).toNatClampNeg = (-nI 1) → vp_in (x + Ms.s m (nI 23).toNatClampNeg) 927) : CT l fv 1 jX12_tellsOf [.ref 0, .int x, .int z] (hMs m) (DP (some (.int (m_X12_tellsOf (Ms.s m) x z))) (hMs m)) := by
  refine CT_of [] mt_X12_tellsOf (by decide +kernel) (tab_X12 hf) okX12_tellsOf (Nat.le_of_ble_eq_true rfl) ?_
  intro J hJ hD
  refine hJ 0 _ _ _ ?_
  refine And.intro (vp_in_nI (by decide) (by decide)) ?_
  refine And.intro (fun c1 => ?_) (fun c1 => ?_)
  · skip
    refine hJ 15 _ _ _ ?_
    refine And.intro (vp_in_nI (by decide) (by decide)) ?_
    refine And.intro (hx c1) ?_
    exact And.intro True.intro (DPi (if_neg c1))
  · skip
    refine hJ 29 _ _ _ ?_
    exact And.intro True.intro (DPi (if_pos c1))
def l_X12_countOf_4  (x : Int32) : Nat → Int32 → Int32 → Int32
  | 0, _, _ => 0
  | n4 + 1, n, k => if nI 8 ≤ k then n else l_X12_countOf_4 x n4 (n + ((x >>> (k &&& 31)) &&& nI 1)) (k + nI 1)
theorem q_X12_countOf_4  (x : Int32) (n4 : Nat) (n : Int32) (k : Int32) : l_X12_countOf_4 x (n4 + 1) n k = (if nI 8 ≤ k then n else l_X12_countOf_4 x n4 (n + ((x >>> (k &&& 31)) &&& nI 1)) (k + nI 1)) := rfl
def m_X12_countOf  (x : Int32) : Int32 := l_X12_countOf_4 x 9 (nI 0) (nI 0)
set_option maxRecDepth 100000 in
set_option maxHeartbeats 4000000 in
theorem c_X12_countOf (l : Launch) {fv : Value} (hf : FV fv)  (x : Int32) : CT l fv 1 jX12_countOf [.int x] ([]) (DP (some (.int (m_X12_countOf x))) ([])) := by
  refine CT_of [4] mt_X12_countOf (by decide +kernel) (tab_X12 hf) okX12_countOf (Nat.le_of_ble_eq_true rfl) ?_
  intro J hJ hD
  refine hJ 0 _ _ _ ?_
  have L4 : ∀ (n4 : Nat) (n : Int32) (k : Int32), (∃ z9 : Nat, z9 ≤ 8 ∧ n4 + z9 = 9 ∧ k = nI z9) → m_X12_countOf x = l_X12_countOf_4 x n4 n k → J 4 [(0, .int x), (1, .int n), (2, .int k)] [] [] := by
    intro n4
    induction n4 with
    | zero =>
      intro n k hv
      obtain ⟨z9, h1, h2, h3⟩ := hv
      omega
    | succ n4 ih4 =>
      intro n k hv e4
      obtain ⟨z9, h1, h2, h3⟩ := hv
      refine hJ 4 _ _ _ ?_
      refine And.intro (fun c1 => ?_) (fun c1 => ?_)
      · skip
        refine hJ 24 _ _ _ ?_
        exact And.intro True.intro (DPi (e4.trans ((q_X12_countOf_4 x n4 n k).trans (if_pos c1))))
      · skip
        have h4 := cnt_lt h3 h1 (by decide) c1
        exact hD _ _ [2, 1, 0] _ _ (ih4 _ _ ⟨z9 + 1, h4, by omega, by rw [h3]; exact nI_add z9 1⟩ (e4.trans ((q_X12_countOf_4 x n4 n k).trans (if_neg c1))))
  exact hD _ _ [2, 1, 0] _ _ (L4 9 _ _ ⟨0, by decide, by decide, rfl⟩ (rfl))
theorem rl_clamp {N : Nat} {x : Int32} (h : rl N x) (hN : N < 2 ^ 31) : ∃ k, k ≤ N ∧ x = nI k ∧ x.toNatClampNeg = k := by
  obtain ⟨k, hk, rfl⟩ := h
  exact ⟨k, hk, rfl, nI_clamp (by omega)⟩
theorem rl_cnt : ∀ (n : Nat) (x a k : Int32) (j : Nat), n + j = 9 → rl j a → k = nI j → rl 8 (l_X12_countOf_4 x n a k)
  | 0, x, a, k, j, h, ha, hk => ⟨0, by omega, rfl⟩
  | n + 1, x, a, k, j, h, ha, hk => by
    unfold l_X12_countOf_4
    by_cases c : nI 8 ≤ k
    · rw [if_pos c]
      rw [hk, nI_leI (by omega) (by omega)] at c
      obtain ⟨q, hq, rfl⟩ := ha
      exact ⟨q, by omega, rfl⟩
    · rw [if_neg c]
      refine rl_cnt n x _ _ (j + 1) (by omega) ?_ (by rw [hk]; exact nI_add j 1)
      obtain ⟨q, hq, rfl⟩ := ha
      have h1 : ∀ y : Int32, y &&& nI 1 = nI 0 ∨ y &&& nI 1 = nI 1 := by
        intro y
        obtain ⟨z, hz, e⟩ := pk_andE y 1 (m := nI 1) (by decide)
        have : z = 0 ∨ z = 1 := by omega
        rcases this with rfl | rfl
        · exact Or.inl e
        · exact Or.inr e
      rcases h1 (x >>> (k &&& 31)) with e | e
      · rw [e, nI_add]; exact ⟨q + 0, by omega, rfl⟩
      · rw [e, nI_add]; exact ⟨q + 1, by omega, rfl⟩
theorem rl_count (x : Int32) : rl 8 (m_X12_countOf x) := rl_cnt 9 x _ _ 0 rfl ⟨0, Nat.le_refl 0, rfl⟩ rfl
theorem vp_md {x : Int32} {d t : Nat} (h : x = nI t) (ht : t < 2 ^ 31) (h0 : 0 < d) (hd : d < 2 ^ 31) : x - x / nI d * nI d = nI (t % d) := by rw [h]; exact pk_rem ht h0 hd
/-- the model's numbers: how many urchins, tides gone, which ledge holds -/
def hU (m : Ms) : Prop := rl 6 (Ms.s m (nI 17).toNatClampNeg)
def hT (m : Ms) : Prop := rl 1000000 (Ms.s m (nI 0).toNatClampNeg)
def hH (m : Ms) : Prop := ¬ Ms.s m (nI 23).toNatClampNeg = (-nI 1) → vp_in (Ms.s m (nI 23).toNatClampNeg) 5
/-- steps that can be gone through: how many truths stand there ahead of each -/
def RPs (f : Nat → Int32) (n : Nat) (dp : Nat → Nat) : Prop := dp 0 = 0 ∧ ∀ j, j < n → dp j < 64 ∧
  (¬ f j < 0 → vp_in (f j - f j / nI 8 * nI 8) 6 ∧ dp (j + 1) = dp j + 1) ∧ (f j = (-nI 1) → 1 ≤ dp j ∧ dp (j + 1) = dp j) ∧ (f j < 0 → ¬ f j = (-nI 1) → ¬ f j ≤ (-nI 10) → 2 ≤ dp j ∧ dp (j + 1) = dp j - 1) ∧ (f j ≤ (-nI 10) → dp (j + 1) = 0)
theorem RP_step {f : Nat → Int32} {F n j : Nat} {dp : Nat → Nat} {i top : Int32} (h : RPs (fun j => f (F + j)) n dp) (hj : j < n) (hF : F + n ≤ 927) (hi : i = nI (F + j)) (ht : top = nI (dp j)) :
    vp_in i 927 ∧ vp_in top 64 ∧ (¬ f i.toNatClampNeg < 0 → vp_in (f i.toNatClampNeg - f i.toNatClampNeg / nI 8 * nI 8) 6 ∧ top + nI 1 = nI (dp (j + 1))) ∧
    (f i.toNatClampNeg = (-nI 1) → vp_in (top - nI 1) 64 ∧ top = nI (dp (j + 1))) ∧
    (f i.toNatClampNeg < 0 → ¬ f i.toNatClampNeg = (-nI 1) → ¬ f i.toNatClampNeg ≤ (-nI 10) → vp_in (top + (-nI 1)) 64 ∧ vp_in ((top + (-nI 1)) - nI 1) 64 ∧ top + (-nI 1) = nI (dp (j + 1))) ∧
    (f i.toNatClampNeg ≤ (-nI 10) → nI 0 = nI (dp (j + 1))) := by
  obtain ⟨h0, h1, h2, h3, h4⟩ := h.2 j hj
  have e : i.toNatClampNeg = F + j := by rw [hi, nI_clamp (by omega)]
  rw [e]
  refine ⟨by rw [hi]; exact vp_in_nI (by omega) (by decide), by rw [ht]; exact vp_in_nI h0 (by decide), fun c => ⟨(h1 c).1, by rw [ht, (h1 c).2]; exact nI_add _ 1⟩, fun c => ⟨?_, by rw [ht, (h2 c).2]⟩, fun c1 c2 c3 => ?_, fun c => by rw [h4 c]⟩
  · rw [ht, pk_sub (h2 c).1]
    exact vp_in_nI (by omega) (by decide)
  · obtain ⟨q1, q2⟩ := h3 c1 c2 c3
    obtain ⟨z, hz⟩ : ∃ z, dp j = z + 2 := ⟨dp j - 2, by omega⟩
    have e1 : top + (-nI 1) = nI (z + 1) := by rw [ht, hz]; exact pk_m1 (z + 1)
    rw [e1]
    refine ⟨vp_in_nI (by omega) (by decide), ?_, by rw [q2, hz]; rfl⟩
    rw [pk_sub (by omega)]
    exact vp_in_nI (by omega) (by decide)
theorem lt_of_cond {F j n : Nat} {i : Int32} (hi : i = nI (F + j)) (h : F + n ≤ 927) (hj : j ≤ n) (c : ¬ nI F + nI n ≤ i) : j < n := by
  rw [hi, nI_add, nI_leI (by omega) (by omega)] at c
  omega
def hS (m : Ms) : Prop := ∃ (F n : Nat) (dp : Nat → Nat), (nI 227 + (nI 140 * (Ms.s m (nI 23).toNatClampNeg))) = nI F ∧ m_X12_tellsOf (Ms.s m) (nI 222) (nI 0) = nI n ∧ F + n ≤ 927 ∧ RPs (fun j => Ms.s m (F + j)) n dp ∧ 17 ≤ F
theorem hH_ad {m : Ms} (h : hH m) (a : Nat) (ha : a + 5 ≤ 927) (c : ¬ Ms.s m (nI 23).toNatClampNeg = (-nI 1)) : vp_in (nI a + Ms.s m (nI 23).toNatClampNeg) 927 := vp_ad a (h c) ha (by decide)
end
section
/-! printed by wip/whole/gen/specs31.py: sums of the model -/
def l_X12_clausesOf_96 (m : Ms) (p : Int32) (f : Int32) (many : Int32) (tide : Int32) : Nat → Int32 → Int32 → Int32 → Fn → Int32 × Ms
  | 0, _, _, _, _ => (0, m)
  | n96 + 1, sum, top, i, tr => if ((nI 227 + (nI 140 * (Ms.s m (nI 23).toNatClampNeg))) + (m_X12_tellsOf (Ms.s m) (nI 222) (nI 0))) ≤ i then (sum, (Ms.th m, Ms.s m, Ms.im m, Ms.fr m, Ms.hi m, Ms.ac m, Ms.sp m, Ms.en m, Ms.wr m, Ms.op m, (upd (upd (upd (upd (upd (upd (Ms.bb m) (nI 0).toNatClampNeg p) (nI 1).toNatClampNeg (Ms.s m (nI 24 + p).toNatClampNeg)) (nI 2).toNatClampNeg (Ms.s m (nI 30 + p).toNatClampNeg)) (nI 3).toNatClampNeg f) (nI 4).toNatClampNeg many) (nI 5).toNatClampNeg tide), tr, Ms.su m, Ms.lf m, Ms.lk m, Ms.nx m, Ms.bo m, Ms.ra m, Ms.ki m, Ms.nu m, Ms.tv m)) else (if (Ms.s m i.toNatClampNeg) < 0 then (if (Ms.s m i.toNatClampNeg) = (-nI 1) then (bindv (if (tr (top - nI 1).toNatClampNeg) = 0 then (nI 1) else (nI 0)) (fun x17_0 => l_X12_clausesOf_96 m p f many tide n96 sum top (i + nI 1) (upd tr (top - nI 1).toNatClampNeg (vp_nar .boolean x17_0)))) else (if (Ms.s m i.toNatClampNeg) ≤ (-nI 10) then (bindv (if (tr (nI 0).toNatClampNeg) = 0 then (nI 0) else (if (Ms.s m i.toNatClampNeg) ≤ (-nI 200) then (nI 0) else ((-nI 10) - (Ms.s m i.toNatClampNeg)))) (fun x5_0 => bindv (if (tr (nI 0).toNatClampNeg) = 0 then (nI 0) else (if (-nI 200) < (Ms.s m i.toNatClampNeg) then (nI 0) else ((-nI 200) - (Ms.s m i.toNatClampNeg)))) (fun x6_0 => l_X12_clausesOf_96 m p f many tide n96 ((sum + x5_0) - x6_0) (nI 0) (i + nI 1) tr))) else (bindv (if (Ms.s m i.toNatClampNeg) = (-nI 2) then (if (tr ((top + (-nI 1)) - nI 1).toNatClampNeg) = 0 then (nI 0) else (if (tr (top + (-nI 1)).toNatClampNeg) = 0 then (nI 0) else (nI 1))) else (if (tr ((top + (-nI 1)) - nI 1).toNatClampNeg) = 0 then (if (tr (top + (-nI 1)).toNatClampNeg) = 0 then (nI 0) else (nI 1)) else (nI 1))) (fun x11_0 => l_X12_clausesOf_96 m p f many tide n96 sum (top + (-nI 1)) (i + nI 1) (upd tr ((top + (-nI 1)) - nI 1).toNatClampNeg (vp_nar .boolean x11_0)))))) else (bindv (if (((Ms.s m i.toNatClampNeg) / nI 8) - ((Ms.s m i.toNatClampNeg) / nI 8) / nI 4 * nI 4) = 0 then (if ((Ms.s m i.toNatClampNeg) / nI 32) ≤ ((upd (upd (upd (upd (upd (upd (Ms.bb m) (nI 0).toNatClampNeg p) (nI 1).toNatClampNeg (Ms.s m (nI 24 + p).toNatClampNeg)) (nI 2).toNatClampNeg (Ms.s m (nI 30 + p).toNatClampNeg)) (nI 3).toNatClampNeg f) (nI 4).toNatClampNeg many) (nI 5).toNatClampNeg tide) ((Ms.s m i.toNatClampNeg) - (Ms.s m i.toNatClampNeg) / nI 8 * nI 8).toNatClampNeg) then (nI 0) else (nI 1)) else (if (((Ms.s m i.toNatClampNeg) / nI 8) - ((Ms.s m i.toNatClampNeg) / nI 8) / nI 4 * nI 4) = nI 1 then (if ((upd (upd (upd (upd (upd (upd (Ms.bb m) (nI 0).toNatClampNeg p) (nI 1).toNatClampNeg (Ms.s m (nI 24 + p).toNatClampNeg)) (nI 2).toNatClampNeg (Ms.s m (nI 30 + p).toNatClampNeg)) (nI 3).toNatClampNeg f) (nI 4).toNatClampNeg many) (nI 5).toNatClampNeg tide) ((Ms.s m i.toNatClampNeg) - (Ms.s m i.toNatClampNeg) / nI 8 * nI 8).toNatClampNeg) = ((Ms.s m i.toNatClampNeg) / nI 32) then (nI 1) else (nI 0)) else (if ((upd (upd (upd (upd (upd (upd (Ms.bb m) (nI 0).toNatClampNeg p) (nI 1).toNatClampNeg (Ms.s m (nI 24 + p).toNatClampNeg)) (nI 2).toNatClampNeg (Ms.s m (nI 30 + p).toNatClampNeg)) (nI 3).toNatClampNeg f) (nI 4).toNatClampNeg many) (nI 5).toNatClampNeg tide) ((Ms.s m i.toNatClampNeg) - (Ms.s m i.toNatClampNeg) / nI 8 * nI 8).toNatClampNeg) ≤ ((Ms.s m i.toNatClampNeg) / nI 32) then (nI 0) else (nI 1)))) (fun x19_0 => l_X12_clausesOf_96 m p f many tide n96 sum (top + nI 1) (i + nI 1) (upd tr top.toNatClampNeg (vp_nar .boolean x19_0)))))
theorem q_X12_clausesOf_96 (m : Ms) (p : Int32) (f : Int32) (many : Int32) (tide : Int32) (n96 : Nat) (sum : Int32) (top : Int32) (i : Int32) (tr : Fn) : l_X12_clausesOf_96 m p f many tide (n96 + 1) sum top i tr = (if ((nI 227 + (nI 140 * (Ms.s m (nI 23).toNatClampNeg))) + (m_X12_tellsOf (Ms.s m) (nI 222) (nI 0))) ≤ i then (sum, (Ms.th m, Ms.s m, Ms.im m, Ms.fr m, Ms.hi m, Ms.ac m, Ms.sp m, Ms.en m, Ms.wr m, Ms.op m, (upd (upd (upd (upd (upd (upd (Ms.bb m) (nI 0).toNatClampNeg p) (nI 1).toNatClampNeg (Ms.s m (nI 24 + p).toNatClampNeg)) (nI 2).toNatClampNeg (Ms.s m (nI 30 + p).toNatClampNeg)) (nI 3).toNatClampNeg f) (nI 4).toNatClampNeg many) (nI 5).toNatClampNeg tide), tr, Ms.su m, Ms.lf m, Ms.lk m, Ms.nx m, Ms.bo m, Ms.ra m, Ms.ki m, Ms.nu m, Ms.tv m)) else (if (Ms.s m i.toNatClampNeg) < 0 then (if (Ms.s m i.toNatClampNeg) = (-nI 1) then (bindv (if (tr (top - nI 1).toNatClampNeg) = 0 then (nI 1) else (nI 0)) (fun x17_0 => l_X12_clausesOf_96 m p f many tide n96 sum top (i + nI 1) (upd tr (top - nI 1).toNatClampNeg (vp_nar .boolean x17_0)))) else (if (Ms.s m i.toNatClampNeg) ≤ (-nI 10) then (bindv (if (tr (nI 0).toNatClampNeg) = 0 then (nI 0) else (if (Ms.s m i.toNatClampNeg) ≤ (-nI 200) then (nI 0) else ((-nI 10) - (Ms.s m i.toNatClampNeg)))) (fun x5_0 => bindv (if (tr (nI 0).toNatClampNeg) = 0 then (nI 0) else (if (-nI 200) < (Ms.s m i.toNatClampNeg) then (nI 0) else ((-nI 200) - (Ms.s m i.toNatClampNeg)))) (fun x6_0 => l_X12_clausesOf_96 m p f many tide n96 ((sum + x5_0) - x6_0) (nI 0) (i + nI 1) tr))) else (bindv (if (Ms.s m i.toNatClampNeg) = (-nI 2) then (if (tr ((top + (-nI 1)) - nI 1).toNatClampNeg) = 0 then (nI 0) else (if (tr (top + (-nI 1)).toNatClampNeg) = 0 then (nI 0) else (nI 1))) else (if (tr ((top + (-nI 1)) - nI 1).toNatClampNeg) = 0 then (if (tr (top + (-nI 1)).toNatClampNeg) = 0 then (nI 0) else (nI 1)) else (nI 1))) (fun x11_0 => l_X12_clausesOf_96 m p f many tide n96 sum (top + (-nI 1)) (i + nI 1) (upd tr ((top + (-nI 1)) - nI 1).toNatClampNeg (vp_nar .boolean x11_0)))))) else (bindv (if (((Ms.s m i.toNatClampNeg) / nI 8) - ((Ms.s m i.toNatClampNeg) / nI 8) / nI 4 * nI 4) = 0 then (if ((Ms.s m i.toNatClampNeg) / nI 32) ≤ ((upd (upd (upd (upd (upd (upd (Ms.bb m) (nI 0).toNatClampNeg p) (nI 1).toNatClampNeg (Ms.s m (nI 24 + p).toNatClampNeg)) (nI 2).toNatClampNeg (Ms.s m (nI 30 + p).toNatClampNeg)) (nI 3).toNatClampNeg f) (nI 4).toNatClampNeg many) (nI 5).toNatClampNeg tide) ((Ms.s m i.toNatClampNeg) - (Ms.s m i.toNatClampNeg) / nI 8 * nI 8).toNatClampNeg) then (nI 0) else (nI 1)) else (if (((Ms.s m i.toNatClampNeg) / nI 8) - ((Ms.s m i.toNatClampNeg) / nI 8) / nI 4 * nI 4) = nI 1 then (if ((upd (upd (upd (upd (upd (upd (Ms.bb m) (nI 0).toNatClampNeg p) (nI 1).toNatClampNeg (Ms.s m (nI 24 + p).toNatClampNeg)) (nI 2).toNatClampNeg (Ms.s m (nI 30 + p).toNatClampNeg)) (nI 3).toNatClampNeg f) (nI 4).toNatClampNeg many) (nI 5).toNatClampNeg tide) ((Ms.s m i.toNatClampNeg) - (Ms.s m i.toNatClampNeg) / nI 8 * nI 8).toNatClampNeg) = ((Ms.s m i.toNatClampNeg) / nI 32) then (nI 1) else (nI 0)) else (if ((upd (upd (upd (upd (upd (upd (Ms.bb m) (nI 0).toNatClampNeg p) (nI 1).toNatClampNeg (Ms.s m (nI 24 + p).toNatClampNeg)) (nI 2).toNatClampNeg (Ms.s m (nI 30 + p).toNatClampNeg)) (nI 3).toNatClampNeg f) (nI 4).toNatClampNeg many) (nI 5).toNatClampNeg tide) ((Ms.s m i.toNatClampNeg) - (Ms.s m i.toNatClampNeg) / nI 8 * nI 8).toNatClampNeg) ≤ ((Ms.s m i.toNatClampNeg) / nI 32) then (nI 0) else (nI 1)))) (fun x19_0 => l_X12_clausesOf_96 m p f many tide n96 sum (top + nI 1) (i + nI 1) (upd tr top.toNatClampNeg (vp_nar .boolean x19_0)))))) := rfl
def m_X12_clausesOf (m : Ms) (p : Int32) (f : Int32) (many : Int32) (tide : Int32) : Int32 × Ms := l_X12_clausesOf_96 m p f many tide 1000 (nI 3) (nI 0) (nI 227 + (nI 140 * (Ms.s m (nI 23).toNatClampNeg))) (Ms.tr m)
set_option maxRecDepth 100000 in
set_option maxHeartbeats 4000000 in
theorem c_X12_clausesOf (l : Launch) {fv : Value} (hf : FV fv) (m : Ms) (p : Int32) (f : Int32) (many : Int32) (tide : Int32) (hp : vp_in p 6) (hh : hH m) (hs : hS m) : CT l fv 2 jX12_clausesOf [.ref 0, .int p, .int f, .int many, .int tide] (hMs m) (DP (some (.int (m_X12_clausesOf m p f many tide).1)) (hMs ((m_X12_clausesOf m p f many tide).2))) := by
  refine CT_of [96, 207, 245, 331, 370, 398] mt_X12_clausesOf (by decide +kernel) (tab_X12 hf) okX12_clausesOf (Nat.le_of_ble_eq_true rfl) ?_
  intro J hJ hD
  refine hJ 0 _ _ _ ?_
  refine And.intro (vp_in_nI (by decide) (by decide)) ?_
  refine And.intro (vp_ad 24 hp (by decide) (by decide)) ?_
  refine And.intro (vp_in_nI (by decide) (by decide)) ?_
  refine And.intro (vp_ad 30 hp (by decide) (by decide)) ?_
  refine And.intro (vp_in_nI (by decide) (by decide)) ?_
  refine And.intro (vp_in_nI (by decide) (by decide)) ?_
  refine And.intro (vp_in_nI (by decide) (by decide)) ?_
  refine And.intro (vp_in_nI (by decide) (by decide)) ?_
  refine CALL_same (r := some (.int (m_X12_tellsOf (Ms.s m) (nI 222) (nI 0)))) (h1 := wMs (Ms.th m) (Ms.s m) (Ms.im m) (Ms.fr m) (Ms.hi m) (Ms.ac m) (Ms.sp m) (Ms.en m) (Ms.wr m) (Ms.op m) (upd (upd (upd (upd (upd (upd (Ms.bb m) (nI 0).toNatClampNeg p) (nI 1).toNatClampNeg (Ms.s m (nI 24 + p).toNatClampNeg)) (nI 2).toNatClampNeg (Ms.s m (nI 30 + p).toNatClampNeg)) (nI 3).toNatClampNeg f) (nI 4).toNatClampNeg many) (nI 5).toNatClampNeg tide) (Ms.tr m) (Ms.su m) (Ms.lf m) (Ms.lk m) (Ms.nx m) (Ms.bo m) (Ms.ra m) (Ms.ki m) (Ms.nu m) (Ms.tv m)) (by decide) (c_X12_tellsOf l hf (Ms.th m, Ms.s m, Ms.im m, Ms.fr m, Ms.hi m, Ms.ac m, Ms.sp m, Ms.en m, Ms.wr m, Ms.op m, (upd (upd (upd (upd (upd (upd (Ms.bb m) (nI 0).toNatClampNeg p) (nI 1).toNatClampNeg (Ms.s m (nI 24 + p).toNatClampNeg)) (nI 2).toNatClampNeg (Ms.s m (nI 30 + p).toNatClampNeg)) (nI 3).toNatClampNeg f) (nI 4).toNatClampNeg many) (nI 5).toNatClampNeg tide), Ms.tr m, Ms.su m, Ms.lf m, Ms.lk m, Ms.nx m, Ms.bo m, Ms.ra m, Ms.ki m, Ms.nu m, Ms.tv m) (nI 222) (nI 0) (fun c => hH_ad hh 222 (by decide) c)) ?_
  refine And.intro (vp_in_nI (by decide) (by decide)) ?_
  have L96 : ∀ (n96 : Nat) (sum : Int32) (top : Int32) (i : Int32) (tr : Fn), (∃ (F n j : Nat) (dp : Nat → Nat), (nI 227 + (nI 140 * (Ms.s m (nI 23).toNatClampNeg))) = nI F ∧ m_X12_tellsOf (Ms.s m) (nI 222) (nI 0) = nI n ∧ F + n ≤ 927 ∧ RPs (fun j => Ms.s m (F + j)) n dp ∧ n96 + j = 1000 ∧ j ≤ n ∧ i = nI (F + j) ∧ top = nI (dp j)) → m_X12_clausesOf m p f many tide = l_X12_clausesOf_96 m p f many tide n96 sum top i tr → J 96 [(0, .ref 0), (5, .int sum), (6, .int (m_X12_tellsOf (Ms.s m) (nI 222) (nI 0))), (7, .int (nI 227 + (nI 140 * (Ms.s m (nI 23).toNatClampNeg)))), (8, .int top), (9, .int i)] [] (wMs (Ms.th m) (Ms.s m) (Ms.im m) (Ms.fr m) (Ms.hi m) (Ms.ac m) (Ms.sp m) (Ms.en m) (Ms.wr m) (Ms.op m) (upd (upd (upd (upd (upd (upd (Ms.bb m) (nI 0).toNatClampNeg p) (nI 1).toNatClampNeg (Ms.s m (nI 24 + p).toNatClampNeg)) (nI 2).toNatClampNeg (Ms.s m (nI 30 + p).toNatClampNeg)) (nI 3).toNatClampNeg f) (nI 4).toNatClampNeg many) (nI 5).toNatClampNeg tide) tr (Ms.su m) (Ms.lf m) (Ms.lk m) (Ms.nx m) (Ms.bo m) (Ms.ra m) (Ms.ki m) (Ms.nu m) (Ms.tv m)) := by
    intro n96
    induction n96 with
    | zero =>
      intro sum top i tr hv
      obtain ⟨F, n, j, dp, g1, g2, g3, g4, g5, g6, g7, g8⟩ := hv
      omega
    | succ n96 ih96 =>
      intro sum top i tr hv e96
      obtain ⟨F, n, j, dp, g1, g2, g3, g4, g5, g6, g7, g8⟩ := hv
      refine hJ 96 _ _ _ ?_
      refine And.intro (fun c1 => ?_) (fun c1 => ?_)
      · skip
        refine hJ 407 _ _ _ ?_
        exact And.intro True.intro (DPis (F := (fun z => hMs z)) (s' := (Ms.th m, Ms.s m, Ms.im m, Ms.fr m, Ms.hi m, Ms.ac m, Ms.sp m, Ms.en m, Ms.wr m, Ms.op m, (upd (upd (upd (upd (upd (upd (Ms.bb m) (nI 0).toNatClampNeg p) (nI 1).toNatClampNeg (Ms.s m (nI 24 + p).toNatClampNeg)) (nI 2).toNatClampNeg (Ms.s m (nI 30 + p).toNatClampNeg)) (nI 3).toNatClampNeg f) (nI 4).toNatClampNeg many) (nI 5).toNatClampNeg tide), tr, Ms.su m, Ms.lf m, Ms.lk m, Ms.nx m, Ms.bo m, Ms.ra m, Ms.ki m, Ms.nu m, Ms.tv m)) (e96.trans ((q_X12_clausesOf_96 m p f many tide n96 sum top i tr).trans (if_pos c1))))
      · skip
        have c0 : ¬ (nI 227 + (nI 140 * (Ms.s m (nI 23).toNatClampNeg))) + m_X12_tellsOf (Ms.s m) (nI 222) (nI 0) ≤ i := c1
        rw [g1, g2] at c0
        have hj := lt_of_cond g7 g3 g6 c0
        obtain ⟨ti, tt, t0, t1, t2, t3⟩ := RP_step g4 hj g3 g7 g8
        refine And.intro (ti) ?_
        refine And.intro (fun c2 => ?_) (fun c2 => ?_)
        · skip
          refine hJ 214 _ _ _ ?_
          refine And.intro (fun c3 => ?_) (fun c3 => ?_)
          · skip
            refine hJ 249 _ _ _ ?_
            refine And.intro (fun c4 => ?_) (fun c4 => ?_)
            · skip
              refine hJ 335 _ _ _ ?_
              refine And.intro (vp_in_nI (by decide) (by decide)) ?_
              have K5 : ∀ (x5_0 : Int32), (if (tr (nI 0).toNatClampNeg) = 0 then (nI 0) else (if (Ms.s m i.toNatClampNeg) ≤ (-nI 200) then (nI 0) else ((-nI 10) - (Ms.s m i.toNatClampNeg)))) = x5_0 → J 370 [(0, .ref 0), (6, .int (m_X12_tellsOf (Ms.s m) (nI 222) (nI 0))), (7, .int (nI 227 + (nI 140 * (Ms.s m (nI 23).toNatClampNeg)))), (8, .int (nI 0)), (9, .int i), (10, .int (Ms.s m i.toNatClampNeg)), (11, .int (tr (nI 0).toNatClampNeg))] [.int x5_0, .int sum] (wMs (Ms.th m) (Ms.s m) (Ms.im m) (Ms.fr m) (Ms.hi m) (Ms.ac m) (Ms.sp m) (Ms.en m) (Ms.wr m) (Ms.op m) (upd (upd (upd (upd (upd (upd (Ms.bb m) (nI 0).toNatClampNeg p) (nI 1).toNatClampNeg (Ms.s m (nI 24 + p).toNatClampNeg)) (nI 2).toNatClampNeg (Ms.s m (nI 30 + p).toNatClampNeg)) (nI 3).toNatClampNeg f) (nI 4).toNatClampNeg many) (nI 5).toNatClampNeg tide) tr (Ms.su m) (Ms.lf m) (Ms.lk m) (Ms.nx m) (Ms.bo m) (Ms.ra m) (Ms.ki m) (Ms.nu m) (Ms.tv m)) := by
                intro x5_0 ex5_0
                refine hJ 370 _ _ _ ?_
                have K6 : ∀ (x6_0 : Int32), (if (tr (nI 0).toNatClampNeg) = 0 then (nI 0) else (if (-nI 200) < (Ms.s m i.toNatClampNeg) then (nI 0) else ((-nI 200) - (Ms.s m i.toNatClampNeg)))) = x6_0 → J 398 [(0, .ref 0), (6, .int (m_X12_tellsOf (Ms.s m) (nI 222) (nI 0))), (7, .int (nI 227 + (nI 140 * (Ms.s m (nI 23).toNatClampNeg)))), (8, .int (nI 0)), (9, .int i)] [.int x6_0, .int (sum + x5_0)] (wMs (Ms.th m) (Ms.s m) (Ms.im m) (Ms.fr m) (Ms.hi m) (Ms.ac m) (Ms.sp m) (Ms.en m) (Ms.wr m) (Ms.op m) (upd (upd (upd (upd (upd (upd (Ms.bb m) (nI 0).toNatClampNeg p) (nI 1).toNatClampNeg (Ms.s m (nI 24 + p).toNatClampNeg)) (nI 2).toNatClampNeg (Ms.s m (nI 30 + p).toNatClampNeg)) (nI 3).toNatClampNeg f) (nI 4).toNatClampNeg many) (nI 5).toNatClampNeg tide) tr (Ms.su m) (Ms.lf m) (Ms.lk m) (Ms.nx m) (Ms.bo m) (Ms.ra m) (Ms.ki m) (Ms.nu m) (Ms.tv m)) := by
                  intro x6_0 ex6_0
                  refine hJ 398 _ _ _ ?_
                  exact hD _ _ [2, 1, 3, 4, 5, 0] _ _ (ih96 _ _ _ _ ⟨F, n, j + 1, dp, g1, g2, g3, g4, by omega, by omega, by rw [g7]; exact nI_add (F + j) 1, by first | with_reducible exact (t0 (by assumption)).2 | with_reducible exact (t1 (by assumption)).2 | with_reducible exact (t2 (by assumption) (by assumption) (by assumption)).2.2 | with_reducible exact t3 (by assumption)⟩ (e96.trans ((q_X12_clausesOf_96 m p f many tide n96 sum top i tr).trans ((if_neg c1).trans ((if_pos c2).trans ((if_neg c3).trans ((if_pos c4).trans ((bindv_eq ex5_0).trans (bindv_eq ex6_0)))))))))
                refine And.intro (fun c7 => ?_) (fun c7 => ?_)
                · skip
                  refine hJ 397 _ _ _ ?_
                  exact hD _ _ [1, 2, 3, 4, 5] _ _ (K6 _ (if_pos c7))
                · skip
                  refine And.intro (fun c8 => ?_) (fun c8 => ?_)
                  · skip
                    refine hJ 397 _ _ _ ?_
                    exact hD _ _ [1, 2, 3, 4, 5] _ _ (K6 _ ((if_neg c7).trans (if_pos c8)))
                  · skip
                    exact hD _ _ [1, 2, 3, 4, 5] _ _ (K6 _ ((if_neg c7).trans (if_neg c8)))
              refine And.intro (fun c9 => ?_) (fun c9 => ?_)
              · skip
                refine hJ 369 _ _ _ ?_
                exact hD _ _ [3, 5, 6, 1, 7, 2, 0] _ _ (K5 _ (if_pos c9))
              · skip
                refine And.intro (fun c10 => ?_) (fun c10 => ?_)
                · skip
                  refine hJ 369 _ _ _ ?_
                  exact hD _ _ [3, 5, 6, 1, 7, 2, 0] _ _ (K5 _ ((if_neg c9).trans (if_pos c10)))
                · skip
                  exact hD _ _ [3, 5, 6, 1, 7, 2, 0] _ _ (K5 _ ((if_neg c9).trans (if_neg c10)))
            · skip
              have K11 : ∀ (x11_0 : Int32), (if (Ms.s m i.toNatClampNeg) = (-nI 2) then (if (tr ((top + (-nI 1)) - nI 1).toNatClampNeg) = 0 then (nI 0) else (if (tr (top + (-nI 1)).toNatClampNeg) = 0 then (nI 0) else (nI 1))) else (if (tr ((top + (-nI 1)) - nI 1).toNatClampNeg) = 0 then (if (tr (top + (-nI 1)).toNatClampNeg) = 0 then (nI 0) else (nI 1)) else (nI 1))) = x11_0 → J 331 [(0, .ref 0), (5, .int sum), (6, .int (m_X12_tellsOf (Ms.s m) (nI 222) (nI 0))), (7, .int (nI 227 + (nI 140 * (Ms.s m (nI 23).toNatClampNeg)))), (8, .int (top + (-nI 1))), (9, .int i)] [.int x11_0, .int ((top + (-nI 1)) - nI 1), .ref 5] (wMs (Ms.th m) (Ms.s m) (Ms.im m) (Ms.fr m) (Ms.hi m) (Ms.ac m) (Ms.sp m) (Ms.en m) (Ms.wr m) (Ms.op m) (upd (upd (upd (upd (upd (upd (Ms.bb m) (nI 0).toNatClampNeg p) (nI 1).toNatClampNeg (Ms.s m (nI 24 + p).toNatClampNeg)) (nI 2).toNatClampNeg (Ms.s m (nI 30 + p).toNatClampNeg)) (nI 3).toNatClampNeg f) (nI 4).toNatClampNeg many) (nI 5).toNatClampNeg tide) tr (Ms.su m) (Ms.lf m) (Ms.lk m) (Ms.nx m) (Ms.bo m) (Ms.ra m) (Ms.ki m) (Ms.nu m) (Ms.tv m)) := by
                intro x11_0 ex11_0
                refine hJ 331 _ _ _ ?_
                refine And.intro ((t2 (by assumption) (by assumption) (by assumption)).2.1) ?_
                refine hJ 401 _ _ _ ?_
                exact hD _ _ [1, 2, 3, 4, 5, 0] _ _ (ih96 _ _ _ _ ⟨F, n, j + 1, dp, g1, g2, g3, g4, by omega, by omega, by rw [g7]; exact nI_add (F + j) 1, by first | with_reducible exact (t0 (by assumption)).2 | with_reducible exact (t1 (by assumption)).2 | with_reducible exact (t2 (by assumption) (by assumption) (by assumption)).2.2 | with_reducible exact t3 (by assumption)⟩ (e96.trans ((q_X12_clausesOf_96 m p f many tide n96 sum top i tr).trans ((if_neg c1).trans ((if_pos c2).trans ((if_neg c3).trans ((if_neg c4).trans (bindv_eq ex11_0))))))))
              refine And.intro (fun c12 => ?_) (fun c12 => ?_)
              · skip
                refine hJ 304 _ _ _ ?_
                refine And.intro ((t2 (by assumption) (by assumption) (by assumption)).2.1) ?_
                refine And.intro (fun c13 => ?_) (fun c13 => ?_)
                · skip
                  refine hJ 326 _ _ _ ?_
                  exact hD _ _ [2, 3, 4, 5, 0, 6] _ _ (K11 _ ((if_neg c12).trans (if_neg c13)))
                · skip
                  refine And.intro ((t2 (by assumption) (by assumption) (by assumption)).1) ?_
                  refine And.intro (fun c14 => ?_) (fun c14 => ?_)
                  · skip
                    refine hJ 330 _ _ _ ?_
                    exact hD _ _ [2, 3, 4, 5, 0, 6] _ _ (K11 _ ((if_neg c12).trans ((if_pos c13).trans (if_pos c14))))
                  · skip
                    exact hD _ _ [2, 3, 4, 5, 0, 6] _ _ (K11 _ ((if_neg c12).trans ((if_pos c13).trans (if_neg c14))))
              · skip
                refine And.intro ((t2 (by assumption) (by assumption) (by assumption)).2.1) ?_
                refine And.intro (fun c15 => ?_) (fun c15 => ?_)
                · skip
                  refine hJ 300 _ _ _ ?_
                  exact hD _ _ [2, 3, 4, 5, 0, 6] _ _ (K11 _ ((if_pos c12).trans (if_pos c15)))
                · skip
                  refine And.intro ((t2 (by assumption) (by assumption) (by assumption)).1) ?_
                  refine And.intro (fun c16 => ?_) (fun c16 => ?_)
                  · skip
                    refine hJ 300 _ _ _ ?_
                    exact hD _ _ [2, 3, 4, 5, 0, 6] _ _ (K11 _ ((if_pos c12).trans ((if_neg c15).trans (if_pos c16))))
                  · skip
                    exact hD _ _ [2, 3, 4, 5, 0, 6] _ _ (K11 _ ((if_pos c12).trans ((if_neg c15).trans (if_neg c16))))
          · skip
            refine And.intro ((t1 (by assumption)).1) ?_
            have K17 : ∀ (x17_0 : Int32), (if (tr (top - nI 1).toNatClampNeg) = 0 then (nI 1) else (nI 0)) = x17_0 → J 245 [(0, .ref 0), (5, .int sum), (6, .int (m_X12_tellsOf (Ms.s m) (nI 222) (nI 0))), (7, .int (nI 227 + (nI 140 * (Ms.s m (nI 23).toNatClampNeg)))), (8, .int top), (9, .int i)] [.int x17_0, .int (top - nI 1), .ref 5] (wMs (Ms.th m) (Ms.s m) (Ms.im m) (Ms.fr m) (Ms.hi m) (Ms.ac m) (Ms.sp m) (Ms.en m) (Ms.wr m) (Ms.op m) (upd (upd (upd (upd (upd (upd (Ms.bb m) (nI 0).toNatClampNeg p) (nI 1).toNatClampNeg (Ms.s m (nI 24 + p).toNatClampNeg)) (nI 2).toNatClampNeg (Ms.s m (nI 30 + p).toNatClampNeg)) (nI 3).toNatClampNeg f) (nI 4).toNatClampNeg many) (nI 5).toNatClampNeg tide) tr (Ms.su m) (Ms.lf m) (Ms.lk m) (Ms.nx m) (Ms.bo m) (Ms.ra m) (Ms.ki m) (Ms.nu m) (Ms.tv m)) := by
              intro x17_0 ex17_0
              refine hJ 245 _ _ _ ?_
              refine And.intro ((t1 (by assumption)).1) ?_
              refine hJ 401 _ _ _ ?_
              exact hD _ _ [1, 2, 3, 4, 5, 0] _ _ (ih96 _ _ _ _ ⟨F, n, j + 1, dp, g1, g2, g3, g4, by omega, by omega, by rw [g7]; exact nI_add (F + j) 1, by first | with_reducible exact (t0 (by assumption)).2 | with_reducible exact (t1 (by assumption)).2 | with_reducible exact (t2 (by assumption) (by assumption) (by assumption)).2.2 | with_reducible exact t3 (by assumption)⟩ (e96.trans ((q_X12_clausesOf_96 m p f many tide n96 sum top i tr).trans ((if_neg c1).trans ((if_pos c2).trans ((if_pos c3).trans (bindv_eq ex17_0)))))))
            refine And.intro (fun c18 => ?_) (fun c18 => ?_)
            · skip
              refine hJ 244 _ _ _ ?_
              exact hD _ _ [1, 2, 3, 4, 5, 6] _ _ (K17 _ (if_neg c18))
            · skip
              exact hD _ _ [1, 2, 3, 4, 5, 6] _ _ (K17 _ (if_pos c18))
        · skip
          refine And.intro (by decide) ?_
          refine And.intro ((t0 (by assumption)).1) ?_
          refine And.intro (by decide) ?_
          refine And.intro (by decide) ?_
          refine And.intro (by decide) ?_
          have K19 : ∀ (x19_0 : Int32), (if (((Ms.s m i.toNatClampNeg) / nI 8) - ((Ms.s m i.toNatClampNeg) / nI 8) / nI 4 * nI 4) = 0 then (if ((Ms.s m i.toNatClampNeg) / nI 32) ≤ ((upd (upd (upd (upd (upd (upd (Ms.bb m) (nI 0).toNatClampNeg p) (nI 1).toNatClampNeg (Ms.s m (nI 24 + p).toNatClampNeg)) (nI 2).toNatClampNeg (Ms.s m (nI 30 + p).toNatClampNeg)) (nI 3).toNatClampNeg f) (nI 4).toNatClampNeg many) (nI 5).toNatClampNeg tide) ((Ms.s m i.toNatClampNeg) - (Ms.s m i.toNatClampNeg) / nI 8 * nI 8).toNatClampNeg) then (nI 0) else (nI 1)) else (if (((Ms.s m i.toNatClampNeg) / nI 8) - ((Ms.s m i.toNatClampNeg) / nI 8) / nI 4 * nI 4) = nI 1 then (if ((upd (upd (upd (upd (upd (upd (Ms.bb m) (nI 0).toNatClampNeg p) (nI 1).toNatClampNeg (Ms.s m (nI 24 + p).toNatClampNeg)) (nI 2).toNatClampNeg (Ms.s m (nI 30 + p).toNatClampNeg)) (nI 3).toNatClampNeg f) (nI 4).toNatClampNeg many) (nI 5).toNatClampNeg tide) ((Ms.s m i.toNatClampNeg) - (Ms.s m i.toNatClampNeg) / nI 8 * nI 8).toNatClampNeg) = ((Ms.s m i.toNatClampNeg) / nI 32) then (nI 1) else (nI 0)) else (if ((upd (upd (upd (upd (upd (upd (Ms.bb m) (nI 0).toNatClampNeg p) (nI 1).toNatClampNeg (Ms.s m (nI 24 + p).toNatClampNeg)) (nI 2).toNatClampNeg (Ms.s m (nI 30 + p).toNatClampNeg)) (nI 3).toNatClampNeg f) (nI 4).toNatClampNeg many) (nI 5).toNatClampNeg tide) ((Ms.s m i.toNatClampNeg) - (Ms.s m i.toNatClampNeg) / nI 8 * nI 8).toNatClampNeg) ≤ ((Ms.s m i.toNatClampNeg) / nI 32) then (nI 0) else (nI 1)))) = x19_0 → J 207 [(0, .ref 0), (5, .int sum), (6, .int (m_X12_tellsOf (Ms.s m) (nI 222) (nI 0))), (7, .int (nI 227 + (nI 140 * (Ms.s m (nI 23).toNatClampNeg)))), (8, .int top), (9, .int i)] [.int x19_0, .int top, .ref 5] (wMs (Ms.th m) (Ms.s m) (Ms.im m) (Ms.fr m) (Ms.hi m) (Ms.ac m) (Ms.sp m) (Ms.en m) (Ms.wr m) (Ms.op m) (upd (upd (upd (upd (upd (upd (Ms.bb m) (nI 0).toNatClampNeg p) (nI 1).toNatClampNeg (Ms.s m (nI 24 + p).toNatClampNeg)) (nI 2).toNatClampNeg (Ms.s m (nI 30 + p).toNatClampNeg)) (nI 3).toNatClampNeg f) (nI 4).toNatClampNeg many) (nI 5).toNatClampNeg tide) tr (Ms.su m) (Ms.lf m) (Ms.lk m) (Ms.nx m) (Ms.bo m) (Ms.ra m) (Ms.ki m) (Ms.nu m) (Ms.tv m)) := by
            intro x19_0 ex19_0
            refine hJ 207 _ _ _ ?_
            refine And.intro (tt) ?_
            refine hJ 401 _ _ _ ?_
            exact hD _ _ [2, 3, 4, 5, 1, 0] _ _ (ih96 _ _ _ _ ⟨F, n, j + 1, dp, g1, g2, g3, g4, by omega, by omega, by rw [g7]; exact nI_add (F + j) 1, by first | with_reducible exact (t0 (by assumption)).2 | with_reducible exact (t1 (by assumption)).2 | with_reducible exact (t2 (by assumption) (by assumption) (by assumption)).2.2 | with_reducible exact t3 (by assumption)⟩ (e96.trans ((q_X12_clausesOf_96 m p f many tide n96 sum top i tr).trans ((if_neg c1).trans ((if_neg c2).trans (bindv_eq ex19_0))))))
          refine And.intro (fun c20 => ?_) (fun c20 => ?_)
          · skip
            refine hJ 174 _ _ _ ?_
            refine And.intro (fun c21 => ?_) (fun c21 => ?_)
            · skip
              refine hJ 195 _ _ _ ?_
              refine And.intro (fun c22 => ?_) (fun c22 => ?_)
              · skip
                refine hJ 206 _ _ _ ?_
                exact hD _ _ [4, 5, 6, 7, 8, 9] _ _ (K19 _ ((if_neg c20).trans ((if_neg c21).trans (if_pos c22))))
              · skip
                exact hD _ _ [4, 5, 6, 7, 8, 9] _ _ (K19 _ ((if_neg c20).trans ((if_neg c21).trans (if_neg c22))))
            · skip
              refine And.intro (fun c23 => ?_) (fun c23 => ?_)
              · skip
                refine hJ 191 _ _ _ ?_
                exact hD _ _ [4, 5, 6, 7, 8, 9] _ _ (K19 _ ((if_neg c20).trans ((if_pos c21).trans (if_neg c23))))
              · skip
                exact hD _ _ [4, 5, 6, 7, 8, 9] _ _ (K19 _ ((if_neg c20).trans ((if_pos c21).trans (if_pos c23))))
          · skip
            refine And.intro (fun c24 => ?_) (fun c24 => ?_)
            · skip
              refine hJ 170 _ _ _ ?_
              exact hD _ _ [4, 5, 6, 7, 8, 9] _ _ (K19 _ ((if_pos c20).trans (if_pos c24)))
            · skip
              exact hD _ _ [4, 5, 6, 7, 8, 9] _ _ (K19 _ ((if_pos c20).trans (if_neg c24)))
  exact hD _ _ [5, 4, 3, 2, 1, 0] _ _ (L96 1000 _ _ _ _ (by obtain ⟨F, n, dp, g1, g2, g3, g4, -⟩ := hs; exact ⟨F, n, 0, dp, g1, g2, g3, g4, rfl, Nat.zero_le _, g1, by rw [g4.1]⟩) (rfl))
end
section
/-! printed by wip/whole/gen/specs33.py: what the model tells of its urchins -/
theorem hU_lt {m : Ms} (hu : hU m) {k : Nat} {i : Int32} (hi : i = nI k) (hk : k ≤ 6) (c : ¬ Ms.s m (nI 17).toNatClampNeg ≤ i) : k < 6 := by
  obtain ⟨q, hq, e⟩ := hu
  rw [e, hi, nI_leI (by omega) (by omega)] at c
  omega
def l_X12_knownByAny_4 (zs : Fn) : Nat → Int32 → Int32 → Int32
  | 0, _, _ => 0
  | n4 + 1, a, p => if (zs (nI 17).toNatClampNeg) ≤ p then a else (bindv (if (zs (nI 7 + p).toNatClampNeg) = 0 then (zs (nI 1 + p).toNatClampNeg) else (nI 0)) (fun x2_0 => l_X12_knownByAny_4 zs n4 (a ||| x2_0) (p + nI 1)))
theorem q_X12_knownByAny_4 (zs : Fn) (n4 : Nat) (a : Int32) (p : Int32) : l_X12_knownByAny_4 zs (n4 + 1) a p = (if (zs (nI 17).toNatClampNeg) ≤ p then a else (bindv (if (zs (nI 7 + p).toNatClampNeg) = 0 then (zs (nI 1 + p).toNatClampNeg) else (nI 0)) (fun x2_0 => l_X12_knownByAny_4 zs n4 (a ||| x2_0) (p + nI 1)))) := rfl
def m_X12_knownByAny (zs : Fn) : Int32 := l_X12_knownByAny_4 zs 7 (nI 0) (nI 0)
set_option maxRecDepth 100000 in
set_option maxHeartbeats 4000000 in
theorem c_X12_knownByAny (l : Launch) {fv : Value} (hf : FV fv) (m : Ms) (hu : hU m) : CT l fv 2 jX12_knownByAny [.ref 0] (hMs m) (DP (some (.int (m_X12_knownByAny (Ms.s m)))) (hMs m)) := by
  refine CT_of [4, 40] mt_X12_knownByAny (by decide +kernel) (tab_X12 hf) okX12_knownByAny (Nat.le_of_ble_eq_true rfl) ?_
  intro J hJ hD
  refine hJ 0 _ _ _ ?_
  have L4 : ∀ (n4 : Nat) (a : Int32) (p : Int32), (∃ z9 : Nat, z9 ≤ 6 ∧ n4 + z9 = 7 ∧ p = nI z9) → m_X12_knownByAny (Ms.s m) = l_X12_knownByAny_4 (Ms.s m) n4 a p → J 4 [(0, .ref 0), (1, .int a), (2, .int p)] [] (hMs m) := by
    intro n4
    induction n4 with
    | zero =>
      intro a p hv
      obtain ⟨z9, h1, h2, h3⟩ := hv
      omega
    | succ n4 ih4 =>
      intro a p hv e4
      obtain ⟨z9, h1, h2, h3⟩ := hv
      refine hJ 4 _ _ _ ?_
      refine And.intro (vp_in_nI (by decide) (by decide)) ?_
      refine And.intro (fun c1 => ?_) (fun c1 => ?_)
      · skip
        refine hJ 48 _ _ _ ?_
        exact And.intro True.intro (DPi (e4.trans ((q_X12_knownByAny_4 (Ms.s m) n4 a p).trans (if_pos c1))))
      · skip
        have h4 := hU_lt hu h3 h1 c1
        have hp := vp_nI h3 h4 (by decide)
        refine And.intro (vp_ad 7 hp (by decide) (by decide)) ?_
        have K2 : ∀ (x2_0 : Int32), (if (Ms.s m (nI 7 + p).toNatClampNeg) = 0 then (Ms.s m (nI 1 + p).toNatClampNeg) else (nI 0)) = x2_0 → J 40 [(0, .ref 0), (2, .int p)] [.int x2_0, .int a] (hMs m) := by
          intro x2_0 ex2_0
          refine hJ 40 _ _ _ ?_
          exact hD _ _ [2, 1, 0] _ _ (ih4 _ _ ⟨z9 + 1, h4, by omega, by rw [h3]; exact nI_add z9 1⟩ (e4.trans ((q_X12_knownByAny_4 (Ms.s m) n4 a p).trans ((if_neg c1).trans (bindv_eq ex2_0)))))
        refine And.intro (fun c3 => ?_) (fun c3 => ?_)
        · skip
          refine hJ 39 _ _ _ ?_
          exact hD _ _ [0, 2] _ _ (K2 _ (if_neg c3))
        · skip
          refine And.intro (vp_ad 1 hp (by decide) (by decide)) ?_
          exact hD _ _ [0, 2] _ _ (K2 _ (if_pos c3))
  exact hD _ _ [2, 1, 0] _ _ (L4 7 _ _ ⟨0, by decide, by decide, rfl⟩ (rfl))
def l_X12_heldByAll_4 (zs : Fn) : Nat → Int32 → Int32 → Int32
  | 0, _, _ => 0
  | n4 + 1, a, p => if (zs (nI 17).toNatClampNeg) ≤ p then a else (bindv (if (zs (nI 7 + p).toNatClampNeg) = 0 then (m_X12_countOf (zs (nI 1 + p).toNatClampNeg)) else (nI 0)) (fun x2_0 => l_X12_heldByAll_4 zs n4 (a + x2_0) (p + nI 1)))
theorem q_X12_heldByAll_4 (zs : Fn) (n4 : Nat) (a : Int32) (p : Int32) : l_X12_heldByAll_4 zs (n4 + 1) a p = (if (zs (nI 17).toNatClampNeg) ≤ p then a else (bindv (if (zs (nI 7 + p).toNatClampNeg) = 0 then (m_X12_countOf (zs (nI 1 + p).toNatClampNeg)) else (nI 0)) (fun x2_0 => l_X12_heldByAll_4 zs n4 (a + x2_0) (p + nI 1)))) := rfl
def m_X12_heldByAll (zs : Fn) : Int32 := l_X12_heldByAll_4 zs 7 (nI 0) (nI 0)
set_option maxRecDepth 100000 in
set_option maxHeartbeats 4000000 in
theorem c_X12_heldByAll (l : Launch) {fv : Value} (hf : FV fv) (m : Ms) (hu : hU m) : CT l fv 2 jX12_heldByAll [.ref 0] (hMs m) (DP (some (.int (m_X12_heldByAll (Ms.s m)))) (hMs m)) := by
  refine CT_of [4, 43] mt_X12_heldByAll (by decide +kernel) (tab_X12 hf) okX12_heldByAll (Nat.le_of_ble_eq_true rfl) ?_
  intro J hJ hD
  refine hJ 0 _ _ _ ?_
  have L4 : ∀ (n4 : Nat) (a : Int32) (p : Int32), (∃ z9 : Nat, z9 ≤ 6 ∧ n4 + z9 = 7 ∧ p = nI z9) → m_X12_heldByAll (Ms.s m) = l_X12_heldByAll_4 (Ms.s m) n4 a p → J 4 [(0, .ref 0), (1, .int a), (2, .int p)] [] (hMs m) := by
    intro n4
    induction n4 with
    | zero =>
      intro a p hv
      obtain ⟨z9, h1, h2, h3⟩ := hv
      omega
    | succ n4 ih4 =>
      intro a p hv e4
      obtain ⟨z9, h1, h2, h3⟩ := hv
      refine hJ 4 _ _ _ ?_
      refine And.intro (vp_in_nI (by decide) (by decide)) ?_
      refine And.intro (fun c1 => ?_) (fun c1 => ?_)
      · skip
        refine hJ 51 _ _ _ ?_
        exact And.intro True.intro (DPi (e4.trans ((q_X12_heldByAll_4 (Ms.s m) n4 a p).trans (if_pos c1))))
      · skip
        have h4 := hU_lt hu h3 h1 c1
        have hp := vp_nI h3 h4 (by decide)
        refine And.intro (vp_ad 7 hp (by decide) (by decide)) ?_
        have K2 : ∀ (x2_0 : Int32), (if (Ms.s m (nI 7 + p).toNatClampNeg) = 0 then (m_X12_countOf (Ms.s m (nI 1 + p).toNatClampNeg)) else (nI 0)) = x2_0 → J 43 [(0, .ref 0), (2, .int p)] [.int x2_0, .int a] (hMs m) := by
          intro x2_0 ex2_0
          refine hJ 43 _ _ _ ?_
          exact hD _ _ [2, 1, 0] _ _ (ih4 _ _ ⟨z9 + 1, h4, by omega, by rw [h3]; exact nI_add z9 1⟩ (e4.trans ((q_X12_heldByAll_4 (Ms.s m) n4 a p).trans ((if_neg c1).trans (bindv_eq ex2_0)))))
        refine And.intro (fun c3 => ?_) (fun c3 => ?_)
        · skip
          refine hJ 42 _ _ _ ?_
          exact hD _ _ [0, 2] _ _ (K2 _ (if_neg c3))
        · skip
          refine And.intro (vp_ad 1 hp (by decide) (by decide)) ?_
          refine CALL_sub (h' := hMs m) [] (by decide) (c_X12_countOf l hf (Ms.s m (nI 1 + p).toNatClampNeg)) rfl rfl (by decide) (by decide) rfl ?_
          exact hD _ _ [0, 2] _ _ (K2 _ (if_pos c3))
  exact hD _ _ [2, 1, 0] _ _ (L4 7 _ _ ⟨0, by decide, by decide, rfl⟩ (rfl))
def l_X12_awayOnes_4 (zs : Fn) : Nat → Int32 → Int32 → Int32
  | 0, _, _ => 0
  | n4 + 1, a, p => if (zs (nI 17).toNatClampNeg) ≤ p then a else l_X12_awayOnes_4 zs n4 (a ||| ((zs (nI 7 + p).toNatClampNeg) <<< (p &&& 31))) (p + nI 1)
theorem q_X12_awayOnes_4 (zs : Fn) (n4 : Nat) (a : Int32) (p : Int32) : l_X12_awayOnes_4 zs (n4 + 1) a p = (if (zs (nI 17).toNatClampNeg) ≤ p then a else l_X12_awayOnes_4 zs n4 (a ||| ((zs (nI 7 + p).toNatClampNeg) <<< (p &&& 31))) (p + nI 1)) := rfl
def m_X12_awayOnes (zs : Fn) : Int32 := l_X12_awayOnes_4 zs 7 (nI 0) (nI 0)
set_option maxRecDepth 100000 in
set_option maxHeartbeats 4000000 in
theorem c_X12_awayOnes (l : Launch) {fv : Value} (hf : FV fv) (m : Ms) (hu : hU m) : CT l fv 2 jX12_awayOnes [.ref 0] (hMs m) (DP (some (.int (m_X12_awayOnes (Ms.s m)))) (hMs m)) := by
  refine CT_of [4] mt_X12_awayOnes (by decide +kernel) (tab_X12 hf) okX12_awayOnes (Nat.le_of_ble_eq_true rfl) ?_
  intro J hJ hD
  refine hJ 0 _ _ _ ?_
  have L4 : ∀ (n4 : Nat) (a : Int32) (p : Int32), (∃ z9 : Nat, z9 ≤ 6 ∧ n4 + z9 = 7 ∧ p = nI z9) → m_X12_awayOnes (Ms.s m) = l_X12_awayOnes_4 (Ms.s m) n4 a p → J 4 [(0, .ref 0), (1, .int a), (2, .int p)] [] (hMs m) := by
    intro n4
    induction n4 with
    | zero =>
      intro a p hv
      obtain ⟨z9, h1, h2, h3⟩ := hv
      omega
    | succ n4 ih4 =>
      intro a p hv e4
      obtain ⟨z9, h1, h2, h3⟩ := hv
      refine hJ 4 _ _ _ ?_
      refine And.intro (vp_in_nI (by decide) (by decide)) ?_
      refine And.intro (fun c1 => ?_) (fun c1 => ?_)
      · skip
        refine hJ 35 _ _ _ ?_
        exact And.intro True.intro (DPi (e4.trans ((q_X12_awayOnes_4 (Ms.s m) n4 a p).trans (if_pos c1))))
      · skip
        have h4 := hU_lt hu h3 h1 c1
        have hp := vp_nI h3 h4 (by decide)
        refine And.intro (vp_ad 7 hp (by decide) (by decide)) ?_
        exact hD _ _ [2, 1, 0] _ _ (ih4 _ _ ⟨z9 + 1, h4, by omega, by rw [h3]; exact nI_add z9 1⟩ (e4.trans ((q_X12_awayOnes_4 (Ms.s m) n4 a p).trans (if_neg c1))))
  exact hD _ _ [2, 1, 0] _ _ (L4 7 _ _ ⟨0, by decide, by decide, rfl⟩ (rfl))
def l_X12_knownBy_4 (zs : Fn) (b : Int32) : Nat → Int32 → Int32 → Int32
  | 0, _, _ => 0
  | n4 + 1, a, p => if (zs (nI 17).toNatClampNeg) ≤ p then a else (bindv (if ((b >>> (p &&& 31)) &&& nI 1) = nI 1 then (zs (nI 1 + p).toNatClampNeg) else (nI 0)) (fun x2_0 => l_X12_knownBy_4 zs b n4 (a ||| x2_0) (p + nI 1)))
theorem q_X12_knownBy_4 (zs : Fn) (b : Int32) (n4 : Nat) (a : Int32) (p : Int32) : l_X12_knownBy_4 zs b (n4 + 1) a p = (if (zs (nI 17).toNatClampNeg) ≤ p then a else (bindv (if ((b >>> (p &&& 31)) &&& nI 1) = nI 1 then (zs (nI 1 + p).toNatClampNeg) else (nI 0)) (fun x2_0 => l_X12_knownBy_4 zs b n4 (a ||| x2_0) (p + nI 1)))) := rfl
def m_X12_knownBy (zs : Fn) (b : Int32) : Int32 := l_X12_knownBy_4 zs b 7 (nI 0) (nI 0)
set_option maxRecDepth 100000 in
set_option maxHeartbeats 4000000 in
theorem c_X12_knownBy (l : Launch) {fv : Value} (hf : FV fv) (m : Ms) (b : Int32) (hu : hU m) : CT l fv 2 jX12_knownBy [.ref 0, .int b] (hMs m) (DP (some (.int (m_X12_knownBy (Ms.s m) b))) (hMs m)) := by
  refine CT_of [4, 37] mt_X12_knownBy (by decide +kernel) (tab_X12 hf) okX12_knownBy (Nat.le_of_ble_eq_true rfl) ?_
  intro J hJ hD
  refine hJ 0 _ _ _ ?_
  have L4 : ∀ (n4 : Nat) (a : Int32) (p : Int32), (∃ z9 : Nat, z9 ≤ 6 ∧ n4 + z9 = 7 ∧ p = nI z9) → m_X12_knownBy (Ms.s m) b = l_X12_knownBy_4 (Ms.s m) b n4 a p → J 4 [(0, .ref 0), (1, .int b), (2, .int a), (3, .int p)] [] (hMs m) := by
    intro n4
    induction n4 with
    | zero =>
      intro a p hv
      obtain ⟨z9, h1, h2, h3⟩ := hv
      omega
    | succ n4 ih4 =>
      intro a p hv e4
      obtain ⟨z9, h1, h2, h3⟩ := hv
      refine hJ 4 _ _ _ ?_
      refine And.intro (vp_in_nI (by decide) (by decide)) ?_
      refine And.intro (fun c1 => ?_) (fun c1 => ?_)
      · skip
        refine hJ 45 _ _ _ ?_
        exact And.intro True.intro (DPi (e4.trans ((q_X12_knownBy_4 (Ms.s m) b n4 a p).trans (if_pos c1))))
      · skip
        have h4 := hU_lt hu h3 h1 c1
        have hp := vp_nI h3 h4 (by decide)
        have K2 : ∀ (x2_0 : Int32), (if ((b >>> (p &&& 31)) &&& nI 1) = nI 1 then (Ms.s m (nI 1 + p).toNatClampNeg) else (nI 0)) = x2_0 → J 37 [(0, .ref 0), (1, .int b), (3, .int p)] [.int x2_0, .int a] (hMs m) := by
          intro x2_0 ex2_0
          refine hJ 37 _ _ _ ?_
          exact hD _ _ [2, 3, 1, 0] _ _ (ih4 _ _ ⟨z9 + 1, h4, by omega, by rw [h3]; exact nI_add z9 1⟩ (e4.trans ((q_X12_knownBy_4 (Ms.s m) b n4 a p).trans ((if_neg c1).trans (bindv_eq ex2_0)))))
        refine And.intro (fun c3 => ?_) (fun c3 => ?_)
        · skip
          refine hJ 36 _ _ _ ?_
          exact hD _ _ [0, 1, 3] _ _ (K2 _ (if_neg c3))
        · skip
          refine And.intro (vp_ad 1 hp (by decide) (by decide)) ?_
          exact hD _ _ [0, 1, 3] _ _ (K2 _ (if_pos c3))
  exact hD _ _ [2, 3, 1, 0] _ _ (L4 7 _ _ ⟨0, by decide, by decide, rfl⟩ (rfl))
theorem vp_sums {s0 p f c : Int32} (ht : rl 1000000 s0) (hp : vp_in p 6) (hq : vp_in f 8) (hc : rl 8 c) : vp_in ((nI 9 * ((nI 8 * ((nI 6 * (s0 - s0 / nI 10 * nI 10)) + p)) + f)) + c) 4320 := by
  obtain ⟨t, h1, rfl⟩ := ht
  obtain ⟨a, h2, rfl⟩ := vp_in_of hp (by decide)
  obtain ⟨b, h3, rfl⟩ := vp_in_of hq (by decide)
  obtain ⟨d, h4, rfl⟩ := hc
  rw [pk_rem (by omega) (by decide) (by decide), pk_mul, nI_add, pk_mul, nI_add, pk_mul, nI_add]
  have := Nat.mod_lt t (show 0 < 10 by decide)
  exact vp_in_nI (by omega) (by decide)
theorem vp_row {p f : Int32} (hp : vp_in p 6) (hq : vp_in f 8) : vp_in ((nI 36 + (nI 4 * p)) + (f - f / nI 4 * nI 4)) 927 := by
  obtain ⟨a, h2, rfl⟩ := vp_in_of hp (by decide)
  obtain ⟨b, h3, rfl⟩ := vp_in_of hq (by decide)
  rw [pk_rem (by omega) (by decide) (by decide), pk_mul, nI_add, nI_add]
  have := Nat.mod_lt b (show 0 < 4 by decide)
  exact vp_in_nI (by omega) (by decide)
/-- the same but for what is kept of sums -/
def Cq (m m' : Ms) : Prop := Ms.s m' = Ms.s m ∧ Ms.im m' = Ms.im m ∧ Ms.fr m' = Ms.fr m ∧ Ms.hi m' = Ms.hi m ∧ Ms.lk m' = Ms.lk m ∧ Ms.nx m' = Ms.nx m ∧ Ms.bo m' = Ms.bo m ∧ Ms.ra m' = Ms.ra m
theorem Cq.rf (m : Ms) : Cq m m := ⟨rfl, rfl, rfl, rfl, rfl, rfl, rfl, rfl⟩
theorem Cq.tr {a b c : Ms} (h : Cq a b) (g : Cq b c) : Cq a c := by
  obtain ⟨h1, h2, h3, h4, h5, h6, h7, h8⟩ := h
  obtain ⟨g1, g2, g3, g4, g5, g6, g7, g8⟩ := g
  exact ⟨g1.trans h1, g2.trans h2, g3.trans h3, g4.trans h4, g5.trans h5, g6.trans h6, g7.trans h7, g8.trans h8⟩
theorem cq_l (m : Ms) (p f many tide : Int32) : ∀ (n : Nat) (sum top i : Int32) (tr : Fn), Cq m (l_X12_clausesOf_96 m p f many tide n sum top i tr).2 := by
  intro n
  induction n with
  | zero => intro sum top i tr; exact Cq.rf m
  | succ n ih =>
    intro sum top i tr
    rw [q_X12_clausesOf_96]
    simp only [bindv]
    (repeat' split) <;> first | exact ih _ _ _ _ | exact Cq.rf m
theorem cq_clausesOf (m : Ms) (p f many tide : Int32) : Cq m (m_X12_clausesOf m p f many tide).2 := cq_l m p f many tide _ _ _ _ _
theorem hU.cq {m m' : Ms} (h : hU m) (q : Cq m m') : hU m' := by unfold hU at *; rw [q.1]; exact h
theorem hT.cq {m m' : Ms} (h : hT m) (q : Cq m m') : hT m' := by unfold hT at *; rw [q.1]; exact h
theorem hH.cq {m m' : Ms} (h : hH m) (q : Cq m m') : hH m' := by unfold hH at *; rw [q.1]; exact h
theorem hS.cq {m m' : Ms} (h : hS m) (q : Cq m m') : hS m' := by unfold hS at *; rw [q.1]; exact h
def m_X12_sumOf (m : Ms) (p : Int32) (f : Int32) : Int32 × Ms := bindv (if (Ms.lf m ((nI 9 * ((nI 8 * ((nI 6 * ((Ms.s m (nI 0).toNatClampNeg) - (Ms.s m (nI 0).toNatClampNeg) / nI 10 * nI 10)) + p)) + f)) + (m_X12_countOf (Ms.s m (nI 1 + p).toNatClampNeg))).toNatClampNeg) = Ms.lk m then m else (bindv (m_X12_clausesOf (Ms.th m, Ms.s m, Ms.im m, Ms.fr m, Ms.hi m, Ms.ac m, Ms.sp m, Ms.en m, Ms.wr m, Ms.op m, Ms.bb m, Ms.tr m, Ms.su m, (upd (Ms.lf m) ((nI 9 * ((nI 8 * ((nI 6 * ((Ms.s m (nI 0).toNatClampNeg) - (Ms.s m (nI 0).toNatClampNeg) / nI 10 * nI 10)) + p)) + f)) + (m_X12_countOf (Ms.s m (nI 1 + p).toNatClampNeg))).toNatClampNeg (Ms.lk m)), Ms.lk m, Ms.nx m, Ms.bo m, Ms.ra m, Ms.ki m, Ms.nu m, Ms.tv m) p f (m_X12_countOf (Ms.s m (nI 1 + p).toNatClampNeg)) ((Ms.s m (nI 0).toNatClampNeg) - (Ms.s m (nI 0).toNatClampNeg) / nI 10 * nI 10)) (fun r2 => (Ms.th r2.2, Ms.s r2.2, Ms.im r2.2, Ms.fr r2.2, Ms.hi r2.2, Ms.ac r2.2, Ms.sp r2.2, Ms.en r2.2, Ms.wr r2.2, Ms.op r2.2, Ms.bb r2.2, Ms.tr r2.2, (upd (Ms.su r2.2) ((nI 9 * ((nI 8 * ((nI 6 * ((Ms.s m (nI 0).toNatClampNeg) - (Ms.s m (nI 0).toNatClampNeg) / nI 10 * nI 10)) + p)) + f)) + (m_X12_countOf (Ms.s m (nI 1 + p).toNatClampNeg))).toNatClampNeg r2.1), Ms.lf r2.2, Ms.lk r2.2, Ms.nx r2.2, Ms.bo r2.2, Ms.ra r2.2, Ms.ki r2.2, Ms.nu r2.2, Ms.tv r2.2)))) (fun x1_0 => ((Ms.su x1_0 ((nI 9 * ((nI 8 * ((nI 6 * ((Ms.s m (nI 0).toNatClampNeg) - (Ms.s m (nI 0).toNatClampNeg) / nI 10 * nI 10)) + p)) + f)) + (m_X12_countOf (Ms.s m (nI 1 + p).toNatClampNeg))).toNatClampNeg), x1_0))
set_option maxRecDepth 100000 in
set_option maxHeartbeats 4000000 in
theorem c_X12_sumOf (l : Launch) {fv : Value} (hf : FV fv) (m : Ms) (p : Int32) (f : Int32) (hp : vp_in p 6) (hq : vp_in f 8) (ht : hT m) (hh : hH m) (hs : hS m) : CT l fv 3 jX12_sumOf [.ref 0, .int p, .int f] (hMs m) (DP (some (.int (m_X12_sumOf m p f).1)) (hMs ((m_X12_sumOf m p f).2))) := by
  refine CT_of [83] mt_X12_sumOf (by decide +kernel) (tab_X12 hf) okX12_sumOf (Nat.le_of_ble_eq_true rfl) ?_
  intro J hJ hD
  refine hJ 0 _ _ _ ?_
  refine And.intro (vp_ad 1 hp (by decide) (by decide)) ?_
  refine CALL_sub (h' := hMs m) [] (by decide) (c_X12_countOf l hf (Ms.s m (nI 1 + p).toNatClampNeg)) rfl rfl (by decide) (by decide) rfl ?_
  refine And.intro (vp_in_nI (by decide) (by decide)) ?_
  refine And.intro (by decide) ?_
  refine And.intro (vp_sums ht hp hq (rl_count _)) ?_
  have K1 : ∀ (x1_0 : Ms), (if (Ms.lf m ((nI 9 * ((nI 8 * ((nI 6 * ((Ms.s m (nI 0).toNatClampNeg) - (Ms.s m (nI 0).toNatClampNeg) / nI 10 * nI 10)) + p)) + f)) + (m_X12_countOf (Ms.s m (nI 1 + p).toNatClampNeg))).toNatClampNeg) = Ms.lk m then m else (bindv (m_X12_clausesOf (Ms.th m, Ms.s m, Ms.im m, Ms.fr m, Ms.hi m, Ms.ac m, Ms.sp m, Ms.en m, Ms.wr m, Ms.op m, Ms.bb m, Ms.tr m, Ms.su m, (upd (Ms.lf m) ((nI 9 * ((nI 8 * ((nI 6 * ((Ms.s m (nI 0).toNatClampNeg) - (Ms.s m (nI 0).toNatClampNeg) / nI 10 * nI 10)) + p)) + f)) + (m_X12_countOf (Ms.s m (nI 1 + p).toNatClampNeg))).toNatClampNeg (Ms.lk m)), Ms.lk m, Ms.nx m, Ms.bo m, Ms.ra m, Ms.ki m, Ms.nu m, Ms.tv m) p f (m_X12_countOf (Ms.s m (nI 1 + p).toNatClampNeg)) ((Ms.s m (nI 0).toNatClampNeg) - (Ms.s m (nI 0).toNatClampNeg) / nI 10 * nI 10)) (fun r2 => (Ms.th r2.2, Ms.s r2.2, Ms.im r2.2, Ms.fr r2.2, Ms.hi r2.2, Ms.ac r2.2, Ms.sp r2.2, Ms.en r2.2, Ms.wr r2.2, Ms.op r2.2, Ms.bb r2.2, Ms.tr r2.2, (upd (Ms.su r2.2) ((nI 9 * ((nI 8 * ((nI 6 * ((Ms.s m (nI 0).toNatClampNeg) - (Ms.s m (nI 0).toNatClampNeg) / nI 10 * nI 10)) + p)) + f)) + (m_X12_countOf (Ms.s m (nI 1 + p).toNatClampNeg))).toNatClampNeg r2.1), Ms.lf r2.2, Ms.lk r2.2, Ms.nx r2.2, Ms.bo r2.2, Ms.ra r2.2, Ms.ki r2.2, Ms.nu r2.2, Ms.tv r2.2)))) = x1_0 → J 83 [(0, .ref 0), (5, .int ((nI 9 * ((nI 8 * ((nI 6 * ((Ms.s m (nI 0).toNatClampNeg) - (Ms.s m (nI 0).toNatClampNeg) / nI 10 * nI 10)) + p)) + f)) + (m_X12_countOf (Ms.s m (nI 1 + p).toNatClampNeg))))] [] (hMs x1_0) := by
    intro x1_0 ex1_0
    refine hJ 83 _ _ _ ?_
    refine And.intro (vp_sums ht hp hq (rl_count _)) ?_
    exact And.intro True.intro (DPis (F := (fun z => hMs z)) (s' := x1_0) (bindv_eq ex1_0))
  refine And.intro (fun c2 => ?_) (fun c2 => ?_)
  · skip
    exact hD _ _ [3, 0] _ _ (K1 _ (if_pos c2))
  · skip
    refine And.intro (vp_sums ht hp hq (rl_count _)) ?_
    obtain ⟨r3, er3⟩ : ∃ z : Int32 × Ms, m_X12_clausesOf (Ms.th m, Ms.s m, Ms.im m, Ms.fr m, Ms.hi m, Ms.ac m, Ms.sp m, Ms.en m, Ms.wr m, Ms.op m, Ms.bb m, Ms.tr m, Ms.su m, (upd (Ms.lf m) ((nI 9 * ((nI 8 * ((nI 6 * ((Ms.s m (nI 0).toNatClampNeg) - (Ms.s m (nI 0).toNatClampNeg) / nI 10 * nI 10)) + p)) + f)) + (m_X12_countOf (Ms.s m (nI 1 + p).toNatClampNeg))).toNatClampNeg (Ms.lk m)), Ms.lk m, Ms.nx m, Ms.bo m, Ms.ra m, Ms.ki m, Ms.nu m, Ms.tv m) p f (m_X12_countOf (Ms.s m (nI 1 + p).toNatClampNeg)) ((Ms.s m (nI 0).toNatClampNeg) - (Ms.s m (nI 0).toNatClampNeg) / nI 10 * nI 10) = z := ⟨_, rfl⟩
    have hr3 := c_X12_clausesOf l hf (Ms.th m, Ms.s m, Ms.im m, Ms.fr m, Ms.hi m, Ms.ac m, Ms.sp m, Ms.en m, Ms.wr m, Ms.op m, Ms.bb m, Ms.tr m, Ms.su m, (upd (Ms.lf m) ((nI 9 * ((nI 8 * ((nI 6 * ((Ms.s m (nI 0).toNatClampNeg) - (Ms.s m (nI 0).toNatClampNeg) / nI 10 * nI 10)) + p)) + f)) + (m_X12_countOf (Ms.s m (nI 1 + p).toNatClampNeg))).toNatClampNeg (Ms.lk m)), Ms.lk m, Ms.nx m, Ms.bo m, Ms.ra m, Ms.ki m, Ms.nu m, Ms.tv m) p f (m_X12_countOf (Ms.s m (nI 1 + p).toNatClampNeg)) ((Ms.s m (nI 0).toNatClampNeg) - (Ms.s m (nI 0).toNatClampNeg) / nI 10 * nI 10) hp hh hs
    rw [er3] at hr3
    refine CALL_same (r := some (.int r3.1)) (h1 := hMs r3.2) (by decide) (hr3) ?_
    refine And.intro (vp_sums ht hp hq (rl_count _)) ?_
    exact hD _ _ [3, 0] _ _ (K1 _ ((if_neg c2).trans (bindv_eq er3)))
theorem cq_sumOf (m : Ms) (p f : Int32) : Cq m (m_X12_sumOf m p f).2 := by
  unfold m_X12_sumOf bindv
  split
  · exact Cq.rf m
  · have h := cq_clausesOf (Ms.th m, Ms.s m, Ms.im m, Ms.fr m, Ms.hi m, Ms.ac m, Ms.sp m, Ms.en m, Ms.wr m, Ms.op m, Ms.bb m, Ms.tr m, Ms.su m, (upd (Ms.lf m) ((nI 9 * ((nI 8 * ((nI 6 * ((Ms.s m (nI 0).toNatClampNeg) - (Ms.s m (nI 0).toNatClampNeg) / nI 10 * nI 10)) + p)) + f)) + (m_X12_countOf (Ms.s m (nI 1 + p).toNatClampNeg))).toNatClampNeg (Ms.lk m)), Ms.lk m, Ms.nx m, Ms.bo m, Ms.ra m, Ms.ki m, Ms.nu m, Ms.tv m) p f (m_X12_countOf (Ms.s m (nI 1 + p).toNatClampNeg)) ((Ms.s m (nI 0).toNatClampNeg) - (Ms.s m (nI 0).toNatClampNeg) / nI 10 * nI 10)
    exact ⟨h.1, h.2.1, h.2.2.1, h.2.2.2.1, h.2.2.2.2.1, h.2.2.2.2.2.1, h.2.2.2.2.2.2.1, h.2.2.2.2.2.2.2⟩
theorem cq_bind {α : Type} {m : Ms} {a : α} {f : α → Int32 × Ms} (h : ∀ x, Cq m (f x).2) : Cq m (bindv a f).2 := h a
def m_X12_heedOf (m : Ms) (p : Int32) (f : Int32) : Int32 × Ms := bindv (m_X12_sumOf m p f) (fun r1 => if (Ms.s r1.2 (nI 24 + p).toNatClampNeg) = nI 1 then ((r1.1 + (Ms.s r1.2 (nI 30 + p).toNatClampNeg)), r1.2) else (if (Ms.s r1.2 (nI 24 + p).toNatClampNeg) = nI 2 then ((r1.1 / nI 2), r1.2) else (if (Ms.s r1.2 (nI 24 + p).toNatClampNeg) = nI 3 then ((r1.1 - (m_X12_countOf (Ms.s r1.2 (nI 1 + p).toNatClampNeg))), r1.2) else (if (Ms.s r1.2 (nI 24 + p).toNatClampNeg) = nI 4 then (bindv (if (((Ms.s r1.2 (nI 1 + p).toNatClampNeg) >>> (f &&& 31)) &&& nI 1) = nI 1 then (nI 2) else (nI 1)) (fun x9_0 => (((r1.1 + (Ms.s r1.2 (nI 30 + p).toNatClampNeg)) * x9_0), r1.2))) else (if (Ms.s r1.2 (nI 24 + p).toNatClampNeg) = nI 5 then (((r1.1 / nI 2) + (Ms.s r1.2 (nI 30 + p).toNatClampNeg)), r1.2) else (if (Ms.s r1.2 (nI 24 + p).toNatClampNeg) = nI 6 then ((((r1.1 - (m_X12_countOf (Ms.s r1.2 (nI 1 + p).toNatClampNeg))) + (Ms.s r1.2 ((nI 36 + (nI 4 * p)) + (f - f / nI 4 * nI 4)).toNatClampNeg)) - nI 4), r1.2) else (r1.1, r1.2)))))))
set_option maxRecDepth 100000 in
set_option maxHeartbeats 4000000 in
theorem c_X12_heedOf (l : Launch) {fv : Value} (hf : FV fv) (m : Ms) (p : Int32) (f : Int32) (hp : vp_in p 6) (hq : vp_in f 8) (ht : hT m) (hh : hH m) (hs : hS m) : CT l fv 4 jX12_heedOf [.ref 0, .int p, .int f] (hMs m) (DP (some (.int (m_X12_heedOf m p f).1)) (hMs ((m_X12_heedOf m p f).2))) := by
  refine CT_of [119] mt_X12_heedOf (by decide +kernel) (tab_X12 hf) okX12_heedOf (Nat.le_of_ble_eq_true rfl) ?_
  intro J hJ hD
  refine hJ 0 _ _ _ ?_
  obtain ⟨r1, er1⟩ : ∃ z : Int32 × Ms, m_X12_sumOf m p f = z := ⟨_, rfl⟩
  have hr1 := c_X12_sumOf l hf m p f hp hq ht hh hs
  rw [er1] at hr1
  refine CALL_same (r := some (.int r1.1)) (h1 := hMs r1.2) (by decide) (hr1) ?_
  refine And.intro (vp_ad 1 hp (by decide) (by decide)) ?_
  refine CALL_sub (h' := hMs r1.2) [] (by decide) (c_X12_countOf l hf (Ms.s r1.2 (nI 1 + p).toNatClampNeg)) rfl rfl (by decide) (by decide) rfl ?_
  refine And.intro (vp_ad 24 hp (by decide) (by decide)) ?_
  refine And.intro (fun c2 => ?_) (And.intro (by decide) (And.intro (fun c3 => ?_) (And.intro (fun c4 => ?_) (And.intro (fun c5 => ?_) (And.intro (fun c6 => ?_) (And.intro (fun c7 => ?_) (And.intro (fun c8 => ?_) (True.intro))))))))
  · skip
    refine hJ 156 _ _ _ ?_
    exact And.intro True.intro (DPis (F := (fun z => hMs z)) (s' := r1.2) ((bindv_eq er1).trans ((if_neg (sw_ne 1 c2 (by decide) (by decide) (by decide))).trans ((if_neg (sw_ne 2 c2 (by decide) (by decide) (by decide))).trans ((if_neg (sw_ne 3 c2 (by decide) (by decide) (by decide))).trans ((if_neg (sw_ne 4 c2 (by decide) (by decide) (by decide))).trans ((if_neg (sw_ne 5 c2 (by decide) (by decide) (by decide))).trans (if_neg (sw_ne 6 c2 (by decide) (by decide) (by decide))))))))))
  · skip
    refine hJ 68 _ _ _ ?_
    refine And.intro (vp_ad 30 hp (by decide) (by decide)) ?_
    exact And.intro True.intro (DPis (F := (fun z => hMs z)) (s' := r1.2) ((bindv_eq er1).trans (if_pos (sw_eq 1 c3 rfl (by decide)))))
  · skip
    refine hJ 80 _ _ _ ?_
    refine And.intro (by decide) ?_
    exact And.intro True.intro (DPis (F := (fun z => hMs z)) (s' := r1.2) ((bindv_eq er1).trans ((if_neg (sw_ot 1 c4 (by decide) (by decide))).trans (if_pos (sw_eq 2 c4 rfl (by decide))))))
  · skip
    refine hJ 84 _ _ _ ?_
    exact And.intro True.intro (DPis (F := (fun z => hMs z)) (s' := r1.2) ((bindv_eq er1).trans ((if_neg (sw_ot 1 c5 (by decide) (by decide))).trans ((if_neg (sw_ot 2 c5 (by decide) (by decide))).trans (if_pos (sw_eq 3 c5 rfl (by decide)))))))
  · skip
    refine hJ 87 _ _ _ ?_
    refine And.intro (vp_ad 30 hp (by decide) (by decide)) ?_
    refine And.intro (vp_ad 1 hp (by decide) (by decide)) ?_
    have K9 : ∀ (x9_0 : Int32), (if (((Ms.s r1.2 (nI 1 + p).toNatClampNeg) >>> (f &&& 31)) &&& nI 1) = nI 1 then (nI 2) else (nI 1)) = x9_0 → J 119 [] [.int x9_0, .int (r1.1 + (Ms.s r1.2 (nI 30 + p).toNatClampNeg))] (hMs r1.2) := by
      intro x9_0 ex9_0
      refine hJ 119 _ _ _ ?_
      exact And.intro True.intro (DPis (F := (fun z => hMs z)) (s' := r1.2) ((bindv_eq er1).trans ((if_neg (sw_ot 1 c6 (by decide) (by decide))).trans ((if_neg (sw_ot 2 c6 (by decide) (by decide))).trans ((if_neg (sw_ot 3 c6 (by decide) (by decide))).trans ((if_pos (sw_eq 4 c6 rfl (by decide))).trans (bindv_eq ex9_0)))))))
    refine And.intro (fun c10 => ?_) (fun c10 => ?_)
    · skip
      refine hJ 118 _ _ _ ?_
      exact hD _ _ [] _ _ (K9 _ (if_neg c10))
    · skip
      exact hD _ _ [] _ _ (K9 _ (if_pos c10))
  · skip
    refine hJ 121 _ _ _ ?_
    refine And.intro (by decide) ?_
    refine And.intro (vp_ad 30 hp (by decide) (by decide)) ?_
    exact And.intro True.intro (DPis (F := (fun z => hMs z)) (s' := r1.2) ((bindv_eq er1).trans ((if_neg (sw_ot 1 c7 (by decide) (by decide))).trans ((if_neg (sw_ot 2 c7 (by decide) (by decide))).trans ((if_neg (sw_ot 3 c7 (by decide) (by decide))).trans ((if_neg (sw_ot 4 c7 (by decide) (by decide))).trans (if_pos (sw_eq 5 c7 rfl (by decide)))))))))
  · skip
    refine hJ 135 _ _ _ ?_
    refine And.intro (by decide) ?_
    refine And.intro (vp_row hp hq) ?_
    exact And.intro True.intro (DPis (F := (fun z => hMs z)) (s' := r1.2) ((bindv_eq er1).trans ((if_neg (sw_ot 1 c8 (by decide) (by decide))).trans ((if_neg (sw_ot 2 c8 (by decide) (by decide))).trans ((if_neg (sw_ot 3 c8 (by decide) (by decide))).trans ((if_neg (sw_ot 4 c8 (by decide) (by decide))).trans ((if_neg (sw_ot 5 c8 (by decide) (by decide))).trans (if_pos (sw_eq 6 c8 rfl (by decide))))))))))
theorem cq_heedOf (m : Ms) (p f : Int32) : Cq m (m_X12_heedOf m p f).2 := by
  unfold m_X12_heedOf
  simp only [bindv]
  (repeat' split) <;> exact cq_sumOf m p f
theorem hp_m1 {p : Int32} (hp : vp_in p 6) (c : ¬ p ≤ 0) (a : Nat) (ha : a + 6 ≤ 927) : vp_in ((nI a + p) - nI 1) 927 := by
  obtain ⟨k, hk, rfl⟩ := vp_in_of hp (by decide)
  have : k ≠ 0 := by rintro rfl; exact c (by decide)
  rw [nI_add, pk_sub (by omega)]
  exact vp_in_nI (by omega) (by decide)
theorem hp_p1 {p : Int32} (hp : vp_in p 6) (a : Nat) (ha : a + 7 ≤ 927) : vp_in ((nI a + p) + nI 1) 927 := by
  obtain ⟨k, hk, rfl⟩ := vp_in_of hp (by decide)
  rw [nI_add, nI_add]
  exact vp_in_nI (by omega) (by decide)
def m_X12_isPassed (zs : Fn) (p : Int32) (f : Int32) : Int32 := bindv (if p ≤ 0 then (nI 0) else (if (zs ((nI 7 + p) - nI 1).toNatClampNeg) = 0 then (if (((zs ((nI 1 + p) - nI 1).toNatClampNeg) >>> (f &&& 31)) &&& nI 1) = nI 1 then (nI 1) else (nI 0)) else (nI 0))) (fun x1_0 => bindv (if (zs (nI 17).toNatClampNeg) ≤ (p + nI 1) then (nI 0) else (if (zs ((nI 7 + p) + nI 1).toNatClampNeg) = 0 then (if (((zs ((nI 1 + p) + nI 1).toNatClampNeg) >>> (f &&& 31)) &&& nI 1) = nI 1 then (nI 1) else (nI 0)) else (nI 0))) (fun x2_0 => if x1_0 = 0 then (if x2_0 = 0 then nI 0 else nI 1) else nI 1))
theorem bl_X12_isPassed {zs : Fn} {p : Int32} {f : Int32} : bl (m_X12_isPassed zs p f) := by
  unfold m_X12_isPassed
  (repeat' split) <;> first | exact Or.inl rfl | exact Or.inr rfl
set_option maxRecDepth 100000 in
set_option maxHeartbeats 4000000 in
theorem c_X12_isPassed (l : Launch) {fv : Value} (hf : FV fv) (m : Ms) (p : Int32) (f : Int32) (hp : vp_in p 6) : CT l fv 2 jX12_isPassed [.ref 0, .int p, .int f] (hMs m) (DP (some (.int (m_X12_isPassed (Ms.s m) p f))) (hMs m)) := by
  refine CT_of [41, 92] mt_X12_isPassed (by decide +kernel) (tab_X12 hf) okX12_isPassed (Nat.le_of_ble_eq_true rfl) ?_
  intro J hJ hD
  refine hJ 0 _ _ _ ?_
  have K1 : ∀ (x1_0 : Int32), (if p ≤ 0 then (nI 0) else (if (Ms.s m ((nI 7 + p) - nI 1).toNatClampNeg) = 0 then (if (((Ms.s m ((nI 1 + p) - nI 1).toNatClampNeg) >>> (f &&& 31)) &&& nI 1) = nI 1 then (nI 1) else (nI 0)) else (nI 0))) = x1_0 → J 41 [(0, .ref 0), (1, .int p), (2, .int f)] [.int x1_0] (hMs m) := by
    intro x1_0 ex1_0
    refine hJ 41 _ _ _ ?_
    refine And.intro (vp_in_nI (by decide) (by decide)) ?_
    have K2 : ∀ (x2_0 : Int32), (if (Ms.s m (nI 17).toNatClampNeg) ≤ (p + nI 1) then (nI 0) else (if (Ms.s m ((nI 7 + p) + nI 1).toNatClampNeg) = 0 then (if (((Ms.s m ((nI 1 + p) + nI 1).toNatClampNeg) >>> (f &&& 31)) &&& nI 1) = nI 1 then (nI 1) else (nI 0)) else (nI 0))) = x2_0 → J 92 [(3, .int x1_0)] [.int x2_0] (hMs m) := by
      intro x2_0 ex2_0
      refine hJ 92 _ _ _ ?_
      refine And.intro (fun c3 => ?_) (fun c3 => ?_)
      · skip
        refine hJ 103 _ _ _ ?_
        refine hJ 108 _ _ _ ?_
        exact And.intro xb1 (DPi ((bindv_eq ex1_0).trans ((bindv_eq ex2_0).trans (if_neg c3))))
      · skip
        refine And.intro (fun c4 => ?_) (fun c4 => ?_)
        · skip
          refine hJ 107 _ _ _ ?_
          exact And.intro xb0 (DPi ((bindv_eq ex1_0).trans ((bindv_eq ex2_0).trans ((if_pos c3).trans (if_pos c4)))))
        · skip
          refine hJ 108 _ _ _ ?_
          exact And.intro xb1 (DPi ((bindv_eq ex1_0).trans ((bindv_eq ex2_0).trans ((if_pos c3).trans (if_neg c4)))))
    refine And.intro (fun c5 => ?_) (fun c5 => ?_)
    · skip
      refine hJ 91 _ _ _ ?_
      exact hD _ _ [0] _ _ (K2 _ (if_pos c5))
    · skip
      refine And.intro (hp_p1 hp 7 (by decide)) ?_
      refine And.intro (fun c6 => ?_) (fun c6 => ?_)
      · skip
        refine hJ 91 _ _ _ ?_
        exact hD _ _ [0] _ _ (K2 _ ((if_neg c5).trans (if_neg c6)))
      · skip
        refine And.intro (hp_p1 hp 1 (by decide)) ?_
        refine And.intro (fun c7 => ?_) (fun c7 => ?_)
        · skip
          refine hJ 91 _ _ _ ?_
          exact hD _ _ [0] _ _ (K2 _ ((if_neg c5).trans ((if_pos c6).trans (if_neg c7))))
        · skip
          exact hD _ _ [0] _ _ (K2 _ ((if_neg c5).trans ((if_pos c6).trans (if_pos c7))))
  refine And.intro (fun c8 => ?_) (fun c8 => ?_)
  · skip
    refine hJ 40 _ _ _ ?_
    exact hD _ _ [0, 1, 2] _ _ (K1 _ (if_pos c8))
  · skip
    have hz : ¬ p ≤ 0 := c8
    refine And.intro (hp_m1 hp hz 7 (by decide)) ?_
    refine And.intro (fun c9 => ?_) (fun c9 => ?_)
    · skip
      refine hJ 40 _ _ _ ?_
      exact hD _ _ [0, 1, 2] _ _ (K1 _ ((if_neg c8).trans (if_neg c9)))
    · skip
      refine And.intro (hp_m1 hp hz 1 (by decide)) ?_
      refine And.intro (fun c10 => ?_) (fun c10 => ?_)
      · skip
        refine hJ 40 _ _ _ ?_
        exact hD _ _ [0, 1, 2] _ _ (K1 _ ((if_neg c8).trans ((if_pos c9).trans (if_neg c10))))
      · skip
        exact hD _ _ [0, 1, 2] _ _ (K1 _ ((if_neg c8).trans ((if_pos c9).trans (if_pos c10))))
def m_X12_isKnownNext (m : Ms) (p : Int32) (f : Int32) (le : Int32) : Int32 × Ms := bindv (if (((Ms.s m (nI 1 + p).toNatClampNeg) >>> (f &&& 31)) &&& nI 1) = nI 1 then (nI 1) else (nI 0)) (fun x1_0 => if x1_0 = 0 then (if (m_X12_isPassed (Ms.s m) p f) = 0 then (if le = f then (bindv (m_X12_heedOf m p f) (fun r35 => if x1_0 = 0 then (if le = f then (if 0 < r35.1 then (nI 1, r35.2) else (if (m_X12_isPassed (Ms.s m) p f) = 0 then (nI 0, r35.2) else (if r35.1 < (m_X12_tellsOf (Ms.s r35.2) (nI 217) (nI 6)) then (nI 0, r35.2) else (nI 1, r35.2)))) else (if (m_X12_isPassed (Ms.s m) p f) = 0 then (nI 0, r35.2) else (if r35.1 < (m_X12_tellsOf (Ms.s r35.2) (nI 217) (nI 6)) then (nI 0, r35.2) else (nI 1, r35.2)))) else (if 0 ≤ r35.1 then (nI 1, r35.2) else (if le = f then (if 0 < r35.1 then (nI 1, r35.2) else (if (m_X12_isPassed (Ms.s m) p f) = 0 then (nI 0, r35.2) else (if r35.1 < (m_X12_tellsOf (Ms.s r35.2) (nI 217) (nI 6)) then (nI 0, r35.2) else (nI 1, r35.2)))) else (if (m_X12_isPassed (Ms.s m) p f) = 0 then (nI 0, r35.2) else (if r35.1 < (m_X12_tellsOf (Ms.s r35.2) (nI 217) (nI 6)) then (nI 0, r35.2) else (nI 1, r35.2))))))) else (nI 0, m)) else (bindv (m_X12_heedOf m p f) (fun r19 => if x1_0 = 0 then (if le = f then (if 0 < r19.1 then (nI 1, r19.2) else (if (m_X12_isPassed (Ms.s m) p f) = 0 then (nI 0, r19.2) else (if r19.1 < (m_X12_tellsOf (Ms.s r19.2) (nI 217) (nI 6)) then (nI 0, r19.2) else (nI 1, r19.2)))) else (if (m_X12_isPassed (Ms.s m) p f) = 0 then (nI 0, r19.2) else (if r19.1 < (m_X12_tellsOf (Ms.s r19.2) (nI 217) (nI 6)) then (nI 0, r19.2) else (nI 1, r19.2)))) else (if 0 ≤ r19.1 then (nI 1, r19.2) else (if le = f then (if 0 < r19.1 then (nI 1, r19.2) else (if (m_X12_isPassed (Ms.s m) p f) = 0 then (nI 0, r19.2) else (if r19.1 < (m_X12_tellsOf (Ms.s r19.2) (nI 217) (nI 6)) then (nI 0, r19.2) else (nI 1, r19.2)))) else (if (m_X12_isPassed (Ms.s m) p f) = 0 then (nI 0, r19.2) else (if r19.1 < (m_X12_tellsOf (Ms.s r19.2) (nI 217) (nI 6)) then (nI 0, r19.2) else (nI 1, r19.2)))))))) else (bindv (m_X12_heedOf m p f) (fun r3 => if x1_0 = 0 then (if le = f then (if 0 < r3.1 then (nI 1, r3.2) else (if (m_X12_isPassed (Ms.s m) p f) = 0 then (nI 0, r3.2) else (if r3.1 < (m_X12_tellsOf (Ms.s r3.2) (nI 217) (nI 6)) then (nI 0, r3.2) else (nI 1, r3.2)))) else (if (m_X12_isPassed (Ms.s m) p f) = 0 then (nI 0, r3.2) else (if r3.1 < (m_X12_tellsOf (Ms.s r3.2) (nI 217) (nI 6)) then (nI 0, r3.2) else (nI 1, r3.2)))) else (if 0 ≤ r3.1 then (nI 1, r3.2) else (if le = f then (if 0 < r3.1 then (nI 1, r3.2) else (if (m_X12_isPassed (Ms.s m) p f) = 0 then (nI 0, r3.2) else (if r3.1 < (m_X12_tellsOf (Ms.s r3.2) (nI 217) (nI 6)) then (nI 0, r3.2) else (nI 1, r3.2)))) else (if (m_X12_isPassed (Ms.s m) p f) = 0 then (nI 0, r3.2) else (if r3.1 < (m_X12_tellsOf (Ms.s r3.2) (nI 217) (nI 6)) then (nI 0, r3.2) else (nI 1, r3.2))))))))
set_option maxRecDepth 100000 in
set_option maxHeartbeats 4000000 in
theorem c_X12_isKnownNext (l : Launch) {fv : Value} (hf : FV fv) (m : Ms) (p : Int32) (f : Int32) (le : Int32) (hp : vp_in p 6) (hq : vp_in f 8) (ht : hT m) (hh : hH m) (hs : hS m) : CT l fv 5 jX12_isKnownNext [.ref 0, .int p, .int f, .int le] (hMs m) (DP (some (.int (m_X12_isKnownNext m p f le).1)) (hMs ((m_X12_isKnownNext m p f le).2))) := by
  refine CT_of [21] mt_X12_isKnownNext (by decide +kernel) (tab_X12 hf) okX12_isKnownNext (Nat.le_of_ble_eq_true rfl) ?_
  intro J hJ hD
  refine hJ 0 _ _ _ ?_
  refine And.intro (vp_ad 1 hp (by decide) (by decide)) ?_
  have K1 : ∀ (x1_0 : Int32), (if (((Ms.s m (nI 1 + p).toNatClampNeg) >>> (f &&& 31)) &&& nI 1) = nI 1 then (nI 1) else (nI 0)) = x1_0 → J 21 [(0, .ref 0), (1, .int p), (2, .int f), (3, .int le)] [.int x1_0] (hMs m) := by
    intro x1_0 ex1_0
    refine hJ 21 _ _ _ ?_
    refine CALL_same (r := some (.int (m_X12_isPassed (Ms.s m) p f))) (h1 := hMs m) (by decide) (c_X12_isPassed l hf m p f hp) ?_
    refine And.intro (fun c2 => ?_) (fun c2 => ?_)
    · skip
      refine hJ 48 _ _ _ ?_
      obtain ⟨r3, er3⟩ : ∃ z : Int32 × Ms, m_X12_heedOf m p f = z := ⟨_, rfl⟩
      have hr3 := c_X12_heedOf l hf m p f hp hq ht hh hs
      rw [er3] at hr3
      have cq := cq_heedOf m p f; rw [er3] at cq
      refine CALL_same (r := some (.int r3.1)) (h1 := hMs r3.2) (by decide) (hr3) ?_
      refine And.intro (fun c4 => ?_) (fun c4 => ?_)
      · skip
        refine hJ 66 _ _ _ ?_
        refine And.intro (fun c5 => ?_) (fun c5 => ?_)
        · skip
          refine hJ 76 _ _ _ ?_
          refine And.intro (fun c6 => ?_) (fun c6 => ?_)
          · skip
            refine hJ 99 _ _ _ ?_
            exact And.intro xb0 (DPis (F := (fun z => hMs z)) (s' := r3.2) ((bindv_eq ex1_0).trans ((if_neg c2).trans ((bindv_eq er3).trans ((if_pos c4).trans ((if_neg c5).trans (if_pos c6)))))))
          · skip
            refine CALL_same (r := some (.int (m_X12_tellsOf (Ms.s r3.2) (nI 217) (nI 6)))) (h1 := hMs r3.2) (by decide) (c_X12_tellsOf l hf r3.2 (nI 217) (nI 6) (fun c => hH_ad (hh.cq cq) 217 (by decide) c)) ?_
            refine And.intro (fun c7 => ?_) (fun c7 => ?_)
            · skip
              refine hJ 99 _ _ _ ?_
              exact And.intro xb0 (DPis (F := (fun z => hMs z)) (s' := r3.2) ((bindv_eq ex1_0).trans ((if_neg c2).trans ((bindv_eq er3).trans ((if_pos c4).trans ((if_neg c5).trans ((if_neg c6).trans (if_pos c7))))))))
            · skip
              refine hJ 100 _ _ _ ?_
              exact And.intro xb1 (DPis (F := (fun z => hMs z)) (s' := r3.2) ((bindv_eq ex1_0).trans ((if_neg c2).trans ((bindv_eq er3).trans ((if_pos c4).trans ((if_neg c5).trans ((if_neg c6).trans (if_neg c7))))))))
        · skip
          refine And.intro (fun c8 => ?_) (fun c8 => ?_)
          · skip
            refine hJ 95 _ _ _ ?_
            refine hJ 100 _ _ _ ?_
            exact And.intro xb1 (DPis (F := (fun z => hMs z)) (s' := r3.2) ((bindv_eq ex1_0).trans ((if_neg c2).trans ((bindv_eq er3).trans ((if_pos c4).trans ((if_pos c5).trans (if_pos c8)))))))
          · skip
            refine And.intro (fun c9 => ?_) (fun c9 => ?_)
            · skip
              refine hJ 99 _ _ _ ?_
              exact And.intro xb0 (DPis (F := (fun z => hMs z)) (s' := r3.2) ((bindv_eq ex1_0).trans ((if_neg c2).trans ((bindv_eq er3).trans ((if_pos c4).trans ((if_pos c5).trans ((if_neg c8).trans (if_pos c9))))))))
            · skip
              refine CALL_same (r := some (.int (m_X12_tellsOf (Ms.s r3.2) (nI 217) (nI 6)))) (h1 := hMs r3.2) (by decide) (c_X12_tellsOf l hf r3.2 (nI 217) (nI 6) (fun c => hH_ad (hh.cq cq) 217 (by decide) c)) ?_
              refine And.intro (fun c10 => ?_) (fun c10 => ?_)
              · skip
                refine hJ 99 _ _ _ ?_
                exact And.intro xb0 (DPis (F := (fun z => hMs z)) (s' := r3.2) ((bindv_eq ex1_0).trans ((if_neg c2).trans ((bindv_eq er3).trans ((if_pos c4).trans ((if_pos c5).trans ((if_neg c8).trans ((if_neg c9).trans (if_pos c10)))))))))
              · skip
                refine hJ 100 _ _ _ ?_
                exact And.intro xb1 (DPis (F := (fun z => hMs z)) (s' := r3.2) ((bindv_eq ex1_0).trans ((if_neg c2).trans ((bindv_eq er3).trans ((if_pos c4).trans ((if_pos c5).trans ((if_neg c8).trans ((if_neg c9).trans (if_neg c10)))))))))
      · skip
        refine And.intro (fun c11 => ?_) (fun c11 => ?_)
        · skip
          refine hJ 95 _ _ _ ?_
          refine hJ 100 _ _ _ ?_
          exact And.intro xb1 (DPis (F := (fun z => hMs z)) (s' := r3.2) ((bindv_eq ex1_0).trans ((if_neg c2).trans ((bindv_eq er3).trans ((if_neg c4).trans (if_pos c11))))))
        · skip
          refine And.intro (fun c12 => ?_) (fun c12 => ?_)
          · skip
            refine hJ 76 _ _ _ ?_
            refine And.intro (fun c13 => ?_) (fun c13 => ?_)
            · skip
              refine hJ 99 _ _ _ ?_
              exact And.intro xb0 (DPis (F := (fun z => hMs z)) (s' := r3.2) ((bindv_eq ex1_0).trans ((if_neg c2).trans ((bindv_eq er3).trans ((if_neg c4).trans ((if_neg c11).trans ((if_neg c12).trans (if_pos c13))))))))
            · skip
              refine CALL_same (r := some (.int (m_X12_tellsOf (Ms.s r3.2) (nI 217) (nI 6)))) (h1 := hMs r3.2) (by decide) (c_X12_tellsOf l hf r3.2 (nI 217) (nI 6) (fun c => hH_ad (hh.cq cq) 217 (by decide) c)) ?_
              refine And.intro (fun c14 => ?_) (fun c14 => ?_)
              · skip
                refine hJ 99 _ _ _ ?_
                exact And.intro xb0 (DPis (F := (fun z => hMs z)) (s' := r3.2) ((bindv_eq ex1_0).trans ((if_neg c2).trans ((bindv_eq er3).trans ((if_neg c4).trans ((if_neg c11).trans ((if_neg c12).trans ((if_neg c13).trans (if_pos c14)))))))))
              · skip
                refine hJ 100 _ _ _ ?_
                exact And.intro xb1 (DPis (F := (fun z => hMs z)) (s' := r3.2) ((bindv_eq ex1_0).trans ((if_neg c2).trans ((bindv_eq er3).trans ((if_neg c4).trans ((if_neg c11).trans ((if_neg c12).trans ((if_neg c13).trans (if_neg c14)))))))))
          · skip
            refine And.intro (fun c15 => ?_) (fun c15 => ?_)
            · skip
              refine hJ 95 _ _ _ ?_
              refine hJ 100 _ _ _ ?_
              exact And.intro xb1 (DPis (F := (fun z => hMs z)) (s' := r3.2) ((bindv_eq ex1_0).trans ((if_neg c2).trans ((bindv_eq er3).trans ((if_neg c4).trans ((if_neg c11).trans ((if_pos c12).trans (if_pos c15))))))))
            · skip
              refine And.intro (fun c16 => ?_) (fun c16 => ?_)
              · skip
                refine hJ 99 _ _ _ ?_
                exact And.intro xb0 (DPis (F := (fun z => hMs z)) (s' := r3.2) ((bindv_eq ex1_0).trans ((if_neg c2).trans ((bindv_eq er3).trans ((if_neg c4).trans ((if_neg c11).trans ((if_pos c12).trans ((if_neg c15).trans (if_pos c16)))))))))
              · skip
                refine CALL_same (r := some (.int (m_X12_tellsOf (Ms.s r3.2) (nI 217) (nI 6)))) (h1 := hMs r3.2) (by decide) (c_X12_tellsOf l hf r3.2 (nI 217) (nI 6) (fun c => hH_ad (hh.cq cq) 217 (by decide) c)) ?_
                refine And.intro (fun c17 => ?_) (fun c17 => ?_)
                · skip
                  refine hJ 99 _ _ _ ?_
                  exact And.intro xb0 (DPis (F := (fun z => hMs z)) (s' := r3.2) ((bindv_eq ex1_0).trans ((if_neg c2).trans ((bindv_eq er3).trans ((if_neg c4).trans ((if_neg c11).trans ((if_pos c12).trans ((if_neg c15).trans ((if_neg c16).trans (if_pos c17))))))))))
                · skip
                  refine hJ 100 _ _ _ ?_
                  exact And.intro xb1 (DPis (F := (fun z => hMs z)) (s' := r3.2) ((bindv_eq ex1_0).trans ((if_neg c2).trans ((bindv_eq er3).trans ((if_neg c4).trans ((if_neg c11).trans ((if_pos c12).trans ((if_neg c15).trans ((if_neg c16).trans (if_neg c17))))))))))
    · skip
      refine And.intro (fun c18 => ?_) (fun c18 => ?_)
      · skip
        refine hJ 48 _ _ _ ?_
        obtain ⟨r19, er19⟩ : ∃ z : Int32 × Ms, m_X12_heedOf m p f = z := ⟨_, rfl⟩
        have hr19 := c_X12_heedOf l hf m p f hp hq ht hh hs
        rw [er19] at hr19
        have cq := cq_heedOf m p f; rw [er19] at cq
        refine CALL_same (r := some (.int r19.1)) (h1 := hMs r19.2) (by decide) (hr19) ?_
        refine And.intro (fun c20 => ?_) (fun c20 => ?_)
        · skip
          refine hJ 66 _ _ _ ?_
          refine And.intro (fun c21 => ?_) (fun c21 => ?_)
          · skip
            refine hJ 76 _ _ _ ?_
            refine And.intro (fun c22 => ?_) (fun c22 => ?_)
            · skip
              refine hJ 99 _ _ _ ?_
              exact And.intro xb0 (DPis (F := (fun z => hMs z)) (s' := r19.2) ((bindv_eq ex1_0).trans ((if_pos c2).trans ((if_neg c18).trans ((bindv_eq er19).trans ((if_pos c20).trans ((if_neg c21).trans (if_pos c22))))))))
            · skip
              refine CALL_same (r := some (.int (m_X12_tellsOf (Ms.s r19.2) (nI 217) (nI 6)))) (h1 := hMs r19.2) (by decide) (c_X12_tellsOf l hf r19.2 (nI 217) (nI 6) (fun c => hH_ad (hh.cq cq) 217 (by decide) c)) ?_
              refine And.intro (fun c23 => ?_) (fun c23 => ?_)
              · skip
                refine hJ 99 _ _ _ ?_
                exact And.intro xb0 (DPis (F := (fun z => hMs z)) (s' := r19.2) ((bindv_eq ex1_0).trans ((if_pos c2).trans ((if_neg c18).trans ((bindv_eq er19).trans ((if_pos c20).trans ((if_neg c21).trans ((if_neg c22).trans (if_pos c23)))))))))
              · skip
                refine hJ 100 _ _ _ ?_
                exact And.intro xb1 (DPis (F := (fun z => hMs z)) (s' := r19.2) ((bindv_eq ex1_0).trans ((if_pos c2).trans ((if_neg c18).trans ((bindv_eq er19).trans ((if_pos c20).trans ((if_neg c21).trans ((if_neg c22).trans (if_neg c23)))))))))
          · skip
            refine And.intro (fun c24 => ?_) (fun c24 => ?_)
            · skip
              refine hJ 95 _ _ _ ?_
              refine hJ 100 _ _ _ ?_
              exact And.intro xb1 (DPis (F := (fun z => hMs z)) (s' := r19.2) ((bindv_eq ex1_0).trans ((if_pos c2).trans ((if_neg c18).trans ((bindv_eq er19).trans ((if_pos c20).trans ((if_pos c21).trans (if_pos c24))))))))
            · skip
              refine And.intro (fun c25 => ?_) (fun c25 => ?_)
              · skip
                refine hJ 99 _ _ _ ?_
                exact And.intro xb0 (DPis (F := (fun z => hMs z)) (s' := r19.2) ((bindv_eq ex1_0).trans ((if_pos c2).trans ((if_neg c18).trans ((bindv_eq er19).trans ((if_pos c20).trans ((if_pos c21).trans ((if_neg c24).trans (if_pos c25)))))))))
              · skip
                refine CALL_same (r := some (.int (m_X12_tellsOf (Ms.s r19.2) (nI 217) (nI 6)))) (h1 := hMs r19.2) (by decide) (c_X12_tellsOf l hf r19.2 (nI 217) (nI 6) (fun c => hH_ad (hh.cq cq) 217 (by decide) c)) ?_
                refine And.intro (fun c26 => ?_) (fun c26 => ?_)
                · skip
                  refine hJ 99 _ _ _ ?_
                  exact And.intro xb0 (DPis (F := (fun z => hMs z)) (s' := r19.2) ((bindv_eq ex1_0).trans ((if_pos c2).trans ((if_neg c18).trans ((bindv_eq er19).trans ((if_pos c20).trans ((if_pos c21).trans ((if_neg c24).trans ((if_neg c25).trans (if_pos c26))))))))))
                · skip
                  refine hJ 100 _ _ _ ?_
                  exact And.intro xb1 (DPis (F := (fun z => hMs z)) (s' := r19.2) ((bindv_eq ex1_0).trans ((if_pos c2).trans ((if_neg c18).trans ((bindv_eq er19).trans ((if_pos c20).trans ((if_pos c21).trans ((if_neg c24).trans ((if_neg c25).trans (if_neg c26))))))))))
        · skip
          refine And.intro (fun c27 => ?_) (fun c27 => ?_)
          · skip
            refine hJ 95 _ _ _ ?_
            refine hJ 100 _ _ _ ?_
            exact And.intro xb1 (DPis (F := (fun z => hMs z)) (s' := r19.2) ((bindv_eq ex1_0).trans ((if_pos c2).trans ((if_neg c18).trans ((bindv_eq er19).trans ((if_neg c20).trans (if_pos c27)))))))
          · skip
            refine And.intro (fun c28 => ?_) (fun c28 => ?_)
            · skip
              refine hJ 76 _ _ _ ?_
              refine And.intro (fun c29 => ?_) (fun c29 => ?_)
              · skip
                refine hJ 99 _ _ _ ?_
                exact And.intro xb0 (DPis (F := (fun z => hMs z)) (s' := r19.2) ((bindv_eq ex1_0).trans ((if_pos c2).trans ((if_neg c18).trans ((bindv_eq er19).trans ((if_neg c20).trans ((if_neg c27).trans ((if_neg c28).trans (if_pos c29)))))))))
              · skip
                refine CALL_same (r := some (.int (m_X12_tellsOf (Ms.s r19.2) (nI 217) (nI 6)))) (h1 := hMs r19.2) (by decide) (c_X12_tellsOf l hf r19.2 (nI 217) (nI 6) (fun c => hH_ad (hh.cq cq) 217 (by decide) c)) ?_
                refine And.intro (fun c30 => ?_) (fun c30 => ?_)
                · skip
                  refine hJ 99 _ _ _ ?_
                  exact And.intro xb0 (DPis (F := (fun z => hMs z)) (s' := r19.2) ((bindv_eq ex1_0).trans ((if_pos c2).trans ((if_neg c18).trans ((bindv_eq er19).trans ((if_neg c20).trans ((if_neg c27).trans ((if_neg c28).trans ((if_neg c29).trans (if_pos c30))))))))))
                · skip
                  refine hJ 100 _ _ _ ?_
                  exact And.intro xb1 (DPis (F := (fun z => hMs z)) (s' := r19.2) ((bindv_eq ex1_0).trans ((if_pos c2).trans ((if_neg c18).trans ((bindv_eq er19).trans ((if_neg c20).trans ((if_neg c27).trans ((if_neg c28).trans ((if_neg c29).trans (if_neg c30))))))))))
            · skip
              refine And.intro (fun c31 => ?_) (fun c31 => ?_)
              · skip
                refine hJ 95 _ _ _ ?_
                refine hJ 100 _ _ _ ?_
                exact And.intro xb1 (DPis (F := (fun z => hMs z)) (s' := r19.2) ((bindv_eq ex1_0).trans ((if_pos c2).trans ((if_neg c18).trans ((bindv_eq er19).trans ((if_neg c20).trans ((if_neg c27).trans ((if_pos c28).trans (if_pos c31)))))))))
              · skip
                refine And.intro (fun c32 => ?_) (fun c32 => ?_)
                · skip
                  refine hJ 99 _ _ _ ?_
                  exact And.intro xb0 (DPis (F := (fun z => hMs z)) (s' := r19.2) ((bindv_eq ex1_0).trans ((if_pos c2).trans ((if_neg c18).trans ((bindv_eq er19).trans ((if_neg c20).trans ((if_neg c27).trans ((if_pos c28).trans ((if_neg c31).trans (if_pos c32))))))))))
                · skip
                  refine CALL_same (r := some (.int (m_X12_tellsOf (Ms.s r19.2) (nI 217) (nI 6)))) (h1 := hMs r19.2) (by decide) (c_X12_tellsOf l hf r19.2 (nI 217) (nI 6) (fun c => hH_ad (hh.cq cq) 217 (by decide) c)) ?_
                  refine And.intro (fun c33 => ?_) (fun c33 => ?_)
                  · skip
                    refine hJ 99 _ _ _ ?_
                    exact And.intro xb0 (DPis (F := (fun z => hMs z)) (s' := r19.2) ((bindv_eq ex1_0).trans ((if_pos c2).trans ((if_neg c18).trans ((bindv_eq er19).trans ((if_neg c20).trans ((if_neg c27).trans ((if_pos c28).trans ((if_neg c31).trans ((if_neg c32).trans (if_pos c33)))))))))))
                  · skip
                    refine hJ 100 _ _ _ ?_
                    exact And.intro xb1 (DPis (F := (fun z => hMs z)) (s' := r19.2) ((bindv_eq ex1_0).trans ((if_pos c2).trans ((if_neg c18).trans ((bindv_eq er19).trans ((if_neg c20).trans ((if_neg c27).trans ((if_pos c28).trans ((if_neg c31).trans ((if_neg c32).trans (if_neg c33)))))))))))
      · skip
        refine And.intro (fun c34 => ?_) (fun c34 => ?_)
        · skip
          refine hJ 48 _ _ _ ?_
          obtain ⟨r35, er35⟩ : ∃ z : Int32 × Ms, m_X12_heedOf m p f = z := ⟨_, rfl⟩
          have hr35 := c_X12_heedOf l hf m p f hp hq ht hh hs
          rw [er35] at hr35
          have cq := cq_heedOf m p f; rw [er35] at cq
          refine CALL_same (r := some (.int r35.1)) (h1 := hMs r35.2) (by decide) (hr35) ?_
          refine And.intro (fun c36 => ?_) (fun c36 => ?_)
          · skip
            refine hJ 66 _ _ _ ?_
            refine And.intro (fun c37 => ?_) (fun c37 => ?_)
            · skip
              refine hJ 76 _ _ _ ?_
              refine And.intro (fun c38 => ?_) (fun c38 => ?_)
              · skip
                refine hJ 99 _ _ _ ?_
                exact And.intro xb0 (DPis (F := (fun z => hMs z)) (s' := r35.2) ((bindv_eq ex1_0).trans ((if_pos c2).trans ((if_pos c18).trans ((if_pos c34).trans ((bindv_eq er35).trans ((if_pos c36).trans ((if_neg c37).trans (if_pos c38)))))))))
              · skip
                refine CALL_same (r := some (.int (m_X12_tellsOf (Ms.s r35.2) (nI 217) (nI 6)))) (h1 := hMs r35.2) (by decide) (c_X12_tellsOf l hf r35.2 (nI 217) (nI 6) (fun c => hH_ad (hh.cq cq) 217 (by decide) c)) ?_
                refine And.intro (fun c39 => ?_) (fun c39 => ?_)
                · skip
                  refine hJ 99 _ _ _ ?_
                  exact And.intro xb0 (DPis (F := (fun z => hMs z)) (s' := r35.2) ((bindv_eq ex1_0).trans ((if_pos c2).trans ((if_pos c18).trans ((if_pos c34).trans ((bindv_eq er35).trans ((if_pos c36).trans ((if_neg c37).trans ((if_neg c38).trans (if_pos c39))))))))))
                · skip
                  refine hJ 100 _ _ _ ?_
                  exact And.intro xb1 (DPis (F := (fun z => hMs z)) (s' := r35.2) ((bindv_eq ex1_0).trans ((if_pos c2).trans ((if_pos c18).trans ((if_pos c34).trans ((bindv_eq er35).trans ((if_pos c36).trans ((if_neg c37).trans ((if_neg c38).trans (if_neg c39))))))))))
            · skip
              refine And.intro (fun c40 => ?_) (fun c40 => ?_)
              · skip
                refine hJ 95 _ _ _ ?_
                refine hJ 100 _ _ _ ?_
                exact And.intro xb1 (DPis (F := (fun z => hMs z)) (s' := r35.2) ((bindv_eq ex1_0).trans ((if_pos c2).trans ((if_pos c18).trans ((if_pos c34).trans ((bindv_eq er35).trans ((if_pos c36).trans ((if_pos c37).trans (if_pos c40)))))))))
              · skip
                refine And.intro (fun c41 => ?_) (fun c41 => ?_)
                · skip
                  refine hJ 99 _ _ _ ?_
                  exact And.intro xb0 (DPis (F := (fun z => hMs z)) (s' := r35.2) ((bindv_eq ex1_0).trans ((if_pos c2).trans ((if_pos c18).trans ((if_pos c34).trans ((bindv_eq er35).trans ((if_pos c36).trans ((if_pos c37).trans ((if_neg c40).trans (if_pos c41))))))))))
                · skip
                  refine CALL_same (r := some (.int (m_X12_tellsOf (Ms.s r35.2) (nI 217) (nI 6)))) (h1 := hMs r35.2) (by decide) (c_X12_tellsOf l hf r35.2 (nI 217) (nI 6) (fun c => hH_ad (hh.cq cq) 217 (by decide) c)) ?_
                  refine And.intro (fun c42 => ?_) (fun c42 => ?_)
                  · skip
                    refine hJ 99 _ _ _ ?_
                    exact And.intro xb0 (DPis (F := (fun z => hMs z)) (s' := r35.2) ((bindv_eq ex1_0).trans ((if_pos c2).trans ((if_pos c18).trans ((if_pos c34).trans ((bindv_eq er35).trans ((if_pos c36).trans ((if_pos c37).trans ((if_neg c40).trans ((if_neg c41).trans (if_pos c42)))))))))))
                  · skip
                    refine hJ 100 _ _ _ ?_
                    exact And.intro xb1 (DPis (F := (fun z => hMs z)) (s' := r35.2) ((bindv_eq ex1_0).trans ((if_pos c2).trans ((if_pos c18).trans ((if_pos c34).trans ((bindv_eq er35).trans ((if_pos c36).trans ((if_pos c37).trans ((if_neg c40).trans ((if_neg c41).trans (if_neg c42)))))))))))
          · skip
            refine And.intro (fun c43 => ?_) (fun c43 => ?_)
            · skip
              refine hJ 95 _ _ _ ?_
              refine hJ 100 _ _ _ ?_
              exact And.intro xb1 (DPis (F := (fun z => hMs z)) (s' := r35.2) ((bindv_eq ex1_0).trans ((if_pos c2).trans ((if_pos c18).trans ((if_pos c34).trans ((bindv_eq er35).trans ((if_neg c36).trans (if_pos c43))))))))
            · skip
              refine And.intro (fun c44 => ?_) (fun c44 => ?_)
              · skip
                refine hJ 76 _ _ _ ?_
                refine And.intro (fun c45 => ?_) (fun c45 => ?_)
                · skip
                  refine hJ 99 _ _ _ ?_
                  exact And.intro xb0 (DPis (F := (fun z => hMs z)) (s' := r35.2) ((bindv_eq ex1_0).trans ((if_pos c2).trans ((if_pos c18).trans ((if_pos c34).trans ((bindv_eq er35).trans ((if_neg c36).trans ((if_neg c43).trans ((if_neg c44).trans (if_pos c45))))))))))
                · skip
                  refine CALL_same (r := some (.int (m_X12_tellsOf (Ms.s r35.2) (nI 217) (nI 6)))) (h1 := hMs r35.2) (by decide) (c_X12_tellsOf l hf r35.2 (nI 217) (nI 6) (fun c => hH_ad (hh.cq cq) 217 (by decide) c)) ?_
                  refine And.intro (fun c46 => ?_) (fun c46 => ?_)
                  · skip
                    refine hJ 99 _ _ _ ?_
                    exact And.intro xb0 (DPis (F := (fun z => hMs z)) (s' := r35.2) ((bindv_eq ex1_0).trans ((if_pos c2).trans ((if_pos c18).trans ((if_pos c34).trans ((bindv_eq er35).trans ((if_neg c36).trans ((if_neg c43).trans ((if_neg c44).trans ((if_neg c45).trans (if_pos c46)))))))))))
                  · skip
                    refine hJ 100 _ _ _ ?_
                    exact And.intro xb1 (DPis (F := (fun z => hMs z)) (s' := r35.2) ((bindv_eq ex1_0).trans ((if_pos c2).trans ((if_pos c18).trans ((if_pos c34).trans ((bindv_eq er35).trans ((if_neg c36).trans ((if_neg c43).trans ((if_neg c44).trans ((if_neg c45).trans (if_neg c46)))))))))))
              · skip
                refine And.intro (fun c47 => ?_) (fun c47 => ?_)
                · skip
                  refine hJ 95 _ _ _ ?_
                  refine hJ 100 _ _ _ ?_
                  exact And.intro xb1 (DPis (F := (fun z => hMs z)) (s' := r35.2) ((bindv_eq ex1_0).trans ((if_pos c2).trans ((if_pos c18).trans ((if_pos c34).trans ((bindv_eq er35).trans ((if_neg c36).trans ((if_neg c43).trans ((if_pos c44).trans (if_pos c47))))))))))
                · skip
                  refine And.intro (fun c48 => ?_) (fun c48 => ?_)
                  · skip
                    refine hJ 99 _ _ _ ?_
                    exact And.intro xb0 (DPis (F := (fun z => hMs z)) (s' := r35.2) ((bindv_eq ex1_0).trans ((if_pos c2).trans ((if_pos c18).trans ((if_pos c34).trans ((bindv_eq er35).trans ((if_neg c36).trans ((if_neg c43).trans ((if_pos c44).trans ((if_neg c47).trans (if_pos c48)))))))))))
                  · skip
                    refine CALL_same (r := some (.int (m_X12_tellsOf (Ms.s r35.2) (nI 217) (nI 6)))) (h1 := hMs r35.2) (by decide) (c_X12_tellsOf l hf r35.2 (nI 217) (nI 6) (fun c => hH_ad (hh.cq cq) 217 (by decide) c)) ?_
                    refine And.intro (fun c49 => ?_) (fun c49 => ?_)
                    · skip
                      refine hJ 99 _ _ _ ?_
                      exact And.intro xb0 (DPis (F := (fun z => hMs z)) (s' := r35.2) ((bindv_eq ex1_0).trans ((if_pos c2).trans ((if_pos c18).trans ((if_pos c34).trans ((bindv_eq er35).trans ((if_neg c36).trans ((if_neg c43).trans ((if_pos c44).trans ((if_neg c47).trans ((if_neg c48).trans (if_pos c49))))))))))))
                    · skip
                      refine hJ 100 _ _ _ ?_
                      exact And.intro xb1 (DPis (F := (fun z => hMs z)) (s' := r35.2) ((bindv_eq ex1_0).trans ((if_pos c2).trans ((if_pos c18).trans ((if_pos c34).trans ((bindv_eq er35).trans ((if_neg c36).trans ((if_neg c43).trans ((if_pos c44).trans ((if_neg c47).trans ((if_neg c48).trans (if_neg c49))))))))))))
        · skip
          exact And.intro xb0 (DPis (F := (fun z => hMs z)) (s' := m) ((bindv_eq ex1_0).trans ((if_pos c2).trans ((if_pos c18).trans (if_neg c34)))))
  refine And.intro (fun c50 => ?_) (fun c50 => ?_)
  · skip
    refine hJ 20 _ _ _ ?_
    exact hD _ _ [0, 1, 2, 3] _ _ (K1 _ (if_neg c50))
  · skip
    exact hD _ _ [0, 1, 2, 3] _ _ (K1 _ (if_pos c50))
theorem cq_isKnownNext (m : Ms) (p f le : Int32) : Cq m (m_X12_isKnownNext m p f le).2 := by
  unfold m_X12_isKnownNext
  refine cq_bind fun x => ?_
  simp only [bindv]
  (repeat' split) <;> first | exact Cq.rf m | exact cq_heedOf m p f
end
section
/-! printed by wip/whole/gen/specs34.py: tides of the model -/
theorem hU.s {m m' : Ms} (h : hU m) (q : Ms.s m' = Ms.s m) : hU m' := by unfold hU at *; rw [q]; exact h
theorem hT.s {m m' : Ms} (h : hT m) (q : Ms.s m' = Ms.s m) : hT m' := by unfold hT at *; rw [q]; exact h
theorem hH.s {m m' : Ms} (h : hH m) (q : Ms.s m' = Ms.s m) : hH m' := by unfold hH at *; rw [q]; exact h
theorem hS.s {m m' : Ms} (h : hS m) (q : Ms.s m' = Ms.s m) : hS m' := by unfold hS at *; rw [q]; exact h
def l_X12_knownNext_15 (m : Ms) (p : Int32) (le : Int32) : Nat → Int32 → Int32 → Int32 → Ms → Int32 × Ms
  | 0, _, _, _, _ => (0, m)
  | n15 + 1, a, room, f, m1 => if nI 8 ≤ f then (a, m1) else (if room ≤ 0 then (a, m1) else (bindv (m_X12_isKnownNext m1 p f le) (fun r3 => bindv (if r3.1 = 0 then a else (a ||| (nI 1 <<< (f &&& 31)))) (fun x4_0 => bindv (if r3.1 = 0 then room else (room + (-nI 1))) (fun x4_1 => l_X12_knownNext_15 m p le n15 x4_0 x4_1 (f + nI 1) r3.2)))))
theorem q_X12_knownNext_15 (m : Ms) (p : Int32) (le : Int32) (n15 : Nat) (a : Int32) (room : Int32) (f : Int32) (m1 : Ms) : l_X12_knownNext_15 m p le (n15 + 1) a room f m1 = (if nI 8 ≤ f then (a, m1) else (if room ≤ 0 then (a, m1) else (bindv (m_X12_isKnownNext m1 p f le) (fun r3 => bindv (if r3.1 = 0 then a else (a ||| (nI 1 <<< (f &&& 31)))) (fun x4_0 => bindv (if r3.1 = 0 then room else (room + (-nI 1))) (fun x4_1 => l_X12_knownNext_15 m p le n15 x4_0 x4_1 (f + nI 1) r3.2)))))) := rfl
def m_X12_knownNext (m : Ms) (p : Int32) (le : Int32) : Int32 × Ms := l_X12_knownNext_15 m p le 9 (nI 0) (m_X12_tellsOf (Ms.s m) (nI 212) (nI 4)) (nI 0) m
set_option maxRecDepth 100000 in
set_option maxHeartbeats 4000000 in
theorem c_X12_knownNext (l : Launch) {fv : Value} (hf : FV fv) (m : Ms) (p : Int32) (le : Int32) (hp : vp_in p 6) (ht : hT m) (hh : hH m) (hs : hS m) : CT l fv 6 jX12_knownNext [.ref 0, .int p, .int le] (hMs m) (DP (some (.int (m_X12_knownNext m p le).1)) (hMs ((m_X12_knownNext m p le).2))) := by
  refine CT_of [15, 48] mt_X12_knownNext (by decide +kernel) (tab_X12 hf) okX12_knownNext (Nat.le_of_ble_eq_true rfl) ?_
  intro J hJ hD
  refine hJ 0 _ _ _ ?_
  refine CALL_same (r := some (.int (m_X12_tellsOf (Ms.s m) (nI 212) (nI 4)))) (h1 := hMs m) (by decide) (c_X12_tellsOf l hf m (nI 212) (nI 4) (fun c => hH_ad hh 212 (by decide) c)) ?_
  have L15 : ∀ (n15 : Nat) (a : Int32) (room : Int32) (f : Int32) (m1 : Ms), (∃ z9 : Nat, z9 ≤ 8 ∧ n15 + z9 = 9 ∧ f = nI z9 ∧ Cq m m1) → m_X12_knownNext m p le = l_X12_knownNext_15 m p le n15 a room f m1 → J 15 [(0, .ref 0), (1, .int p), (2, .int le), (3, .int a), (4, .int room), (5, .int f)] [] (hMs m1) := by
    intro n15
    induction n15 with
    | zero =>
      intro a room f m1 hv
      obtain ⟨z9, h1, h2, h3, h5⟩ := hv
      omega
    | succ n15 ih15 =>
      intro a room f m1 hv e15
      obtain ⟨z9, h1, h2, h3, h5⟩ := hv
      refine hJ 15 _ _ _ ?_
      refine And.intro (fun c1 => ?_) (fun c1 => ?_)
      · skip
        refine hJ 54 _ _ _ ?_
        exact And.intro True.intro (DPis (F := (fun z => hMs z)) (s' := m1) (e15.trans ((q_X12_knownNext_15 m p le n15 a room f m1).trans (if_pos c1))))
      · skip
        have h4 := cnt_lt h3 h1 (by decide) c1
        have hq := vp_nI h3 h4 (by decide)
        refine And.intro (fun c2 => ?_) (fun c2 => ?_)
        · skip
          refine hJ 54 _ _ _ ?_
          exact And.intro True.intro (DPis (F := (fun z => hMs z)) (s' := m1) (e15.trans ((q_X12_knownNext_15 m p le n15 a room f m1).trans ((if_neg c1).trans (if_pos c2)))))
        · skip
          obtain ⟨r3, er3⟩ : ∃ z : Int32 × Ms, m_X12_isKnownNext m1 p f le = z := ⟨_, rfl⟩
          have hr3 := c_X12_isKnownNext l hf m1 p f le hp hq (ht.cq h5) (hh.cq h5) (hs.cq h5)
          rw [er3] at hr3
          have cq := cq_isKnownNext m1 p f le; rw [er3] at cq
          refine CALL_same (r := some (.int r3.1)) (h1 := hMs r3.2) (by decide) (hr3) ?_
          have K4 : ∀ (x4_0 : Int32), ∀ (x4_1 : Int32), (if r3.1 = 0 then a else (a ||| (nI 1 <<< (f &&& 31)))) = x4_0 → (if r3.1 = 0 then room else (room + (-nI 1))) = x4_1 → J 48 [(0, .ref 0), (1, .int p), (2, .int le), (3, .int x4_0), (4, .int x4_1), (5, .int f)] [] (hMs r3.2) := by
            intro x4_0 x4_1 ex4_0 ex4_1
            refine hJ 48 _ _ _ ?_
            exact hD _ _ [1, 2, 3, 4, 5, 0] _ _ (ih15 _ _ _ _ ⟨z9 + 1, h4, by omega, by rw [h3]; exact nI_add z9 1, h5.tr cq⟩ (e15.trans ((q_X12_knownNext_15 m p le n15 a room f m1).trans ((if_neg c1).trans ((if_neg c2).trans ((bindv_eq er3).trans ((bindv_eq ex4_0).trans (bindv_eq ex4_1))))))))
          refine And.intro (fun c5 => ?_) (fun c5 => ?_)
          · skip
            exact hD _ _ [0, 1, 2, 3, 4, 5] _ _ (K4 _ _ (if_pos c5) (if_pos c5))
          · skip
            exact hD _ _ [2, 3, 4, 1, 0, 5] _ _ (K4 _ _ (if_neg c5) (if_neg c5))
  exact hD _ _ [3, 4, 5, 2, 1, 0] _ _ (L15 9 _ _ _ _ ⟨0, by decide, by decide, rfl, Cq.rf m⟩ (rfl))
theorem cq_l_knownNext (m : Ms) (p le : Int32) : ∀ (n : Nat) (a room f : Int32) (m1 : Ms), Cq m m1 → Cq m (l_X12_knownNext_15 m p le n a room f m1).2 := by
  intro n
  induction n with
  | zero => intro a room f m1 h; exact Cq.rf m
  | succ n ih =>
    intro a room f m1 h
    rw [q_X12_knownNext_15]
    have h2 := h.tr (cq_isKnownNext m1 p f le)
    simp only [bindv]
    (repeat' split) <;> first | exact h | exact ih _ _ _ _ h2
theorem cq_knownNext (m : Ms) (p le : Int32) : Cq m (m_X12_knownNext m p le).2 := cq_l_knownNext m p le _ _ _ _ _ (Cq.rf m)
/-- the same but for sums and what comes next -/
def Cn (m m' : Ms) : Prop := Ms.s m' = Ms.s m ∧ Ms.im m' = Ms.im m ∧ Ms.fr m' = Ms.fr m ∧ Ms.hi m' = Ms.hi m ∧ Ms.lk m' = Ms.lk m ∧ Ms.bo m' = Ms.bo m ∧ Ms.ra m' = Ms.ra m
theorem Cn.rf (m : Ms) : Cn m m := ⟨rfl, rfl, rfl, rfl, rfl, rfl, rfl⟩
theorem Cq.cn {m m' : Ms} (h : Cq m m') : Cn m m' := ⟨h.1, h.2.1, h.2.2.1, h.2.2.2.1, h.2.2.2.2.1, h.2.2.2.2.2.2.1, h.2.2.2.2.2.2.2⟩
theorem Cn.tr {a b c : Ms} (h : Cn a b) (g : Cn b c) : Cn a c := by
  obtain ⟨h1, h2, h3, h4, h5, h7, h8⟩ := h
  obtain ⟨g1, g2, g3, g4, g5, g7, g8⟩ := g
  exact ⟨g1.trans h1, g2.trans h2, g3.trans h3, g4.trans h4, g5.trans h5, g7.trans h7, g8.trans h8⟩
theorem Cn.nx {m m' : Ms} (h : Cn m m') (f : Fn) : Cn m (Ms.th m', Ms.s m', Ms.im m', Ms.fr m', Ms.hi m', Ms.ac m', Ms.sp m', Ms.en m', Ms.wr m', Ms.op m', Ms.bb m', Ms.tr m', Ms.su m', Ms.lf m', Ms.lk m', f, Ms.bo m', Ms.ra m', Ms.ki m', Ms.nu m', Ms.tv m') := h
theorem lt17 {f : Fn} (hu : rl 6 (f (nI 17).toNatClampNeg)) {k : Nat} {i : Int32} (hi : i = nI k) (hk : k ≤ 6) (c : ¬ f (nI 17).toNatClampNeg ≤ i) : k < 6 := by
  obtain ⟨q, hq, e⟩ := hu
  rw [e, hi, nI_leI (by omega) (by omega)] at c
  omega
theorem up17 {f : Fn} {p x : Int32} (hp : vp_in p 6) (h : rl 6 (f (nI 17).toNatClampNeg)) : rl 6 (upd f (nI 1 + p).toNatClampNeg x (nI 17).toNatClampNeg) := by
  obtain ⟨k, hk, rfl⟩ := vp_in_of hp (by decide)
  have e : (nI 1 + nI k).toNatClampNeg = 1 + k := by rw [nI_add, nI_clamp (by omega)]
  have e2 : (nI 17).toNatClampNeg = 17 := nI_clamp (by decide)
  rw [e, e2] at *
  rw [pk_un (by omega)]
  exact h
def l_X12_goesBy_57 (m : Ms) (le : Int32) (p : Int32) (m1 : Ms) : Nat → Int32 → Fn → Ms
  | 0, _, _ => m
  | n57 + 1, b, s1 => if (s1 (nI 17).toNatClampNeg) ≤ b then (Ms.th m1, (upd s1 (nI 0).toNatClampNeg ((s1 (nI 0).toNatClampNeg) + nI 1)), Ms.im m1, Ms.fr m1, Ms.hi m1, Ms.ac m1, Ms.sp m1, Ms.en m1, Ms.wr m1, Ms.op m1, Ms.bb m1, Ms.tr m1, Ms.su m1, Ms.lf m1, Ms.lk m1, Ms.nx m1, Ms.bo m1, Ms.ra m1, Ms.ki m1, Ms.nu m1, Ms.tv m1) else l_X12_goesBy_57 m le p m1 n57 (b + nI 1) (upd s1 (nI 1 + b).toNatClampNeg (Ms.nx m1 b.toNatClampNeg))
theorem q_X12_goesBy_57 (m : Ms) (le : Int32) (p : Int32) (m1 : Ms) (n57 : Nat) (b : Int32) (s1 : Fn) : l_X12_goesBy_57 m le p m1 (n57 + 1) b s1 = (if (s1 (nI 17).toNatClampNeg) ≤ b then (Ms.th m1, (upd s1 (nI 0).toNatClampNeg ((s1 (nI 0).toNatClampNeg) + nI 1)), Ms.im m1, Ms.fr m1, Ms.hi m1, Ms.ac m1, Ms.sp m1, Ms.en m1, Ms.wr m1, Ms.op m1, Ms.bb m1, Ms.tr m1, Ms.su m1, Ms.lf m1, Ms.lk m1, Ms.nx m1, Ms.bo m1, Ms.ra m1, Ms.ki m1, Ms.nu m1, Ms.tv m1) else l_X12_goesBy_57 m le p m1 n57 (b + nI 1) (upd s1 (nI 1 + b).toNatClampNeg (Ms.nx m1 b.toNatClampNeg))) := rfl
def l_X12_goesBy_2 (m : Ms) (le : Int32) : Nat → Int32 → Ms → Ms
  | 0, _, _ => m
  | n2 + 1, p, m1 => if (Ms.s m1 (nI 17).toNatClampNeg) ≤ p then l_X12_goesBy_57 m le p m1 7 (nI 0) (Ms.s m1) else (if (Ms.s m1 (nI 7 + p).toNatClampNeg) = nI 1 then l_X12_goesBy_2 m le n2 (p + nI 1) (Ms.th m1, Ms.s m1, Ms.im m1, Ms.fr m1, Ms.hi m1, Ms.ac m1, Ms.sp m1, Ms.en m1, Ms.wr m1, Ms.op m1, Ms.bb m1, Ms.tr m1, Ms.su m1, Ms.lf m1, Ms.lk m1, (upd (Ms.nx m1) p.toNatClampNeg (Ms.s m1 (nI 1 + p).toNatClampNeg)), Ms.bo m1, Ms.ra m1, Ms.ki m1, Ms.nu m1, Ms.tv m1) else (bindv (m_X12_knownNext m1 p le) (fun r4 => l_X12_goesBy_2 m le n2 (p + nI 1) (Ms.th r4.2, Ms.s r4.2, Ms.im r4.2, Ms.fr r4.2, Ms.hi r4.2, Ms.ac r4.2, Ms.sp r4.2, Ms.en r4.2, Ms.wr r4.2, Ms.op r4.2, Ms.bb r4.2, Ms.tr r4.2, Ms.su r4.2, Ms.lf r4.2, Ms.lk r4.2, (upd (Ms.nx r4.2) p.toNatClampNeg r4.1), Ms.bo r4.2, Ms.ra r4.2, Ms.ki r4.2, Ms.nu r4.2, Ms.tv r4.2))))
theorem q_X12_goesBy_2 (m : Ms) (le : Int32) (n2 : Nat) (p : Int32) (m1 : Ms) : l_X12_goesBy_2 m le (n2 + 1) p m1 = (if (Ms.s m1 (nI 17).toNatClampNeg) ≤ p then l_X12_goesBy_57 m le p m1 7 (nI 0) (Ms.s m1) else (if (Ms.s m1 (nI 7 + p).toNatClampNeg) = nI 1 then l_X12_goesBy_2 m le n2 (p + nI 1) (Ms.th m1, Ms.s m1, Ms.im m1, Ms.fr m1, Ms.hi m1, Ms.ac m1, Ms.sp m1, Ms.en m1, Ms.wr m1, Ms.op m1, Ms.bb m1, Ms.tr m1, Ms.su m1, Ms.lf m1, Ms.lk m1, (upd (Ms.nx m1) p.toNatClampNeg (Ms.s m1 (nI 1 + p).toNatClampNeg)), Ms.bo m1, Ms.ra m1, Ms.ki m1, Ms.nu m1, Ms.tv m1) else (bindv (m_X12_knownNext m1 p le) (fun r4 => l_X12_goesBy_2 m le n2 (p + nI 1) (Ms.th r4.2, Ms.s r4.2, Ms.im r4.2, Ms.fr r4.2, Ms.hi r4.2, Ms.ac r4.2, Ms.sp r4.2, Ms.en r4.2, Ms.wr r4.2, Ms.op r4.2, Ms.bb r4.2, Ms.tr r4.2, Ms.su r4.2, Ms.lf r4.2, Ms.lk r4.2, (upd (Ms.nx r4.2) p.toNatClampNeg r4.1), Ms.bo r4.2, Ms.ra r4.2, Ms.ki r4.2, Ms.nu r4.2, Ms.tv r4.2))))) := rfl
def m_X12_goesBy (m : Ms) (le : Int32) : Ms := l_X12_goesBy_2 m le 7 (nI 0) m
set_option maxRecDepth 100000 in
set_option maxHeartbeats 4000000 in
theorem c_X12_goesBy (l : Launch) {fv : Value} (hf : FV fv) (m : Ms) (le : Int32) (hu : hU m) (ht : hT m) (hh : hH m) (hs : hS m) : CT l fv 7 jX12_goesBy [.ref 0, .int le] (hMs m) (DP none (hMs (m_X12_goesBy m le))) := by
  refine CT_of [2, 57] mt_X12_goesBy (by decide +kernel) (tab_X12 hf) okX12_goesBy (Nat.le_of_ble_eq_true rfl) ?_
  intro J hJ hD
  refine hJ 0 _ _ _ ?_
  have L2 : ∀ (n2 : Nat) (p : Int32) (m1 : Ms), (∃ z9 : Nat, z9 ≤ 6 ∧ n2 + z9 = 7 ∧ p = nI z9 ∧ Cn m m1) → m_X12_goesBy m le = l_X12_goesBy_2 m le n2 p m1 → J 2 [(0, .ref 0), (1, .int le), (2, .int p)] [] (hMs m1) := by
    intro n2
    induction n2 with
    | zero =>
      intro p m1 hv
      obtain ⟨z9, h1, h2, h3, h5⟩ := hv
      omega
    | succ n2 ih2 =>
      intro p m1 hv e2
      obtain ⟨z9, h1, h2, h3, h5⟩ := hv
      refine hJ 2 _ _ _ ?_
      refine And.intro (vp_in_nI (by decide) (by decide)) ?_
      refine And.intro (fun c1 => ?_) (fun c1 => ?_)
      · skip
        refine hJ 55 _ _ _ ?_
        have L57 : ∀ (n57 : Nat) (b : Int32) (s1 : Fn), (∃ z9 : Nat, z9 ≤ 6 ∧ n57 + z9 = 7 ∧ b = nI z9 ∧ rl 6 (s1 (nI 17).toNatClampNeg)) → m_X12_goesBy m le = l_X12_goesBy_57 m le p m1 n57 b s1 → J 57 [(0, .ref 0), (2, .int b)] [] (hMs (Ms.th m1, s1, Ms.im m1, Ms.fr m1, Ms.hi m1, Ms.ac m1, Ms.sp m1, Ms.en m1, Ms.wr m1, Ms.op m1, Ms.bb m1, Ms.tr m1, Ms.su m1, Ms.lf m1, Ms.lk m1, Ms.nx m1, Ms.bo m1, Ms.ra m1, Ms.ki m1, Ms.nu m1, Ms.tv m1)) := by
          intro n57
          induction n57 with
          | zero =>
            intro b s1 hv
            obtain ⟨z9, g1, g2, g3, g5⟩ := hv
            omega
          | succ n57 ih57 =>
            intro b s1 hv e57
            obtain ⟨z9, g1, g2, g3, g5⟩ := hv
            refine hJ 57 _ _ _ ?_
            refine And.intro (vp_in_nI (by decide) (by decide)) ?_
            refine And.intro (fun c2 => ?_) (fun c2 => ?_)
            · skip
              refine hJ 88 _ _ _ ?_
              refine And.intro (vp_in_nI (by decide) (by decide)) ?_
              refine And.intro (vp_in_nI (by decide) (by decide)) ?_
              exact And.intro rfl (DPs (F := (fun z => hMs z)) (s' := (Ms.th m1, (upd s1 (nI 0).toNatClampNeg ((s1 (nI 0).toNatClampNeg) + nI 1)), Ms.im m1, Ms.fr m1, Ms.hi m1, Ms.ac m1, Ms.sp m1, Ms.en m1, Ms.wr m1, Ms.op m1, Ms.bb m1, Ms.tr m1, Ms.su m1, Ms.lf m1, Ms.lk m1, Ms.nx m1, Ms.bo m1, Ms.ra m1, Ms.ki m1, Ms.nu m1, Ms.tv m1)) (e57.trans ((q_X12_goesBy_57 m le p m1 n57 b s1).trans (if_pos c2))))
            · skip
              have g4 := lt17 g5 g3 g1 c2
              have hp := vp_nI g3 g4 (by decide)
              refine And.intro (hp) ?_
              refine And.intro (vp_ad 1 hp (by decide) (by decide)) ?_
              exact hD _ _ [1, 0] _ _ (ih57 _ _ ⟨z9 + 1, g4, by omega, by rw [g3]; exact nI_add z9 1, up17 hp g5⟩ (e57.trans ((q_X12_goesBy_57 m le p m1 n57 b s1).trans (if_neg c2))))
        exact hD _ _ [1, 0] _ _ (L57 7 _ _ ⟨0, by decide, by decide, rfl, hu.s h5.1⟩ (e2.trans ((q_X12_goesBy_2 m le n2 p m1).trans (if_pos c1))))
      · skip
        have h4 := hU_lt (hu.s h5.1) h3 h1 c1
        have hp := vp_nI h3 h4 (by decide)
        refine And.intro (vp_ad 7 hp (by decide) (by decide)) ?_
        refine And.intro (fun c3 => ?_) (fun c3 => ?_)
        · skip
          refine hJ 42 _ _ _ ?_
          obtain ⟨r4, er4⟩ : ∃ z : Int32 × Ms, m_X12_knownNext m1 p le = z := ⟨_, rfl⟩
          have hr4 := c_X12_knownNext l hf m1 p le hp (ht.s h5.1) (hh.s h5.1) (hs.s h5.1)
          rw [er4] at hr4
          have cq := (cq_knownNext m1 p le).cn; rw [er4] at cq
          have h5 := h5.tr cq
          refine CALL_same (r := some (.int r4.1)) (h1 := hMs r4.2) (by decide) (hr4) ?_
          refine And.intro (hp) ?_
          exact hD _ _ [1, 2, 0] _ _ (ih2 _ (Ms.th r4.2, Ms.s r4.2, Ms.im r4.2, Ms.fr r4.2, Ms.hi r4.2, Ms.ac r4.2, Ms.sp r4.2, Ms.en r4.2, Ms.wr r4.2, Ms.op r4.2, Ms.bb r4.2, Ms.tr r4.2, Ms.su r4.2, Ms.lf r4.2, Ms.lk r4.2, (upd (Ms.nx r4.2) p.toNatClampNeg r4.1), Ms.bo r4.2, Ms.ra r4.2, Ms.ki r4.2, Ms.nu r4.2, Ms.tv r4.2) ⟨z9 + 1, h4, by omega, by rw [h3]; exact nI_add z9 1, h5.nx _⟩ (e2.trans ((q_X12_goesBy_2 m le n2 p m1).trans ((if_neg c1).trans ((if_neg c3).trans (bindv_eq er4))))))
        · skip
          refine And.intro (vp_ad 1 hp (by decide) (by decide)) ?_
          refine hJ 48 _ _ _ ?_
          refine And.intro (hp) ?_
          exact hD _ _ [1, 2, 0] _ _ (ih2 _ (Ms.th m1, Ms.s m1, Ms.im m1, Ms.fr m1, Ms.hi m1, Ms.ac m1, Ms.sp m1, Ms.en m1, Ms.wr m1, Ms.op m1, Ms.bb m1, Ms.tr m1, Ms.su m1, Ms.lf m1, Ms.lk m1, (upd (Ms.nx m1) p.toNatClampNeg (Ms.s m1 (nI 1 + p).toNatClampNeg)), Ms.bo m1, Ms.ra m1, Ms.ki m1, Ms.nu m1, Ms.tv m1) ⟨z9 + 1, h4, by omega, by rw [h3]; exact nI_add z9 1, h5.nx _⟩ (e2.trans ((q_X12_goesBy_2 m le n2 p m1).trans ((if_neg c1).trans (if_pos c3)))))
  exact hD _ _ [1, 2, 0] _ _ (L2 7 _ _ ⟨0, by decide, by decide, rfl, Cn.rf m⟩ (rfl))
end
section
/-! printed by wip/whole/gen/specs35.py: tides of the model, many -/
theorem c0 : (nI 0).toNatClampNeg = 0 := nI_clamp (by decide)
theorem c17 : (nI 17).toNatClampNeg = 17 := nI_clamp (by decide)
theorem c23 : (nI 23).toNatClampNeg = 23 := nI_clamp (by decide)
theorem rl.mono {a b : Nat} {x : Int32} (h : rl a x) (hab : a ≤ b) : rl b x := by
  obtain ⟨k, hk, e⟩ := h
  exact ⟨k, by omega, e⟩
theorem rl.up {a : Nat} {x : Int32} (h : rl a x) : rl (a + 1) (x + nI 1) := by
  obtain ⟨k, hk, rfl⟩ := h
  exact ⟨k + 1, by omega, nI_add k 1⟩
/-- the same from a on, but for sums, what comes next, what is put by -/
def Kp (a : Nat) (m m' : Ms) : Prop := (∀ i, a ≤ i → Ms.s m' i = Ms.s m i) ∧ Ms.im m' = Ms.im m ∧ Ms.hi m' = Ms.hi m ∧ Ms.bo m' = Ms.bo m ∧ Ms.ra m' = Ms.ra m
theorem Kp.rf (a : Nat) (m : Ms) : Kp a m m := ⟨fun _ _ => rfl, rfl, rfl, rfl, rfl⟩
theorem Kp.tr {a : Nat} {x y z : Ms} (h : Kp a x y) (g : Kp a y z) : Kp a x z := by
  obtain ⟨h1, h2, h3, h4, h5⟩ := h
  obtain ⟨g1, g2, g3, g4, g5⟩ := g
  exact ⟨fun i hi => (g1 i hi).trans (h1 i hi), g2.trans h2, g3.trans h3, g4.trans h4, g5.trans h5⟩
theorem Kp.mono {a b : Nat} {x y : Ms} (h : Kp a x y) (hab : a ≤ b) : Kp b x y := ⟨fun i hi => h.1 i (by omega), h.2⟩
theorem Kp.cn {m m' : Ms} (h : Cn m m') : Kp 0 m m' := ⟨fun i _ => by rw [h.1], h.2.1, h.2.2.2.1, h.2.2.2.2.2.1, h.2.2.2.2.2.2⟩
theorem hU.kp {a : Nat} {m m' : Ms} (h : hU m) (k : Kp a m m') (ha : a ≤ 17) : hU m' := by
  unfold hU at *
  rw [c17] at *
  rw [k.1 17 ha]; exact h
theorem hH.kp {a : Nat} {m m' : Ms} (h : hH m) (k : Kp a m m') (ha : a ≤ 17) : hH m' := by
  unfold hH at *
  rw [c23] at *
  rw [k.1 23 (by omega)]; exact h
theorem tellsOf_kp {a : Nat} {m m' : Ms} (b : Nat) (z : Int32) (hh : hH m) (k : Kp a m m') (ha : a ≤ b) (h23 : a ≤ 23) (hb : b < 900) : m_X12_tellsOf (Ms.s m') (nI b) z = m_X12_tellsOf (Ms.s m) (nI b) z := by
  have e23 : Ms.s m' (nI 23).toNatClampNeg = Ms.s m (nI 23).toNatClampNeg := k.1 _ (by rw [c23]; exact h23)
  unfold m_X12_tellsOf
  rw [e23]
  by_cases c : Ms.s m (nI 23).toNatClampNeg = (-nI 1)
  · rw [if_pos c, if_pos c]
  · rw [if_neg c, if_neg c]
    apply k.1
    obtain ⟨q, hq, e⟩ := vp_in_of (hh c) (by decide)
    rw [e, nI_add, nI_clamp (by omega)]
    omega
theorem hS.kp {a : Nat} {m m' : Ms} (hs : hS m) (hh : hH m) (k : Kp a m m') (ha : a ≤ 17) : hS m' := by
  obtain ⟨F, n, dp, h1, h2, h3, h4, h5⟩ := hs
  have e23 : Ms.s m' (nI 23).toNatClampNeg = Ms.s m (nI 23).toNatClampNeg := k.1 _ (by rw [c23]; omega)
  refine ⟨F, n, dp, by rw [e23]; exact h1, ?_, h3, ?_, h5⟩
  · rw [tellsOf_kp 222 _ hh k (by omega) (by omega) (by decide)]; exact h2
  · have : (fun j => Ms.s m' (F + j)) = (fun j => Ms.s m (F + j)) := funext fun j => k.1 _ (by omega)
    rw [this]; exact h4
/-- the model may go on: its tide is at most B -/
def Gd (B : Nat) (m : Ms) : Prop := rl B (Ms.s m 0) ∧ hU m ∧ hH m ∧ hS m
theorem Gd.ht {B : Nat} {m : Ms} (g : Gd B m) (h : B ≤ 1000000) : hT m := by unfold hT; rw [c0]; exact g.1.mono h
theorem Gd.mono {B B' : Nat} {m : Ms} (g : Gd B m) (h : B ≤ B') : Gd B' m := ⟨g.1.mono h, g.2⟩
theorem Gd.kp {B B' a : Nat} {m m' : Ms} (g : Gd B m) (k : Kp a m m') (ha : a ≤ 17) (h0 : rl B' (Ms.s m' 0)) : Gd B' m' := ⟨h0, g.2.1.kp k ha, g.2.2.1.kp k ha, g.2.2.2.kp g.2.2.1 k ha⟩
theorem Gd.k0 {B : Nat} {m m' : Ms} (g : Gd B m) (k : Kp 0 m m') : Gd B m' := g.kp k (by omega) (by rw [k.1 0 (by omega)]; exact g.1)
theorem ef_keeps_l (m : Ms) : ∀ (n k : Nat) (i : Int32) (fr : Fn), k ≤ 17 → n + k = 18 → i = nI k → (∀ j, j < k → fr j = Ms.s m j) → Kp 0 m (l_X12_keeps_2 m n i fr) ∧ ∀ j, j < 17 → Ms.fr (l_X12_keeps_2 m n i fr) j = Ms.s m j := by
  intro n
  induction n with
  | zero => intro k i fr h1 h2; omega
  | succ n ih =>
    intro k i fr h1 h2 h3 h4
    rw [q_X12_keeps_2]
    by_cases c : nI 17 ≤ i
    · rw [if_pos c]
      rw [h3, nI_leI (by omega) (by omega)] at c
      exact ⟨⟨fun _ _ => rfl, rfl, rfl, rfl, rfl⟩, fun j hj => h4 j (by omega)⟩
    · rw [if_neg c]
      have hk := cnt_lt h3 h1 (by decide) c
      refine ih (k + 1) _ _ (by omega) (by omega) (by rw [h3]; exact nI_add k 1) ?_
      intro j hj
      rw [h3, nI_clamp (by omega)]
      by_cases e : j = k
      · rw [e, pk_us]
      · rw [pk_un e]; exact h4 j (by omega)
theorem ef_keeps (m : Ms) : Kp 0 m (m_X12_keeps m) ∧ ∀ j, j < 17 → Ms.fr (m_X12_keeps m) j = Ms.s m j := ef_keeps_l m 18 0 _ _ (by decide) rfl rfl (fun j hj => by omega)
theorem ef_goesBack_l (m : Ms) : ∀ (n k : Nat) (i : Int32) (s : Fn), k ≤ 17 → n + k = 18 → i = nI k → (∀ j, j < k → s j = Ms.fr m j) → (∀ j, 17 ≤ j → s j = Ms.s m j) → Kp 17 m (l_X12_goesBack_2 m n i s) ∧ Ms.fr (l_X12_goesBack_2 m n i s) = Ms.fr m ∧ ∀ j, j < 17 → Ms.s (l_X12_goesBack_2 m n i s) j = Ms.fr m j := by
  intro n
  induction n with
  | zero => intro k i fr h1 h2; omega
  | succ n ih =>
    intro k i s h1 h2 h3 h4 h5
    rw [q_X12_goesBack_2]
    by_cases c : nI 17 ≤ i
    · rw [if_pos c]
      rw [h3, nI_leI (by omega) (by omega)] at c
      exact ⟨⟨fun j hj => h5 j hj, rfl, rfl, rfl, rfl⟩, rfl, fun j hj => h4 j (by omega)⟩
    · rw [if_neg c]
      have hk := cnt_lt h3 h1 (by decide) c
      have e3 : i.toNatClampNeg = k := by rw [h3, nI_clamp (by omega)]
      rw [e3]
      refine ih (k + 1) _ _ (by omega) (by omega) (by rw [h3]; exact nI_add k 1) ?_ ?_
      · intro j hj
        by_cases e : j = k
        · rw [e, pk_us]
        · rw [pk_un e]; exact h4 j (by omega)
      · intro j hj
        rw [pk_un (by omega)]; exact h5 j hj
theorem ef_goesBack (m : Ms) : Kp 17 m (m_X12_goesBack m) ∧ Ms.fr (m_X12_goesBack m) = Ms.fr m ∧ ∀ j, j < 17 → Ms.s (m_X12_goesBack m) j = Ms.fr m j := ef_goesBack_l m 18 0 _ _ (by decide) rfl rfl (fun j hj => by omega) (fun _ _ => rfl)
theorem kp_back {m m2 : Ms} (k : Kp 17 m m2) (h : ∀ j, j < 17 → Ms.fr m2 j = Ms.s m j) : Kp 0 m (m_X12_goesBack m2) := by
  have e := ef_goesBack m2
  refine ⟨fun i _ => ?_, (k.tr e.1).2⟩
  by_cases c : i < 17
  · rw [e.2.2 i c, h i c]
  · exact (k.tr e.1).1 i (by omega)
theorem ef_looksAnew (m : Ms) : Kp 0 m (m_X12_looksAnew m) ∧ Ms.fr (m_X12_looksAnew m) = Ms.fr m := ⟨⟨fun _ _ => rfl, rfl, rfl, rfl, rfl⟩, rfl⟩
theorem ef_goesBy_57 (m : Ms) (le p : Int32) (m1 : Ms) : ∀ (n k : Nat) (b : Int32) (s1 : Fn), k ≤ 6 → n + k = 7 → b = nI k → rl 6 (s1 17) → (∀ i, 7 ≤ i → s1 i = Ms.s m1 i) → s1 0 = Ms.s m1 0 → Kp 7 m1 (l_X12_goesBy_57 m le p m1 n b s1) ∧ Ms.fr (l_X12_goesBy_57 m le p m1 n b s1) = Ms.fr m1 ∧ Ms.s (l_X12_goesBy_57 m le p m1 n b s1) 0 = Ms.s m1 0 + nI 1 := by
  intro n
  induction n with
  | zero => intro k b s1 h1 h2; omega
  | succ n ih =>
    intro k b s1 h1 h2 h3 h4 h5 h6
    rw [q_X12_goesBy_57]
    by_cases c : s1 (nI 17).toNatClampNeg ≤ b
    · rw [if_pos c]
      refine ⟨⟨fun i hi => ?_, rfl, rfl, rfl, rfl⟩, rfl, ?_⟩
      · refine Eq.trans (pk_un ?_) (h5 i hi)
        rw [c0]; omega
      · show upd s1 (nI 0).toNatClampNeg (s1 (nI 0).toNatClampNeg + nI 1) 0 = Ms.s m1 0 + nI 1
        rw [c0, pk_us, h6]
    · rw [if_neg c]
      have hk := lt17 (by rw [c17]; exact h4) h3 h1 c
      have e3 : (nI 1 + b).toNatClampNeg = 1 + k := by rw [h3, nI_add, nI_clamp (by omega)]
      rw [e3]
      refine ih (k + 1) _ _ (by omega) (by omega) (by rw [h3]; exact nI_add k 1) (by rw [pk_un (by omega)]; exact h4) (fun i hi => by rw [pk_un (by omega)]; exact h5 i hi) (by rw [pk_un (by omega)]; exact h6)
theorem Kp.fr2 {a b : Ms} {c : Int32} (k : Kp 7 a b ∧ Ms.fr b = Ms.fr a ∧ Ms.s b 0 = Ms.s a 0 + c) {m : Ms} (h : Cn m a) : Kp 7 m b ∧ Ms.fr b = Ms.fr m ∧ Ms.s b 0 = Ms.s m 0 + c :=
  ⟨((Kp.cn h).mono (by omega)).tr k.1, k.2.1.trans h.2.2.1, by rw [k.2.2, h.1]⟩
theorem ef_goesBy_2 (m : Ms) (le : Int32) (hu : hU m) : ∀ (n k : Nat) (p : Int32) (m1 : Ms), k ≤ 6 → n + k = 7 → p = nI k → Cn m m1 → Kp 7 m (l_X12_goesBy_2 m le n p m1) ∧ Ms.fr (l_X12_goesBy_2 m le n p m1) = Ms.fr m ∧ Ms.s (l_X12_goesBy_2 m le n p m1) 0 = Ms.s m 0 + nI 1 := by
  intro n
  induction n with
  | zero => intro k b s1 h1 h2; omega
  | succ n ih =>
    intro k p m1 h1 h2 h3 h4
    rw [q_X12_goesBy_2]
    by_cases c : Ms.s m1 (nI 17).toNatClampNeg ≤ p
    · rw [if_pos c]
      exact Kp.fr2 (ef_goesBy_57 m le p m1 7 0 _ _ (by decide) rfl rfl (by rw [← c17]; exact hu.s h4.1) (fun _ _ => rfl) rfl) h4
    · rw [if_neg c]
      have hk := hU_lt (hu.s h4.1) h3 h1 c
      by_cases c2 : Ms.s m1 (nI 7 + p).toNatClampNeg = nI 1
      · rw [if_pos c2]
        exact ih (k + 1) _ _ (by omega) (by omega) (by rw [h3]; exact nI_add k 1) (h4.nx _)
      · rw [if_neg c2]
        exact ih (k + 1) _ _ (by omega) (by omega) (by rw [h3]; exact nI_add k 1) ((h4.tr (cq_knownNext m1 p le).cn).nx _)
theorem ef_goesBy {B : Nat} {m : Ms} (g : Gd B m) (le : Int32) : Gd (B + 1) (m_X12_goesBy m le) ∧ Kp 7 m (m_X12_goesBy m le) ∧ Ms.fr (m_X12_goesBy m le) = Ms.fr m ∧ Ms.s (m_X12_goesBy m le) 0 = Ms.s m 0 + nI 1 := by
  have h : Kp 7 m (m_X12_goesBy m le) ∧ Ms.fr (m_X12_goesBy m le) = Ms.fr m ∧ Ms.s (m_X12_goesBy m le) 0 = Ms.s m 0 + nI 1 := ef_goesBy_2 m le g.2.1 7 0 (nI 0) m (by decide) rfl rfl (Cn.rf m)
  exact ⟨g.kp h.1 (by omega) (by rw [h.2.2]; exact g.1.up), h⟩
theorem vp_les {t : Int32} (ht : rl 1000000 t) : vp_in (nI 13 + (t - t / nI 4 * nI 4)) 927 := by
  obtain ⟨k, hk, rfl⟩ := ht
  rw [pk_rem (by omega) (by decide) (by decide), nI_add]
  exact vp_in_nI (by omega) (by decide)
theorem in_of {v : Int32} {N : Nat} (h : ¬ m_X12_in v (nI 0) (nI N) = 0) (hN : N < 2 ^ 31) : ∃ k, k ≤ N ∧ v = nI k := by
  unfold m_X12_in at h
  by_cases c : v < nI 0
  · rw [if_pos c] at h; exact absurd rfl h
  · rw [if_neg c] at h
    by_cases c2 : nI N < v
    · rw [if_pos c2] at h; exact absurd rfl h
    · rcases pk_ix v hN with q | q | ⟨j, hj, rfl⟩
      · exact absurd q c
      · refine ⟨N, by omega, ?_⟩
        exact Int32.le_antisymm (Int32.not_lt.mp c2) q
      · exact ⟨j, by omega, rfl⟩
theorem vp_m10 {x : Int32} {a : Nat} (h : vp_in (x - nI 10) 6) (ha : a + 6 ≤ 927) : vp_in ((nI a + x) - nI 10) 927 := by
  have e : (nI a + x) - nI 10 = nI a + (x - nI 10) := by rw [Int32.sub_eq_add_neg, Int32.sub_eq_add_neg, Int32.add_assoc]
  rw [e]
  exact vp_ad a h ha (by decide)
theorem ur_of {m : Ms} (hu : hU m) {p : Int32} (h : ¬ m_X12_isUrchin (Ms.s m) p = 0) : vp_in p 6 := by
  obtain ⟨q, hq, e⟩ := hu
  unfold m_X12_isUrchin at h
  rw [e] at h
  by_cases z : q = 0
  · subst z
    exfalso
    apply h
    unfold m_X12_in
    by_cases c : p < nI 0
    · rw [if_pos c]; rfl
    · rw [if_neg c, if_pos]; · rfl
      have : (nI 0 - nI 1 : Int32) < nI 0 := by decide
      exact Int32.lt_of_lt_of_le this (Int32.not_lt.mp c)
  · rw [pk_sub (by omega)] at h
    obtain ⟨k, hk, rfl⟩ := in_of h (by omega)
    exact vp_in_nI (by omega) (by decide)
theorem fa_of {f : Int32} (h : ¬ m_X12_isFact f = 0) : vp_in f 8 := by
  unfold m_X12_isFact at h
  obtain ⟨k, hk, rfl⟩ := in_of h (by decide)
  exact vp_in_nI (by omega) (by decide)
def m_X12_goes (m : Ms) : Ms := bindv (m_X12_goesBy m (Ms.s m (nI 13 + ((Ms.s m (nI 0).toNatClampNeg) - (Ms.s m (nI 0).toNatClampNeg) / nI 4 * nI 4)).toNatClampNeg)) (fun r1 => r1)
set_option maxRecDepth 100000 in
set_option maxHeartbeats 4000000 in
theorem c_X12_goes (l : Launch) {fv : Value} (hf : FV fv) (m : Ms) {B : Nat} (hg : Gd B m) (hB : B ≤ 999999) : CT l fv 8 jX12_goes [.ref 0] (hMs m) (DP none (hMs (m_X12_goes m))) := by
  refine CT_of [] mt_X12_goes (by decide +kernel) (tab_X12 hf) okX12_goes (Nat.le_of_ble_eq_true rfl) ?_
  intro J hJ hD
  refine hJ 0 _ _ _ ?_
  refine And.intro (vp_in_nI (by decide) (by decide)) ?_
  refine And.intro (by decide) ?_
  refine And.intro (vp_les (by have := hg.ht (by omega); exact this)) ?_
  obtain ⟨r1, er1⟩ : ∃ z : Ms, m_X12_goesBy m (Ms.s m (nI 13 + ((Ms.s m (nI 0).toNatClampNeg) - (Ms.s m (nI 0).toNatClampNeg) / nI 4 * nI 4)).toNatClampNeg) = z := ⟨_, rfl⟩
  have hr1 := c_X12_goesBy l hf m (Ms.s m (nI 13 + ((Ms.s m (nI 0).toNatClampNeg) - (Ms.s m (nI 0).toNatClampNeg) / nI 4 * nI 4)).toNatClampNeg) (hg.2.1) (hg.ht (by omega)) (hg.2.2.1) (hg.2.2.2)
  rw [er1] at hr1
  refine CALL_same (r := none) (h1 := hMs r1) (by decide) (hr1) ?_
  exact And.intro rfl (DPs (F := (fun z => hMs z)) (s' := r1) (bindv_eq er1))
theorem ef_goes {B : Nat} {m : Ms} (g : Gd B m) : Gd (B + 1) (m_X12_goes m) ∧ Kp 7 m (m_X12_goes m) ∧ Ms.fr (m_X12_goes m) = Ms.fr m ∧ Ms.s (m_X12_goes m) 0 = Ms.s m 0 + nI 1 := ef_goesBy g _
def l_X12_goesOn_2 (m : Ms) (n : Int32) : Nat → Int32 → Ms → Ms
  | 0, _, _ => m
  | n2 + 1, k, m1 => if n ≤ k then m1 else (bindv (m_X12_goes m1) (fun r2 => l_X12_goesOn_2 m n n2 (k + nI 1) r2))
theorem q_X12_goesOn_2 (m : Ms) (n : Int32) (n2 : Nat) (k : Int32) (m1 : Ms) : l_X12_goesOn_2 m n (n2 + 1) k m1 = (if n ≤ k then m1 else (bindv (m_X12_goes m1) (fun r2 => l_X12_goesOn_2 m n n2 (k + nI 1) r2))) := rfl
def m_X12_goesOn (m : Ms) (n : Int32) : Ms := l_X12_goesOn_2 m n (n.toNatClampNeg + 1) (nI 0) m
set_option maxRecDepth 100000 in
set_option maxHeartbeats 4000000 in
theorem c_X12_goesOn (l : Launch) {fv : Value} (hf : FV fv) (m : Ms) (n : Int32) {B N : Nat} (hn : n = nI N) (hB : B + N ≤ 1000000) (hN : N ≤ 1000) (hg : Gd B m) : CT l fv 9 jX12_goesOn [.ref 0, .int n] (hMs m) (DP none (hMs (m_X12_goesOn m n))) := by
  refine CT_of [2] mt_X12_goesOn (by decide +kernel) (tab_X12 hf) okX12_goesOn (Nat.le_of_ble_eq_true rfl) ?_
  intro J hJ hD
  refine hJ 0 _ _ _ ?_
  have L2 : ∀ (n2 : Nat) (k : Int32) (m1 : Ms), (∃ z9 : Nat, z9 ≤ N ∧ n2 + z9 = N + 1 ∧ k = nI z9 ∧ Gd (B + z9) m1) → m_X12_goesOn m n = l_X12_goesOn_2 m n n2 k m1 → J 2 [(0, .ref 0), (1, .int n), (2, .int k)] [] (hMs m1) := by
    intro n2
    induction n2 with
    | zero =>
      intro k m1 hv
      obtain ⟨z9, h1, h2, h3, h5⟩ := hv
      omega
    | succ n2 ih2 =>
      intro k m1 hv e2
      obtain ⟨z9, h1, h2, h3, h5⟩ := hv
      refine hJ 2 _ _ _ ?_
      refine And.intro (fun c1 => ?_) (fun c1 => ?_)
      · skip
        refine hJ 17 _ _ _ ?_
        exact And.intro rfl (DPs (F := (fun z => hMs z)) (s' := m1) (e2.trans ((q_X12_goesOn_2 m n n2 k m1).trans (if_pos c1))))
      · skip
        have h4 : z9 < N := cnt_lt h3 h1 (by omega) (by rw [← hn]; exact c1)
        obtain ⟨r2, er2⟩ : ∃ z : Ms, m_X12_goes m1 = z := ⟨_, rfl⟩
        have hr2 := c_X12_goes l hf m1 h5 (by omega)
        rw [er2] at hr2
        have h6 := (ef_goes h5).1; rw [er2] at h6
        refine CALL_same (r := none) (h1 := hMs r2) (by decide) (hr2) ?_
        exact hD _ _ [1, 2, 0] _ _ (ih2 _ _ ⟨z9 + 1, by omega, by omega, by rw [h3]; exact nI_add z9 1, h6⟩ (e2.trans ((q_X12_goesOn_2 m n n2 k m1).trans ((if_neg c1).trans (bindv_eq er2)))))
  exact hD _ _ [1, 2, 0] _ _ (L2 (n.toNatClampNeg + 1) _ _ ⟨0, by omega, by rw [hn, nI_clamp (by omega)], rfl, hg⟩ (rfl))
theorem ef_goesOn_l (m : Ms) (x : Int32) {N B : Nat} (hx : x = nI N) (hN : N ≤ 1000) : ∀ (n k : Nat) (i : Int32) (m1 : Ms), k ≤ N → n + k = N + 1 → i = nI k → Gd (B + k) m1 → Kp 7 m m1 → Ms.fr m1 = Ms.fr m → Gd (B + N) (l_X12_goesOn_2 m x n i m1) ∧ Kp 7 m (l_X12_goesOn_2 m x n i m1) ∧ Ms.fr (l_X12_goesOn_2 m x n i m1) = Ms.fr m := by
  intro n
  induction n with
  | zero => intro k i m1 h1 h2; omega
  | succ n ih =>
    intro k i m1 h1 h2 h3 h4 h5 h6
    rw [q_X12_goesOn_2]
    by_cases c : x ≤ i
    · rw [if_pos c]
      exact ⟨h4.mono (by omega), h5, h6⟩
    · rw [if_neg c]
      have hk : k < N := cnt_lt h3 h1 (by omega) (by rw [← hx]; exact c)
      have e := ef_goes h4
      exact ih (k + 1) _ _ (by omega) (by omega) (by rw [h3]; exact nI_add k 1) e.1 (h5.tr e.2.1) (e.2.2.1.trans h6)
theorem ef_goesOn {B N : Nat} {m : Ms} {x : Int32} (hx : x = nI N) (hN : N ≤ 1000) (g : Gd B m) : Gd (B + N) (m_X12_goesOn m x) ∧ Kp 7 m (m_X12_goesOn m x) ∧ Ms.fr (m_X12_goesOn m x) = Ms.fr m := ef_goesOn_l m x hx hN _ 0 _ _ (by omega) (by rw [hx, nI_clamp (by omega)]) rfl g (Kp.rf 7 m) rfl
def m_X12_pass (m : Ms) (n : Int32) : Int32 × Ms := if (m_X12_in n (nI 0) (nI 60)) = 0 then ((-nI 2), m) else (if ((Ms.s m (nI 0).toNatClampNeg) + n) ≤ nI 9999 then (bindv (m_X12_looksAnew m) (fun r3 => bindv (m_X12_goesOn r3 n) (fun r4 => ((Ms.s r4 (nI 0).toNatClampNeg), r4)))) else ((-nI 3), m))
set_option maxRecDepth 100000 in
set_option maxHeartbeats 4000000 in
theorem c_X12_pass (l : Launch) {fv : Value} (hf : FV fv) (m : Ms) (n : Int32) (hg : Gd 9999 m) : CT l fv 10 jX12_pass [.ref 0, .int n] (hMs m) (DP (some (.int (m_X12_pass m n).1)) (hMs ((m_X12_pass m n).2))) := by
  refine CT_of [] mt_X12_pass (by decide +kernel) (tab_X12 hf) okX12_pass (Nat.le_of_ble_eq_true rfl) ?_
  intro J hJ hD
  refine hJ 0 _ _ _ ?_
  refine CALL_sub (h' := hMs m) [] (by decide) (c_X12_in l hf n (nI 0) (nI 60)) rfl rfl (by decide) (by decide) rfl ?_
  refine And.intro (fun c1 => ?_) (fun c1 => ?_)
  · skip
    obtain ⟨N, hN, hn⟩ := in_of c1 (by decide)
    refine hJ 13 _ _ _ ?_
    refine And.intro (vp_in_nI (by decide) (by decide)) ?_
    refine And.intro (fun c2 => ?_) (fun c2 => ?_)
    · skip
      refine hJ 30 _ _ _ ?_
      obtain ⟨r3, er3⟩ : ∃ z : Ms, m_X12_looksAnew m = z := ⟨_, rfl⟩
      have hr3 := c_X12_looksAnew l hf m
      rw [er3] at hr3
      have h1 := hg.k0 (ef_looksAnew m).1; rw [er3] at h1
      refine CALL_same (r := none) (h1 := hMs r3) (by decide) (hr3) ?_
      obtain ⟨r4, er4⟩ : ∃ z : Ms, m_X12_goesOn r3 n = z := ⟨_, rfl⟩
      have hr4 := c_X12_goesOn l hf r3 n (B := 9999) hn (by omega) (by omega) h1
      rw [er4] at hr4
      refine CALL_same (r := none) (h1 := hMs r4) (by decide) (hr4) ?_
      refine And.intro (vp_in_nI (by decide) (by decide)) ?_
      exact And.intro True.intro (DPis (F := (fun z => hMs z)) (s' := r4) ((if_neg c1).trans ((if_pos c2).trans ((bindv_eq er3).trans (bindv_eq er4)))))
    · skip
      exact And.intro True.intro (DPis (F := (fun z => hMs z)) (s' := m) ((if_neg c1).trans (if_neg c2)))
  · skip
    exact And.intro True.intro (DPis (F := (fun z => hMs z)) (s' := m) (if_pos c1))
theorem in01 {v : Int32} (h : ¬ m_X12_in v (nI 0) (nI 1) = 0) : v = 0 ∨ v = nI 1 := by
  obtain ⟨k, hk, rfl⟩ := in_of h (by decide)
  have : k = 0 ∨ k = 1 := by omega
  rcases this with rfl | rfl
  · exact Or.inl rfl
  · exact Or.inr rfl
theorem cnt_le {k N : Nat} {i : Int32} (hi : i = nI k) (hk : k < 2 ^ 31) (hN : N < 2 ^ 31) (c : ¬ nI N < i) : k ≤ N := by
  rw [hi] at c
  have h := Int32.not_lt.mp c
  rw [nI_leI hk hN] at h
  exact h
def m_X12_on (m : Ms) (n : Int32) (what : Int32) : Int32 × Ms := if (m_X12_in what (nI 0) (nI 1)) = 0 then (if (m_X12_isUrchin (Ms.s m) (what - nI 10)) = 0 then ((-nI 1), m) else (if (m_X12_in n (nI 0) (nI 60)) = 0 then ((-nI 2), m) else (bindv (m_X12_looksAnew m) (fun r12 => bindv (m_X12_keeps r12) (fun r13 => bindv (m_X12_goesOn r13 n) (fun r14 => bindv (if what = 0 then (m_X12_knownByAny (Ms.s r14)) else (if what = nI 1 then (m_X12_heldByAll (Ms.s r14)) else (Ms.s r14 ((nI 1 + what) - nI 10).toNatClampNeg))) (fun x15_0 => bindv (m_X12_goesBack r14) (fun r16 => (x15_0, r16))))))))) else (if (m_X12_in n (nI 0) (nI 60)) = 0 then ((-nI 2), m) else (bindv (m_X12_looksAnew m) (fun r3 => bindv (m_X12_keeps r3) (fun r4 => bindv (m_X12_goesOn r4 n) (fun r5 => bindv (if what = 0 then (m_X12_knownByAny (Ms.s r5)) else (if what = nI 1 then (m_X12_heldByAll (Ms.s r5)) else (Ms.s r5 ((nI 1 + what) - nI 10).toNatClampNeg))) (fun x6_0 => bindv (m_X12_goesBack r5) (fun r7 => (x6_0, r7))))))))
set_option maxRecDepth 100000 in
set_option maxHeartbeats 4000000 in
theorem c_X12_on (l : Launch) {fv : Value} (hf : FV fv) (m : Ms) (n : Int32) (what : Int32) (hg : Gd 9999 m) : CT l fv 10 jX12_on [.ref 0, .int n, .int what] (hMs m) (DP (some (.int (m_X12_on m n what).1)) (hMs ((m_X12_on m n what).2))) := by
  refine CT_of [82] mt_X12_on (by decide +kernel) (tab_X12 hf) okX12_on (Nat.le_of_ble_eq_true rfl) ?_
  intro J hJ hD
  refine hJ 0 _ _ _ ?_
  refine CALL_sub (h' := hMs m) [] (by decide) (c_X12_in l hf what (nI 0) (nI 1)) rfl rfl (by decide) (by decide) rfl ?_
  refine And.intro (fun c1 => ?_) (fun c1 => ?_)
  · skip
    have hw : ¬ m_X12_in what (nI 0) (nI 1) = 0 := c1
    refine hJ 22 _ _ _ ?_
    refine CALL_sub (h' := hMs m) [] (by decide) (c_X12_in l hf n (nI 0) (nI 60)) rfl rfl (by decide) (by decide) rfl ?_
    refine And.intro (fun c2 => ?_) (fun c2 => ?_)
    · skip
      obtain ⟨N, hN, hn⟩ := in_of c2 (by decide)
      refine hJ 35 _ _ _ ?_
      obtain ⟨r3, er3⟩ : ∃ z : Ms, m_X12_looksAnew m = z := ⟨_, rfl⟩
      have hr3 := c_X12_looksAnew l hf m
      rw [er3] at hr3
      have h1 := hg.k0 (ef_looksAnew m).1; rw [er3] at h1
      refine CALL_same (r := none) (h1 := hMs r3) (by decide) (hr3) ?_
      obtain ⟨r4, er4⟩ : ∃ z : Ms, m_X12_keeps r3 = z := ⟨_, rfl⟩
      have hr4 := c_X12_keeps l hf r3
      rw [er4] at hr4
      have h2 := h1.k0 (ef_keeps _).1; rw [er4] at h2
      refine CALL_same (r := none) (h1 := hMs r4) (by decide) (hr4) ?_
      obtain ⟨r5, er5⟩ : ∃ z : Ms, m_X12_goesOn r4 n = z := ⟨_, rfl⟩
      have hr5 := c_X12_goesOn l hf r4 n (B := 9999) hn (by omega) (by omega) h2
      rw [er5] at hr5
      have h3 := (ef_goesOn hn (by omega) h2).1; rw [er5] at h3
      refine CALL_same (r := none) (h1 := hMs r5) (by decide) (hr5) ?_
      have K6 : ∀ (x6_0 : Int32), (if what = 0 then (m_X12_knownByAny (Ms.s r5)) else (if what = nI 1 then (m_X12_heldByAll (Ms.s r5)) else (Ms.s r5 ((nI 1 + what) - nI 10).toNatClampNeg))) = x6_0 → J 82 [(0, .ref 0)] [.int x6_0] (hMs r5) := by
        intro x6_0 ex6_0
        refine hJ 82 _ _ _ ?_
        obtain ⟨r7, er7⟩ : ∃ z : Ms, m_X12_goesBack r5 = z := ⟨_, rfl⟩
        have hr7 := c_X12_goesBack l hf r5
        rw [er7] at hr7
        refine CALL_same (r := none) (h1 := hMs r7) (by decide) (hr7) ?_
        exact And.intro True.intro (DPis (F := (fun z => hMs z)) (s' := r7) ((if_neg c1).trans ((if_neg c2).trans ((bindv_eq er3).trans ((bindv_eq er4).trans ((bindv_eq er5).trans ((bindv_eq ex6_0).trans (bindv_eq er7))))))))
      refine And.intro (fun c8 => ?_) (fun c8 => ?_)
      · skip
        have w0 : ¬ what = 0 := c8
        refine hJ 59 _ _ _ ?_
        refine And.intro (fun c9 => ?_) (fun c9 => ?_)
        · skip
          have w1 : ¬ what = nI 1 := c9
          refine hJ 71 _ _ _ ?_
          refine And.intro (by first | exact vp_m10 hv (by decide) | exact absurd (in01 hw) (fun q => q.elim w0 w1)) ?_
          exact hD _ _ [0] _ _ (K6 _ ((if_neg c8).trans (if_neg c9)))
        · skip
          refine CALL_same (r := some (.int (m_X12_heldByAll (Ms.s r5)))) (h1 := hMs r5) (by decide) (c_X12_heldByAll l hf r5 h3.2.1) ?_
          exact hD _ _ [0] _ _ (K6 _ ((if_neg c8).trans (if_pos c9)))
      · skip
        refine CALL_same (r := some (.int (m_X12_knownByAny (Ms.s r5)))) (h1 := hMs r5) (by decide) (c_X12_knownByAny l hf r5 h3.2.1) ?_
        exact hD _ _ [0] _ _ (K6 _ (if_pos c8))
    · skip
      exact And.intro True.intro (DPis (F := (fun z => hMs z)) (s' := m) ((if_neg c1).trans (if_pos c2)))
  · skip
    refine CALL_same (r := some (.int (m_X12_isUrchin (Ms.s m) (what - nI 10)))) (h1 := hMs m) (by decide) (c_X12_isUrchin l hf m (what - nI 10)) ?_
    refine And.intro (fun c10 => ?_) (fun c10 => ?_)
    · skip
      have hv := ur_of hg.2.1 c10
      refine hJ 22 _ _ _ ?_
      refine CALL_sub (h' := hMs m) [] (by decide) (c_X12_in l hf n (nI 0) (nI 60)) rfl rfl (by decide) (by decide) rfl ?_
      refine And.intro (fun c11 => ?_) (fun c11 => ?_)
      · skip
        obtain ⟨N, hN, hn⟩ := in_of c11 (by decide)
        refine hJ 35 _ _ _ ?_
        obtain ⟨r12, er12⟩ : ∃ z : Ms, m_X12_looksAnew m = z := ⟨_, rfl⟩
        have hr12 := c_X12_looksAnew l hf m
        rw [er12] at hr12
        have h1 := hg.k0 (ef_looksAnew m).1; rw [er12] at h1
        refine CALL_same (r := none) (h1 := hMs r12) (by decide) (hr12) ?_
        obtain ⟨r13, er13⟩ : ∃ z : Ms, m_X12_keeps r12 = z := ⟨_, rfl⟩
        have hr13 := c_X12_keeps l hf r12
        rw [er13] at hr13
        have h2 := h1.k0 (ef_keeps _).1; rw [er13] at h2
        refine CALL_same (r := none) (h1 := hMs r13) (by decide) (hr13) ?_
        obtain ⟨r14, er14⟩ : ∃ z : Ms, m_X12_goesOn r13 n = z := ⟨_, rfl⟩
        have hr14 := c_X12_goesOn l hf r13 n (B := 9999) hn (by omega) (by omega) h2
        rw [er14] at hr14
        have h3 := (ef_goesOn hn (by omega) h2).1; rw [er14] at h3
        refine CALL_same (r := none) (h1 := hMs r14) (by decide) (hr14) ?_
        have K15 : ∀ (x15_0 : Int32), (if what = 0 then (m_X12_knownByAny (Ms.s r14)) else (if what = nI 1 then (m_X12_heldByAll (Ms.s r14)) else (Ms.s r14 ((nI 1 + what) - nI 10).toNatClampNeg))) = x15_0 → J 82 [(0, .ref 0)] [.int x15_0] (hMs r14) := by
          intro x15_0 ex15_0
          refine hJ 82 _ _ _ ?_
          obtain ⟨r16, er16⟩ : ∃ z : Ms, m_X12_goesBack r14 = z := ⟨_, rfl⟩
          have hr16 := c_X12_goesBack l hf r14
          rw [er16] at hr16
          refine CALL_same (r := none) (h1 := hMs r16) (by decide) (hr16) ?_
          exact And.intro True.intro (DPis (F := (fun z => hMs z)) (s' := r16) ((if_pos c1).trans ((if_neg c10).trans ((if_neg c11).trans ((bindv_eq er12).trans ((bindv_eq er13).trans ((bindv_eq er14).trans ((bindv_eq ex15_0).trans (bindv_eq er16)))))))))
        refine And.intro (fun c17 => ?_) (fun c17 => ?_)
        · skip
          have w0 : ¬ what = 0 := c17
          refine hJ 59 _ _ _ ?_
          refine And.intro (fun c18 => ?_) (fun c18 => ?_)
          · skip
            have w1 : ¬ what = nI 1 := c18
            refine hJ 71 _ _ _ ?_
            refine And.intro (by first | exact vp_m10 hv (by decide) | exact absurd (in01 hw) (fun q => q.elim w0 w1)) ?_
            exact hD _ _ [0] _ _ (K15 _ ((if_neg c17).trans (if_neg c18)))
          · skip
            refine CALL_same (r := some (.int (m_X12_heldByAll (Ms.s r14)))) (h1 := hMs r14) (by decide) (c_X12_heldByAll l hf r14 h3.2.1) ?_
            exact hD _ _ [0] _ _ (K15 _ ((if_neg c17).trans (if_pos c18)))
        · skip
          refine CALL_same (r := some (.int (m_X12_knownByAny (Ms.s r14)))) (h1 := hMs r14) (by decide) (c_X12_knownByAny l hf r14 h3.2.1) ?_
          exact hD _ _ [0] _ _ (K15 _ (if_pos c17))
      · skip
        exact And.intro True.intro (DPis (F := (fun z => hMs z)) (s' := m) ((if_pos c1).trans ((if_neg c10).trans (if_pos c11))))
    · skip
      exact And.intro True.intro (DPis (F := (fun z => hMs z)) (s' := m) ((if_pos c1).trans (if_pos c10)))
def l_X12_tidesKnown_5 (m : Ms) (fact : Int32) : Nat → Int32 → Int32 → Ms → Int32 × Ms
  | 0, _, _, _ => (0, m)
  | n5 + 1, fo, n, m1 => if nI 60 < n then (bindv (m_X12_goesBack m1) (fun r2 => (fo, r2))) else (if fo = nI 61 then (bindv (if (((m_X12_knownByAny (Ms.s m1)) >>> (fact &&& 31)) &&& nI 1) = 0 then n else (nI 61)) (fun x5_0 => bindv (m_X12_goes m1) (fun r6 => l_X12_tidesKnown_5 m fact n5 x5_0 (n + nI 1) r6))) else (bindv (m_X12_goesBack m1) (fun r4 => (fo, r4))))
theorem q_X12_tidesKnown_5 (m : Ms) (fact : Int32) (n5 : Nat) (fo : Int32) (n : Int32) (m1 : Ms) : l_X12_tidesKnown_5 m fact (n5 + 1) fo n m1 = (if nI 60 < n then (bindv (m_X12_goesBack m1) (fun r2 => (fo, r2))) else (if fo = nI 61 then (bindv (if (((m_X12_knownByAny (Ms.s m1)) >>> (fact &&& 31)) &&& nI 1) = 0 then n else (nI 61)) (fun x5_0 => bindv (m_X12_goes m1) (fun r6 => l_X12_tidesKnown_5 m fact n5 x5_0 (n + nI 1) r6))) else (bindv (m_X12_goesBack m1) (fun r4 => (fo, r4))))) := rfl
def m_X12_tidesKnown (m : Ms) (fact : Int32) : Int32 × Ms := l_X12_tidesKnown_5 m fact 62 (nI 61) (nI 0) m
set_option maxRecDepth 100000 in
set_option maxHeartbeats 4000000 in
theorem c_X12_tidesKnown (l : Launch) {fv : Value} (hf : FV fv) (m : Ms) (fact : Int32) {B : Nat} (hg : Gd B m) (hB : B + 61 ≤ 1000000) : CT l fv 9 jX12_tidesKnown [.ref 0, .int fact] (hMs m) (DP (some (.int (m_X12_tidesKnown m fact).1)) (hMs ((m_X12_tidesKnown m fact).2))) := by
  refine CT_of [5, 34] mt_X12_tidesKnown (by decide +kernel) (tab_X12 hf) okX12_tidesKnown (Nat.le_of_ble_eq_true rfl) ?_
  intro J hJ hD
  refine hJ 0 _ _ _ ?_
  have L5 : ∀ (n5 : Nat) (fo : Int32) (n : Int32) (m1 : Ms), (∃ z9 : Nat, z9 ≤ 61 ∧ n5 + z9 = 62 ∧ n = nI z9 ∧ Gd (B + z9) m1) → m_X12_tidesKnown m fact = l_X12_tidesKnown_5 m fact n5 fo n m1 → J 5 [(0, .ref 0), (1, .int fact), (2, .int fo), (3, .int n)] [] (hMs m1) := by
    intro n5
    induction n5 with
    | zero =>
      intro fo n m1 hv
      obtain ⟨z9, h1, h2, h3, h5⟩ := hv
      omega
    | succ n5 ih5 =>
      intro fo n m1 hv e5
      obtain ⟨z9, h1, h2, h3, h5⟩ := hv
      refine hJ 5 _ _ _ ?_
      refine And.intro (fun c1 => ?_) (fun c1 => ?_)
      · skip
        refine hJ 45 _ _ _ ?_
        obtain ⟨r2, er2⟩ : ∃ z : Ms, m_X12_goesBack m1 = z := ⟨_, rfl⟩
        have hr2 := c_X12_goesBack l hf m1
        rw [er2] at hr2
        refine CALL_same (r := none) (h1 := hMs r2) (by decide) (hr2) ?_
        exact And.intro True.intro (DPis (F := (fun z => hMs z)) (s' := r2) (e5.trans ((q_X12_tidesKnown_5 m fact n5 fo n m1).trans ((if_pos c1).trans (bindv_eq er2)))))
      · skip
        have h4 : z9 ≤ 60 := cnt_le h3 (by omega) (by decide) c1
        refine And.intro (fun c3 => ?_) (fun c3 => ?_)
        · skip
          refine hJ 45 _ _ _ ?_
          obtain ⟨r4, er4⟩ : ∃ z : Ms, m_X12_goesBack m1 = z := ⟨_, rfl⟩
          have hr4 := c_X12_goesBack l hf m1
          rw [er4] at hr4
          refine CALL_same (r := none) (h1 := hMs r4) (by decide) (hr4) ?_
          exact And.intro True.intro (DPis (F := (fun z => hMs z)) (s' := r4) (e5.trans ((q_X12_tidesKnown_5 m fact n5 fo n m1).trans ((if_neg c1).trans ((if_neg c3).trans (bindv_eq er4))))))
        · skip
          refine CALL_same (r := some (.int (m_X12_knownByAny (Ms.s m1)))) (h1 := hMs m1) (by decide) (c_X12_knownByAny l hf m1 h5.2.1) ?_
          have K5 : ∀ (x5_0 : Int32), (if (((m_X12_knownByAny (Ms.s m1)) >>> (fact &&& 31)) &&& nI 1) = 0 then n else (nI 61)) = x5_0 → J 34 [(0, .ref 0), (1, .int fact), (3, .int n)] [.int x5_0] (hMs m1) := by
            intro x5_0 ex5_0
            refine hJ 34 _ _ _ ?_
            obtain ⟨r6, er6⟩ : ∃ z : Ms, m_X12_goes m1 = z := ⟨_, rfl⟩
            have hr6 := c_X12_goes l hf m1 h5 (by omega)
            rw [er6] at hr6
            have h6 := (ef_goes h5).1; rw [er6] at h6
            refine CALL_same (r := none) (h1 := hMs r6) (by decide) (hr6) ?_
            exact hD _ _ [2, 3, 1, 0] _ _ (ih5 _ _ _ ⟨z9 + 1, by omega, by omega, by rw [h3]; exact nI_add z9 1, h6⟩ (e5.trans ((q_X12_tidesKnown_5 m fact n5 fo n m1).trans ((if_neg c1).trans ((if_pos c3).trans ((bindv_eq ex5_0).trans (bindv_eq er6)))))))
          refine And.intro (fun c7 => ?_) (fun c7 => ?_)
          · skip
            refine hJ 32 _ _ _ ?_
            exact hD _ _ [0, 1, 3] _ _ (K5 _ (if_neg c7))
          · skip
            exact hD _ _ [0, 1, 3] _ _ (K5 _ (if_pos c7))
  exact hD _ _ [2, 3, 1, 0] _ _ (L5 62 _ _ _ ⟨0, by omega, by omega, rfl, hg⟩ (rfl))
theorem ef_tidesKnown_l (m : Ms) (fact : Int32) {B : Nat} : ∀ (n k : Nat) (fo i : Int32) (m1 : Ms), k ≤ 61 → n + k = 62 → i = nI k → Gd (B + k) m1 → Kp 7 m m1 → Ms.fr m1 = Ms.fr m → Kp 17 m (l_X12_tidesKnown_5 m fact n fo i m1).2 ∧ Ms.fr (l_X12_tidesKnown_5 m fact n fo i m1).2 = Ms.fr m ∧ ∀ j, j < 17 → Ms.s (l_X12_tidesKnown_5 m fact n fo i m1).2 j = Ms.fr m j := by
  intro n
  induction n with
  | zero => intro k fo i m1 h1 h2; omega
  | succ n ih =>
    intro k fo i m1 h1 h2 h3 h4 h5 h6
    have fin : Kp 17 m (m_X12_goesBack m1) ∧ Ms.fr (m_X12_goesBack m1) = Ms.fr m ∧ ∀ j, j < 17 → Ms.s (m_X12_goesBack m1) j = Ms.fr m j :=
      ⟨(h5.mono (by omega)).tr (ef_goesBack m1).1, (ef_goesBack m1).2.1.trans h6, fun j hj => ((ef_goesBack m1).2.2 j hj).trans (by rw [h6])⟩
    rw [q_X12_tidesKnown_5]
    by_cases c : nI 60 < i
    · rw [if_pos c]; exact fin
    · rw [if_neg c]
      have hk : k ≤ 60 := cnt_le h3 (by omega) (by decide) c
      have e := ef_goes h4
      (repeat' split) <;> first | exact fin | exact ih (k + 1) _ _ _ (by omega) (by omega) (by rw [h3]; exact nI_add k 1) e.1 (h5.tr e.2.1) (e.2.2.1.trans h6)
theorem ef_tidesKnown {B : Nat} {m : Ms} (fact : Int32) (g : Gd B m) : Kp 17 m (m_X12_tidesKnown m fact).2 ∧ Ms.fr (m_X12_tidesKnown m fact).2 = Ms.fr m ∧ ∀ j, j < 17 → Ms.s (m_X12_tidesKnown m fact).2 j = Ms.fr m j := ef_tidesKnown_l m fact 62 0 _ _ _ (by omega) rfl rfl g (Kp.rf 7 m) rfl
theorem Kp.up {a : Nat} {m : Ms} (f : Fn) (h : ∀ i, a ≤ i → f i = Ms.s m i) : Kp a m (Ms.th m, f, Ms.im m, Ms.fr m, Ms.hi m, Ms.ac m, Ms.sp m, Ms.en m, Ms.wr m, Ms.op m, Ms.bb m, Ms.tr m, Ms.su m, Ms.lf m, Ms.lk m, Ms.nx m, Ms.bo m, Ms.ra m, Ms.ki m, Ms.nu m, Ms.tv m) := ⟨h, rfl, rfl, rfl, rfl⟩
theorem up_lo {f : Fn} {b : Nat} {p x : Int32} (hp : vp_in p 6) {a : Nat} (ha : b + 6 ≤ a) (hb : b < 900) : ∀ i, a ≤ i → upd f (nI b + p).toNatClampNeg x i = f i := by
  intro i hi
  obtain ⟨k, hk, rfl⟩ := vp_in_of hp (by decide)
  rw [nI_add, nI_clamp (by omega), pk_un (by omega)]
def m_X12_lasts (m : Ms) (fact : Int32) : Int32 × Ms := if (m_X12_isFact fact) = 0 then ((-nI 1), m) else (bindv (m_X12_looksAnew m) (fun r2 => bindv (m_X12_keeps r2) (fun r3 => bindv (m_X12_tidesKnown r3 fact) (fun r4 => if r4.1 = nI 61 then ((-nI 5), r4.2) else (r4.1, r4.2)))))
set_option maxRecDepth 100000 in
set_option maxHeartbeats 4000000 in
theorem c_X12_lasts (l : Launch) {fv : Value} (hf : FV fv) (m : Ms) (fact : Int32) (hg : Gd 9999 m) : CT l fv 10 jX12_lasts [.ref 0, .int fact] (hMs m) (DP (some (.int (m_X12_lasts m fact).1)) (hMs ((m_X12_lasts m fact).2))) := by
  refine CT_of [] mt_X12_lasts (by decide +kernel) (tab_X12 hf) okX12_lasts (Nat.le_of_ble_eq_true rfl) ?_
  intro J hJ hD
  refine hJ 0 _ _ _ ?_
  refine CALL_sub (h' := hMs m) [] (by decide) (c_X12_isFact l hf fact) rfl rfl (by decide) (by decide) rfl ?_
  refine And.intro (fun c1 => ?_) (fun c1 => ?_)
  · skip
    refine hJ 9 _ _ _ ?_
    obtain ⟨r2, er2⟩ : ∃ z : Ms, m_X12_looksAnew m = z := ⟨_, rfl⟩
    have hr2 := c_X12_looksAnew l hf m
    rw [er2] at hr2
    have h1 := hg.k0 (ef_looksAnew m).1; rw [er2] at h1
    refine CALL_same (r := none) (h1 := hMs r2) (by decide) (hr2) ?_
    obtain ⟨r3, er3⟩ : ∃ z : Ms, m_X12_keeps r2 = z := ⟨_, rfl⟩
    have hr3 := c_X12_keeps l hf r2
    rw [er3] at hr3
    have h2 := h1.k0 (ef_keeps _).1; rw [er3] at h2
    refine CALL_same (r := none) (h1 := hMs r3) (by decide) (hr3) ?_
    obtain ⟨r4, er4⟩ : ∃ z : Int32 × Ms, m_X12_tidesKnown r3 fact = z := ⟨_, rfl⟩
    have hr4 := c_X12_tidesKnown l hf r3 fact (B := 9999) h2 (by decide)
    rw [er4] at hr4
    refine CALL_same (r := some (.int r4.1)) (h1 := hMs r4.2) (by decide) (hr4) ?_
    refine And.intro (fun c5 => ?_) (fun c5 => ?_)
    · skip
      refine hJ 34 _ _ _ ?_
      exact And.intro True.intro (DPis (F := (fun z => hMs z)) (s' := r4.2) ((if_neg c1).trans ((bindv_eq er2).trans ((bindv_eq er3).trans ((bindv_eq er4).trans (if_neg c5))))))
    · skip
      refine hJ 35 _ _ _ ?_
      exact And.intro True.intro (DPis (F := (fun z => hMs z)) (s' := r4.2) ((if_neg c1).trans ((bindv_eq er2).trans ((bindv_eq er3).trans ((bindv_eq er4).trans (if_pos c5))))))
  · skip
    exact And.intro True.intro (DPis (F := (fun z => hMs z)) (s' := m) (if_pos c1))
theorem up_0 {f : Fn} {b : Nat} {p x : Int32} (hp : vp_in p 6) (h0 : 0 < b) (hb : b < 900) : upd f (nI b + p).toNatClampNeg x 0 = f 0 := by
  obtain ⟨k, hk, rfl⟩ := vp_in_of hp (by decide)
  rw [nI_add, nI_clamp (by omega), pk_un (by omega)]
theorem Gd.fs {B a : Nat} {m : Ms} {f : Fn} (g : Gd B m) (h7 : ∀ i, a ≤ i → f i = Ms.s m i) (h0 : f 0 = Ms.s m 0) (ha : a ≤ 17) : Gd B (Ms.th m, f, Ms.im m, Ms.fr m, Ms.hi m, Ms.ac m, Ms.sp m, Ms.en m, Ms.wr m, Ms.op m, Ms.bb m, Ms.tr m, Ms.su m, Ms.lf m, Ms.lk m, Ms.nx m, Ms.bo m, Ms.ra m, Ms.ki m, Ms.nu m, Ms.tv m) := g.kp (Kp.up f h7) ha (by rw [show Ms.s (Ms.th m, f, Ms.im m, Ms.fr m, Ms.hi m, Ms.ac m, Ms.sp m, Ms.en m, Ms.wr m, Ms.op m, Ms.bb m, Ms.tr m, Ms.su m, Ms.lf m, Ms.lk m, Ms.nx m, Ms.bo m, Ms.ra m, Ms.ki m, Ms.nu m, Ms.tv m) 0 = f 0 from rfl, h0]; exact g.1)
/-- from m on, what was put by of a goes back -/
def Bk (a m m' : Ms) : Prop := Kp 17 m m' ∧ Ms.fr m' = Ms.fr m ∧ ∀ j, j < 17 → Ms.s m' j = Ms.fr m j
theorem ef_tidesKnown_r {B : Nat} {m : Ms} {fact : Int32} {r : Int32 × Ms} (e : m_X12_tidesKnown m fact = r) (g : Gd B m) : Bk m m r.2 := by rw [← e]; exact ef_tidesKnown fact g
theorem back2 {m1 rk r2 x : Ms} {f : Fn} {a : Nat} (k1 : Kp 0 m1 rk ∧ ∀ j, j < 17 → Ms.fr rk j = Ms.s m1 j) (hf : ∀ i, a ≤ i → f i = Ms.s rk i) (ha : a ≤ 17) (q : Bk x (Ms.th rk, f, Ms.im rk, Ms.fr rk, Ms.hi rk, Ms.ac rk, Ms.sp rk, Ms.en rk, Ms.wr rk, Ms.op rk, Ms.bb rk, Ms.tr rk, Ms.su rk, Ms.lf rk, Ms.lk rk, Ms.nx rk, Ms.bo rk, Ms.ra rk, Ms.ki rk, Ms.nu rk, Ms.tv rk) r2) : Kp 0 m1 r2 := by
  have t := (k1.1.mono (by omega)).tr (((Kp.up f hf).mono ha).tr q.1)
  refine ⟨fun i _ => ?_, t.2⟩
  by_cases c : i < 17
  · rw [q.2.2 i c]; exact k1.2 i c
  · exact t.1 i (by omega)
def l_X12_tell_21 (m : Ms) (fact : Int32) (r2 : Ms) : Nat → Int32 → Int32 → Int32 → Ms → Int32 × Ms
  | 0, _, _, _, _ => (0, m)
  | n21 + 1, best, most, p, m1 => if (Ms.s m1 (nI 17).toNatClampNeg) ≤ p then (best, m1) else (if (Ms.s m1 (nI 7 + p).toNatClampNeg) = 0 then (bindv (m_X12_keeps m1) (fun r5 => bindv (m_X12_tidesKnown (Ms.th r5, (upd (Ms.s r5) (nI 1 + p).toNatClampNeg ((Ms.s r5 (nI 1 + p).toNatClampNeg) ||| (nI 1 <<< (fact &&& 31)))), Ms.im r5, Ms.fr r5, Ms.hi r5, Ms.ac r5, Ms.sp r5, Ms.en r5, Ms.wr r5, Ms.op r5, Ms.bb r5, Ms.tr r5, Ms.su r5, Ms.lf r5, Ms.lk r5, Ms.nx r5, Ms.bo r5, Ms.ra r5, Ms.ki r5, Ms.nu r5, Ms.tv r5) fact) (fun r6 => bindv (if r6.1 ≤ most then best else p) (fun x7_0 => bindv (if r6.1 ≤ most then most else r6.1) (fun x8_0 => l_X12_tell_21 m fact r2 n21 x7_0 x8_0 (p + nI 1) r6.2))))) else l_X12_tell_21 m fact r2 n21 best most (p + nI 1) m1)
theorem q_X12_tell_21 (m : Ms) (fact : Int32) (r2 : Ms) (n21 : Nat) (best : Int32) (most : Int32) (p : Int32) (m1 : Ms) : l_X12_tell_21 m fact r2 (n21 + 1) best most p m1 = (if (Ms.s m1 (nI 17).toNatClampNeg) ≤ p then (best, m1) else (if (Ms.s m1 (nI 7 + p).toNatClampNeg) = 0 then (bindv (m_X12_keeps m1) (fun r5 => bindv (m_X12_tidesKnown (Ms.th r5, (upd (Ms.s r5) (nI 1 + p).toNatClampNeg ((Ms.s r5 (nI 1 + p).toNatClampNeg) ||| (nI 1 <<< (fact &&& 31)))), Ms.im r5, Ms.fr r5, Ms.hi r5, Ms.ac r5, Ms.sp r5, Ms.en r5, Ms.wr r5, Ms.op r5, Ms.bb r5, Ms.tr r5, Ms.su r5, Ms.lf r5, Ms.lk r5, Ms.nx r5, Ms.bo r5, Ms.ra r5, Ms.ki r5, Ms.nu r5, Ms.tv r5) fact) (fun r6 => bindv (if r6.1 ≤ most then best else p) (fun x7_0 => bindv (if r6.1 ≤ most then most else r6.1) (fun x8_0 => l_X12_tell_21 m fact r2 n21 x7_0 x8_0 (p + nI 1) r6.2))))) else l_X12_tell_21 m fact r2 n21 best most (p + nI 1) m1)) := rfl
def m_X12_tell (m : Ms) (fact : Int32) : Int32 × Ms := if (m_X12_isFact fact) = 0 then ((-nI 1), m) else (bindv (m_X12_looksAnew m) (fun r2 => l_X12_tell_21 m fact r2 7 (-nI 5) (-nI 1) (nI 0) r2))
set_option maxRecDepth 100000 in
set_option maxHeartbeats 4000000 in
theorem c_X12_tell (l : Launch) {fv : Value} (hf : FV fv) (m : Ms) (fact : Int32) (hg : Gd 9999 m) : CT l fv 10 jX12_tell [.ref 0, .int fact] (hMs m) (DP (some (.int (m_X12_tell m fact).1)) (hMs ((m_X12_tell m fact).2))) := by
  refine CT_of [21, 84, 97] mt_X12_tell (by decide +kernel) (tab_X12 hf) okX12_tell (Nat.le_of_ble_eq_true rfl) ?_
  intro J hJ hD
  refine hJ 0 _ _ _ ?_
  refine CALL_sub (h' := hMs m) [] (by decide) (c_X12_isFact l hf fact) rfl rfl (by decide) (by decide) rfl ?_
  refine And.intro (fun c1 => ?_) (fun c1 => ?_)
  · skip
    refine hJ 9 _ _ _ ?_
    obtain ⟨r2, er2⟩ : ∃ z : Ms, m_X12_looksAnew m = z := ⟨_, rfl⟩
    have hr2 := c_X12_looksAnew l hf m
    rw [er2] at hr2
    have h1 := hg.k0 (ef_looksAnew m).1; rw [er2] at h1
    refine CALL_same (r := none) (h1 := hMs r2) (by decide) (hr2) ?_
    have L21 : ∀ (n21 : Nat) (best : Int32) (most : Int32) (p : Int32) (m1 : Ms), (∃ z9 : Nat, z9 ≤ 6 ∧ n21 + z9 = 7 ∧ p = nI z9 ∧ Gd 9999 m1) → m_X12_tell m fact = l_X12_tell_21 m fact r2 n21 best most p m1 → J 21 [(0, .ref 0), (1, .int fact), (2, .int best), (3, .int most), (4, .int p)] [] (hMs m1) := by
      intro n21
      induction n21 with
      | zero =>
        intro best most p m1 hv
        obtain ⟨z9, h1, h2, h3, h5⟩ := hv
        omega
      | succ n21 ih21 =>
        intro best most p m1 hv e21
        obtain ⟨z9, h1, h2, h3, h5⟩ := hv
        refine hJ 21 _ _ _ ?_
        refine And.intro (vp_in_nI (by decide) (by decide)) ?_
        refine And.intro (fun c3 => ?_) (fun c3 => ?_)
        · skip
          refine hJ 104 _ _ _ ?_
          exact And.intro True.intro (DPis (F := (fun z => hMs z)) (s' := m1) (e21.trans ((q_X12_tell_21 m fact r2 n21 best most p m1).trans (if_pos c3))))
        · skip
          have h4 := hU_lt h5.2.1 h3 h1 c3
          have hp := vp_nI h3 h4 (by decide)
          refine And.intro (vp_ad 7 hp (by decide) (by decide)) ?_
          refine And.intro (fun c4 => ?_) (fun c4 => ?_)
          · skip
            refine hJ 98 _ _ _ ?_
            exact hD _ _ [1, 2, 3, 4, 0] _ _ (ih21 _ _ _ _ ⟨z9 + 1, by omega, by omega, by rw [h3]; exact nI_add z9 1, by first | exact g3 | exact h5⟩ (e21.trans ((q_X12_tell_21 m fact r2 n21 best most p m1).trans ((if_neg c3).trans (if_neg c4)))))
          · skip
            obtain ⟨r5, er5⟩ : ∃ z : Ms, m_X12_keeps m1 = z := ⟨_, rfl⟩
            have hr5 := c_X12_keeps l hf m1
            rw [er5] at hr5
            have k1 := ef_keeps m1; rw [er5] at k1
            have g1 := h5.k0 k1.1
            refine CALL_same (r := none) (h1 := hMs r5) (by decide) (hr5) ?_
            refine And.intro (vp_ad 1 hp (by decide) (by decide)) ?_
            refine And.intro (vp_ad 1 hp (by decide) (by decide)) ?_
            obtain ⟨r6, er6⟩ : ∃ z : Int32 × Ms, m_X12_tidesKnown (Ms.th r5, (upd (Ms.s r5) (nI 1 + p).toNatClampNeg ((Ms.s r5 (nI 1 + p).toNatClampNeg) ||| (nI 1 <<< (fact &&& 31)))), Ms.im r5, Ms.fr r5, Ms.hi r5, Ms.ac r5, Ms.sp r5, Ms.en r5, Ms.wr r5, Ms.op r5, Ms.bb r5, Ms.tr r5, Ms.su r5, Ms.lf r5, Ms.lk r5, Ms.nx r5, Ms.bo r5, Ms.ra r5, Ms.ki r5, Ms.nu r5, Ms.tv r5) fact = z := ⟨_, rfl⟩
            have hr6 := c_X12_tidesKnown l hf (Ms.th r5, (upd (Ms.s r5) (nI 1 + p).toNatClampNeg ((Ms.s r5 (nI 1 + p).toNatClampNeg) ||| (nI 1 <<< (fact &&& 31)))), Ms.im r5, Ms.fr r5, Ms.hi r5, Ms.ac r5, Ms.sp r5, Ms.en r5, Ms.wr r5, Ms.op r5, Ms.bb r5, Ms.tr r5, Ms.su r5, Ms.lf r5, Ms.lk r5, Ms.nx r5, Ms.bo r5, Ms.ra r5, Ms.ki r5, Ms.nu r5, Ms.tv r5) fact (B := 9999) (Gd.fs (a := 7) g1 (up_lo hp (by decide) (by decide)) (up_0 hp (by decide) (by decide)) (by decide)) (by decide)
            rw [er6] at hr6
            have g3 := h5.k0 (back2 (a := 7) k1 (up_lo hp (by decide) (by decide)) (by decide) (ef_tidesKnown_r er6 (Gd.fs (a := 7) g1 (up_lo hp (by decide) (by decide)) (up_0 hp (by decide) (by decide)) (by decide))))
            refine CALL_same (r := some (.int r6.1)) (h1 := hMs r6.2) (by decide) (hr6) ?_
            have K7 : ∀ (x7_0 : Int32), (if r6.1 ≤ most then best else p) = x7_0 → J 84 [(0, .ref 0), (1, .int fact), (3, .int most), (4, .int p), (5, .int r6.1)] [.int x7_0] (hMs r6.2) := by
              intro x7_0 ex7_0
              refine hJ 84 _ _ _ ?_
              have K8 : ∀ (x8_0 : Int32), (if r6.1 ≤ most then most else r6.1) = x8_0 → J 97 [(0, .ref 0), (1, .int fact), (2, .int x7_0), (4, .int p)] [.int x8_0] (hMs r6.2) := by
                intro x8_0 ex8_0
                refine hJ 97 _ _ _ ?_
                exact hD _ _ [2, 3, 4, 1, 0] _ _ (ih21 _ _ _ _ ⟨z9 + 1, by omega, by omega, by rw [h3]; exact nI_add z9 1, by first | exact g3 | exact h5⟩ (e21.trans ((q_X12_tell_21 m fact r2 n21 best most p m1).trans ((if_neg c3).trans ((if_pos c4).trans ((bindv_eq er5).trans ((bindv_eq er6).trans ((bindv_eq ex7_0).trans (bindv_eq ex8_0)))))))))
              refine And.intro (fun c9 => ?_) (fun c9 => ?_)
              · skip
                refine hJ 96 _ _ _ ?_
                exact hD _ _ [1, 2, 0, 4] _ _ (K8 _ (if_pos c9))
              · skip
                exact hD _ _ [1, 2, 0, 4] _ _ (K8 _ (if_neg c9))
            refine And.intro (fun c10 => ?_) (fun c10 => ?_)
            · skip
              refine hJ 83 _ _ _ ?_
              exact hD _ _ [1, 2, 4, 5, 0] _ _ (K7 _ (if_pos c10))
            · skip
              exact hD _ _ [1, 2, 4, 5, 0] _ _ (K7 _ (if_neg c10))
    exact hD _ _ [3, 4, 2, 1, 0] _ _ (L21 7 _ _ _ _ ⟨0, by decide, by decide, rfl, h1⟩ ((if_neg c1).trans (bindv_eq er2)))
  · skip
    exact And.intro True.intro (DPis (F := (fun z => hMs z)) (s' := m) (if_pos c1))
def pw9 : Nat → Nat
  | 0 => 0
  | n + 1 => 9 ^ n
theorem pw9_pos {line : Int32} {j : Nat} (h1 : j ≤ 3) (h : line = nI (pw9 j)) (c : ¬ line ≤ 0) : ¬ line = 0 ∧ ∃ q, j = q + 1 ∧ line / nI 9 = nI (pw9 q) := by
  have : j = 0 ∨ j = 1 ∨ j = 2 ∨ j = 3 := by omega
  rcases this with rfl | rfl | rfl | rfl
  · exact absurd (by rw [h]; decide) c
  · rw [h]; exact ⟨by decide, 0, rfl, by decide⟩
  · rw [h]; exact ⟨by decide, 1, rfl, by decide⟩
  · rw [h]; exact ⟨by decide, 2, rfl, by decide⟩
theorem pw9_of {n x : Int32} (e : (if n = nI 1 then nI 1 else (if n = nI 2 then nI 9 else nI 81)) = x) : ∃ j, j ≤ 3 ∧ x = nI (pw9 j) := by
  rw [← e]
  by_cases c : n = nI 1
  · rw [if_pos c]; exact ⟨1, by decide, rfl⟩
  · rw [if_neg c]
    by_cases c : n = nI 2
    · rw [if_pos c]; exact ⟨2, by decide, rfl⟩
    · rw [if_neg c]; exact ⟨3, by decide, rfl⟩
def l_X12_heldBehind_29 (m : Ms) (n : Int32) (code : Int32) (r1 : Ms) (x2_0 : Int32) : Nat → Int32 → Int32 → Ms → Int32 × Ms
  | 0, _, _, _ => (0, m)
  | n29 + 1, line, rest, m1 => if line ≤ 0 then (bindv (m_X12_goesBack m1) (fun r4 => ((m_X12_heldByAll (Ms.s m1)), r4))) else (bindv (m_X12_goesBy m1 (rest / line)) (fun r5 => l_X12_heldBehind_29 m n code r1 x2_0 n29 (line / nI 9) (rest - rest / line * line) r5))
theorem q_X12_heldBehind_29 (m : Ms) (n : Int32) (code : Int32) (r1 : Ms) (x2_0 : Int32) (n29 : Nat) (line : Int32) (rest : Int32) (m1 : Ms) : l_X12_heldBehind_29 m n code r1 x2_0 (n29 + 1) line rest m1 = (if line ≤ 0 then (bindv (m_X12_goesBack m1) (fun r4 => ((m_X12_heldByAll (Ms.s m1)), r4))) else (bindv (m_X12_goesBy m1 (rest / line)) (fun r5 => l_X12_heldBehind_29 m n code r1 x2_0 n29 (line / nI 9) (rest - rest / line * line) r5))) := rfl
def m_X12_heldBehind (m : Ms) (n : Int32) (code : Int32) : Int32 × Ms := bindv (m_X12_keeps m) (fun r1 => bindv (if n = nI 1 then (nI 1) else (if n = nI 2 then (nI 9) else (nI 81))) (fun x2_0 => l_X12_heldBehind_29 m n code r1 x2_0 4 x2_0 code r1))
set_option maxRecDepth 100000 in
set_option maxHeartbeats 4000000 in
theorem c_X12_heldBehind (l : Launch) {fv : Value} (hf : FV fv) (m : Ms) (n : Int32) (code : Int32) {B : Nat} (hg : Gd B m) (hB : B + 4 ≤ 1000000) : CT l fv 8 jX12_heldBehind [.ref 0, .int n, .int code] (hMs m) (DP (some (.int (m_X12_heldBehind m n code).1)) (hMs ((m_X12_heldBehind m n code).2))) := by
  refine CT_of [25, 29] mt_X12_heldBehind (by decide +kernel) (tab_X12 hf) okX12_heldBehind (Nat.le_of_ble_eq_true rfl) ?_
  intro J hJ hD
  refine hJ 0 _ _ _ ?_
  obtain ⟨r1, er1⟩ : ∃ z : Ms, m_X12_keeps m = z := ⟨_, rfl⟩
  have hr1 := c_X12_keeps l hf m
  rw [er1] at hr1
  have h1 := hg.k0 (ef_keeps m).1; rw [er1] at h1
  refine CALL_same (r := none) (h1 := hMs r1) (by decide) (hr1) ?_
  have K2 : ∀ (x2_0 : Int32), (if n = nI 1 then (nI 1) else (if n = nI 2 then (nI 9) else (nI 81))) = x2_0 → J 25 [(0, .ref 0), (2, .int code)] [.int x2_0] (hMs r1) := by
    intro x2_0 ex2_0
    have hj := pw9_of ex2_0
    refine hJ 25 _ _ _ ?_
    have L29 : ∀ (n29 : Nat) (line : Int32) (rest : Int32) (m1 : Ms), (∃ j : Nat, j ≤ 3 ∧ j < n29 ∧ line = nI (pw9 j) ∧ Gd (B + (3 - j)) m1) → m_X12_heldBehind m n code = l_X12_heldBehind_29 m n code r1 x2_0 n29 line rest m1 → J 29 [(0, .ref 0), (3, .int line), (4, .int rest)] [] (hMs m1) := by
      intro n29
      induction n29 with
      | zero =>
        intro line rest m1 hv
        obtain ⟨j, g1, g2, g3, h5⟩ := hv
        omega
      | succ n29 ih29 =>
        intro line rest m1 hv e29
        obtain ⟨j, g1, g2, g3, h5⟩ := hv
        refine hJ 29 _ _ _ ?_
        refine And.intro (fun c3 => ?_) (fun c3 => ?_)
        · skip
          refine hJ 55 _ _ _ ?_
          refine CALL_same (r := some (.int (m_X12_heldByAll (Ms.s m1)))) (h1 := hMs m1) (by decide) (c_X12_heldByAll l hf m1 h5.2.1) ?_
          obtain ⟨r4, er4⟩ : ∃ z : Ms, m_X12_goesBack m1 = z := ⟨_, rfl⟩
          have hr4 := c_X12_goesBack l hf m1
          rw [er4] at hr4
          refine CALL_same (r := none) (h1 := hMs r4) (by decide) (hr4) ?_
          exact And.intro True.intro (DPis (F := (fun z => hMs z)) (s' := r4) (e29.trans ((q_X12_heldBehind_29 m n code r1 x2_0 n29 line rest m1).trans ((if_pos c3).trans (bindv_eq er4)))))
        · skip
          obtain ⟨hz, q, rfl, hq⟩ := pw9_pos g1 g3 c3
          refine And.intro (hz) ?_
          obtain ⟨r5, er5⟩ : ∃ z : Ms, m_X12_goesBy m1 (rest / line) = z := ⟨_, rfl⟩
          have hr5 := c_X12_goesBy l hf m1 (rest / line) h5.2.1 (h5.ht (by omega)) h5.2.2.1 h5.2.2.2
          rw [er5] at hr5
          have h6 := (ef_goesBy h5 (rest / line)).1; rw [er5] at h6
          refine CALL_same (r := none) (h1 := hMs r5) (by decide) (hr5) ?_
          refine And.intro (hz) ?_
          refine And.intro (by decide) ?_
          exact hD _ _ [2, 0, 1] _ _ (ih29 _ _ _ ⟨q, by omega, by omega, hq, h6.mono (by omega)⟩ (e29.trans ((q_X12_heldBehind_29 m n code r1 x2_0 n29 line rest m1).trans ((if_neg c3).trans (bindv_eq er5)))))
    exact hD _ _ [2, 1, 0] _ _ (L29 4 _ _ _ (by obtain ⟨j, g1, g3⟩ := hj; exact ⟨j, g1, by omega, g3, h1.mono (by omega)⟩) ((bindv_eq er1).trans (bindv_eq ex2_0)))
  refine And.intro (fun c6 => ?_) (fun c6 => ?_)
  · skip
    refine hJ 13 _ _ _ ?_
    refine And.intro (fun c7 => ?_) (fun c7 => ?_)
    · skip
      refine hJ 23 _ _ _ ?_
      exact hD _ _ [0, 2] _ _ (K2 _ ((if_neg c6).trans (if_neg c7)))
    · skip
      exact hD _ _ [0, 2] _ _ (K2 _ ((if_neg c6).trans (if_pos c7)))
  · skip
    exact hD _ _ [0, 2] _ _ (K2 _ (if_pos c6))
theorem ef_heldBehind_l (m : Ms) (x y : Int32) {B : Nat} (a : Ms) (z : Int32) : ∀ (n j : Nat) (line rest : Int32) (m1 : Ms), j ≤ 3 → j < n → line = nI (pw9 j) → Gd (B + (3 - j)) m1 → Kp 7 m m1 → (∀ j, j < 17 → Ms.fr m1 j = Ms.s m j) → Kp 0 m (l_X12_heldBehind_29 m x y a z n line rest m1).2 := by
  intro n
  induction n with
  | zero => intro j line rest m1 h1 h2; omega
  | succ n ih =>
    intro j line rest m1 h1 h2 h3 h4 h5 h6
    rw [q_X12_heldBehind_29]
    by_cases c : line ≤ 0
    · rw [if_pos c]
      exact kp_back (h5.mono (by omega)) h6
    · rw [if_neg c]
      obtain ⟨hz, q, rfl, hq⟩ := pw9_pos h1 h3 c
      have e := ef_goesBy h4 (rest / line)
      exact ih q _ _ _ (by omega) (by omega) hq (e.1.mono (by omega)) (h5.tr e.2.1) (fun j hj => by rw [e.2.2.1]; exact h6 j hj)
theorem ef_heldBehind {B : Nat} {m : Ms} (n code : Int32) (g : Gd B m) : Kp 0 m (m_X12_heldBehind m n code).2 := by
  obtain ⟨j, h1, h2⟩ := pw9_of (n := n) rfl
  have k := ef_keeps m
  exact ef_heldBehind_l (B := B) m n code (m_X12_keeps m) _ 4 j _ code (m_X12_keeps m) h1 (by omega) h2 ((g.k0 k.1).mono (by omega)) (k.1.mono (by omega)) k.2
theorem ef_heldBehind_r {B : Nat} {m : Ms} {n code : Int32} {r : Int32 × Ms} (e : m_X12_heldBehind m n code = r) (g : Gd B m) : Kp 0 m r.2 := by rw [← e]; exact ef_heldBehind n code g

theorem cod_of {n x : Int32} (e : (if n = nI 1 then nI 9 else (if n = nI 2 then nI 81 else nI 729)) = x) : ∃ N, N ≤ 729 ∧ x = nI N := by
  rw [← e]
  by_cases c : n = nI 1
  · rw [if_pos c]; exact ⟨9, by decide, rfl⟩
  · rw [if_neg c]
    by_cases c : n = nI 2
    · rw [if_pos c]; exact ⟨81, by decide, rfl⟩
    · rw [if_neg c]; exact ⟨729, by decide, rfl⟩
theorem ln_of {k a b x : Int32} (e : (if k = a then nI 1 else (if k = b then nI 9 else nI 81)) = x) : ¬ x = 0 := by
  rw [← e]
  by_cases c : k = a
  · rw [if_pos c]; decide
  · rw [if_neg c]
    by_cases c : k = b
    · rw [if_pos c]; decide
    · rw [if_neg c]; decide
def l_X12_teach_60 (m : Ms) (n : Int32) (k : Int32) (r3 : Ms) (x4_0 : Int32) : Nat → Int32 → Int32 → Int32 → Ms → Int32 × Ms
  | 0, _, _, _, _ => (0, m)
  | n60 + 1, best, most, code, m1 => if x4_0 ≤ code then (if k = (-nI 1) then (most, m1) else (bindv (if k = (n - nI 1) then (nI 1) else (if k = (n - nI 2) then (nI 9) else (nI 81))) (fun x7_0 => if n ≤ k then ((-nI 5), m1) else (((best / x7_0) - (best / x7_0) / nI 9 * nI 9), m1)))) else (bindv (m_X12_heldBehind m1 n code) (fun r11 => bindv (if r11.1 ≤ most then best else code) (fun x12_0 => bindv (if r11.1 ≤ most then most else r11.1) (fun x13_0 => l_X12_teach_60 m n k r3 x4_0 n60 x12_0 x13_0 (code + nI 1) r11.2))))
theorem q_X12_teach_60 (m : Ms) (n : Int32) (k : Int32) (r3 : Ms) (x4_0 : Int32) (n60 : Nat) (best : Int32) (most : Int32) (code : Int32) (m1 : Ms) : l_X12_teach_60 m n k r3 x4_0 (n60 + 1) best most code m1 = (if x4_0 ≤ code then (if k = (-nI 1) then (most, m1) else (bindv (if k = (n - nI 1) then (nI 1) else (if k = (n - nI 2) then (nI 9) else (nI 81))) (fun x7_0 => if n ≤ k then ((-nI 5), m1) else (((best / x7_0) - (best / x7_0) / nI 9 * nI 9), m1)))) else (bindv (m_X12_heldBehind m1 n code) (fun r11 => bindv (if r11.1 ≤ most then best else code) (fun x12_0 => bindv (if r11.1 ≤ most then most else r11.1) (fun x13_0 => l_X12_teach_60 m n k r3 x4_0 n60 x12_0 x13_0 (code + nI 1) r11.2))))) := rfl
def m_X12_teach (m : Ms) (n : Int32) (k : Int32) : Int32 × Ms := if (m_X12_in k (-nI 1) (nI 2)) = 0 then ((-nI 1), m) else (if (m_X12_in n (nI 1) (nI 3)) = 0 then ((-nI 2), m) else (bindv (m_X12_looksAnew m) (fun r3 => bindv (if n = nI 1 then (nI 9) else (if n = nI 2 then (nI 81) else (nI 729))) (fun x4_0 => l_X12_teach_60 m n k r3 x4_0 730 (nI 0) (-nI 1) (nI 0) r3))))
set_option maxRecDepth 100000 in
set_option maxHeartbeats 4000000 in
theorem c_X12_teach (l : Launch) {fv : Value} (hf : FV fv) (m : Ms) (n : Int32) (k : Int32) (hg : Gd 9999 m) : CT l fv 9 jX12_teach [.ref 0, .int n, .int k] (hMs m) (DP (some (.int (m_X12_teach m n k).1)) (hMs ((m_X12_teach m n k).2))) := by
  refine CT_of [50, 60, 89, 105, 146] mt_X12_teach (by decide +kernel) (tab_X12 hf) okX12_teach (Nat.le_of_ble_eq_true rfl) ?_
  intro J hJ hD
  refine hJ 0 _ _ _ ?_
  refine CALL_sub (h' := hMs m) [] (by decide) (c_X12_in l hf k (-nI 1) (nI 2)) rfl rfl (by decide) (by decide) rfl ?_
  refine And.intro (fun c1 => ?_) (fun c1 => ?_)
  · skip
    refine hJ 11 _ _ _ ?_
    refine CALL_sub (h' := hMs m) [] (by decide) (c_X12_in l hf n (nI 1) (nI 3)) rfl rfl (by decide) (by decide) rfl ?_
    refine And.intro (fun c2 => ?_) (fun c2 => ?_)
    · skip
      refine hJ 23 _ _ _ ?_
      obtain ⟨r3, er3⟩ : ∃ z : Ms, m_X12_looksAnew m = z := ⟨_, rfl⟩
      have hr3 := c_X12_looksAnew l hf m
      rw [er3] at hr3
      have h1 := hg.k0 (ef_looksAnew m).1; rw [er3] at h1
      refine CALL_same (r := none) (h1 := hMs r3) (by decide) (hr3) ?_
      have K4 : ∀ (x4_0 : Int32), (if n = nI 1 then (nI 9) else (if n = nI 2 then (nI 81) else (nI 729))) = x4_0 → J 50 [(0, .ref 0), (1, .int n), (2, .int k)] [.int x4_0] (hMs r3) := by
        intro x4_0 ex4_0
        obtain ⟨N, hN, hx⟩ := cod_of ex4_0
        refine hJ 50 _ _ _ ?_
        have L60 : ∀ (n60 : Nat) (best : Int32) (most : Int32) (code : Int32) (m1 : Ms), (∃ z9 : Nat, z9 ≤ N ∧ n60 + z9 = 730 ∧ code = nI z9 ∧ Gd 9999 m1) → m_X12_teach m n k = l_X12_teach_60 m n k r3 x4_0 n60 best most code m1 → J 60 [(0, .ref 0), (1, .int n), (2, .int k), (3, .int x4_0), (4, .int best), (5, .int most), (6, .int code)] [] (hMs m1) := by
          intro n60
          induction n60 with
          | zero =>
            intro best most code m1 hv
            obtain ⟨z9, h1, h2, h3, h5⟩ := hv
            omega
          | succ n60 ih60 =>
            intro best most code m1 hv e60
            obtain ⟨z9, h1, h2, h3, h5⟩ := hv
            refine hJ 60 _ _ _ ?_
            refine And.intro (fun c5 => ?_) (fun c5 => ?_)
            · skip
              refine hJ 113 _ _ _ ?_
              refine And.intro (fun c6 => ?_) (fun c6 => ?_)
              · skip
                refine hJ 121 _ _ _ ?_
                have K7 : ∀ (x7_0 : Int32), (if k = (n - nI 1) then (nI 1) else (if k = (n - nI 2) then (nI 9) else (nI 81))) = x7_0 → J 146 [(1, .int n), (2, .int k), (4, .int best)] [.int x7_0] (hMs m1) := by
                  intro x7_0 ex7_0
                  have hz := ln_of ex7_0
                  refine hJ 146 _ _ _ ?_
                  refine And.intro (fun c8 => ?_) (fun c8 => ?_)
                  · skip
                    refine hJ 164 _ _ _ ?_
                    exact And.intro True.intro (DPis (F := (fun z => hMs z)) (s' := m1) (e60.trans ((q_X12_teach_60 m n k r3 x4_0 n60 best most code m1).trans ((if_pos c5).trans ((if_neg c6).trans ((bindv_eq ex7_0).trans (if_pos c8)))))))
                  · skip
                    refine And.intro (hz) ?_
                    refine And.intro (by decide) ?_
                    refine hJ 166 _ _ _ ?_
                    exact And.intro True.intro (DPis (F := (fun z => hMs z)) (s' := m1) (e60.trans ((q_X12_teach_60 m n k r3 x4_0 n60 best most code m1).trans ((if_pos c5).trans ((if_neg c6).trans ((bindv_eq ex7_0).trans (if_neg c8)))))))
                refine And.intro (fun c9 => ?_) (fun c9 => ?_)
                · skip
                  refine hJ 132 _ _ _ ?_
                  refine And.intro (fun c10 => ?_) (fun c10 => ?_)
                  · skip
                    refine hJ 144 _ _ _ ?_
                    exact hD _ _ [1, 2, 4] _ _ (K7 _ ((if_neg c9).trans (if_neg c10)))
                  · skip
                    exact hD _ _ [1, 2, 4] _ _ (K7 _ ((if_neg c9).trans (if_pos c10)))
                · skip
                  exact hD _ _ [1, 2, 4] _ _ (K7 _ (if_pos c9))
              · skip
                exact And.intro True.intro (DPis (F := (fun z => hMs z)) (s' := m1) (e60.trans ((q_X12_teach_60 m n k r3 x4_0 n60 best most code m1).trans ((if_pos c5).trans (if_pos c6)))))
            · skip
              have h4 : z9 < N := cnt_lt h3 h1 (by omega) (by rw [← hx]; exact c5)
              obtain ⟨r11, er11⟩ : ∃ z : Int32 × Ms, m_X12_heldBehind m1 n code = z := ⟨_, rfl⟩
              have hr11 := c_X12_heldBehind l hf m1 n code (B := 9999) h5 (by decide)
              rw [er11] at hr11
              have h6 := h5.k0 (ef_heldBehind_r er11 h5)
              refine CALL_same (r := some (.int r11.1)) (h1 := hMs r11.2) (by decide) (hr11) ?_
              have K12 : ∀ (x12_0 : Int32), (if r11.1 ≤ most then best else code) = x12_0 → J 89 [(0, .ref 0), (1, .int n), (2, .int k), (3, .int x4_0), (5, .int most), (6, .int code), (7, .int r11.1)] [.int x12_0] (hMs r11.2) := by
                intro x12_0 ex12_0
                refine hJ 89 _ _ _ ?_
                have K13 : ∀ (x13_0 : Int32), (if r11.1 ≤ most then most else r11.1) = x13_0 → J 105 [(0, .ref 0), (1, .int n), (2, .int k), (3, .int x4_0), (4, .int x12_0), (6, .int code)] [.int x13_0] (hMs r11.2) := by
                  intro x13_0 ex13_0
                  refine hJ 105 _ _ _ ?_
                  exact hD _ _ [2, 3, 4, 5, 6, 1, 0] _ _ (ih60 _ _ _ _ ⟨z9 + 1, by omega, by omega, by rw [h3]; exact nI_add z9 1, h6⟩ (e60.trans ((q_X12_teach_60 m n k r3 x4_0 n60 best most code m1).trans ((if_neg c5).trans ((bindv_eq er11).trans ((bindv_eq ex12_0).trans (bindv_eq ex13_0)))))))
                refine And.intro (fun c14 => ?_) (fun c14 => ?_)
                · skip
                  refine hJ 103 _ _ _ ?_
                  exact hD _ _ [1, 2, 3, 4, 0, 6] _ _ (K13 _ (if_pos c14))
                · skip
                  exact hD _ _ [1, 2, 3, 4, 0, 6] _ _ (K13 _ (if_neg c14))
              refine And.intro (fun c15 => ?_) (fun c15 => ?_)
              · skip
                refine hJ 87 _ _ _ ?_
                exact hD _ _ [1, 2, 3, 4, 6, 7, 0] _ _ (K12 _ (if_pos c15))
              · skip
                exact hD _ _ [1, 2, 3, 4, 6, 7, 0] _ _ (K12 _ (if_neg c15))
        exact hD _ _ [4, 5, 6, 3, 2, 1, 0] _ _ (L60 730 _ _ _ _ ⟨0, by omega, by omega, rfl, h1⟩ ((if_neg c1).trans ((if_neg c2).trans ((bindv_eq er3).trans (bindv_eq ex4_0)))))
      refine And.intro (fun c16 => ?_) (fun c16 => ?_)
      · skip
        refine hJ 37 _ _ _ ?_
        refine And.intro (fun c17 => ?_) (fun c17 => ?_)
        · skip
          refine hJ 47 _ _ _ ?_
          exact hD _ _ [0, 1, 2] _ _ (K4 _ ((if_neg c16).trans (if_neg c17)))
        · skip
          exact hD _ _ [0, 1, 2] _ _ (K4 _ ((if_neg c16).trans (if_pos c17)))
      · skip
        exact hD _ _ [0, 1, 2] _ _ (K4 _ (if_pos c16))
    · skip
      exact And.intro True.intro (DPis (F := (fun z => hMs z)) (s' := m) ((if_neg c1).trans (if_pos c2)))
  · skip
    exact And.intro True.intro (DPis (F := (fun z => hMs z)) (s' := m) (if_pos c1))
end
section
/-! printed by wip/whole/gen/specs36.py: what the JDK does for it -/
section SF
variable {l : Launch}
theorem MetW_F {y : MethodName} {ws ws' : List Cond} {rm : Room} {Pc : Array Value → State → Prop} {Qc : Array Value → State → Outcome → State → Prop} {mc ms : Nat} {free : Addr → Prop} {cc : ByteArray} {maxL : Nat} {ret : Option FieldType}
    (hy : plainFor y = true) (hw : ws = Cond.code y cc maxL ret :: ws')
    (body : ∀ p e s m args below meth c s₁, BodyLoose p l y (headSpec ws rm) cc maxL ret e s m args below meth c s₁ → c.maxLocals = maxL → Pc args s →
      W p l e (headSpec ws rm).room s m args below meth c s.heap [] 0 0 (MQ below Qc args s mc ms free) (entryFrame m args maxL)) : Met l y ws rm Pc Qc mc ms free := by
  refine MetFree.of_bodySF (code := cc) (maxLocals := maxL) (ret := ret) hy ?_ ?_
  · intro args s m h hn
    obtain ⟨meth, c, h1, h2, h3, h4, h5, h6, -, -⟩ := Cond.code_spec hn (atoms_spec (ws := ws) h _ (by rw [hw]; exact List.mem_cons_self))
    exact ⟨meth, c, h1, h2, h3, h4, h5, h6⟩
  · intro p e s m args below meth c s₁ B hml hP _
    have hh0 : s₁.heap = s.heap := by rw [B.state]; rfl
    obtain ⟨t, a1, o, b1, b2, b3⟩ := body p e s m args below meth c s₁ B hml hP s₁ hh0 (Stand.of_body B)
    exact ⟨t, o, a1, b1, b2, ⟨b3.1, b3.2⟩⟩
end SF
section SN6F
variable {p : Program} {l : Launch} {e : Env} {R : Room} {s : State} {m : MethodId} {args : Array Value} {below : List Frame} {meth : Method} {c : Code} {cells slots : Nat} {Q : State → Prop}
variable {cl : List vw_C} {D : va_G} {tc : Nat → ClassId} {ad : Nat → Nat} {N nL : Nat} {cc : ByteArray} {own : String} {Ts TB : List Cond} {X : RoT} {P : Pool} {d : Nat} {ty : Option FieldType} {RT : RP} {mt : MT}
/-- A BODY GIVES ITS METHOD'S CONTRACT -/
theorem CT_ofF {j : Nat} (cuts : List Nat) {as : List Value} {h0 : List AE} {PP : RP} {code : List Ins} {y : MethodName} {cc : ByteArray} (hmt : mt j = (y, cc, nL, ty)) (hy : plainFor y = true) (T0 : TabOK TB mt cl X y.cls P) (hok : okc cc code) (hin : x_cat as ≤ nL)
    (hbody : Body P (CTof l TB mt cl X) d nL ty cuts code as h0 PP) : CTof l TB mt cl X d j as h0 PP := by
  intro D tc ad
  have e1 : (mt j).1 = y := by rw [hmt]
  have e2 : cdOf mt j = Cond.code y cc nL ty := by unfold cdOf; rw [hmt]
  rw [e1, e2]
  refine MetW_F (cc := cc) (maxL := nL) (ret := ty) hy rfl ?_
  intro p e s m args below meth c s₁ B hml hv
  obtain ⟨rfl, hP, hK, hI, hR⟩ := hv
  have hts := atoms_spec (ws := Cond.code y cc nL ty :: TB) B.pre
  have hown : s.vm.findClass y.cls = some m.cls := findClass_of_methodNamed B.named
  have hr := B.returns
  have hx := B.exec
  have hb := B.bytes
  have hlocks := B.notSynchronized
  have C0 : CX p s m (as.map (cv ad)).toArray c cl D tc ad h0.length nL cc y.cls TB X := ⟨hx, hb, hml, hown, fun w hw => hts w (List.mem_cons_of_mem _ hw), hK, hI, hR⟩
  have hret : RetOK p l e (headSpec (Cond.code y cc nL ty :: TB) (rmOf d)).room s m (as.map (cv ad)).toArray below meth c 0 0 (MQ below (Q_ct cl D tc ad h0 PP) (as.map (cv ad)).toArray s 0 0 (AA ad h0.length)) cl D tc ad h0.length cc ty PP := by
    intro pc h H locs la h1 h2 h3
    refine ⟨fun x hd ht hq => ?_, fun x hd ht hq => ?_, fun x n hd ht hq => ?_, fun hd ht hq => ?_⟩
    · have post : ∀ t : State, t.heap = H → s.WarmedH t.vm → Q_ct cl D tc ad h0 PP (as.map (cv ad)).toArray s (.returned (some (.int x))) t := fun t e9 _ => ⟨⟨some (.int x), h, rfl, hq, h1, by rw [e9]; exact h2⟩, h3.F e9⟩
      cases ty with
      | none => exact ht.elim
      | some u =>
        refine W.zret hx hb hr ?_ post h3.2.2 hd
        cases u with
        | int => rfl
        | boolean => have ht : x &&& 1 = x := ht; show Value.int (x &&& 1) = Value.int x; rw [ht]
        | _ => exact ht
    · subst ht
      exact W.lret hx hb hr (fun t e9 _ => ⟨⟨some (.long x), h, rfl, hq, h1, by rw [e9]; exact h2⟩, h3.F e9⟩) h3.2.2 hd
    · subst ht
      exact W.aret hx hb hr (Or.inl ⟨n, rfl⟩) (Or.inr ⟨_, rfl⟩) (fun t e9 _ => ⟨⟨some (.ref x), h, rfl, hq, h1, by rw [e9]; exact h2⟩, h3.F e9⟩) h3.2.2 hd
    · subst ht
      exact W.vret hx hb hr (fun t e9 _ => ⟨⟨none, h, rfl, hq, h1, by rw [e9]; exact h2⟩, h3.F e9⟩) h3.2.2 hd
  have hl := lv_entry (as.map (cv ad)) (n := nL) (by rw [sl_cv]; exact hin)
  rw [args_cv] at hl
  rw [lg_entry_eq]
  exact hbody _ (runs_of C0 T0 (Nat.le_refl d) (Nat.le_refl _) ⟨Nat.le_refl 0, Nat.le_refl 0⟩ hret hok) drops_of s.heap [] _ rfl hP va_S.rf hl
end SN6F

theorem vp_nn {x : Int32} {n : Nat} (hx : vp_in x n) (hn : n < 2 ^ 31) : ¬ x < 0 := by
  obtain ⟨j, hj, rfl⟩ := vp_in_of hx hn
  exact Int32.not_lt.mpr (nI_le (Nat.zero_le j) (by omega))
theorem vp_lt {x : Int32} {n : Nat} (hx : vp_in x n) (hn : n < 2 ^ 31) : x < nI n := by
  obtain ⟨j, hj, rfl⟩ := vp_in_of hx hn
  exact nI_lt hj hn
def m_J3_checkIndex_8e157  (x : Int32) (n : Int32) : Int32 := x
set_option maxRecDepth 100000 in
set_option maxHeartbeats 4000000 in
theorem c_J3_checkIndex_8e157 (l : Launch) {fv : Value} (hf : FV fv)  (x : Int32) (n : Int32) (h0 : ¬ x < 0) (h1 : x < n) : CT l fv 1 jJ3_checkIndex_8e157 [.int x, .int n, fv] ([]) (DP (some (.int (m_J3_checkIndex_8e157 x n))) ([])) := by
  have hf0 := hf
  rcases hf with rfl | rfl
  · skip
    refine CT_of [] mt_J3_checkIndex_8e157 (by decide +kernel) (tab_J3 hf0) okJ3_checkIndex_8e157 (Nat.le_of_ble_eq_true rfl) ?_
    intro J hJ hD
    refine hJ 0 _ _ _ ?_
    refine And.intro (fun c1 => absurd c1 h0) (fun c1 => ?_)
    refine And.intro (fun c2 => ?_) (fun c2 => absurd h1 c2)
    refine hJ 16 _ _ _ ?_
    exact And.intro True.intro (DPi (rfl))
  · skip
    refine CT_of [] mt_J3_checkIndex_8e157 (by decide +kernel) (tab_J3 hf0) okJ3_checkIndex_8e157 (Nat.le_of_ble_eq_true rfl) ?_
    intro J hJ hD
    refine hJ 0 _ _ _ ?_
    refine And.intro (fun c1 => absurd c1 h0) (fun c1 => ?_)
    refine And.intro (fun c2 => ?_) (fun c2 => absurd h1 c2)
    refine hJ 16 _ _ _ ?_
    exact And.intro True.intro (DPi (rfl))
set_option maxRecDepth 100000 in
set_option maxHeartbeats 4000000 in
theorem c_J0_checkIndex_df160 (l : Launch) {fv : Value} (hf : FV fv)  (x : Int32) (n : Int32) (h0 : ¬ x < 0) (h1 : x < n) : CT l fv 2 jJ0_checkIndex_df160 [.int x, .int n] ([]) (DP none ([])) := by
  have hf0 := hf
  rcases hf with rfl | rfl
  · skip
    refine CT_of [] mt_J0_checkIndex_df160 (by decide +kernel) (tab_J0 hf0) okJ0_checkIndex_df160 (Nat.le_of_ble_eq_true rfl) ?_
    intro J hJ hD
    refine hJ 0 _ _ _ ?_
    refine CALL_sub (h' := []) [] (by decide) (c_J3_checkIndex_8e157 l hf0 x n h0 h1) rfl rfl (by decide) (by decide) rfl ?_
    exact And.intro rfl (⟨rfl, rfl⟩)
  · skip
    refine CT_of [] mt_J0_checkIndex_df160 (by decide +kernel) (tab_J0 hf0) okJ0_checkIndex_df160 (Nat.le_of_ble_eq_true rfl) ?_
    intro J hJ hD
    refine hJ 0 _ _ _ ?_
    refine CALL_sub (h' := []) [] (by decide) (c_J3_checkIndex_8e157 l hf0 x n h0 h1) rfl rfl (by decide) (by decide) rfl ?_
    exact And.intro rfl (⟨rfl, rfl⟩)
set_option maxRecDepth 100000 in
set_option maxHeartbeats 4000000 in
theorem c_J0_coder_7d493_1000 (l : Launch) {fv : Value} (hf : FV fv)  : CT l fv 1 jJ0_coder_7d493 [.ref 1000] ([]) (DP (some (.int (nI 0))) ([])) := by
  refine CT_of [] mt_J0_coder_7d493 (by decide +kernel) (tab_J0 hf) okJ0_coder_7d493 (Nat.le_of_ble_eq_true rfl) ?_
  intro J hJ hD
  refine hJ 0 _ _ _ ?_
  refine And.intro (fun c1 => absurd c1 (by decide)) (fun c1 => ?_)
  refine hJ 14 _ _ _ ?_
  exact And.intro rfl (DPi (by decide))
set_option maxRecDepth 100000 in
set_option maxHeartbeats 4000000 in
theorem c_J0_isLatin1_aae02_1000 (l : Launch) {fv : Value} (hf : FV fv)  : CT l fv 1 jJ0_isLatin1_aae02 [.ref 1000] ([]) (DP (some (.int (nI 1))) ([])) := by
  refine CT_of [] mt_J0_isLatin1_aae02 (by decide +kernel) (tab_J0 hf) okJ0_isLatin1_aae02 (Nat.le_of_ble_eq_true rfl) ?_
  intro J hJ hD
  refine hJ 0 _ _ _ ?_
  refine And.intro (fun c1 => absurd c1 (by decide)) (fun c1 => ?_)
  refine And.intro (fun c2 => absurd (by decide) c2) (fun c2 => ?_)
  refine hJ 18 _ _ _ ?_
  exact And.intro xb1 (DPi (by decide))
set_option maxRecDepth 100000 in
set_option maxHeartbeats 4000000 in
theorem c_J0_length_8abf5_1000 (l : Launch) {fv : Value} (hf : FV fv)  : CT l fv 2 jJ0_length_8abf5 [.ref 1000] ([]) (DP (some (.int (nI 5))) ([])) := by
  refine CT_of [] mt_J0_length_8abf5 (by decide +kernel) (tab_J0 hf) okJ0_length_8abf5 (Nat.le_of_ble_eq_true rfl) ?_
  intro J hJ hD
  refine hJ 0 _ _ _ ?_
  refine CALL_sub (r := some (.int (nI 0))) (h' := []) [] (by decide) (c_J0_coder_7d493_1000 l hf ) rfl rfl (by decide) (by decide) rfl ?_
  exact And.intro True.intro (DPi (by decide))
def m_J1_charAt_3b067_1050  (x : Int32) : Int32 := (((sB_0 x.toNatClampNeg) &&& nI 255).toUInt32 % 65536).toInt32
set_option maxRecDepth 100000 in
set_option maxHeartbeats 4000000 in
theorem c_J1_charAt_3b067_1050 (l : Launch) {fv : Value} (hf : FV fv)  (x : Int32) (hx : vp_in x 5) : CT l fv 3 jJ1_charAt_3b067 [.ref 1050, .int x] ([]) (DP (some (.int (m_J1_charAt_3b067_1050 x))) ([])) := by
  refine CT_of [] mt_J1_charAt_3b067 (by decide +kernel) (tab_J1 hf) okJ1_charAt_3b067 (Nat.le_of_ble_eq_true rfl) ?_
  intro J hJ hD
  refine hJ 0 _ _ _ ?_
  refine CALL_sub (h' := []) [] (by decide) (c_J0_checkIndex_df160 l hf x (nI 5) (vp_nn hx (by decide)) (vp_lt hx (by decide))) rfl rfl (by decide) (by decide) rfl ?_
  refine And.intro (hx) ?_
  exact And.intro (pk_nc _) (DPi (rfl))
def m_J0_charAt_5068e_1000  (x : Int32) : Int32 := (m_J1_charAt_3b067_1050 x)
set_option maxRecDepth 100000 in
set_option maxHeartbeats 4000000 in
theorem c_J0_charAt_5068e_1000 (l : Launch) {fv : Value} (hf : FV fv)  (x : Int32) (hx : vp_in x 5) : CT l fv 4 jJ0_charAt_5068e [.ref 1000, .int x] ([]) (DP (some (.int (m_J0_charAt_5068e_1000 x))) ([])) := by
  refine CT_of [] mt_J0_charAt_5068e (by decide +kernel) (tab_J0 hf) okJ0_charAt_5068e (Nat.le_of_ble_eq_true rfl) ?_
  intro J hJ hD
  refine hJ 0 _ _ _ ?_
  refine CALL_sub (r := some (.int (nI 1))) (h' := []) [] (by decide) (c_J0_isLatin1_aae02_1000 l hf ) rfl rfl (by decide) (by decide) rfl ?_
  refine And.intro (fun c1 => absurd c1 (by decide)) (fun c1 => ?_)
  refine CALL_sub (h' := []) [] (by decide) (c_J1_charAt_3b067_1050 l hf x hx) rfl rfl (by decide) (by decide) rfl ?_
  exact And.intro (by unfold m_J1_charAt_3b067_1050; exact pk_nc _) (DPi (rfl))
set_option maxRecDepth 100000 in
set_option maxHeartbeats 4000000 in
theorem c_J0_coder_7d493_1001 (l : Launch) {fv : Value} (hf : FV fv)  : CT l fv 1 jJ0_coder_7d493 [.ref 1001] ([]) (DP (some (.int (nI 0))) ([])) := by
  refine CT_of [] mt_J0_coder_7d493 (by decide +kernel) (tab_J0 hf) okJ0_coder_7d493 (Nat.le_of_ble_eq_true rfl) ?_
  intro J hJ hD
  refine hJ 0 _ _ _ ?_
  refine And.intro (fun c1 => absurd c1 (by decide)) (fun c1 => ?_)
  refine hJ 14 _ _ _ ?_
  exact And.intro rfl (DPi (by decide))
set_option maxRecDepth 100000 in
set_option maxHeartbeats 4000000 in
theorem c_J0_isLatin1_aae02_1001 (l : Launch) {fv : Value} (hf : FV fv)  : CT l fv 1 jJ0_isLatin1_aae02 [.ref 1001] ([]) (DP (some (.int (nI 1))) ([])) := by
  refine CT_of [] mt_J0_isLatin1_aae02 (by decide +kernel) (tab_J0 hf) okJ0_isLatin1_aae02 (Nat.le_of_ble_eq_true rfl) ?_
  intro J hJ hD
  refine hJ 0 _ _ _ ?_
  refine And.intro (fun c1 => absurd c1 (by decide)) (fun c1 => ?_)
  refine And.intro (fun c2 => absurd (by decide) c2) (fun c2 => ?_)
  refine hJ 18 _ _ _ ?_
  exact And.intro xb1 (DPi (by decide))
set_option maxRecDepth 100000 in
set_option maxHeartbeats 4000000 in
theorem c_J0_length_8abf5_1001 (l : Launch) {fv : Value} (hf : FV fv)  : CT l fv 2 jJ0_length_8abf5 [.ref 1001] ([]) (DP (some (.int (nI 5))) ([])) := by
  refine CT_of [] mt_J0_length_8abf5 (by decide +kernel) (tab_J0 hf) okJ0_length_8abf5 (Nat.le_of_ble_eq_true rfl) ?_
  intro J hJ hD
  refine hJ 0 _ _ _ ?_
  refine CALL_sub (r := some (.int (nI 0))) (h' := []) [] (by decide) (c_J0_coder_7d493_1001 l hf ) rfl rfl (by decide) (by decide) rfl ?_
  exact And.intro True.intro (DPi (by decide))
def m_J1_charAt_3b067_1051  (x : Int32) : Int32 := (((sB_1 x.toNatClampNeg) &&& nI 255).toUInt32 % 65536).toInt32
set_option maxRecDepth 100000 in
set_option maxHeartbeats 4000000 in
theorem c_J1_charAt_3b067_1051 (l : Launch) {fv : Value} (hf : FV fv)  (x : Int32) (hx : vp_in x 5) : CT l fv 3 jJ1_charAt_3b067 [.ref 1051, .int x] ([]) (DP (some (.int (m_J1_charAt_3b067_1051 x))) ([])) := by
  refine CT_of [] mt_J1_charAt_3b067 (by decide +kernel) (tab_J1 hf) okJ1_charAt_3b067 (Nat.le_of_ble_eq_true rfl) ?_
  intro J hJ hD
  refine hJ 0 _ _ _ ?_
  refine CALL_sub (h' := []) [] (by decide) (c_J0_checkIndex_df160 l hf x (nI 5) (vp_nn hx (by decide)) (vp_lt hx (by decide))) rfl rfl (by decide) (by decide) rfl ?_
  refine And.intro (hx) ?_
  exact And.intro (pk_nc _) (DPi (rfl))
def m_J0_charAt_5068e_1001  (x : Int32) : Int32 := (m_J1_charAt_3b067_1051 x)
set_option maxRecDepth 100000 in
set_option maxHeartbeats 4000000 in
theorem c_J0_charAt_5068e_1001 (l : Launch) {fv : Value} (hf : FV fv)  (x : Int32) (hx : vp_in x 5) : CT l fv 4 jJ0_charAt_5068e [.ref 1001, .int x] ([]) (DP (some (.int (m_J0_charAt_5068e_1001 x))) ([])) := by
  refine CT_of [] mt_J0_charAt_5068e (by decide +kernel) (tab_J0 hf) okJ0_charAt_5068e (Nat.le_of_ble_eq_true rfl) ?_
  intro J hJ hD
  refine hJ 0 _ _ _ ?_
  refine CALL_sub (r := some (.int (nI 1))) (h' := []) [] (by decide) (c_J0_isLatin1_aae02_1001 l hf ) rfl rfl (by decide) (by decide) rfl ?_
  refine And.intro (fun c1 => absurd c1 (by decide)) (fun c1 => ?_)
  refine CALL_sub (h' := []) [] (by decide) (c_J1_charAt_3b067_1051 l hf x hx) rfl rfl (by decide) (by decide) rfl ?_
  exact And.intro (by unfold m_J1_charAt_3b067_1051; exact pk_nc _) (DPi (rfl))
set_option maxRecDepth 100000 in
set_option maxHeartbeats 4000000 in
theorem c_J0_coder_7d493_1002 (l : Launch) {fv : Value} (hf : FV fv)  : CT l fv 1 jJ0_coder_7d493 [.ref 1002] ([]) (DP (some (.int (nI 0))) ([])) := by
  refine CT_of [] mt_J0_coder_7d493 (by decide +kernel) (tab_J0 hf) okJ0_coder_7d493 (Nat.le_of_ble_eq_true rfl) ?_
  intro J hJ hD
  refine hJ 0 _ _ _ ?_
  refine And.intro (fun c1 => absurd c1 (by decide)) (fun c1 => ?_)
  refine hJ 14 _ _ _ ?_
  exact And.intro rfl (DPi (by decide))
set_option maxRecDepth 100000 in
set_option maxHeartbeats 4000000 in
theorem c_J0_isLatin1_aae02_1002 (l : Launch) {fv : Value} (hf : FV fv)  : CT l fv 1 jJ0_isLatin1_aae02 [.ref 1002] ([]) (DP (some (.int (nI 1))) ([])) := by
  refine CT_of [] mt_J0_isLatin1_aae02 (by decide +kernel) (tab_J0 hf) okJ0_isLatin1_aae02 (Nat.le_of_ble_eq_true rfl) ?_
  intro J hJ hD
  refine hJ 0 _ _ _ ?_
  refine And.intro (fun c1 => absurd c1 (by decide)) (fun c1 => ?_)
  refine And.intro (fun c2 => absurd (by decide) c2) (fun c2 => ?_)
  refine hJ 18 _ _ _ ?_
  exact And.intro xb1 (DPi (by decide))
set_option maxRecDepth 100000 in
set_option maxHeartbeats 4000000 in
theorem c_J0_length_8abf5_1002 (l : Launch) {fv : Value} (hf : FV fv)  : CT l fv 2 jJ0_length_8abf5 [.ref 1002] ([]) (DP (some (.int (nI 5))) ([])) := by
  refine CT_of [] mt_J0_length_8abf5 (by decide +kernel) (tab_J0 hf) okJ0_length_8abf5 (Nat.le_of_ble_eq_true rfl) ?_
  intro J hJ hD
  refine hJ 0 _ _ _ ?_
  refine CALL_sub (r := some (.int (nI 0))) (h' := []) [] (by decide) (c_J0_coder_7d493_1002 l hf ) rfl rfl (by decide) (by decide) rfl ?_
  exact And.intro True.intro (DPi (by decide))
def m_J1_charAt_3b067_1052  (x : Int32) : Int32 := (((sB_2 x.toNatClampNeg) &&& nI 255).toUInt32 % 65536).toInt32
set_option maxRecDepth 100000 in
set_option maxHeartbeats 4000000 in
theorem c_J1_charAt_3b067_1052 (l : Launch) {fv : Value} (hf : FV fv)  (x : Int32) (hx : vp_in x 5) : CT l fv 3 jJ1_charAt_3b067 [.ref 1052, .int x] ([]) (DP (some (.int (m_J1_charAt_3b067_1052 x))) ([])) := by
  refine CT_of [] mt_J1_charAt_3b067 (by decide +kernel) (tab_J1 hf) okJ1_charAt_3b067 (Nat.le_of_ble_eq_true rfl) ?_
  intro J hJ hD
  refine hJ 0 _ _ _ ?_
  refine CALL_sub (h' := []) [] (by decide) (c_J0_checkIndex_df160 l hf x (nI 5) (vp_nn hx (by decide)) (vp_lt hx (by decide))) rfl rfl (by decide) (by decide) rfl ?_
  refine And.intro (hx) ?_
  exact And.intro (pk_nc _) (DPi (rfl))
def m_J0_charAt_5068e_1002  (x : Int32) : Int32 := (m_J1_charAt_3b067_1052 x)
set_option maxRecDepth 100000 in
set_option maxHeartbeats 4000000 in
theorem c_J0_charAt_5068e_1002 (l : Launch) {fv : Value} (hf : FV fv)  (x : Int32) (hx : vp_in x 5) : CT l fv 4 jJ0_charAt_5068e [.ref 1002, .int x] ([]) (DP (some (.int (m_J0_charAt_5068e_1002 x))) ([])) := by
  refine CT_of [] mt_J0_charAt_5068e (by decide +kernel) (tab_J0 hf) okJ0_charAt_5068e (Nat.le_of_ble_eq_true rfl) ?_
  intro J hJ hD
  refine hJ 0 _ _ _ ?_
  refine CALL_sub (r := some (.int (nI 1))) (h' := []) [] (by decide) (c_J0_isLatin1_aae02_1002 l hf ) rfl rfl (by decide) (by decide) rfl ?_
  refine And.intro (fun c1 => absurd c1 (by decide)) (fun c1 => ?_)
  refine CALL_sub (h' := []) [] (by decide) (c_J1_charAt_3b067_1052 l hf x hx) rfl rfl (by decide) (by decide) rfl ?_
  exact And.intro (by unfold m_J1_charAt_3b067_1052; exact pk_nc _) (DPi (rfl))
set_option maxRecDepth 100000 in
set_option maxHeartbeats 4000000 in
theorem c_J0_coder_7d493_1003 (l : Launch) {fv : Value} (hf : FV fv)  : CT l fv 1 jJ0_coder_7d493 [.ref 1003] ([]) (DP (some (.int (nI 0))) ([])) := by
  refine CT_of [] mt_J0_coder_7d493 (by decide +kernel) (tab_J0 hf) okJ0_coder_7d493 (Nat.le_of_ble_eq_true rfl) ?_
  intro J hJ hD
  refine hJ 0 _ _ _ ?_
  refine And.intro (fun c1 => absurd c1 (by decide)) (fun c1 => ?_)
  refine hJ 14 _ _ _ ?_
  exact And.intro rfl (DPi (by decide))
set_option maxRecDepth 100000 in
set_option maxHeartbeats 4000000 in
theorem c_J0_isLatin1_aae02_1003 (l : Launch) {fv : Value} (hf : FV fv)  : CT l fv 1 jJ0_isLatin1_aae02 [.ref 1003] ([]) (DP (some (.int (nI 1))) ([])) := by
  refine CT_of [] mt_J0_isLatin1_aae02 (by decide +kernel) (tab_J0 hf) okJ0_isLatin1_aae02 (Nat.le_of_ble_eq_true rfl) ?_
  intro J hJ hD
  refine hJ 0 _ _ _ ?_
  refine And.intro (fun c1 => absurd c1 (by decide)) (fun c1 => ?_)
  refine And.intro (fun c2 => absurd (by decide) c2) (fun c2 => ?_)
  refine hJ 18 _ _ _ ?_
  exact And.intro xb1 (DPi (by decide))
set_option maxRecDepth 100000 in
set_option maxHeartbeats 4000000 in
theorem c_J0_length_8abf5_1003 (l : Launch) {fv : Value} (hf : FV fv)  : CT l fv 2 jJ0_length_8abf5 [.ref 1003] ([]) (DP (some (.int (nI 5))) ([])) := by
  refine CT_of [] mt_J0_length_8abf5 (by decide +kernel) (tab_J0 hf) okJ0_length_8abf5 (Nat.le_of_ble_eq_true rfl) ?_
  intro J hJ hD
  refine hJ 0 _ _ _ ?_
  refine CALL_sub (r := some (.int (nI 0))) (h' := []) [] (by decide) (c_J0_coder_7d493_1003 l hf ) rfl rfl (by decide) (by decide) rfl ?_
  exact And.intro True.intro (DPi (by decide))
def m_J1_charAt_3b067_1053  (x : Int32) : Int32 := (((sB_3 x.toNatClampNeg) &&& nI 255).toUInt32 % 65536).toInt32
set_option maxRecDepth 100000 in
set_option maxHeartbeats 4000000 in
theorem c_J1_charAt_3b067_1053 (l : Launch) {fv : Value} (hf : FV fv)  (x : Int32) (hx : vp_in x 5) : CT l fv 3 jJ1_charAt_3b067 [.ref 1053, .int x] ([]) (DP (some (.int (m_J1_charAt_3b067_1053 x))) ([])) := by
  refine CT_of [] mt_J1_charAt_3b067 (by decide +kernel) (tab_J1 hf) okJ1_charAt_3b067 (Nat.le_of_ble_eq_true rfl) ?_
  intro J hJ hD
  refine hJ 0 _ _ _ ?_
  refine CALL_sub (h' := []) [] (by decide) (c_J0_checkIndex_df160 l hf x (nI 5) (vp_nn hx (by decide)) (vp_lt hx (by decide))) rfl rfl (by decide) (by decide) rfl ?_
  refine And.intro (hx) ?_
  exact And.intro (pk_nc _) (DPi (rfl))
def m_J0_charAt_5068e_1003  (x : Int32) : Int32 := (m_J1_charAt_3b067_1053 x)
set_option maxRecDepth 100000 in
set_option maxHeartbeats 4000000 in
theorem c_J0_charAt_5068e_1003 (l : Launch) {fv : Value} (hf : FV fv)  (x : Int32) (hx : vp_in x 5) : CT l fv 4 jJ0_charAt_5068e [.ref 1003, .int x] ([]) (DP (some (.int (m_J0_charAt_5068e_1003 x))) ([])) := by
  refine CT_of [] mt_J0_charAt_5068e (by decide +kernel) (tab_J0 hf) okJ0_charAt_5068e (Nat.le_of_ble_eq_true rfl) ?_
  intro J hJ hD
  refine hJ 0 _ _ _ ?_
  refine CALL_sub (r := some (.int (nI 1))) (h' := []) [] (by decide) (c_J0_isLatin1_aae02_1003 l hf ) rfl rfl (by decide) (by decide) rfl ?_
  refine And.intro (fun c1 => absurd c1 (by decide)) (fun c1 => ?_)
  refine CALL_sub (h' := []) [] (by decide) (c_J1_charAt_3b067_1053 l hf x hx) rfl rfl (by decide) (by decide) rfl ?_
  exact And.intro (by unfold m_J1_charAt_3b067_1053; exact pk_nc _) (DPi (rfl))
set_option maxRecDepth 100000 in
set_option maxHeartbeats 4000000 in
theorem c_J0_coder_7d493_1004 (l : Launch) {fv : Value} (hf : FV fv)  : CT l fv 1 jJ0_coder_7d493 [.ref 1004] ([]) (DP (some (.int (nI 0))) ([])) := by
  refine CT_of [] mt_J0_coder_7d493 (by decide +kernel) (tab_J0 hf) okJ0_coder_7d493 (Nat.le_of_ble_eq_true rfl) ?_
  intro J hJ hD
  refine hJ 0 _ _ _ ?_
  refine And.intro (fun c1 => absurd c1 (by decide)) (fun c1 => ?_)
  refine hJ 14 _ _ _ ?_
  exact And.intro rfl (DPi (by decide))
set_option maxRecDepth 100000 in
set_option maxHeartbeats 4000000 in
theorem c_J0_isLatin1_aae02_1004 (l : Launch) {fv : Value} (hf : FV fv)  : CT l fv 1 jJ0_isLatin1_aae02 [.ref 1004] ([]) (DP (some (.int (nI 1))) ([])) := by
  refine CT_of [] mt_J0_isLatin1_aae02 (by decide +kernel) (tab_J0 hf) okJ0_isLatin1_aae02 (Nat.le_of_ble_eq_true rfl) ?_
  intro J hJ hD
  refine hJ 0 _ _ _ ?_
  refine And.intro (fun c1 => absurd c1 (by decide)) (fun c1 => ?_)
  refine And.intro (fun c2 => absurd (by decide) c2) (fun c2 => ?_)
  refine hJ 18 _ _ _ ?_
  exact And.intro xb1 (DPi (by decide))
set_option maxRecDepth 100000 in
set_option maxHeartbeats 4000000 in
theorem c_J0_length_8abf5_1004 (l : Launch) {fv : Value} (hf : FV fv)  : CT l fv 2 jJ0_length_8abf5 [.ref 1004] ([]) (DP (some (.int (nI 6))) ([])) := by
  refine CT_of [] mt_J0_length_8abf5 (by decide +kernel) (tab_J0 hf) okJ0_length_8abf5 (Nat.le_of_ble_eq_true rfl) ?_
  intro J hJ hD
  refine hJ 0 _ _ _ ?_
  refine CALL_sub (r := some (.int (nI 0))) (h' := []) [] (by decide) (c_J0_coder_7d493_1004 l hf ) rfl rfl (by decide) (by decide) rfl ?_
  exact And.intro True.intro (DPi (by decide))
def m_J1_charAt_3b067_1054  (x : Int32) : Int32 := (((sB_4 x.toNatClampNeg) &&& nI 255).toUInt32 % 65536).toInt32
set_option maxRecDepth 100000 in
set_option maxHeartbeats 4000000 in
theorem c_J1_charAt_3b067_1054 (l : Launch) {fv : Value} (hf : FV fv)  (x : Int32) (hx : vp_in x 6) : CT l fv 3 jJ1_charAt_3b067 [.ref 1054, .int x] ([]) (DP (some (.int (m_J1_charAt_3b067_1054 x))) ([])) := by
  refine CT_of [] mt_J1_charAt_3b067 (by decide +kernel) (tab_J1 hf) okJ1_charAt_3b067 (Nat.le_of_ble_eq_true rfl) ?_
  intro J hJ hD
  refine hJ 0 _ _ _ ?_
  refine CALL_sub (h' := []) [] (by decide) (c_J0_checkIndex_df160 l hf x (nI 6) (vp_nn hx (by decide)) (vp_lt hx (by decide))) rfl rfl (by decide) (by decide) rfl ?_
  refine And.intro (hx) ?_
  exact And.intro (pk_nc _) (DPi (rfl))
def m_J0_charAt_5068e_1004  (x : Int32) : Int32 := (m_J1_charAt_3b067_1054 x)
set_option maxRecDepth 100000 in
set_option maxHeartbeats 4000000 in
theorem c_J0_charAt_5068e_1004 (l : Launch) {fv : Value} (hf : FV fv)  (x : Int32) (hx : vp_in x 6) : CT l fv 4 jJ0_charAt_5068e [.ref 1004, .int x] ([]) (DP (some (.int (m_J0_charAt_5068e_1004 x))) ([])) := by
  refine CT_of [] mt_J0_charAt_5068e (by decide +kernel) (tab_J0 hf) okJ0_charAt_5068e (Nat.le_of_ble_eq_true rfl) ?_
  intro J hJ hD
  refine hJ 0 _ _ _ ?_
  refine CALL_sub (r := some (.int (nI 1))) (h' := []) [] (by decide) (c_J0_isLatin1_aae02_1004 l hf ) rfl rfl (by decide) (by decide) rfl ?_
  refine And.intro (fun c1 => absurd c1 (by decide)) (fun c1 => ?_)
  refine CALL_sub (h' := []) [] (by decide) (c_J1_charAt_3b067_1054 l hf x hx) rfl rfl (by decide) (by decide) rfl ?_
  exact And.intro (by unfold m_J1_charAt_3b067_1054; exact pk_nc _) (DPi (rfl))
set_option maxRecDepth 100000 in
set_option maxHeartbeats 4000000 in
theorem c_J0_coder_7d493_1005 (l : Launch) {fv : Value} (hf : FV fv)  : CT l fv 1 jJ0_coder_7d493 [.ref 1005] ([]) (DP (some (.int (nI 0))) ([])) := by
  refine CT_of [] mt_J0_coder_7d493 (by decide +kernel) (tab_J0 hf) okJ0_coder_7d493 (Nat.le_of_ble_eq_true rfl) ?_
  intro J hJ hD
  refine hJ 0 _ _ _ ?_
  refine And.intro (fun c1 => absurd c1 (by decide)) (fun c1 => ?_)
  refine hJ 14 _ _ _ ?_
  exact And.intro rfl (DPi (by decide))
set_option maxRecDepth 100000 in
set_option maxHeartbeats 4000000 in
theorem c_J0_isLatin1_aae02_1005 (l : Launch) {fv : Value} (hf : FV fv)  : CT l fv 1 jJ0_isLatin1_aae02 [.ref 1005] ([]) (DP (some (.int (nI 1))) ([])) := by
  refine CT_of [] mt_J0_isLatin1_aae02 (by decide +kernel) (tab_J0 hf) okJ0_isLatin1_aae02 (Nat.le_of_ble_eq_true rfl) ?_
  intro J hJ hD
  refine hJ 0 _ _ _ ?_
  refine And.intro (fun c1 => absurd c1 (by decide)) (fun c1 => ?_)
  refine And.intro (fun c2 => absurd (by decide) c2) (fun c2 => ?_)
  refine hJ 18 _ _ _ ?_
  exact And.intro xb1 (DPi (by decide))
set_option maxRecDepth 100000 in
set_option maxHeartbeats 4000000 in
theorem c_J0_length_8abf5_1005 (l : Launch) {fv : Value} (hf : FV fv)  : CT l fv 2 jJ0_length_8abf5 [.ref 1005] ([]) (DP (some (.int (nI 3))) ([])) := by
  refine CT_of [] mt_J0_length_8abf5 (by decide +kernel) (tab_J0 hf) okJ0_length_8abf5 (Nat.le_of_ble_eq_true rfl) ?_
  intro J hJ hD
  refine hJ 0 _ _ _ ?_
  refine CALL_sub (r := some (.int (nI 0))) (h' := []) [] (by decide) (c_J0_coder_7d493_1005 l hf ) rfl rfl (by decide) (by decide) rfl ?_
  exact And.intro True.intro (DPi (by decide))
def m_J1_charAt_3b067_1055  (x : Int32) : Int32 := (((sB_5 x.toNatClampNeg) &&& nI 255).toUInt32 % 65536).toInt32
set_option maxRecDepth 100000 in
set_option maxHeartbeats 4000000 in
theorem c_J1_charAt_3b067_1055 (l : Launch) {fv : Value} (hf : FV fv)  (x : Int32) (hx : vp_in x 3) : CT l fv 3 jJ1_charAt_3b067 [.ref 1055, .int x] ([]) (DP (some (.int (m_J1_charAt_3b067_1055 x))) ([])) := by
  refine CT_of [] mt_J1_charAt_3b067 (by decide +kernel) (tab_J1 hf) okJ1_charAt_3b067 (Nat.le_of_ble_eq_true rfl) ?_
  intro J hJ hD
  refine hJ 0 _ _ _ ?_
  refine CALL_sub (h' := []) [] (by decide) (c_J0_checkIndex_df160 l hf x (nI 3) (vp_nn hx (by decide)) (vp_lt hx (by decide))) rfl rfl (by decide) (by decide) rfl ?_
  refine And.intro (hx) ?_
  exact And.intro (pk_nc _) (DPi (rfl))
def m_J0_charAt_5068e_1005  (x : Int32) : Int32 := (m_J1_charAt_3b067_1055 x)
set_option maxRecDepth 100000 in
set_option maxHeartbeats 4000000 in
theorem c_J0_charAt_5068e_1005 (l : Launch) {fv : Value} (hf : FV fv)  (x : Int32) (hx : vp_in x 3) : CT l fv 4 jJ0_charAt_5068e [.ref 1005, .int x] ([]) (DP (some (.int (m_J0_charAt_5068e_1005 x))) ([])) := by
  refine CT_of [] mt_J0_charAt_5068e (by decide +kernel) (tab_J0 hf) okJ0_charAt_5068e (Nat.le_of_ble_eq_true rfl) ?_
  intro J hJ hD
  refine hJ 0 _ _ _ ?_
  refine CALL_sub (r := some (.int (nI 1))) (h' := []) [] (by decide) (c_J0_isLatin1_aae02_1005 l hf ) rfl rfl (by decide) (by decide) rfl ?_
  refine And.intro (fun c1 => absurd c1 (by decide)) (fun c1 => ?_)
  refine CALL_sub (h' := []) [] (by decide) (c_J1_charAt_3b067_1055 l hf x hx) rfl rfl (by decide) (by decide) rfl ?_
  exact And.intro (by unfold m_J1_charAt_3b067_1055; exact pk_nc _) (DPi (rfl))
def m_J9_max_7cf53  (x : Int32) (y : Int32) : Int32 := if x < y then y else x
set_option maxRecDepth 100000 in
set_option maxHeartbeats 4000000 in
theorem c_J9_max_7cf53 (l : Launch) {fv : Value} (hf : FV fv)  (x : Int32) (y : Int32) : CT l fv 1 jJ9_max_7cf53 [.int x, .int y] ([]) (DP (some (.int (m_J9_max_7cf53 x y))) ([])) := by
  refine CT_ofF [] mt_J9_max_7cf53 (by decide +kernel) (tab_J9 hf) okJ9_max_7cf53 (Nat.le_of_ble_eq_true rfl) ?_
  intro J hJ hD
  refine hJ 0 _ _ _ ?_
  refine And.intro (fun c1 => ?_) (fun c1 => ?_)
  · skip
    refine hJ 9 _ _ _ ?_
    exact And.intro True.intro (DPi (if_pos c1))
  · skip
    refine hJ 10 _ _ _ ?_
    exact And.intro True.intro (DPi (if_neg c1))
def m_J9_min_7cf53  (x : Int32) (y : Int32) : Int32 := if y < x then y else x
set_option maxRecDepth 100000 in
set_option maxHeartbeats 4000000 in
theorem c_J9_min_7cf53 (l : Launch) {fv : Value} (hf : FV fv)  (x : Int32) (y : Int32) : CT l fv 1 jJ9_min_7cf53 [.int x, .int y] ([]) (DP (some (.int (m_J9_min_7cf53 x y))) ([])) := by
  refine CT_ofF [] mt_J9_min_7cf53 (by decide +kernel) (tab_J9 hf) okJ9_min_7cf53 (Nat.le_of_ble_eq_true rfl) ?_
  intro J hJ hD
  refine hJ 0 _ _ _ ?_
  refine And.intro (fun c1 => ?_) (fun c1 => ?_)
  · skip
    refine hJ 9 _ _ _ ?_
    exact And.intro True.intro (DPi (if_pos c1))
  · skip
    refine hJ 10 _ _ _ ?_
    exact And.intro True.intro (DPi (if_neg c1))
def m_J1_canEncode_9a6ad  (x : Int32) : Int32 := if x < 0 then nI 0 else (if nI 255 < x then nI 0 else nI 1)
theorem bl_J1_canEncode_9a6ad  {x : Int32} : bl (m_J1_canEncode_9a6ad x) := by
  unfold m_J1_canEncode_9a6ad
  (repeat' split) <;> first | exact Or.inl rfl | exact Or.inr rfl
set_option maxRecDepth 100000 in
set_option maxHeartbeats 4000000 in
theorem c_J1_canEncode_9a6ad (l : Launch) {fv : Value} (hf : FV fv)  (x : Int32) : CT l fv 1 jJ1_canEncode_9a6ad [.int x] ([]) (DP (some (.int (m_J1_canEncode_9a6ad x))) ([])) := by
  refine CT_of [] mt_J1_canEncode_9a6ad (by decide +kernel) (tab_J1 hf) okJ1_canEncode_9a6ad (Nat.le_of_ble_eq_true rfl) ?_
  intro J hJ hD
  refine hJ 0 _ _ _ ?_
  refine And.intro (fun c1 => ?_) (fun c1 => ?_)
  · skip
    refine hJ 15 _ _ _ ?_
    exact And.intro xb0 (DPi (if_pos c1))
  · skip
    refine And.intro (fun c2 => ?_) (fun c2 => ?_)
    · skip
      refine hJ 15 _ _ _ ?_
      exact And.intro xb0 (DPi ((if_neg c1).trans (if_pos c2)))
    · skip
      refine hJ 16 _ _ _ ?_
      exact And.intro xb1 (DPi ((if_neg c1).trans (if_neg c2)))
def l_J1_indexOfChar_4cfef_1054_7  (ch : Int32) (fr : Int32) (to : Int32) : Nat → Int32 → Int32
  | 0, _ => 0
  | n7 + 1, i => if to ≤ i then (-nI 1) else (if (sB_4 i.toNatClampNeg) = ch.toInt8.toInt32 then i else l_J1_indexOfChar_4cfef_1054_7 ch fr to n7 (i + nI 1))
theorem q_J1_indexOfChar_4cfef_1054_7  (ch : Int32) (fr : Int32) (to : Int32) (n7 : Nat) (i : Int32) : l_J1_indexOfChar_4cfef_1054_7 ch fr to (n7 + 1) i = (if to ≤ i then (-nI 1) else (if (sB_4 i.toNatClampNeg) = ch.toInt8.toInt32 then i else l_J1_indexOfChar_4cfef_1054_7 ch fr to n7 (i + nI 1))) := rfl
def m_J1_indexOfChar_4cfef_1054  (ch : Int32) (fr : Int32) (to : Int32) : Int32 := l_J1_indexOfChar_4cfef_1054_7 ch fr to 7 fr
set_option maxRecDepth 100000 in
set_option maxHeartbeats 4000000 in
theorem c_J1_indexOfChar_4cfef_1054 (l : Launch) {fv : Value} (hf : FV fv)  (ch : Int32) (fr : Int32) (to : Int32) (h0 : fr = nI 0) (h1 : to = nI 6) : CT l fv 1 jJ1_indexOfChar_4cfef [.ref 1054, .int ch, .int fr, .int to] ([]) (DP (some (.int (m_J1_indexOfChar_4cfef_1054 ch fr to))) ([])) := by
  refine CT_of [7] mt_J1_indexOfChar_4cfef (by decide +kernel) (tab_J1 hf) okJ1_indexOfChar_4cfef (Nat.le_of_ble_eq_true rfl) ?_
  intro J hJ hD
  refine hJ 0 _ _ _ ?_
  have L7 : ∀ (n7 : Nat) (i : Int32), (∃ z9 : Nat, z9 ≤ 6 ∧ n7 + z9 = 7 ∧ i = nI z9) → m_J1_indexOfChar_4cfef_1054 ch fr to = l_J1_indexOfChar_4cfef_1054_7 ch fr to n7 i → J 7 [(0, .ref 1054), (3, .int to), (4, .int ch.toInt8.toInt32), (5, .int i)] [] [] := by
    intro n7
    induction n7 with
    | zero =>
      intro i hv
      obtain ⟨z9, hz, h2, h3⟩ := hv
      omega
    | succ n7 ih7 =>
      intro i hv e7
      obtain ⟨z9, hz, h2, h3⟩ := hv
      refine hJ 7 _ _ _ ?_
      refine And.intro (fun c1 => ?_) (fun c1 => ?_)
      · skip
        refine hJ 31 _ _ _ ?_
        exact And.intro True.intro (DPi (e7.trans ((q_J1_indexOfChar_4cfef_1054_7 ch fr to n7 i).trans (if_pos c1))))
      · skip
        have h4 : z9 < 6 := cnt_lt h3 hz (by decide) (by rw [← h1]; exact c1)
        refine And.intro (vp_nI h3 h4 (by decide)) ?_
        refine And.intro (fun c2 => ?_) (fun c2 => ?_)
        · skip
          refine hJ 25 _ _ _ ?_
          exact hD _ _ [1, 2, 3, 0] _ _ (ih7 _ ⟨z9 + 1, by omega, by omega, by rw [h3]; exact nI_add z9 1⟩ (e7.trans ((q_J1_indexOfChar_4cfef_1054_7 ch fr to n7 i).trans ((if_neg c1).trans (if_neg c2)))))
        · skip
          exact And.intro True.intro (DPi (e7.trans ((q_J1_indexOfChar_4cfef_1054_7 ch fr to n7 i).trans ((if_neg c1).trans (if_pos c2)))))
  exact hD _ _ [2, 5, 1, 0] _ _ (L7 7 _ ⟨0, by decide, by decide, h0⟩ (rfl))
def m_J1_indexOf_4cfef_1054  (ch : Int32) (fr : Int32) (to : Int32) : Int32 := if (m_J1_canEncode_9a6ad ch) = 0 then (-nI 1) else (if (m_J9_max_7cf53 fr (nI 0)) < (m_J9_min_7cf53 to (nI 6)) then (m_J1_indexOfChar_4cfef_1054 ch (m_J9_max_7cf53 fr (nI 0)) (m_J9_min_7cf53 to (nI 6))) else (-nI 1))
set_option maxRecDepth 100000 in
set_option maxHeartbeats 4000000 in
theorem c_J1_indexOf_4cfef_1054 (l : Launch) {fv : Value} (hf : FV fv)  (ch : Int32) (fr : Int32) (to : Int32) (h0 : fr = nI 0) (h1 : to = nI 6) : CT l fv 2 jJ1_indexOf_4cfef [.ref 1054, .int ch, .int fr, .int to] ([]) (DP (some (.int (m_J1_indexOf_4cfef_1054 ch fr to))) ([])) := by
  refine CT_of [] mt_J1_indexOf_4cfef (by decide +kernel) (tab_J1 hf) okJ1_indexOf_4cfef (Nat.le_of_ble_eq_true rfl) ?_
  intro J hJ hD
  refine hJ 0 _ _ _ ?_
  refine CALL_sub (h' := []) [] (by decide) (c_J1_canEncode_9a6ad l hf ch) rfl rfl (by decide) (by decide) rfl ?_
  refine And.intro (fun c1 => ?_) (fun c1 => ?_)
  · skip
    refine hJ 9 _ _ _ ?_
    refine CALL_sub (h' := []) [] (by decide) (c_J9_max_7cf53 l hf fr (nI 0)) rfl rfl (by decide) (by decide) rfl ?_
    refine CALL_sub (h' := []) [] (by decide) (c_J9_min_7cf53 l hf to (nI 6)) rfl rfl (by decide) (by decide) rfl ?_
    refine And.intro (fun c2 => ?_) (fun c2 => ?_)
    · skip
      refine hJ 29 _ _ _ ?_
      refine CALL_sub (h' := []) [] (by decide) (c_J1_indexOfChar_4cfef_1054 l hf ch (m_J9_max_7cf53 fr (nI 0)) (m_J9_min_7cf53 to (nI 6)) (by rw [h0]; rfl) (by rw [h1]; rfl)) rfl rfl (by decide) (by decide) rfl ?_
      exact And.intro True.intro (DPi ((if_neg c1).trans (if_pos c2)))
    · skip
      exact And.intro True.intro (DPi ((if_neg c1).trans (if_neg c2)))
  · skip
    exact And.intro True.intro (DPi (if_pos c1))
def m_J0_indexOf_7cf53_1004  (ch : Int32) (fr : Int32) : Int32 := (m_J1_indexOf_4cfef_1054 ch fr (nI 6))
set_option maxRecDepth 100000 in
set_option maxHeartbeats 4000000 in
theorem c_J0_indexOf_7cf53_1004 (l : Launch) {fv : Value} (hf : FV fv)  (ch : Int32) (fr : Int32) (h0 : fr = nI 0) : CT l fv 3 jJ0_indexOf_7cf53 [.ref 1004, .int ch, .int fr] ([]) (DP (some (.int (m_J0_indexOf_7cf53_1004 ch fr))) ([])) := by
  refine CT_of [] mt_J0_indexOf_7cf53 (by decide +kernel) (tab_J0 hf) okJ0_indexOf_7cf53 (Nat.le_of_ble_eq_true rfl) ?_
  intro J hJ hD
  refine hJ 0 _ _ _ ?_
  refine CALL_sub (r := some (.int (nI 1))) (h' := []) [] (by decide) (c_J0_isLatin1_aae02_1004 l hf ) rfl rfl (by decide) (by decide) rfl ?_
  refine And.intro (fun c1 => absurd c1 (by decide)) (fun c1 => ?_)
  refine CALL_sub (r := some (.int (nI 6))) (h' := []) [] (by decide) (c_J0_length_8abf5_1004 l hf ) rfl rfl (by decide) (by decide) rfl ?_
  refine CALL_sub (h' := []) [] (by decide) (c_J1_indexOf_4cfef_1054 l hf ch fr (nI 6) h0 rfl) rfl rfl (by decide) (by decide) rfl ?_
  refine hJ 36 _ _ _ ?_
  exact And.intro True.intro (DPi (rfl))
def m_J0_indexOf_0f7a4_1004  (ch : Int32) : Int32 := (m_J0_indexOf_7cf53_1004 ch (nI 0))
set_option maxRecDepth 100000 in
set_option maxHeartbeats 4000000 in
theorem c_J0_indexOf_0f7a4_1004 (l : Launch) {fv : Value} (hf : FV fv)  (ch : Int32) : CT l fv 4 jJ0_indexOf_0f7a4 [.ref 1004, .int ch] ([]) (DP (some (.int (m_J0_indexOf_0f7a4_1004 ch))) ([])) := by
  refine CT_of [] mt_J0_indexOf_0f7a4 (by decide +kernel) (tab_J0 hf) okJ0_indexOf_0f7a4 (Nat.le_of_ble_eq_true rfl) ?_
  intro J hJ hD
  refine hJ 0 _ _ _ ?_
  refine CALL_sub (h' := []) [] (by decide) (c_J0_indexOf_7cf53_1004 l hf ch (nI 0) rfl) rfl rfl (by decide) (by decide) rfl ?_
  exact And.intro True.intro (DPi (rfl))
def l_J1_indexOfChar_4cfef_1055_7  (ch : Int32) (fr : Int32) (to : Int32) : Nat → Int32 → Int32
  | 0, _ => 0
  | n7 + 1, i => if to ≤ i then (-nI 1) else (if (sB_5 i.toNatClampNeg) = ch.toInt8.toInt32 then i else l_J1_indexOfChar_4cfef_1055_7 ch fr to n7 (i + nI 1))
theorem q_J1_indexOfChar_4cfef_1055_7  (ch : Int32) (fr : Int32) (to : Int32) (n7 : Nat) (i : Int32) : l_J1_indexOfChar_4cfef_1055_7 ch fr to (n7 + 1) i = (if to ≤ i then (-nI 1) else (if (sB_5 i.toNatClampNeg) = ch.toInt8.toInt32 then i else l_J1_indexOfChar_4cfef_1055_7 ch fr to n7 (i + nI 1))) := rfl
def m_J1_indexOfChar_4cfef_1055  (ch : Int32) (fr : Int32) (to : Int32) : Int32 := l_J1_indexOfChar_4cfef_1055_7 ch fr to 4 fr
set_option maxRecDepth 100000 in
set_option maxHeartbeats 4000000 in
theorem c_J1_indexOfChar_4cfef_1055 (l : Launch) {fv : Value} (hf : FV fv)  (ch : Int32) (fr : Int32) (to : Int32) (h0 : fr = nI 0) (h1 : to = nI 3) : CT l fv 1 jJ1_indexOfChar_4cfef [.ref 1055, .int ch, .int fr, .int to] ([]) (DP (some (.int (m_J1_indexOfChar_4cfef_1055 ch fr to))) ([])) := by
  refine CT_of [7] mt_J1_indexOfChar_4cfef (by decide +kernel) (tab_J1 hf) okJ1_indexOfChar_4cfef (Nat.le_of_ble_eq_true rfl) ?_
  intro J hJ hD
  refine hJ 0 _ _ _ ?_
  have L7 : ∀ (n7 : Nat) (i : Int32), (∃ z9 : Nat, z9 ≤ 3 ∧ n7 + z9 = 4 ∧ i = nI z9) → m_J1_indexOfChar_4cfef_1055 ch fr to = l_J1_indexOfChar_4cfef_1055_7 ch fr to n7 i → J 7 [(0, .ref 1055), (3, .int to), (4, .int ch.toInt8.toInt32), (5, .int i)] [] [] := by
    intro n7
    induction n7 with
    | zero =>
      intro i hv
      obtain ⟨z9, hz, h2, h3⟩ := hv
      omega
    | succ n7 ih7 =>
      intro i hv e7
      obtain ⟨z9, hz, h2, h3⟩ := hv
      refine hJ 7 _ _ _ ?_
      refine And.intro (fun c1 => ?_) (fun c1 => ?_)
      · skip
        refine hJ 31 _ _ _ ?_
        exact And.intro True.intro (DPi (e7.trans ((q_J1_indexOfChar_4cfef_1055_7 ch fr to n7 i).trans (if_pos c1))))
      · skip
        have h4 : z9 < 3 := cnt_lt h3 hz (by decide) (by rw [← h1]; exact c1)
        refine And.intro (vp_nI h3 h4 (by decide)) ?_
        refine And.intro (fun c2 => ?_) (fun c2 => ?_)
        · skip
          refine hJ 25 _ _ _ ?_
          exact hD _ _ [1, 2, 3, 0] _ _ (ih7 _ ⟨z9 + 1, by omega, by omega, by rw [h3]; exact nI_add z9 1⟩ (e7.trans ((q_J1_indexOfChar_4cfef_1055_7 ch fr to n7 i).trans ((if_neg c1).trans (if_neg c2)))))
        · skip
          exact And.intro True.intro (DPi (e7.trans ((q_J1_indexOfChar_4cfef_1055_7 ch fr to n7 i).trans ((if_neg c1).trans (if_pos c2)))))
  exact hD _ _ [2, 5, 1, 0] _ _ (L7 4 _ ⟨0, by decide, by decide, h0⟩ (rfl))
def m_J1_indexOf_4cfef_1055  (ch : Int32) (fr : Int32) (to : Int32) : Int32 := if (m_J1_canEncode_9a6ad ch) = 0 then (-nI 1) else (if (m_J9_max_7cf53 fr (nI 0)) < (m_J9_min_7cf53 to (nI 3)) then (m_J1_indexOfChar_4cfef_1055 ch (m_J9_max_7cf53 fr (nI 0)) (m_J9_min_7cf53 to (nI 3))) else (-nI 1))
set_option maxRecDepth 100000 in
set_option maxHeartbeats 4000000 in
theorem c_J1_indexOf_4cfef_1055 (l : Launch) {fv : Value} (hf : FV fv)  (ch : Int32) (fr : Int32) (to : Int32) (h0 : fr = nI 0) (h1 : to = nI 3) : CT l fv 2 jJ1_indexOf_4cfef [.ref 1055, .int ch, .int fr, .int to] ([]) (DP (some (.int (m_J1_indexOf_4cfef_1055 ch fr to))) ([])) := by
  refine CT_of [] mt_J1_indexOf_4cfef (by decide +kernel) (tab_J1 hf) okJ1_indexOf_4cfef (Nat.le_of_ble_eq_true rfl) ?_
  intro J hJ hD
  refine hJ 0 _ _ _ ?_
  refine CALL_sub (h' := []) [] (by decide) (c_J1_canEncode_9a6ad l hf ch) rfl rfl (by decide) (by decide) rfl ?_
  refine And.intro (fun c1 => ?_) (fun c1 => ?_)
  · skip
    refine hJ 9 _ _ _ ?_
    refine CALL_sub (h' := []) [] (by decide) (c_J9_max_7cf53 l hf fr (nI 0)) rfl rfl (by decide) (by decide) rfl ?_
    refine CALL_sub (h' := []) [] (by decide) (c_J9_min_7cf53 l hf to (nI 3)) rfl rfl (by decide) (by decide) rfl ?_
    refine And.intro (fun c2 => ?_) (fun c2 => ?_)
    · skip
      refine hJ 29 _ _ _ ?_
      refine CALL_sub (h' := []) [] (by decide) (c_J1_indexOfChar_4cfef_1055 l hf ch (m_J9_max_7cf53 fr (nI 0)) (m_J9_min_7cf53 to (nI 3)) (by rw [h0]; rfl) (by rw [h1]; rfl)) rfl rfl (by decide) (by decide) rfl ?_
      exact And.intro True.intro (DPi ((if_neg c1).trans (if_pos c2)))
    · skip
      exact And.intro True.intro (DPi ((if_neg c1).trans (if_neg c2)))
  · skip
    exact And.intro True.intro (DPi (if_pos c1))
def m_J0_indexOf_7cf53_1005  (ch : Int32) (fr : Int32) : Int32 := (m_J1_indexOf_4cfef_1055 ch fr (nI 3))
set_option maxRecDepth 100000 in
set_option maxHeartbeats 4000000 in
theorem c_J0_indexOf_7cf53_1005 (l : Launch) {fv : Value} (hf : FV fv)  (ch : Int32) (fr : Int32) (h0 : fr = nI 0) : CT l fv 3 jJ0_indexOf_7cf53 [.ref 1005, .int ch, .int fr] ([]) (DP (some (.int (m_J0_indexOf_7cf53_1005 ch fr))) ([])) := by
  refine CT_of [] mt_J0_indexOf_7cf53 (by decide +kernel) (tab_J0 hf) okJ0_indexOf_7cf53 (Nat.le_of_ble_eq_true rfl) ?_
  intro J hJ hD
  refine hJ 0 _ _ _ ?_
  refine CALL_sub (r := some (.int (nI 1))) (h' := []) [] (by decide) (c_J0_isLatin1_aae02_1005 l hf ) rfl rfl (by decide) (by decide) rfl ?_
  refine And.intro (fun c1 => absurd c1 (by decide)) (fun c1 => ?_)
  refine CALL_sub (r := some (.int (nI 3))) (h' := []) [] (by decide) (c_J0_length_8abf5_1005 l hf ) rfl rfl (by decide) (by decide) rfl ?_
  refine CALL_sub (h' := []) [] (by decide) (c_J1_indexOf_4cfef_1055 l hf ch fr (nI 3) h0 rfl) rfl rfl (by decide) (by decide) rfl ?_
  refine hJ 36 _ _ _ ?_
  exact And.intro True.intro (DPi (rfl))
def m_J0_indexOf_0f7a4_1005  (ch : Int32) : Int32 := (m_J0_indexOf_7cf53_1005 ch (nI 0))
set_option maxRecDepth 100000 in
set_option maxHeartbeats 4000000 in
theorem c_J0_indexOf_0f7a4_1005 (l : Launch) {fv : Value} (hf : FV fv)  (ch : Int32) : CT l fv 4 jJ0_indexOf_0f7a4 [.ref 1005, .int ch] ([]) (DP (some (.int (m_J0_indexOf_0f7a4_1005 ch))) ([])) := by
  refine CT_of [] mt_J0_indexOf_0f7a4 (by decide +kernel) (tab_J0 hf) okJ0_indexOf_0f7a4 (Nat.le_of_ble_eq_true rfl) ?_
  intro J hJ hD
  refine hJ 0 _ _ _ ?_
  refine CALL_sub (h' := []) [] (by decide) (c_J0_indexOf_7cf53_1005 l hf ch (nI 0) rfl) rfl rfl (by decide) (by decide) rfl ?_
  exact And.intro True.intro (DPi (rfl))
def m_J6_bitCount_0f7a4  (x : Int32) : Int32 := ((((((((x - (((x).toUInt32 >>> ((nI 1).toUInt32 &&& Int32.toUInt32 31)).toInt32 &&& 1431655765)) &&& 858993459) + ((((x - (((x).toUInt32 >>> ((nI 1).toUInt32 &&& Int32.toUInt32 31)).toInt32 &&& 1431655765))).toUInt32 >>> ((nI 2).toUInt32 &&& Int32.toUInt32 31)).toInt32 &&& 858993459)) + (((((x - (((x).toUInt32 >>> ((nI 1).toUInt32 &&& Int32.toUInt32 31)).toInt32 &&& 1431655765)) &&& 858993459) + ((((x - (((x).toUInt32 >>> ((nI 1).toUInt32 &&& Int32.toUInt32 31)).toInt32 &&& 1431655765))).toUInt32 >>> ((nI 2).toUInt32 &&& Int32.toUInt32 31)).toInt32 &&& 858993459))).toUInt32 >>> ((nI 4).toUInt32 &&& Int32.toUInt32 31)).toInt32) &&& 252645135) + (((((((x - (((x).toUInt32 >>> ((nI 1).toUInt32 &&& Int32.toUInt32 31)).toInt32 &&& 1431655765)) &&& 858993459) + ((((x - (((x).toUInt32 >>> ((nI 1).toUInt32 &&& Int32.toUInt32 31)).toInt32 &&& 1431655765))).toUInt32 >>> ((nI 2).toUInt32 &&& Int32.toUInt32 31)).toInt32 &&& 858993459)) + (((((x - (((x).toUInt32 >>> ((nI 1).toUInt32 &&& Int32.toUInt32 31)).toInt32 &&& 1431655765)) &&& 858993459) + ((((x - (((x).toUInt32 >>> ((nI 1).toUInt32 &&& Int32.toUInt32 31)).toInt32 &&& 1431655765))).toUInt32 >>> ((nI 2).toUInt32 &&& Int32.toUInt32 31)).toInt32 &&& 858993459))).toUInt32 >>> ((nI 4).toUInt32 &&& Int32.toUInt32 31)).toInt32) &&& 252645135)).toUInt32 >>> ((nI 8).toUInt32 &&& Int32.toUInt32 31)).toInt32) + ((((((((x - (((x).toUInt32 >>> ((nI 1).toUInt32 &&& Int32.toUInt32 31)).toInt32 &&& 1431655765)) &&& 858993459) + ((((x - (((x).toUInt32 >>> ((nI 1).toUInt32 &&& Int32.toUInt32 31)).toInt32 &&& 1431655765))).toUInt32 >>> ((nI 2).toUInt32 &&& Int32.toUInt32 31)).toInt32 &&& 858993459)) + (((((x - (((x).toUInt32 >>> ((nI 1).toUInt32 &&& Int32.toUInt32 31)).toInt32 &&& 1431655765)) &&& 858993459) + ((((x - (((x).toUInt32 >>> ((nI 1).toUInt32 &&& Int32.toUInt32 31)).toInt32 &&& 1431655765))).toUInt32 >>> ((nI 2).toUInt32 &&& Int32.toUInt32 31)).toInt32 &&& 858993459))).toUInt32 >>> ((nI 4).toUInt32 &&& Int32.toUInt32 31)).toInt32) &&& 252645135) + (((((((x - (((x).toUInt32 >>> ((nI 1).toUInt32 &&& Int32.toUInt32 31)).toInt32 &&& 1431655765)) &&& 858993459) + ((((x - (((x).toUInt32 >>> ((nI 1).toUInt32 &&& Int32.toUInt32 31)).toInt32 &&& 1431655765))).toUInt32 >>> ((nI 2).toUInt32 &&& Int32.toUInt32 31)).toInt32 &&& 858993459)) + (((((x - (((x).toUInt32 >>> ((nI 1).toUInt32 &&& Int32.toUInt32 31)).toInt32 &&& 1431655765)) &&& 858993459) + ((((x - (((x).toUInt32 >>> ((nI 1).toUInt32 &&& Int32.toUInt32 31)).toInt32 &&& 1431655765))).toUInt32 >>> ((nI 2).toUInt32 &&& Int32.toUInt32 31)).toInt32 &&& 858993459))).toUInt32 >>> ((nI 4).toUInt32 &&& Int32.toUInt32 31)).toInt32) &&& 252645135)).toUInt32 >>> ((nI 8).toUInt32 &&& Int32.toUInt32 31)).toInt32)).toUInt32 >>> ((nI 16).toUInt32 &&& Int32.toUInt32 31)).toInt32) &&& nI 63)
set_option maxRecDepth 100000 in
set_option maxHeartbeats 4000000 in
theorem c_J6_bitCount_0f7a4 (l : Launch) {fv : Value} (hf : FV fv)  (x : Int32) : CT l fv 1 jJ6_bitCount_0f7a4 [.int x] ([]) (DP (some (.int (m_J6_bitCount_0f7a4 x))) ([])) := by
  refine CT_of [] mt_J6_bitCount_0f7a4 (by decide +kernel) (tab_J6 hf) okJ6_bitCount_0f7a4 (Nat.le_of_ble_eq_true rfl) ?_
  intro J hJ hD
  refine hJ 0 _ _ _ ?_
  exact And.intro True.intro (DPi (rfl))
abbrev Fi : Type := Fn
def Fi.f (s : Fi) : Fn := s
def wFi (zf : Fn) : List AE := [.inl (0, 540, .inl (zf))]
def hFi (s : Fi) : List AE := wFi (Fi.f s)
def l_J7_fill_53178_5 (s : Fi) (v : Int32) : Nat → Int32 → Fn → Fi
  | 0, _, _ => s
  | n5 + 1, i, f1 => if nI 540 ≤ i then (f1) else l_J7_fill_53178_5 s v n5 (i + nI 1) (upd f1 i.toNatClampNeg v)
theorem q_J7_fill_53178_5 (s : Fi) (v : Int32) (n5 : Nat) (i : Int32) (f1 : Fn) : l_J7_fill_53178_5 s v (n5 + 1) i f1 = (if nI 540 ≤ i then (f1) else l_J7_fill_53178_5 s v n5 (i + nI 1) (upd f1 i.toNatClampNeg v)) := rfl
def m_J7_fill_53178 (s : Fi) (v : Int32) : Fi := l_J7_fill_53178_5 s v 541 (nI 0) (Fi.f s)
set_option maxRecDepth 100000 in
set_option maxHeartbeats 4000000 in
theorem c_J7_fill_53178 (l : Launch) {fv : Value} (hf : FV fv) (s : Fi) (v : Int32) : CT l fv 1 jJ7_fill_53178 [.ref 0, .int v] (hFi s) (DP none (hFi (m_J7_fill_53178 s v))) := by
  refine CT_of [5] mt_J7_fill_53178 (by decide +kernel) (tab_J7 hf) okJ7_fill_53178 (Nat.le_of_ble_eq_true rfl) ?_
  intro J hJ hD
  refine hJ 0 _ _ _ ?_
  have L5 : ∀ (n5 : Nat) (i : Int32) (f1 : Fn), (∃ z9 : Nat, z9 ≤ 540 ∧ n5 + z9 = 541 ∧ i = nI z9) → m_J7_fill_53178 s v = l_J7_fill_53178_5 s v n5 i f1 → J 5 [(0, .ref 0), (1, .int v), (2, .int i), (3, .int (nI 540))] [] (wFi f1) := by
    intro n5
    induction n5 with
    | zero =>
      intro i f1 hv
      obtain ⟨z9, h1, h2, h3⟩ := hv
      omega
    | succ n5 ih5 =>
      intro i f1 hv e5
      obtain ⟨z9, h1, h2, h3⟩ := hv
      refine hJ 5 _ _ _ ?_
      refine And.intro (fun c1 => ?_) (fun c1 => ?_)
      · skip
        refine hJ 20 _ _ _ ?_
        exact And.intro rfl (DPs (F := (fun z => hFi z)) (s' := (f1)) (e5.trans ((q_J7_fill_53178_5 s v n5 i f1).trans (if_pos c1))))
      · skip
        have h4 := cnt_lt h3 h1 (by decide) c1
        refine And.intro (vp_nI h3 h4 (by decide)) ?_
        exact hD _ _ [1, 2, 0, 3] _ _ (ih5 _ _ ⟨z9 + 1, h4, by omega, by rw [h3]; exact nI_add z9 1⟩ (e5.trans ((q_J7_fill_53178_5 s v n5 i f1).trans (if_neg c1))))
  exact hD _ _ [2, 3, 1, 0] _ _ (L5 541 _ _ ⟨0, by decide, by decide, rfl⟩ (rfl))
end
section
/-! printed by wip/whole/gen/specs37.py: how the model reads a ledge -/
/-- the reader stands on the tape: j steps less than signs read, q signs read at least -/
def Pg (j q : Nat) (m : Ms) : Prop := ∃ a e p c : Nat, Ms.ac m = nI a ∧ a < 5 ∧ Ms.en m = nI e ∧ e ≤ 100 ∧ Ms.sp m = nI p ∧ p ≤ e ∧ Ms.s m (222 + a) = nI c ∧ c + j ≤ p ∧ q ≤ p ∧ bl (Ms.wr m)
theorem Pg.mono {j q j' q' : Nat} {m : Ms} (h : Pg j q m) (h1 : j' ≤ j) (h2 : q' ≤ q) : Pg j' q' m := by
  obtain ⟨a, e, p, c, g1, g2, g3, g4, g5, g6, g7, g8, g9, g10⟩ := h
  exact ⟨a, e, p, c, g1, g2, g3, g4, g5, g6, g7, by omega, by omega, g10⟩
theorem Pg.z {j q : Nat} {m : Ms} (h : Pg j q m) : Pg 0 0 m := h.mono (Nat.zero_le _) (Nat.zero_le _)
theorem Pg.q {j q : Nat} {m : Ms} (h : Pg j q m) : q ≤ 100 := by
  obtain ⟨a, e, p, c, g1, g2, g3, g4, g5, g6, g7, g8, g9, g10⟩ := h
  omega
theorem Pg.ix {j q : Nat} {m : Ms} (h : Pg j q m) : ¬ Ms.en m ≤ Ms.sp m → vp_in (nI 112 + Ms.sp m) 927 := by
  obtain ⟨a, e, p, c, g1, g2, g3, g4, g5, g6, g7, g8, g9, g10⟩ := h
  intro _
  rw [g5, nI_add]
  exact vp_in_nI (by omega) (by decide)
theorem Pg.ex {j q : Nat} {m : Ms} (h : Pg j q m) : vp_in (nI 222 + Ms.ac m) 927 ∧ vp_in ((nI 227 + nI 140 * Ms.ac m) + Ms.s m (nI 222 + Ms.ac m).toNatClampNeg) 927 := by
  obtain ⟨a, e, p, c, g1, g2, g3, g4, g5, g6, g7, g8, g9, g10⟩ := h
  rw [g1, nI_add, nI_clamp (by omega), g7, pk_mul, nI_add, nI_add]
  exact ⟨vp_in_nI (by omega) (by decide), vp_in_nI (by omega) (by decide)⟩
theorem Pg.bw {j q : Nat} {m : Ms} (h : Pg j q m) : bl (Ms.wr m) := by
  obtain ⟨a, e, p, c, g1, g2, g3, g4, g5, g6, g7, g8, g9, g10⟩ := h
  exact g10
theorem Pg.go {j q : Nat} {m m' : Ms} (h : Pg j q m) (h1 : Ms.ac m' = Ms.ac m) (h2 : Ms.en m' = Ms.en m) (h3 : Ms.s m' = Ms.s m) (h4 : Ms.sp m' = Ms.sp m + nI 0 ∨ Ms.sp m' = Ms.sp m) (h5 : bl (Ms.wr m')) : Pg j q m' := by
  obtain ⟨a, e, p, c, g1, g2, g3, g4, g5, g6, g7, g8, g9, g10⟩ := h
  refine ⟨a, e, p, c, h1.trans g1, g2, h2.trans g3, g4, ?_, g6, by rw [h3]; exact g7, g8, g9, h5⟩
  rcases h4 with h4 | h4
  · rw [h4, g5]; exact nI_add p 0
  · rw [h4, g5]
theorem Pg.go1 {j q : Nat} {m m' : Ms} (h : Pg j q m) (he : ¬ Ms.en m ≤ Ms.sp m) (h1 : Ms.ac m' = Ms.ac m) (h2 : Ms.en m' = Ms.en m) (h3 : Ms.s m' = Ms.s m) (h4 : Ms.sp m' = Ms.sp m + nI 1) (h5 : bl (Ms.wr m')) : Pg (j + 1) (q + 1) m' := by
  obtain ⟨a, e, p, c, g1, g2, g3, g4, g5, g6, g7, g8, g9, g10⟩ := h
  rw [g3, g5, nI_leI (by omega) (by omega)] at he
  exact ⟨a, e, p + 1, c, h1.trans g1, g2, h2.trans g3, g4, by rw [h4, g5]; exact nI_add p 1, by omega, by rw [h3]; exact g7, by omega, by omega, h5⟩
theorem Pg.g0 {j q : Nat} {m m' : Ms} (h : Pg j q m) (he : ¬ Ms.en m ≤ Ms.sp m) (h1 : Ms.ac m' = Ms.ac m) (h2 : Ms.en m' = Ms.en m) (h3 : Ms.s m' = Ms.s m) (h4 : Ms.sp m' = Ms.sp m + nI 1) (h5 : bl (Ms.wr m')) : Pg 0 0 m' := (h.go1 he h1 h2 h3 h4 h5).z
/-- what each reader leaves as it was, and keeps -/
def Pe (m m' : Ms) : Prop := Ms.op m' = Ms.op m ∧ (¬ Ms.wr m = 0 → ¬ Ms.wr m' = 0) ∧ ∀ j q, Pg j q m → Pg j q m'
theorem Pe.rf (m : Ms) : Pe m m := ⟨rfl, id, fun _ _ => id⟩
theorem Pe.tr {a b c : Ms} (h : Pe a b) (g : Pe b c) : Pe a c := ⟨g.1.trans h.1, fun q => g.2.1 (h.2.1 q), fun j q p => g.2.2 j q (h.2.2 j q p)⟩
theorem ch_ne (y : Int32) : ¬ (y.toUInt32 % 65536).toInt32 = (-nI 1) := by
  rw [pk_char]
  intro h
  have h2 := congrArg Int32.toInt h
  rw [nI_toInt (by omega)] at h2
  have h3 : (-nI 1 : Int32).toInt = -1 := by decide
  rw [h3] at h2
  omega
def m_X12_here (zs : Fn) (zsp : Int32) (zen : Int32) : Int32 := if zen ≤ zsp then (-nI 1) else (zs (nI 112 + zsp).toNatClampNeg)
set_option maxRecDepth 100000 in
set_option maxHeartbeats 4000000 in
theorem c_X12_here (l : Launch) {fv : Value} (hf : FV fv) (m : Ms) (hx : ¬ Ms.en m ≤ Ms.sp m → vp_in (nI 112 + Ms.sp m) 927) : CT l fv 1 jX12_here [.ref 0] (hMs m) (DP (some (.int (m_X12_here (Ms.s m) (Ms.sp m) (Ms.en m)))) (hMs m)) := by
  refine CT_of [] mt_X12_here (by decide +kernel) (tab_X12 hf) okX12_here (Nat.le_of_ble_eq_true rfl) ?_
  intro J hJ hD
  refine hJ 0 _ _ _ ?_
  refine And.intro (fun c1 => ?_) (fun c1 => ?_)
  · skip
    refine hJ 26 _ _ _ ?_
    exact And.intro True.intro (DPi (if_pos c1))
  · skip
    have hy := hx c1
    refine And.intro (hy) ?_
    refine hJ 27 _ _ _ ?_
    exact And.intro True.intro (DPi (if_neg c1))
theorem here_lt {s : Fn} {sp en c : Int32} (h : m_X12_here s sp en = c) (hc : ¬ c = (-nI 1)) : ¬ en ≤ sp := by
  intro h2
  unfold m_X12_here at h
  rw [if_pos h2] at h
  exact hc h.symm
def m_X12_must (m : Ms) (c : Int32) : Ms := if Ms.wr m = 0 then (if (m_X12_here (Ms.s m) (Ms.sp m) (Ms.en m)) = c then (Ms.th m, Ms.s m, Ms.im m, Ms.fr m, Ms.hi m, Ms.ac m, (Ms.sp m + nI 1), Ms.en m, nI 0, Ms.op m, Ms.bb m, Ms.tr m, Ms.su m, Ms.lf m, Ms.lk m, Ms.nx m, Ms.bo m, Ms.ra m, Ms.ki m, Ms.nu m, Ms.tv m) else (Ms.th m, Ms.s m, Ms.im m, Ms.fr m, Ms.hi m, Ms.ac m, (Ms.sp m + nI 0), Ms.en m, nI 1, Ms.op m, Ms.bb m, Ms.tr m, Ms.su m, Ms.lf m, Ms.lk m, Ms.nx m, Ms.bo m, Ms.ra m, Ms.ki m, Ms.nu m, Ms.tv m)) else (Ms.th m, Ms.s m, Ms.im m, Ms.fr m, Ms.hi m, Ms.ac m, (Ms.sp m + nI 0), Ms.en m, nI 1, Ms.op m, Ms.bb m, Ms.tr m, Ms.su m, Ms.lf m, Ms.lk m, Ms.nx m, Ms.bo m, Ms.ra m, Ms.ki m, Ms.nu m, Ms.tv m)
set_option maxRecDepth 100000 in
set_option maxHeartbeats 4000000 in
theorem c_X12_must (l : Launch) {fv : Value} (hf : FV fv) (m : Ms) (c : Int32) (hg : Pg 0 0 m) : CT l fv 2 jX12_must [.ref 0, .int c] (hMs m) (DP none (hMs (m_X12_must m c))) := by
  refine CT_of [] mt_X12_must (by decide +kernel) (tab_X12 hf) okX12_must (Nat.le_of_ble_eq_true rfl) ?_
  intro J hJ hD
  refine hJ 0 _ _ _ ?_
  refine And.intro (fun c1 => ?_) (fun c1 => ?_)
  · skip
    refine hJ 16 _ _ _ ?_
    refine hJ 21 _ _ _ ?_
    refine And.intro (Or.inr rfl) ?_
    refine And.intro (fun c2 => absurd c2 (by decide)) (fun c2 => ?_)
    refine hJ 41 _ _ _ ?_
    refine And.intro True.intro ?_
    exact And.intro rfl (DPs (F := (fun z => hMs z)) (s' := (Ms.th m, Ms.s m, Ms.im m, Ms.fr m, Ms.hi m, Ms.ac m, (Ms.sp m + nI 0), Ms.en m, nI 1, Ms.op m, Ms.bb m, Ms.tr m, Ms.su m, Ms.lf m, Ms.lk m, Ms.nx m, Ms.bo m, Ms.ra m, Ms.ki m, Ms.nu m, Ms.tv m)) (if_neg c1))
  · skip
    refine CALL_same (r := some (.int (m_X12_here (Ms.s m) (Ms.sp m) (Ms.en m)))) (h1 := hMs m) (by decide) (c_X12_here l hf m hg.ix) ?_
    refine And.intro (fun c3 => ?_) (fun c3 => ?_)
    · skip
      refine hJ 20 _ _ _ ?_
      refine And.intro (Or.inl rfl) ?_
      refine And.intro (fun c4 => ?_) (fun c4 => absurd (by decide) c4)
      refine hJ 40 _ _ _ ?_
      refine And.intro True.intro ?_
      exact And.intro rfl (DPs (F := (fun z => hMs z)) (s' := (Ms.th m, Ms.s m, Ms.im m, Ms.fr m, Ms.hi m, Ms.ac m, (Ms.sp m + nI 1), Ms.en m, nI 0, Ms.op m, Ms.bb m, Ms.tr m, Ms.su m, Ms.lf m, Ms.lk m, Ms.nx m, Ms.bo m, Ms.ra m, Ms.ki m, Ms.nu m, Ms.tv m)) ((if_pos c1).trans (if_pos c3)))
    · skip
      refine hJ 21 _ _ _ ?_
      refine And.intro (Or.inr rfl) ?_
      refine And.intro (fun c5 => absurd c5 (by decide)) (fun c5 => ?_)
      refine hJ 41 _ _ _ ?_
      refine And.intro True.intro ?_
      exact And.intro rfl (DPs (F := (fun z => hMs z)) (s' := (Ms.th m, Ms.s m, Ms.im m, Ms.fr m, Ms.hi m, Ms.ac m, (Ms.sp m + nI 0), Ms.en m, nI 1, Ms.op m, Ms.bb m, Ms.tr m, Ms.su m, Ms.lf m, Ms.lk m, Ms.nx m, Ms.bo m, Ms.ra m, Ms.ki m, Ms.nu m, Ms.tv m)) ((if_pos c1).trans (if_neg c3)))
theorem ef_must (m : Ms) {c : Int32} (hc : ¬ c = (-nI 1)) : Pe m (m_X12_must m c) ∧ (Ms.wr (m_X12_must m c) = 0 → Ms.wr m = 0 ∧ ∀ j q, Pg j q m → Pg (j + 1) (q + 1) (m_X12_must m c)) := by
  unfold m_X12_must
  by_cases w : Ms.wr m = 0
  · rw [if_pos w]
    by_cases e : m_X12_here (Ms.s m) (Ms.sp m) (Ms.en m) = c
    · rw [if_pos e]
      have he := here_lt e hc
      have g : ∀ j q, Pg j q m → Pg (j + 1) (q + 1) (Ms.th m, Ms.s m, Ms.im m, Ms.fr m, Ms.hi m, Ms.ac m, (Ms.sp m + nI 1), Ms.en m, nI 0, Ms.op m, Ms.bb m, Ms.tr m, Ms.su m, Ms.lf m, Ms.lk m, Ms.nx m, Ms.bo m, Ms.ra m, Ms.ki m, Ms.nu m, Ms.tv m) := fun j q h => h.go1 he rfl rfl rfl rfl (Or.inl rfl)
      exact ⟨⟨rfl, fun h => absurd w h, fun j q h => (g j q h).mono (by omega) (by omega)⟩, fun _ => ⟨w, g⟩⟩
    · rw [if_neg e]
      exact ⟨⟨rfl, fun _ h => absurd h (by show ¬ nI 1 = 0; decide), fun j q h => h.go rfl rfl rfl (Or.inl rfl) (Or.inr rfl)⟩, fun h => absurd h (by show ¬ nI 1 = 0; decide)⟩
  · rw [if_neg w]
    exact ⟨⟨rfl, fun _ h => absurd h (by show ¬ nI 1 = 0; decide), fun j q h => h.go rfl rfl rfl (Or.inl rfl) (Or.inr rfl)⟩, fun h => absurd h (by show ¬ nI 1 = 0; decide)⟩
theorem ef_must_r {m r : Ms} {c : Int32} (e : m_X12_must m c = r) (hc : ¬ c = (-nI 1)) : Pe m r := by rw [← e]; exact (ef_must m hc).1
def l_X12_spells_1000_2 (m : Ms) : Nat → Int32 → Ms → Ms
  | 0, _, _ => m
  | n2 + 1, k, m1 => if nI 5 ≤ k then m1 else (bindv (m_X12_must m1 (m_J0_charAt_5068e_1000 k)) (fun r2 => l_X12_spells_1000_2 m n2 (k + nI 1) r2))
theorem q_X12_spells_1000_2 (m : Ms) (n2 : Nat) (k : Int32) (m1 : Ms) : l_X12_spells_1000_2 m (n2 + 1) k m1 = (if nI 5 ≤ k then m1 else (bindv (m_X12_must m1 (m_J0_charAt_5068e_1000 k)) (fun r2 => l_X12_spells_1000_2 m n2 (k + nI 1) r2))) := rfl
def m_X12_spells_1000 (m : Ms) : Ms := l_X12_spells_1000_2 m 6 (nI 0) m
set_option maxRecDepth 100000 in
set_option maxHeartbeats 4000000 in
theorem c_X12_spells_1000 (l : Launch) {fv : Value} (hf : FV fv) (m : Ms) (hg : Pg 0 0 m) : CT l fv 5 jX12_spells [.ref 0, .ref 1000] (hMs m) (DP none (hMs (m_X12_spells_1000 m))) := by
  refine CT_of [2] mt_X12_spells (by decide +kernel) (tab_X12 hf) okX12_spells (Nat.le_of_ble_eq_true rfl) ?_
  intro J hJ hD
  refine hJ 0 _ _ _ ?_
  have L2 : ∀ (n2 : Nat) (k : Int32) (m1 : Ms), (∃ z9 : Nat, z9 ≤ 5 ∧ n2 + z9 = 6 ∧ k = nI z9 ∧ Pg 0 0 m1) → m_X12_spells_1000 m = l_X12_spells_1000_2 m n2 k m1 → J 2 [(0, .ref 0), (1, .ref 1000), (2, .int k)] [] (hMs m1) := by
    intro n2
    induction n2 with
    | zero =>
      intro k m1 hv
      obtain ⟨z9, h1, h2, h3, h5⟩ := hv
      omega
    | succ n2 ih2 =>
      intro k m1 hv e2
      obtain ⟨z9, h1, h2, h3, h5⟩ := hv
      refine hJ 2 _ _ _ ?_
      refine CALL_sub (r := some (.int (nI 5))) (h' := hMs m1) [] (by decide) (c_J0_length_8abf5_1000 l hf ) rfl rfl (by decide) (by decide) rfl ?_
      refine And.intro (fun c1 => ?_) (fun c1 => ?_)
      · skip
        refine hJ 25 _ _ _ ?_
        exact And.intro rfl (DPs (F := (fun z => hMs z)) (s' := m1) (e2.trans ((q_X12_spells_1000_2 m n2 k m1).trans (if_pos c1))))
      · skip
        have h4 : z9 < 5 := cnt_lt h3 h1 (by decide) c1
        refine CALL_sub (h' := hMs m1) [] (by decide) (c_J0_charAt_5068e_1000 l hf k (vp_nI h3 h4 (by decide))) rfl rfl (by decide) (by decide) rfl ?_
        obtain ⟨r2, er2⟩ : ∃ z : Ms, m_X12_must m1 (m_J0_charAt_5068e_1000 k) = z := ⟨_, rfl⟩
        have hr2 := c_X12_must l hf m1 (m_J0_charAt_5068e_1000 k) h5
        rw [er2] at hr2
        have h6 := (ef_must_r er2 (ch_ne _)).2.2 0 0 h5
        refine CALL_same (r := none) (h1 := hMs r2) (by decide) (hr2) ?_
        exact hD _ _ [1, 2, 0] _ _ (ih2 _ _ ⟨z9 + 1, by omega, by omega, by rw [h3]; exact nI_add z9 1, h6⟩ (e2.trans ((q_X12_spells_1000_2 m n2 k m1).trans ((if_neg c1).trans (bindv_eq er2)))))
  exact hD _ _ [1, 2, 0] _ _ (L2 6 _ _ ⟨0, by decide, by decide, rfl, hg⟩ (rfl))
def l_X12_spells_1001_2 (m : Ms) : Nat → Int32 → Ms → Ms
  | 0, _, _ => m
  | n2 + 1, k, m1 => if nI 5 ≤ k then m1 else (bindv (m_X12_must m1 (m_J0_charAt_5068e_1001 k)) (fun r2 => l_X12_spells_1001_2 m n2 (k + nI 1) r2))
theorem q_X12_spells_1001_2 (m : Ms) (n2 : Nat) (k : Int32) (m1 : Ms) : l_X12_spells_1001_2 m (n2 + 1) k m1 = (if nI 5 ≤ k then m1 else (bindv (m_X12_must m1 (m_J0_charAt_5068e_1001 k)) (fun r2 => l_X12_spells_1001_2 m n2 (k + nI 1) r2))) := rfl
def m_X12_spells_1001 (m : Ms) : Ms := l_X12_spells_1001_2 m 6 (nI 0) m
set_option maxRecDepth 100000 in
set_option maxHeartbeats 4000000 in
theorem c_X12_spells_1001 (l : Launch) {fv : Value} (hf : FV fv) (m : Ms) (hg : Pg 0 0 m) : CT l fv 5 jX12_spells [.ref 0, .ref 1001] (hMs m) (DP none (hMs (m_X12_spells_1001 m))) := by
  refine CT_of [2] mt_X12_spells (by decide +kernel) (tab_X12 hf) okX12_spells (Nat.le_of_ble_eq_true rfl) ?_
  intro J hJ hD
  refine hJ 0 _ _ _ ?_
  have L2 : ∀ (n2 : Nat) (k : Int32) (m1 : Ms), (∃ z9 : Nat, z9 ≤ 5 ∧ n2 + z9 = 6 ∧ k = nI z9 ∧ Pg 0 0 m1) → m_X12_spells_1001 m = l_X12_spells_1001_2 m n2 k m1 → J 2 [(0, .ref 0), (1, .ref 1001), (2, .int k)] [] (hMs m1) := by
    intro n2
    induction n2 with
    | zero =>
      intro k m1 hv
      obtain ⟨z9, h1, h2, h3, h5⟩ := hv
      omega
    | succ n2 ih2 =>
      intro k m1 hv e2
      obtain ⟨z9, h1, h2, h3, h5⟩ := hv
      refine hJ 2 _ _ _ ?_
      refine CALL_sub (r := some (.int (nI 5))) (h' := hMs m1) [] (by decide) (c_J0_length_8abf5_1001 l hf ) rfl rfl (by decide) (by decide) rfl ?_
      refine And.intro (fun c1 => ?_) (fun c1 => ?_)
      · skip
        refine hJ 25 _ _ _ ?_
        exact And.intro rfl (DPs (F := (fun z => hMs z)) (s' := m1) (e2.trans ((q_X12_spells_1001_2 m n2 k m1).trans (if_pos c1))))
      · skip
        have h4 : z9 < 5 := cnt_lt h3 h1 (by decide) c1
        refine CALL_sub (h' := hMs m1) [] (by decide) (c_J0_charAt_5068e_1001 l hf k (vp_nI h3 h4 (by decide))) rfl rfl (by decide) (by decide) rfl ?_
        obtain ⟨r2, er2⟩ : ∃ z : Ms, m_X12_must m1 (m_J0_charAt_5068e_1001 k) = z := ⟨_, rfl⟩
        have hr2 := c_X12_must l hf m1 (m_J0_charAt_5068e_1001 k) h5
        rw [er2] at hr2
        have h6 := (ef_must_r er2 (ch_ne _)).2.2 0 0 h5
        refine CALL_same (r := none) (h1 := hMs r2) (by decide) (hr2) ?_
        exact hD _ _ [1, 2, 0] _ _ (ih2 _ _ ⟨z9 + 1, by omega, by omega, by rw [h3]; exact nI_add z9 1, h6⟩ (e2.trans ((q_X12_spells_1001_2 m n2 k m1).trans ((if_neg c1).trans (bindv_eq er2)))))
  exact hD _ _ [1, 2, 0] _ _ (L2 6 _ _ ⟨0, by decide, by decide, rfl, hg⟩ (rfl))
def l_X12_spells_1002_2 (m : Ms) : Nat → Int32 → Ms → Ms
  | 0, _, _ => m
  | n2 + 1, k, m1 => if nI 5 ≤ k then m1 else (bindv (m_X12_must m1 (m_J0_charAt_5068e_1002 k)) (fun r2 => l_X12_spells_1002_2 m n2 (k + nI 1) r2))
theorem q_X12_spells_1002_2 (m : Ms) (n2 : Nat) (k : Int32) (m1 : Ms) : l_X12_spells_1002_2 m (n2 + 1) k m1 = (if nI 5 ≤ k then m1 else (bindv (m_X12_must m1 (m_J0_charAt_5068e_1002 k)) (fun r2 => l_X12_spells_1002_2 m n2 (k + nI 1) r2))) := rfl
def m_X12_spells_1002 (m : Ms) : Ms := l_X12_spells_1002_2 m 6 (nI 0) m
set_option maxRecDepth 100000 in
set_option maxHeartbeats 4000000 in
theorem c_X12_spells_1002 (l : Launch) {fv : Value} (hf : FV fv) (m : Ms) (hg : Pg 0 0 m) : CT l fv 5 jX12_spells [.ref 0, .ref 1002] (hMs m) (DP none (hMs (m_X12_spells_1002 m))) := by
  refine CT_of [2] mt_X12_spells (by decide +kernel) (tab_X12 hf) okX12_spells (Nat.le_of_ble_eq_true rfl) ?_
  intro J hJ hD
  refine hJ 0 _ _ _ ?_
  have L2 : ∀ (n2 : Nat) (k : Int32) (m1 : Ms), (∃ z9 : Nat, z9 ≤ 5 ∧ n2 + z9 = 6 ∧ k = nI z9 ∧ Pg 0 0 m1) → m_X12_spells_1002 m = l_X12_spells_1002_2 m n2 k m1 → J 2 [(0, .ref 0), (1, .ref 1002), (2, .int k)] [] (hMs m1) := by
    intro n2
    induction n2 with
    | zero =>
      intro k m1 hv
      obtain ⟨z9, h1, h2, h3, h5⟩ := hv
      omega
    | succ n2 ih2 =>
      intro k m1 hv e2
      obtain ⟨z9, h1, h2, h3, h5⟩ := hv
      refine hJ 2 _ _ _ ?_
      refine CALL_sub (r := some (.int (nI 5))) (h' := hMs m1) [] (by decide) (c_J0_length_8abf5_1002 l hf ) rfl rfl (by decide) (by decide) rfl ?_
      refine And.intro (fun c1 => ?_) (fun c1 => ?_)
      · skip
        refine hJ 25 _ _ _ ?_
        exact And.intro rfl (DPs (F := (fun z => hMs z)) (s' := m1) (e2.trans ((q_X12_spells_1002_2 m n2 k m1).trans (if_pos c1))))
      · skip
        have h4 : z9 < 5 := cnt_lt h3 h1 (by decide) c1
        refine CALL_sub (h' := hMs m1) [] (by decide) (c_J0_charAt_5068e_1002 l hf k (vp_nI h3 h4 (by decide))) rfl rfl (by decide) (by decide) rfl ?_
        obtain ⟨r2, er2⟩ : ∃ z : Ms, m_X12_must m1 (m_J0_charAt_5068e_1002 k) = z := ⟨_, rfl⟩
        have hr2 := c_X12_must l hf m1 (m_J0_charAt_5068e_1002 k) h5
        rw [er2] at hr2
        have h6 := (ef_must_r er2 (ch_ne _)).2.2 0 0 h5
        refine CALL_same (r := none) (h1 := hMs r2) (by decide) (hr2) ?_
        exact hD _ _ [1, 2, 0] _ _ (ih2 _ _ ⟨z9 + 1, by omega, by omega, by rw [h3]; exact nI_add z9 1, h6⟩ (e2.trans ((q_X12_spells_1002_2 m n2 k m1).trans ((if_neg c1).trans (bindv_eq er2)))))
  exact hD _ _ [1, 2, 0] _ _ (L2 6 _ _ ⟨0, by decide, by decide, rfl, hg⟩ (rfl))
def l_X12_spells_1003_2 (m : Ms) : Nat → Int32 → Ms → Ms
  | 0, _, _ => m
  | n2 + 1, k, m1 => if nI 5 ≤ k then m1 else (bindv (m_X12_must m1 (m_J0_charAt_5068e_1003 k)) (fun r2 => l_X12_spells_1003_2 m n2 (k + nI 1) r2))
theorem q_X12_spells_1003_2 (m : Ms) (n2 : Nat) (k : Int32) (m1 : Ms) : l_X12_spells_1003_2 m (n2 + 1) k m1 = (if nI 5 ≤ k then m1 else (bindv (m_X12_must m1 (m_J0_charAt_5068e_1003 k)) (fun r2 => l_X12_spells_1003_2 m n2 (k + nI 1) r2))) := rfl
def m_X12_spells_1003 (m : Ms) : Ms := l_X12_spells_1003_2 m 6 (nI 0) m
set_option maxRecDepth 100000 in
set_option maxHeartbeats 4000000 in
theorem c_X12_spells_1003 (l : Launch) {fv : Value} (hf : FV fv) (m : Ms) (hg : Pg 0 0 m) : CT l fv 5 jX12_spells [.ref 0, .ref 1003] (hMs m) (DP none (hMs (m_X12_spells_1003 m))) := by
  refine CT_of [2] mt_X12_spells (by decide +kernel) (tab_X12 hf) okX12_spells (Nat.le_of_ble_eq_true rfl) ?_
  intro J hJ hD
  refine hJ 0 _ _ _ ?_
  have L2 : ∀ (n2 : Nat) (k : Int32) (m1 : Ms), (∃ z9 : Nat, z9 ≤ 5 ∧ n2 + z9 = 6 ∧ k = nI z9 ∧ Pg 0 0 m1) → m_X12_spells_1003 m = l_X12_spells_1003_2 m n2 k m1 → J 2 [(0, .ref 0), (1, .ref 1003), (2, .int k)] [] (hMs m1) := by
    intro n2
    induction n2 with
    | zero =>
      intro k m1 hv
      obtain ⟨z9, h1, h2, h3, h5⟩ := hv
      omega
    | succ n2 ih2 =>
      intro k m1 hv e2
      obtain ⟨z9, h1, h2, h3, h5⟩ := hv
      refine hJ 2 _ _ _ ?_
      refine CALL_sub (r := some (.int (nI 5))) (h' := hMs m1) [] (by decide) (c_J0_length_8abf5_1003 l hf ) rfl rfl (by decide) (by decide) rfl ?_
      refine And.intro (fun c1 => ?_) (fun c1 => ?_)
      · skip
        refine hJ 25 _ _ _ ?_
        exact And.intro rfl (DPs (F := (fun z => hMs z)) (s' := m1) (e2.trans ((q_X12_spells_1003_2 m n2 k m1).trans (if_pos c1))))
      · skip
        have h4 : z9 < 5 := cnt_lt h3 h1 (by decide) c1
        refine CALL_sub (h' := hMs m1) [] (by decide) (c_J0_charAt_5068e_1003 l hf k (vp_nI h3 h4 (by decide))) rfl rfl (by decide) (by decide) rfl ?_
        obtain ⟨r2, er2⟩ : ∃ z : Ms, m_X12_must m1 (m_J0_charAt_5068e_1003 k) = z := ⟨_, rfl⟩
        have hr2 := c_X12_must l hf m1 (m_J0_charAt_5068e_1003 k) h5
        rw [er2] at hr2
        have h6 := (ef_must_r er2 (ch_ne _)).2.2 0 0 h5
        refine CALL_same (r := none) (h1 := hMs r2) (by decide) (hr2) ?_
        exact hD _ _ [1, 2, 0] _ _ (ih2 _ _ ⟨z9 + 1, by omega, by omega, by rw [h3]; exact nI_add z9 1, h6⟩ (e2.trans ((q_X12_spells_1003_2 m n2 k m1).trans ((if_neg c1).trans (bindv_eq er2)))))
  exact hD _ _ [1, 2, 0] _ _ (L2 6 _ _ ⟨0, by decide, by decide, rfl, hg⟩ (rfl))
theorem Pg.dig {j q : Nat} {m : Ms} (h : Pg j q m) (c : ¬ m_X12_in (m_X12_here (Ms.s m) (Ms.sp m) (Ms.en m)) (nI 48) (nI 57) = 0) : ¬ Ms.en m ≤ Ms.sp m := by
  intro h2
  apply c
  unfold m_X12_here
  rw [if_pos h2]
  rfl
def l_X12_figures_34 (m : Ms) (x1_0 : Int32) : Nat → Int32 → Int32 → Ms → Int32 × Ms
  | 0, _, _, _ => (0, m)
  | n34 + 1, v, k, m1 => if nI 2 ≤ k then (v, m1) else (if Ms.wr m1 = 0 then (if (m_X12_in (m_X12_here (Ms.s m1) (Ms.sp m1) (Ms.en m1)) (nI 48) (nI 57)) = 0 then (v, m1) else (if k = 0 then l_X12_figures_34 m x1_0 n34 (((nI 10 * v) + (m_X12_here (Ms.s m1) (Ms.sp m1) (Ms.en m1))) - nI 48) (k + nI 1) (Ms.th m1, Ms.s m1, Ms.im m1, Ms.fr m1, Ms.hi m1, Ms.ac m1, (Ms.sp m1 + nI 1), Ms.en m1, Ms.wr m1, Ms.op m1, Ms.bb m1, Ms.tr m1, Ms.su m1, Ms.lf m1, Ms.lk m1, Ms.nx m1, Ms.bo m1, Ms.ra m1, Ms.ki m1, Ms.nu m1, Ms.tv m1) else (if v ≤ 0 then (v, m1) else l_X12_figures_34 m x1_0 n34 (((nI 10 * v) + (m_X12_here (Ms.s m1) (Ms.sp m1) (Ms.en m1))) - nI 48) (k + nI 1) (Ms.th m1, Ms.s m1, Ms.im m1, Ms.fr m1, Ms.hi m1, Ms.ac m1, (Ms.sp m1 + nI 1), Ms.en m1, Ms.wr m1, Ms.op m1, Ms.bb m1, Ms.tr m1, Ms.su m1, Ms.lf m1, Ms.lk m1, Ms.nx m1, Ms.bo m1, Ms.ra m1, Ms.ki m1, Ms.nu m1, Ms.tv m1)))) else (v, m1))
theorem q_X12_figures_34 (m : Ms) (x1_0 : Int32) (n34 : Nat) (v : Int32) (k : Int32) (m1 : Ms) : l_X12_figures_34 m x1_0 (n34 + 1) v k m1 = (if nI 2 ≤ k then (v, m1) else (if Ms.wr m1 = 0 then (if (m_X12_in (m_X12_here (Ms.s m1) (Ms.sp m1) (Ms.en m1)) (nI 48) (nI 57)) = 0 then (v, m1) else (if k = 0 then l_X12_figures_34 m x1_0 n34 (((nI 10 * v) + (m_X12_here (Ms.s m1) (Ms.sp m1) (Ms.en m1))) - nI 48) (k + nI 1) (Ms.th m1, Ms.s m1, Ms.im m1, Ms.fr m1, Ms.hi m1, Ms.ac m1, (Ms.sp m1 + nI 1), Ms.en m1, Ms.wr m1, Ms.op m1, Ms.bb m1, Ms.tr m1, Ms.su m1, Ms.lf m1, Ms.lk m1, Ms.nx m1, Ms.bo m1, Ms.ra m1, Ms.ki m1, Ms.nu m1, Ms.tv m1) else (if v ≤ 0 then (v, m1) else l_X12_figures_34 m x1_0 n34 (((nI 10 * v) + (m_X12_here (Ms.s m1) (Ms.sp m1) (Ms.en m1))) - nI 48) (k + nI 1) (Ms.th m1, Ms.s m1, Ms.im m1, Ms.fr m1, Ms.hi m1, Ms.ac m1, (Ms.sp m1 + nI 1), Ms.en m1, Ms.wr m1, Ms.op m1, Ms.bb m1, Ms.tr m1, Ms.su m1, Ms.lf m1, Ms.lk m1, Ms.nx m1, Ms.bo m1, Ms.ra m1, Ms.ki m1, Ms.nu m1, Ms.tv m1)))) else (v, m1))) := rfl
def m_X12_figures (m : Ms) : Int32 × Ms := bindv (if Ms.wr m = 0 then (if (m_X12_in (m_X12_here (Ms.s m) (Ms.sp m) (Ms.en m)) (nI 48) (nI 57)) = 0 then (nI 1) else (nI 0)) else (nI 1)) (fun x1_0 => l_X12_figures_34 m x1_0 3 (nI 0) (nI 0) (Ms.th m, Ms.s m, Ms.im m, Ms.fr m, Ms.hi m, Ms.ac m, Ms.sp m, Ms.en m, x1_0, Ms.op m, Ms.bb m, Ms.tr m, Ms.su m, Ms.lf m, Ms.lk m, Ms.nx m, Ms.bo m, Ms.ra m, Ms.ki m, Ms.nu m, Ms.tv m))
set_option maxRecDepth 100000 in
set_option maxHeartbeats 4000000 in
theorem c_X12_figures (l : Launch) {fv : Value} (hf : FV fv) (m : Ms) (hg : Pg 0 0 m) : CT l fv 4 jX12_figures [.ref 0] (hMs m) (DP (some (.int (m_X12_figures m).1)) (hMs ((m_X12_figures m).2))) := by
  refine CT_of [27, 34] mt_X12_figures (by decide +kernel) (tab_X12 hf) okX12_figures (Nat.le_of_ble_eq_true rfl) ?_
  intro J hJ hD
  refine hJ 0 _ _ _ ?_
  have K1 : ∀ (x1_0 : Int32), (if Ms.wr m = 0 then (if (m_X12_in (m_X12_here (Ms.s m) (Ms.sp m) (Ms.en m)) (nI 48) (nI 57)) = 0 then (nI 1) else (nI 0)) else (nI 1)) = x1_0 → J 27 [(0, .ref 0)] [.int x1_0, .ref 0] (hMs m) := by
    intro x1_0 ex1_0
    have hb : bl x1_0 := (by rw [← ex1_0]; (repeat' split) <;> first | exact Or.inl rfl | exact Or.inr rfl)
    refine hJ 27 _ _ _ ?_
    refine And.intro (hb) ?_
    have L34 : ∀ (n34 : Nat) (v : Int32) (k : Int32) (m1 : Ms), (∃ z9 : Nat, z9 ≤ 2 ∧ n34 + z9 = 3 ∧ k = nI z9 ∧ Pg 0 0 m1) → m_X12_figures m = l_X12_figures_34 m x1_0 n34 v k m1 → J 34 [(0, .ref 0), (1, .int v), (2, .int k)] [] (hMs m1) := by
      intro n34
      induction n34 with
      | zero =>
        intro v k m1 hv
        obtain ⟨z9, h1, h2, h3, h5⟩ := hv
        omega
      | succ n34 ih34 =>
        intro v k m1 hv e34
        obtain ⟨z9, h1, h2, h3, h5⟩ := hv
        refine hJ 34 _ _ _ ?_
        refine And.intro (fun c2 => ?_) (fun c2 => ?_)
        · skip
          refine hJ 97 _ _ _ ?_
          exact And.intro True.intro (DPis (F := (fun z => hMs z)) (s' := m1) (e34.trans ((q_X12_figures_34 m x1_0 n34 v k m1).trans (if_pos c2))))
        · skip
          have h4 : z9 < 2 := cnt_lt h3 h1 (by decide) c2
          refine And.intro (fun c3 => ?_) (fun c3 => ?_)
          · skip
            refine hJ 97 _ _ _ ?_
            exact And.intro True.intro (DPis (F := (fun z => hMs z)) (s' := m1) (e34.trans ((q_X12_figures_34 m x1_0 n34 v k m1).trans ((if_neg c2).trans (if_neg c3)))))
          · skip
            refine CALL_same (r := some (.int (m_X12_here (Ms.s m1) (Ms.sp m1) (Ms.en m1)))) (h1 := hMs m1) (by decide) (c_X12_here l hf m1 h5.ix) ?_
            refine CALL_sub (h' := hMs m1) [] (by decide) (c_X12_in l hf (m_X12_here (Ms.s m1) (Ms.sp m1) (Ms.en m1)) (nI 48) (nI 57)) rfl rfl (by decide) (by decide) rfl ?_
            refine And.intro (fun c4 => ?_) (fun c4 => ?_)
            · skip
              refine hJ 97 _ _ _ ?_
              exact And.intro True.intro (DPis (F := (fun z => hMs z)) (s' := m1) (e34.trans ((q_X12_figures_34 m x1_0 n34 v k m1).trans ((if_neg c2).trans ((if_pos c3).trans (if_pos c4))))))
            · skip
              have h6 := h5.dig c4
              refine And.intro (fun c5 => ?_) (fun c5 => ?_)
              · skip
                refine hJ 68 _ _ _ ?_
                refine CALL_same (r := some (.int (m_X12_here (Ms.s m1) (Ms.sp m1) (Ms.en m1)))) (h1 := hMs m1) (by decide) (c_X12_here l hf m1 h5.ix) ?_
                refine And.intro True.intro ?_
                exact hD _ _ [2, 1, 0] _ _ (ih34 _ _ (Ms.th m1, Ms.s m1, Ms.im m1, Ms.fr m1, Ms.hi m1, Ms.ac m1, (Ms.sp m1 + nI 1), Ms.en m1, Ms.wr m1, Ms.op m1, Ms.bb m1, Ms.tr m1, Ms.su m1, Ms.lf m1, Ms.lk m1, Ms.nx m1, Ms.bo m1, Ms.ra m1, Ms.ki m1, Ms.nu m1, Ms.tv m1) ⟨z9 + 1, by omega, by omega, by rw [h3]; exact nI_add z9 1, by exact Pg.g0 h5 h6 rfl rfl rfl rfl h5.bw⟩ (e34.trans ((q_X12_figures_34 m x1_0 n34 v k m1).trans ((if_neg c2).trans ((if_pos c3).trans ((if_neg c4).trans (if_pos c5)))))))
              · skip
                refine And.intro (fun c6 => ?_) (fun c6 => ?_)
                · skip
                  refine hJ 97 _ _ _ ?_
                  exact And.intro True.intro (DPis (F := (fun z => hMs z)) (s' := m1) (e34.trans ((q_X12_figures_34 m x1_0 n34 v k m1).trans ((if_neg c2).trans ((if_pos c3).trans ((if_neg c4).trans ((if_neg c5).trans (if_pos c6))))))))
                · skip
                  refine CALL_same (r := some (.int (m_X12_here (Ms.s m1) (Ms.sp m1) (Ms.en m1)))) (h1 := hMs m1) (by decide) (c_X12_here l hf m1 h5.ix) ?_
                  refine And.intro True.intro ?_
                  exact hD _ _ [2, 1, 0] _ _ (ih34 _ _ (Ms.th m1, Ms.s m1, Ms.im m1, Ms.fr m1, Ms.hi m1, Ms.ac m1, (Ms.sp m1 + nI 1), Ms.en m1, Ms.wr m1, Ms.op m1, Ms.bb m1, Ms.tr m1, Ms.su m1, Ms.lf m1, Ms.lk m1, Ms.nx m1, Ms.bo m1, Ms.ra m1, Ms.ki m1, Ms.nu m1, Ms.tv m1) ⟨z9 + 1, by omega, by omega, by rw [h3]; exact nI_add z9 1, by exact Pg.g0 h5 h6 rfl rfl rfl rfl h5.bw⟩ (e34.trans ((q_X12_figures_34 m x1_0 n34 v k m1).trans ((if_neg c2).trans ((if_pos c3).trans ((if_neg c4).trans ((if_neg c5).trans (if_neg c6))))))))
    exact hD _ _ [2, 1, 0] _ _ (L34 3 _ _ (Ms.th m, Ms.s m, Ms.im m, Ms.fr m, Ms.hi m, Ms.ac m, Ms.sp m, Ms.en m, x1_0, Ms.op m, Ms.bb m, Ms.tr m, Ms.su m, Ms.lf m, Ms.lk m, Ms.nx m, Ms.bo m, Ms.ra m, Ms.ki m, Ms.nu m, Ms.tv m) ⟨0, by decide, by decide, rfl, hg.go rfl rfl rfl (Or.inr rfl) hb⟩ (bindv_eq ex1_0))
  refine And.intro (fun c7 => ?_) (fun c7 => ?_)
  · skip
    refine hJ 22 _ _ _ ?_
    exact hD _ _ [0] _ _ (K1 _ (if_neg c7))
  · skip
    refine CALL_same (r := some (.int (m_X12_here (Ms.s m) (Ms.sp m) (Ms.en m)))) (h1 := hMs m) (by decide) (c_X12_here l hf m hg.ix) ?_
    refine CALL_sub (h' := hMs m) [] (by decide) (c_X12_in l hf (m_X12_here (Ms.s m) (Ms.sp m) (Ms.en m)) (nI 48) (nI 57)) rfl rfl (by decide) (by decide) rfl ?_
    refine And.intro (fun c8 => ?_) (fun c8 => ?_)
    · skip
      refine hJ 26 _ _ _ ?_
      exact hD _ _ [0] _ _ (K1 _ ((if_pos c7).trans (if_neg c8)))
    · skip
      exact hD _ _ [0] _ _ (K1 _ ((if_pos c7).trans (if_pos c8)))
theorem ef_spells_l_1000 (m : Ms) : ∀ (n k : Nat) (i : Int32) (m1 : Ms), k ≤ 5 → n + k = 6 → i = nI k → Pe m1 (l_X12_spells_1000_2 m n i m1) ∧ (Ms.wr (l_X12_spells_1000_2 m n i m1) = 0 → k < 5 → ∀ j q, Pg j q m1 → Pg (j + 1) (q + 1) (l_X12_spells_1000_2 m n i m1)) := by
  intro n
  induction n with
  | zero => intro k i m1 h1 h2; omega
  | succ n ih =>
    intro k i m1 h1 h2 h3
    rw [q_X12_spells_1000_2]
    by_cases c : nI 5 ≤ i
    · rw [if_pos c]
      rw [h3, nI_leI (by omega) (by omega)] at c
      exact ⟨Pe.rf _, fun _ h => by omega⟩
    · rw [if_neg c]
      have hk : k < 5 := cnt_lt h3 h1 (by decide) c
      have e := ef_must m1 (c := m_J0_charAt_5068e_1000 i) (ch_ne _)
      have g := ih (k + 1) (i + nI 1) (m_X12_must m1 (m_J0_charAt_5068e_1000 i)) (by omega) (by omega) (by rw [h3]; exact nI_add k 1)
      refine ⟨e.1.tr g.1, fun w _ j q p => g.1.2.2 _ _ ((e.2 ?_).2 j q p)⟩
      exact Classical.byContradiction fun h => g.1.2.1 h w
theorem ef_spells_1000 (m : Ms) : Pe m (m_X12_spells_1000 m) ∧ (Ms.wr (m_X12_spells_1000 m) = 0 → ∀ j q, Pg j q m → Pg (j + 1) (q + 1) (m_X12_spells_1000 m)) := ⟨(ef_spells_l_1000 m 6 0 _ m (by omega) rfl rfl).1, fun w => (ef_spells_l_1000 m 6 0 _ m (by omega) rfl rfl).2 w (by omega)⟩
theorem ef_spells_1000_r {m r : Ms} (e : m_X12_spells_1000 m = r) : Pe m r ∧ (Ms.wr r = 0 → ∀ j q, Pg j q m → Pg (j + 1) (q + 1) r) := by rw [← e]; exact ef_spells_1000 m
theorem ef_spells_l_1001 (m : Ms) : ∀ (n k : Nat) (i : Int32) (m1 : Ms), k ≤ 5 → n + k = 6 → i = nI k → Pe m1 (l_X12_spells_1001_2 m n i m1) ∧ (Ms.wr (l_X12_spells_1001_2 m n i m1) = 0 → k < 5 → ∀ j q, Pg j q m1 → Pg (j + 1) (q + 1) (l_X12_spells_1001_2 m n i m1)) := by
  intro n
  induction n with
  | zero => intro k i m1 h1 h2; omega
  | succ n ih =>
    intro k i m1 h1 h2 h3
    rw [q_X12_spells_1001_2]
    by_cases c : nI 5 ≤ i
    · rw [if_pos c]
      rw [h3, nI_leI (by omega) (by omega)] at c
      exact ⟨Pe.rf _, fun _ h => by omega⟩
    · rw [if_neg c]
      have hk : k < 5 := cnt_lt h3 h1 (by decide) c
      have e := ef_must m1 (c := m_J0_charAt_5068e_1001 i) (ch_ne _)
      have g := ih (k + 1) (i + nI 1) (m_X12_must m1 (m_J0_charAt_5068e_1001 i)) (by omega) (by omega) (by rw [h3]; exact nI_add k 1)
      refine ⟨e.1.tr g.1, fun w _ j q p => g.1.2.2 _ _ ((e.2 ?_).2 j q p)⟩
      exact Classical.byContradiction fun h => g.1.2.1 h w
theorem ef_spells_1001 (m : Ms) : Pe m (m_X12_spells_1001 m) ∧ (Ms.wr (m_X12_spells_1001 m) = 0 → ∀ j q, Pg j q m → Pg (j + 1) (q + 1) (m_X12_spells_1001 m)) := ⟨(ef_spells_l_1001 m 6 0 _ m (by omega) rfl rfl).1, fun w => (ef_spells_l_1001 m 6 0 _ m (by omega) rfl rfl).2 w (by omega)⟩
theorem ef_spells_1001_r {m r : Ms} (e : m_X12_spells_1001 m = r) : Pe m r ∧ (Ms.wr r = 0 → ∀ j q, Pg j q m → Pg (j + 1) (q + 1) r) := by rw [← e]; exact ef_spells_1001 m
theorem ef_spells_l_1002 (m : Ms) : ∀ (n k : Nat) (i : Int32) (m1 : Ms), k ≤ 5 → n + k = 6 → i = nI k → Pe m1 (l_X12_spells_1002_2 m n i m1) ∧ (Ms.wr (l_X12_spells_1002_2 m n i m1) = 0 → k < 5 → ∀ j q, Pg j q m1 → Pg (j + 1) (q + 1) (l_X12_spells_1002_2 m n i m1)) := by
  intro n
  induction n with
  | zero => intro k i m1 h1 h2; omega
  | succ n ih =>
    intro k i m1 h1 h2 h3
    rw [q_X12_spells_1002_2]
    by_cases c : nI 5 ≤ i
    · rw [if_pos c]
      rw [h3, nI_leI (by omega) (by omega)] at c
      exact ⟨Pe.rf _, fun _ h => by omega⟩
    · rw [if_neg c]
      have hk : k < 5 := cnt_lt h3 h1 (by decide) c
      have e := ef_must m1 (c := m_J0_charAt_5068e_1002 i) (ch_ne _)
      have g := ih (k + 1) (i + nI 1) (m_X12_must m1 (m_J0_charAt_5068e_1002 i)) (by omega) (by omega) (by rw [h3]; exact nI_add k 1)
      refine ⟨e.1.tr g.1, fun w _ j q p => g.1.2.2 _ _ ((e.2 ?_).2 j q p)⟩
      exact Classical.byContradiction fun h => g.1.2.1 h w
theorem ef_spells_1002 (m : Ms) : Pe m (m_X12_spells_1002 m) ∧ (Ms.wr (m_X12_spells_1002 m) = 0 → ∀ j q, Pg j q m → Pg (j + 1) (q + 1) (m_X12_spells_1002 m)) := ⟨(ef_spells_l_1002 m 6 0 _ m (by omega) rfl rfl).1, fun w => (ef_spells_l_1002 m 6 0 _ m (by omega) rfl rfl).2 w (by omega)⟩
theorem ef_spells_1002_r {m r : Ms} (e : m_X12_spells_1002 m = r) : Pe m r ∧ (Ms.wr r = 0 → ∀ j q, Pg j q m → Pg (j + 1) (q + 1) r) := by rw [← e]; exact ef_spells_1002 m
theorem ef_spells_l_1003 (m : Ms) : ∀ (n k : Nat) (i : Int32) (m1 : Ms), k ≤ 5 → n + k = 6 → i = nI k → Pe m1 (l_X12_spells_1003_2 m n i m1) ∧ (Ms.wr (l_X12_spells_1003_2 m n i m1) = 0 → k < 5 → ∀ j q, Pg j q m1 → Pg (j + 1) (q + 1) (l_X12_spells_1003_2 m n i m1)) := by
  intro n
  induction n with
  | zero => intro k i m1 h1 h2; omega
  | succ n ih =>
    intro k i m1 h1 h2 h3
    rw [q_X12_spells_1003_2]
    by_cases c : nI 5 ≤ i
    · rw [if_pos c]
      rw [h3, nI_leI (by omega) (by omega)] at c
      exact ⟨Pe.rf _, fun _ h => by omega⟩
    · rw [if_neg c]
      have hk : k < 5 := cnt_lt h3 h1 (by decide) c
      have e := ef_must m1 (c := m_J0_charAt_5068e_1003 i) (ch_ne _)
      have g := ih (k + 1) (i + nI 1) (m_X12_must m1 (m_J0_charAt_5068e_1003 i)) (by omega) (by omega) (by rw [h3]; exact nI_add k 1)
      refine ⟨e.1.tr g.1, fun w _ j q p => g.1.2.2 _ _ ((e.2 ?_).2 j q p)⟩
      exact Classical.byContradiction fun h => g.1.2.1 h w
theorem ef_spells_1003 (m : Ms) : Pe m (m_X12_spells_1003 m) ∧ (Ms.wr (m_X12_spells_1003 m) = 0 → ∀ j q, Pg j q m → Pg (j + 1) (q + 1) (m_X12_spells_1003 m)) := ⟨(ef_spells_l_1003 m 6 0 _ m (by omega) rfl rfl).1, fun w => (ef_spells_l_1003 m 6 0 _ m (by omega) rfl rfl).2 w (by omega)⟩
theorem ef_spells_1003_r {m r : Ms} (e : m_X12_spells_1003 m = r) : Pe m r ∧ (Ms.wr r = 0 → ∀ j q, Pg j q m → Pg (j + 1) (q + 1) r) := by rw [← e]; exact ef_spells_1003 m
theorem Pe.go {m m' : Ms} (h1 : Ms.ac m' = Ms.ac m) (h2 : Ms.en m' = Ms.en m) (h3 : Ms.s m' = Ms.s m) (h4 : Ms.sp m' = Ms.sp m + nI 0 ∨ Ms.sp m' = Ms.sp m) (h5 : bl (Ms.wr m')) (h6 : Ms.op m' = Ms.op m) (h7 : ¬ Ms.wr m = 0 → ¬ Ms.wr m' = 0) : Pe m m' := ⟨h6, h7, fun _ _ h => h.go h1 h2 h3 h4 h5⟩
theorem Pe.go1 {m m' : Ms} (he : ¬ Ms.en m ≤ Ms.sp m) (h1 : Ms.ac m' = Ms.ac m) (h2 : Ms.en m' = Ms.en m) (h3 : Ms.s m' = Ms.s m) (h4 : Ms.sp m' = Ms.sp m + nI 1) (h5 : Ms.wr m' = Ms.wr m) (h6 : Ms.op m' = Ms.op m) : Pe m m' := ⟨h6, fun h => by rw [h5]; exact h, fun j q h => (h.go1 he h1 h2 h3 h4 (by rw [h5]; exact h.bw)).mono (by omega) (by omega)⟩
theorem dig_lt {s : Fn} {sp en : Int32} (c : ¬ m_X12_in (m_X12_here s sp en) (nI 48) (nI 57) = 0) : ¬ en ≤ sp := by
  intro h2
  apply c
  unfold m_X12_here
  rw [if_pos h2]
  rfl
theorem ef_figures_l (m : Ms) (x : Int32) : ∀ (n : Nat) (v i : Int32) (m1 : Ms), Pe m m1 → Pe m (l_X12_figures_34 m x n v i m1).2 := by
  intro n
  induction n with
  | zero => intro v i m1 h; exact Pe.rf m
  | succ n ih =>
    intro v i m1 h
    rw [q_X12_figures_34]
    by_cases c1 : nI 2 ≤ i
    · rw [if_pos c1]; exact h
    · rw [if_neg c1]
      by_cases c2 : Ms.wr m1 = 0
      · rw [if_pos c2]
        by_cases c3 : m_X12_in (m_X12_here (Ms.s m1) (Ms.sp m1) (Ms.en m1)) (nI 48) (nI 57) = 0
        · rw [if_pos c3]; exact h
        · rw [if_neg c3]
          have he := dig_lt c3
          by_cases c4 : i = 0
          · rw [if_pos c4]; exact ih _ _ _ (h.tr (Pe.go1 he rfl rfl rfl rfl rfl rfl))
          · rw [if_neg c4]
            by_cases c5 : v ≤ 0
            · rw [if_pos c5]; exact h
            · rw [if_neg c5]; exact ih _ _ _ (h.tr (Pe.go1 he rfl rfl rfl rfl rfl rfl))
      · rw [if_neg c2]; exact h
theorem ef_figures (m : Ms) : Pe m (m_X12_figures m).2 := by
  unfold m_X12_figures bindv
  refine ef_figures_l m _ _ _ _ _ (Pe.go rfl rfl rfl (Or.inr rfl) ?_ rfl ?_)
  · show bl (if Ms.wr m = 0 then (if (m_X12_in (m_X12_here (Ms.s m) (Ms.sp m) (Ms.en m)) (nI 48) (nI 57)) = 0 then (nI 1) else (nI 0)) else (nI 1))
    (repeat' split) <;> first | exact Or.inl rfl | exact Or.inr rfl
  · intro h
    show ¬ (if Ms.wr m = 0 then (if (m_X12_in (m_X12_here (Ms.s m) (Ms.sp m) (Ms.en m)) (nI 48) (nI 57)) = 0 then (nI 1) else (nI 0)) else (nI 1)) = 0
    rw [if_neg h]; decide
theorem ef_figures_r {m : Ms} {r : Int32 × Ms} (e : m_X12_figures m = r) : Pe m r.2 := by rw [← e]; exact ef_figures m
def l_X12_among_1004_2 (m : Ms) : Nat → Int32 → Int32 × Ms
  | 0, _ => (0, m)
  | n2 + 1, k => if nI 6 ≤ k then ((-nI 1), m) else (if (m_X12_here (Ms.s m) (Ms.sp m) (Ms.en m)) = (m_J0_charAt_5068e_1004 k) then (k, (Ms.th m, Ms.s m, Ms.im m, Ms.fr m, Ms.hi m, Ms.ac m, (Ms.sp m + nI 1), Ms.en m, Ms.wr m, Ms.op m, Ms.bb m, Ms.tr m, Ms.su m, Ms.lf m, Ms.lk m, Ms.nx m, Ms.bo m, Ms.ra m, Ms.ki m, Ms.nu m, Ms.tv m)) else l_X12_among_1004_2 m n2 (k + nI 1))
theorem q_X12_among_1004_2 (m : Ms) (n2 : Nat) (k : Int32) : l_X12_among_1004_2 m (n2 + 1) k = (if nI 6 ≤ k then ((-nI 1), m) else (if (m_X12_here (Ms.s m) (Ms.sp m) (Ms.en m)) = (m_J0_charAt_5068e_1004 k) then (k, (Ms.th m, Ms.s m, Ms.im m, Ms.fr m, Ms.hi m, Ms.ac m, (Ms.sp m + nI 1), Ms.en m, Ms.wr m, Ms.op m, Ms.bb m, Ms.tr m, Ms.su m, Ms.lf m, Ms.lk m, Ms.nx m, Ms.bo m, Ms.ra m, Ms.ki m, Ms.nu m, Ms.tv m)) else l_X12_among_1004_2 m n2 (k + nI 1))) := rfl
def m_X12_among_1004 (m : Ms) : Int32 × Ms := l_X12_among_1004_2 m 7 (nI 0)
set_option maxRecDepth 100000 in
set_option maxHeartbeats 4000000 in
theorem c_X12_among_1004 (l : Launch) {fv : Value} (hf : FV fv) (m : Ms) (hx : ¬ Ms.en m ≤ Ms.sp m → vp_in (nI 112 + Ms.sp m) 927) : CT l fv 5 jX12_among [.ref 0, .ref 1004] (hMs m) (DP (some (.int (m_X12_among_1004 m).1)) (hMs ((m_X12_among_1004 m).2))) := by
  refine CT_of [2] mt_X12_among (by decide +kernel) (tab_X12 hf) okX12_among (Nat.le_of_ble_eq_true rfl) ?_
  intro J hJ hD
  refine hJ 0 _ _ _ ?_
  have L2 : ∀ (n2 : Nat) (k : Int32), (∃ z9 : Nat, z9 ≤ 6 ∧ n2 + z9 = 7 ∧ k = nI z9) → m_X12_among_1004 m = l_X12_among_1004_2 m n2 k → J 2 [(0, .ref 0), (1, .ref 1004), (2, .int k)] [] (hMs m) := by
    intro n2
    induction n2 with
    | zero =>
      intro k hv
      obtain ⟨z9, h1, h2, h3⟩ := hv
      omega
    | succ n2 ih2 =>
      intro k hv e2
      obtain ⟨z9, h1, h2, h3⟩ := hv
      refine hJ 2 _ _ _ ?_
      refine CALL_sub (r := some (.int (nI 6))) (h' := hMs m) [] (by decide) (c_J0_length_8abf5_1004 l hf ) rfl rfl (by decide) (by decide) rfl ?_
      refine And.intro (fun c1 => ?_) (fun c1 => ?_)
      · skip
        refine hJ 40 _ _ _ ?_
        exact And.intro True.intro (DPis (F := (fun z => hMs z)) (s' := m) (e2.trans ((q_X12_among_1004_2 m n2 k).trans (if_pos c1))))
      · skip
        have h4 : z9 < 6 := cnt_lt h3 h1 (by decide) c1
        refine CALL_same (r := some (.int (m_X12_here (Ms.s m) (Ms.sp m) (Ms.en m)))) (h1 := hMs m) (by decide) (c_X12_here l hf m hx) ?_
        refine CALL_sub (h' := hMs m) [] (by decide) (c_J0_charAt_5068e_1004 l hf k (vp_nI h3 h4 (by decide))) rfl rfl (by decide) (by decide) rfl ?_
        refine And.intro (fun c2 => ?_) (fun c2 => ?_)
        · skip
          refine hJ 34 _ _ _ ?_
          exact hD _ _ [1, 2, 0] _ _ (ih2 _ ⟨z9 + 1, by omega, by omega, by rw [h3]; exact nI_add z9 1⟩ (e2.trans ((q_X12_among_1004_2 m n2 k).trans ((if_neg c1).trans (if_neg c2)))))
        · skip
          refine And.intro True.intro ?_
          exact And.intro True.intro (DPis (F := (fun z => hMs z)) (s' := (Ms.th m, Ms.s m, Ms.im m, Ms.fr m, Ms.hi m, Ms.ac m, (Ms.sp m + nI 1), Ms.en m, Ms.wr m, Ms.op m, Ms.bb m, Ms.tr m, Ms.su m, Ms.lf m, Ms.lk m, Ms.nx m, Ms.bo m, Ms.ra m, Ms.ki m, Ms.nu m, Ms.tv m)) (e2.trans ((q_X12_among_1004_2 m n2 k).trans ((if_neg c1).trans (if_pos c2)))))
  exact hD _ _ [1, 2, 0] _ _ (L2 7 _ ⟨0, by decide, by decide, rfl⟩ (rfl))
def l_X12_among_1005_2 (m : Ms) : Nat → Int32 → Int32 × Ms
  | 0, _ => (0, m)
  | n2 + 1, k => if nI 3 ≤ k then ((-nI 1), m) else (if (m_X12_here (Ms.s m) (Ms.sp m) (Ms.en m)) = (m_J0_charAt_5068e_1005 k) then (k, (Ms.th m, Ms.s m, Ms.im m, Ms.fr m, Ms.hi m, Ms.ac m, (Ms.sp m + nI 1), Ms.en m, Ms.wr m, Ms.op m, Ms.bb m, Ms.tr m, Ms.su m, Ms.lf m, Ms.lk m, Ms.nx m, Ms.bo m, Ms.ra m, Ms.ki m, Ms.nu m, Ms.tv m)) else l_X12_among_1005_2 m n2 (k + nI 1))
theorem q_X12_among_1005_2 (m : Ms) (n2 : Nat) (k : Int32) : l_X12_among_1005_2 m (n2 + 1) k = (if nI 3 ≤ k then ((-nI 1), m) else (if (m_X12_here (Ms.s m) (Ms.sp m) (Ms.en m)) = (m_J0_charAt_5068e_1005 k) then (k, (Ms.th m, Ms.s m, Ms.im m, Ms.fr m, Ms.hi m, Ms.ac m, (Ms.sp m + nI 1), Ms.en m, Ms.wr m, Ms.op m, Ms.bb m, Ms.tr m, Ms.su m, Ms.lf m, Ms.lk m, Ms.nx m, Ms.bo m, Ms.ra m, Ms.ki m, Ms.nu m, Ms.tv m)) else l_X12_among_1005_2 m n2 (k + nI 1))) := rfl
def m_X12_among_1005 (m : Ms) : Int32 × Ms := l_X12_among_1005_2 m 4 (nI 0)
set_option maxRecDepth 100000 in
set_option maxHeartbeats 4000000 in
theorem c_X12_among_1005 (l : Launch) {fv : Value} (hf : FV fv) (m : Ms) (hx : ¬ Ms.en m ≤ Ms.sp m → vp_in (nI 112 + Ms.sp m) 927) : CT l fv 5 jX12_among [.ref 0, .ref 1005] (hMs m) (DP (some (.int (m_X12_among_1005 m).1)) (hMs ((m_X12_among_1005 m).2))) := by
  refine CT_of [2] mt_X12_among (by decide +kernel) (tab_X12 hf) okX12_among (Nat.le_of_ble_eq_true rfl) ?_
  intro J hJ hD
  refine hJ 0 _ _ _ ?_
  have L2 : ∀ (n2 : Nat) (k : Int32), (∃ z9 : Nat, z9 ≤ 3 ∧ n2 + z9 = 4 ∧ k = nI z9) → m_X12_among_1005 m = l_X12_among_1005_2 m n2 k → J 2 [(0, .ref 0), (1, .ref 1005), (2, .int k)] [] (hMs m) := by
    intro n2
    induction n2 with
    | zero =>
      intro k hv
      obtain ⟨z9, h1, h2, h3⟩ := hv
      omega
    | succ n2 ih2 =>
      intro k hv e2
      obtain ⟨z9, h1, h2, h3⟩ := hv
      refine hJ 2 _ _ _ ?_
      refine CALL_sub (r := some (.int (nI 3))) (h' := hMs m) [] (by decide) (c_J0_length_8abf5_1005 l hf ) rfl rfl (by decide) (by decide) rfl ?_
      refine And.intro (fun c1 => ?_) (fun c1 => ?_)
      · skip
        refine hJ 40 _ _ _ ?_
        exact And.intro True.intro (DPis (F := (fun z => hMs z)) (s' := m) (e2.trans ((q_X12_among_1005_2 m n2 k).trans (if_pos c1))))
      · skip
        have h4 : z9 < 3 := cnt_lt h3 h1 (by decide) c1
        refine CALL_same (r := some (.int (m_X12_here (Ms.s m) (Ms.sp m) (Ms.en m)))) (h1 := hMs m) (by decide) (c_X12_here l hf m hx) ?_
        refine CALL_sub (h' := hMs m) [] (by decide) (c_J0_charAt_5068e_1005 l hf k (vp_nI h3 h4 (by decide))) rfl rfl (by decide) (by decide) rfl ?_
        refine And.intro (fun c2 => ?_) (fun c2 => ?_)
        · skip
          refine hJ 34 _ _ _ ?_
          exact hD _ _ [1, 2, 0] _ _ (ih2 _ ⟨z9 + 1, by omega, by omega, by rw [h3]; exact nI_add z9 1⟩ (e2.trans ((q_X12_among_1005_2 m n2 k).trans ((if_neg c1).trans (if_neg c2)))))
        · skip
          refine And.intro True.intro ?_
          exact And.intro True.intro (DPis (F := (fun z => hMs z)) (s' := (Ms.th m, Ms.s m, Ms.im m, Ms.fr m, Ms.hi m, Ms.ac m, (Ms.sp m + nI 1), Ms.en m, Ms.wr m, Ms.op m, Ms.bb m, Ms.tr m, Ms.su m, Ms.lf m, Ms.lk m, Ms.nx m, Ms.bo m, Ms.ra m, Ms.ki m, Ms.nu m, Ms.tv m)) (e2.trans ((q_X12_among_1005_2 m n2 k).trans ((if_neg c1).trans (if_pos c2)))))
  exact hD _ _ [1, 2, 0] _ _ (L2 4 _ ⟨0, by decide, by decide, rfl⟩ (rfl))
theorem ef_among_l_1004 (m : Ms) : ∀ (n k : Nat) (i : Int32), k ≤ 6 → n + k = 6 + 1 → i = nI k → Pe m (l_X12_among_1004_2 m n i).2 ∧ ((l_X12_among_1004_2 m n i).1 = (-nI 1) ∨ ∀ j q, Pg j q m → Pg (j + 1) (q + 1) (l_X12_among_1004_2 m n i).2) := by
  intro n
  induction n with
  | zero => intro k i h1 h2; omega
  | succ n ih =>
    intro k i h1 h2 h3
    rw [q_X12_among_1004_2]
    by_cases c : nI 6 ≤ i
    · rw [if_pos c]; exact ⟨Pe.rf m, Or.inl rfl⟩
    · rw [if_neg c]
      have hk : k < 6 := cnt_lt h3 h1 (by decide) c
      by_cases c2 : m_X12_here (Ms.s m) (Ms.sp m) (Ms.en m) = m_J0_charAt_5068e_1004 i
      · rw [if_pos c2]
        have he := here_lt c2 (ch_ne _)
        exact ⟨Pe.go1 he rfl rfl rfl rfl rfl rfl, Or.inr fun j q h => h.go1 he rfl rfl rfl rfl h.bw⟩
      · rw [if_neg c2]
        exact ih (k + 1) _ (by omega) (by omega) (by rw [h3]; exact nI_add k 1)
theorem ef_among_1004_r {m : Ms} {r : Int32 × Ms} (e : m_X12_among_1004 m = r) : Pe m r.2 ∧ (r.1 = (-nI 1) ∨ ∀ j q, Pg j q m → Pg (j + 1) (q + 1) r.2) := by rw [← e]; exact ef_among_l_1004 m (6 + 1) 0 _ (by omega) rfl rfl
theorem ef_among_l_1005 (m : Ms) : ∀ (n k : Nat) (i : Int32), k ≤ 3 → n + k = 3 + 1 → i = nI k → Pe m (l_X12_among_1005_2 m n i).2 ∧ ((l_X12_among_1005_2 m n i).1 = (-nI 1) ∨ ∀ j q, Pg j q m → Pg (j + 1) (q + 1) (l_X12_among_1005_2 m n i).2) := by
  intro n
  induction n with
  | zero => intro k i h1 h2; omega
  | succ n ih =>
    intro k i h1 h2 h3
    rw [q_X12_among_1005_2]
    by_cases c : nI 3 ≤ i
    · rw [if_pos c]; exact ⟨Pe.rf m, Or.inl rfl⟩
    · rw [if_neg c]
      have hk : k < 3 := cnt_lt h3 h1 (by decide) c
      by_cases c2 : m_X12_here (Ms.s m) (Ms.sp m) (Ms.en m) = m_J0_charAt_5068e_1005 i
      · rw [if_pos c2]
        have he := here_lt c2 (ch_ne _)
        exact ⟨Pe.go1 he rfl rfl rfl rfl rfl rfl, Or.inr fun j q h => h.go1 he rfl rfl rfl rfl h.bw⟩
      · rw [if_neg c2]
        exact ih (k + 1) _ (by omega) (by omega) (by rw [h3]; exact nI_add k 1)
theorem ef_among_1005_r {m : Ms} {r : Int32 × Ms} (e : m_X12_among_1005 m = r) : Pe m r.2 ∧ (r.1 = (-nI 1) ∨ ∀ j q, Pg j q m → Pg (j + 1) (q + 1) r.2) := by rw [← e]; exact ef_among_l_1005 m (3 + 1) 0 _ (by omega) rfl rfl
def m_X12_emits (m : Ms) (x : Int32) : Ms := if Ms.wr m = 0 then (Ms.th m, (upd (upd (Ms.s m) ((nI 227 + (nI 140 * Ms.ac m)) + (Ms.s m (nI 222 + Ms.ac m).toNatClampNeg)).toNatClampNeg x) (nI 222 + Ms.ac m).toNatClampNeg (((upd (Ms.s m) ((nI 227 + (nI 140 * Ms.ac m)) + (Ms.s m (nI 222 + Ms.ac m).toNatClampNeg)).toNatClampNeg x) (nI 222 + Ms.ac m).toNatClampNeg) + nI 1)), Ms.im m, Ms.fr m, Ms.hi m, Ms.ac m, Ms.sp m, Ms.en m, Ms.wr m, Ms.op m, Ms.bb m, Ms.tr m, Ms.su m, Ms.lf m, Ms.lk m, Ms.nx m, Ms.bo m, Ms.ra m, Ms.ki m, Ms.nu m, Ms.tv m) else m
set_option maxRecDepth 100000 in
set_option maxHeartbeats 4000000 in
theorem c_X12_emits (l : Launch) {fv : Value} (hf : FV fv) (m : Ms) (x : Int32) (hg : Pg 0 0 m) : CT l fv 1 jX12_emits [.ref 0, .int x] (hMs m) (DP none (hMs (m_X12_emits m x))) := by
  refine CT_of [] mt_X12_emits (by decide +kernel) (tab_X12 hf) okX12_emits (Nat.le_of_ble_eq_true rfl) ?_
  intro J hJ hD
  refine hJ 0 _ _ _ ?_
  refine And.intro (fun c1 => ?_) (fun c1 => ?_)
  · skip
    refine hJ 56 _ _ _ ?_
    exact And.intro rfl (DPs (F := (fun z => hMs z)) (s' := m) (if_neg c1))
  · skip
    refine And.intro (hg.ex.1) ?_
    refine And.intro (hg.ex.2) ?_
    refine And.intro (hg.ex.1) ?_
    refine And.intro (hg.ex.1) ?_
    exact And.intro rfl (DPs (F := (fun z => hMs z)) (s' := (Ms.th m, (upd (upd (Ms.s m) ((nI 227 + (nI 140 * Ms.ac m)) + (Ms.s m (nI 222 + Ms.ac m).toNatClampNeg)).toNatClampNeg x) (nI 222 + Ms.ac m).toNatClampNeg (((upd (Ms.s m) ((nI 227 + (nI 140 * Ms.ac m)) + (Ms.s m (nI 222 + Ms.ac m).toNatClampNeg)).toNatClampNeg x) (nI 222 + Ms.ac m).toNatClampNeg) + nI 1)), Ms.im m, Ms.fr m, Ms.hi m, Ms.ac m, Ms.sp m, Ms.en m, Ms.wr m, Ms.op m, Ms.bb m, Ms.tr m, Ms.su m, Ms.lf m, Ms.lk m, Ms.nx m, Ms.bo m, Ms.ra m, Ms.ki m, Ms.nu m, Ms.tv m)) (if_pos c1))
theorem ef_emits {m : Ms} {x : Int32} : Ms.op (m_X12_emits m x) = Ms.op m ∧ Ms.wr (m_X12_emits m x) = Ms.wr m ∧ ∀ j q, Pg j q m → (Ms.wr m = 0 → Pg (j + 1) q m) → Pg j q (m_X12_emits m x) := by
  unfold m_X12_emits
  by_cases w : Ms.wr m = 0
  · rw [if_pos w]
    refine ⟨rfl, rfl, fun j q _ h => ?_⟩
    obtain ⟨a, e, p, c, g1, g2, g3, g4, g5, g6, g7, g8, g9, g10⟩ := h w
    refine ⟨a, e, p, c + 1, g1, g2, g3, g4, g5, g6, ?_, by omega, g9, g10⟩
    show upd (upd (Ms.s m) ((nI 227 + (nI 140 * Ms.ac m)) + (Ms.s m (nI 222 + Ms.ac m).toNatClampNeg)).toNatClampNeg x) (nI 222 + Ms.ac m).toNatClampNeg (((upd (Ms.s m) ((nI 227 + (nI 140 * Ms.ac m)) + (Ms.s m (nI 222 + Ms.ac m).toNatClampNeg)).toNatClampNeg x) (nI 222 + Ms.ac m).toNatClampNeg) + nI 1) (222 + a) = nI (c + 1)
    rw [g1, nI_add, nI_clamp (by omega), g7, pk_mul, nI_add, nI_add, nI_clamp (by omega), pk_us, pk_un (by omega), g7]
    exact nI_add c 1
  · rw [if_neg w]
    exact ⟨rfl, rfl, fun j q h _ => h⟩
theorem ef_emits_r {m r : Ms} {x : Int32} (e : m_X12_emits m x = r) : Ms.op r = Ms.op m ∧ Ms.wr r = Ms.wr m ∧ ∀ j q, Pg j q m → (Ms.wr m = 0 → Pg (j + 1) q m) → Pg j q r := by rw [← e]; exact ef_emits
/-- ahead of a factor: k are free to stand open yet -/
def Pf (k q : Nat) (m : Ms) : Prop := Pg 0 q m ∧ (∃ o, Ms.op m = nI o ∧ o + k = 6) ∧ (k = 0 → ¬ Ms.wr m = 0)
theorem Pf.pe {k q : Nat} {m m' : Ms} (h : Pf k q m) (e : Pe m m') : Pf k q m' := ⟨e.2.2 0 q h.1, by rw [e.1]; exact h.2.1, fun z => e.2.1 (h.2.2 z)⟩
theorem Pf.go1 {k q : Nat} {m m' : Ms} (h : Pf k q m) (w : Ms.wr m = 0) (he : ¬ Ms.en m ≤ Ms.sp m) (h1 : Ms.ac m' = Ms.ac m) (h2 : Ms.en m' = Ms.en m) (h3 : Ms.s m' = Ms.s m) (h4 : Ms.sp m' = Ms.sp m + nI 1) (h5 : Ms.wr m' = Ms.wr m) (h6 : Ms.op m' = Ms.op m) : Pf k (q + 1) m' ∧ Pg 1 (q + 1) m' :=
  have g := h.1.go1 he h1 h2 h3 h4 (by rw [h5]; exact h.1.bw)
  ⟨⟨g.mono (by omega) (by omega), by rw [h6]; exact h.2.1, fun z => absurd w (h.2.2 z)⟩, g⟩
theorem Pf.em {k q : Nat} {m r : Ms} (h : Pf k q m) (g : Pg 1 q m) (e : Ms.op r = Ms.op m ∧ Ms.wr r = Ms.wr m ∧ ∀ j q, Pg j q m → (Ms.wr m = 0 → Pg (j + 1) q m) → Pg j q r) : Pf k q r := ⟨e.2.2 0 q h.1 (fun _ => g), by rw [e.1]; exact h.2.1, by rw [e.2.1]; exact h.2.2⟩
theorem Pf.z {k q : Nat} {m : Ms} (h : Pf k q m) : Pf k 0 m := ⟨h.1.mono (Nat.le_refl _) (Nat.zero_le _), h.2⟩
theorem Pf.g0 {k q : Nat} {m m' : Ms} (h : Pf k q m) (w : Ms.wr m = 0) (he : ¬ Ms.en m ≤ Ms.sp m) (h1 : Ms.ac m' = Ms.ac m) (h2 : Ms.en m' = Ms.en m) (h3 : Ms.s m' = Ms.s m) (h4 : Ms.sp m' = Ms.sp m + nI 1) (h5 : Ms.wr m' = Ms.wr m) (h6 : Ms.op m' = Ms.op m) : Pf k 0 m' := (h.go1 w he h1 h2 h3 h4 h5 h6).1.z
theorem fac_in {k q : Nat} {fac : Ms → Ms} {m1 t r : Ms} (e : fac t = r) (hef : ∀ m, Pf k 0 m → Pe m (fac m)) (h : Pf k q m1) (w : Ms.wr m1 = 0) (he : ¬ Ms.en m1 ≤ Ms.sp m1) (h1 : Ms.ac t = Ms.ac m1) (h2 : Ms.en t = Ms.en m1) (h3 : Ms.s t = Ms.s m1) (h4 : Ms.sp t = Ms.sp m1 + nI 1) (h5 : Ms.wr t = Ms.wr m1) (h6 : Ms.op t = Ms.op m1) : Pf k (q + 1) r ∧ Pg 1 (q + 1) r := by
  have g := h.go1 w he h1 h2 h3 h4 h5 h6
  have p := hef t g.1.z
  rw [e] at p
  exact ⟨g.1.pe p, p.2.2 _ _ g.2⟩
def l_X12_every_4 (m : Ms) (fac : Ms → Ms) (r1 : Ms) : Nat → Ms → Ms
  | 0, _ => m
  | n4 + 1, m1 => if Ms.wr m1 = 0 then (if (m_X12_here (Ms.s m1) (Ms.sp m1) (Ms.en m1)) = nI 38 then (bindv (fac (Ms.th m1, Ms.s m1, Ms.im m1, Ms.fr m1, Ms.hi m1, Ms.ac m1, (Ms.sp m1 + nI 1), Ms.en m1, Ms.wr m1, Ms.op m1, Ms.bb m1, Ms.tr m1, Ms.su m1, Ms.lf m1, Ms.lk m1, Ms.nx m1, Ms.bo m1, Ms.ra m1, Ms.ki m1, Ms.nu m1, Ms.tv m1)) (fun r4 => bindv (m_X12_emits r4 (-nI 2)) (fun r5 => l_X12_every_4 m fac r1 n4 r5))) else m1) else m1
theorem q_X12_every_4 (m : Ms) (fac : Ms → Ms) (r1 : Ms) (n4 : Nat) (m1 : Ms) : l_X12_every_4 m fac r1 (n4 + 1) m1 = (if Ms.wr m1 = 0 then (if (m_X12_here (Ms.s m1) (Ms.sp m1) (Ms.en m1)) = nI 38 then (bindv (fac (Ms.th m1, Ms.s m1, Ms.im m1, Ms.fr m1, Ms.hi m1, Ms.ac m1, (Ms.sp m1 + nI 1), Ms.en m1, Ms.wr m1, Ms.op m1, Ms.bb m1, Ms.tr m1, Ms.su m1, Ms.lf m1, Ms.lk m1, Ms.nx m1, Ms.bo m1, Ms.ra m1, Ms.ki m1, Ms.nu m1, Ms.tv m1)) (fun r4 => bindv (m_X12_emits r4 (-nI 2)) (fun r5 => l_X12_every_4 m fac r1 n4 r5))) else m1) else m1) := rfl
def m_X12_every (m : Ms) (fac : Ms → Ms) : Ms := bindv (fac m) (fun r1 => l_X12_every_4 m fac r1 102 r1)
set_option maxRecDepth 100000 in
set_option maxHeartbeats 4000000 in
theorem c_X12_every (l : Launch) {fv : Value} (hf : FV fv) (m : Ms) (fac : Ms → Ms) {k d : Nat} (hd : 10 ≤ d) (hfac : ∀ m, Pf k 0 m → CT l fv d jX12_factor [.ref 0] (hMs m) (DP none (hMs (fac m)))) (hef : ∀ m, Pf k 0 m → Pe m (fac m)) (hP : Pf k 0 m) : CT l fv (d + 1) jX12_every [.ref 0] (hMs m) (DP none (hMs (m_X12_every m fac))) := by
  refine CT_of [4] mt_X12_every (by decide +kernel) (tab_X12 hf) okX12_every (Nat.le_of_ble_eq_true rfl) ?_
  intro J hJ hD
  refine hJ 0 _ _ _ ?_
  obtain ⟨r1, er1⟩ : ∃ z : Ms, fac m = z := ⟨_, rfl⟩
  have hr1 := hfac m hP
  rw [er1] at hr1
  have h1 := hef _ hP; rw [er1] at h1
  refine CALL_same (r := none) (h1 := hMs r1) (by omega) (hr1) ?_
  have L4 : ∀ (n4 : Nat) (m1 : Ms), (∃ q : Nat, n4 + q = 102 ∧ Pf k q m1) → m_X12_every m fac = l_X12_every_4 m fac r1 n4 m1 → J 4 [(0, .ref 0)] [] (hMs m1) := by
    intro n4
    induction n4 with
    | zero =>
      intro m1 hv
      obtain ⟨q, h1, h2⟩ := hv
      have := h2.1.q
      omega
    | succ n4 ih4 =>
      intro m1 hv e4
      obtain ⟨q, h1, h2⟩ := hv
      have hv2 := h2
      refine hJ 4 _ _ _ ?_
      refine And.intro (fun c2 => ?_) (fun c2 => ?_)
      · skip
        refine hJ 43 _ _ _ ?_
        exact And.intro rfl (DPs (F := (fun z => hMs z)) (s' := m1) (e4.trans ((q_X12_every_4 m fac r1 n4 m1).trans (if_neg c2))))
      · skip
        have w2 := c2
        refine CALL_same (r := some (.int (m_X12_here (Ms.s m1) (Ms.sp m1) (Ms.en m1)))) (h1 := hMs m1) (by omega) (c_X12_here l hf m1 h2.1.ix) ?_
        refine And.intro (fun c3 => ?_) (fun c3 => ?_)
        · skip
          refine hJ 43 _ _ _ ?_
          exact And.intro rfl (DPs (F := (fun z => hMs z)) (s' := m1) (e4.trans ((q_X12_every_4 m fac r1 n4 m1).trans ((if_pos c2).trans (if_neg c3)))))
        · skip
          have he := here_lt c3 (by decide)
          refine And.intro True.intro ?_
          obtain ⟨r4, er4⟩ : ∃ z : Ms, fac (Ms.th m1, Ms.s m1, Ms.im m1, Ms.fr m1, Ms.hi m1, Ms.ac m1, (Ms.sp m1 + nI 1), Ms.en m1, Ms.wr m1, Ms.op m1, Ms.bb m1, Ms.tr m1, Ms.su m1, Ms.lf m1, Ms.lk m1, Ms.nx m1, Ms.bo m1, Ms.ra m1, Ms.ki m1, Ms.nu m1, Ms.tv m1) = z := ⟨_, rfl⟩
          have hr4 := hfac (Ms.th m1, Ms.s m1, Ms.im m1, Ms.fr m1, Ms.hi m1, Ms.ac m1, (Ms.sp m1 + nI 1), Ms.en m1, Ms.wr m1, Ms.op m1, Ms.bb m1, Ms.tr m1, Ms.su m1, Ms.lf m1, Ms.lk m1, Ms.nx m1, Ms.bo m1, Ms.ra m1, Ms.ki m1, Ms.nu m1, Ms.tv m1) (by exact Pf.g0 hv2 w2 he rfl rfl rfl rfl rfl rfl)
          rw [er4] at hr4
          have h8 := fac_in (fac := fac) er4 hef hv2 w2 he rfl rfl rfl rfl rfl rfl
          refine CALL_same (r := none) (h1 := hMs r4) (by omega) (hr4) ?_
          obtain ⟨r5, er5⟩ : ∃ z : Ms, m_X12_emits r4 (-nI 2) = z := ⟨_, rfl⟩
          have hr5 := c_X12_emits l hf r4 (-nI 2) h8.1.1.z
          rw [er5] at hr5
          have h9 := h8.1.em h8.2 (ef_emits_r er5)
          refine CALL_same (r := none) (h1 := hMs r5) (by omega) (hr5) ?_
          exact hD _ _ [0] _ _ (ih4 _ ⟨q + 1, by omega, h9⟩ (e4.trans ((q_X12_every_4 m fac r1 n4 m1).trans ((if_pos c2).trans ((if_pos c3).trans ((bindv_eq er4).trans (bindv_eq er5)))))))
  exact hD _ _ [0] _ _ (L4 102 _ ⟨0, rfl, hP.pe h1⟩ (bindv_eq er1))
theorem ef_every_l (m : Ms) (fac : Ms → Ms) (x : Ms) {k : Nat} (hef : ∀ m, Pf k 0 m → Pe m (fac m)) : ∀ (n q : Nat) (m1 : Ms), n + q = 102 → Pf k q m1 → Pe m1 (l_X12_every_4 m fac x n m1) := by
  intro n
  induction n with
  | zero => intro q m1 h1 h2; have := h2.1.q; omega
  | succ n ih =>
    intro q m1 h1 h2
    rw [q_X12_every_4]
    by_cases w : Ms.wr m1 = 0
    · rw [if_pos w]
      by_cases c : m_X12_here (Ms.s m1) (Ms.sp m1) (Ms.en m1) = nI 38
      · rw [if_pos c]
        have he := here_lt c (by decide)
        have h8 := fac_in (fac := fac) rfl hef h2 w he rfl rfl rfl rfl rfl rfl (t := (Ms.th m1, Ms.s m1, Ms.im m1, Ms.fr m1, Ms.hi m1, Ms.ac m1, (Ms.sp m1 + nI 1), Ms.en m1, Ms.wr m1, Ms.op m1, Ms.bb m1, Ms.tr m1, Ms.su m1, Ms.lf m1, Ms.lk m1, Ms.nx m1, Ms.bo m1, Ms.ra m1, Ms.ki m1, Ms.nu m1, Ms.tv m1))
        have g := h2.go1 w he rfl rfl rfl rfl rfl rfl (m' := (Ms.th m1, Ms.s m1, Ms.im m1, Ms.fr m1, Ms.hi m1, Ms.ac m1, (Ms.sp m1 + nI 1), Ms.en m1, Ms.wr m1, Ms.op m1, Ms.bb m1, Ms.tr m1, Ms.su m1, Ms.lf m1, Ms.lk m1, Ms.nx m1, Ms.bo m1, Ms.ra m1, Ms.ki m1, Ms.nu m1, Ms.tv m1))
        have p := hef _ g.1.z
        have h9 := h8.1.em h8.2 (ef_emits (x := (-nI 2)))
        refine Pe.tr ?_ (ih (q + 1) _ (by omega) h9)
        refine ⟨ef_emits.1.trans p.1, fun z => absurd w z, fun j q h => ?_⟩
        have h10 := p.2.2 (j + 1) (q + 1) (h.go1 he rfl rfl rfl rfl h.bw)
        exact (ef_emits.2.2 j q (h10.mono (by omega) (by omega)) (fun _ => h10.mono (by omega) (by omega)))
      · rw [if_neg c]; exact Pe.rf m1
    · rw [if_neg w]; exact Pe.rf m1
theorem ef_every {fac : Ms → Ms} {k : Nat} (hef : ∀ m, Pf k 0 m → Pe m (fac m)) : ∀ m, Pf k 0 m → Pe m (m_X12_every m fac) := fun m h => (hef m h).tr (ef_every_l m fac _ hef 102 0 _ rfl (h.pe (hef m h)))
def l_X12_some_4 (m : Ms) (fac : Ms → Ms) (r1 : Ms) : Nat → Ms → Ms
  | 0, _ => m
  | n4 + 1, m1 => if Ms.wr m1 = 0 then (if (m_X12_here (Ms.s m1) (Ms.sp m1) (Ms.en m1)) = nI 124 then (bindv (m_X12_every (Ms.th m1, Ms.s m1, Ms.im m1, Ms.fr m1, Ms.hi m1, Ms.ac m1, (Ms.sp m1 + nI 1), Ms.en m1, Ms.wr m1, Ms.op m1, Ms.bb m1, Ms.tr m1, Ms.su m1, Ms.lf m1, Ms.lk m1, Ms.nx m1, Ms.bo m1, Ms.ra m1, Ms.ki m1, Ms.nu m1, Ms.tv m1) fac) (fun r4 => bindv (m_X12_emits r4 (-nI 3)) (fun r5 => l_X12_some_4 m fac r1 n4 r5))) else m1) else m1
theorem q_X12_some_4 (m : Ms) (fac : Ms → Ms) (r1 : Ms) (n4 : Nat) (m1 : Ms) : l_X12_some_4 m fac r1 (n4 + 1) m1 = (if Ms.wr m1 = 0 then (if (m_X12_here (Ms.s m1) (Ms.sp m1) (Ms.en m1)) = nI 124 then (bindv (m_X12_every (Ms.th m1, Ms.s m1, Ms.im m1, Ms.fr m1, Ms.hi m1, Ms.ac m1, (Ms.sp m1 + nI 1), Ms.en m1, Ms.wr m1, Ms.op m1, Ms.bb m1, Ms.tr m1, Ms.su m1, Ms.lf m1, Ms.lk m1, Ms.nx m1, Ms.bo m1, Ms.ra m1, Ms.ki m1, Ms.nu m1, Ms.tv m1) fac) (fun r4 => bindv (m_X12_emits r4 (-nI 3)) (fun r5 => l_X12_some_4 m fac r1 n4 r5))) else m1) else m1) := rfl
def m_X12_some (m : Ms) (fac : Ms → Ms) : Ms := bindv (m_X12_every m fac) (fun r1 => l_X12_some_4 m fac r1 102 r1)
set_option maxRecDepth 100000 in
set_option maxHeartbeats 4000000 in
theorem c_X12_some (l : Launch) {fv : Value} (hf : FV fv) (m : Ms) (fac : Ms → Ms) {k d : Nat} (hd : 10 ≤ d) (hfac : ∀ m, Pf k 0 m → CT l fv d jX12_factor [.ref 0] (hMs m) (DP none (hMs (fac m)))) (hef : ∀ m, Pf k 0 m → Pe m (fac m)) (hP : Pf k 0 m) : CT l fv (d + 2) jX12_some [.ref 0] (hMs m) (DP none (hMs (m_X12_some m fac))) := by
  refine CT_of [4] mt_X12_some (by decide +kernel) (tab_X12 hf) okX12_some (Nat.le_of_ble_eq_true rfl) ?_
  intro J hJ hD
  refine hJ 0 _ _ _ ?_
  obtain ⟨r1, er1⟩ : ∃ z : Ms, m_X12_every m fac = z := ⟨_, rfl⟩
  have hr1 := c_X12_every l hf m fac hd hfac hef hP
  rw [er1] at hr1
  have h1 := (ef_every hef) _ hP; rw [er1] at h1
  refine CALL_same (r := none) (h1 := hMs r1) (by omega) (hr1) ?_
  have L4 : ∀ (n4 : Nat) (m1 : Ms), (∃ q : Nat, n4 + q = 102 ∧ Pf k q m1) → m_X12_some m fac = l_X12_some_4 m fac r1 n4 m1 → J 4 [(0, .ref 0)] [] (hMs m1) := by
    intro n4
    induction n4 with
    | zero =>
      intro m1 hv
      obtain ⟨q, h1, h2⟩ := hv
      have := h2.1.q
      omega
    | succ n4 ih4 =>
      intro m1 hv e4
      obtain ⟨q, h1, h2⟩ := hv
      have hv2 := h2
      refine hJ 4 _ _ _ ?_
      refine And.intro (fun c2 => ?_) (fun c2 => ?_)
      · skip
        refine hJ 43 _ _ _ ?_
        exact And.intro rfl (DPs (F := (fun z => hMs z)) (s' := m1) (e4.trans ((q_X12_some_4 m fac r1 n4 m1).trans (if_neg c2))))
      · skip
        have w2 := c2
        refine CALL_same (r := some (.int (m_X12_here (Ms.s m1) (Ms.sp m1) (Ms.en m1)))) (h1 := hMs m1) (by omega) (c_X12_here l hf m1 h2.1.ix) ?_
        refine And.intro (fun c3 => ?_) (fun c3 => ?_)
        · skip
          refine hJ 43 _ _ _ ?_
          exact And.intro rfl (DPs (F := (fun z => hMs z)) (s' := m1) (e4.trans ((q_X12_some_4 m fac r1 n4 m1).trans ((if_pos c2).trans (if_neg c3)))))
        · skip
          have he := here_lt c3 (by decide)
          refine And.intro True.intro ?_
          obtain ⟨r4, er4⟩ : ∃ z : Ms, m_X12_every (Ms.th m1, Ms.s m1, Ms.im m1, Ms.fr m1, Ms.hi m1, Ms.ac m1, (Ms.sp m1 + nI 1), Ms.en m1, Ms.wr m1, Ms.op m1, Ms.bb m1, Ms.tr m1, Ms.su m1, Ms.lf m1, Ms.lk m1, Ms.nx m1, Ms.bo m1, Ms.ra m1, Ms.ki m1, Ms.nu m1, Ms.tv m1) fac = z := ⟨_, rfl⟩
          have hr4 := c_X12_every l hf (Ms.th m1, Ms.s m1, Ms.im m1, Ms.fr m1, Ms.hi m1, Ms.ac m1, (Ms.sp m1 + nI 1), Ms.en m1, Ms.wr m1, Ms.op m1, Ms.bb m1, Ms.tr m1, Ms.su m1, Ms.lf m1, Ms.lk m1, Ms.nx m1, Ms.bo m1, Ms.ra m1, Ms.ki m1, Ms.nu m1, Ms.tv m1) fac hd hfac hef (by exact Pf.g0 hv2 w2 he rfl rfl rfl rfl rfl rfl)
          rw [er4] at hr4
          have h8 := fac_in (fac := (fun m => m_X12_every m fac)) er4 (ef_every hef) hv2 w2 he rfl rfl rfl rfl rfl rfl
          refine CALL_same (r := none) (h1 := hMs r4) (by omega) (hr4) ?_
          obtain ⟨r5, er5⟩ : ∃ z : Ms, m_X12_emits r4 (-nI 3) = z := ⟨_, rfl⟩
          have hr5 := c_X12_emits l hf r4 (-nI 3) h8.1.1.z
          rw [er5] at hr5
          have h9 := h8.1.em h8.2 (ef_emits_r er5)
          refine CALL_same (r := none) (h1 := hMs r5) (by omega) (hr5) ?_
          exact hD _ _ [0] _ _ (ih4 _ ⟨q + 1, by omega, h9⟩ (e4.trans ((q_X12_some_4 m fac r1 n4 m1).trans ((if_pos c2).trans ((if_pos c3).trans ((bindv_eq er4).trans (bindv_eq er5)))))))
  exact hD _ _ [0] _ _ (L4 102 _ ⟨0, rfl, hP.pe h1⟩ (bindv_eq er1))
theorem ef_some_l (m : Ms) (fac : Ms → Ms) (x : Ms) {k : Nat} (hef : ∀ m, Pf k 0 m → Pe m (fac m)) : ∀ (n q : Nat) (m1 : Ms), n + q = 102 → Pf k q m1 → Pe m1 (l_X12_some_4 m fac x n m1) := by
  intro n
  induction n with
  | zero => intro q m1 h1 h2; have := h2.1.q; omega
  | succ n ih =>
    intro q m1 h1 h2
    rw [q_X12_some_4]
    by_cases w : Ms.wr m1 = 0
    · rw [if_pos w]
      by_cases c : m_X12_here (Ms.s m1) (Ms.sp m1) (Ms.en m1) = nI 124
      · rw [if_pos c]
        have he := here_lt c (by decide)
        have h8 := fac_in (fac := (fun m => m_X12_every m fac)) rfl (ef_every hef) h2 w he rfl rfl rfl rfl rfl rfl (t := (Ms.th m1, Ms.s m1, Ms.im m1, Ms.fr m1, Ms.hi m1, Ms.ac m1, (Ms.sp m1 + nI 1), Ms.en m1, Ms.wr m1, Ms.op m1, Ms.bb m1, Ms.tr m1, Ms.su m1, Ms.lf m1, Ms.lk m1, Ms.nx m1, Ms.bo m1, Ms.ra m1, Ms.ki m1, Ms.nu m1, Ms.tv m1))
        have g := h2.go1 w he rfl rfl rfl rfl rfl rfl (m' := (Ms.th m1, Ms.s m1, Ms.im m1, Ms.fr m1, Ms.hi m1, Ms.ac m1, (Ms.sp m1 + nI 1), Ms.en m1, Ms.wr m1, Ms.op m1, Ms.bb m1, Ms.tr m1, Ms.su m1, Ms.lf m1, Ms.lk m1, Ms.nx m1, Ms.bo m1, Ms.ra m1, Ms.ki m1, Ms.nu m1, Ms.tv m1))
        have p := (ef_every hef) _ g.1.z
        have h9 := h8.1.em h8.2 (ef_emits (x := (-nI 3)))
        refine Pe.tr ?_ (ih (q + 1) _ (by omega) h9)
        refine ⟨ef_emits.1.trans p.1, fun z => absurd w z, fun j q h => ?_⟩
        have h10 := p.2.2 (j + 1) (q + 1) (h.go1 he rfl rfl rfl rfl h.bw)
        exact (ef_emits.2.2 j q (h10.mono (by omega) (by omega)) (fun _ => h10.mono (by omega) (by omega)))
      · rw [if_neg c]; exact Pe.rf m1
    · rw [if_neg w]; exact Pe.rf m1
theorem ef_some {fac : Ms → Ms} {k : Nat} (hef : ∀ m, Pf k 0 m → Pe m (fac m)) : ∀ m, Pf k 0 m → Pe m (m_X12_some m fac) := fun m h => ((ef_every hef) m h).tr (ef_some_l m fac _ hef 102 0 _ rfl (h.pe ((ef_every hef) m h)))
end
