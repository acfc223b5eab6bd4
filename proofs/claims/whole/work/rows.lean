section
-- ===== PART A: goes FIRST, ahead of the names: the tables' words, and 'selects' of the private methods out of them =====
/-- a private method of a class that the tables say can be made, by its rows of tables_1 -/
def lw_okq (q : MethodName × Nat) : Prop := (q.1.cls ≠ "java/lang/invoke/MethodHandle" ∧ q.1.cls ≠ "java/lang/invoke/VarHandle") ∧ Cond.instantiable q.1.cls q.2 ∈ tables_1 ∧ Cond.privateMethod q.1 ∈ tables_1 ∧ Cond.instanceMethod q.1 ∈ tables_1
theorem lw_p0 : lw_okq (⟨"UrchinSchool$Ledge", "advance", "()V"⟩, 10) := ⟨⟨by decide +kernel, by decide +kernel⟩, List.mem_of_getElem? (i := 265) (by decide +kernel), List.mem_of_getElem? (i := 344) (by decide +kernel), List.mem_of_getElem? (i := 345) (by decide +kernel)⟩
theorem lw_p1 : lw_okq (⟨"UrchinSchool$Ledge", "readClause", "()Z"⟩, 10) := ⟨⟨by decide +kernel, by decide +kernel⟩, List.mem_of_getElem? (i := 265) (by decide +kernel), List.mem_of_getElem? (i := 348) (by decide +kernel), List.mem_of_getElem? (i := 349) (by decide +kernel)⟩
theorem lw_p2 : lw_okq (⟨"UrchinSchool$Ledge", "takeWord", "(Ljava/lang/String;)Z"⟩, 10) := ⟨⟨by decide +kernel, by decide +kernel⟩, List.mem_of_getElem? (i := 265) (by decide +kernel), List.mem_of_getElem? (i := 359) (by decide +kernel), List.mem_of_getElem? (i := 360) (by decide +kernel)⟩
theorem lw_p3 : lw_okq (⟨"UrchinSchool$Ledge", "take", "(I)Z"⟩, 10) := ⟨⟨by decide +kernel, by decide +kernel⟩, List.mem_of_getElem? (i := 265) (by decide +kernel), List.mem_of_getElem? (i := 411) (by decide +kernel), List.mem_of_getElem? (i := 412) (by decide +kernel)⟩
theorem lw_p4 : lw_okq (⟨"UrchinSchool$Ledge", "readNumber", "()Z"⟩, 10) := ⟨⟨by decide +kernel, by decide +kernel⟩, List.mem_of_getElem? (i := 265) (by decide +kernel), List.mem_of_getElem? (i := 415) (by decide +kernel), List.mem_of_getElem? (i := 416) (by decide +kernel)⟩
theorem lw_p5 : lw_okq (⟨"UrchinSchool$Ledge", "readEither", "(I)Z"⟩, 10) := ⟨⟨by decide +kernel, by decide +kernel⟩, List.mem_of_getElem? (i := 265) (by decide +kernel), List.mem_of_getElem? (i := 422) (by decide +kernel), List.mem_of_getElem? (i := 423) (by decide +kernel)⟩
theorem lw_p6 : lw_okq (⟨"UrchinSchool$Ledge", "readBoth", "(I)Z"⟩, 10) := ⟨⟨by decide +kernel, by decide +kernel⟩, List.mem_of_getElem? (i := 265) (by decide +kernel), List.mem_of_getElem? (i := 426) (by decide +kernel), List.mem_of_getElem? (i := 427) (by decide +kernel)⟩
theorem lw_p7 : lw_okq (⟨"UrchinSchool$Ledge", "readPart", "(I)Z"⟩, 10) := ⟨⟨by decide +kernel, by decide +kernel⟩, List.mem_of_getElem? (i := 265) (by decide +kernel), List.mem_of_getElem? (i := 430) (by decide +kernel), List.mem_of_getElem? (i := 431) (by decide +kernel)⟩
theorem lw_p8 : lw_okq (⟨"UrchinSchool$Ledge", "readTest", "()Z"⟩, 10) := ⟨⟨by decide +kernel, by decide +kernel⟩, List.mem_of_getElem? (i := 265) (by decide +kernel), List.mem_of_getElem? (i := 434) (by decide +kernel), List.mem_of_getElem? (i := 435) (by decide +kernel)⟩
theorem lw_p9 : lw_okq (⟨"UrchinSchool$Ledge", "put", "(I)Z"⟩, 10) := ⟨⟨by decide +kernel, by decide +kernel⟩, List.mem_of_getElem? (i := 265) (by decide +kernel), List.mem_of_getElem? (i := 500) (by decide +kernel), List.mem_of_getElem? (i := 501) (by decide +kernel)⟩
theorem lw_p10 : lw_okq (⟨"UrchinSchool", "holding", "()LUrchinSchool$Ledge;"⟩, 8) := ⟨⟨by decide +kernel, by decide +kernel⟩, List.mem_of_getElem? (i := 24) (by decide +kernel), List.mem_of_getElem? (i := 537) (by decide +kernel), List.mem_of_getElem? (i := 538) (by decide +kernel)⟩
theorem lw_p11 : lw_okq (⟨"UrchinSchool$Heeds", "look", "(LUrchinSchool$School;II)V"⟩, 11) := ⟨⟨by decide +kernel, by decide +kernel⟩, List.mem_of_getElem? (i := 123) (by decide +kernel), List.mem_of_getElem? (i := 545) (by decide +kernel), List.mem_of_getElem? (i := 546) (by decide +kernel)⟩
theorem lw_p12 : lw_okq (⟨"UrchinSchool$School", "knownBy", "(I)I"⟩, 14) := ⟨⟨by decide +kernel, by decide +kernel⟩, List.mem_of_getElem? (i := 32) (by decide +kernel), List.mem_of_getElem? (i := 638) (by decide +kernel), List.mem_of_getElem? (i := 639) (by decide +kernel)⟩
theorem lw_p13 : lw_okq (⟨"UrchinSchool", "toldLesson", "(I)I"⟩, 8) := ⟨⟨by decide +kernel, by decide +kernel⟩, List.mem_of_getElem? (i := 24) (by decide +kernel), List.mem_of_getElem? (i := 642) (by decide +kernel), List.mem_of_getElem? (i := 643) (by decide +kernel)⟩
theorem lw_p14 : lw_okq (⟨"UrchinSchool", "go", "(LUrchinSchool$School;I)V"⟩, 8) := ⟨⟨by decide +kernel, by decide +kernel⟩, List.mem_of_getElem? (i := 24) (by decide +kernel), List.mem_of_getElem? (i := 660) (by decide +kernel), List.mem_of_getElem? (i := 661) (by decide +kernel)⟩
theorem lw_p15 : lw_okq (⟨"UrchinSchool$Heeds", "weigh", "(LUrchinSchool$School;LUrchinSchool$Ledge;I)I"⟩, 11) := ⟨⟨by decide +kernel, by decide +kernel⟩, List.mem_of_getElem? (i := 123) (by decide +kernel), List.mem_of_getElem? (i := 677) (by decide +kernel), List.mem_of_getElem? (i := 678) (by decide +kernel)⟩
def lw_privs_1 : List (MethodName × Nat) := [(⟨"UrchinSchool$Ledge", "advance", "()V"⟩, 10), (⟨"UrchinSchool$Ledge", "readClause", "()Z"⟩, 10), (⟨"UrchinSchool$Ledge", "takeWord", "(Ljava/lang/String;)Z"⟩, 10), (⟨"UrchinSchool$Ledge", "take", "(I)Z"⟩, 10), (⟨"UrchinSchool$Ledge", "readNumber", "()Z"⟩, 10), (⟨"UrchinSchool$Ledge", "readEither", "(I)Z"⟩, 10), (⟨"UrchinSchool$Ledge", "readBoth", "(I)Z"⟩, 10), (⟨"UrchinSchool$Ledge", "readPart", "(I)Z"⟩, 10), (⟨"UrchinSchool$Ledge", "readTest", "()Z"⟩, 10), (⟨"UrchinSchool$Ledge", "put", "(I)Z"⟩, 10), (⟨"UrchinSchool", "holding", "()LUrchinSchool$Ledge;"⟩, 8), (⟨"UrchinSchool$Heeds", "look", "(LUrchinSchool$School;II)V"⟩, 11), (⟨"UrchinSchool$School", "knownBy", "(I)I"⟩, 14), (⟨"UrchinSchool", "toldLesson", "(I)I"⟩, 8), (⟨"UrchinSchool", "go", "(LUrchinSchool$School;I)V"⟩, 8), (⟨"UrchinSchool$Heeds", "weigh", "(LUrchinSchool$School;LUrchinSchool$Ledge;I)I"⟩, 11)]
theorem lw_r1 : ∀ q ∈ lw_privs_1, lw_okq q := List.forall_mem_cons.mpr ⟨lw_p0, List.forall_mem_cons.mpr ⟨lw_p1, List.forall_mem_cons.mpr ⟨lw_p2, List.forall_mem_cons.mpr ⟨lw_p3, List.forall_mem_cons.mpr ⟨lw_p4, List.forall_mem_cons.mpr ⟨lw_p5, List.forall_mem_cons.mpr ⟨lw_p6, List.forall_mem_cons.mpr ⟨lw_p7, List.forall_mem_cons.mpr ⟨lw_p8, List.forall_mem_cons.mpr ⟨lw_p9, List.forall_mem_cons.mpr ⟨lw_p10, List.forall_mem_cons.mpr ⟨lw_p11, List.forall_mem_cons.mpr ⟨lw_p12, List.forall_mem_cons.mpr ⟨lw_p13, List.forall_mem_cons.mpr ⟨lw_p14, List.forall_mem_cons.mpr ⟨lw_p15, fun _ h => absurd h List.not_mem_nil⟩⟩⟩⟩⟩⟩⟩⟩⟩⟩⟩⟩⟩⟩⟩⟩
theorem lw_p16 : lw_okq (⟨"UrchinSchool", "tidesAheadWith", "(I)I"⟩, 8) := ⟨⟨by decide +kernel, by decide +kernel⟩, List.mem_of_getElem? (i := 24) (by decide +kernel), List.mem_of_getElem? (i := 699) (by decide +kernel), List.mem_of_getElem? (i := 700) (by decide +kernel)⟩
theorem lw_p17 : lw_okq (⟨"UrchinSchool", "heldIfTaught", "(II)I"⟩, 8) := ⟨⟨by decide +kernel, by decide +kernel⟩, List.mem_of_getElem? (i := 24) (by decide +kernel), List.mem_of_getElem? (i := 707) (by decide +kernel), List.mem_of_getElem? (i := 708) (by decide +kernel)⟩
theorem lw_p18 : lw_okq (⟨"UrchinSchool", "tidesIfTold", "(II)I"⟩, 8) := ⟨⟨by decide +kernel, by decide +kernel⟩, List.mem_of_getElem? (i := 24) (by decide +kernel), List.mem_of_getElem? (i := 718) (by decide +kernel), List.mem_of_getElem? (i := 719) (by decide +kernel)⟩
theorem lw_p19 : lw_okq (⟨"UrchinSchool", "seenIsSo", "()Z"⟩, 8) := ⟨⟨by decide +kernel, by decide +kernel⟩, List.mem_of_getElem? (i := 24) (by decide +kernel), List.mem_of_getElem? (i := 745) (by decide +kernel), List.mem_of_getElem? (i := 746) (by decide +kernel)⟩
theorem lw_p20 : lw_okq (⟨"UrchinSchool", "isPlan", "(II)Z"⟩, 8) := ⟨⟨by decide +kernel, by decide +kernel⟩, List.mem_of_getElem? (i := 24) (by decide +kernel), List.mem_of_getElem? (i := 786) (by decide +kernel), List.mem_of_getElem? (i := 787) (by decide +kernel)⟩
theorem lw_p21 : lw_okq (⟨"UrchinSchool", "doPlanned", "(II)V"⟩, 8) := ⟨⟨by decide +kernel, by decide +kernel⟩, List.mem_of_getElem? (i := 24) (by decide +kernel), List.mem_of_getElem? (i := 795) (by decide +kernel), List.mem_of_getElem? (i := 796) (by decide +kernel)⟩
theorem lw_p22 : lw_okq (⟨"UrchinSchoolModel", "clauseHere", "()V"⟩, 21) := ⟨⟨by decide +kernel, by decide +kernel⟩, List.mem_of_getElem? (i := 954) (by decide +kernel), List.mem_of_getElem? (i := 1035) (by decide +kernel), List.mem_of_getElem? (i := 1036) (by decide +kernel)⟩
theorem lw_p23 : lw_okq (⟨"UrchinSchoolModel", "here", "()I"⟩, 21) := ⟨⟨by decide +kernel, by decide +kernel⟩, List.mem_of_getElem? (i := 954) (by decide +kernel), List.mem_of_getElem? (i := 1039) (by decide +kernel), List.mem_of_getElem? (i := 1040) (by decide +kernel)⟩
theorem lw_p24 : lw_okq (⟨"UrchinSchoolModel", "tellsHere", "(ILjava/lang/String;)V"⟩, 21) := ⟨⟨by decide +kernel, by decide +kernel⟩, List.mem_of_getElem? (i := 954) (by decide +kernel), List.mem_of_getElem? (i := 1044) (by decide +kernel), List.mem_of_getElem? (i := 1045) (by decide +kernel)⟩
theorem lw_p25 : lw_okq (⟨"UrchinSchoolModel", "spells", "(Ljava/lang/String;)V"⟩, 21) := ⟨⟨by decide +kernel, by decide +kernel⟩, List.mem_of_getElem? (i := 954) (by decide +kernel), List.mem_of_getElem? (i := 1048) (by decide +kernel), List.mem_of_getElem? (i := 1049) (by decide +kernel)⟩
theorem lw_p26 : lw_okq (⟨"UrchinSchoolModel", "must", "(I)V"⟩, 21) := ⟨⟨by decide +kernel, by decide +kernel⟩, List.mem_of_getElem? (i := 954) (by decide +kernel), List.mem_of_getElem? (i := 1054) (by decide +kernel), List.mem_of_getElem? (i := 1055) (by decide +kernel)⟩
theorem lw_p27 : lw_okq (⟨"UrchinSchoolModel", "figures", "()I"⟩, 21) := ⟨⟨by decide +kernel, by decide +kernel⟩, List.mem_of_getElem? (i := 954) (by decide +kernel), List.mem_of_getElem? (i := 1058) (by decide +kernel), List.mem_of_getElem? (i := 1059) (by decide +kernel)⟩
theorem lw_p28 : lw_okq (⟨"UrchinSchoolModel", "much", "(ILjava/lang/String;)V"⟩, 21) := ⟨⟨by decide +kernel, by decide +kernel⟩, List.mem_of_getElem? (i := 954) (by decide +kernel), List.mem_of_getElem? (i := 1064) (by decide +kernel), List.mem_of_getElem? (i := 1065) (by decide +kernel)⟩
theorem lw_p29 : lw_okq (⟨"UrchinSchoolModel", "some", "()V"⟩, 21) := ⟨⟨by decide +kernel, by decide +kernel⟩, List.mem_of_getElem? (i := 954) (by decide +kernel), List.mem_of_getElem? (i := 1068) (by decide +kernel), List.mem_of_getElem? (i := 1069) (by decide +kernel)⟩
theorem lw_p30 : lw_okq (⟨"UrchinSchoolModel", "every", "()V"⟩, 21) := ⟨⟨by decide +kernel, by decide +kernel⟩, List.mem_of_getElem? (i := 954) (by decide +kernel), List.mem_of_getElem? (i := 1072) (by decide +kernel), List.mem_of_getElem? (i := 1073) (by decide +kernel)⟩
theorem lw_p31 : lw_okq (⟨"UrchinSchoolModel", "factor", "()V"⟩, 21) := ⟨⟨by decide +kernel, by decide +kernel⟩, List.mem_of_getElem? (i := 954) (by decide +kernel), List.mem_of_getElem? (i := 1076) (by decide +kernel), List.mem_of_getElem? (i := 1077) (by decide +kernel)⟩
def lw_privs_2 : List (MethodName × Nat) := [(⟨"UrchinSchool", "tidesAheadWith", "(I)I"⟩, 8), (⟨"UrchinSchool", "heldIfTaught", "(II)I"⟩, 8), (⟨"UrchinSchool", "tidesIfTold", "(II)I"⟩, 8), (⟨"UrchinSchool", "seenIsSo", "()Z"⟩, 8), (⟨"UrchinSchool", "isPlan", "(II)Z"⟩, 8), (⟨"UrchinSchool", "doPlanned", "(II)V"⟩, 8), (⟨"UrchinSchoolModel", "clauseHere", "()V"⟩, 21), (⟨"UrchinSchoolModel", "here", "()I"⟩, 21), (⟨"UrchinSchoolModel", "tellsHere", "(ILjava/lang/String;)V"⟩, 21), (⟨"UrchinSchoolModel", "spells", "(Ljava/lang/String;)V"⟩, 21), (⟨"UrchinSchoolModel", "must", "(I)V"⟩, 21), (⟨"UrchinSchoolModel", "figures", "()I"⟩, 21), (⟨"UrchinSchoolModel", "much", "(ILjava/lang/String;)V"⟩, 21), (⟨"UrchinSchoolModel", "some", "()V"⟩, 21), (⟨"UrchinSchoolModel", "every", "()V"⟩, 21), (⟨"UrchinSchoolModel", "factor", "()V"⟩, 21)]
theorem lw_r2 : ∀ q ∈ lw_privs_2, lw_okq q := List.forall_mem_cons.mpr ⟨lw_p16, List.forall_mem_cons.mpr ⟨lw_p17, List.forall_mem_cons.mpr ⟨lw_p18, List.forall_mem_cons.mpr ⟨lw_p19, List.forall_mem_cons.mpr ⟨lw_p20, List.forall_mem_cons.mpr ⟨lw_p21, List.forall_mem_cons.mpr ⟨lw_p22, List.forall_mem_cons.mpr ⟨lw_p23, List.forall_mem_cons.mpr ⟨lw_p24, List.forall_mem_cons.mpr ⟨lw_p25, List.forall_mem_cons.mpr ⟨lw_p26, List.forall_mem_cons.mpr ⟨lw_p27, List.forall_mem_cons.mpr ⟨lw_p28, List.forall_mem_cons.mpr ⟨lw_p29, List.forall_mem_cons.mpr ⟨lw_p30, List.forall_mem_cons.mpr ⟨lw_p31, fun _ h => absurd h List.not_mem_nil⟩⟩⟩⟩⟩⟩⟩⟩⟩⟩⟩⟩⟩⟩⟩⟩
theorem lw_p32 : lw_okq (⟨"UrchinSchoolModel", "emits", "(I)V"⟩, 21) := ⟨⟨by decide +kernel, by decide +kernel⟩, List.mem_of_getElem? (i := 954) (by decide +kernel), List.mem_of_getElem? (i := 1080) (by decide +kernel), List.mem_of_getElem? (i := 1081) (by decide +kernel)⟩
theorem lw_p33 : lw_okq (⟨"UrchinSchoolModel", "among", "(Ljava/lang/String;)I"⟩, 21) := ⟨⟨by decide +kernel, by decide +kernel⟩, List.mem_of_getElem? (i := 954) (by decide +kernel), List.mem_of_getElem? (i := 1085) (by decide +kernel), List.mem_of_getElem? (i := 1086) (by decide +kernel)⟩
theorem lw_p34 : lw_okq (⟨"UrchinSchoolModel", "isUrchin", "(I)Z"⟩, 21) := ⟨⟨by decide +kernel, by decide +kernel⟩, List.mem_of_getElem? (i := 954) (by decide +kernel), List.mem_of_getElem? (i := 1099) (by decide +kernel), List.mem_of_getElem? (i := 1100) (by decide +kernel)⟩
theorem lw_p35 : lw_okq (⟨"UrchinSchoolModel", "looksAnew", "()V"⟩, 21) := ⟨⟨by decide +kernel, by decide +kernel⟩, List.mem_of_getElem? (i := 954) (by decide +kernel), List.mem_of_getElem? (i := 1104) (by decide +kernel), List.mem_of_getElem? (i := 1105) (by decide +kernel)⟩
theorem lw_p36 : lw_okq (⟨"UrchinSchoolModel", "heedOf", "(II)I"⟩, 21) := ⟨⟨by decide +kernel, by decide +kernel⟩, List.mem_of_getElem? (i := 954) (by decide +kernel), List.mem_of_getElem? (i := 1111) (by decide +kernel), List.mem_of_getElem? (i := 1112) (by decide +kernel)⟩
theorem lw_p37 : lw_okq (⟨"UrchinSchoolModel", "sumOf", "(II)I"⟩, 21) := ⟨⟨by decide +kernel, by decide +kernel⟩, List.mem_of_getElem? (i := 954) (by decide +kernel), List.mem_of_getElem? (i := 1115) (by decide +kernel), List.mem_of_getElem? (i := 1116) (by decide +kernel)⟩
theorem lw_p38 : lw_okq (⟨"UrchinSchoolModel", "clausesOf", "(IIII)I"⟩, 21) := ⟨⟨by decide +kernel, by decide +kernel⟩, List.mem_of_getElem? (i := 954) (by decide +kernel), List.mem_of_getElem? (i := 1122) (by decide +kernel), List.mem_of_getElem? (i := 1123) (by decide +kernel)⟩
theorem lw_p39 : lw_okq (⟨"UrchinSchoolModel", "tellsOf", "(II)I"⟩, 21) := ⟨⟨by decide +kernel, by decide +kernel⟩, List.mem_of_getElem? (i := 954) (by decide +kernel), List.mem_of_getElem? (i := 1126) (by decide +kernel), List.mem_of_getElem? (i := 1127) (by decide +kernel)⟩
theorem lw_p40 : lw_okq (⟨"UrchinSchoolModel", "becomes", "(II)I"⟩, 21) := ⟨⟨by decide +kernel, by decide +kernel⟩, List.mem_of_getElem? (i := 954) (by decide +kernel), List.mem_of_getElem? (i := 1134) (by decide +kernel), List.mem_of_getElem? (i := 1135) (by decide +kernel)⟩
theorem lw_p41 : lw_okq (⟨"UrchinSchoolModel", "knownByAny", "()I"⟩, 21) := ⟨⟨by decide +kernel, by decide +kernel⟩, List.mem_of_getElem? (i := 954) (by decide +kernel), List.mem_of_getElem? (i := 1154) (by decide +kernel), List.mem_of_getElem? (i := 1155) (by decide +kernel)⟩
theorem lw_p42 : lw_okq (⟨"UrchinSchoolModel", "heldByAll", "()I"⟩, 21) := ⟨⟨by decide +kernel, by decide +kernel⟩, List.mem_of_getElem? (i := 954) (by decide +kernel), List.mem_of_getElem? (i := 1158) (by decide +kernel), List.mem_of_getElem? (i := 1159) (by decide +kernel)⟩
theorem lw_p43 : lw_okq (⟨"UrchinSchoolModel", "awayOnes", "()I"⟩, 21) := ⟨⟨by decide +kernel, by decide +kernel⟩, List.mem_of_getElem? (i := 954) (by decide +kernel), List.mem_of_getElem? (i := 1162) (by decide +kernel), List.mem_of_getElem? (i := 1163) (by decide +kernel)⟩
theorem lw_p44 : lw_okq (⟨"UrchinSchoolModel", "fewest", "()I"⟩, 21) := ⟨⟨by decide +kernel, by decide +kernel⟩, List.mem_of_getElem? (i := 954) (by decide +kernel), List.mem_of_getElem? (i := 1166) (by decide +kernel), List.mem_of_getElem? (i := 1167) (by decide +kernel)⟩
theorem lw_p45 : lw_okq (⟨"UrchinSchoolModel", "knownBy", "(I)I"⟩, 21) := ⟨⟨by decide +kernel, by decide +kernel⟩, List.mem_of_getElem? (i := 954) (by decide +kernel), List.mem_of_getElem? (i := 1170) (by decide +kernel), List.mem_of_getElem? (i := 1171) (by decide +kernel)⟩
theorem lw_p46 : lw_okq (⟨"UrchinSchoolModel", "goesOn", "(I)V"⟩, 21) := ⟨⟨by decide +kernel, by decide +kernel⟩, List.mem_of_getElem? (i := 954) (by decide +kernel), List.mem_of_getElem? (i := 1178) (by decide +kernel), List.mem_of_getElem? (i := 1179) (by decide +kernel)⟩
theorem lw_p47 : lw_okq (⟨"UrchinSchoolModel", "goes", "()V"⟩, 21) := ⟨⟨by decide +kernel, by decide +kernel⟩, List.mem_of_getElem? (i := 954) (by decide +kernel), List.mem_of_getElem? (i := 1182) (by decide +kernel), List.mem_of_getElem? (i := 1183) (by decide +kernel)⟩
def lw_privs_3 : List (MethodName × Nat) := [(⟨"UrchinSchoolModel", "emits", "(I)V"⟩, 21), (⟨"UrchinSchoolModel", "among", "(Ljava/lang/String;)I"⟩, 21), (⟨"UrchinSchoolModel", "isUrchin", "(I)Z"⟩, 21), (⟨"UrchinSchoolModel", "looksAnew", "()V"⟩, 21), (⟨"UrchinSchoolModel", "heedOf", "(II)I"⟩, 21), (⟨"UrchinSchoolModel", "sumOf", "(II)I"⟩, 21), (⟨"UrchinSchoolModel", "clausesOf", "(IIII)I"⟩, 21), (⟨"UrchinSchoolModel", "tellsOf", "(II)I"⟩, 21), (⟨"UrchinSchoolModel", "becomes", "(II)I"⟩, 21), (⟨"UrchinSchoolModel", "knownByAny", "()I"⟩, 21), (⟨"UrchinSchoolModel", "heldByAll", "()I"⟩, 21), (⟨"UrchinSchoolModel", "awayOnes", "()I"⟩, 21), (⟨"UrchinSchoolModel", "fewest", "()I"⟩, 21), (⟨"UrchinSchoolModel", "knownBy", "(I)I"⟩, 21), (⟨"UrchinSchoolModel", "goesOn", "(I)V"⟩, 21), (⟨"UrchinSchoolModel", "goes", "()V"⟩, 21)]
theorem lw_r3 : ∀ q ∈ lw_privs_3, lw_okq q := List.forall_mem_cons.mpr ⟨lw_p32, List.forall_mem_cons.mpr ⟨lw_p33, List.forall_mem_cons.mpr ⟨lw_p34, List.forall_mem_cons.mpr ⟨lw_p35, List.forall_mem_cons.mpr ⟨lw_p36, List.forall_mem_cons.mpr ⟨lw_p37, List.forall_mem_cons.mpr ⟨lw_p38, List.forall_mem_cons.mpr ⟨lw_p39, List.forall_mem_cons.mpr ⟨lw_p40, List.forall_mem_cons.mpr ⟨lw_p41, List.forall_mem_cons.mpr ⟨lw_p42, List.forall_mem_cons.mpr ⟨lw_p43, List.forall_mem_cons.mpr ⟨lw_p44, List.forall_mem_cons.mpr ⟨lw_p45, List.forall_mem_cons.mpr ⟨lw_p46, List.forall_mem_cons.mpr ⟨lw_p47, fun _ h => absurd h List.not_mem_nil⟩⟩⟩⟩⟩⟩⟩⟩⟩⟩⟩⟩⟩⟩⟩⟩
theorem lw_p48 : lw_okq (⟨"UrchinSchoolModel", "goesBy", "(I)V"⟩, 21) := ⟨⟨by decide +kernel, by decide +kernel⟩, List.mem_of_getElem? (i := 954) (by decide +kernel), List.mem_of_getElem? (i := 1186) (by decide +kernel), List.mem_of_getElem? (i := 1187) (by decide +kernel)⟩
theorem lw_p49 : lw_okq (⟨"UrchinSchoolModel", "knownNext", "(II)I"⟩, 21) := ⟨⟨by decide +kernel, by decide +kernel⟩, List.mem_of_getElem? (i := 954) (by decide +kernel), List.mem_of_getElem? (i := 1190) (by decide +kernel), List.mem_of_getElem? (i := 1191) (by decide +kernel)⟩
theorem lw_p50 : lw_okq (⟨"UrchinSchoolModel", "isKnownNext", "(III)Z"⟩, 21) := ⟨⟨by decide +kernel, by decide +kernel⟩, List.mem_of_getElem? (i := 954) (by decide +kernel), List.mem_of_getElem? (i := 1194) (by decide +kernel), List.mem_of_getElem? (i := 1195) (by decide +kernel)⟩
theorem lw_p51 : lw_okq (⟨"UrchinSchoolModel", "isPassed", "(II)Z"⟩, 21) := ⟨⟨by decide +kernel, by decide +kernel⟩, List.mem_of_getElem? (i := 954) (by decide +kernel), List.mem_of_getElem? (i := 1198) (by decide +kernel), List.mem_of_getElem? (i := 1199) (by decide +kernel)⟩
theorem lw_p52 : lw_okq (⟨"UrchinSchoolModel", "keeps", "()V"⟩, 21) := ⟨⟨by decide +kernel, by decide +kernel⟩, List.mem_of_getElem? (i := 954) (by decide +kernel), List.mem_of_getElem? (i := 1206) (by decide +kernel), List.mem_of_getElem? (i := 1207) (by decide +kernel)⟩
theorem lw_p53 : lw_okq (⟨"UrchinSchoolModel", "goesBack", "()V"⟩, 21) := ⟨⟨by decide +kernel, by decide +kernel⟩, List.mem_of_getElem? (i := 954) (by decide +kernel), List.mem_of_getElem? (i := 1210) (by decide +kernel), List.mem_of_getElem? (i := 1211) (by decide +kernel)⟩
theorem lw_p54 : lw_okq (⟨"UrchinSchoolModel", "tidesKnown", "(I)I"⟩, 21) := ⟨⟨by decide +kernel, by decide +kernel⟩, List.mem_of_getElem? (i := 954) (by decide +kernel), List.mem_of_getElem? (i := 1218) (by decide +kernel), List.mem_of_getElem? (i := 1219) (by decide +kernel)⟩
theorem lw_p55 : lw_okq (⟨"UrchinSchoolModel", "heldBehind", "(II)I"⟩, 21) := ⟨⟨by decide +kernel, by decide +kernel⟩, List.mem_of_getElem? (i := 954) (by decide +kernel), List.mem_of_getElem? (i := 1230) (by decide +kernel), List.mem_of_getElem? (i := 1231) (by decide +kernel)⟩
theorem lw_p56 : lw_okq (⟨"UrchinSchoolModel", "fitting", "(III)I"⟩, 21) := ⟨⟨by decide +kernel, by decide +kernel⟩, List.mem_of_getElem? (i := 954) (by decide +kernel), List.mem_of_getElem? (i := 1242) (by decide +kernel), List.mem_of_getElem? (i := 1243) (by decide +kernel)⟩
theorem lw_p57 : lw_okq (⟨"UrchinSchoolModel", "areAsSeen", "()Z"⟩, 21) := ⟨⟨by decide +kernel, by decide +kernel⟩, List.mem_of_getElem? (i := 954) (by decide +kernel), List.mem_of_getElem? (i := 1246) (by decide +kernel), List.mem_of_getElem? (i := 1247) (by decide +kernel)⟩
theorem lw_p58 : lw_okq (⟨"UrchinSchoolModel", "isAsSeen", "(I)Z"⟩, 21) := ⟨⟨by decide +kernel, by decide +kernel⟩, List.mem_of_getElem? (i := 954) (by decide +kernel), List.mem_of_getElem? (i := 1250) (by decide +kernel), List.mem_of_getElem? (i := 1251) (by decide +kernel)⟩
theorem lw_p59 : lw_okq (⟨"UrchinSchoolModel", "isPlan", "(II)Z"⟩, 21) := ⟨⟨by decide +kernel, by decide +kernel⟩, List.mem_of_getElem? (i := 954) (by decide +kernel), List.mem_of_getElem? (i := 1274) (by decide +kernel), List.mem_of_getElem? (i := 1275) (by decide +kernel)⟩
theorem lw_p60 : lw_okq (⟨"UrchinSchoolModel", "does", "(II)V"⟩, 21) := ⟨⟨by decide +kernel, by decide +kernel⟩, List.mem_of_getElem? (i := 954) (by decide +kernel), List.mem_of_getElem? (i := 1282) (by decide +kernel), List.mem_of_getElem? (i := 1283) (by decide +kernel)⟩
theorem lw_p61 : lw_okq (⟨"UrchinSchoolModel", "leansActs", "(I)I"⟩, 21) := ⟨⟨by decide +kernel, by decide +kernel⟩, List.mem_of_getElem? (i := 954) (by decide +kernel), List.mem_of_getElem? (i := 1298) (by decide +kernel), List.mem_of_getElem? (i := 1299) (by decide +kernel)⟩
theorem lw_p62 : lw_okq (⟨"UrchinSchoolModel", "ranBody", "(I)V"⟩, 21) := ⟨⟨by decide +kernel, by decide +kernel⟩, List.mem_of_getElem? (i := 954) (by decide +kernel), List.mem_of_getElem? (i := 1305) (by decide +kernel), List.mem_of_getElem? (i := 1306) (by decide +kernel)⟩
theorem lw_p63 : lw_okq (⟨"UrchinSchoolModel", "plainLeans", "(I)I"⟩, 21) := ⟨⟨by decide +kernel, by decide +kernel⟩, List.mem_of_getElem? (i := 954) (by decide +kernel), List.mem_of_getElem? (i := 1309) (by decide +kernel), List.mem_of_getElem? (i := 1310) (by decide +kernel)⟩
def lw_privs_4 : List (MethodName × Nat) := [(⟨"UrchinSchoolModel", "goesBy", "(I)V"⟩, 21), (⟨"UrchinSchoolModel", "knownNext", "(II)I"⟩, 21), (⟨"UrchinSchoolModel", "isKnownNext", "(III)Z"⟩, 21), (⟨"UrchinSchoolModel", "isPassed", "(II)Z"⟩, 21), (⟨"UrchinSchoolModel", "keeps", "()V"⟩, 21), (⟨"UrchinSchoolModel", "goesBack", "()V"⟩, 21), (⟨"UrchinSchoolModel", "tidesKnown", "(I)I"⟩, 21), (⟨"UrchinSchoolModel", "heldBehind", "(II)I"⟩, 21), (⟨"UrchinSchoolModel", "fitting", "(III)I"⟩, 21), (⟨"UrchinSchoolModel", "areAsSeen", "()Z"⟩, 21), (⟨"UrchinSchoolModel", "isAsSeen", "(I)Z"⟩, 21), (⟨"UrchinSchoolModel", "isPlan", "(II)Z"⟩, 21), (⟨"UrchinSchoolModel", "does", "(II)V"⟩, 21), (⟨"UrchinSchoolModel", "leansActs", "(I)I"⟩, 21), (⟨"UrchinSchoolModel", "ranBody", "(I)V"⟩, 21), (⟨"UrchinSchoolModel", "plainLeans", "(I)I"⟩, 21)]
theorem lw_r4 : ∀ q ∈ lw_privs_4, lw_okq q := List.forall_mem_cons.mpr ⟨lw_p48, List.forall_mem_cons.mpr ⟨lw_p49, List.forall_mem_cons.mpr ⟨lw_p50, List.forall_mem_cons.mpr ⟨lw_p51, List.forall_mem_cons.mpr ⟨lw_p52, List.forall_mem_cons.mpr ⟨lw_p53, List.forall_mem_cons.mpr ⟨lw_p54, List.forall_mem_cons.mpr ⟨lw_p55, List.forall_mem_cons.mpr ⟨lw_p56, List.forall_mem_cons.mpr ⟨lw_p57, List.forall_mem_cons.mpr ⟨lw_p58, List.forall_mem_cons.mpr ⟨lw_p59, List.forall_mem_cons.mpr ⟨lw_p60, List.forall_mem_cons.mpr ⟨lw_p61, List.forall_mem_cons.mpr ⟨lw_p62, List.forall_mem_cons.mpr ⟨lw_p63, fun _ h => absurd h List.not_mem_nil⟩⟩⟩⟩⟩⟩⟩⟩⟩⟩⟩⟩⟩⟩⟩⟩
theorem lw_p64 : lw_okq (⟨"UrchinSchoolModel", "saysActs", "(I)I"⟩, 21) := ⟨⟨by decide +kernel, by decide +kernel⟩, List.mem_of_getElem? (i := 954) (by decide +kernel), List.mem_of_getElem? (i := 1313) (by decide +kernel), List.mem_of_getElem? (i := 1314) (by decide +kernel)⟩
theorem lw_p65 : lw_okq (⟨"UrchinSchoolModel", "plainSays", "(I)I"⟩, 21) := ⟨⟨by decide +kernel, by decide +kernel⟩, List.mem_of_getElem? (i := 954) (by decide +kernel), List.mem_of_getElem? (i := 1317) (by decide +kernel), List.mem_of_getElem? (i := 1318) (by decide +kernel)⟩
theorem lw_p66 : lw_okq (⟨"UrchinSchoolModel", "bristlesActs", "(I)I"⟩, 21) := ⟨⟨by decide +kernel, by decide +kernel⟩, List.mem_of_getElem? (i := 954) (by decide +kernel), List.mem_of_getElem? (i := 1321) (by decide +kernel), List.mem_of_getElem? (i := 1322) (by decide +kernel)⟩
theorem lw_p67 : lw_okq (⟨"UrchinSchoolModel", "plainTelling", "(I)I"⟩, 21) := ⟨⟨by decide +kernel, by decide +kernel⟩, List.mem_of_getElem? (i := 954) (by decide +kernel), List.mem_of_getElem? (i := 1325) (by decide +kernel), List.mem_of_getElem? (i := 1326) (by decide +kernel)⟩
def lw_privs_5 : List (MethodName × Nat) := [(⟨"UrchinSchoolModel", "saysActs", "(I)I"⟩, 21), (⟨"UrchinSchoolModel", "plainSays", "(I)I"⟩, 21), (⟨"UrchinSchoolModel", "bristlesActs", "(I)I"⟩, 21), (⟨"UrchinSchoolModel", "plainTelling", "(I)I"⟩, 21)]
theorem lw_r5 : ∀ q ∈ lw_privs_5, lw_okq q := List.forall_mem_cons.mpr ⟨lw_p64, List.forall_mem_cons.mpr ⟨lw_p65, List.forall_mem_cons.mpr ⟨lw_p66, List.forall_mem_cons.mpr ⟨lw_p67, fun _ h => absurd h List.not_mem_nil⟩⟩⟩⟩
def lw_privs : List (MethodName × Nat) := lw_privs_1 ++ (lw_privs_2 ++ (lw_privs_3 ++ (lw_privs_4 ++ (lw_privs_5))))
def lw_tbl : List Cond := k2_sels lw_privs ++ tables_1
theorem lw_privs_ok : ∀ q ∈ lw_privs, lw_okq q := by
  show ∀ q ∈ lw_privs_1 ++ (lw_privs_2 ++ (lw_privs_3 ++ (lw_privs_4 ++ (lw_privs_5)))), lw_okq q
  exact List.forall_mem_append.mpr ⟨lw_r1, List.forall_mem_append.mpr ⟨lw_r2, List.forall_mem_append.mpr ⟨lw_r3, List.forall_mem_append.mpr ⟨lw_r4, lw_r5⟩⟩⟩⟩
-- ===== end of PART A; then your names; then what follows =====
end
section
/-! THE ABSTRACT MACHINE: a frame whose references are places in a list of cells. 'xs code' says, for what stands ahead of it, what must hold so that the method goes on well: a value computed by unfolding alone. J: where the walk may stand (a jump), RT: what is returned, CT: contracts of what is called. -/
abbrev AE : Type := (Nat × vp_A) ⊕ (Nat × List Value)
abbrev LV : Type := List (Nat × Value)
abbrev JP : Type := Nat → LV → List Value → List AE → Prop
abbrev RP : Type := Option Value → List AE → Prop
/-- rank, number of the method, arguments, cells, what holds behind it -/
abbrev CTP : Type := Nat → Nat → List Value → List AE → RP → Prop
/-- fields: entry ↦ (place, kind of type, kinds of cells); calls: entry ↦ (kind, arguments, (receiver's kind, method)); constants; statics; fields and arrays that nobody writes -/
abbrev Pool : Type := List (Nat × Nat × Nat × List Nat) × List (Nat × Nat × Nat × List (Nat × Nat)) × List (Nat × Value) × List (Nat × Value) × List (Nat × Value) × List (Nat × Nat × Nat × (Nat → Int32))
abbrev Ins : Type := Nat × Instr × Nat
def a_look {α : Type} : List (Nat × α) → Nat → Option α
  | [], _ => none
  | (j, v) :: t, i => bif Nat.beq j i then some v else a_look t i
theorem a_look_mem {α : Type} : ∀ {l : List (Nat × α)} {i : Nat} {v : α}, a_look l i = some v → (i, v) ∈ l
  | [], _, _, h => by simp [a_look] at h
  | (j, w) :: t, i, v, h => by
    cases hb : Nat.beq j i with
    | true =>
      simp only [a_look, hb, cond_true, Option.some.injEq] at h
      rw [Nat.eq_of_beq_eq_true hb, h]
      exact List.mem_cons_self
    | false =>
      simp only [a_look, hb, cond_false] at h
      exact List.mem_cons_of_mem _ (a_look_mem h)
def a_mem : Nat → List Nat → Bool
  | _, [] => false
  | i, j :: t => bif Nat.beq j i then true else a_mem i t
theorem a_mem_mem : ∀ {i : Nat} {l : List Nat}, a_mem i l = true → i ∈ l
  | _, [], h => by simp [a_mem] at h
  | i, j :: t, h => by
    cases hb : Nat.beq j i with
    | true => rw [Nat.eq_of_beq_eq_true hb]; exact List.mem_cons_self
    | false =>
      simp only [a_mem, hb, cond_false] at h
      exact List.mem_cons_of_mem _ (a_mem_mem h)
def l_get {α : Type} : List α → Nat → Option α
  | [], _ => none
  | c :: _, 0 => some c
  | _ :: t, n + 1 => l_get t n
theorem l_get_eq {α : Type} : ∀ (l : List α) (n : Nat), l_get l n = l[n]?
  | [], n => by simp [l_get]
  | c :: _, 0 => by simp [l_get]
  | _ :: t, n + 1 => by simp [l_get, l_get_eq t n]
/-- a list with one entry anew, handed on in full -/
def l_put {α : Type} : List α → Nat → α → (List α → Prop) → Prop
  | [], _, _, k => k []
  | _ :: t, 0, v, k => k (v :: t)
  | c :: t, n + 1, v, k => l_put t n v (fun t' => k (c :: t'))
theorem l_put_eq {α : Type} : ∀ (l : List α) (n : Nat) (v : α) (k : List α → Prop), l_put l n v k → k (l.set n v)
  | [], _, _, _, h => h
  | _ :: _, 0, _, _, h => h
  | c :: t, n + 1, v, k, h => l_put_eq t n v (fun t' => k (c :: t')) h
def v_two : Value → Bool
  | .long _ => true
  | .double _ => true
  | _ => false
theorem v_two_eq (v : Value) : v_two v = (v.category == 2) := by cases v <;> rfl
theorem nb_eq (i j : Nat) : Nat.beq i j = (i == j) := by
  cases h : Nat.beq i j with
  | true => rw [Nat.eq_of_beq_eq_true h]; simp
  | false => have := Nat.ne_of_beq_eq_false h; simp [this]
/-- locals without place i -/
def ls_out : LV → Nat → (LV → Prop) → Prop
  | [], _, k => k []
  | (j, w) :: t, i, k => bif (Nat.beq j i || (Nat.beq (j + 1) i && v_two w)) then ls_out t i k else ls_out t i (fun t' => k ((j, w) :: t'))
theorem ls_out_eq : ∀ (l : LV) (i : Nat) (k : LV → Prop), ls_out l i k → k (l.filter (fun q => !(q.1 == i) && !(q.1 + 1 == i && q.2.category == 2)))
  | [], _, _, h => h
  | (j, w) :: t, i, k, h => by
    have e1 : Nat.beq j i = (j == i) := nb_eq _ _
    have e2 : Nat.beq (j + 1) i = (j + 1 == i) := nb_eq _ _
    unfold ls_out at h
    rw [e1, e2, v_two_eq] at h
    rw [List.filter_cons]
    cases hb : ((j == i) || (j + 1 == i && w.category == 2)) with
    | true =>
      rw [hb] at h
      have hn : (!(j == i) && !(j + 1 == i && w.category == 2)) = false := by rw [← Bool.not_or, hb]; rfl
      simp only [hn, Bool.false_eq_true, if_false]
      exact ls_out_eq t i k h
    | false =>
      rw [hb] at h
      have hn : (!(j == i) && !(j + 1 == i && w.category == 2)) = true := by rw [← Bool.not_or, hb]; rfl
      simp only [hn, if_true]
      exact ls_out_eq t i (fun t' => k ((j, w) :: t')) h
def ls_out2 : LV → Nat → (LV → Prop) → Prop
  | [], _, k => k []
  | (j, w) :: t, i, k => bif (Nat.beq j i || (Nat.beq j (i + 1) || (Nat.beq (j + 1) i && v_two w))) then ls_out2 t i k else ls_out2 t i (fun t' => k ((j, w) :: t'))
theorem ls_out2_eq : ∀ (l : LV) (i : Nat) (k : LV → Prop), ls_out2 l i k → k (l.filter (fun q => !(q.1 == i) && (!(q.1 == i + 1) && !(q.1 + 1 == i && q.2.category == 2))))
  | [], _, _, h => h
  | (j, w) :: t, i, k, h => by
    have e1 : Nat.beq j i = (j == i) := nb_eq _ _
    have e3 : Nat.beq j (i + 1) = (j == i + 1) := nb_eq _ _
    have e2 : Nat.beq (j + 1) i = (j + 1 == i) := nb_eq _ _
    unfold ls_out2 at h
    rw [e1, e2, e3, v_two_eq] at h
    rw [List.filter_cons]
    cases hb : ((j == i) || ((j == i + 1) || (j + 1 == i && w.category == 2))) with
    | true =>
      rw [hb] at h
      have hn : (!(j == i) && (!(j == i + 1) && !(j + 1 == i && w.category == 2))) = false := by rw [← Bool.not_or, ← Bool.not_or, hb]; rfl
      simp only [hn, Bool.false_eq_true, if_false]
      exact ls_out2_eq t i k h
    | false =>
      rw [hb] at h
      have hn : (!(j == i) && (!(j == i + 1) && !(j + 1 == i && w.category == 2))) = true := by rw [← Bool.not_or, ← Bool.not_or, hb]; rfl
      simp only [hn, if_true]
      exact ls_out2_eq t i (fun t' => k ((j, w) :: t')) h
/-- renaming of places: by a list; what lies beyond it keeps its number -/
def r_n (em : List Nat) (i : Nat) : Nat := match l_get em i with
  | some j => j
  | none => i
def r_v (em : List Nat) : Value → Value
  | .ref i => .ref (r_n em i)
  | v => v
def r_o (em : List Nat) : Option Value → Option Value
  | some v => some (r_v em v)
  | none => none
def r_e (em : List Nat) : AE → AE
  | .inl (t, n, .inr (.inr (.inr (.inr f)))) => .inl (t, n, .inr (.inr (.inr (.inr (fun j => (f j).map (r_n em))))))
  | .inl a => .inl a
  | .inr (ci, fs) => .inr (ci, fs.map (r_v em))
/-- the cells at the places em are those, renamed -/
def w_sub (h : List AE) (em : List Nat) (h0 : List AE) : Prop := em.map (fun i => l_get h i) = h0.map (fun c => some (r_e em c))
/-- they are put back -/
def w_back : List AE → List Nat → List AE → List AE
  | h, i :: em, c :: h1 => w_back (h.set i c) em h1
  | h, _, _ => h
/-- a call: by the whole world, or by a part of it -/
def CALL (CT : CTP) (d j : Nat) (as : List Value) (h : List AE) (k : Option Value → List AE → Prop) : Prop :=
  (∃ (d1 : Nat) (P : RP), d1 < d ∧ CT d1 j as h P ∧ ∀ r h1, P r h1 → h1.length = h.length → k r h1) ∨
  (∃ (d1 : Nat) (em : List Nat) (as0 : List Value) (h0 : List AE) (P : RP), d1 < d ∧ CT d1 j as0 h0 P ∧ as0.map (r_v em) = as ∧ w_sub h em h0 ∧ em.Nodup ∧ em.length ≤ 1000 ∧
    ∀ r h1, P r h1 → h1.length = h0.length → k (r_o em r) (w_back h em (h1.map (r_e em))))
/-- the last n of the stack, in the order of a call -/
def x_pop : Nat → List Value → List Value → Option (List Value × List Value)
  | 0, st, acc => some (acc, st)
  | n + 1, v :: st, acc => x_pop n st (v :: acc)
  | _ + 1, [], _ => none
theorem x_pop_eq : ∀ (n : Nat) (st acc as rest : List Value), x_pop n st acc = some (as, rest) → ∃ a1, as = a1 ++ acc ∧ st = a1.reverse ++ rest ∧ a1.length = n
  | 0, st, acc, as, rest, h => by
    simp only [x_pop, Option.some.injEq, Prod.mk.injEq] at h
    exact ⟨[], by rw [← h.1]; rfl, by rw [← h.2]; rfl, rfl⟩
  | n + 1, [], acc, as, rest, h => by simp [x_pop] at h
  | n + 1, v :: st, acc, as, rest, h => by
    obtain ⟨a1, h1, h2, h3⟩ := x_pop_eq n st (v :: acc) as rest h
    exact ⟨a1 ++ [v], by rw [h1]; simp, by rw [h2]; simp, by simp [h3]⟩
def x_cat : List Value → Nat
  | [] => 0
  | v :: t => (bif v_two v then 2 else 1) + x_cat t
theorem x_cat_eq : ∀ l : List Value, x_cat l = (l.map fun v => v.category).sum
  | [] => rfl
  | v :: t => by
    rw [x_cat, List.map_cons, List.sum_cons, x_cat_eq t]
    cases v <;> rfl
def x_push : Option Value → List Value → List Value
  | none, st => st
  | some v, st => v :: st
def x_int : Int → (Int32 → Prop) → Prop
  | .ofNat n, k => k (nI n)
  | .negSucc n, k => k (-(nI (n + 1)))
def x_sml (b : Nat) : Int → (Int32 → Prop) → Prop
  | .ofNat n, k => bif Nat.blt n b then k (nI n) else False
  | .negSucc n, k => bif Nat.blt n b then k (-(nI (n + 1))) else False
theorem x_neg (n : Nat) : Int32.ofInt (Int.negSucc n) = -(nI (n + 1)) := by
  rw [Int.negSucc_eq, ← Int32.neg_ofInt]
  rfl
theorem x_sml_eq {b : Nat} {k : Int32 → Prop} : ∀ {n : Int}, x_sml b n k → -(b : Int) ≤ n ∧ n < b ∧ k (Int32.ofInt n)
  | .ofNat n, h => by
    have h : (bif Nat.blt n b then k (nI n) else False) := h
    cases hb : Nat.blt n b with
    | false => rw [hb] at h; exact h.elim
    | true =>
      rw [hb] at h
      have : n < b := by simpa using hb
      exact ⟨by show -(b : Int) ≤ (n : Int); omega, by show (n : Int) < b; omega, h⟩
  | .negSucc n, h => by
    have h : (bif Nat.blt n b then k (-(nI (n + 1))) else False) := h
    cases hb : Nat.blt n b with
    | false => rw [hb] at h; exact h.elim
    | true =>
      rw [hb] at h
      have : n < b := by simpa using hb
      exact ⟨by rw [Int.negSucc_eq]; omega, by rw [Int.negSucc_eq]; omega, by rw [x_neg]; exact h⟩
theorem x_int_eq {k : Int32 → Prop} : ∀ {n : Int}, x_int n k → k (Int32.ofInt n)
  | .ofNat n, h => h
  | .negSucc n, h => by rw [x_neg]; exact h
theorem x_i8 {n : Int} (h1 : -128 ≤ n) (h2 : n < 128) : (Int8.ofInt n).toInt32 = Int32.ofInt n := by
  apply Int32.toInt_inj.mp
  rw [Int8.toInt_toInt32, Int8.toInt_ofInt_of_le (by omega) (by omega), Int32.toInt_ofInt_of_le (by omega) (by omega)]
theorem x_i16 {n : Int} (h1 : -32768 ≤ n) (h2 : n < 32768) : (Int16.ofInt n).toInt32 = Int32.ofInt n := by
  apply Int32.toInt_inj.mp
  rw [Int16.toInt_toInt32, Int16.toInt_ofInt_of_le (by omega) (by omega), Int32.toInt_ofInt_of_le (by omega) (by omega)]
def x_jmp (J : Nat → Prop) (pc : Nat) : Int → Prop
  | .ofNat n => J (pc + n)
  | .negSucc n => bif Nat.ble (n + 1) pc then J (pc - (n + 1)) else False
theorem x_jmp_eq {J : Nat → Prop} {pc : Nat} : ∀ {off : Int}, x_jmp J pc off → ∃ t : Nat, (pc : Int) + off = (t : Int) ∧ J t
  | .ofNat n, h => ⟨pc + n, by simp, h⟩
  | .negSucc n, h => by
    have h : (bif Nat.ble (n + 1) pc then J (pc - (n + 1)) else False) := h
    cases hb : Nat.ble (n + 1) pc with
    | false => rw [hb] at h; exact h.elim
    | true =>
      rw [hb] at h
      have := Nat.le_of_ble_eq_true hb
      exact ⟨pc - (n + 1), by rw [Int.negSucc_eq]; omega, h⟩
/-- the arms of a switch over successive numbers -/
def x_arms (J : Nat → Prop) (pc : Nat) (x : Int32) : Int → List Int → Prop
  | _, [] => True
  | lo, o :: t => (x.toInt = lo → x_jmp J pc o) ∧ x_arms J pc x (lo + 1) t
def x_pairs (J : Nat → Prop) (pc : Nat) (x : Int32) (d : Int) : List (Int × Int) → Prop
  | [] => x_jmp J pc d
  | (a, o) :: t => (x.toInt = a → x_jmp J pc o) ∧ (¬ x.toInt = a → x_pairs J pc x d t)
def x_ret (ty : Option FieldType) (x : Int32) : Prop := match ty with
  | some .int => True
  | some .boolean => x &&& 1 = x
  | some t => narrow t (.int x) = .int x
  | none => False
/-- a field's entry: its place, if the cell's kind is among those of the entry -/
def x_fld (P : Pool) (h : List AE) (idx i : Nat) : Option Value := match a_look P.1 idx with
  | some (kk, _, cis) => match l_get h i with
    | some (.inr (ci, fs)) => bif a_mem ci cis then l_get fs kk else none
    | some (.inl _) => none
    | none => bif a_mem 50 cis then a_look P.2.2.2.2.1 (16 * i + kk) else none
  | none => none
def x_kind (h : List AE) (i : Nat) : Option Nat := match l_get h i with
  | some (.inr (ci, _)) => some ci
  | some (.inl _) => none
  | none => bif Nat.ble 1000 i && Nat.blt i 1006 then some 50 else none
def x_ints (P : Pool) (h : List AE) (i t : Nat) : Option (Nat × (Nat → Int32)) := match l_get h i with
  | some (.inl (t', n, .inl f)) => bif Nat.beq t' t then some (n, f) else none
  | some _ => none
  | none => match a_look P.2.2.2.2.2 i with
    | some (t', n, f) => bif Nat.beq t' t then some (n, f) else none
    | none => none
def x_len (P : Pool) (h : List AE) (i : Nat) : Option Nat := match l_get h i with
  | some (.inl (t, n, _)) => bif Nat.blt t 5 then some n else none
  | some (.inr _) => none
  | none => match a_look P.2.2.2.2.2 i with
    | some (_, n, _) => some n
    | none => none
def x_own (h : List AE) (i t : Nat) : Option (Nat × (Nat → Int32)) := match l_get h i with
  | some (.inl (t', n, .inl f)) => bif Nat.beq t' t then some (n, f) else none
  | _ => none
def x_refs (h : List AE) (i : Nat) : Option (Nat × Nat × (Nat → Option Nat)) := match l_get h i with
  | some (.inl (t, n, .inr (.inr (.inr (.inr f))))) => some (t, n, f)
  | _ => none
def x_c0 (c : ClassFile.Cond) (x : Int32) (A B : Prop) : Prop := match c with
  | .eq => (x = 0 → A) ∧ (¬ x = 0 → B)
  | .ne => (¬ x = 0 → A) ∧ (x = 0 → B)
  | .lt => (x < 0 → A) ∧ (¬ x < 0 → B)
  | .ge => (0 ≤ x → A) ∧ (¬ 0 ≤ x → B)
  | .gt => (0 < x → A) ∧ (¬ 0 < x → B)
  | .le => (x ≤ 0 → A) ∧ (¬ x ≤ 0 → B)
def x_c2 (c : ClassFile.Cond) (x y : Int32) (A B : Prop) : Prop := match c with
  | .eq => (x = y → A) ∧ (¬ x = y → B)
  | .ne => (¬ x = y → A) ∧ (x = y → B)
  | .lt => (x < y → A) ∧ (¬ x < y → B)
  | .ge => (y ≤ x → A) ∧ (¬ y ≤ x → B)
  | .gt => (y < x → A) ∧ (¬ y < x → B)
  | .le => (x ≤ y → A) ∧ (¬ x ≤ y → B)
/-- loads, stores: what stands there must be of the kind that the instruction names -/
def x_ld (ls : LV) (i kd : Nat) : Option Value := match a_look ls i with
  | some (.int x) => bif Nat.beq kd 0 then some (.int x) else none
  | some (.long x) => bif Nat.beq kd 1 then some (.long x) else none
  | some (.ref a) => bif Nat.beq kd 2 then some (.ref a) else none
  | _ => none
def x_put (P : Pool) (h : List AE) (idx i : Nat) (v : Value) (k : List AE → Prop) : Prop := match a_look P.1 idx with
  | some (kk, ty, cis) => match l_get h i with
    | some (.inr (ci, fs)) => bif a_mem ci cis && Nat.blt kk fs.length then (match v with
        | .int x => (bif Nat.beq ty 0 then True else bif Nat.beq ty 1 then (x = 0 ∨ x = 1) else False) ∧ l_put fs kk (.int x) (fun fs' => l_put h i (.inr (ci, fs')) k)
        | .ref a => bif Nat.beq ty 2 then l_put fs kk (.ref a) (fun fs' => l_put h i (.inr (ci, fs')) k) else False
        | .null => bif Nat.beq ty 2 then l_put fs kk .null (fun fs' => l_put h i (.inr (ci, fs')) k) else False
        | _ => False) else False
    | _ => False
  | none => False
abbrev KP : Type := LV → List Value → List AE → Prop
def x_st1 (ls : LV) (nL i : Nat) (v : Value) (k : LV → Prop) : Prop := bif Nat.blt i nL then ls_out ls i (fun t => k ((i, v) :: t)) else False
def x_st2 (ls : LV) (nL i : Nat) (v : Value) (k : LV → Prop) : Prop := bif Nat.blt (i + 1) nL then ls_out2 ls i (fun t => k ((i, v) :: t)) else False
def x_inv (P : Pool) (CT : CTP) (d : Nat) (kd idx : Nat) (ls : LV) (st : List Value) (h : List AE) (k : KP) : Prop := match a_look P.2.1 idx with
  | some (kd', na, tg) => bif Nat.beq kd' kd then (match x_pop na st [] with
    | some (as, rest) => (bif Nat.beq kd 1 then (match a_look tg 0 with
        | some j => bif Nat.ble (x_cat rest) 8 then CALL CT d j as h (fun r h' => k ls (x_push r rest) h') else False
        | none => False)
      else match rest with
        | .ref b :: rest => (match x_kind h b with
          | some ci => (match a_look tg ci with
            | some j => bif Nat.ble (x_cat rest) 8 then CALL CT d j (.ref b :: as) h (fun r h' => k ls (x_push r rest) h') else False
            | none => False)
          | none => False)
        | _ => False)
    | none => False) else False
  | none => False
/-- System.arraycopy over arrays of ints or bytes -/
def x_copy (P : Pool) (d : Nat) (idx : Nat) (ls : LV) (st : List Value) (h : List AE) (k : KP) : Prop := match a_look P.2.1 idx with
  | some (kd, _, _) => bif Nat.beq kd 5 then (match st with
    | .int n :: .int dp :: .ref a :: .int sp :: .ref b :: rest => (match l_get h b, l_get h a with
      | some (.inl (t0, n0, .inl f)), some (.inl (t1, n1, .inl g)) => bif Nat.beq t0 t1 && Nat.blt t0 2 && Nat.ble (x_cat rest) 8 && Nat.ble 1 d then
          (¬ sp < 0 ∧ ¬ dp < 0 ∧ ¬ n < 0 ∧ sp.toNatClampNeg + n.toNatClampNeg ≤ n0 ∧ dp.toNatClampNeg + n.toNatClampNeg ≤ n1 ∧ (∀ i, i < n.toNatClampNeg → fits (bif Nat.beq t0 0 then .int else .byte) (.int (f (sp.toNatClampNeg + i))) = true) ∧
            l_put h a (.inl (t1, n1, .inl (va_cpy f g sp.toNatClampNeg dp.toNatClampNeg n.toNatClampNeg))) (fun h' => k ls rest h')) else False
      | _, _ => False)
    | _ => False) else False
  | none => False
/-- one instruction: k goes on behind it, J where it jumps, RT at a return -/
def x_step (P : Pool) (CT : CTP) (d nL : Nat) (ty : Option FieldType) (J : JP) (RT : RP) (pc : Nat) (ls : LV) (st : List Value) (h : List AE) (k : KP) : Instr → Prop
  | .iconst n => x_int n (fun v => k ls (.int v :: st) h)
  | .bipush n => x_sml 128 n (fun v => k ls (.int v :: st) h)
  | .sipush n => x_sml 32768 n (fun v => k ls (.int v :: st) h)
  | .lconst n => k ls (.long (lN n.val) :: st) h
  | .aconst_null => k ls (.null :: st) h
  | .ldc ix => match a_look P.2.2.1 ix with
    | some (.int v) => k ls (.int v :: st) h
    | some (.ref a) => k ls (.ref a :: st) h
    | _ => False
  | .ldc_w ix => match a_look P.2.2.1 ix with
    | some (.int v) => k ls (.int v :: st) h
    | _ => False
  | .ldc2_w ix => match a_look P.2.2.1 ix with
    | some (.long v) => k ls (.long v :: st) h
    | _ => False
  | .getstatic ix => match a_look P.2.2.2.1 ix with
    | some v => k ls (v :: st) h
    | none => False
  | .iload n => match x_ld ls n 0 with
    | some v => k ls (v :: st) h
    | none => False
  | .iload_n n => match x_ld ls n.val 0 with
    | some v => k ls (v :: st) h
    | none => False
  | .lload n => match x_ld ls n 1 with
    | some v => k ls (v :: st) h
    | none => False
  | .lload_n n => match x_ld ls n.val 1 with
    | some v => k ls (v :: st) h
    | none => False
  | .aload n => match x_ld ls n 2 with
    | some v => k ls (v :: st) h
    | none => False
  | .aload_n n => match x_ld ls n.val 2 with
    | some v => k ls (v :: st) h
    | none => False
  | .istore n => match st with
    | .int x :: r => x_st1 ls nL n (.int x) (fun ls' => k ls' r h)
    | _ => False
  | .istore_n n => match st with
    | .int x :: r => x_st1 ls nL n.val (.int x) (fun ls' => k ls' r h)
    | _ => False
  | .lstore n => match st with
    | .long x :: r => x_st2 ls nL n (.long x) (fun ls' => k ls' r h)
    | _ => False
  | .lstore_n n => match st with
    | .long x :: r => x_st2 ls nL n.val (.long x) (fun ls' => k ls' r h)
    | _ => False
  | .astore n => match st with
    | .ref x :: r => x_st1 ls nL n (.ref x) (fun ls' => k ls' r h)
    | _ => False
  | .astore_n n => match st with
    | .ref x :: r => x_st1 ls nL n.val (.ref x) (fun ls' => k ls' r h)
    | _ => False
  | .iinc n c => match a_look ls n with
    | some (.int x) => x_int c (fun v => x_st1 ls nL n (.int (x + v)) (fun ls' => k ls' st h))
    | _ => False
  | .dup => match st with
    | v :: r => bif v_two v then False else k ls (v :: v :: r) h
    | _ => False
  | .dup2 => match st with
    | v :: w :: r => bif v_two v || v_two w then False else k ls (v :: w :: v :: w :: r) h
    | _ => False
  | .pop => match st with
    | v :: r => bif v_two v then False else k ls r h
    | _ => False
  | .iadd => match st with
    | .int y :: .int x :: r => k ls (.int (x + y) :: r) h
    | _ => False
  | .isub => match st with
    | .int y :: .int x :: r => k ls (.int (x - y) :: r) h
    | _ => False
  | .imul => match st with
    | .int y :: .int x :: r => k ls (.int (x * y) :: r) h
    | _ => False
  | .idiv => match st with
    | .int y :: .int x :: r => ¬ y = 0 ∧ k ls (.int (x / y) :: r) h
    | _ => False
  | .irem => match st with
    | .int y :: .int x :: r => ¬ y = 0 ∧ k ls (.int (x - x / y * y) :: r) h
    | _ => False
  | .iand => match st with
    | .int y :: .int x :: r => k ls (.int (x &&& y) :: r) h
    | _ => False
  | .ior => match st with
    | .int y :: .int x :: r => k ls (.int (x ||| y) :: r) h
    | _ => False
  | .ixor => match st with
    | .int y :: .int x :: r => k ls (.int (x ^^^ y) :: r) h
    | _ => False
  | .ishl => match st with
    | .int y :: .int x :: r => k ls (.int (x <<< (y &&& 31)) :: r) h
    | _ => False
  | .ishr => match st with
    | .int y :: .int x :: r => k ls (.int (x >>> (y &&& 31)) :: r) h
    | _ => False
  | .iushr => match st with
    | .int y :: .int x :: r => k ls (.int ((x.toUInt32 >>> (y.toUInt32 &&& Int32.toUInt32 31)).toInt32) :: r) h
    | _ => False
  | .ineg => match st with
    | .int x :: r => k ls (.int (-x) :: r) h
    | _ => False
  | .i2l => match st with
    | .int x :: r => k ls (.long x.toInt64 :: r) h
    | _ => False
  | .i2b => match st with
    | .int x :: r => k ls (.int x.toInt8.toInt32 :: r) h
    | _ => False
  | .i2c => match st with
    | .int x :: r => k ls (.int (x.toUInt32 % 65536).toInt32 :: r) h
    | _ => False
  | .ladd => match st with
    | .long y :: .long x :: r => k ls (.long (x + y) :: r) h
    | _ => False
  | .lsub => match st with
    | .long y :: .long x :: r => k ls (.long (x - y) :: r) h
    | _ => False
  | .ldiv => match st with
    | .long y :: .long x :: r => ¬ y = 0 ∧ k ls (.long (x / y) :: r) h
    | _ => False
  | .lrem => match st with
    | .long y :: .long x :: r => ¬ y = 0 ∧ k ls (.long (x - x / y * y) :: r) h
    | _ => False
  | .lcmp => match st with
    | .long y :: .long x :: r => k ls (.int (lg_cmp x y) :: r) h
    | _ => False
  | .goto o => x_jmp (fun t => J t ls st h) pc o
  | .ifCond c o => match st with
    | .int x :: r => x_jmp (fun t => x_c0 c x (J t ls r h) (k ls r h)) pc o
    | _ => False
  | .if_icmp c o => match st with
    | .int y :: .int x :: r => x_jmp (fun t => x_c2 c x y (J t ls r h) (k ls r h)) pc o
    | _ => False
  | .ifnull o => match st with
    | .ref _ :: r => k ls r h
    | .null :: r => x_jmp (fun t => J t ls r h) pc o
    | _ => False
  | .ifnonnull o => match st with
    | .ref _ :: r => x_jmp (fun t => J t ls r h) pc o
    | .null :: r => k ls r h
    | _ => False
  | .tableswitch df lo hi offs => match st with
    | .int x :: r => (x.toInt < lo ∨ hi < x.toInt → x_jmp (fun t => J t ls r h) pc df) ∧ (hi = lo + offs.toList.length - 1 ∧ x_arms (fun t => J t ls r h) pc x lo offs.toList)
    | _ => False
  | .lookupswitch df ps => match st with
    | .int x :: r => (ps.toList.zip (ps.toList.drop 1)).all (fun (a, next) => a.1 < next.1) = true ∧ x_pairs (fun t => J t ls r h) pc x df ps.toList
    | _ => False
  | .getfield ix => match st with
    | .ref a :: r => (match x_fld P h ix a with
      | some v => k ls (v :: r) h
      | none => False)
    | _ => False
  | .putfield ix => match st with
    | v :: .ref a :: r => x_put P h ix a v (fun h' => k ls r h')
    | _ => False
  | .arraylength => match st with
    | .ref a :: r => (match x_len P h a with
      | some n => k ls (.int (nI n) :: r) h
      | none => False)
    | _ => False
  | .iaload => match st with
    | .int i :: .ref a :: r => (match x_ints P h a 0 with
      | some (n, f) => vp_in i n ∧ k ls (.int (f i.toNatClampNeg) :: r) h
      | none => False)
    | _ => False
  | .baload => match st with
    | .int i :: .ref a :: r => (match x_ints P h a 1 with
      | some (n, f) => vp_in i n ∧ k ls (.int (f i.toNatClampNeg) :: r) h
      | none => (match x_own h a 2 with
        | some (n, f) => vp_in i n ∧ k ls (.int (f i.toNatClampNeg) :: r) h
        | none => False))
    | _ => False
  | .iastore => match st with
    | .int x :: .int i :: .ref a :: r => (match x_own h a 0 with
      | some (n, f) => vp_in i n ∧ l_put h a (.inl (0, n, .inl (upd f i.toNatClampNeg x))) (fun h' => k ls r h')
      | none => False)
    | _ => False
  | .bastore => match st with
    | .int x :: .int i :: .ref a :: r => (match x_own h a 1 with
      | some (n, f) => vp_in i n ∧ l_put h a (.inl (1, n, .inl (upd f i.toNatClampNeg (vp_nar .byte x)))) (fun h' => k ls r h')
      | none => (match x_own h a 2 with
        | some (n, f) => vp_in i n ∧ l_put h a (.inl (2, n, .inl (upd f i.toNatClampNeg (vp_nar .boolean x)))) (fun h' => k ls r h')
        | none => False))
    | _ => False
  | .aaload => match st with
    | .int i :: .ref a :: r => (match x_refs h a with
      | some (t, n, f) => (t = 3 ∨ t = 4) ∧ vp_in i n ∧ ∃ q, f i.toNatClampNeg = some q ∧ k ls (.ref q :: r) h
      | none => False)
    | _ => False
  | .invokevirtual ix => x_inv P CT d 0 ix ls st h k
  | .invokestatic ix => match a_look P.2.1 ix with
    | some (5, _, _) => x_copy P d ix ls st h k
    | _ => x_inv P CT d 1 ix ls st h k
  | .invokespecial ix => x_inv P CT d 2 ix ls st h k
  | .ireturn => match st with
    | [.int x] => x_ret ty x ∧ RT (some (.int x)) h
    | _ => False
  | .lreturn => match st with
    | [.long x] => ty = some .long ∧ RT (some (.long x)) h
    | _ => False
  | .areturn => match st with
    | [.ref x] => (∃ n, ty = some (.object n)) ∧ RT (some (.ref x)) h
    | _ => False
  | .return_ => match st with
    | [] => ty = none ∧ RT none h
    | _ => False
  | _ => False
/-- the instructions ahead, one behind another -/
def xs (P : Pool) (CT : CTP) (d nL : Nat) (ty : Option FieldType) (J : JP) (RT : RP) : List Ins → KP
  | [] => fun _ _ _ => False
  | (pc, i, _) :: t => fun ls st h => x_step P CT d nL ty J RT pc ls st h (xs P CT d nL ty J RT t) i
def seek (pc : Nat) : List Ins → List Ins
  | [] => []
  | (q, i, n) :: t => bif Nat.beq q pc then (q, i, n) :: t else seek pc t
/-- J stands for all that goes well from a place on -/
def Runs (P : Pool) (CT : CTP) (d nL : Nat) (ty : Option FieldType) (code : List Ins) (J : JP) (RT : RP) : Prop :=
  ∀ pc ls st h, xs P CT d nL ty J RT (seek pc code) ls st h → J pc ls st h
/-- a body: from every start whose J is right, by whatever J -/
def Body (P : Pool) (CT : CTP) (d nL : Nat) (ty : Option FieldType) (code : List Ins) (as : List Value) (h : List AE) (RT : RP) : Prop :=
  ∀ J : JP, Runs P CT d nL ty code J RT → J 0 (lv_args 0 as) [] h
end
section
/-! THE ABSTRACT MACHINE IS RIGHT: what 'xs' asks for is enough for the machine itself. -/
def cv (ad : Nat → Nat) : Value → Value
  | .ref i => .ref (ad i)
  | v => v
theorem cv_cat (ad : Nat → Nat) (v : Value) : (cv ad v).category = v.category := by cases v <;> rfl
def ce (tc : Nat → ClassId) (ad : Nat → Nat) : AE → va_E
  | .inl (t, n, .inr (.inr (.inr (.inr f)))) => .inl (tc t, n, .inr (.inr (.inr (.inr (fun j => (f j).map ad)))))
  | .inl (t, a) => .inl (tc t, a)
  | .inr (ci, fs) => .inr (ci, fs.map (cv ad))
def wm (tc : Nat → ClassId) (ad : Nat → Nat) : Nat → List AE → va_W
  | _, [] => []
  | k, e :: t => (ad k, ce tc ad e) :: wm tc ad (k + 1) t
theorem wm_get (tc : Nat → ClassId) (ad : Nat → Nat) : ∀ (h : List AE) (k i : Nat), (wm tc ad k h)[i]? = (h[i]?).map (fun e => (ad (k + i), ce tc ad e))
  | [], k, i => by simp [wm]
  | e :: t, k, 0 => by simp [wm]
  | e :: t, k, i + 1 => by
    rw [wm, List.getElem?_cons_succ, List.getElem?_cons_succ, wm_get tc ad t (k + 1) i, show k + 1 + i = k + (i + 1) by omega]
theorem wm_set (tc : Nat → ClassId) (ad : Nat → Nat) : ∀ (h : List AE) (k i : Nat) (e : AE), (wm tc ad k h).set i (ad (k + i), ce tc ad e) = wm tc ad k (h.set i e)
  | [], k, i, e => by simp [wm]
  | c :: t, k, 0, e => by simp [wm]
  | c :: t, k, i + 1, e => by
    rw [wm, List.set_cons_succ, List.set_cons_succ, wm, show k + (i + 1) = k + 1 + i by omega, wm_set tc ad t (k + 1) i e]
theorem wm_get0 {tc : Nat → ClassId} {ad : Nat → Nat} {h : List AE} {i : Nat} {e : AE} (hi : l_get h i = some e) : (wm tc ad 0 h)[i]? = some (ad i, ce tc ad e) := by
  rw [l_get_eq] at hi
  rw [wm_get, hi]
  simp
theorem wm_set0 (tc : Nat → ClassId) (ad : Nat → Nat) (h : List AE) (i : Nat) (e : AE) : (wm tc ad 0 h).set i (ad i, ce tc ad e) = wm tc ad 0 (h.set i e) := by
  have := wm_set tc ad h 0 i e
  rwa [Nat.zero_add] at this
def INJ (ad : Nat → Nat) (N : Nat) : Prop := ∀ i j, i < N → j < N → ad i = ad j → i = j
def AA (ad : Nat → Nat) (N : Nat) : Nat → Prop := fun q => ∃ i, i < N ∧ q = ad i
theorem wm_D {tc : Nat → ClassId} {ad : Nat → Nat} {h : List AE} {N : Nat} (hN : h.length = N) (hi : INJ ad N) : va_D (AA ad N) (wm tc ad 0 h) := by
  have key : ∀ (i : Nat) (q : Nat × va_E), (wm tc ad 0 h)[i]? = some q → i < N ∧ q.1 = ad i := by
    intro i q hq
    rw [wm_get] at hq
    cases he : h[i]? with
    | none => rw [he] at hq; simp at hq
    | some e =>
      rw [he] at hq
      have hlt := (List.getElem?_eq_some_iff.mp he).1
      simp at hq
      exact ⟨by omega, by rw [← hq]⟩
  refine ⟨fun i j p q hp hq h => ?_, fun k q hq => ?_⟩
  · obtain ⟨h1, h2⟩ := key i p hp
    obtain ⟨h3, h4⟩ := key j q hq
    exact hi i j h1 h3 (by rw [← h2, ← h4, h])
  · obtain ⟨h1, h2⟩ := key k q hq
    exact ⟨k, h1, h2⟩
def lc (ad : Nat → Nat) (ls : LV) : LV := ls.map (fun q => (q.1, cv ad q.2))
theorem lc_at {la : Array Slot} {nL : Nat} {ad : Nat → Nat} {ls : LV} (h : lv_has la nL (lc ad ls)) {i : Nat} {v : Value} (hv : a_look ls i = some v) : la[i]? = some (.val (cv ad v)) :=
  h.2.2 (i, cv ad v) (List.mem_map.mpr ⟨(i, v), a_look_mem hv, rfl⟩)
theorem lc_f1 (ad : Nat → Nat) (ls : LV) (i : Nat) : (lc ad ls).filter (fun q => !(q.1 == i) && !(q.1 + 1 == i && q.2.category == 2)) = lc ad (ls.filter (fun q => !(q.1 == i) && !(q.1 + 1 == i && q.2.category == 2))) := by
  unfold lc
  rw [List.filter_map]
  congr 1
  apply List.filter_congr
  intro q _
  simp [cv_cat]
theorem lc_f2 (ad : Nat → Nat) (ls : LV) (i : Nat) : (lc ad ls).filter (fun q => !(q.1 == i) && (!(q.1 == i + 1) && !(q.1 + 1 == i && q.2.category == 2))) = lc ad (ls.filter (fun q => !(q.1 == i) && (!(q.1 == i + 1) && !(q.1 + 1 == i && q.2.category == 2)))) := by
  unfold lc
  rw [List.filter_map]
  congr 1
  apply List.filter_congr
  intro q _
  simp [cv_cat]
/-- what nobody writes: objects (place, name), their fields, arrays, statics, texts; words of nest mates -/
abbrev RoT : Type := List (Nat × String) × List (Nat × String × String × String × Value) × List (Nat × FieldType × Nat × (Nat → Int32)) × List (String × String × String × Value) × List (String × Nat × String × Nat) × List Cond
def v_far : Value → Prop
  | .ref i => 1000 ≤ i
  | _ => True
def w_nest : Cond → Prop
  | .fieldLinkNest .. => True
  | .methodLinkNest .. => True
  | _ => False
def RoOK (X : RoT) : Prop := (∀ q ∈ X.1, 1000 ≤ q.1) ∧ (∀ q ∈ X.2.1, 1000 ≤ q.1 ∧ v_far q.2.2.2.2) ∧ (∀ q ∈ X.2.2.1, 1000 ≤ q.1) ∧ (∀ q ∈ X.2.2.2.1, v_far q.2.2.2) ∧ (∀ q ∈ X.2.2.2.2.1, 1000 ≤ q.2.2.2) ∧ ∀ w ∈ X.2.2.2.2.2, w_nest w
def RO (X : RoT) (ad : Nat → Nat) (A : Nat → Prop) (U : State) (H : Heap) : Prop :=
  (∀ q ∈ X.1, va_O q.2 (ad q.1) A U H) ∧ (∀ q ∈ X.2.1, va_OF q.2.1 q.2.2.1 q.2.2.2.1 (cv ad q.2.2.2.2) (ad q.1) A U H) ∧ (∀ q ∈ X.2.2.1, va_T q.2.1 (ad q.1) q.2.2.1 (fun j => .int (q.2.2.2 j)) A U H) ∧
  (∀ q ∈ X.2.2.2.1, va_Z q.1 q.2.1 q.2.2.1 (cv ad q.2.2.2) A U H) ∧ (∀ q ∈ X.2.2.2.2.1, vk_R q.1 q.2.1 q.2.2.1 (ad q.2.2.2) U) ∧ ∀ w ∈ X.2.2.2.2.2, va_Nw w U
theorem RO.go {X : RoT} (hX : RoOK X) {ad : Nat → Nat} {A : Nat → Prop} {s U : State} {H H1 : Heap} (h : RO X ad A s H) (hW : s.WarmedH U.vm) (hq : ∀ a : Nat, a < H.size → ¬ A a → H1[a]? = H[a]?) : RO X ad A U H1 := by
  obtain ⟨h1, h2, h3, h4, h5, h6⟩ := h
  refine ⟨fun q m => (va_O.moved hW.alike (h1 q m)).kept hq, fun q m => (va_OF.moved hW.alike (h2 q m)).kept hq, fun q m => (va_T.moved hW.alike (h3 q m)).kept hq, fun q m => (va_Z.moved hW.alike (h4 q m)).kept hq, fun q m => (h5 q m).warm hW, fun w m => ?_⟩
  have hn := hX.2.2.2.2.2 w m
  have hw := h6 w m
  cases w with
  | fieldLinkNest a b c d e f => exact va_Nw.warmF hW hw
  | methodLinkNest a b c d => exact va_Nw.warmM hW hw
  | _ => exact hn.elim
theorem RO.narrow {X : RoT} {ad : Nat → Nat} {A B : Nat → Prop} {U : State} {H : Heap} (h : RO X ad A U H) (hAB : ∀ q, B q → A q) : RO X ad B U H := by
  obtain ⟨h1, h2, h3, h4, h5, h6⟩ := h
  exact ⟨fun q m => (h1 q m).narrow hAB, fun q m => (h2 q m).narrow hAB, fun q m => (h3 q m).narrow hAB, fun q m => (h4 q m).narrow hAB, h5, h6⟩
theorem RO.ren {X : RoT} (hX : RoOK X) {ad ad' : Nat → Nat} {A : Nat → Prop} {U : State} {H : Heap} (h : RO X ad A U H) (he : ∀ i, 1000 ≤ i → ad' i = ad i) : RO X ad' A U H := by
  obtain ⟨h1, h2, h3, h4, h5, h6⟩ := h
  have ev : ∀ v, v_far v → cv ad' v = cv ad v := by
    intro v hv
    cases v with
    | ref i => show Value.ref (ad' i) = Value.ref (ad i); rw [he i hv]
    | _ => rfl
  refine ⟨fun q m => ?_, fun q m => ?_, fun q m => ?_, fun q m => ?_, fun q m => ?_, h6⟩
  · rw [he _ (hX.1 q m)]; exact h1 q m
  · rw [he _ (hX.2.1 q m).1, ev _ (hX.2.1 q m).2]; exact h2 q m
  · rw [he _ (hX.2.2.1 q m)]; exact h3 q m
  · rw [ev _ (hX.2.2.2.1 q m)]; exact h4 q m
  · rw [he _ (hX.2.2.2.2.1 q m)]; exact h5 q m
/-- array kinds: 0 int, 1 byte, 2 boolean, 3 and 4 of references -/
def TY (tc : Nat → ClassId) : List (ClassId × FieldType) := [(tc 0, .int), (tc 1, .byte), (tc 2, .boolean), (tc 3, .object "UrchinSchool$Ledge"), (tc 4, .object "UrchinSchool$Urchin")]
/-- an entry of the constant pool of 'own' names field k of T -/
def FOK (Ts NW : List Cond) (own : String) (idx : Nat) (T : u_T) (k : Nat) : Prop := ∃ ref, (Cond.fieldLink own idx ref (T k).2.1 (T k).2.2.1 ∈ Ts ∨ ∃ host, Cond.fieldLinkNest own idx ref (T k).2.1 (T k).2.2.1 host ∈ NW) ∧ (ref = (T k).1 ∨ Cond.sameField ref (T k).1 (T k).2.1 (T k).2.2.1 ∈ Ts)
def f_kind : Nat → FieldType → Prop
  | 0, t => t = .int
  | 1, t => t = .boolean
  | 2, t => (∃ n, t = .object n) ∨ ∃ u, t = .array u
  | _, _ => False
def ClsOK (Ts : List Cond) (cl : List vw_C) : Prop := ∀ (ci : Nat) (C : String) (T : u_T) (N : Nat), cl[ci]? = some (C, T, N) → (∀ w ∈ u_ws C T N, w ∈ Ts) ∧ ∃ ty0 : Nat → FieldType, (∀ k, k < N → parseFieldDescriptor (T k).2.2.1 = some (ty0 k)) ∧ ∀ a, a < N → ∀ b, b < N → a ≠ b → (T a).2.1 ≠ (T b).2.1
def FldOK (Ts NW : List Cond) (cl : List vw_C) (own : String) (P : Pool) : Prop :=
  ∀ q ∈ P.1, ∀ ci ∈ q.2.2.2, ci = 50 ∨ ∃ (C : String) (T : u_T) (N : Nat), cl[ci]? = some (C, T, N) ∧ q.2.1 < N ∧ FOK Ts NW own q.1 T q.2.1 ∧ (q.2.2.1 = 9 ∨ ((T q.2.1).2.2.2 = false ∧ ∃ t, parseFieldDescriptor (T q.2.1).2.2.1 = some t ∧ f_kind q.2.2.1 t))
/-- what nobody writes, as the pool's lists tell it -/
def FarOK (Ts : List Cond) (X : RoT) (own : String) (P : Pool) : Prop :=
  (∀ q ∈ P.1, ∀ i v, 50 ∈ q.2.2.2 → (16 * i + q.2.1, v) ∈ P.2.2.2.2.1 → ∃ o n d, (i, o, n, d, v) ∈ X.2.1 ∧ Cond.fieldLink own q.1 o n d ∈ Ts) ∧
  (∀ q ∈ P.2.2.2.2.2, (q.2.1 = 0 ∧ (q.1, FieldType.int, q.2.2.1, q.2.2.2) ∈ X.2.2.1) ∨ (q.2.1 = 1 ∧ (q.1, FieldType.byte, q.2.2.1, q.2.2.2) ∈ X.2.2.1)) ∧
  (∀ q ∈ P.2.2.1, match q.2 with
    | .int x => Cond.constant own q.1 x ∈ Ts
    | .long x => Cond.constantLong own q.1 x ∈ Ts
    | .ref a => ∃ tx, (own, q.1, tx, a) ∈ X.2.2.2.2.1
    | _ => False) ∧
  (∀ q ∈ P.2.2.2.1, ∃ C n d, (C, n, d, q.2) ∈ X.2.2.2.1 ∧ Cond.fieldLink own q.1 C n d ∈ Ts)
/-- the numbers of bytes of what isn't a switch -/
def x_sw : Instr → Bool
  | .tableswitch .. => true
  | .lookupswitch .. => true
  | _ => false
def x_ln : Instr → Nat
  | .bipush _ => 2
  | .sipush _ => 3
  | .ldc _ => 2
  | .ldc_w _ => 3
  | .ldc2_w _ => 3
  | .getstatic _ => 3
  | .iload _ => 2
  | .lload _ => 2
  | .aload _ => 2
  | .istore _ => 2
  | .lstore _ => 2
  | .astore _ => 2
  | .iinc _ _ => 3
  | .goto _ => 3
  | .ifCond _ _ => 3
  | .if_icmp _ _ => 3
  | .ifnull _ => 3
  | .ifnonnull _ => 3
  | .getfield _ => 3
  | .putfield _ => 3
  | .invokevirtual _ => 3
  | .invokestatic _ => 3
  | .invokespecial _ => 3
  | _ => 1
section SND
variable {p : Program} {l : Launch} {e : Env} {R : Room} {s : State} {m : MethodId} {args : Array Value} {below : List Frame} {meth : Method} {c : Code} {cells slots : Nat} {Q : State → Prop}
variable {cl : List vw_C} {D : va_G} {tc : Nat → ClassId} {ad : Nat → Nat} {N nL : Nat} {cc : ByteArray} {own : String} {Ts : List Cond} {X : RoT} {P : Pool} {CT : CTP} {d : Nat} {ty : Option FieldType} {RT : RP}
/-- the walk stands at pc, and the machine goes on well from there -/
def WW (p : Program) (l : Launch) (e : Env) (R : Room) (s : State) (m : MethodId) (args : Array Value) (below : List Frame) (meth : Method) (c : Code) (cells slots : Nat) (Q : State → Prop) (cl : List vw_C) (D : va_G) (tc : Nat → ClassId) (ad : Nat → Nat) (N nL : Nat) : JP := fun pc ls st h =>
  ∀ (H : Heap) (locs : List Loc) (la : Array Slot), h.length = N → va_P D cl (wm tc ad 0 h) H → va_S (AA ad N) s.heap H locs → lv_has la nL (lc ad ls) → W p l e R s m args below meth c H locs cells slots Q (F0 m pc la (st.map (cv ad)))
/-- what stands fast while a method is walked -/
def CX (p : Program) (s : State) (m : MethodId) (args : Array Value) (c : Code) (cl : List vw_C) (D : va_G) (tc : Nat → ClassId) (ad : Nat → Nat) (N nL : Nat) (cc : ByteArray) (own : String) (Ts : List Cond) (X : RoT) : Prop :=
  p.tables.exec = Jvm.exec ∧ c.code = cc ∧ c.maxLocals = nL ∧ s.vm.findClass own = some m.cls ∧ (∀ w ∈ Ts, w.before args s = true) ∧ va_K D cl (TY tc) s ∧ INJ ad N ∧ RO X ad (AA ad N) s s.heap
theorem vp_ld {ls : LV} {i kd : Nat} {v : Value} (h : x_ld ls i kd = some v) : a_look ls i = some v ∧ ((kd = 0 ∧ ∃ x, v = .int x) ∨ (kd = 1 ∧ ∃ x, v = .long x) ∨ (kd = 2 ∧ ∃ x, v = .ref x)) := by
  unfold x_ld at h
  split at h
  · next x hx =>
    cases hb : Nat.beq kd 0 with
    | false => rw [hb] at h; cases h
    | true => rw [hb] at h; cases h; exact ⟨hx, Or.inl ⟨Nat.eq_of_beq_eq_true hb, x, rfl⟩⟩
  · next x hx =>
    cases hb : Nat.beq kd 1 with
    | false => rw [hb] at h; cases h
    | true => rw [hb] at h; cases h; exact ⟨hx, Or.inr (Or.inl ⟨Nat.eq_of_beq_eq_true hb, x, rfl⟩)⟩
  · next x hx =>
    cases hb : Nat.beq kd 2 with
    | false => rw [hb] at h; cases h
    | true => rw [hb] at h; cases h; exact ⟨hx, Or.inr (Or.inr ⟨Nat.eq_of_beq_eq_true hb, x, rfl⟩)⟩
  · cases h
theorem x_ld0 {ls : LV} {i : Nat} {v : Value} (h : x_ld ls i 0 = some v) : ∃ x, v = .int x ∧ a_look ls i = some (.int x) := by
  obtain ⟨h1, ⟨-, x, rfl⟩ | ⟨h2, -⟩ | ⟨h2, -⟩⟩ := vp_ld h
  · exact ⟨x, rfl, h1⟩
  · cases h2
  · cases h2
theorem x_ld1 {ls : LV} {i : Nat} {v : Value} (h : x_ld ls i 1 = some v) : ∃ x, v = .long x ∧ a_look ls i = some (.long x) := by
  obtain ⟨h1, ⟨h2, -⟩ | ⟨-, x, rfl⟩ | ⟨h2, -⟩⟩ := vp_ld h
  · cases h2
  · exact ⟨x, rfl, h1⟩
  · cases h2
theorem x_ld2 {ls : LV} {i : Nat} {v : Value} (h : x_ld ls i 2 = some v) : ∃ x, v = .ref x ∧ a_look ls i = some (.ref x) := by
  obtain ⟨h1, ⟨h2, -⟩ | ⟨h2, -⟩ | ⟨-, x, rfl⟩⟩ := vp_ld h
  · cases h2
  · cases h2
  · exact ⟨x, rfl, h1⟩
theorem x_st1_eq {ls : LV} {i : Nat} {v : Value} {k : LV → Prop} (h : x_st1 ls nL i v k) : i < nL ∧ k ((i, v) :: ls.filter (fun q => !(q.1 == i) && !(q.1 + 1 == i && q.2.category == 2))) := by
  unfold x_st1 at h
  cases hb : Nat.blt i nL with
  | false => rw [hb] at h; exact h.elim
  | true =>
    rw [hb] at h
    exact ⟨by simpa using hb, ls_out_eq ls i (fun t => k ((i, v) :: t)) h⟩
theorem x_st2_eq {ls : LV} {i : Nat} {v : Value} {k : LV → Prop} (h : x_st2 ls nL i v k) : i + 1 < nL ∧ k ((i, v) :: ls.filter (fun q => !(q.1 == i) && (!(q.1 == i + 1) && !(q.1 + 1 == i && q.2.category == 2)))) := by
  unfold x_st2 at h
  cases hb : Nat.blt (i + 1) nL with
  | false => rw [hb] at h; exact h.elim
  | true =>
    rw [hb] at h
    exact ⟨by simpa using hb, ls_out2_eq ls i (fun t => k ((i, v) :: t)) h⟩
theorem v_one {v : Value} (h : v_two v = false) (ad : Nat → Nat) : (cv ad v).category = 1 := by
  rw [cv_cat]
  cases v <;> first | rfl | cases h
def x_plain : Instr → Bool
  | .getfield _ => false
  | .putfield _ => false
  | .invokevirtual _ => false
  | .invokestatic _ => false
  | .invokespecial _ => false
  | .arraylength => false
  | .iaload => false
  | .baload => false
  | .iastore => false
  | .bastore => false
  | .aaload => false
  | .ireturn => false
  | .lreturn => false
  | .areturn => false
  | .return_ => false
  | _ => true
set_option maxHeartbeats 4000000 in
/-- the instructions that touch no cell and call nothing -/
theorem snd_a (C0 : CX p s m args c cl D tc ad N nL cc own Ts X) (hF : FarOK Ts X own P) {pc n : Nat} {i : Instr} {ls : LV} {st : List Value} {h : List AE} {k : KP} (hdg : decode cc pc = .ok (i, n)) (hn : x_sw i = true ∨ n = x_ln i)
    (hk : ∀ ls' st' h', k ls' st' h' → WW p l e R s m args below meth c cells slots Q cl D tc ad N nL (pc + n) ls' st' h')
    (hs : x_plain i = true)
    (hx : x_step P CT d nL ty (WW p l e R s m args below meth c cells slots Q cl D tc ad N nL) RT pc ls st h k i) : WW p l e R s m args below meth c cells slots Q cl D tc ad N nL pc ls st h := by
  obtain ⟨hxe, hb, hml, hown, hts, hK, hI, hR⟩ := C0
  cases i with
  | getfield ix => exact Bool.noConfusion (show false = true from hs)
  | putfield ix => exact Bool.noConfusion (show false = true from hs)
  | invokevirtual ix => exact Bool.noConfusion (show false = true from hs)
  | invokestatic ix => exact Bool.noConfusion (show false = true from hs)
  | invokespecial ix => exact Bool.noConfusion (show false = true from hs)
  | arraylength => exact Bool.noConfusion (show false = true from hs)
  | iaload => exact Bool.noConfusion (show false = true from hs)
  | baload => exact Bool.noConfusion (show false = true from hs)
  | iastore => exact Bool.noConfusion (show false = true from hs)
  | bastore => exact Bool.noConfusion (show false = true from hs)
  | aaload => exact Bool.noConfusion (show false = true from hs)
  | ireturn => exact Bool.noConfusion (show false = true from hs)
  | lreturn => exact Bool.noConfusion (show false = true from hs)
  | areturn => exact Bool.noConfusion (show false = true from hs)
  | return_ => exact Bool.noConfusion (show false = true from hs)
  | tableswitch df lo hi offs =>
    simp only [x_step] at hx
    split at hx
    · next x r =>
      obtain ⟨ho, hhi, ha⟩ := hx
      intro H locs la h1 h2 h3 h4
      by_cases hc : x.toInt < lo ∨ hi < x.toInt
      · obtain ⟨t, ht, hj⟩ := x_jmp_eq (ho hc)
        exact lv_tableOut hxe hb hdg hc ht (hj H locs la h1 h2 h3 h4)
      · have hc1 : ¬ x.toInt < lo := fun z => hc (Or.inl z)
        have hc2 : ¬ hi < x.toInt := fun z => hc (Or.inr z)
        have key : ∀ (os : List Int) (lo : Int), x_arms (fun t => WW p l e R s m args below meth c cells slots Q cl D tc ad N nL t ls r h) pc x lo os → lo ≤ x.toInt → x.toInt < lo + os.length → ∃ o, os[(x.toInt - lo).toNat]? = some o ∧ x_jmp (fun t => WW p l e R s m args below meth c cells slots Q cl D tc ad N nL t ls r h) pc o := by
          intro os
          induction os with
          | nil => intro lo _ h1 h2; simp at h2; omega
          | cons o t ih =>
            intro lo ha h1 h2
            by_cases he : x.toInt = lo
            · refine ⟨o, ?_, ha.1 he⟩
              rw [he]; simp
            · obtain ⟨o', h5, h6⟩ := ih (lo + 1) ha.2 (by omega) (by simp at h2; omega)
              refine ⟨o', ?_, h6⟩
              have e9 : (x.toInt - lo).toNat = (x.toInt - (lo + 1)).toNat + 1 := by omega
              rw [e9, List.getElem?_cons_succ]
              exact h5
        obtain ⟨o, h5, h6⟩ := key offs.toList lo ha (by omega) (by omega)
        obtain ⟨t, ht, hj⟩ := x_jmp_eq h6
        exact lv_tableIn hxe hb hdg hc1 hc2 (by rw [← Array.getElem?_toList]; exact h5) ht (hj H locs la h1 h2 h3 h4)
    · exact hx.elim
  | lookupswitch df ps =>
    simp only [x_step] at hx
    split at hx
    · next x r =>
      obtain ⟨hso, ha⟩ := hx
      intro H locs la h1 h2 h3 h4
      have key : ∀ (os : List (Int × Int)), x_pairs (fun t => WW p l e R s m args below meth c cells slots Q cl D tc ad N nL t ls r h) pc x df os → ∃ o, Op.lookupswitch.offset os df x.toInt = o ∧ x_jmp (fun t => WW p l e R s m args below meth c cells slots Q cl D tc ad N nL t ls r h) pc o := by
        intro os
        induction os with
        | nil => intro ha; exact ⟨df, rfl, ha⟩
        | cons o t ih =>
          obtain ⟨a, o⟩ := o
          intro ha
          rw [Op.lookupswitch.offset_cons]
          by_cases he : x.toInt = a
          · rw [if_pos he.symm]; exact ⟨o, rfl, ha.1 he⟩
          · rw [if_neg (fun z => he z.symm)]; exact ih (ha.2 he)
      obtain ⟨o, h5, h6⟩ := key ps.toList ha
      obtain ⟨t, ht, hj⟩ := x_jmp_eq h6
      exact lv_lookup hxe hb hdg hso h5 ht (hj H locs la h1 h2 h3 h4)
    · exact hx.elim
  | iconst n =>
    have z := hn.resolve_left (fun z => Bool.noConfusion (show false = true from z))
    subst z
    simp only [x_step] at hx
    exact fun H locs la h1 h2 h3 h4 => lv_iconst hxe hb hdg rfl (hk _ _ _ (x_int_eq hx) H locs la h1 h2 h3 h4)
  | bipush n =>
    have z := hn.resolve_left (fun z => Bool.noConfusion (show false = true from z))
    subst z
    simp only [x_step] at hx
    obtain ⟨g1, g2, g3⟩ := x_sml_eq hx
    exact fun H locs la h1 h2 h3 h4 => lv_bipush hxe hb hdg (x_i8 (by omega) (by omega)) (hk _ _ _ g3 H locs la h1 h2 h3 h4)
  | sipush n =>
    have z := hn.resolve_left (fun z => Bool.noConfusion (show false = true from z))
    subst z
    simp only [x_step] at hx
    obtain ⟨g1, g2, g3⟩ := x_sml_eq hx
    exact fun H locs la h1 h2 h3 h4 => lv_sipush hxe hb hdg (x_i16 (by omega) (by omega)) (hk _ _ _ g3 H locs la h1 h2 h3 h4)
  | lconst n =>
    have z := hn.resolve_left (fun z => Bool.noConfusion (show false = true from z))
    subst z
    simp only [x_step] at hx
    exact fun H locs la h1 h2 h3 h4 => lv_lconst hxe hb hdg rfl (hk _ _ _ hx H locs la h1 h2 h3 h4)
  | aconst_null =>
    have z := hn.resolve_left (fun z => Bool.noConfusion (show false = true from z))
    subst z
    simp only [x_step] at hx
    exact fun H locs la h1 h2 h3 h4 => lv_null hxe hb hdg (hk _ _ _ hx H locs la h1 h2 h3 h4)
  | ldc ix =>
    have z := hn.resolve_left (fun z => Bool.noConfusion (show false = true from z))
    subst z
    simp only [x_step] at hx
    split at hx
    · next v hv => exact fun H locs la h1 h2 h3 h4 => lv_ldc hxe hb hown (hts _ (hF.2.2.1 _ (a_look_mem hv))) hdg (hk _ _ _ hx H locs la h1 h2 h3 h4)
    · next a ha =>
      obtain ⟨tx, htx⟩ := hF.2.2.1 _ (a_look_mem ha)
      exact fun H locs la h1 h2 h3 h4 => va_ldcS hxe hb hown (hR.2.2.2.2.1 _ htx) hdg (hk _ _ _ hx H locs la h1 h2 h3 h4)
    · exact hx.elim
  | ldc_w ix =>
    have z := hn.resolve_left (fun z => Bool.noConfusion (show false = true from z))
    subst z
    simp only [x_step] at hx
    split at hx
    · next v hv => exact fun H locs la h1 h2 h3 h4 => lv_ldcw hxe hb hown (hts _ (hF.2.2.1 _ (a_look_mem hv))) hdg (hk _ _ _ hx H locs la h1 h2 h3 h4)
    · exact hx.elim
  | ldc2_w ix =>
    have z := hn.resolve_left (fun z => Bool.noConfusion (show false = true from z))
    subst z
    simp only [x_step] at hx
    split at hx
    · next v hv => exact fun H locs la h1 h2 h3 h4 => lv_ldc2 hxe hb hown (hts _ (hF.2.2.1 _ (a_look_mem hv))) hdg (hk _ _ _ hx H locs la h1 h2 h3 h4)
    · exact hx.elim
  | getstatic ix =>
    have z := hn.resolve_left (fun z => Bool.noConfusion (show false = true from z))
    subst z
    simp only [x_step] at hx
    split at hx
    · next v hv =>
      obtain ⟨C, nm, ds, g1, g2⟩ := hF.2.2.2 _ (a_look_mem hv)
      exact fun H locs la h1 h2 h3 h4 => va_gets hxe hb (hR.2.2.2.1 _ g1) h3 hown (hts _ g2) (fun _ z => z) hdg (hk _ _ _ hx H locs la h1 h2 h3 h4)
    · exact hx.elim
  | iload n =>
    have z := hn.resolve_left (fun z => Bool.noConfusion (show false = true from z))
    subst z
    simp only [x_step] at hx
    split at hx
    · next v hv =>
      obtain ⟨x, rfl, hl⟩ := x_ld0 hv
      exact fun H locs la h1 h2 h3 h4 => lv_iload hxe hb hdg (lc_at h4 hl) (hk _ _ _ hx H locs la h1 h2 h3 h4)
    · exact hx.elim
  | iload_n n =>
    have z := hn.resolve_left (fun z => Bool.noConfusion (show false = true from z))
    subst z
    simp only [x_step] at hx
    split at hx
    · next v hv =>
      obtain ⟨x, rfl, hl⟩ := x_ld0 hv
      exact fun H locs la h1 h2 h3 h4 => lv_iload_n hxe hb hdg rfl (lc_at h4 hl) (hk _ _ _ hx H locs la h1 h2 h3 h4)
    · exact hx.elim
  | lload n =>
    have z := hn.resolve_left (fun z => Bool.noConfusion (show false = true from z))
    subst z
    simp only [x_step] at hx
    split at hx
    · next v hv =>
      obtain ⟨x, rfl, hl⟩ := x_ld1 hv
      exact fun H locs la h1 h2 h3 h4 => lv_lload hxe hb hdg (lc_at h4 hl) (hk _ _ _ hx H locs la h1 h2 h3 h4)
    · exact hx.elim
  | lload_n n =>
    have z := hn.resolve_left (fun z => Bool.noConfusion (show false = true from z))
    subst z
    simp only [x_step] at hx
    split at hx
    · next v hv =>
      obtain ⟨x, rfl, hl⟩ := x_ld1 hv
      exact fun H locs la h1 h2 h3 h4 => lv_lload_n hxe hb hdg rfl (lc_at h4 hl) (hk _ _ _ hx H locs la h1 h2 h3 h4)
    · exact hx.elim
  | aload n =>
    have z := hn.resolve_left (fun z => Bool.noConfusion (show false = true from z))
    subst z
    simp only [x_step] at hx
    split at hx
    · next v hv =>
      obtain ⟨x, rfl, hl⟩ := x_ld2 hv
      exact fun H locs la h1 h2 h3 h4 => lv_aload hxe hb hdg (lc_at h4 hl) (hk _ _ _ hx H locs la h1 h2 h3 h4)
    · exact hx.elim
  | aload_n n =>
    have z := hn.resolve_left (fun z => Bool.noConfusion (show false = true from z))
    subst z
    simp only [x_step] at hx
    split at hx
    · next v hv =>
      obtain ⟨x, rfl, hl⟩ := x_ld2 hv
      exact fun H locs la h1 h2 h3 h4 => lv_aload_n hxe hb hdg rfl (lc_at h4 hl) (hk _ _ _ hx H locs la h1 h2 h3 h4)
    · exact hx.elim
  | istore n =>
    have z := hn.resolve_left (fun z => Bool.noConfusion (show false = true from z))
    subst z
    simp only [x_step] at hx
    split at hx
    · next x r =>
      obtain ⟨g1, g2⟩ := x_st1_eq hx
      exact fun H locs la h1 h2 h3 h4 => lv_istore hxe hb hdg h4 g1 (by rw [lc_f1]; rfl) (fun la' h5 => hk _ _ _ g2 H locs la' h1 h2 h3 h5)
    · exact hx.elim
  | istore_n n =>
    have z := hn.resolve_left (fun z => Bool.noConfusion (show false = true from z))
    subst z
    simp only [x_step] at hx
    split at hx
    · next x r =>
      obtain ⟨g1, g2⟩ := x_st1_eq hx
      exact fun H locs la h1 h2 h3 h4 => lv_istore_n hxe hb hdg rfl h4 g1 (by rw [lc_f1]; rfl) (fun la' h5 => hk _ _ _ g2 H locs la' h1 h2 h3 h5)
    · exact hx.elim
  | lstore n =>
    have z := hn.resolve_left (fun z => Bool.noConfusion (show false = true from z))
    subst z
    simp only [x_step] at hx
    split at hx
    · next x r =>
      obtain ⟨g1, g2⟩ := x_st2_eq hx
      exact fun H locs la h1 h2 h3 h4 => lv_lstore hxe hb hdg h4 g1 (by rw [lc_f2]; rfl) (fun la' h5 => hk _ _ _ g2 H locs la' h1 h2 h3 h5)
    · exact hx.elim
  | lstore_n n =>
    have z := hn.resolve_left (fun z => Bool.noConfusion (show false = true from z))
    subst z
    simp only [x_step] at hx
    split at hx
    · next x r =>
      obtain ⟨g1, g2⟩ := x_st2_eq hx
      exact fun H locs la h1 h2 h3 h4 => lv_lstore_n hxe hb hdg rfl h4 g1 (by rw [lc_f2]; rfl) (fun la' h5 => hk _ _ _ g2 H locs la' h1 h2 h3 h5)
    · exact hx.elim
  | astore n =>
    have z := hn.resolve_left (fun z => Bool.noConfusion (show false = true from z))
    subst z
    simp only [x_step] at hx
    split at hx
    · next x r =>
      obtain ⟨g1, g2⟩ := x_st1_eq hx
      exact fun H locs la h1 h2 h3 h4 => lv_astore hxe hb hdg h4 g1 (by rw [lc_f1]; rfl) (fun la' h5 => hk _ _ _ g2 H locs la' h1 h2 h3 h5)
    · exact hx.elim
  | astore_n n =>
    have z := hn.resolve_left (fun z => Bool.noConfusion (show false = true from z))
    subst z
    simp only [x_step] at hx
    split at hx
    · next x r =>
      obtain ⟨g1, g2⟩ := x_st1_eq hx
      exact fun H locs la h1 h2 h3 h4 => lv_astore_n hxe hb hdg rfl h4 g1 (by rw [lc_f1]; rfl) (fun la' h5 => hk _ _ _ g2 H locs la' h1 h2 h3 h5)
    · exact hx.elim
  | iinc n c =>
    have z := hn.resolve_left (fun z => Bool.noConfusion (show false = true from z))
    subst z
    simp only [x_step] at hx
    split at hx
    · next x hv =>
      obtain ⟨g1, g2⟩ := x_st1_eq (x_int_eq hx)
      obtain ⟨q, hq⟩ := List.getElem?_of_mem (a_look_mem hv)
      exact fun H locs la h1 h2 h3 h4 => lv_iinc (k := q) hxe hb hdg h4 (by unfold lc; rw [List.getElem?_map, hq]; rfl) rfl g1 (by rw [lc_f1]; rfl) (fun la' h5 => hk _ _ _ g2 H locs la' h1 h2 h3 h5)
    · exact hx.elim
  | dup =>
    have z := hn.resolve_left (fun z => Bool.noConfusion (show false = true from z))
    subst z
    simp only [x_step] at hx
    split at hx
    · next v r =>
      cases hv : v_two v with
      | true => rw [hv] at hx; exact hx.elim
      | false =>
        rw [hv] at hx
        exact fun H locs la h1 h2 h3 h4 => lv_dup hxe hb hdg (v_one hv ad) (hk _ _ _ hx H locs la h1 h2 h3 h4)
    · exact hx.elim
  | pop =>
    have z := hn.resolve_left (fun z => Bool.noConfusion (show false = true from z))
    subst z
    simp only [x_step] at hx
    split at hx
    · next v r =>
      cases hv : v_two v with
      | true => rw [hv] at hx; exact hx.elim
      | false =>
        rw [hv] at hx
        exact fun H locs la h1 h2 h3 h4 => lv_pop hxe hb hdg (v_one hv ad) (hk _ _ _ hx H locs la h1 h2 h3 h4)
    · exact hx.elim
  | dup2 =>
    have z := hn.resolve_left (fun z => Bool.noConfusion (show false = true from z))
    subst z
    simp only [x_step] at hx
    split at hx
    · next v w r =>
      cases hv : v_two v with
      | true => rw [hv] at hx; exact hx.elim
      | false =>
        cases hw : v_two w with
        | true => rw [hv, hw] at hx; exact hx.elim
        | false =>
          rw [hv, hw] at hx
          exact fun H locs la h1 h2 h3 h4 => lv_dup2_11 hxe hb hdg (v_one hv ad) (v_one hw ad) (hk _ _ _ hx H locs la h1 h2 h3 h4)
    · exact hx.elim
  | iadd =>
    have z := hn.resolve_left (fun z => Bool.noConfusion (show false = true from z))
    subst z
    simp only [x_step] at hx
    split at hx
    · exact fun H locs la h1 h2 h3 h4 => lv_iadd hxe hb hdg (hk _ _ _ hx H locs la h1 h2 h3 h4)
    · exact hx.elim
  | isub =>
    have z := hn.resolve_left (fun z => Bool.noConfusion (show false = true from z))
    subst z
    simp only [x_step] at hx
    split at hx
    · exact fun H locs la h1 h2 h3 h4 => lv_isub hxe hb hdg (hk _ _ _ hx H locs la h1 h2 h3 h4)
    · exact hx.elim
  | imul =>
    have z := hn.resolve_left (fun z => Bool.noConfusion (show false = true from z))
    subst z
    simp only [x_step] at hx
    split at hx
    · exact fun H locs la h1 h2 h3 h4 => lv_imul hxe hb hdg (hk _ _ _ hx H locs la h1 h2 h3 h4)
    · exact hx.elim
  | iand =>
    have z := hn.resolve_left (fun z => Bool.noConfusion (show false = true from z))
    subst z
    simp only [x_step] at hx
    split at hx
    · exact fun H locs la h1 h2 h3 h4 => lv_iand hxe hb hdg (hk _ _ _ hx H locs la h1 h2 h3 h4)
    · exact hx.elim
  | ior =>
    have z := hn.resolve_left (fun z => Bool.noConfusion (show false = true from z))
    subst z
    simp only [x_step] at hx
    split at hx
    · exact fun H locs la h1 h2 h3 h4 => lv_ior hxe hb hdg (hk _ _ _ hx H locs la h1 h2 h3 h4)
    · exact hx.elim
  | ixor =>
    have z := hn.resolve_left (fun z => Bool.noConfusion (show false = true from z))
    subst z
    simp only [x_step] at hx
    split at hx
    · exact fun H locs la h1 h2 h3 h4 => lv_ixor hxe hb hdg (hk _ _ _ hx H locs la h1 h2 h3 h4)
    · exact hx.elim
  | ishl =>
    have z := hn.resolve_left (fun z => Bool.noConfusion (show false = true from z))
    subst z
    simp only [x_step] at hx
    split at hx
    · exact fun H locs la h1 h2 h3 h4 => lv_ishl hxe hb hdg (hk _ _ _ hx H locs la h1 h2 h3 h4)
    · exact hx.elim
  | ishr =>
    have z := hn.resolve_left (fun z => Bool.noConfusion (show false = true from z))
    subst z
    simp only [x_step] at hx
    split at hx
    · exact fun H locs la h1 h2 h3 h4 => lv_ishr hxe hb hdg (hk _ _ _ hx H locs la h1 h2 h3 h4)
    · exact hx.elim
  | ladd =>
    have z := hn.resolve_left (fun z => Bool.noConfusion (show false = true from z))
    subst z
    simp only [x_step] at hx
    split at hx
    · exact fun H locs la h1 h2 h3 h4 => lv_ladd hxe hb hdg (hk _ _ _ hx H locs la h1 h2 h3 h4)
    · exact hx.elim
  | lsub =>
    have z := hn.resolve_left (fun z => Bool.noConfusion (show false = true from z))
    subst z
    simp only [x_step] at hx
    split at hx
    · exact fun H locs la h1 h2 h3 h4 => lv_lsub hxe hb hdg (hk _ _ _ hx H locs la h1 h2 h3 h4)
    · exact hx.elim
  | iushr =>
    have z := hn.resolve_left (fun z => Bool.noConfusion (show false = true from z))
    subst z
    simp only [x_step] at hx
    split at hx
    · exact fun H locs la h1 h2 h3 h4 => lv_iushr hxe hb hdg rfl (hk _ _ _ hx H locs la h1 h2 h3 h4)
    · exact hx.elim
  | lcmp =>
    have z := hn.resolve_left (fun z => Bool.noConfusion (show false = true from z))
    subst z
    simp only [x_step] at hx
    split at hx
    · exact fun H locs la h1 h2 h3 h4 => W.lcmp hxe hb hdg (hk _ _ _ hx H locs la h1 h2 h3 h4)
    · exact hx.elim
  | idiv =>
    have z := hn.resolve_left (fun z => Bool.noConfusion (show false = true from z))
    subst z
    simp only [x_step] at hx
    split at hx
    · exact fun H locs la h1 h2 h3 h4 => lv_idiv hxe hb hdg hx.1 (hk _ _ _ hx.2 H locs la h1 h2 h3 h4)
    · exact hx.elim
  | irem =>
    have z := hn.resolve_left (fun z => Bool.noConfusion (show false = true from z))
    subst z
    simp only [x_step] at hx
    split at hx
    · exact fun H locs la h1 h2 h3 h4 => lv_irem hxe hb hdg hx.1 (hk _ _ _ hx.2 H locs la h1 h2 h3 h4)
    · exact hx.elim
  | ldiv =>
    have z := hn.resolve_left (fun z => Bool.noConfusion (show false = true from z))
    subst z
    simp only [x_step] at hx
    split at hx
    · exact fun H locs la h1 h2 h3 h4 => lv_ldiv hxe hb hdg hx.1 (hk _ _ _ hx.2 H locs la h1 h2 h3 h4)
    · exact hx.elim
  | lrem =>
    have z := hn.resolve_left (fun z => Bool.noConfusion (show false = true from z))
    subst z
    simp only [x_step] at hx
    split at hx
    · exact fun H locs la h1 h2 h3 h4 => lv_lrem hxe hb hdg hx.1 (hk _ _ _ hx.2 H locs la h1 h2 h3 h4)
    · exact hx.elim
  | ineg =>
    have z := hn.resolve_left (fun z => Bool.noConfusion (show false = true from z))
    subst z
    simp only [x_step] at hx
    split at hx
    · exact fun H locs la h1 h2 h3 h4 => lv_ineg hxe hb hdg (hk _ _ _ hx H locs la h1 h2 h3 h4)
    · exact hx.elim
  | i2l =>
    have z := hn.resolve_left (fun z => Bool.noConfusion (show false = true from z))
    subst z
    simp only [x_step] at hx
    split at hx
    · exact fun H locs la h1 h2 h3 h4 => lv_i2l hxe hb hdg rfl (hk _ _ _ hx H locs la h1 h2 h3 h4)
    · exact hx.elim
  | i2b =>
    have z := hn.resolve_left (fun z => Bool.noConfusion (show false = true from z))
    subst z
    simp only [x_step] at hx
    split at hx
    · exact fun H locs la h1 h2 h3 h4 => lv_i2b hxe hb hdg rfl (hk _ _ _ hx H locs la h1 h2 h3 h4)
    · exact hx.elim
  | i2c =>
    have z := hn.resolve_left (fun z => Bool.noConfusion (show false = true from z))
    subst z
    simp only [x_step] at hx
    split at hx
    · exact fun H locs la h1 h2 h3 h4 => lv_i2c hxe hb hdg rfl (hk _ _ _ hx H locs la h1 h2 h3 h4)
    · exact hx.elim
  | goto o =>
    have z := hn.resolve_left (fun z => Bool.noConfusion (show false = true from z))
    subst z
    simp only [x_step] at hx
    obtain ⟨t, ht, hj⟩ := x_jmp_eq hx
    exact fun H locs la h1 h2 h3 h4 => lv_goto hxe hb hdg ht (hj H locs la h1 h2 h3 h4)
  | ifCond cn o =>
    have z := hn.resolve_left (fun z => Bool.noConfusion (show false = true from z))
    subst z
    simp only [x_step] at hx
    split at hx
    · obtain ⟨t, ht, hj⟩ := x_jmp_eq hx
      intro H locs la h1 h2 h3 h4
      cases cn with
      | eq => exact lv_if_eq hxe hb hdg ht (fun hc => hj.1 hc H locs la h1 h2 h3 h4) (fun hc => hk _ _ _ (hj.2 hc) H locs la h1 h2 h3 h4)
      | ne => exact lv_if_ne hxe hb hdg ht (fun hc => hj.1 hc H locs la h1 h2 h3 h4) (fun hc => hk _ _ _ (hj.2 hc) H locs la h1 h2 h3 h4)
      | lt => exact lv_if_lt hxe hb hdg ht (fun hc => hj.1 hc H locs la h1 h2 h3 h4) (fun hc => hk _ _ _ (hj.2 hc) H locs la h1 h2 h3 h4)
      | ge => exact lv_if_ge hxe hb hdg ht (fun hc => hj.1 hc H locs la h1 h2 h3 h4) (fun hc => hk _ _ _ (hj.2 hc) H locs la h1 h2 h3 h4)
      | gt => exact lv_if_gt hxe hb hdg ht (fun hc => hj.1 hc H locs la h1 h2 h3 h4) (fun hc => hk _ _ _ (hj.2 hc) H locs la h1 h2 h3 h4)
      | le => exact lv_if_le hxe hb hdg ht (fun hc => hj.1 hc H locs la h1 h2 h3 h4) (fun hc => hk _ _ _ (hj.2 hc) H locs la h1 h2 h3 h4)
    · exact hx.elim
  | if_icmp cn o =>
    have z := hn.resolve_left (fun z => Bool.noConfusion (show false = true from z))
    subst z
    simp only [x_step] at hx
    split at hx
    · obtain ⟨t, ht, hj⟩ := x_jmp_eq hx
      intro H locs la h1 h2 h3 h4
      cases cn with
      | eq => exact lv_icmp_eq hxe hb hdg ht (fun hc => hj.1 hc H locs la h1 h2 h3 h4) (fun hc => hk _ _ _ (hj.2 hc) H locs la h1 h2 h3 h4)
      | ne => exact lv_icmp_ne hxe hb hdg ht (fun hc => hj.1 hc H locs la h1 h2 h3 h4) (fun hc => hk _ _ _ (hj.2 hc) H locs la h1 h2 h3 h4)
      | lt => exact lv_icmp_lt hxe hb hdg ht (fun hc => hj.1 hc H locs la h1 h2 h3 h4) (fun hc => hk _ _ _ (hj.2 hc) H locs la h1 h2 h3 h4)
      | ge => exact lv_icmp_ge hxe hb hdg ht (fun hc => hj.1 hc H locs la h1 h2 h3 h4) (fun hc => hk _ _ _ (hj.2 hc) H locs la h1 h2 h3 h4)
      | gt => exact lv_icmp_gt hxe hb hdg ht (fun hc => hj.1 hc H locs la h1 h2 h3 h4) (fun hc => hk _ _ _ (hj.2 hc) H locs la h1 h2 h3 h4)
      | le => exact lv_icmp_le hxe hb hdg ht (fun hc => hj.1 hc H locs la h1 h2 h3 h4) (fun hc => hk _ _ _ (hj.2 hc) H locs la h1 h2 h3 h4)
    · exact hx.elim
  | ifnull o =>
    have z := hn.resolve_left (fun z => Bool.noConfusion (show false = true from z))
    subst z
    simp only [x_step] at hx
    split at hx
    · exact fun H locs la h1 h2 h3 h4 => lv_ifnull hxe hb hdg (hk _ _ _ hx H locs la h1 h2 h3 h4)
    · obtain ⟨t, ht, hj⟩ := x_jmp_eq hx
      exact fun H locs la h1 h2 h3 h4 => lv_ifnullN hxe hb hdg ht (hj H locs la h1 h2 h3 h4)
    · exact hx.elim
  | ifnonnull o =>
    have z := hn.resolve_left (fun z => Bool.noConfusion (show false = true from z))
    subst z
    simp only [x_step] at hx
    split at hx
    · obtain ⟨t, ht, hj⟩ := x_jmp_eq hx
      exact fun H locs la h1 h2 h3 h4 => lv_ifnonnull hxe hb hdg ht (hj H locs la h1 h2 h3 h4)
    · exact fun H locs la h1 h2 h3 h4 => lv_ifnonnullN hxe hb hdg (hk _ _ _ hx H locs la h1 h2 h3 h4)
    · exact hx.elim
  | _ => exact False.elim hx
end SND
end
section
/-! the abstract machine is right: cells, arrays, returns, calls -/
section SN2
variable {p : Program} {l : Launch} {e : Env} {R : Room} {s : State} {m : MethodId} {args : Array Value} {below : List Frame} {meth : Method} {c : Code} {cells slots : Nat} {Q : State → Prop}
variable {cl : List vw_C} {D : va_G} {tc : Nat → ClassId} {ad : Nat → Nat} {N nL : Nat} {cc : ByteArray} {own : String} {Ts : List Cond} {X : RoT} {P : Pool} {CT : CTP} {d : Nat} {ty : Option FieldType} {RT : RP}
theorem hsame_of {ref : String} {T : u_T} {k : Nat} (hts : ∀ w ∈ Ts, w.before args s = true) (h : ref = (T k).1 ∨ Cond.sameField ref (T k).1 (T k).2.1 (T k).2.2.1 ∈ Ts) : ∀ x, s.fieldFound? (T k).1 (T k).2.1 (T k).2.2.1 = some x → s.fieldFound? ref (T k).2.1 (T k).2.2.1 = some x := by
  rcases h with h | h
  · rw [h]; exact fun _ z => z
  · exact u_same (hts _ h)
theorem l_get_map {as : List Value} {k : Nat} {v : Value} (h : l_get as k = some v) (ad : Nat → Nat) : (as.map (cv ad))[k]? = some (cv ad v) := by
  rw [l_get_eq] at h
  rw [List.getElem?_map, h]
  rfl
theorem snd_getf (C0 : CX p s m args c cl D tc ad N nL cc own Ts X) (hF : FarOK Ts X own P) (hcl : cl.length ≤ 50) (hCl : ClsOK Ts cl) (hFl : FldOK Ts X.2.2.2.2.2 cl own P) {pc ix : Nat} {ls : LV} {st : List Value} {h : List AE} {k : KP} (hdg : decode cc pc = .ok (.getfield ix, 3))
    (hk : ∀ ls' st' h', k ls' st' h' → WW p l e R s m args below meth c cells slots Q cl D tc ad N nL (pc + 3) ls' st' h')
    (hx : x_step P CT d nL ty (WW p l e R s m args below meth c cells slots Q cl D tc ad N nL) RT pc ls st h k (.getfield ix)) : WW p l e R s m args below meth c cells slots Q cl D tc ad N nL pc ls st h := by
  obtain ⟨hxe, hb, hml, hown, hts, hK, hI, hR⟩ := C0
  simp only [x_step] at hx
  split at hx
  · next a r =>
    split at hx
    · next v hv =>
      intro H locs la h1 h2 h3 h4
      unfold x_fld at hv
      split at hv
      · next kk t cis hl =>
        have hmem := a_look_mem hl
        split at hv
        · next ci fs hc =>
          cases hm : a_mem ci cis with
          | false => rw [hm] at hv; cases hv
          | true =>
            rw [hm] at hv
            have hv : l_get fs kk = some v := hv
            rcases hFl _ hmem ci (a_mem_mem hm) with z | ⟨C, T, Nf, g1, g2, ⟨ref, g3, g4⟩, -⟩
            · subst z
              obtain ⟨r9, z9, -⟩ := h2 a _ (wm_get0 hc)
              have := (List.getElem?_eq_some_iff.mp z9).1
              omega
            · have hin := (hCl ci C T Nf g1).1
              rcases g3 with g3 | ⟨host, g3⟩
              · exact va_get hxe hb hts hin hown hK h2 a (wm_get0 hc) g1 kk g2 (hts _ g3) (hsame_of hts g4) (l_get_map hv ad) hdg (hk _ _ _ hx H locs la h1 h2 h3 h4)
              · exact va_getN hxe hb hts hin hown hK h2 a (wm_get0 hc) g1 kk g2 (va_Nw.use rfl (hR.2.2.2.2.2 _ g3)) (hsame_of hts g4) (l_get_map hv ad) hdg (hk _ _ _ hx H locs la h1 h2 h3 h4)
        · cases hv
        · next hc =>
          cases hm : a_mem 50 cis with
          | false => rw [hm] at hv; cases hv
          | true =>
            rw [hm] at hv
            have hv : a_look P.2.2.2.2.1 (16 * a + kk) = some v := hv
            obtain ⟨o, n, ds, g1, g2⟩ := hF.1 _ hmem a v (a_mem_mem hm) (a_look_mem hv)
            exact vk_getf hxe hb (hR.2.1 _ g1) h3 hown (hts _ g2) (fun _ z => z) hdg (hk _ _ _ hx H locs la h1 h2 h3 h4)
      · cases hv
    · exact hx.elim
  · exact hx.elim
theorem fs_set (fs : List Value) (ad : Nat → Nat) (k : Nat) (v : Value) : (fs.map (cv ad)).set k (cv ad v) = (fs.set k v).map (cv ad) := by rw [List.map_set]
theorem snd_putf (C0 : CX p s m args c cl D tc ad N nL cc own Ts X) (hcl : cl.length ≤ 50) (hCl : ClsOK Ts cl) (hFl : FldOK Ts X.2.2.2.2.2 cl own P) {pc ix : Nat} {ls : LV} {st : List Value} {h : List AE} {k : KP} (hdg : decode cc pc = .ok (.putfield ix, 3))
    (hk : ∀ ls' st' h', k ls' st' h' → WW p l e R s m args below meth c cells slots Q cl D tc ad N nL (pc + 3) ls' st' h')
    (hx : x_step P CT d nL ty (WW p l e R s m args below meth c cells slots Q cl D tc ad N nL) RT pc ls st h k (.putfield ix)) : WW p l e R s m args below meth c cells slots Q cl D tc ad N nL pc ls st h := by
  obtain ⟨hxe, hb, hml, hown, hts, hK, hI, hR⟩ := C0
  simp only [x_step] at hx
  split at hx
  · next v a r =>
    intro H locs la h1 h2 h3 h4
    unfold x_put at hx
    split at hx
    · next kk t cis hl =>
      have hmem := a_look_mem hl
      split at hx
      · next ci fs hc =>
        cases hm : a_mem ci cis && Nat.blt kk fs.length with
        | false => rw [hm] at hx; exact hx.elim
        | true =>
          rw [hm] at hx
          have hm1 : a_mem ci cis = true := (Bool.and_eq_true_iff.mp hm).1
          have hm2 : kk < fs.length := by have := (Bool.and_eq_true_iff.mp hm).2; simpa using this
          rcases hFl _ hmem ci (a_mem_mem hm1) with z | ⟨C, T, Nf, g1, g2, ⟨ref, g3, g4⟩, g5⟩
          · subst z
            obtain ⟨r9, z9, -⟩ := h2 a _ (wm_get0 hc)
            have := (List.getElem?_eq_some_iff.mp z9).1
            omega
          · obtain ⟨hin, ty0, q1, q2⟩ := hCl ci C T Nf g1
            have main : ∀ (u : FieldType) (v : Value), (T kk).2.2.2 = false → parseFieldDescriptor (T kk).2.2.1 = some u → narrow u (cv ad v) = cv ad v → fits u (cv ad v) = true → k ls r (h.set a (.inr (ci, fs.set kk v))) →
                W p l e R s m args below meth c H locs cells slots Q (F0 m pc la ((v :: .ref a :: r).map (cv ad))) := by
              intro u v w1 w2 w3 w4 w5
              have hlen : (h.set a (.inr (ci, fs.set kk v))).length = N := by rw [List.length_set]; exact h1
              rcases g3 with g3 | ⟨host, g3⟩
              · refine va_put hxe hb hts hin ty0 q1 q2 hown hK h2 (wm_D h1 hI) h3 a (wm_get0 hc) g1 kk g2 (hts _ g3) (hsame_of hts g4) w1 w2 w3 w4 (by rw [List.length_map]; exact hm2) hdg fun H1 locs1 hP1 hD1 hS1 => ?_
                rw [fs_set] at hP1
                have hP1 : va_P D cl ((wm tc ad 0 h).set a (ad a, ce tc ad (.inr (ci, fs.set kk v)))) H1 := hP1
                rw [wm_set0] at hP1
                exact hk _ _ _ w5 H1 locs1 la hlen hP1 hS1 h4
              · refine va_putN hxe hb hts hin ty0 q1 q2 hown hK h2 (wm_D h1 hI) h3 a (wm_get0 hc) g1 kk g2 (va_Nw.use rfl (hR.2.2.2.2.2 _ g3)) (hsame_of hts g4) w1 w2 w3 w4 (by rw [List.length_map]; exact hm2) hdg fun H1 locs1 hP1 hD1 hS1 => ?_
                rw [fs_set] at hP1
                have hP1 : va_P D cl ((wm tc ad 0 h).set a (ad a, ce tc ad (.inr (ci, fs.set kk v)))) H1 := hP1
                rw [wm_set0] at hP1
                exact hk _ _ _ w5 H1 locs1 la hlen hP1 hS1 h4
            have nf : t = 0 ∨ t = 1 ∨ t = 2 → (T kk).2.2.2 = false ∧ ∃ u, parseFieldDescriptor (T kk).2.2.1 = some u ∧ f_kind t u := by
              intro ht
              rcases g5 with g5 | g5
              · have g5 : t = 9 := g5
                omega
              · exact g5
            have rr : ∀ (v : Value), (∃ q, v = .ref q) ∨ v = .null → (bif Nat.beq t 2 then l_put fs kk v (fun fs' => l_put h a (.inr (ci, fs')) (fun h' => k ls r h')) else False) → W p l e R s m args below meth c H locs cells slots Q (F0 m pc la ((v :: .ref a :: r).map (cv ad))) := by
              intro v hv hy
              cases hb2 : Nat.beq t 2 with
              | false => rw [hb2] at hy; exact hy.elim
              | true =>
                rw [hb2] at hy
                have hy := l_put_eq _ _ _ _ (l_put_eq _ _ _ _ hy)
                have ht := Nat.eq_of_beq_eq_true hb2
                subst ht
                obtain ⟨n1, u, n2, n3⟩ := nf (Or.inr (Or.inr rfl))
                refine main u v n1 n2 ?_ ?_ hy
                · rcases n3 with ⟨n, rfl⟩ | ⟨w, rfl⟩ <;> rcases hv with ⟨q, rfl⟩ | rfl <;> rfl
                · rcases n3 with ⟨n, rfl⟩ | ⟨w, rfl⟩ <;> rcases hv with ⟨q, rfl⟩ | rfl <;> rfl
            simp only [cond_true] at hx
            cases v with
            | int x =>
              obtain ⟨x1, x2⟩ := hx
              have x2 := l_put_eq _ _ _ _ (l_put_eq _ _ _ _ x2)
              cases b0 : Nat.beq t 0 with
              | true =>
                have ht := Nat.eq_of_beq_eq_true b0
                subst ht
                obtain ⟨n1, u, n2, n3⟩ := nf (Or.inl rfl)
                have n3 : u = .int := n3
                subst n3
                exact main .int (.int x) n1 n2 rfl rfl x2
              | false =>
                cases b1 : Nat.beq t 1 with
                | false => rw [b0, b1] at x1; exact x1.elim
                | true =>
                  rw [b0, b1] at x1
                  have x1 : x = 0 ∨ x = 1 := x1
                  have ht := Nat.eq_of_beq_eq_true b1
                  subst ht
                  obtain ⟨n1, u, n2, n3⟩ := nf (Or.inr (Or.inl rfl))
                  have n3 : u = .boolean := n3
                  subst n3
                  exact main .boolean (.int x) n1 n2 (by rcases x1 with rfl | rfl <;> rfl) (by rcases x1 with rfl | rfl <;> rfl) x2
            | ref q => exact rr (.ref q) (Or.inl ⟨q, rfl⟩) hx
            | null => exact rr .null (Or.inr rfl) hx
            | _ => exact hx.elim
      · exact hx.elim
    · exact hx.elim
  · exact hx.elim
theorem x_own_eq {h : List AE} {i t n : Nat} {f : Nat → Int32} (hx : x_own h i t = some (n, f)) : l_get h i = some (.inl (t, n, .inl f)) := by
  unfold x_own at hx
  split at hx
  · next t' n' f' hc =>
    cases hb : Nat.beq t' t with
    | false => rw [hb] at hx; cases hx
    | true =>
      rw [hb] at hx
      cases hx
      rw [Nat.eq_of_beq_eq_true hb] at hc
      exact hc
  · cases hx
theorem x_ints_eq {h : List AE} {i t n : Nat} {f : Nat → Int32} (hx : x_ints P h i t = some (n, f)) : l_get h i = some (.inl (t, n, .inl f)) ∨ (i, t, n, f) ∈ P.2.2.2.2.2 := by
  unfold x_ints at hx
  split at hx
  · next t' n' f' hc =>
    cases hb : Nat.beq t' t with
    | false => rw [hb] at hx; cases hx
    | true =>
      rw [hb] at hx
      cases hx
      rw [Nat.eq_of_beq_eq_true hb] at hc
      exact Or.inl hc
  · cases hx
  · split at hx
    · next t' n' f' hc =>
      cases hb : Nat.beq t' t with
      | false => rw [hb] at hx; cases hx
      | true =>
        rw [hb] at hx
        cases hx
        rw [Nat.eq_of_beq_eq_true hb] at hc
        exact Or.inr (a_look_mem hc)
    · cases hx
theorem x_refs_eq {h : List AE} {i t n : Nat} {f : Nat → Option Nat} (hx : x_refs h i = some (t, n, f)) : l_get h i = some (.inl (t, n, .inr (.inr (.inr (.inr f))))) := by
  unfold x_refs at hx
  split at hx
  · next t' n' f' hc => cases hx; exact hc
  · cases hx
theorem x_len_eq {h : List AE} {i n : Nat} (hx : x_len P h i = some n) : (∃ t x, t < 5 ∧ l_get h i = some (.inl (t, n, x))) ∨ ∃ t f, (i, t, n, f) ∈ P.2.2.2.2.2 := by
  unfold x_len at hx
  split at hx
  · next t' n' x' hc =>
    cases hb : Nat.blt t' 5 with
    | false => rw [hb] at hx; cases hx
    | true => rw [hb] at hx; cases hx; exact Or.inl ⟨_, _, by simpa using hb, hc⟩
  · cases hx
  · split at hx
    · next t' n' f' hc => cases hx; exact Or.inr ⟨_, _, a_look_mem hc⟩
    · cases hx
theorem t_lt {t : Nat} {tc : Nat → ClassId} (h : t < 5) : ∃ u, (TY tc)[t]? = some (tc t, u) := by
  match t, h with
  | 0, _ => exact ⟨_, rfl⟩
  | 1, _ => exact ⟨_, rfl⟩
  | 2, _ => exact ⟨_, rfl⟩
  | 3, _ => exact ⟨_, rfl⟩
  | 4, _ => exact ⟨_, rfl⟩
theorem ce_fst (tc : Nat → ClassId) (ad : Nat → Nat) (t n : Nat) (x) : ∃ y, ce tc ad (.inl (t, n, x)) = .inl (tc t, n, y) := by
  match x with
  | .inl f => exact ⟨_, rfl⟩
  | .inr (.inl f) => exact ⟨_, rfl⟩
  | .inr (.inr (.inl f)) => exact ⟨_, rfl⟩
  | .inr (.inr (.inr (.inl f))) => exact ⟨_, rfl⟩
  | .inr (.inr (.inr (.inr f))) => exact ⟨_, rfl⟩
theorem snd_arr (C0 : CX p s m args c cl D tc ad N nL cc own Ts X) (hF : FarOK Ts X own P) {pc : Nat} {i : Instr} {ls : LV} {st : List Value} {h : List AE} {k : KP} (hdg : decode cc pc = .ok (i, 1))
    (hi : i = .arraylength ∨ i = .iaload ∨ i = .baload ∨ i = .iastore ∨ i = .bastore ∨ i = .aaload)
    (hk : ∀ ls' st' h', k ls' st' h' → WW p l e R s m args below meth c cells slots Q cl D tc ad N nL (pc + 1) ls' st' h')
    (hx : x_step P CT d nL ty (WW p l e R s m args below meth c cells slots Q cl D tc ad N nL) RT pc ls st h k i) : WW p l e R s m args below meth c cells slots Q cl D tc ad N nL pc ls st h := by
  obtain ⟨hxe, hb, hml, hown, hts, hK, hI, hR⟩ := C0
  rcases hi with rfl | rfl | rfl | rfl | rfl | rfl
  · simp only [x_step] at hx
    split at hx
    · next a r =>
      split at hx
      · next n hn =>
        intro H locs la h1 h2 h3 h4
        rcases x_len_eq hn with ⟨t, x, ht, hc⟩ | ⟨t, f, hc⟩
        · obtain ⟨y, hy⟩ := ce_fst tc ad t n x
          have hw := wm_get0 (tc := tc) (ad := ad) hc
          rw [hy] at hw
          obtain ⟨u, hu⟩ := t_lt (tc := tc) ht
          exact va_alen hxe hb hK h2 a t hw hu rfl hdg (hk _ _ _ hx H locs la h1 h2 h3 h4)
        · rcases hF.2.1 _ hc with ⟨-, g⟩ | ⟨-, g⟩
          · exact va_tlen hxe hb (hR.2.2.1 _ g) h3 rfl hdg (hk _ _ _ hx H locs la h1 h2 h3 h4)
          · exact va_tlen hxe hb (hR.2.2.1 _ g) h3 rfl hdg (hk _ _ _ hx H locs la h1 h2 h3 h4)
      · exact hx.elim
    · exact hx.elim
  · simp only [x_step] at hx
    split at hx
    · next i a r =>
      split at hx
      · next n f hn =>
        intro H locs la h1 h2 h3 h4
        rcases x_ints_eq hn with hc | hc
        · exact va_iald hxe hb hK h2 a 0 (wm_get0 hc) rfl hx.1 hdg (hk _ _ _ hx.2 H locs la h1 h2 h3 h4)
        · rcases hF.2.1 _ hc with ⟨-, g⟩ | ⟨z, -⟩
          · exact va_ti hxe hb (hR.2.2.1 _ g) h3 hx.1 rfl hdg (hk _ _ _ hx.2 H locs la h1 h2 h3 h4)
          · cases z
      · exact hx.elim
    · exact hx.elim
  · simp only [x_step] at hx
    split at hx
    · next i a r =>
      split at hx
      · next n f hn =>
        intro H locs la h1 h2 h3 h4
        rcases x_ints_eq hn with hc | hc
        · exact va_bald hxe hb hK h2 a 1 (wm_get0 hc) rfl hx.1 hdg (hk _ _ _ hx.2 H locs la h1 h2 h3 h4)
        · rcases hF.2.1 _ hc with ⟨z, -⟩ | ⟨-, g⟩
          · cases z
          · exact va_tb hxe hb (hR.2.2.1 _ g) h3 hx.1 rfl hdg (hk _ _ _ hx.2 H locs la h1 h2 h3 h4)
      · split at hx
        · next n f hn =>
          intro H locs la h1 h2 h3 h4
          exact va_zald hxe hb hK h2 a 2 (wm_get0 (x_own_eq hn)) rfl hx.1 hdg (hk _ _ _ hx.2 H locs la h1 h2 h3 h4)
        · exact hx.elim
    · exact hx.elim
  · simp only [x_step] at hx
    split at hx
    · next x i a r =>
      split at hx
      · next n f hn =>
        intro H locs la h1 h2 h3 h4
        refine va_iast hxe hb hK h2 (wm_D h1 hI) h3 a 0 (wm_get0 (x_own_eq hn)) rfl hx.1 hdg fun H1 locs1 hP1 hD1 hS1 => ?_
        have hP1 : va_P D cl ((wm tc ad 0 h).set a (ad a, ce tc ad (.inl (0, n, .inl (upd f i.toNatClampNeg x))))) H1 := hP1
        rw [wm_set0] at hP1
        exact hk _ _ _ (l_put_eq _ _ _ _ hx.2) H1 locs1 la (by rw [List.length_set]; exact h1) hP1 hS1 h4
      · exact hx.elim
    · exact hx.elim
  · simp only [x_step] at hx
    split at hx
    · next x i a r =>
      split at hx
      · next n f hn =>
        intro H locs la h1 h2 h3 h4
        refine va_bast hxe hb hK h2 (wm_D h1 hI) h3 a 1 (wm_get0 (x_own_eq hn)) rfl hx.1 hdg fun H1 locs1 hP1 hD1 hS1 => ?_
        have hP1 : va_P D cl ((wm tc ad 0 h).set a (ad a, ce tc ad (.inl (1, n, .inl (upd f i.toNatClampNeg (vp_nar .byte x)))))) H1 := hP1
        rw [wm_set0] at hP1
        exact hk _ _ _ (l_put_eq _ _ _ _ hx.2) H1 locs1 la (by rw [List.length_set]; exact h1) hP1 hS1 h4
      · split at hx
        · next n f hn =>
          intro H locs la h1 h2 h3 h4
          refine va_zast hxe hb hK h2 (wm_D h1 hI) h3 a 2 (wm_get0 (x_own_eq hn)) rfl hx.1 hdg fun H1 locs1 hP1 hD1 hS1 => ?_
          have hP1 : va_P D cl ((wm tc ad 0 h).set a (ad a, ce tc ad (.inl (2, n, .inl (upd f i.toNatClampNeg (vp_nar .boolean x)))))) H1 := hP1
          rw [wm_set0] at hP1
          exact hk _ _ _ (l_put_eq _ _ _ _ hx.2) H1 locs1 la (by rw [List.length_set]; exact h1) hP1 hS1 h4
        · exact hx.elim
    · exact hx.elim
  · simp only [x_step] at hx
    split at hx
    · next i a r =>
      split at hx
      · next t n f hn =>
        obtain ⟨g1, g2, q, g3, g4⟩ := hx
        intro H locs la h1 h2 h3 h4
        have hf : va_rf ((f i.toNatClampNeg).map ad) = cv ad (.ref q) := by rw [g3]; rfl
        rcases g1 with rfl | rfl
        · refine va_aldq hxe hb hK h2 a 3 (wm_get0 (x_refs_eq hn)) rfl g2 hdg ?_
          rw [hf]
          exact hk _ _ _ g4 H locs la h1 h2 h3 h4
        · refine va_aldq hxe hb hK h2 a 4 (wm_get0 (x_refs_eq hn)) rfl g2 hdg ?_
          rw [hf]
          exact hk _ _ _ g4 H locs la h1 h2 h3 h4
      · exact hx.elim
    · exact hx.elim
end SN2
end
section
/-! the abstract machine is right: calls -/
theorem w_back_get : ∀ (em : List Nat) (cs h : List AE), em.Nodup → em.length = cs.length → (∀ i ∈ em, i < h.length) → (w_back h em cs).length = h.length ∧ ∀ (k : Nat) (c : AE), (w_back h em cs)[k]? = some c → (∃ i : Nat, em[i]? = some k ∧ cs[i]? = some c) ∨ (k ∉ em ∧ h[k]? = some c)
  | [], cs, h, _, _, _ => by
    refine ⟨by cases cs <;> rfl, fun k c hc => Or.inr ⟨List.not_mem_nil, ?_⟩⟩
    cases cs <;> exact hc
  | i :: em, [], h, _, hl, _ => by simp at hl
  | i :: em, c0 :: cs, h, hn, hl, hb => by
    obtain ⟨hn1, hn2⟩ := List.nodup_cons.mp hn
    have hb0 := hb i List.mem_cons_self
    obtain ⟨e1, e2⟩ := w_back_get em cs (h.set i c0) hn2 (by simpa using hl) (fun j hj => by rw [List.length_set]; exact hb j (List.mem_cons_of_mem _ hj))
    refine ⟨by rw [w_back, e1, List.length_set], fun k c hc => ?_⟩
    rw [w_back] at hc
    rcases e2 k c hc with ⟨j, h1, h2⟩ | ⟨h1, h2⟩
    · exact Or.inl ⟨j + 1, by simpa using h1, by simpa using h2⟩
    · by_cases hk : k = i
      · subst hk
        rw [List.getElem?_set_self hb0] at h2
        exact Or.inl ⟨0, rfl, by simpa using h2⟩
      · rw [List.getElem?_set_ne (Ne.symm hk)] at h2
        exact Or.inr ⟨fun z => (List.mem_cons.mp z).elim hk h1, h2⟩
theorem cv_r (ad : Nat → Nat) (em : List Nat) (v : Value) : cv ad (r_v em v) = cv (fun i => ad (r_n em i)) v := by cases v <;> rfl
theorem ce_r (tc : Nat → ClassId) (ad : Nat → Nat) (em : List Nat) (c : AE) : ce tc ad (r_e em c) = ce tc (fun i => ad (r_n em i)) c := by
  rcases c with ⟨t, n, x⟩ | ⟨ci, fs⟩
  · match x with
    | .inl f => rfl
    | .inr (.inl f) => rfl
    | .inr (.inr (.inl f)) => rfl
    | .inr (.inr (.inr (.inl f))) => rfl
    | .inr (.inr (.inr (.inr f))) =>
      refine congrArg (fun g : Nat → Option Nat => (Sum.inl (tc t, n, Sum.inr (Sum.inr (Sum.inr (Sum.inr g)))) : va_E)) (funext fun j => ?_)
      show ((f j).map (r_n em)).map ad = (f j).map (fun i => ad (r_n em i))
      cases f j <;> rfl
  · show Sum.inr (ci, (fs.map (r_v em)).map (cv ad)) = Sum.inr (ci, fs.map (cv (fun i => ad (r_n em i))))
    rw [List.map_map]
    congr 2
    apply List.map_congr_left
    intro v _
    exact cv_r ad em v
section SN3
variable {p : Program} {l : Launch} {e : Env} {R : Room} {s : State} {m : MethodId} {args : Array Value} {below : List Frame} {meth : Method} {c : Code} {cells slots : Nat} {Q : State → Prop}
variable {cl : List vw_C} {D : va_G} {tc : Nat → ClassId} {ad : Nat → Nat} {N nL : Nat} {cc : ByteArray} {own : String} {Ts TB : List Cond} {X : RoT} {P : Pool} {d : Nat} {ty : Option FieldType} {RT : RP}
def W_in (cl : List vw_C) (X : RoT) (D : va_G) (tc : Nat → ClassId) (ad : Nat → Nat) (h : List AE) (U : State) : Prop :=
  va_P D cl (wm tc ad 0 h) U.heap ∧ va_K D cl (TY tc) U ∧ INJ ad h.length ∧ RO X ad (AA ad h.length) U U.heap
def Q_ct (cl : List vw_C) (D : va_G) (tc : Nat → ClassId) (ad : Nat → Nat) (h : List AE) (PP : RP) : Array Value → State → Outcome → State → Prop := fun _ st o t =>
  (∃ r h', o = .returned (r.map (cv ad)) ∧ PP r h' ∧ h'.length = h.length ∧ va_P D cl (wm tc ad 0 h') t.heap) ∧ va_F (AA ad h.length) st t
abbrev MT : Type := Nat → MethodName × ByteArray × Nat × Option FieldType
def cdOf (mt : MT) (j : Nat) : Cond := Cond.code (mt j).1 (mt j).2.1 (mt j).2.2.1 (mt j).2.2.2
def rmOf (d : Nat) : Room := { frames := d, cells := 0, slots := 0, locals := 60 * d }
/-- the contract of method j at rank d -/
def CTof (l : Launch) (TB : List Cond) (mt : MT) (cl : List vw_C) (X : RoT) : CTP := fun d j as h PP =>
  ∀ (D : va_G) (tc : Nat → ClassId) (ad : Nat → Nat), Met l (mt j).1 (cdOf mt j :: TB) (rmOf d) (va_Pc (as.map (cv ad)) (W_in cl X D tc ad h)) (Q_ct cl D tc ad h PP) 0 0 (AA ad h.length)
theorem W_in.blind (hX : RoOK X) {as : List Value} {h : List AE} : FrameBlind (va_Pc as (W_in cl X D tc ad h)) := fun a U g mk q => by
  obtain ⟨q0, q1, q2, q3, q4⟩ := q
  refine ⟨q0, q1, va_K.moved (u := U) (U := U.calling g mk a) (Vm.Alike.refl U.vm) q2, q3, ?_⟩
  obtain ⟨h1, h2, h3, h4, h5, h6⟩ := q4
  have hA : U.vm.Alike (U.calling g mk a).vm := Vm.Alike.refl U.vm
  refine ⟨fun q m => va_O.moved hA (h1 q m), fun q m => va_OF.moved hA (h2 q m), fun q m => va_T.moved hA (h3 q m), fun q m => va_Z.moved hA (h4 q m), fun q m => vk_R.same rfl (h5 q m), fun w m => ?_⟩
  have hn := hX.2.2.2.2.2 w m
  have hw := h6 w m
  cases w with
  | fieldLinkNest a b c d e f => exact va_Nw.same rfl rfl hw
  | methodLinkNest a b c d => exact va_Nw.same rfl rfl hw
  | _ => exact hn.elim
theorem call_go {a : Array Value} {pc : Nat} {la : Array Slot} {st0 rest : List Value} {H : Heap} {locs : List Loc} {ad' : Nat → Nat} {h0 : List AE} {PP : RP}
    (hr : va_Run p l e R s m args below meth c H locs cells slots 0 0 (F0 m pc la st0) rest (Q_ct cl D tc ad' h0 PP a) (AA ad' h0.length)) (hS : va_S (AA ad N) s.heap H locs) (hsub : ∀ q, AA ad' h0.length q → AA ad N q)
    (kk : ∀ r h1 H1 locs1, PP r h1 → h1.length = h0.length → va_P D cl (wm tc ad' 0 h1) H1 → H.size ≤ H1.size → (∀ q : Nat, q < H.size → ¬ AA ad' h0.length q → H1[q]? = H[q]?) → va_S (AA ad N) s.heap H1 locs1 → W p l e R s m args below meth c H1 locs1 cells slots Q (F0 m (pc + 3) la ((r.map (cv ad')).toList ++ rest))) :
    W p l e R s m args below meth c H locs cells slots Q (F0 m pc la st0) := by
  intro T hT X9
  obtain ⟨v, st₀, t, T', L, h0', X', hL, e1, e2, ⟨⟨r, h1, hv, hp, hl, hw⟩, hz, hk⟩, st⟩ := hr T hT X9
  cases hv
  rw [h0'] at hz hk
  obtain ⟨t2, a1, b1⟩ := kk r h1 T'.heap (locs ++ L) hp hl (by rw [e1]; exact hw) (by rw [e1]; exact hz) (fun q g1 g2 => by rw [e1]; exact hk q g1 g2)
    ⟨Nat.le_trans hS.1 (by rw [e1]; exact hz), fun q g1 g2 => by rw [e1, hk q (Nat.lt_of_lt_of_le g1 hS.1) (fun z => g2 (hsub q z))]; exact hS.2.1 q g1 g2, fun q hq => by
      rcases List.mem_append.mp hq with g | g
      · exact hS.2.2 q g
      · exact hsub _ (hL q g)⟩ T' rfl X'
  exact ⟨t2, st t2 a1, b1⟩
/-- what a call site must show of its callee, whoever it is -/
def CSite (p : Program) (l : Launch) (e : Env) (R : Room) (s : State) (m : MethodId) (args : Array Value) (below : List Frame) (meth : Method) (c : Code) (cells slots : Nat) (TB : List Cond) (mt : MT) (d j pc : Nat) (H : Heap) (locs : List Loc) (la : Array Slot) (as rest : List Value) (st0 : List Value) : Prop :=
  ∀ (d1 : Nat), d1 < d → ∀ (Pc : Array Value → State → Prop) (Qc : Array Value → State → Outcome → State → Prop) (free : Addr → Prop), Met l (mt j).1 (cdOf mt j :: TB) (rmOf d1) Pc Qc 0 0 free → FrameBlind Pc →
    (∀ U : State, U.heap = H → s.WarmedH U.vm → Pc as.toArray U) → va_Run p l e R s m args below meth c H locs cells slots 0 0 (F0 m pc la st0) rest (Qc as.toArray) free
theorem call_any {mt : MT} (hX : RoOK X) (hK : va_K D cl (TY tc) s) (hI : INJ ad N) (hR : RO X ad (AA ad N) s s.heap) {j pc : Nat} {H : Heap} {locs : List Loc} {la : Array Slot} {as rest st0 : List Value} {h : List AE} {k : Option Value → List AE → Prop}
    (site : CSite p l e R s m args below meth c cells slots TB mt d j pc H locs la (as.map (cv ad)) rest st0)
    (hx : CALL (CTof l TB mt cl X) d j as h k) (h1 : h.length = N) (h2 : va_P D cl (wm tc ad 0 h) H) (h3 : va_S (AA ad N) s.heap H locs)
    (kk : ∀ r h' H1 locs1, k r h' → h'.length = N → va_P D cl (wm tc ad 0 h') H1 → va_S (AA ad N) s.heap H1 locs1 → W p l e R s m args below meth c H1 locs1 cells slots Q (F0 m (pc + 3) la ((r.map (cv ad)).toList ++ rest))) :
    W p l e R s m args below meth c H locs cells slots Q (F0 m pc la st0) := by
  have hro : ∀ U : State, U.heap = H → s.WarmedH U.vm → RO X ad (AA ad N) U U.heap := fun U hU hW => hR.go hX hW (fun a g1 g2 => by rw [hU]; exact h3.2.1 a g1 g2)
  rcases hx with ⟨d1, PP, hd, hct, hgo⟩ | ⟨d1, em, as0, h0, PP, hd, hct, has, hsub, hnd, hle, hgo⟩
  · have hrun := site d1 hd _ _ _ (hct D tc ad) (W_in.blind hX) (fun U hU hW => ⟨rfl, by rw [hU]; exact h2, va_K.moved hW.alike hK, by rw [h1]; exact hI, by rw [h1]; exact hro U hU hW⟩)
    refine call_go hrun h3 (fun q z => by rw [h1] at z; exact z) fun r h' H1 locs1 g1 g2 g3 g4 g5 g6 => ?_
    exact kk r h' H1 locs1 (hgo r h' g1 g2) (by rw [g2, h1]) g3 g6
  · have hlen : em.length = h0.length := by have := congrArg List.length hsub; simpa using this
    have hat : ∀ (i : Nat) (c0 : AE), h0[i]? = some c0 → ∃ q, em[i]? = some q ∧ h[q]? = some (r_e em c0) := by
      intro i c0 hc
      have e9 := congrArg (fun z => z[i]?) hsub
      simp only [List.getElem?_map, hc, Option.map_some] at e9
      cases he : em[i]? with
      | none => rw [he] at e9; simp at e9
      | some q =>
        rw [he] at e9
        simp only [Option.map_some, Option.some.injEq, l_get_eq] at e9
        exact ⟨q, rfl, e9⟩
    have hrn : ∀ (i q : Nat), em[i]? = some q → r_n em i = q := by
      intro i q hq
      unfold r_n
      rw [l_get_eq, hq]
    have hltN : ∀ q, q ∈ em → q < N := by
      intro q hq
      obtain ⟨i, hi⟩ := List.getElem?_of_mem hq
      have hil : i < h0.length := by rw [← hlen]; exact (List.getElem?_eq_some_iff.mp hi).1
      obtain ⟨q', g1, g2⟩ := hat i _ (List.getElem?_eq_getElem hil)
      rw [hi] at g1
      cases g1
      rw [← h1]
      exact (List.getElem?_eq_some_iff.mp g2).1
    have hAA : ∀ q, AA (fun i => ad (r_n em i)) h0.length q → AA ad N q := by
      rintro q ⟨i, hi, rfl⟩
      have hi' : i < em.length := by rw [hlen]; exact hi
      have hq := List.getElem?_eq_getElem hi'
      exact ⟨em[i], hltN _ (List.mem_of_getElem? hq), by show ad (r_n em i) = ad em[i]; rw [hrn i _ hq]⟩
    have hI' : INJ (fun i => ad (r_n em i)) h0.length := by
      intro i j hi hj hij
      have hi' : i < em.length := by rw [hlen]; exact hi
      have hj' : j < em.length := by rw [hlen]; exact hj
      have e1 := List.getElem?_eq_getElem hi'
      have e2 := List.getElem?_eq_getElem hj'
      simp only [hrn i _ e1, hrn j _ e2] at hij
      have := hI _ _ (hltN _ (List.mem_of_getElem? e1)) (hltN _ (List.mem_of_getElem? e2)) hij
      exact (List.getElem?_inj hi' hnd).mp (by rw [e1, e2, this])
    have hfar : ∀ i, 1000 ≤ i → ad (r_n em i) = ad i := by
      intro i hi
      have : l_get em i = none := by rw [l_get_eq, List.getElem?_eq_none_iff]; omega
      unfold r_n
      rw [this]
    have hP0 : va_P D cl (wm tc (fun i => ad (r_n em i)) 0 h0) H := by
      intro i q hq
      rw [wm_get, Nat.zero_add] at hq
      cases hc : h0[i]? with
      | none => rw [hc] at hq; simp at hq
      | some c0 =>
        rw [hc] at hq
        simp only [Option.map_some, Option.some.injEq] at hq
        obtain ⟨q1, g1, g2⟩ := hat i c0 hc
        have g3 := h2 q1 _ (wm_get0 (by rw [l_get_eq]; exact g2))
        rw [ce_r] at g3
        rw [← hq, hrn i q1 g1]
        exact g3
    have has' : as0.map (cv (fun i => ad (r_n em i))) = as.map (cv ad) := by
      rw [← has, List.map_map]
      apply List.map_congr_left
      intro v _
      exact (cv_r ad em v).symm
    have hrun := site d1 hd _ _ _ (hct D tc (fun i => ad (r_n em i))) (W_in.blind hX) (fun U hU hW => ⟨by rw [has'], by rw [hU]; exact hP0, va_K.moved hW.alike hK, hI', ((hro U hU hW).ren hX hfar).narrow hAA⟩)
    refine call_go hrun h3 hAA fun r h' H1 locs1 g1 g2 g3 g4 g5 g6 => ?_
    obtain ⟨b1, b2⟩ := w_back_get em (h'.map (r_e em)) h hnd (by rw [List.length_map, g2, hlen]) (fun i hi => by rw [h1]; exact hltN i hi)
    have hval : (r.map (cv (fun i => ad (r_n em i)))).toList = ((r_o em r).map (cv ad)).toList := by
      cases r with
      | none => rfl
      | some v => show [cv _ v] = [cv ad (r_v em v)]; rw [cv_r]
    rw [hval]
    refine kk (r_o em r) _ H1 locs1 (hgo r h' g1 g2) (by rw [b1, h1]) ?_ g6
    intro i q hq
    rw [wm_get, Nat.zero_add] at hq
    cases hc : (w_back h em (h'.map (r_e em)))[i]? with
    | none => rw [hc] at hq; simp at hq
    | some c0 =>
      rw [hc] at hq
      simp only [Option.map_some, Option.some.injEq] at hq
      rw [← hq]
      rcases b2 i c0 hc with ⟨k0, z1, z2⟩ | ⟨z1, z2⟩
      · rw [List.getElem?_map] at z2
        cases hc' : h'[k0]? with
        | none => rw [hc'] at z2; simp at z2
        | some c1 =>
          rw [hc'] at z2
          simp only [Option.map_some, Option.some.injEq] at z2
          have z3 := g3 k0 _ (wm_get0 (by rw [l_get_eq]; exact hc'))
          simp only [hrn k0 i z1] at z3
          rw [← z2, ce_r]
          exact z3
      · have z3 := h2 i _ (wm_get0 (by rw [l_get_eq]; exact z2))
        refine z3.kept (g5 _ z3.lt ?_)
        rintro ⟨i9, hi9, he9⟩
        have hi9' : i9 < em.length := by rw [hlen]; exact hi9
        have e1 := List.getElem?_eq_getElem hi9'
        simp only [hrn i9 _ e1] at he9
        have hiN : i < N := by rw [← h1]; exact (List.getElem?_eq_some_iff.mp z2).1
        have := hI _ _ hiN (hltN _ (List.mem_of_getElem? e1)) he9
        rw [this] at z1
        exact z1 (List.mem_of_getElem? e1)
end SN3
end
section
/-! the abstract machine is right: call sites, returns, all instructions, bodies and contracts -/
def notMH (n : String) : Prop := n ≠ "java/lang/invoke/MethodHandle" ∧ n ≠ "java/lang/invoke/VarHandle"
def arOK (n : Nat) (y : MethodName) : Prop := (parseMethodDescriptor y.desc).map (fun d => d.parameters.length) = some n
/-- a method that can be called: its code is among the words, its locals are few -/
def MOK (TB : List Cond) (mt : MT) (j : Nat) : Prop := cdOf mt j ∈ TB ∧ (mt j).2.2.1 ≤ 41
def ClN (cl : List vw_C) (ci : Nat) (C : String) : Prop := (ci = 50 ∧ C = "java/lang/String") ∨ ∃ T N, cl[ci]? = some (C, T, N)
def VOK (TB : List Cond) (mt : MT) (own : String) (idx na : Nat) (C : String) (j : Nat) : Prop :=
  ((mt j).1.cls = C ∧ notMH C ∧ arOK na (mt j).1 ∧ ∀ w ∈ wsV own idx C (mt j).1 [], w ∈ TB) ∨
  (∃ x owner, (mt j).1 = ⟨owner, x.name, x.desc⟩ ∧ notMH owner ∧ arOK na x ∧ ∀ w ∈ va_wsU own idx C owner x (mt j).1 [], w ∈ TB) ∨
  (∃ x owner, notMH owner ∧ arOK na x ∧ (∀ w ∈ va_wsO own idx C owner x (mt j).1 [], w ∈ TB) ∧ ∃ b0 m0 r0, Cond.code ⟨owner, x.name, x.desc⟩ b0 m0 r0 ∈ TB)
def SOK (TB : List Cond) (mt : MT) (own : String) (idx na : Nat) (j : Nat) : Prop := notMH (mt j).1.cls ∧ arOK na (mt j).1 ∧ Cond.methodLink own idx (mt j).1 ∈ TB ∧ Cond.static (mt j).1 ∈ TB ∧ Cond.initialized (mt j).1.cls ∈ TB
def UOK (TB : List Cond) (mt : MT) (own : String) (idx na : Nat) (j : Nat) : Prop :=
  ((mt j).1.name ≠ "<init>" ∧ arOK na (mt j).1 ∧ ∀ w ∈ va_wsSU own idx (mt j).1 [], w ∈ TB) ∨
  (∃ x owner, (mt j).1 = ⟨owner, x.name, x.desc⟩ ∧ x.name ≠ "<init>" ∧ arOK na x ∧ Cond.methodLink own idx x ∈ TB ∧ Cond.sameMethod x.cls owner x.name x.desc ∈ TB ∧ Cond.superclass own x.cls ∈ TB ∧ Cond.superclass x.cls owner ∈ TB ∧ Cond.instanceMethod (mt j).1 ∈ TB ∧ Cond.initialized owner ∈ TB)
def CpOK (TB : List Cond) (mt : MT) (cl : List vw_C) (own : String) (P : Pool) : Prop := ∀ q ∈ P.2.1,
  (q.2.1 = 0 ∧ ∀ t ∈ q.2.2.2, MOK TB mt t.2 ∧ ∃ C, ClN cl t.1 C ∧ VOK TB mt own q.1 q.2.2.1 C t.2) ∨
  (q.2.1 = 1 ∧ ∀ t ∈ q.2.2.2, MOK TB mt t.2 ∧ SOK TB mt own q.1 q.2.2.1 t.2) ∨
  (q.2.1 = 2 ∧ ∀ t ∈ q.2.2.2, MOK TB mt t.2 ∧ (∃ C T N, cl[t.1]? = some (C, T, N)) ∧ UOK TB mt own q.1 q.2.2.1 t.2) ∨
  (q.2.1 = 5 ∧ Cond.methodLink own q.1 arraycopyName ∈ TB ∧ Cond.native arraycopyName ∈ TB ∧ Cond.static arraycopyName ∈ TB ∧ Cond.initialized "java/lang/System" ∈ TB)
def TbOK (TB : List Cond) : Prop := ∀ w ∈ TB, (w.onTables && w.keeps) = true ∨ ∃ ty, w = .arrayClass ty
section SN4
variable {p : Program} {l : Launch} {e : Env} {R : Room} {s : State} {m : MethodId} {args : Array Value} {below : List Frame} {meth : Method} {c : Code} {cells slots : Nat} {Q : State → Prop}
variable {cl : List vw_C} {D : va_G} {tc : Nat → ClassId} {ad : Nat → Nat} {N nL : Nat} {cc : ByteArray} {own : String} {Ts TB : List Cond} {X : RoT} {P : Pool} {d : Nat} {ty : Option FieldType} {RT : RP} {mt : MT}
theorem good_of {ws : List Cond} (hTB : TbOK TB) (hs : ∀ w ∈ TB, w ∈ Ts) (h : ∀ w ∈ ws, w ∈ TB) : GoodIn Ts ws := fun w hw => ⟨hs w (h w hw), hTB w (h w hw)⟩
theorem good_cd {j : Nat} {ws : List Cond} (hTB : TbOK TB) (hs : ∀ w ∈ TB, w ∈ Ts) (hm : MOK TB mt j) (h : ∀ w ∈ ws, w ∈ TB) : GoodIn Ts (ws ++ (cdOf mt j :: TB)) := good_of hTB hs fun w hw => by
  rcases List.mem_append.mp hw with hw | hw
  · exact h w hw
  · rcases List.mem_cons.mp hw with rfl | hw
    · exact hm.1
    · exact hw
theorem room_ok {j d1 : Nat} (hm : MOK TB mt j) (hd : d1 < d) (hRf : d ≤ R.frames) (hRl : 60 * d ≤ R.locals) : (rmOf d1).frames + 1 ≤ R.frames ∧ 8 + ((mt j).2.2.1 + 11) + (rmOf d1).locals ≤ R.locals := by
  have h2 := hm.2
  have e1 : (rmOf d1).frames = d1 := rfl
  have e2 : (rmOf d1).locals = 60 * d1 := rfl
  rw [e1, e2]
  omega
/-- the receiver: its cell, its name -/
theorem recv_ok (hK : va_K D cl (TY tc) s) (hR : RO X ad (AA ad N) s s.heap) (hstr : ∀ i, 1000 ≤ i → i < 1006 → (i, "java/lang/String") ∈ X.1) {h : List AE} {b ci : Nat} {C : String} {H : Heap} {locs : List Loc} (hcl : cl.length ≤ 50) (hk : x_kind h b = some ci) (hC : ClN cl ci C) (h2 : va_P D cl (wm tc ad 0 h) H) (h3 : va_S (AA ad N) s.heap H locs) :
    ∃ cellB : Cell, H[ad b]? = some cellB ∧ cellB.vm.isStatics = false ∧ s.vm.findClass C = some cellB.cls := by
  unfold x_kind at hk
  split at hk
  · next ci' fs hc =>
    cases hk
    rcases hC with ⟨rfl, rfl⟩ | ⟨T, Nf, hC⟩
    · obtain ⟨r9, z9, -⟩ := h2 b _ (wm_get0 hc)
      have := (List.getElem?_eq_some_iff.mp z9).1
      omega
    · exact va_recv hK h2 hC (wm_get0 hc)
  · cases hk
  · next hc =>
    cases hb : (Nat.ble 1000 b && Nat.blt b 1006) with
    | false => rw [hb] at hk; cases hk
    | true =>
      rw [hb] at hk
      cases hk
      rcases hC with ⟨-, rfl⟩ | ⟨T, Nf, hC⟩
      · have g1 := Nat.le_of_ble_eq_true (Bool.and_eq_true_iff.mp hb).1
        have g2 : b < 1006 := by have := (Bool.and_eq_true_iff.mp hb).2; simpa using this
        obtain ⟨cell, q1, q2, q3, -⟩ := (hR.1 _ (hstr b g1 g2)).kept h3.2.1
        exact ⟨cell, q1, q2, q3⟩
      · have := (List.getElem?_eq_some_iff.mp hC).1
        omega
theorem siteV (hx : p.tables.exec = Jvm.exec) (hb : c.code = cc) (hml : c.maxLocals = nL) (hown : s.vm.findClass own = some m.cls) (hts : ∀ w ∈ Ts, w.before args s = true) (hTB : TbOK TB) (hs : ∀ w ∈ TB, w ∈ Ts) (hRf : d ≤ R.frames) (hRl : 60 * d ≤ R.locals) (hcs : cells ≤ R.cells ∧ slots ≤ R.slots)
    {j pc idx na b : Nat} {C : String} {H : Heap} {locs : List Loc} {la : Array Slot} {as rest : List Value} (hm : MOK TB mt j) (hv : VOK TB mt own idx na C j) (hn : as.length = na) (hla : la.size = nL) (hcat : (rest.map fun v => v.category).sum ≤ 8) (hdg : decode cc pc = .ok (.invokevirtual idx, 3))
    (hrc : ∃ cellB : Cell, H[b]? = some cellB ∧ cellB.vm.isStatics = false ∧ s.vm.findClass C = some cellB.cls) :
    CSite p l e R s m args below meth c cells slots TB mt d j pc H locs la (.ref b :: as) rest (as.reverse ++ .ref b :: rest) := by
  intro d1 hd Pc Qc free hM hbl hpre
  have hfix : CallFix p m c cc nL s args Ts own := ⟨hx, hb, hml, hown, hts⟩
  have hroom := room_ok (R := R) hm hd hRf hRl
  rcases hv with ⟨h1, h2, h3, h4⟩ | ⟨x, owner, h1, h2, h3, h4⟩ | ⟨x, owner, h2, h3, h4, b0, m0, r0, h5⟩
  · refine va_runV (C := C) (index := idx) (n := na) (bytes := (mt j).2.1) (maxL := (mt j).2.2.1) (ret := (mt j).2.2.2) hfix hM (cwV na hts ?_ rfl rfl rfl ⟨h1, by rw [h1]; exact h2.1, by rw [h1]; exact h2.2, h3⟩ hroom) ⟨hbl, hrc, hpre⟩ rfl hn hla rfl (lv_room hcat) hdg hcs
    exact good_cd (ws := wsV own idx C (mt j).1 []) hTB hs hm h4
  · refine va_runU (C := C) (index := idx) (n := na) (bytes := (mt j).2.1) (maxL := (mt j).2.2.1) (ret := (mt j).2.2.2) hfix hM (va_cwU (owner := owner) (x := x) na hts ?_ rfl rfl rfl h1 ⟨h2.1, h2.2, h3⟩ hroom) ⟨hbl, hrc, hpre⟩ rfl hn hla rfl (lv_room hcat) hdg hcs
    exact good_cd (ws := va_wsU own idx C owner x (mt j).1 []) hTB hs hm h4
  · refine va_runU (C := C) (index := idx) (n := na) (bytes := (mt j).2.1) (maxL := (mt j).2.2.1) (ret := (mt j).2.2.2) hfix hM (va_cwO (owner := owner) (x := x) na hts ?_ rfl rfl rfl (hs _ h5) ⟨h2.1, h2.2, h3⟩ hroom) ⟨hbl, hrc, hpre⟩ rfl hn hla rfl (lv_room hcat) hdg hcs
    exact good_cd (ws := va_wsO own idx C owner x (mt j).1 []) hTB hs hm h4
theorem siteS (hx : p.tables.exec = Jvm.exec) (hb : c.code = cc) (hml : c.maxLocals = nL) (hown : s.vm.findClass own = some m.cls) (hts : ∀ w ∈ Ts, w.before args s = true) (hTB : TbOK TB) (hs : ∀ w ∈ TB, w ∈ Ts) (hRf : d ≤ R.frames) (hRl : 60 * d ≤ R.locals) (hcs : cells ≤ R.cells ∧ slots ≤ R.slots)
    {j pc idx na : Nat} {H : Heap} {locs : List Loc} {la : Array Slot} {as rest : List Value} (hm : MOK TB mt j) (hv : SOK TB mt own idx na j) (hn : as.length = na) (hla : la.size = nL) (hcat : (rest.map fun v => v.category).sum ≤ 8) (hdg : decode cc pc = .ok (.invokestatic idx, 3)) :
    CSite p l e R s m args below meth c cells slots TB mt d j pc H locs la as rest (as.reverse ++ rest) := by
  intro d1 hd Pc Qc free hM hbl hpre
  have hfix : CallFix p m c cc nL s args Ts own := ⟨hx, hb, hml, hown, hts⟩
  have hroom := room_ok (R := R) hm hd hRf hRl
  obtain ⟨h1, h2, h3, h4, h5⟩ := hv
  have hg : GoodIn Ts (cdOf mt j :: TB) := good_cd (ws := []) hTB hs hm (fun w h => by cases h)
  exact va_runS (index := idx) (n := na) (bytes := (mt j).2.1) (maxL := (mt j).2.2.1) (ret := (mt j).2.2.2) hfix hM ⟨callB_of na hts hg rfl rfl rfl (hts _ (hs _ h5)) (hts _ (hs _ h3)) ⟨h1.1, h1.2, h2⟩ hroom, hts _ (hs _ h4)⟩ ⟨hbl, hpre⟩ rfl hn hla rfl (lv_room hcat) hdg hcs
/-- super.m(..) where the class above inherits m from the one above it -/
theorem callSI {T : State} {locs : List Loc} (X9 : Stand p l e R s m args below meth c T locs cells slots) (hexec : p.tables.exec = Jvm.exec) {own owner : String} {index : Nat} {x y : MethodName} {bytes : ByteArray} {maxL : Nat} {ret : Option FieldType} (hy : y = ⟨owner, x.name, x.desc⟩)
    (hown : s.vm.findClass own = some m.cls) (hlink : (Cond.methodLink own index x).before args s = true) (hsame : (Cond.sameMethod x.cls owner x.name x.desc).before args s = true) (hsup : (Cond.superclass own x.cls).before args s = true) (hsup2 : (Cond.superclass x.cls owner).before args s = true)
    (hinst : (Cond.instanceMethod y).before args s = true) (hcode : (Cond.code y bytes maxL ret).before args s = true) (hno : x.name ≠ "<init>")
    {Wd : Nat} {Pre : Pt → Array Value → Prop} {Post : Pt → Array Value → Option Value → Pt → Prop} (hK : Back l R p e below s args y 3 Wd Pre Post)
    {b : Addr} {cellB : Cell} {kB : Class} (hcell : T.heap[b]? = some cellB) (hobj : cellB.vm.isStatics = false) (hkB : s.vm.classes[cellB.cls]? = some kB)
    {g : JFrame} (hg : g.method = m) (hsize : g.locals.size = c.maxLocals) {argsL rest : List Value} (hlen : ∀ sig, parseMethodDescriptor y.desc = some sig → argsL.length = sig.parameters.length)
    (hstack : g.stack = argsL.reverse ++ .ref b :: rest) (hW : 2 * g.monitorRoom + (rest.map fun v => v.category).sum ≤ Wd) (hdg : decode c.code g.pc = .ok (.invokespecial index, 3))
    (hpre : ∀ vm₁, s.WarmedH vm₁ → Pre ⟨T.setVm vm₁, locs, cells, slots⟩ (Value.ref b :: argsL).toArray) :
    ∃ (v : Option Value) (vm₁ : Vm) (B : Pt), s.WarmedH vm₁ ∧ Stand p l e R s m args below meth c B.U B.locs B.cells B.slots ∧ Post ⟨T.setVm vm₁, locs, cells, slots⟩ (Value.ref b :: argsL).toArray v B ∧
      ∀ target, Steps p.tables e below (B.U.setTop { g with pc := g.pc + 3, stack := v.toList ++ rest }) target → Steps p.tables e below (T.setTop g) target := by
  obtain ⟨mk, methM, hnamed, hmethM, hstM, habM⟩ := Cond.instanceMethod_spec hinst
  obtain ⟨methM', cM, hmethM', -, -, -, -, -, -, hsigM⟩ := Cond.code_spec hnamed hcode
  cases hmethM.symm.trans hmethM'
  obtain ⟨ps, dk, kp, hps, hdk, hkp, hsuper, -, -, hnid⟩ := Cond.superclass_spec hown hsup
  obtain ⟨po, dk2, ko, hpo, hdk2, hko, hsuper2, -, -, -⟩ := Cond.superclass_spec hps hsup2
  have hn : s.methodNamed? ⟨owner, x.name, x.desc⟩ = some mk := by rw [← hy]; exact hnamed
  have hpm : po = mk.cls := Option.some.inj (hpo.symm.trans (findClass_of_methodNamed hn))
  have hsz : 0 < s.vm.classes.size := Nat.lt_of_le_of_lt (Nat.zero_le _) (Array.getElem?_eq_some_iff.mp hdk2).1
  have hsub : s.vm.isSubclass ps mk.cls = true := by
    rw [← hpm]
    obtain ⟨n9, hn9⟩ : ∃ n9, s.vm.classes.size = n9 + 1 := ⟨s.vm.classes.size - 1, by omega⟩
    simp [Vm.isSubclass, Vm.isSubclassAux, hn9, hdk2, hsuper2]
  obtain ⟨vm₁, X₁, hstep₁⟩ := X9.invokespecialUp hexec hown hlink hsame hn hmethM hstM habM hno hdk hnid hps hsuper hsub (a := b) (cell := cellB) hcell
    (fun z h => by rw [h] at hobj; cases hobj) hkB (g := g) hg (argsL := argsL) (rest := rest) (hlen _ hsigM) hstack hdg
  obtain ⟨v, B, X', hpost, hsteps⟩ := hK m meth c ⟨T.setVm vm₁, locs, cells, slots⟩ { g with stack := rest } (.invokespecial index) mk (Value.ref b :: argsL).toArray X₁ hg hsize hdg hW (X₁.named hnamed) (hpre vm₁ X₁.warmed)
  exact ⟨v, vm₁, B, X₁.warmed, X', hpost, fun target h => hstep₁ _ (by rw [doInvoke_state]; exact hsteps.trans h)⟩
theorem runSI {y x : MethodName} {bytes : ByteArray} {maxL mc ms n index : Nat} {ret : Option FieldType} {ws : List Cond} {rm : Room} {Pc : Array Value → State → Prop} {Qc : Array Value → State → Outcome → State → Prop} {free : Addr → Prop} {own owner C : String} {cC : ClassId} {b : Addr} {As rest : List Value} {g : JFrame} {H : Heap} {locs : List Loc}
    (hat : ClassAt s C cC) (S : CallFix p m c cc nL s args Ts own) (hM : Met l y ws rm Pc Qc mc ms free) (hy : y = ⟨owner, x.name, x.desc⟩)
    (cw : rm.cells = mc ∧ rm.slots = ms ∧ rm.frames + 1 ≤ R.frames ∧ 8 + (maxL + 11) + rm.locals ≤ R.locals ∧ (∀ w ∈ ws, ∀ (a' : Array Value) (U : State), s.WarmedH U.vm → w.before a' U = true) ∧ Cond.code y bytes maxL ret ∈ ws)
    (hl1 : (Cond.methodLink own index x).before args s = true) (hl2 : (Cond.sameMethod x.cls owner x.name x.desc).before args s = true) (hl3 : (Cond.superclass own x.cls).before args s = true) (hl3' : (Cond.superclass x.cls owner).before args s = true) (hl4 : (Cond.instanceMethod y).before args s = true) (hini : (Cond.initialized y.cls).before args s = true) (hcode : (Cond.code y bytes maxL ret).before args s = true) (hno : x.name ≠ "<init>") (hlen : ∀ sig, parseMethodDescriptor y.desc = some sig → n = sig.parameters.length) (hp : PreV s H C b Pc As)
    (hg : g.method = m) (hn : As.length = n) (hsize : g.locals.size = nL) (hstack : g.stack = As.reverse ++ .ref b :: rest) (hW : 2 * g.monitorRoom + (rest.map fun v => v.category).sum ≤ 8) (hdg : decode cc g.pc = .ok (.invokespecial index, 3)) (hf : cells + mc ≤ R.cells ∧ slots + ms ≤ R.slots) :
    va_Run p l e R s m args below meth c H locs cells slots mc ms g rest (Qc (Value.ref b :: As).toArray) (free) := by
  obtain ⟨hrc, hrs, hfr, hlo, hws, hcw⟩ := cw
  have hK : Back l R p e below s args y 3 8 (PreOf R mc ms Pc) (PostOf Qc mc ms free) := back_of (bytes := bytes) (maxL := maxL) (ret := ret) hM hp.1 hrc hrs hfr hlo hws hcw (fun a' U hW => word_at hW (Or.inl (by first | rfl | simp [Cond.onTables, Cond.keeps, Cond.steady])) hini)
  obtain ⟨hx, hb, hml, ho, -⟩ := S
  obtain ⟨-, ⟨cellB, hcB, hoB, hclB⟩, hPc⟩ := hp
  obtain ⟨hfc, kB, hkB, -⟩ := hat
  cases hfc.symm.trans hclB
  intro T hT X9
  obtain ⟨v, vm₁, ⟨U', l2, c2, s2⟩, hW₁, X', ⟨g', mk, t, L, e1, e2, hq, h1, hL, h2, h3⟩, st⟩ := callSI X9 hx (bytes := bytes) (maxL := maxL) (ret := ret) hy ho hl1 hl2 hl3 hl3' hl4 hcode hno hK (by rw [hT]; exact hcB) hoB hkB hg (hsize.trans hml.symm) (argsL := As) (rest := rest) (fun sig h => hn.trans (hlen sig h)) hstack hW (by rw [hb]; exact hdg)
    (fun vm₁ hW₁ => ⟨hf.1, hf.2, hPc (T.setVm vm₁) hT hW₁⟩)
  dsimp only [Pt.U, Pt.locs, Pt.cells, Pt.slots] at X' e1 e2 h1 h2 h3 st
  subst h1; subst h2; subst h3
  exact ⟨v, (T.setVm vm₁).calling g' mk (Value.ref b :: As).toArray, t, U', L, hT, X', hL, e1, e2, hq, st⟩
theorem siteU (hx : p.tables.exec = Jvm.exec) (hb : c.code = cc) (hml : c.maxLocals = nL) (hown : s.vm.findClass own = some m.cls) (hts : ∀ w ∈ Ts, w.before args s = true) (hTB : TbOK TB) (hs : ∀ w ∈ TB, w ∈ Ts) (hRf : d ≤ R.frames) (hRl : 60 * d ≤ R.locals) (hcs : cells ≤ R.cells ∧ slots ≤ R.slots)
    {j pc idx na b : Nat} {C : String} {cC : ClassId} {H : Heap} {locs : List Loc} {la : Array Slot} {as rest : List Value} (hat : ClassAt s C cC) (hm : MOK TB mt j) (hv : UOK TB mt own idx na j) (hn : as.length = na) (hla : la.size = nL) (hcat : (rest.map fun v => v.category).sum ≤ 8) (hdg : decode cc pc = .ok (.invokespecial idx, 3))
    (hrc : ∃ cellB : Cell, H[b]? = some cellB ∧ cellB.vm.isStatics = false ∧ s.vm.findClass C = some cellB.cls) :
    CSite p l e R s m args below meth c cells slots TB mt d j pc H locs la (.ref b :: as) rest (as.reverse ++ .ref b :: rest) := by
  intro d1 hd Pc Qc free hM hbl hpre
  have hfix : CallFix p m c cc nL s args Ts own := ⟨hx, hb, hml, hown, hts⟩
  have hroom := room_ok (R := R) hm hd hRf hRl
  rcases hv with ⟨h1, h2, h3⟩ | ⟨x, owner, h1, h2, h3, h4, h5, h6, h7, h8, h9⟩
  rotate_left
  · have hg : GoodIn Ts (cdOf mt j :: TB) := good_cd (ws := []) hTB hs hm (fun w h => by cases h)
    have hlen : ∀ sig, parseMethodDescriptor (mt j).1.desc = some sig → na = sig.parameters.length := fun sig h => by
      have h3 : (parseMethodDescriptor x.desc).map (fun d => d.parameters.length) = some na := h3
      rw [h1] at h
      have h : parseMethodDescriptor x.desc = some sig := h
      rw [h] at h3
      exact (Option.some.inj h3).symm
    refine runSI (C := C) (n := na) (bytes := (mt j).2.1) (maxL := (mt j).2.2.1) (ret := (mt j).2.2.2) (owner := owner) (x := x) hat hfix hM h1 ⟨rfl, rfl, hroom.1, hroom.2, pay_in hts hg, List.mem_cons_self⟩ (hts _ (hs _ h4)) (hts _ (hs _ h5)) (hts _ (hs _ h6)) (hts _ (hs _ h7)) (hts _ (hs _ h8)) ?_ (hts _ (hs _ hm.1)) h2 hlen ⟨hbl, hrc, hpre⟩ rfl hn hla rfl (lv_room hcat) hdg hcs
    rw [h1]
    exact hts _ (hs _ h9)
  exact va_runSU (C := C) (index := idx) (n := na) (bytes := (mt j).2.1) (maxL := (mt j).2.2.1) (ret := (mt j).2.2.2) hat hfix hM (va_cwSU na hts (good_cd (ws := va_wsSU own idx (mt j).1 []) hTB hs hm h3) rfl rfl rfl ⟨h1, h2⟩ hroom) ⟨hbl, hrc, hpre⟩ rfl hn hla rfl (lv_room hcat) hdg hcs
end SN4
end
section
/-! the abstract machine is right: every instruction; bodies give contracts -/
section SN5
variable {p : Program} {l : Launch} {e : Env} {R : Room} {s : State} {m : MethodId} {args : Array Value} {below : List Frame} {meth : Method} {c : Code} {cells slots : Nat} {Q : State → Prop}
variable {cl : List vw_C} {D : va_G} {tc : Nat → ClassId} {ad : Nat → Nat} {N nL : Nat} {cc : ByteArray} {own : String} {Ts TB : List Cond} {X : RoT} {P : Pool} {d : Nat} {ty : Option FieldType} {RT : RP} {mt : MT}
theorem cat_cv (ad : Nat → Nat) : ∀ l : List Value, ((l.map (cv ad)).map fun v => v.category).sum = x_cat l
  | [] => rfl
  | v :: t => by
    rw [List.map_cons, List.map_cons, List.sum_cons, cat_cv ad t, x_cat, cv_cat]
    cases v <;> rfl
theorem push_cv (ad : Nat → Nat) (r : Option Value) (rest : List Value) : (x_push r rest).map (cv ad) = (r.map (cv ad)).toList ++ rest.map (cv ad) := by cases r <;> rfl
theorem snd_inv (C0 : CX p s m args c cl D tc ad N nL cc own Ts X) (hcl : cl.length ≤ 50) (hX : RoOK X) (hstr : ∀ i, 1000 ≤ i → i < 1006 → (i, "java/lang/String") ∈ X.1) (hTB : TbOK TB) (hs : ∀ w ∈ TB, w ∈ Ts) (hRf : d ≤ R.frames) (hRl : 60 * d ≤ R.locals) (hcs : cells ≤ R.cells ∧ slots ≤ R.slots) (hCp : CpOK TB mt cl own P)
    {pc ix kd : Nat} {i : Instr} {ls : LV} {st : List Value} {h : List AE} {k : KP} (hi : (kd = 0 ∧ i = .invokevirtual ix) ∨ (kd = 1 ∧ i = .invokestatic ix) ∨ (kd = 2 ∧ i = .invokespecial ix)) (hdg : decode cc pc = .ok (i, 3))
    (hk : ∀ ls' st' h', k ls' st' h' → WW p l e R s m args below meth c cells slots Q cl D tc ad N nL (pc + 3) ls' st' h')
    (hx : x_inv P (CTof l TB mt cl X) d kd ix ls st h k) : WW p l e R s m args below meth c cells slots Q cl D tc ad N nL pc ls st h := by
  obtain ⟨hxe, hb, hml, hown, hts, hK, hI, hR⟩ := C0
  intro H locs la h1 h2 h3 h4
  unfold x_inv at hx
  split at hx
  · next kd' na tg hl =>
    have hmem := a_look_mem hl
    cases hkd : Nat.beq kd' kd with
    | false => rw [hkd] at hx; exact hx.elim
    | true =>
      rw [hkd] at hx
      simp only [cond_true] at hx
      have hkk := Nat.eq_of_beq_eq_true hkd
      subst hkk
      split at hx
      · next as rest hp =>
        obtain ⟨a1, e1, e2, e3⟩ := x_pop_eq _ _ _ _ _ hp
        rw [List.append_nil] at e1
        subst e1
        subst e2
        cases hk1 : Nat.beq kd' 1 with
        | true =>
          rw [hk1] at hx
          simp only [cond_true] at hx
          have hkk := Nat.eq_of_beq_eq_true hk1
          subst hkk
          obtain ⟨z, -⟩ | ⟨-, rfl⟩ | ⟨z, -⟩ := hi
          · omega
          · split at hx
            · next j hj =>
              cases hcat : Nat.ble (x_cat rest) 8 with
              | false => rw [hcat] at hx; exact hx.elim
              | true =>
                rw [hcat] at hx
                simp only [cond_true] at hx
                rcases hCp _ hmem with ⟨z, -⟩ | ⟨-, hT⟩ | ⟨z, -⟩ | ⟨z, -⟩
                · have z : (1 : Nat) = 0 := z
                  omega
                · obtain ⟨hm, hv⟩ := hT _ (a_look_mem hj)
                  have site := siteS (p := p) (l := l) (e := e) (R := R) (below := below) (meth := meth) (pc := pc) (H := H) (locs := locs) (la := la) (as := as.map (cv ad)) (rest := rest.map (cv ad)) hxe hb hml hown hts hTB hs hRf hRl hcs hm hv (by rw [List.length_map]; exact e3) h4.1 (by rw [cat_cv]; exact Nat.le_of_ble_eq_true hcat) hdg
                  have e9 : (as.reverse ++ rest).map (cv ad) = (as.map (cv ad)).reverse ++ rest.map (cv ad) := by rw [List.map_append, List.map_reverse]
                  rw [e9]
                  exact call_any hX hK hI hR site hx h1 h2 h3 fun r h' H1 locs1 g1 g2 g3 g4 => by
                    rw [← push_cv]
                    exact hk _ _ _ g1 H1 locs1 la g2 g3 g4 h4
                · have z : (1 : Nat) = 2 := z
                  omega
                · have z : (1 : Nat) = 5 := z
                  omega
            · exact hx.elim
          · omega
        | false =>
          rw [hk1] at hx
          simp only [cond_false] at hx
          split at hx
          · next b rest' =>
            split at hx
            · next ci hci =>
              split at hx
              · next j hj =>
                cases hcat : Nat.ble (x_cat rest') 8 with
                | false => rw [hcat] at hx; exact hx.elim
                | true =>
                  rw [hcat] at hx
                  simp only [cond_true] at hx
                  have e9 : (as.reverse ++ .ref b :: rest').map (cv ad) = (as.map (cv ad)).reverse ++ .ref (ad b) :: rest'.map (cv ad) := by rw [List.map_append, List.map_reverse]; rfl
                  rw [e9]
                  rcases hCp _ hmem with ⟨z, hT⟩ | ⟨z, -⟩ | ⟨z, hT⟩ | ⟨z, -⟩
                  · have z : kd' = 0 := z
                    subst z
                    obtain ⟨-, rfl⟩ | ⟨z, -⟩ | ⟨z, -⟩ := hi
                    · obtain ⟨hm, C, hC, hv⟩ := hT _ (a_look_mem hj)
                      have hrc := recv_ok hK hR hstr hcl hci hC h2 h3
                      have site := siteV (p := p) (l := l) (e := e) (R := R) (below := below) (meth := meth) (pc := pc) (H := H) (locs := locs) (la := la) (as := as.map (cv ad)) (rest := rest'.map (cv ad)) (b := ad b) hxe hb hml hown hts hTB hs hRf hRl hcs hm hv (by rw [List.length_map]; exact e3) h4.1 (by rw [cat_cv]; exact Nat.le_of_ble_eq_true hcat) hdg hrc
                      exact call_any (as := .ref b :: as) hX hK hI hR site hx h1 h2 h3 fun r h' H1 locs1 g1 g2 g3 g4 => by
                        rw [← push_cv]
                        exact hk _ _ _ g1 H1 locs1 la g2 g3 g4 h4
                    · omega
                    · omega
                  · have z : kd' = 1 := z
                    subst z
                    cases hk1
                  · have z : kd' = 2 := z
                    subst z
                    obtain ⟨z, -⟩ | ⟨z, -⟩ | ⟨-, rfl⟩ := hi
                    · omega
                    · omega
                    · obtain ⟨hm, ⟨C, T, Nf, hC⟩, hv⟩ := hT _ (a_look_mem hj)
                      have hrc := recv_ok hK hR hstr hcl hci (Or.inr ⟨T, Nf, hC⟩) h2 h3
                      have hat := (hK.1 _ _ hC).2
                      have site := siteU (p := p) (l := l) (e := e) (R := R) (below := below) (meth := meth) (pc := pc) (H := H) (locs := locs) (la := la) (as := as.map (cv ad)) (rest := rest'.map (cv ad)) (b := ad b) hxe hb hml hown hts hTB hs hRf hRl hcs hat hm hv (by rw [List.length_map]; exact e3) h4.1 (by rw [cat_cv]; exact Nat.le_of_ble_eq_true hcat) hdg hrc
                      exact call_any (as := .ref b :: as) hX hK hI hR site hx h1 h2 h3 fun r h' H1 locs1 g1 g2 g3 g4 => by
                        rw [← push_cv]
                        exact hk _ _ _ g1 H1 locs1 la g2 g3 g4 h4
                  · have z : kd' = 5 := z
                    subst z
                    obtain ⟨z, -⟩ | ⟨z, -⟩ | ⟨z, -⟩ := hi <;> omega
              · exact hx.elim
            · exact hx.elim
          · exact hx.elim
      · exact hx.elim
  · exact hx.elim
theorem snd_copy (C0 : CX p s m args c cl D tc ad N nL cc own Ts X) (hs : ∀ w ∈ TB, w ∈ Ts) (hRf : d ≤ R.frames) (hRl : 60 * d ≤ R.locals) (hCp : CpOK TB mt cl own P)
    {pc ix : Nat} {ls : LV} {st : List Value} {h : List AE} {k : KP} (hdg : decode cc pc = .ok (.invokestatic ix, 3))
    (hk : ∀ ls' st' h', k ls' st' h' → WW p l e R s m args below meth c cells slots Q cl D tc ad N nL (pc + 3) ls' st' h')
    (hx : x_copy P d ix ls st h k) : WW p l e R s m args below meth c cells slots Q cl D tc ad N nL pc ls st h := by
  obtain ⟨hxe, hb, hml, hown, hts, hK, hI, hR⟩ := C0
  unfold x_copy at hx
  split at hx
  · next kd na tg hl =>
    have hmem := a_look_mem hl
    cases hkd : Nat.beq kd 5 with
    | false => rw [hkd] at hx; exact hx.elim
    | true =>
      rw [hkd] at hx
      simp only [cond_true] at hx
      have hkk := Nat.eq_of_beq_eq_true hkd
      subst hkk
      have hw : Cond.methodLink own ix arraycopyName ∈ TB ∧ Cond.native arraycopyName ∈ TB ∧ Cond.static arraycopyName ∈ TB ∧ Cond.initialized "java/lang/System" ∈ TB := by
        rcases hCp _ hmem with ⟨z, -⟩ | ⟨z, -⟩ | ⟨z, -⟩ | ⟨-, z⟩
        · have z : (5 : Nat) = 0 := z
          omega
        · have z : (5 : Nat) = 1 := z
          omega
        · have z : (5 : Nat) = 2 := z
          omega
        · exact z
      split at hx
      · next n dp a sp b rest =>
        split at hx
        · next t0 n0 f t1 n1 g hc0 hc1 =>
          cases hg : (Nat.beq t0 t1 && Nat.blt t0 2 && Nat.ble (x_cat rest) 8 && Nat.ble 1 d) with
          | false => rw [hg] at hx; exact hx.elim
          | true =>
            rw [hg] at hx
            simp only [cond_true] at hx
            obtain ⟨hg, g4⟩ := Bool.and_eq_true_iff.mp hg
            obtain ⟨hg, g3⟩ := Bool.and_eq_true_iff.mp hg
            obtain ⟨g1, g2⟩ := Bool.and_eq_true_iff.mp hg
            have g1 := Nat.eq_of_beq_eq_true g1
            subst g1
            have g2 : t0 < 2 := by simpa using g2
            have g3 := Nat.le_of_ble_eq_true g3
            have g4 := Nat.le_of_ble_eq_true g4
            obtain ⟨c1, c2, c3, c4, c5, c6, c7⟩ := hx
            intro H locs la h1 h2 h3 h4
            have hloc : ((rest.map (cv ad)).map fun v => v.category).sum + (nativeFrameWords "java/lang/System" "arraycopy" 5 + 11) ≤ R.locals := by
              rw [cat_cv]
              have : nativeFrameWords "java/lang/System" "arraycopy" 5 = 7 := by decide +kernel
              rw [this]
              omega
            match t0, g2 with
            | 0, _ =>
              refine va_copyi hxe hb (hml.trans h4.1.symm) hown (hts _ (hs _ hw.1)) (hts _ (hs _ hw.2.1)) (hts _ (hs _ hw.2.2.1)) (hts _ (hs _ hw.2.2.2)) hK h2 (wm_D h1 hI) h3 b a 0 0 (wm_get0 hc0) (wm_get0 hc1) rfl rfl rfl c1 c2 c3 c4 c5 c6 (by omega) hloc hdg fun H1 locs1 hP1 hD1 hS1 => ?_
              have hP1 : va_P D cl ((wm tc ad 0 h).set a (ad a, ce tc ad (.inl (0, n1, .inl (va_cpy f g sp.toNatClampNeg dp.toNatClampNeg n.toNatClampNeg))))) H1 := hP1
              rw [wm_set0] at hP1
              exact hk _ _ _ (l_put_eq _ _ _ _ c7) H1 locs1 la (by rw [List.length_set]; exact h1) hP1 hS1 h4
            | 1, _ =>
              refine va_copyi hxe hb (hml.trans h4.1.symm) hown (hts _ (hs _ hw.1)) (hts _ (hs _ hw.2.1)) (hts _ (hs _ hw.2.2.1)) (hts _ (hs _ hw.2.2.2)) hK h2 (wm_D h1 hI) h3 b a 1 1 (wm_get0 hc0) (wm_get0 hc1) rfl rfl rfl c1 c2 c3 c4 c5 c6 (by omega) hloc hdg fun H1 locs1 hP1 hD1 hS1 => ?_
              have hP1 : va_P D cl ((wm tc ad 0 h).set a (ad a, ce tc ad (.inl (1, n1, .inl (va_cpy f g sp.toNatClampNeg dp.toNatClampNeg n.toNatClampNeg))))) H1 := hP1
              rw [wm_set0] at hP1
              exact hk _ _ _ (l_put_eq _ _ _ _ c7) H1 locs1 la (by rw [List.length_set]; exact h1) hP1 hS1 h4
        · exact hx.elim
      · exact hx.elim
  · exact hx.elim
end SN5
end
section
/-! bodies give contracts -/
def okc (cc : ByteArray) : List Ins → Prop
  | [] => True
  | (pc, i, n) :: t => decode cc pc = .ok (i, n) ∧ (x_sw i = true ∨ n = x_ln i) ∧ (match t with
    | [] => True
    | (q, _, _) :: _ => q = pc + n) ∧ okc cc t
def okb (cc : ByteArray) : List Ins → Bool
  | [] => true
  | (pc, i, n) :: t => decide (decode cc pc = .ok (i, n)) && (x_sw i || Nat.beq n (x_ln i)) && (match t with
    | [] => true
    | (q, _, _) :: _ => Nat.beq q (pc + n)) && okb cc t
theorem okc_of {cc : ByteArray} : ∀ {code : List Ins}, okb cc code = true → okc cc code
  | [], _ => True.intro
  | (pc, i, n) :: t, h => by
    unfold okb at h
    obtain ⟨h, h4⟩ := Bool.and_eq_true_iff.mp h
    obtain ⟨h, h3⟩ := Bool.and_eq_true_iff.mp h
    obtain ⟨h1, h2⟩ := Bool.and_eq_true_iff.mp h
    refine ⟨of_decide_eq_true h1, ?_, ?_, okc_of h4⟩
    · rcases Bool.or_eq_true_iff.mp h2 with h2 | h2
      · exact Or.inl h2
      · exact Or.inr (Nat.eq_of_beq_eq_true h2)
    · match t, h3 with
      | [], _ => exact True.intro
      | (q, _, _) :: _, h3 => exact Nat.eq_of_beq_eq_true h3
section SN6
variable {p : Program} {l : Launch} {e : Env} {R : Room} {s : State} {m : MethodId} {args : Array Value} {below : List Frame} {meth : Method} {c : Code} {cells slots : Nat} {Q : State → Prop}
variable {cl : List vw_C} {D : va_G} {tc : Nat → ClassId} {ad : Nat → Nat} {N nL : Nat} {cc : ByteArray} {own : String} {Ts TB : List Cond} {X : RoT} {P : Pool} {d : Nat} {ty : Option FieldType} {RT : RP} {mt : MT}
/-- a return is right where the walk ends so -/
def RetOK (p : Program) (l : Launch) (e : Env) (R : Room) (s : State) (m : MethodId) (args : Array Value) (below : List Frame) (meth : Method) (c : Code) (cells slots : Nat) (Q : State → Prop) (cl : List vw_C) (D : va_G) (tc : Nat → ClassId) (ad : Nat → Nat) (N : Nat) (cc : ByteArray) (ty : Option FieldType) (RT : RP) : Prop :=
  ∀ (pc : Nat) (h : List AE) (H : Heap) (locs : List Loc) (la : Array Slot), h.length = N → va_P D cl (wm tc ad 0 h) H → va_S (AA ad N) s.heap H locs →
    (∀ x, decode cc pc = .ok (.ireturn, 1) → x_ret ty x → RT (some (.int x)) h → W p l e R s m args below meth c H locs cells slots Q (F0 m pc la [.int x])) ∧
    (∀ x, decode cc pc = .ok (.lreturn, 1) → ty = some .long → RT (some (.long x)) h → W p l e R s m args below meth c H locs cells slots Q (F0 m pc la [.long x])) ∧
    (∀ x n, decode cc pc = .ok (.areturn, 1) → ty = some (.object n) → RT (some (.ref x)) h → W p l e R s m args below meth c H locs cells slots Q (F0 m pc la [.ref (ad x)])) ∧
    (decode cc pc = .ok (.return_, 1) → ty = none → RT none h → W p l e R s m args below meth c H locs cells slots Q (F0 m pc la []))
/-- what holds of the tables for a body of the name 'own' -/
def TabOK (TB : List Cond) (mt : MT) (cl : List vw_C) (X : RoT) (own : String) (P : Pool) : Prop :=
  cl.length ≤ 50 ∧ RoOK X ∧ (∀ i, 1000 ≤ i → i < 1006 → (i, "java/lang/String") ∈ X.1) ∧ TbOK TB ∧ ClsOK TB cl ∧ FldOK TB X.2.2.2.2.2 cl own P ∧ FarOK TB X own P ∧ CpOK TB mt cl own P
theorem x_sound (C0 : CX p s m args c cl D tc ad N nL cc own TB X) (T0 : TabOK TB mt cl X own P) (hRf : d ≤ R.frames) (hRl : 60 * d ≤ R.locals) (hcs : cells ≤ R.cells ∧ slots ≤ R.slots) (hret : RetOK p l e R s m args below meth c cells slots Q cl D tc ad N cc ty RT)
    {pc n : Nat} {i : Instr} {ls : LV} {st : List Value} {h : List AE} {k : KP} (hdg : decode cc pc = .ok (i, n)) (hn : x_sw i = true ∨ n = x_ln i)
    (hk : ∀ ls' st' h', k ls' st' h' → WW p l e R s m args below meth c cells slots Q cl D tc ad N nL (pc + n) ls' st' h')
    (hx : x_step P (CTof l TB mt cl X) d nL ty (WW p l e R s m args below meth c cells slots Q cl D tc ad N nL) RT pc ls st h k i) : WW p l e R s m args below meth c cells slots Q cl D tc ad N nL pc ls st h := by
  obtain ⟨hcl, hX, hstr, hTB, hCl, hFl, hFar, hCp⟩ := T0
  have hs : ∀ w ∈ TB, w ∈ TB := fun _ z => z
  cases hp : x_plain i with
  | true => exact snd_a C0 hFar hdg hn hk hp hx
  | false =>
    cases i with
    | getfield ix =>
      have z := hn.resolve_left (fun z => Bool.noConfusion (show false = true from z))
      subst z
      exact snd_getf C0 hFar hcl hCl hFl hdg hk hx
    | putfield ix =>
      have z := hn.resolve_left (fun z => Bool.noConfusion (show false = true from z))
      subst z
      exact snd_putf C0 hcl hCl hFl hdg hk hx
    | invokevirtual ix =>
      have z := hn.resolve_left (fun z => Bool.noConfusion (show false = true from z))
      subst z
      exact snd_inv C0 hcl hX hstr hTB hs hRf hRl hcs hCp (Or.inl ⟨rfl, rfl⟩) hdg hk hx
    | invokestatic ix =>
      have z := hn.resolve_left (fun z => Bool.noConfusion (show false = true from z))
      subst z
      simp only [x_step] at hx
      split at hx
      · exact snd_copy C0 hs hRf hRl hCp hdg hk hx
      · exact snd_inv C0 hcl hX hstr hTB hs hRf hRl hcs hCp (Or.inr (Or.inl ⟨rfl, rfl⟩)) hdg hk hx
    | invokespecial ix =>
      have z := hn.resolve_left (fun z => Bool.noConfusion (show false = true from z))
      subst z
      exact snd_inv C0 hcl hX hstr hTB hs hRf hRl hcs hCp (Or.inr (Or.inr ⟨rfl, rfl⟩)) hdg hk hx
    | arraylength =>
      have z := hn.resolve_left (fun z => Bool.noConfusion (show false = true from z))
      subst z
      exact snd_arr C0 hFar hdg (Or.inl rfl) hk hx
    | iaload =>
      have z := hn.resolve_left (fun z => Bool.noConfusion (show false = true from z))
      subst z
      exact snd_arr C0 hFar hdg (Or.inr (Or.inl rfl)) hk hx
    | baload =>
      have z := hn.resolve_left (fun z => Bool.noConfusion (show false = true from z))
      subst z
      exact snd_arr C0 hFar hdg (Or.inr (Or.inr (Or.inl rfl))) hk hx
    | iastore =>
      have z := hn.resolve_left (fun z => Bool.noConfusion (show false = true from z))
      subst z
      exact snd_arr C0 hFar hdg (Or.inr (Or.inr (Or.inr (Or.inl rfl)))) hk hx
    | bastore =>
      have z := hn.resolve_left (fun z => Bool.noConfusion (show false = true from z))
      subst z
      exact snd_arr C0 hFar hdg (Or.inr (Or.inr (Or.inr (Or.inr (Or.inl rfl))))) hk hx
    | aaload =>
      have z := hn.resolve_left (fun z => Bool.noConfusion (show false = true from z))
      subst z
      exact snd_arr C0 hFar hdg (Or.inr (Or.inr (Or.inr (Or.inr (Or.inr rfl))))) hk hx
    | ireturn =>
      have z := hn.resolve_left (fun z => Bool.noConfusion (show false = true from z))
      subst z
      simp only [x_step] at hx
      split at hx
      · exact fun H locs la h1 h2 h3 h4 => (hret pc h H locs la h1 h2 h3).1 _ hdg hx.1 hx.2
      · exact hx.elim
    | lreturn =>
      have z := hn.resolve_left (fun z => Bool.noConfusion (show false = true from z))
      subst z
      simp only [x_step] at hx
      split at hx
      · exact fun H locs la h1 h2 h3 h4 => (hret pc h H locs la h1 h2 h3).2.1 _ hdg hx.1 hx.2
      · exact hx.elim
    | areturn =>
      have z := hn.resolve_left (fun z => Bool.noConfusion (show false = true from z))
      subst z
      simp only [x_step] at hx
      split at hx
      · obtain ⟨⟨nm, hnm⟩, hq⟩ := hx
        exact fun H locs la h1 h2 h3 h4 => (hret pc h H locs la h1 h2 h3).2.2.1 _ nm hdg hnm hq
      · exact hx.elim
    | return_ =>
      have z := hn.resolve_left (fun z => Bool.noConfusion (show false = true from z))
      subst z
      simp only [x_step] at hx
      split at hx
      · exact fun H locs la h1 h2 h3 h4 => (hret pc h H locs la h1 h2 h3).2.2.2 hdg hx.1 hx.2
      · exact hx.elim
    | _ => exact Bool.noConfusion (show true = false from hp)
theorem xs_sound (C0 : CX p s m args c cl D tc ad N nL cc own TB X) (T0 : TabOK TB mt cl X own P) (hRf : d ≤ R.frames) (hRl : 60 * d ≤ R.locals) (hcs : cells ≤ R.cells ∧ slots ≤ R.slots) (hret : RetOK p l e R s m args below meth c cells slots Q cl D tc ad N cc ty RT) :
    ∀ (code : List Ins), okc cc code → ∀ (pc : Nat) (i : Instr) (n : Nat) (t : List Ins), code = (pc, i, n) :: t → ∀ ls st h, xs P (CTof l TB mt cl X) d nL ty (WW p l e R s m args below meth c cells slots Q cl D tc ad N nL) RT code ls st h → WW p l e R s m args below meth c cells slots Q cl D tc ad N nL pc ls st h
  | [], _, _, _, _, _, h, _, _, _, _ => by cases h
  | (pc, i, n) :: t, hok, _, _, _, _, rfl, ls, st, h, hx => by
    obtain ⟨h1, h2, h3, h4⟩ := hok
    refine x_sound C0 T0 hRf hRl hcs hret h1 h2 (fun ls' st' h' hy => ?_) hx
    match t, h3, h4, hy with
    | [], _, _, hy => exact hy.elim
    | (q, i', n') :: t', h3, h4, hy =>
      have h3 : q = pc + n := h3
      rw [← h3]
      exact xs_sound C0 T0 hRf hRl hcs hret ((q, i', n') :: t') h4 q i' n' t' rfl ls' st' h' hy
theorem seek_ok (pc : Nat) : ∀ (code : List Ins), okc cc code → okc cc (seek pc code) ∧ (seek pc code = [] ∨ ∃ i n t, seek pc code = (pc, i, n) :: t)
  | [], h => ⟨h, Or.inl rfl⟩
  | (q, i, n) :: t, h => by
    unfold seek
    cases hb : Nat.beq q pc with
    | true =>
      have hq := Nat.eq_of_beq_eq_true hb
      subst hq
      rw [cond_true]
      exact ⟨h, Or.inr ⟨i, n, t, rfl⟩⟩
    | false =>
      rw [cond_false]
      exact seek_ok pc t h.2.2.2
theorem runs_of (C0 : CX p s m args c cl D tc ad N nL cc own TB X) (T0 : TabOK TB mt cl X own P) (hRf : d ≤ R.frames) (hRl : 60 * d ≤ R.locals) (hcs : cells ≤ R.cells ∧ slots ≤ R.slots) (hret : RetOK p l e R s m args below meth c cells slots Q cl D tc ad N cc ty RT) {code : List Ins} (hok : okc cc code) :
    Runs P (CTof l TB mt cl X) d nL ty code (WW p l e R s m args below meth c cells slots Q cl D tc ad N nL) RT := by
  intro pc ls st h hx
  obtain ⟨h1, h2 | ⟨i, n, t, h2⟩⟩ := seek_ok (cc := cc) pc code hok
  · rw [h2] at hx
    exact hx.elim
  · exact xs_sound C0 T0 hRf hRl hcs hret _ h1 pc i n t h2 ls st h hx
theorem args_cv (ad : Nat → Nat) : ∀ (as : List Value) (k : Nat), lv_args k (as.map (cv ad)) = lc ad (lv_args k as)
  | [], _ => rfl
  | v :: t, k => by
    rw [List.map_cons, lv_args, lv_args, cv_cat, args_cv ad t]
    rfl
theorem sl_cv (ad : Nat → Nat) : ∀ as : List Value, (lg_sl (as.map (cv ad))).length = x_cat as
  | [] => rfl
  | v :: t => by
    have e : lg_sl ((v :: t).map (cv ad)) = (if (cv ad v).category = 2 then [.val (cv ad v), .second] else [.val (cv ad v)]) ++ lg_sl (t.map (cv ad)) := rfl
    rw [e, List.length_append, sl_cv ad t, x_cat, cv_cat]
    cases v <;> rfl
/-- A BODY GIVES ITS METHOD'S CONTRACT -/
theorem CT_of {j : Nat} {as : List Value} {h0 : List AE} {PP : RP} {code : List Ins} {y : MethodName} {cc : ByteArray} (hmt : mt j = (y, cc, nL, ty)) (hy : plainName y.cls = true) (T0 : TabOK TB mt cl X y.cls P) (hok : okc cc code) (hin : x_cat as ≤ nL)
    (hbody : Body P (CTof l TB mt cl X) d nL ty code as h0 PP) : CTof l TB mt cl X d j as h0 PP := by
  intro D tc ad
  have e1 : (mt j).1 = y := by rw [hmt]
  have e2 : cdOf mt j = Cond.code y cc nL ty := by unfold cdOf; rw [hmt]
  rw [e1, e2]
  refine Met.ofW (cc := cc) (maxL := nL) (ret := ty) hy rfl ?_
  intro p e s m args below meth c s₁ B hml hv
  obtain ⟨rfl, hP, hK, hI, hR⟩ := hv
  have hts := atoms_spec (ws := Cond.code y cc nL ty :: TB) B.pre
  have hown : s.vm.findClass y.cls = some m.cls := findClass_of_methodNamed B.named
  have hr := B.returns
  have hx := B.exec
  have hb := B.bytes
  have hlocks := B.notSynchronized
  have C0 : CX p s m (as.map (cv ad)).toArray c cl D tc ad h0.length nL cc y.cls TB X := ⟨hx, hb, hml, hown, fun w hw => hts w (List.mem_cons_of_mem _ hw), hK, hI, hR⟩
  have hret : RetOK p l e (headSpec (Cond.code y cc nL ty :: TB) (rmOf d)).room s m (as.map (cv ad)).toArray below meth c 0 0 (MQ below (Q_ct cl D tc ad h0 PP) (as.map (cv ad)).toArray s 0 0 (AA ad h0.length)) cl D tc ad h0.length cc ty PP := by
    intro pc h H locs la h1 h2 h3
    refine ⟨fun x hd ht hq => ?_, fun x hd ht hq => ?_, fun x n hd ht hq => ?_, fun hd ht hq => ?_⟩
    · have post : ∀ t : State, t.heap = H → s.WarmedH t.vm → Q_ct cl D tc ad h0 PP (as.map (cv ad)).toArray s (.returned (some (.int x))) t := fun t e9 _ => ⟨⟨some (.int x), h, rfl, hq, h1, by rw [e9]; exact h2⟩, h3.F e9⟩
      cases ty with
      | none => exact ht.elim
      | some u =>
        refine W.zret hx hb hr ?_ post h3.2.2 hd
        cases u with
        | int => rfl
        | boolean => have ht : x &&& 1 = x := ht; show Value.int (x &&& 1) = Value.int x; rw [ht]
        | _ => exact ht
    · subst ht
      exact W.lret hx hb hr (fun t e9 _ => ⟨⟨some (.long x), h, rfl, hq, h1, by rw [e9]; exact h2⟩, h3.F e9⟩) h3.2.2 hd
    · subst ht
      exact W.aret hx hb hr (Or.inl ⟨n, rfl⟩) (Or.inr ⟨_, rfl⟩) (fun t e9 _ => ⟨⟨some (.ref x), h, rfl, hq, h1, by rw [e9]; exact h2⟩, h3.F e9⟩) h3.2.2 hd
    · subst ht
      exact W.vret hx hb hr (fun t e9 _ => ⟨⟨none, h, rfl, hq, h1, by rw [e9]; exact h2⟩, h3.F e9⟩) h3.2.2 hd
  have hl := lv_entry (as.map (cv ad)) (n := nL) (by rw [sl_cv]; exact hin)
  rw [args_cv] at hl
  rw [lg_entry_eq]
  exact hbody _ (runs_of C0 T0 (Nat.le_refl d) (Nat.le_refl _) ⟨Nat.le_refl 0, Nat.le_refl 0⟩ hret hok) s.heap [] _ rfl hP va_S.rf hl
end SN6
end
