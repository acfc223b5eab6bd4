/-! printed by wip/whole/gen/tables.py out of the claim: names, fields, methods by their numbers -/
def RX0 : String := "UrchinSchool$Grey"
def TX0 : u_T := fun k => match k with
  | 0 => ("UrchinSchool$Urchin", "bodies", "[I", true)
  | 1 => ("UrchinSchool$Urchin", "ran", "I", false)
  | 2 => ("UrchinSchool$Urchin", "i", "I", false)
  | _ => ("UrchinSchool$Urchin", "v", "I", false)
def tyX0 : Nat → FieldType := fun k => match k with
  | 0 => .array .int
  | 1 => .int
  | 2 => .int
  | _ => .int
abbrev wsX00 : List Cond := u_ws RX0 TX0 4
theorem nmX0 : ∀ a, a < 4 → ∀ b, b < 4 → a ≠ b → (TX0 a).2.1 ≠ (TX0 b).2.1 := by decide +kernel
theorem tyX0_ok : ∀ k, k < 4 → parseFieldDescriptor (TX0 k).2.2.1 = some (tyX0 k) := by decide +kernel
abbrev cX0_init : ByteArray := prog_2_method_1_code
def yX0_init : MethodName := ⟨RX0, "<init>", "()V"⟩
abbrev cX0_heed : ByteArray := prog_2_method_2_code
def yX0_heed : MethodName := ⟨RX0, "heed", "(ILUrchinSchool$Heeds;)I"⟩
abbrev cX0_bristles : ByteArray := prog_2_method_3_code
def yX0_bristles : MethodName := ⟨RX0, "bristles", "(I)I"⟩
def RX1 : String := "UrchinSchool$Heeds"
def TX1 : u_T := fun k => match k with
  | 0 => ("UrchinSchool$Heeds", "plain", "LUrchinSchool$Urchin;", true)
  | 1 => ("UrchinSchool$Heeds", "kinds", "[LUrchinSchool$Urchin;", true)
  | 2 => ("UrchinSchool$Heeds", "sets", "[I", true)
  | 3 => ("UrchinSchool$Heeds", "p", "I", false)
  | 4 => ("UrchinSchool$Heeds", "k", "I", false)
  | 5 => ("UrchinSchool$Heeds", "v", "I", false)
  | 6 => ("UrchinSchool$Heeds", "f", "I", false)
  | 7 => ("UrchinSchool$Heeds", "c", "I", false)
  | 8 => ("UrchinSchool$Heeds", "t", "I", false)
  | 9 => ("UrchinSchool$Heeds", "row", "I", false)
  | _ => ("UrchinSchool$Heeds", "knows", "Z", false)
def tyX1 : Nat → FieldType := fun k => match k with
  | 0 => .object "UrchinSchool$Urchin"
  | 1 => .array (.object "UrchinSchool$Urchin")
  | 2 => .array .int
  | 3 => .int
  | 4 => .int
  | 5 => .int
  | 6 => .int
  | 7 => .int
  | 8 => .int
  | 9 => .int
  | _ => .boolean
abbrev wsX10 : List Cond := u_ws RX1 TX1 11
theorem nmX1 : ∀ a, a < 11 → ∀ b, b < 11 → a ≠ b → (TX1 a).2.1 ≠ (TX1 b).2.1 := by decide +kernel
theorem tyX1_ok : ∀ k, k < 11 → parseFieldDescriptor (TX1 k).2.2.1 = some (tyX1 k) := by decide +kernel
abbrev cX1_init : ByteArray := prog_3_method_1_code
def yX1_init : MethodName := ⟨RX1, "<init>", "()V"⟩
abbrev cX1_kindOf : ByteArray := prog_3_method_2_code
def yX1_kindOf : MethodName := ⟨RX1, "kindOf", "(I)LUrchinSchool$Urchin;"⟩
abbrev cX1_forget : ByteArray := prog_3_method_3_code
def yX1_forget : MethodName := ⟨RX1, "forget", "()V"⟩
abbrev cX1_setsOf : ByteArray := prog_3_method_4_code
def yX1_setsOf : MethodName := ⟨RX1, "setsOf", "(LUrchinSchool$School;LUrchinSchool$Ledge;I)I"⟩
abbrev cX1_weigh : ByteArray := prog_3_method_5_code
def yX1_weigh : MethodName := ⟨RX1, "weigh", "(LUrchinSchool$School;LUrchinSchool$Ledge;I)I"⟩
abbrev cX1_heedOf : ByteArray := prog_3_method_6_code
def yX1_heedOf : MethodName := ⟨RX1, "heedOf", "(LUrchinSchool$School;LUrchinSchool$Ledge;II)I"⟩
abbrev cX1_look : ByteArray := prog_3_method_7_code
def yX1_look : MethodName := ⟨RX1, "look", "(LUrchinSchool$School;II)V"⟩
def RX2 : String := "UrchinSchool$Infant"
def TX2 : u_T := fun k => match k with
  | 0 => ("UrchinSchool$Urchin", "bodies", "[I", true)
  | 1 => ("UrchinSchool$Urchin", "ran", "I", false)
  | 2 => ("UrchinSchool$Urchin", "i", "I", false)
  | _ => ("UrchinSchool$Urchin", "v", "I", false)
def tyX2 : Nat → FieldType := fun k => match k with
  | 0 => .array .int
  | 1 => .int
  | 2 => .int
  | _ => .int
abbrev wsX20 : List Cond := u_ws RX2 TX2 4
theorem nmX2 : ∀ a, a < 4 → ∀ b, b < 4 → a ≠ b → (TX2 a).2.1 ≠ (TX2 b).2.1 := by decide +kernel
theorem tyX2_ok : ∀ k, k < 4 → parseFieldDescriptor (TX2 k).2.2.1 = some (tyX2 k) := by decide +kernel
abbrev cX2_init : ByteArray := prog_4_method_1_code
def yX2_init : MethodName := ⟨RX2, "<init>", "()V"⟩
abbrev cX2_heed : ByteArray := prog_4_method_2_code
def yX2_heed : MethodName := ⟨RX2, "heed", "(ILUrchinSchool$Heeds;)I"⟩
abbrev cX2_says : ByteArray := prog_4_method_3_code
def yX2_says : MethodName := ⟨RX2, "says", "(I)I"⟩
def RX3 : String := "UrchinSchool$Keeper"
def TX3 : u_T := fun k => match k with
  | 0 => ("UrchinSchool$Urchin", "bodies", "[I", true)
  | 1 => ("UrchinSchool$Urchin", "ran", "I", false)
  | 2 => ("UrchinSchool$Urchin", "i", "I", false)
  | _ => ("UrchinSchool$Urchin", "v", "I", false)
def tyX3 : Nat → FieldType := fun k => match k with
  | 0 => .array .int
  | 1 => .int
  | 2 => .int
  | _ => .int
abbrev wsX30 : List Cond := u_ws RX3 TX3 4
theorem nmX3 : ∀ a, a < 4 → ∀ b, b < 4 → a ≠ b → (TX3 a).2.1 ≠ (TX3 b).2.1 := by decide +kernel
theorem tyX3_ok : ∀ k, k < 4 → parseFieldDescriptor (TX3 k).2.2.1 = some (tyX3 k) := by decide +kernel
abbrev cX3_init : ByteArray := prog_5_method_1_code
def yX3_init : MethodName := ⟨RX3, "<init>", "()V"⟩
abbrev cX3_heed : ByteArray := prog_5_method_2_code
def yX3_heed : MethodName := ⟨RX3, "heed", "(ILUrchinSchool$Heeds;)I"⟩
abbrev cX3_leans : ByteArray := prog_5_method_3_code
def yX3_leans : MethodName := ⟨RX3, "leans", "(I)I"⟩
def RX4 : String := "UrchinSchool$Ledge"
def TX4 : u_T := fun k => match k with
  | 0 => ("UrchinSchool$Ledge", "steps", "[I", true)
  | 1 => ("UrchinSchool$Ledge", "size", "I", false)
  | 2 => ("UrchinSchool$Ledge", "keep", "I", false)
  | 3 => ("UrchinSchool$Ledge", "pass", "I", false)
  | 4 => ("UrchinSchool$Ledge", "tape", "[B", false)
  | 5 => ("UrchinSchool$Ledge", "signs", "I", false)
  | 6 => ("UrchinSchool$Ledge", "at", "I", false)
  | 7 => ("UrchinSchool$Ledge", "sign", "I", false)
  | 8 => ("UrchinSchool$Ledge", "test", "I", false)
  | _ => ("UrchinSchool$Ledge", "number", "I", false)
def tyX4 : Nat → FieldType := fun k => match k with
  | 0 => .array .int
  | 1 => .int
  | 2 => .int
  | 3 => .int
  | 4 => .array .byte
  | 5 => .int
  | 6 => .int
  | 7 => .int
  | 8 => .int
  | _ => .int
abbrev wsX40 : List Cond := u_ws RX4 TX4 10
theorem nmX4 : ∀ a, a < 10 → ∀ b, b < 10 → a ≠ b → (TX4 a).2.1 ≠ (TX4 b).2.1 := by decide +kernel
theorem tyX4_ok : ∀ k, k < 10 → parseFieldDescriptor (TX4 k).2.2.1 = some (tyX4 k) := by decide +kernel
abbrev cX4_init : ByteArray := prog_6_method_1_code
def yX4_init : MethodName := ⟨RX4, "<init>", "()V"⟩
abbrev cX4_read : ByteArray := prog_6_method_2_code
def yX4_read : MethodName := ⟨RX4, "read", "([BI)I"⟩
abbrev cX4_readClause : ByteArray := prog_6_method_3_code
def yX4_readClause : MethodName := ⟨RX4, "readClause", "()Z"⟩
abbrev cX4_wordOf : ByteArray := prog_6_method_4_code
def yX4_wordOf : MethodName := ⟨RX4, "wordOf", "(I)Ljava/lang/String;"⟩
abbrev cX4_readEither : ByteArray := prog_6_method_5_code
def yX4_readEither : MethodName := ⟨RX4, "readEither", "(I)Z"⟩
abbrev cX4_readBoth : ByteArray := prog_6_method_6_code
def yX4_readBoth : MethodName := ⟨RX4, "readBoth", "(I)Z"⟩
abbrev cX4_readPart : ByteArray := prog_6_method_7_code
def yX4_readPart : MethodName := ⟨RX4, "readPart", "(I)Z"⟩
abbrev cX4_readTest : ByteArray := prog_6_method_8_code
def yX4_readTest : MethodName := ⟨RX4, "readTest", "()Z"⟩
abbrev cX4_placeOf : ByteArray := prog_6_method_9_code
def yX4_placeOf : MethodName := ⟨RX4, "placeOf", "(ILjava/lang/String;)I"⟩
abbrev cX4_readNumber : ByteArray := prog_6_method_10_code
def yX4_readNumber : MethodName := ⟨RX4, "readNumber", "()Z"⟩
abbrev cX4_isDigit : ByteArray := prog_6_method_11_code
def yX4_isDigit : MethodName := ⟨RX4, "isDigit", "(I)Z"⟩
abbrev cX4_takeWord : ByteArray := prog_6_method_12_code
def yX4_takeWord : MethodName := ⟨RX4, "takeWord", "(Ljava/lang/String;)Z"⟩
abbrev cX4_take : ByteArray := prog_6_method_13_code
def yX4_take : MethodName := ⟨RX4, "take", "(I)Z"⟩
abbrev cX4_advance : ByteArray := prog_6_method_14_code
def yX4_advance : MethodName := ⟨RX4, "advance", "()V"⟩
abbrev cX4_put : ByteArray := prog_6_method_15_code
def yX4_put : MethodName := ⟨RX4, "put", "(I)Z"⟩
abbrev cX4_sum : ByteArray := prog_6_method_16_code
def yX4_sum : MethodName := ⟨RX4, "sum", "(LUrchinSchool$Heeds;)I"⟩
abbrev cX4_joined : ByteArray := prog_6_method_17_code
def yX4_joined : MethodName := ⟨RX4, "joined", "(II)I"⟩
abbrev cX4_holds : ByteArray := prog_6_method_18_code
def yX4_holds : MethodName := ⟨RX4, "holds", "(ILUrchinSchool$Heeds;)Z"⟩
def RX5 : String := "UrchinSchool$Monitor"
def TX5 : u_T := fun k => match k with
  | 0 => ("UrchinSchool$Urchin", "bodies", "[I", true)
  | 1 => ("UrchinSchool$Urchin", "ran", "I", false)
  | 2 => ("UrchinSchool$Urchin", "i", "I", false)
  | _ => ("UrchinSchool$Urchin", "v", "I", false)
def tyX5 : Nat → FieldType := fun k => match k with
  | 0 => .array .int
  | 1 => .int
  | 2 => .int
  | _ => .int
abbrev wsX50 : List Cond := u_ws RX5 TX5 4
theorem nmX5 : ∀ a, a < 4 → ∀ b, b < 4 → a ≠ b → (TX5 a).2.1 ≠ (TX5 b).2.1 := by decide +kernel
theorem tyX5_ok : ∀ k, k < 4 → parseFieldDescriptor (TX5 k).2.2.1 = some (tyX5 k) := by decide +kernel
abbrev cX5_init : ByteArray := prog_7_method_1_code
def yX5_init : MethodName := ⟨RX5, "<init>", "()V"⟩
abbrev cX5_heed : ByteArray := prog_7_method_2_code
def yX5_heed : MethodName := ⟨RX5, "heed", "(ILUrchinSchool$Heeds;)I"⟩
abbrev cX5_bristles : ByteArray := prog_7_method_3_code
def yX5_bristles : MethodName := ⟨RX5, "bristles", "(I)I"⟩
def RX6 : String := "UrchinSchool$Pupil"
def TX6 : u_T := fun k => match k with
  | 0 => ("UrchinSchool$Urchin", "bodies", "[I", true)
  | 1 => ("UrchinSchool$Urchin", "ran", "I", false)
  | 2 => ("UrchinSchool$Urchin", "i", "I", false)
  | _ => ("UrchinSchool$Urchin", "v", "I", false)
def tyX6 : Nat → FieldType := fun k => match k with
  | 0 => .array .int
  | 1 => .int
  | 2 => .int
  | _ => .int
abbrev wsX60 : List Cond := u_ws RX6 TX6 4
theorem nmX6 : ∀ a, a < 4 → ∀ b, b < 4 → a ≠ b → (TX6 a).2.1 ≠ (TX6 b).2.1 := by decide +kernel
theorem tyX6_ok : ∀ k, k < 4 → parseFieldDescriptor (TX6 k).2.2.1 = some (tyX6 k) := by decide +kernel
abbrev cX6_init : ByteArray := prog_8_method_1_code
def yX6_init : MethodName := ⟨RX6, "<init>", "()V"⟩
abbrev cX6_heed : ByteArray := prog_8_method_2_code
def yX6_heed : MethodName := ⟨RX6, "heed", "(ILUrchinSchool$Heeds;)I"⟩
abbrev cX6_leans : ByteArray := prog_8_method_3_code
def yX6_leans : MethodName := ⟨RX6, "leans", "(I)I"⟩
def RX7 : String := "UrchinSchool$School"
def TX7 : u_T := fun k => match k with
  | 0 => ("UrchinSchool$School", "kind", "[I", true)
  | 1 => ("UrchinSchool$School", "v", "[I", true)
  | 2 => ("UrchinSchool$School", "knows", "[I", true)
  | 3 => ("UrchinSchool$School", "rows", "[I", true)
  | 4 => ("UrchinSchool$School", "lessons", "[I", true)
  | 5 => ("UrchinSchool$School", "size", "I", false)
  | 6 => ("UrchinSchool$School", "out", "I", false)
  | 7 => ("UrchinSchool$School", "tide", "I", false)
  | 8 => ("UrchinSchool$School", "tape", "[B", true)
  | 9 => ("UrchinSchool$School", "signs", "I", false)
  | 10 => ("UrchinSchool$School", "ledges", "I", false)
  | 11 => ("UrchinSchool$School", "seen", "LUrchinSchool$Table;", true)
  | 12 => ("UrchinSchool$School", "plan", "LUrchinSchool$Table;", true)
  | _ => ("UrchinSchool$School", "book", "LUrchinSchool$Table;", true)
def tyX7 : Nat → FieldType := fun k => match k with
  | 0 => .array .int
  | 1 => .array .int
  | 2 => .array .int
  | 3 => .array .int
  | 4 => .array .int
  | 5 => .int
  | 6 => .int
  | 7 => .int
  | 8 => .array .byte
  | 9 => .int
  | 10 => .int
  | 11 => .object "UrchinSchool$Table"
  | 12 => .object "UrchinSchool$Table"
  | _ => .object "UrchinSchool$Table"
abbrev wsX70 : List Cond := u_ws RX7 TX7 14
theorem nmX7 : ∀ a, a < 14 → ∀ b, b < 14 → a ≠ b → (TX7 a).2.1 ≠ (TX7 b).2.1 := by decide +kernel
theorem tyX7_ok : ∀ k, k < 14 → parseFieldDescriptor (TX7 k).2.2.1 = some (tyX7 k) := by decide +kernel
abbrev cX7_init : ByteArray := prog_9_method_1_code
def yX7_init : MethodName := ⟨RX7, "<init>", "()V"⟩
abbrev cX7_become : ByteArray := prog_9_method_2_code
def yX7_become : MethodName := ⟨RX7, "become", "(LUrchinSchool$School;)V"⟩
abbrev cX7_becomeRow : ByteArray := prog_9_method_3_code
def yX7_becomeRow : MethodName := ⟨RX7, "becomeRow", "(LUrchinSchool$School;)V"⟩
abbrev cX7_join : ByteArray := prog_9_method_4_code
def yX7_join : MethodName := ⟨RX7, "join", "(II)I"⟩
abbrev cX7_has : ByteArray := prog_9_method_5_code
def yX7_has : MethodName := ⟨RX7, "has", "(I)Z"⟩
abbrev cX7_isOut : ByteArray := prog_9_method_6_code
def yX7_isOut : MethodName := ⟨RX7, "isOut", "(I)Z"⟩
abbrev cX7_putOut : ByteArray := prog_9_method_7_code
def yX7_putOut : MethodName := ⟨RX7, "putOut", "(IZ)V"⟩
abbrev cX7_tellFact : ByteArray := prog_9_method_8_code
def yX7_tellFact : MethodName := ⟨RX7, "tellFact", "(II)V"⟩
abbrev cX7_all : ByteArray := prog_9_method_9_code
def yX7_all : MethodName := ⟨RX7, "all", "()I"⟩
abbrev cX7_held : ByteArray := prog_9_method_10_code
def yX7_held : MethodName := ⟨RX7, "held", "()I"⟩
abbrev cX7_notOut : ByteArray := prog_9_method_11_code
def yX7_notOut : MethodName := ⟨RX7, "notOut", "()I"⟩
abbrev cX7_few : ByteArray := prog_9_method_12_code
def yX7_few : MethodName := ⟨RX7, "few", "()I"⟩
abbrev cX7_knownBy : ByteArray := prog_9_method_13_code
def yX7_knownBy : MethodName := ⟨RX7, "knownBy", "(I)I"⟩
abbrev cX7_lastSeen : ByteArray := prog_9_method_14_code
def yX7_lastSeen : MethodName := ⟨RX7, "lastSeen", "()I"⟩
abbrev cX7_isAsSeen : ByteArray := prog_9_method_15_code
def yX7_isAsSeen : MethodName := ⟨RX7, "isAsSeen", "(LUrchinSchool$Table;I)Z"⟩
abbrev cX7_lessonNow : ByteArray := prog_9_method_16_code
def yX7_lessonNow : MethodName := ⟨RX7, "lessonNow", "()I"⟩
abbrev cX7_goTide : ByteArray := prog_9_method_17_code
def yX7_goTide : MethodName := ⟨RX7, "goTide", "(LUrchinSchool$Heeds;LUrchinSchool$Ledge;I)V"⟩
abbrev cX7_least : ByteArray := prog_9_method_18_code
def yX7_least : MethodName := ⟨RX7, "least", "(II)I"⟩
def RX8 : String := "UrchinSchool$Table"
def TX8 : u_T := fun k => match k with
  | 0 => ("UrchinSchool$Table", "cells", "[I", true)
  | 1 => ("UrchinSchool$Table", "limit", "I", true)
  | _ => ("UrchinSchool$Table", "size", "I", false)
def tyX8 : Nat → FieldType := fun k => match k with
  | 0 => .array .int
  | 1 => .int
  | _ => .int
abbrev wsX80 : List Cond := u_ws RX8 TX8 3
theorem nmX8 : ∀ a, a < 3 → ∀ b, b < 3 → a ≠ b → (TX8 a).2.1 ≠ (TX8 b).2.1 := by decide +kernel
theorem tyX8_ok : ∀ k, k < 3 → parseFieldDescriptor (TX8 k).2.2.1 = some (tyX8 k) := by decide +kernel
abbrev cX8_init : ByteArray := prog_10_method_1_code
def yX8_init : MethodName := ⟨RX8, "<init>", "(I)V"⟩
abbrev cX8_empty : ByteArray := prog_10_method_2_code
def yX8_empty : MethodName := ⟨RX8, "empty", "()I"⟩
abbrev cX8_add : ByteArray := prog_10_method_3_code
def yX8_add : MethodName := ⟨RX8, "add", "(IIII)I"⟩
abbrev cX8_cell : ByteArray := prog_10_method_4_code
def yX8_cell : MethodName := ⟨RX8, "cell", "(II)I"⟩
abbrev cX8_takeOver : ByteArray := prog_10_method_5_code
def yX8_takeOver : MethodName := ⟨RX8, "takeOver", "(LUrchinSchool$Table;)V"⟩
def RX9 : String := "UrchinSchool$Told"
def TX9 : u_T := fun k => match k with
  | 0 => ("UrchinSchool$Urchin", "bodies", "[I", true)
  | 1 => ("UrchinSchool$Urchin", "ran", "I", false)
  | 2 => ("UrchinSchool$Urchin", "i", "I", false)
  | _ => ("UrchinSchool$Urchin", "v", "I", false)
def tyX9 : Nat → FieldType := fun k => match k with
  | 0 => .array .int
  | 1 => .int
  | 2 => .int
  | _ => .int
abbrev wsX90 : List Cond := u_ws RX9 TX9 4
theorem nmX9 : ∀ a, a < 4 → ∀ b, b < 4 → a ≠ b → (TX9 a).2.1 ≠ (TX9 b).2.1 := by decide +kernel
theorem tyX9_ok : ∀ k, k < 4 → parseFieldDescriptor (TX9 k).2.2.1 = some (tyX9 k) := by decide +kernel
abbrev cX9_init : ByteArray := prog_11_method_1_code
def yX9_init : MethodName := ⟨RX9, "<init>", "()V"⟩
abbrev cX9_heed : ByteArray := prog_11_method_2_code
def yX9_heed : MethodName := ⟨RX9, "heed", "(ILUrchinSchool$Heeds;)I"⟩
abbrev cX9_says : ByteArray := prog_11_method_3_code
def yX9_says : MethodName := ⟨RX9, "says", "(I)I"⟩
def RX10 : String := "UrchinSchool$Urchin"
def TX10 : u_T := fun k => match k with
  | 0 => ("UrchinSchool$Urchin", "bodies", "[I", true)
  | 1 => ("UrchinSchool$Urchin", "ran", "I", false)
  | 2 => ("UrchinSchool$Urchin", "i", "I", false)
  | _ => ("UrchinSchool$Urchin", "v", "I", false)
def tyX10 : Nat → FieldType := fun k => match k with
  | 0 => .array .int
  | 1 => .int
  | 2 => .int
  | _ => .int
abbrev wsX100 : List Cond := u_ws RX10 TX10 4
theorem nmX10 : ∀ a, a < 4 → ∀ b, b < 4 → a ≠ b → (TX10 a).2.1 ≠ (TX10 b).2.1 := by decide +kernel
theorem tyX10_ok : ∀ k, k < 4 → parseFieldDescriptor (TX10 k).2.2.1 = some (tyX10 k) := by decide +kernel
abbrev cX10_init : ByteArray := prog_12_method_1_code
def yX10_init : MethodName := ⟨RX10, "<init>", "()V"⟩
abbrev cX10_wake : ByteArray := prog_12_method_2_code
def yX10_wake : MethodName := ⟨RX10, "wake", "(II)V"⟩
abbrev cX10_begin : ByteArray := prog_12_method_3_code
def yX10_begin : MethodName := ⟨RX10, "begin", "(I)V"⟩
abbrev cX10_bodyAt : ByteArray := prog_12_method_4_code
def yX10_bodyAt : MethodName := ⟨RX10, "bodyAt", "(I)I"⟩
abbrev cX10_heed : ByteArray := prog_12_method_5_code
def yX10_heed : MethodName := ⟨RX10, "heed", "(ILUrchinSchool$Heeds;)I"⟩
abbrev cX10_leans : ByteArray := prog_12_method_6_code
def yX10_leans : MethodName := ⟨RX10, "leans", "(I)I"⟩
abbrev cX10_says : ByteArray := prog_12_method_7_code
def yX10_says : MethodName := ⟨RX10, "says", "(I)I"⟩
abbrev cX10_bristles : ByteArray := prog_12_method_8_code
def yX10_bristles : MethodName := ⟨RX10, "bristles", "(I)I"⟩
def RX11 : String := "UrchinSchool"
def TX11 : u_T := fun k => match k with
  | 0 => ("UrchinSchool", "now", "LUrchinSchool$School;", true)
  | 1 => ("UrchinSchool", "kept", "LUrchinSchool$School;", true)
  | 2 => ("UrchinSchool", "ahead", "LUrchinSchool$School;", true)
  | 3 => ("UrchinSchool", "heeds", "LUrchinSchool$Heeds;", true)
  | 4 => ("UrchinSchool", "bare", "LUrchinSchool$Ledge;", true)
  | 5 => ("UrchinSchool", "ledges", "[LUrchinSchool$Ledge;", true)
  | 6 => ("UrchinSchool", "imageTaken", "Z", false)
  | _ => ("UrchinSchool", "actor", "LUrchinSchool$Urchin;", false)
def tyX11 : Nat → FieldType := fun k => match k with
  | 0 => .object "UrchinSchool$School"
  | 1 => .object "UrchinSchool$School"
  | 2 => .object "UrchinSchool$School"
  | 3 => .object "UrchinSchool$Heeds"
  | 4 => .object "UrchinSchool$Ledge"
  | 5 => .array (.object "UrchinSchool$Ledge")
  | 6 => .boolean
  | _ => .object "UrchinSchool$Urchin"
abbrev wsX110 : List Cond := u_ws RX11 TX11 8
theorem nmX11 : ∀ a, a < 8 → ∀ b, b < 8 → a ≠ b → (TX11 a).2.1 ≠ (TX11 b).2.1 := by decide +kernel
theorem tyX11_ok : ∀ k, k < 8 → parseFieldDescriptor (TX11 k).2.2.1 = some (tyX11 k) := by decide +kernel
abbrev cX11_init : ByteArray := prog_1_method_1_code
def yX11_init : MethodName := ⟨RX11, "<init>", "()V"⟩
abbrev cX11_feed : ByteArray := prog_1_method_2_code
def yX11_feed : MethodName := ⟨RX11, "feed", "(I)I"⟩
abbrev cX11_ledge : ByteArray := prog_1_method_3_code
def yX11_ledge : MethodName := ⟨RX11, "ledge", "()I"⟩
abbrev cX11_urchin : ByteArray := prog_1_method_4_code
def yX11_urchin : MethodName := ⟨RX11, "urchin", "(II)I"⟩
abbrev cX11_of : ByteArray := prog_1_method_5_code
def yX11_of : MethodName := ⟨RX11, "of", "(II)I"⟩
abbrev cX11_row : ByteArray := prog_1_method_6_code
def yX11_row : MethodName := ⟨RX11, "row", "(III)I"⟩
abbrev cX11_learn : ByteArray := prog_1_method_7_code
def yX11_learn : MethodName := ⟨RX11, "learn", "(II)I"⟩
abbrev cX11_beach : ByteArray := prog_1_method_8_code
def yX11_beach : MethodName := ⟨RX11, "beach", "(IZ)I"⟩
abbrev cX11_lesson : ByteArray := prog_1_method_9_code
def yX11_lesson : MethodName := ⟨RX11, "lesson", "(II)I"⟩
abbrev cX11_told : ByteArray := prog_1_method_10_code
def yX11_told : MethodName := ⟨RX11, "told", "(I)I"⟩
abbrev cX11_toldLesson : ByteArray := prog_1_method_11_code
def yX11_toldLesson : MethodName := ⟨RX11, "toldLesson", "(I)I"⟩
abbrev cX11_pass : ByteArray := prog_1_method_12_code
def yX11_pass : MethodName := ⟨RX11, "pass", "(I)I"⟩
abbrev cX11_on : ByteArray := prog_1_method_13_code
def yX11_on : MethodName := ⟨RX11, "on", "(II)I"⟩
abbrev cX11_lasts : ByteArray := prog_1_method_14_code
def yX11_lasts : MethodName := ⟨RX11, "lasts", "(I)I"⟩
abbrev cX11_teach : ByteArray := prog_1_method_15_code
def yX11_teach : MethodName := ⟨RX11, "teach", "(II)I"⟩
abbrev cX11_tell : ByteArray := prog_1_method_16_code
def yX11_tell : MethodName := ⟨RX11, "tell", "(I)I"⟩
abbrev cX11_tidesIfTold : ByteArray := prog_1_method_17_code
def yX11_tidesIfTold : MethodName := ⟨RX11, "tidesIfTold", "(II)I"⟩
abbrev cX11_tidesAheadWith : ByteArray := prog_1_method_18_code
def yX11_tidesAheadWith : MethodName := ⟨RX11, "tidesAheadWith", "(I)I"⟩
abbrev cX11_heldIfTaught : ByteArray := prog_1_method_19_code
def yX11_heldIfTaught : MethodName := ⟨RX11, "heldIfTaught", "(II)I"⟩
abbrev cX11_taughtAt : ByteArray := prog_1_method_20_code
def yX11_taughtAt : MethodName := ⟨RX11, "taughtAt", "(III)I"⟩
abbrev cX11_see : ByteArray := prog_1_method_21_code
def yX11_see : MethodName := ⟨RX11, "see", "(IIIZ)I"⟩
abbrev cX11_knew : ByteArray := prog_1_method_22_code
def yX11_knew : MethodName := ⟨RX11, "knew", "(II)I"⟩
abbrev cX11_firm : ByteArray := prog_1_method_23_code
def yX11_firm : MethodName := ⟨RX11, "firm", "(II)I"⟩
abbrev cX11_seenIsSo : ByteArray := prog_1_method_24_code
def yX11_seenIsSo : MethodName := ⟨RX11, "seenIsSo", "()Z"⟩
abbrev cX11_odds : ByteArray := prog_1_method_25_code
def yX11_odds : MethodName := ⟨RX11, "odds", "(III)J"⟩
abbrev cX11_mean : ByteArray := prog_1_method_26_code
def yX11_mean : MethodName := ⟨RX11, "mean", "(I)J"⟩
abbrev cX11_lowest : ByteArray := prog_1_method_27_code
def yX11_lowest : MethodName := ⟨RX11, "lowest", "(III)J"⟩
abbrev cX11_plan : ByteArray := prog_1_method_28_code
def yX11_plan : MethodName := ⟨RX11, "plan", "(II)I"⟩
abbrev cX11_isPlan : ByteArray := prog_1_method_29_code
def yX11_isPlan : MethodName := ⟨RX11, "isPlan", "(II)Z"⟩
abbrev cX11_done : ByteArray := prog_1_method_30_code
def yX11_done : MethodName := ⟨RX11, "done", "(I)I"⟩
abbrev cX11_doPlanned : ByteArray := prog_1_method_31_code
def yX11_doPlanned : MethodName := ⟨RX11, "doPlanned", "(II)V"⟩
abbrev cX11_book : ByteArray := prog_1_method_32_code
def yX11_book : MethodName := ⟨RX11, "book", "(II)I"⟩
abbrev cX11_looked : ByteArray := prog_1_method_33_code
def yX11_looked : MethodName := ⟨RX11, "looked", "()I"⟩
abbrev cX11_act : ByteArray := prog_1_method_34_code
def yX11_act : MethodName := ⟨RX11, "act", "(III)I"⟩
abbrev cX11_trace : ByteArray := prog_1_method_35_code
def yX11_trace : MethodName := ⟨RX11, "trace", "(I)I"⟩
abbrev cX11_as : ByteArray := prog_1_method_36_code
def yX11_as : MethodName := ⟨RX11, "as", "(II)I"⟩
abbrev cX11_image : ByteArray := prog_1_method_37_code
def yX11_image : MethodName := ⟨RX11, "image", "()I"⟩
abbrev cX11_undo : ByteArray := prog_1_method_38_code
def yX11_undo : MethodName := ⟨RX11, "undo", "()I"⟩
abbrev cX11_count : ByteArray := prog_1_method_39_code
def yX11_count : MethodName := ⟨RX11, "count", "(I)I"⟩
abbrev cX11_holding : ByteArray := prog_1_method_40_code
def yX11_holding : MethodName := ⟨RX11, "holding", "()LUrchinSchool$Ledge;"⟩
abbrev cX11_go : ByteArray := prog_1_method_41_code
def yX11_go : MethodName := ⟨RX11, "go", "(LUrchinSchool$School;I)V"⟩
abbrev cX11_isFact : ByteArray := prog_1_method_42_code
def yX11_isFact : MethodName := ⟨RX11, "isFact", "(J)Z"⟩
abbrev cX11_isSet : ByteArray := prog_1_method_43_code
def yX11_isSet : MethodName := ⟨RX11, "isSet", "(I)Z"⟩
abbrev cX11_isNumber : ByteArray := prog_1_method_44_code
def yX11_isNumber : MethodName := ⟨RX11, "isNumber", "(I)Z"⟩
abbrev cX11_isLesson : ByteArray := prog_1_method_45_code
def yX11_isLesson : MethodName := ⟨RX11, "isLesson", "(I)Z"⟩
abbrev cX11_areTides : ByteArray := prog_1_method_46_code
def yX11_areTides : MethodName := ⟨RX11, "areTides", "(I)Z"⟩
abbrev cX11_isPart : ByteArray := prog_1_method_47_code
def yX11_isPart : MethodName := ⟨RX11, "isPart", "(I)Z"⟩
def RX12 : String := "UrchinSchoolModel"
def TX12 : u_T := fun k => match k with
  | 0 => ("UrchinSchoolModel", "thrown", "I", false)
  | 1 => ("UrchinSchoolModel", "s", "[I", true)
  | 2 => ("UrchinSchoolModel", "image", "[I", true)
  | 3 => ("UrchinSchoolModel", "frame", "[I", true)
  | 4 => ("UrchinSchoolModel", "hasImage", "Z", false)
  | 5 => ("UrchinSchoolModel", "act", "I", false)
  | 6 => ("UrchinSchoolModel", "spot", "I", false)
  | 7 => ("UrchinSchoolModel", "end", "I", false)
  | 8 => ("UrchinSchoolModel", "isWrong", "Z", false)
  | 9 => ("UrchinSchoolModel", "open", "I", false)
  | 10 => ("UrchinSchoolModel", "by", "[I", true)
  | 11 => ("UrchinSchoolModel", "truths", "[Z", true)
  | 12 => ("UrchinSchoolModel", "sums", "[I", true)
  | 13 => ("UrchinSchoolModel", "lookedFor", "[I", true)
  | 14 => ("UrchinSchoolModel", "looking", "I", false)
  | 15 => ("UrchinSchoolModel", "next", "[I", true)
  | 16 => ("UrchinSchoolModel", "bodies", "[I", true)
  | 17 => ("UrchinSchoolModel", "ran", "I", false)
  | 18 => ("UrchinSchoolModel", "kind", "I", false)
  | 19 => ("UrchinSchoolModel", "number", "I", false)
  | _ => ("UrchinSchoolModel", "tellsV", "I", false)
def tyX12 : Nat → FieldType := fun k => match k with
  | 0 => .int
  | 1 => .array .int
  | 2 => .array .int
  | 3 => .array .int
  | 4 => .boolean
  | 5 => .int
  | 6 => .int
  | 7 => .int
  | 8 => .boolean
  | 9 => .int
  | 10 => .array .int
  | 11 => .array .boolean
  | 12 => .array .int
  | 13 => .array .int
  | 14 => .int
  | 15 => .array .int
  | 16 => .array .int
  | 17 => .int
  | 18 => .int
  | 19 => .int
  | _ => .int
abbrev wsX120 : List Cond := u_ws RX12 TX12 21
theorem nmX12 : ∀ a, a < 21 → ∀ b, b < 21 → a ≠ b → (TX12 a).2.1 ≠ (TX12 b).2.1 := by decide +kernel
theorem tyX12_ok : ∀ k, k < 21 → parseFieldDescriptor (TX12 k).2.2.1 = some (tyX12 k) := by decide +kernel
abbrev cX12_init : ByteArray := prog_14_method_1_code
def yX12_init : MethodName := ⟨RX12, "<init>", "()V"⟩
abbrev cX12_in : ByteArray := prog_14_method_3_code
def yX12_in : MethodName := ⟨RX12, "in", "(III)Z"⟩
abbrev cX12_isUrchin : ByteArray := prog_14_method_4_code
def yX12_isUrchin : MethodName := ⟨RX12, "isUrchin", "(I)Z"⟩
abbrev cX12_isFact : ByteArray := prog_14_method_5_code
def yX12_isFact : MethodName := ⟨RX12, "isFact", "(I)Z"⟩
abbrev cX12_keeps : ByteArray := prog_14_method_6_code
def yX12_keeps : MethodName := ⟨RX12, "keeps", "()V"⟩
abbrev cX12_goesBack : ByteArray := prog_14_method_7_code
def yX12_goesBack : MethodName := ⟨RX12, "goesBack", "()V"⟩
abbrev cX12_feed : ByteArray := prog_14_method_8_code
def yX12_feed : MethodName := ⟨RX12, "feed", "(I)I"⟩
abbrev cX12_here : ByteArray := prog_14_method_9_code
def yX12_here : MethodName := ⟨RX12, "here", "()I"⟩
abbrev cX12_must : ByteArray := prog_14_method_10_code
def yX12_must : MethodName := ⟨RX12, "must", "(I)V"⟩
abbrev cX12_spells : ByteArray := prog_14_method_11_code
def yX12_spells : MethodName := ⟨RX12, "spells", "(Ljava/lang/String;)V"⟩
abbrev cX12_figures : ByteArray := prog_14_method_12_code
def yX12_figures : MethodName := ⟨RX12, "figures", "()I"⟩
abbrev cX12_among : ByteArray := prog_14_method_13_code
def yX12_among : MethodName := ⟨RX12, "among", "(Ljava/lang/String;)I"⟩
abbrev cX12_emits : ByteArray := prog_14_method_14_code
def yX12_emits : MethodName := ⟨RX12, "emits", "(I)V"⟩
abbrev cX12_factor : ByteArray := prog_14_method_15_code
def yX12_factor : MethodName := ⟨RX12, "factor", "()V"⟩
abbrev cX12_every : ByteArray := prog_14_method_16_code
def yX12_every : MethodName := ⟨RX12, "every", "()V"⟩
abbrev cX12_some : ByteArray := prog_14_method_17_code
def yX12_some : MethodName := ⟨RX12, "some", "()V"⟩
abbrev cX12_much : ByteArray := prog_14_method_18_code
def yX12_much : MethodName := ⟨RX12, "much", "(ILjava/lang/String;)V"⟩
abbrev cX12_tellsHere : ByteArray := prog_14_method_19_code
def yX12_tellsHere : MethodName := ⟨RX12, "tellsHere", "(ILjava/lang/String;)V"⟩
abbrev cX12_clauseHere : ByteArray := prog_14_method_20_code
def yX12_clauseHere : MethodName := ⟨RX12, "clauseHere", "()V"⟩
abbrev cX12_ledge : ByteArray := prog_14_method_21_code
def yX12_ledge : MethodName := ⟨RX12, "ledge", "()I"⟩
abbrev cX12_tellsOf : ByteArray := prog_14_method_22_code
def yX12_tellsOf : MethodName := ⟨RX12, "tellsOf", "(II)I"⟩
abbrev cX12_countOf : ByteArray := prog_14_method_23_code
def yX12_countOf : MethodName := ⟨RX12, "countOf", "(I)I"⟩
abbrev cX12_clausesOf : ByteArray := prog_14_method_24_code
def yX12_clausesOf : MethodName := ⟨RX12, "clausesOf", "(IIII)I"⟩
abbrev cX12_looksAnew : ByteArray := prog_14_method_25_code
def yX12_looksAnew : MethodName := ⟨RX12, "looksAnew", "()V"⟩
abbrev cX12_sumOf : ByteArray := prog_14_method_26_code
def yX12_sumOf : MethodName := ⟨RX12, "sumOf", "(II)I"⟩
abbrev cX12_heedOf : ByteArray := prog_14_method_27_code
def yX12_heedOf : MethodName := ⟨RX12, "heedOf", "(II)I"⟩
abbrev cX12_becomes : ByteArray := prog_14_method_28_code
def yX12_becomes : MethodName := ⟨RX12, "becomes", "(II)I"⟩
abbrev cX12_urchin : ByteArray := prog_14_method_29_code
def yX12_urchin : MethodName := ⟨RX12, "urchin", "(II)I"⟩
abbrev cX12_of : ByteArray := prog_14_method_30_code
def yX12_of : MethodName := ⟨RX12, "of", "(II)I"⟩
abbrev cX12_row : ByteArray := prog_14_method_31_code
def yX12_row : MethodName := ⟨RX12, "row", "(III)I"⟩
abbrev cX12_learn : ByteArray := prog_14_method_32_code
def yX12_learn : MethodName := ⟨RX12, "learn", "(II)I"⟩
abbrev cX12_beach : ByteArray := prog_14_method_33_code
def yX12_beach : MethodName := ⟨RX12, "beach", "(IZ)I"⟩
abbrev cX12_lesson : ByteArray := prog_14_method_34_code
def yX12_lesson : MethodName := ⟨RX12, "lesson", "(II)I"⟩
abbrev cX12_knownByAny : ByteArray := prog_14_method_35_code
def yX12_knownByAny : MethodName := ⟨RX12, "knownByAny", "()I"⟩
abbrev cX12_heldByAll : ByteArray := prog_14_method_36_code
def yX12_heldByAll : MethodName := ⟨RX12, "heldByAll", "()I"⟩
abbrev cX12_awayOnes : ByteArray := prog_14_method_37_code
def yX12_awayOnes : MethodName := ⟨RX12, "awayOnes", "()I"⟩
abbrev cX12_knownBy : ByteArray := prog_14_method_38_code
def yX12_knownBy : MethodName := ⟨RX12, "knownBy", "(I)I"⟩
abbrev cX12_fewest : ByteArray := prog_14_method_39_code
def yX12_fewest : MethodName := ⟨RX12, "fewest", "()I"⟩
abbrev cX12_told : ByteArray := prog_14_method_40_code
def yX12_told : MethodName := ⟨RX12, "told", "(I)I"⟩
abbrev cX12_isPassed : ByteArray := prog_14_method_41_code
def yX12_isPassed : MethodName := ⟨RX12, "isPassed", "(II)Z"⟩
abbrev cX12_isKnownNext : ByteArray := prog_14_method_42_code
def yX12_isKnownNext : MethodName := ⟨RX12, "isKnownNext", "(III)Z"⟩
abbrev cX12_knownNext : ByteArray := prog_14_method_43_code
def yX12_knownNext : MethodName := ⟨RX12, "knownNext", "(II)I"⟩
abbrev cX12_goesBy : ByteArray := prog_14_method_44_code
def yX12_goesBy : MethodName := ⟨RX12, "goesBy", "(I)V"⟩
abbrev cX12_goes : ByteArray := prog_14_method_45_code
def yX12_goes : MethodName := ⟨RX12, "goes", "()V"⟩
abbrev cX12_goesOn : ByteArray := prog_14_method_46_code
def yX12_goesOn : MethodName := ⟨RX12, "goesOn", "(I)V"⟩
abbrev cX12_pass : ByteArray := prog_14_method_47_code
def yX12_pass : MethodName := ⟨RX12, "pass", "(I)I"⟩
abbrev cX12_on : ByteArray := prog_14_method_48_code
def yX12_on : MethodName := ⟨RX12, "on", "(II)I"⟩
abbrev cX12_tidesKnown : ByteArray := prog_14_method_49_code
def yX12_tidesKnown : MethodName := ⟨RX12, "tidesKnown", "(I)I"⟩
abbrev cX12_lasts : ByteArray := prog_14_method_50_code
def yX12_lasts : MethodName := ⟨RX12, "lasts", "(I)I"⟩
abbrev cX12_tell : ByteArray := prog_14_method_51_code
def yX12_tell : MethodName := ⟨RX12, "tell", "(I)I"⟩
abbrev cX12_heldBehind : ByteArray := prog_14_method_52_code
def yX12_heldBehind : MethodName := ⟨RX12, "heldBehind", "(II)I"⟩
abbrev cX12_teach : ByteArray := prog_14_method_53_code
def yX12_teach : MethodName := ⟨RX12, "teach", "(II)I"⟩
abbrev cX12_see : ByteArray := prog_14_method_54_code
def yX12_see : MethodName := ⟨RX12, "see", "(IIIZ)I"⟩
abbrev cX12_isAsSeen : ByteArray := prog_14_method_55_code
def yX12_isAsSeen : MethodName := ⟨RX12, "isAsSeen", "(I)Z"⟩
abbrev cX12_areAsSeen : ByteArray := prog_14_method_56_code
def yX12_areAsSeen : MethodName := ⟨RX12, "areAsSeen", "()Z"⟩
abbrev cX12_fitting : ByteArray := prog_14_method_57_code
def yX12_fitting : MethodName := ⟨RX12, "fitting", "(III)I"⟩
abbrev cX12_knew : ByteArray := prog_14_method_58_code
def yX12_knew : MethodName := ⟨RX12, "knew", "(II)I"⟩
abbrev cX12_firm : ByteArray := prog_14_method_59_code
def yX12_firm : MethodName := ⟨RX12, "firm", "(II)I"⟩
abbrev cX12_lowest : ByteArray := prog_14_method_60_code
def yX12_lowest : MethodName := ⟨RX12, "lowest", "(JJI)J"⟩
abbrev cX12_odds : ByteArray := prog_14_method_61_code
def yX12_odds : MethodName := ⟨RX12, "odds", "(III)J"⟩
abbrev cX12_mean : ByteArray := prog_14_method_62_code
def yX12_mean : MethodName := ⟨RX12, "mean", "(I)J"⟩
abbrev cX12_isPlan : ByteArray := prog_14_method_63_code
def yX12_isPlan : MethodName := ⟨RX12, "isPlan", "(II)Z"⟩
abbrev cX12_plan : ByteArray := prog_14_method_64_code
def yX12_plan : MethodName := ⟨RX12, "plan", "(II)I"⟩
abbrev cX12_does : ByteArray := prog_14_method_65_code
def yX12_does : MethodName := ⟨RX12, "does", "(II)V"⟩
abbrev cX12_done : ByteArray := prog_14_method_66_code
def yX12_done : MethodName := ⟨RX12, "done", "(I)I"⟩
abbrev cX12_book : ByteArray := prog_14_method_67_code
def yX12_book : MethodName := ⟨RX12, "book", "(II)I"⟩
abbrev cX12_looked : ByteArray := prog_14_method_68_code
def yX12_looked : MethodName := ⟨RX12, "looked", "()I"⟩
abbrev cX12_ranBody : ByteArray := prog_14_method_69_code
def yX12_ranBody : MethodName := ⟨RX12, "ranBody", "(I)V"⟩
abbrev cX12_isUnder : ByteArray := prog_14_method_70_code
def yX12_isUnder : MethodName := ⟨RX12, "isUnder", "(II)Z"⟩
abbrev cX12_plainLeans : ByteArray := prog_14_method_71_code
def yX12_plainLeans : MethodName := ⟨RX12, "plainLeans", "(I)I"⟩
abbrev cX12_leansActs : ByteArray := prog_14_method_72_code
def yX12_leansActs : MethodName := ⟨RX12, "leansActs", "(I)I"⟩
abbrev cX12_plainSays : ByteArray := prog_14_method_73_code
def yX12_plainSays : MethodName := ⟨RX12, "plainSays", "(I)I"⟩
abbrev cX12_saysActs : ByteArray := prog_14_method_74_code
def yX12_saysActs : MethodName := ⟨RX12, "saysActs", "(I)I"⟩
abbrev cX12_plainTelling : ByteArray := prog_14_method_75_code
def yX12_plainTelling : MethodName := ⟨RX12, "plainTelling", "(I)I"⟩
abbrev cX12_bristlesActs : ByteArray := prog_14_method_76_code
def yX12_bristlesActs : MethodName := ⟨RX12, "bristlesActs", "(I)I"⟩
abbrev cX12_act : ByteArray := prog_14_method_77_code
def yX12_act : MethodName := ⟨RX12, "act", "(III)I"⟩
abbrev cX12_trace : ByteArray := prog_14_method_78_code
def yX12_trace : MethodName := ⟨RX12, "trace", "(I)I"⟩
abbrev cX12_as : ByteArray := prog_14_method_79_code
def yX12_as : MethodName := ⟨RX12, "as", "(II)I"⟩
abbrev cX12_image : ByteArray := prog_14_method_80_code
def yX12_image : MethodName := ⟨RX12, "image", "()I"⟩
abbrev cX12_undo : ByteArray := prog_14_method_81_code
def yX12_undo : MethodName := ⟨RX12, "undo", "()I"⟩
abbrev cX12_count : ByteArray := prog_14_method_82_code
def yX12_count : MethodName := ⟨RX12, "count", "(I)I"⟩
def RJx145de : String := "java/io/Serializable"
def TJx145de : u_T := fun k => match k with
  | _ => ("", "", "", false)
def tyJx145de : Nat → FieldType := fun k => match k with
  | _ => .int
def RJx9f9b0 : String := "java/lang/CharSequence"
def TJx9f9b0 : u_T := fun k => match k with
  | _ => ("", "", "", false)
def tyJx9f9b0 : Nat → FieldType := fun k => match k with
  | _ => .int
def RJ11 : String := "java/lang/Character"
def TJ11 : u_T := fun k => match k with
  | _ => ("", "", "", false)
def tyJ11 : Nat → FieldType := fun k => match k with
  | _ => .int
abbrev cJ11_isValidCodePoint_9a6ad : ByteArray := prog_15_method_11_code
def yJ11_isValidCodePoint_9a6ad : MethodName := ⟨RJ11, "isValidCodePoint", "(I)Z"⟩
abbrev cJ11_highSurrogate_5068e : ByteArray := prog_15_method_28_code
def yJ11_highSurrogate_5068e : MethodName := ⟨RJ11, "highSurrogate", "(I)C"⟩
abbrev cJ11_lowSurrogate_5068e : ByteArray := prog_15_method_29_code
def yJ11_lowSurrogate_5068e : MethodName := ⟨RJ11, "lowSurrogate", "(I)C"⟩
def RJxb160c : String := "java/lang/Comparable"
def TJxb160c : u_T := fun k => match k with
  | _ => ("", "", "", false)
def tyJxb160c : Nat → FieldType := fun k => match k with
  | _ => .int
def RJ6 : String := "java/lang/Integer"
def TJ6 : u_T := fun k => match k with
  | _ => ("", "", "", false)
def tyJ6 : Nat → FieldType := fun k => match k with
  | _ => .int
abbrev cJ6_bitCount_0f7a4 : ByteArray := prog_16_method_49_code
def yJ6_bitCount_0f7a4 : MethodName := ⟨RJ6, "bitCount", "(I)I"⟩
def RJ9 : String := "java/lang/Math"
def TJ9 : u_T := fun k => match k with
  | _ => ("", "", "", false)
def tyJ9 : Nat → FieldType := fun k => match k with
  | _ => .int
abbrev cJ9_max_7cf53 : ByteArray := prog_17_method_65_code
def yJ9_max_7cf53 : MethodName := ⟨RJ9, "max", "(II)I"⟩
abbrev cJ9_min_7cf53 : ByteArray := prog_17_method_69_code
def yJ9_min_7cf53 : MethodName := ⟨RJ9, "min", "(II)I"⟩
def RJ0 : String := "java/lang/String"
def TJ0 : u_T := fun k => match k with
  | _ => ("", "", "", false)
def tyJ0 : Nat → FieldType := fun k => match k with
  | _ => .int
abbrev cJ0_length_8abf5 : ByteArray := prog_18_method_54_code
def yJ0_length_8abf5 : MethodName := ⟨RJ0, "length", "()I"⟩
abbrev cJ0_charAt_5068e : ByteArray := prog_18_method_56_code
def yJ0_charAt_5068e : MethodName := ⟨RJ0, "charAt", "(I)C"⟩
abbrev cJ0_indexOf_0f7a4 : ByteArray := prog_18_method_79_code
def yJ0_indexOf_0f7a4 : MethodName := ⟨RJ0, "indexOf", "(I)I"⟩
abbrev cJ0_indexOf_7cf53 : ByteArray := prog_18_method_80_code
def yJ0_indexOf_7cf53 : MethodName := ⟨RJ0, "indexOf", "(II)I"⟩
abbrev cJ0_coder_7d493 : ByteArray := prog_18_method_152_code
def yJ0_coder_7d493 : MethodName := ⟨RJ0, "coder", "()B"⟩
abbrev cJ0_isLatin1_aae02 : ByteArray := prog_18_method_154_code
def yJ0_isLatin1_aae02 : MethodName := ⟨RJ0, "isLatin1", "()Z"⟩
abbrev cJ0_checkIndex_df160 : ByteArray := prog_18_method_155_code
def yJ0_checkIndex_df160 : MethodName := ⟨RJ0, "checkIndex", "(II)V"⟩
abbrev cJ0_checkBoundsBeginEnd_23922 : ByteArray := prog_18_method_158_code
def yJ0_checkBoundsBeginEnd_23922 : MethodName := ⟨RJ0, "checkBoundsBeginEnd", "(III)V"⟩
def RJ1 : String := "java/lang/StringLatin1"
def TJ1 : u_T := fun k => match k with
  | _ => ("", "", "", false)
def tyJ1 : Nat → FieldType := fun k => match k with
  | _ => .int
abbrev cJ1_charAt_3b067 : ByteArray := prog_19_method_2_code
def yJ1_charAt_3b067 : MethodName := ⟨RJ1, "charAt", "([BI)C"⟩
abbrev cJ1_canEncode_9a6ad : ByteArray := prog_19_method_4_code
def yJ1_canEncode_9a6ad : MethodName := ⟨RJ1, "canEncode", "(I)Z"⟩
abbrev cJ1_indexOf_4cfef : ByteArray := prog_19_method_22_code
def yJ1_indexOf_4cfef : MethodName := ⟨RJ1, "indexOf", "([BIII)I"⟩
abbrev cJ1_indexOfChar_4cfef : ByteArray := prog_19_method_23_code
def yJ1_indexOfChar_4cfef : MethodName := ⟨RJ1, "indexOfChar", "([BIII)I"⟩
def RJ2 : String := "java/lang/StringUTF16"
def TJ2 : u_T := fun k => match k with
  | _ => ("", "", "", false)
def tyJ2 : Nat → FieldType := fun k => match k with
  | _ => .int
abbrev cJ2_getChar_3b067 : ByteArray := prog_20_method_5_code
def yJ2_getChar_3b067 : MethodName := ⟨RJ2, "getChar", "([BI)C"⟩
abbrev cJ2_length_9d52b : ByteArray := prog_20_method_6_code
def yJ2_length_9d52b : MethodName := ⟨RJ2, "length", "([B)I"⟩
abbrev cJ2_indexOf_4cfef : ByteArray := prog_20_method_40_code
def yJ2_indexOf_4cfef : MethodName := ⟨RJ2, "indexOf", "([BIII)I"⟩
abbrev cJ2_indexOfChar_4cfef : ByteArray := prog_20_method_47_code
def yJ2_indexOfChar_4cfef : MethodName := ⟨RJ2, "indexOfChar", "([BIII)I"⟩
abbrev cJ2_indexOfCharUnsafe_4cfef : ByteArray := prog_20_method_48_code
def yJ2_indexOfCharUnsafe_4cfef : MethodName := ⟨RJ2, "indexOfCharUnsafe", "([BIII)I"⟩
abbrev cJ2_indexOfSupplementary_4cfef : ByteArray := prog_20_method_49_code
def yJ2_indexOfSupplementary_4cfef : MethodName := ⟨RJ2, "indexOfSupplementary", "([BIII)I"⟩
abbrev cJ2_charAt_3b067 : ByteArray := prog_20_method_83_code
def yJ2_charAt_3b067 : MethodName := ⟨RJ2, "charAt", "([BI)C"⟩
abbrev cJ2_checkIndex_2214a : ByteArray := prog_20_method_91_code
def yJ2_checkIndex_2214a : MethodName := ⟨RJ2, "checkIndex", "(I[B)V"⟩
abbrev cJ2_checkBoundsBeginEnd_d044e : ByteArray := prog_20_method_93_code
def yJ2_checkBoundsBeginEnd_d044e : MethodName := ⟨RJ2, "checkBoundsBeginEnd", "(II[B)V"⟩
def RJ10 : String := "java/lang/System"
def TJ10 : u_T := fun k => match k with
  | _ => ("", "", "", false)
def tyJ10 : Nat → FieldType := fun k => match k with
  | _ => .int
def RJxfd54e : String := "java/lang/constant/Constable"
def TJxfd54e : u_T := fun k => match k with
  | _ => ("", "", "", false)
def tyJxfd54e : Nat → FieldType := fun k => match k with
  | _ => .int
def RJx3cf43 : String := "java/lang/constant/ConstantDesc"
def TJx3cf43 : u_T := fun k => match k with
  | _ => ("", "", "", false)
def tyJx3cf43 : Nat → FieldType := fun k => match k with
  | _ => .int
def RJ7 : String := "java/util/Arrays"
def TJ7 : u_T := fun k => match k with
  | _ => ("", "", "", false)
def tyJ7 : Nat → FieldType := fun k => match k with
  | _ => .int
abbrev cJ7_fill_53178 : ByteArray := prog_22_method_103_code
def yJ7_fill_53178 : MethodName := ⟨RJ7, "fill", "([II)V"⟩
def RJ3 : String := "jdk/internal/util/Preconditions"
def TJ3 : u_T := fun k => match k with
  | _ => ("", "", "", false)
def tyJ3 : Nat → FieldType := fun k => match k with
  | _ => .int
abbrev cJ3_checkIndex_8e157 : ByteArray := prog_23_method_11_code
def yJ3_checkIndex_8e157 : MethodName := ⟨RJ3, "checkIndex", "(IILjava/util/function/BiFunction;)I"⟩
abbrev cJ3_checkFromToIndex_8c36e : ByteArray := prog_23_method_12_code
def yJ3_checkFromToIndex_8c36e : MethodName := ⟨RJ3, "checkFromToIndex", "(IIILjava/util/function/BiFunction;)I"⟩
def RL : String := "UrchinSchoolLaw"
abbrev cL_law : ByteArray := code
def yL_law : MethodName := ⟨RL, "law", "([I)Z"⟩
abbrev vwCl : List vw_C := [(RX0, TX0, 4), (RX1, TX1, 11), (RX2, TX2, 4), (RX3, TX3, 4), (RX4, TX4, 10), (RX5, TX5, 4), (RX6, TX6, 4), (RX7, TX7, 14), (RX8, TX8, 3), (RX9, TX9, 4), (RX10, TX10, 4), (RX11, TX11, 8), (RX12, TX12, 21)]
abbrev jX11_init : Nat := 0
abbrev jX7_init : Nat := 1
abbrev jX8_init : Nat := 2
abbrev jJ9_min_7cf53 : Nat := 3
abbrev jX1_init : Nat := 4
abbrev jX10_init : Nat := 5
abbrev jX3_init : Nat := 6
abbrev jX2_init : Nat := 7
abbrev jX0_init : Nat := 8
abbrev jX5_init : Nat := 9
abbrev jX6_init : Nat := 10
abbrev jX9_init : Nat := 11
abbrev jX4_init : Nat := 12
abbrev jX11_feed : Nat := 13
abbrev jX11_ledge : Nat := 14
abbrev jX4_read : Nat := 15
abbrev jX4_advance : Nat := 16
abbrev jX4_readClause : Nat := 17
abbrev jX4_wordOf : Nat := 18
abbrev jX4_takeWord : Nat := 19
abbrev jJ0_length_8abf5 : Nat := 20
abbrev jJ0_coder_7d493 : Nat := 21
abbrev jJ0_charAt_5068e : Nat := 22
abbrev jJ0_isLatin1_aae02 : Nat := 23
abbrev jJ1_charAt_3b067 : Nat := 24
abbrev jJ0_checkIndex_df160 : Nat := 25
abbrev jJ3_checkIndex_8e157 : Nat := 26
abbrev jJ2_charAt_3b067 : Nat := 27
abbrev jJ2_checkIndex_2214a : Nat := 28
abbrev jJ2_length_9d52b : Nat := 29
abbrev jJ2_getChar_3b067 : Nat := 30
abbrev jX4_take : Nat := 31
abbrev jX4_readNumber : Nat := 32
abbrev jX4_isDigit : Nat := 33
abbrev jX4_readEither : Nat := 34
abbrev jX4_readBoth : Nat := 35
abbrev jX4_readPart : Nat := 36
abbrev jX4_readTest : Nat := 37
abbrev jX4_placeOf : Nat := 38
abbrev jJ0_indexOf_0f7a4 : Nat := 39
abbrev jJ0_indexOf_7cf53 : Nat := 40
abbrev jJ1_indexOf_4cfef : Nat := 41
abbrev jJ1_canEncode_9a6ad : Nat := 42
abbrev jJ9_max_7cf53 : Nat := 43
abbrev jJ1_indexOfChar_4cfef : Nat := 44
abbrev jJ2_indexOf_4cfef : Nat := 45
abbrev jJ2_indexOfChar_4cfef : Nat := 46
abbrev jJ2_checkBoundsBeginEnd_d044e : Nat := 47
abbrev jJ0_checkBoundsBeginEnd_23922 : Nat := 48
abbrev jJ3_checkFromToIndex_8c36e : Nat := 49
abbrev jJ2_indexOfCharUnsafe_4cfef : Nat := 50
abbrev jJ2_indexOfSupplementary_4cfef : Nat := 51
abbrev jJ11_isValidCodePoint_9a6ad : Nat := 52
abbrev jJ11_highSurrogate_5068e : Nat := 53
abbrev jJ11_lowSurrogate_5068e : Nat := 54
abbrev jX4_put : Nat := 55
abbrev jX11_urchin : Nat := 56
abbrev jX11_isNumber : Nat := 57
abbrev jX7_join : Nat := 58
abbrev jX7_putOut : Nat := 59
abbrev jX11_of : Nat := 60
abbrev jX7_has : Nat := 61
abbrev jX7_isOut : Nat := 62
abbrev jX11_isFact : Nat := 63
abbrev jX11_holding : Nat := 64
abbrev jX1_heedOf : Nat := 65
abbrev jX1_look : Nat := 66
abbrev jJ6_bitCount_0f7a4 : Nat := 67
abbrev jX1_kindOf : Nat := 68
abbrev jX4_sum : Nat := 69
abbrev jX4_holds : Nat := 70
abbrev jX4_joined : Nat := 71
abbrev jX0_heed : Nat := 72
abbrev jX2_heed : Nat := 73
abbrev jX3_heed : Nat := 74
abbrev jX5_heed : Nat := 75
abbrev jX6_heed : Nat := 76
abbrev jX9_heed : Nat := 77
abbrev jX10_heed : Nat := 78
abbrev jX11_row : Nat := 79
abbrev jX11_isLesson : Nat := 80
abbrev jX11_learn : Nat := 81
abbrev jX11_isSet : Nat := 82
abbrev jX11_beach : Nat := 83
abbrev jX11_lesson : Nat := 84
abbrev jX11_told : Nat := 85
abbrev jX7_all : Nat := 86
abbrev jX7_held : Nat := 87
abbrev jX7_few : Nat := 88
abbrev jX7_knownBy : Nat := 89
abbrev jX11_toldLesson : Nat := 90
abbrev jX11_pass : Nat := 91
abbrev jX11_areTides : Nat := 92
abbrev jX1_forget : Nat := 93
abbrev jJ7_fill_53178 : Nat := 94
abbrev jX11_go : Nat := 95
abbrev jX7_lessonNow : Nat := 96
abbrev jX7_goTide : Nat := 97
abbrev jX1_setsOf : Nat := 98
abbrev jX1_weigh : Nat := 99
abbrev jX7_least : Nat := 100
abbrev jX11_on : Nat := 101
abbrev jX7_becomeRow : Nat := 102
abbrev jX11_lasts : Nat := 103
abbrev jX11_tidesAheadWith : Nat := 104
abbrev jX11_teach : Nat := 105
abbrev jX11_heldIfTaught : Nat := 106
abbrev jX11_taughtAt : Nat := 107
abbrev jX11_tell : Nat := 108
abbrev jX11_tidesIfTold : Nat := 109
abbrev jX7_tellFact : Nat := 110
abbrev jX11_see : Nat := 111
abbrev jX8_empty : Nat := 112
abbrev jX8_add : Nat := 113
abbrev jX11_knew : Nat := 114
abbrev jX11_isPart : Nat := 115
abbrev jX11_seenIsSo : Nat := 116
abbrev jX7_lastSeen : Nat := 117
abbrev jX8_cell : Nat := 118
abbrev jX7_isAsSeen : Nat := 119
abbrev jX11_firm : Nat := 120
abbrev jX11_odds : Nat := 121
abbrev jX7_notOut : Nat := 122
abbrev jX11_lowest : Nat := 123
abbrev jX11_mean : Nat := 124
abbrev jX11_plan : Nat := 125
abbrev jX11_isPlan : Nat := 126
abbrev jX11_done : Nat := 127
abbrev jX11_doPlanned : Nat := 128
abbrev jX11_book : Nat := 129
abbrev jX11_looked : Nat := 130
abbrev jX11_act : Nat := 131
abbrev jX10_wake : Nat := 132
abbrev jX3_leans : Nat := 133
abbrev jX10_begin : Nat := 134
abbrev jX6_leans : Nat := 135
abbrev jX10_leans : Nat := 136
abbrev jX2_says : Nat := 137
abbrev jX9_says : Nat := 138
abbrev jX10_says : Nat := 139
abbrev jX0_bristles : Nat := 140
abbrev jX5_bristles : Nat := 141
abbrev jX10_bristles : Nat := 142
abbrev jX11_trace : Nat := 143
abbrev jX10_bodyAt : Nat := 144
abbrev jX11_as : Nat := 145
abbrev jX11_image : Nat := 146
abbrev jX7_become : Nat := 147
abbrev jX8_takeOver : Nat := 148
abbrev jX11_undo : Nat := 149
abbrev jX11_count : Nat := 150
abbrev jX12_init : Nat := 151
abbrev jX12_feed : Nat := 152
abbrev jX12_in : Nat := 153
abbrev jX12_ledge : Nat := 154
abbrev jX12_clauseHere : Nat := 155
abbrev jX12_here : Nat := 156
abbrev jX12_tellsHere : Nat := 157
abbrev jX12_spells : Nat := 158
abbrev jX12_must : Nat := 159
abbrev jX12_figures : Nat := 160
abbrev jX12_much : Nat := 161
abbrev jX12_some : Nat := 162
abbrev jX12_every : Nat := 163
abbrev jX12_factor : Nat := 164
abbrev jX12_emits : Nat := 165
abbrev jX12_among : Nat := 166
abbrev jX12_urchin : Nat := 167
abbrev jX12_of : Nat := 168
abbrev jX12_isUrchin : Nat := 169
abbrev jX12_looksAnew : Nat := 170
abbrev jX12_isFact : Nat := 171
abbrev jX12_heedOf : Nat := 172
abbrev jX12_sumOf : Nat := 173
abbrev jX12_countOf : Nat := 174
abbrev jX12_clausesOf : Nat := 175
abbrev jX12_tellsOf : Nat := 176
abbrev jX12_row : Nat := 177
abbrev jX12_becomes : Nat := 178
abbrev jX12_learn : Nat := 179
abbrev jX12_beach : Nat := 180
abbrev jX12_lesson : Nat := 181
abbrev jX12_told : Nat := 182
abbrev jX12_knownByAny : Nat := 183
abbrev jX12_heldByAll : Nat := 184
abbrev jX12_awayOnes : Nat := 185
abbrev jX12_fewest : Nat := 186
abbrev jX12_knownBy : Nat := 187
abbrev jX12_pass : Nat := 188
abbrev jX12_goesOn : Nat := 189
abbrev jX12_goes : Nat := 190
abbrev jX12_goesBy : Nat := 191
abbrev jX12_knownNext : Nat := 192
abbrev jX12_isKnownNext : Nat := 193
abbrev jX12_isPassed : Nat := 194
abbrev jX12_on : Nat := 195
abbrev jX12_keeps : Nat := 196
abbrev jX12_goesBack : Nat := 197
abbrev jX12_lasts : Nat := 198
abbrev jX12_tidesKnown : Nat := 199
abbrev jX12_tell : Nat := 200
abbrev jX12_teach : Nat := 201
abbrev jX12_heldBehind : Nat := 202
abbrev jX12_see : Nat := 203
abbrev jX12_knew : Nat := 204
abbrev jX12_fitting : Nat := 205
abbrev jX12_areAsSeen : Nat := 206
abbrev jX12_isAsSeen : Nat := 207
abbrev jX12_firm : Nat := 208
abbrev jX12_odds : Nat := 209
abbrev jX12_lowest : Nat := 210
abbrev jX12_mean : Nat := 211
abbrev jX12_plan : Nat := 212
abbrev jX12_isPlan : Nat := 213
abbrev jX12_done : Nat := 214
abbrev jX12_does : Nat := 215
abbrev jX12_book : Nat := 216
abbrev jX12_looked : Nat := 217
abbrev jX12_act : Nat := 218
abbrev jX12_leansActs : Nat := 219
abbrev jX12_isUnder : Nat := 220
abbrev jX12_ranBody : Nat := 221
abbrev jX12_plainLeans : Nat := 222
abbrev jX12_saysActs : Nat := 223
abbrev jX12_plainSays : Nat := 224
abbrev jX12_bristlesActs : Nat := 225
abbrev jX12_plainTelling : Nat := 226
abbrev jX12_trace : Nat := 227
abbrev jX12_as : Nat := 228
abbrev jX12_image : Nat := 229
abbrev jX12_undo : Nat := 230
abbrev jX12_count : Nat := 231
def mtL : List (MethodName × ByteArray × Nat × Option FieldType) := [(yX11_init, cX11_init, 1, none),
  (yX7_init, cX7_init, 1, none),
  (yX8_init, cX8_init, 2, none),
  (yJ9_min_7cf53, cJ9_min_7cf53, 2, (some FieldType.int)),
  (yX1_init, cX1_init, 1, none),
  (yX10_init, cX10_init, 1, none),
  (yX3_init, cX3_init, 1, none),
  (yX2_init, cX2_init, 1, none),
  (yX0_init, cX0_init, 1, none),
  (yX5_init, cX5_init, 1, none),
  (yX6_init, cX6_init, 1, none),
  (yX9_init, cX9_init, 1, none),
  (yX4_init, cX4_init, 1, none),
  (yX11_feed, cX11_feed, 2, (some FieldType.int)),
  (yX11_ledge, cX11_ledge, 2, (some FieldType.int)),
  (yX4_read, cX4_read, 4, (some FieldType.int)),
  (yX4_advance, cX4_advance, 1, none),
  (yX4_readClause, cX4_readClause, 3, (some FieldType.boolean)),
  (yX4_wordOf, cX4_wordOf, 1, (some (FieldType.object "java/lang/String"))),
  (yX4_takeWord, cX4_takeWord, 3, (some FieldType.boolean)),
  (yJ0_length_8abf5, cJ0_length_8abf5, 1, (some FieldType.int)),
  (yJ0_coder_7d493, cJ0_coder_7d493, 1, (some FieldType.byte)),
  (yJ0_charAt_5068e, cJ0_charAt_5068e, 2, (some FieldType.char)),
  (yJ0_isLatin1_aae02, cJ0_isLatin1_aae02, 1, (some FieldType.boolean)),
  (yJ1_charAt_3b067, cJ1_charAt_3b067, 2, (some FieldType.char)),
  (yJ0_checkIndex_df160, cJ0_checkIndex_df160, 2, none),
  (yJ3_checkIndex_8e157, cJ3_checkIndex_8e157, 3, (some FieldType.int)),
  (yJ2_charAt_3b067, cJ2_charAt_3b067, 2, (some FieldType.char)),
  (yJ2_checkIndex_2214a, cJ2_checkIndex_2214a, 2, none),
  (yJ2_length_9d52b, cJ2_length_9d52b, 1, (some FieldType.int)),
  (yJ2_getChar_3b067, cJ2_getChar_3b067, 2, (some FieldType.char)),
  (yX4_take, cX4_take, 2, (some FieldType.boolean)),
  (yX4_readNumber, cX4_readNumber, 1, (some FieldType.boolean)),
  (yX4_isDigit, cX4_isDigit, 1, (some FieldType.boolean)),
  (yX4_readEither, cX4_readEither, 3, (some FieldType.boolean)),
  (yX4_readBoth, cX4_readBoth, 3, (some FieldType.boolean)),
  (yX4_readPart, cX4_readPart, 2, (some FieldType.boolean)),
  (yX4_readTest, cX4_readTest, 3, (some FieldType.boolean)),
  (yX4_placeOf, cX4_placeOf, 2, (some FieldType.int)),
  (yJ0_indexOf_0f7a4, cJ0_indexOf_0f7a4, 2, (some FieldType.int)),
  (yJ0_indexOf_7cf53, cJ0_indexOf_7cf53, 3, (some FieldType.int)),
  (yJ1_indexOf_4cfef, cJ1_indexOf_4cfef, 4, (some FieldType.int)),
  (yJ1_canEncode_9a6ad, cJ1_canEncode_9a6ad, 1, (some FieldType.boolean)),
  (yJ9_max_7cf53, cJ9_max_7cf53, 2, (some FieldType.int)),
  (yJ1_indexOfChar_4cfef, cJ1_indexOfChar_4cfef, 6, (some FieldType.int)),
  (yJ2_indexOf_4cfef, cJ2_indexOf_4cfef, 4, (some FieldType.int)),
  (yJ2_indexOfChar_4cfef, cJ2_indexOfChar_4cfef, 4, (some FieldType.int)),
  (yJ2_checkBoundsBeginEnd_d044e, cJ2_checkBoundsBeginEnd_d044e, 3, none),
  (yJ0_checkBoundsBeginEnd_23922, cJ0_checkBoundsBeginEnd_23922, 3, none),
  (yJ3_checkFromToIndex_8c36e, cJ3_checkFromToIndex_8c36e, 4, (some FieldType.int)),
  (yJ2_indexOfCharUnsafe_4cfef, cJ2_indexOfCharUnsafe_4cfef, 5, (some FieldType.int)),
  (yJ2_indexOfSupplementary_4cfef, cJ2_indexOfSupplementary_4cfef, 7, (some FieldType.int)),
  (yJ11_isValidCodePoint_9a6ad, cJ11_isValidCodePoint_9a6ad, 2, (some FieldType.boolean)),
  (yJ11_highSurrogate_5068e, cJ11_highSurrogate_5068e, 1, (some FieldType.char)),
  (yJ11_lowSurrogate_5068e, cJ11_lowSurrogate_5068e, 1, (some FieldType.char)),
  (yX4_put, cX4_put, 2, (some FieldType.boolean)),
  (yX11_urchin, cX11_urchin, 3, (some FieldType.int)),
  (yX11_isNumber, cX11_isNumber, 1, (some FieldType.boolean)),
  (yX7_join, cX7_join, 4, (some FieldType.int)),
  (yX7_putOut, cX7_putOut, 3, none),
  (yX11_of, cX11_of, 3, (some FieldType.int)),
  (yX7_has, cX7_has, 2, (some FieldType.boolean)),
  (yX7_isOut, cX7_isOut, 2, (some FieldType.boolean)),
  (yX11_isFact, cX11_isFact, 2, (some FieldType.boolean)),
  (yX11_holding, cX11_holding, 2, (some (FieldType.object "UrchinSchool$Ledge"))),
  (yX1_heedOf, cX1_heedOf, 5, (some FieldType.int)),
  (yX1_look, cX1_look, 4, none),
  (yJ6_bitCount_0f7a4, cJ6_bitCount_0f7a4, 1, (some FieldType.int)),
  (yX1_kindOf, cX1_kindOf, 3, (some (FieldType.object "UrchinSchool$Urchin"))),
  (yX4_sum, cX4_sum, 6, (some FieldType.int)),
  (yX4_holds, cX4_holds, 5, (some FieldType.boolean)),
  (yX4_joined, cX4_joined, 4, (some FieldType.int)),
  (yX0_heed, cX0_heed, 3, (some FieldType.int)),
  (yX2_heed, cX2_heed, 3, (some FieldType.int)),
  (yX3_heed, cX3_heed, 3, (some FieldType.int)),
  (yX5_heed, cX5_heed, 4, (some FieldType.int)),
  (yX6_heed, cX6_heed, 3, (some FieldType.int)),
  (yX9_heed, cX9_heed, 3, (some FieldType.int)),
  (yX10_heed, cX10_heed, 3, (some FieldType.int)),
  (yX11_row, cX11_row, 6, (some FieldType.int)),
  (yX11_isLesson, cX11_isLesson, 1, (some FieldType.boolean)),
  (yX11_learn, cX11_learn, 4, (some FieldType.int)),
  (yX11_isSet, cX11_isSet, 1, (some FieldType.boolean)),
  (yX11_beach, cX11_beach, 4, (some FieldType.int)),
  (yX11_lesson, cX11_lesson, 4, (some FieldType.int)),
  (yX11_told, cX11_told, 2, (some FieldType.int)),
  (yX7_all, cX7_all, 3, (some FieldType.int)),
  (yX7_held, cX7_held, 3, (some FieldType.int)),
  (yX7_few, cX7_few, 5, (some FieldType.int)),
  (yX7_knownBy, cX7_knownBy, 4, (some FieldType.int)),
  (yX11_toldLesson, cX11_toldLesson, 3, (some FieldType.int)),
  (yX11_pass, cX11_pass, 2, (some FieldType.int)),
  (yX11_areTides, cX11_areTides, 1, (some FieldType.boolean)),
  (yX1_forget, cX1_forget, 1, none),
  (yJ7_fill_53178, cJ7_fill_53178, 4, none),
  (yX11_go, cX11_go, 5, none),
  (yX7_lessonNow, cX7_lessonNow, 2, (some FieldType.int)),
  (yX7_goTide, cX7_goTide, 10, none),
  (yX1_setsOf, cX1_setsOf, 6, (some FieldType.int)),
  (yX1_weigh, cX1_weigh, 7, (some FieldType.int)),
  (yX7_least, cX7_least, 5, (some FieldType.int)),
  (yX11_on, cX11_on, 4, (some FieldType.int)),
  (yX7_becomeRow, cX7_becomeRow, 2, none),
  (yX11_lasts, cX11_lasts, 3, (some FieldType.int)),
  (yX11_tidesAheadWith, cX11_tidesAheadWith, 4, (some FieldType.int)),
  (yX11_teach, cX11_teach, 8, (some FieldType.int)),
  (yX11_heldIfTaught, cX11_heldIfTaught, 5, (some FieldType.int)),
  (yX11_taughtAt, cX11_taughtAt, 5, (some FieldType.int)),
  (yX11_tell, cX11_tell, 6, (some FieldType.int)),
  (yX11_tidesIfTold, cX11_tidesIfTold, 3, (some FieldType.int)),
  (yX7_tellFact, cX7_tellFact, 3, none),
  (yX11_see, cX11_see, 5, (some FieldType.int)),
  (yX8_empty, cX8_empty, 1, (some FieldType.int)),
  (yX8_add, cX8_add, 6, (some FieldType.int)),
  (yX11_knew, cX11_knew, 6, (some FieldType.int)),
  (yX11_isPart, cX11_isPart, 1, (some FieldType.boolean)),
  (yX11_seenIsSo, cX11_seenIsSo, 4, (some FieldType.boolean)),
  (yX7_lastSeen, cX7_lastSeen, 3, (some FieldType.int)),
  (yX8_cell, cX8_cell, 4, (some FieldType.int)),
  (yX7_isAsSeen, cX7_isAsSeen, 5, (some FieldType.boolean)),
  (yX11_firm, cX11_firm, 6, (some FieldType.int)),
  (yX11_odds, cX11_odds, 6, (some FieldType.long)),
  (yX7_notOut, cX7_notOut, 3, (some FieldType.int)),
  (yX11_lowest, cX11_lowest, 7, (some FieldType.long)),
  (yX11_mean, cX11_mean, 2, (some FieldType.long)),
  (yX11_plan, cX11_plan, 3, (some FieldType.int)),
  (yX11_isPlan, cX11_isPlan, 3, (some FieldType.boolean)),
  (yX11_done, cX11_done, 3, (some FieldType.int)),
  (yX11_doPlanned, cX11_doPlanned, 3, none),
  (yX11_book, cX11_book, 3, (some FieldType.int)),
  (yX11_looked, cX11_looked, 3, (some FieldType.int)),
  (yX11_act, cX11_act, 5, (some FieldType.int)),
  (yX10_wake, cX10_wake, 3, none),
  (yX3_leans, cX3_leans, 2, (some FieldType.int)),
  (yX10_begin, cX10_begin, 2, none),
  (yX6_leans, cX6_leans, 2, (some FieldType.int)),
  (yX10_leans, cX10_leans, 2, (some FieldType.int)),
  (yX2_says, cX2_says, 2, (some FieldType.int)),
  (yX9_says, cX9_says, 2, (some FieldType.int)),
  (yX10_says, cX10_says, 2, (some FieldType.int)),
  (yX0_bristles, cX0_bristles, 2, (some FieldType.int)),
  (yX5_bristles, cX5_bristles, 2, (some FieldType.int)),
  (yX10_bristles, cX10_bristles, 2, (some FieldType.int)),
  (yX11_trace, cX11_trace, 2, (some FieldType.int)),
  (yX10_bodyAt, cX10_bodyAt, 2, (some FieldType.int)),
  (yX11_as, cX11_as, 5, (some FieldType.int)),
  (yX11_image, cX11_image, 1, (some FieldType.int)),
  (yX7_become, cX7_become, 2, none),
  (yX8_takeOver, cX8_takeOver, 2, none),
  (yX11_undo, cX11_undo, 1, (some FieldType.int)),
  (yX11_count, cX11_count, 2, (some FieldType.int)),
  (yX12_init, cX12_init, 2, none),
  (yX12_feed, cX12_feed, 2, (some FieldType.int)),
  (yX12_in, cX12_in, 3, (some FieldType.boolean)),
  (yX12_ledge, cX12_ledge, 2, (some FieldType.int)),
  (yX12_clauseHere, cX12_clauseHere, 1, none),
  (yX12_here, cX12_here, 1, (some FieldType.int)),
  (yX12_tellsHere, cX12_tellsHere, 4, none),
  (yX12_spells, cX12_spells, 3, none),
  (yX12_must, cX12_must, 2, none),
  (yX12_figures, cX12_figures, 3, (some FieldType.int)),
  (yX12_much, cX12_much, 4, none),
  (yX12_some, cX12_some, 1, none),
  (yX12_every, cX12_every, 1, none),
  (yX12_factor, cX12_factor, 5, none),
  (yX12_emits, cX12_emits, 2, none),
  (yX12_among, cX12_among, 3, (some FieldType.int)),
  (yX12_urchin, cX12_urchin, 5, (some FieldType.int)),
  (yX12_of, cX12_of, 3, (some FieldType.int)),
  (yX12_isUrchin, cX12_isUrchin, 2, (some FieldType.boolean)),
  (yX12_looksAnew, cX12_looksAnew, 1, none),
  (yX12_isFact, cX12_isFact, 1, (some FieldType.boolean)),
  (yX12_heedOf, cX12_heedOf, 5, (some FieldType.int)),
  (yX12_sumOf, cX12_sumOf, 6, (some FieldType.int)),
  (yX12_countOf, cX12_countOf, 3, (some FieldType.int)),
  (yX12_clausesOf, cX12_clausesOf, 14, (some FieldType.int)),
  (yX12_tellsOf, cX12_tellsOf, 3, (some FieldType.int)),
  (yX12_row, cX12_row, 4, (some FieldType.int)),
  (yX12_becomes, cX12_becomes, 4, (some FieldType.int)),
  (yX12_learn, cX12_learn, 3, (some FieldType.int)),
  (yX12_beach, cX12_beach, 3, (some FieldType.int)),
  (yX12_lesson, cX12_lesson, 3, (some FieldType.int)),
  (yX12_told, cX12_told, 2, (some FieldType.int)),
  (yX12_knownByAny, cX12_knownByAny, 3, (some FieldType.int)),
  (yX12_heldByAll, cX12_heldByAll, 3, (some FieldType.int)),
  (yX12_awayOnes, cX12_awayOnes, 3, (some FieldType.int)),
  (yX12_fewest, cX12_fewest, 4, (some FieldType.int)),
  (yX12_knownBy, cX12_knownBy, 4, (some FieldType.int)),
  (yX12_pass, cX12_pass, 2, (some FieldType.int)),
  (yX12_goesOn, cX12_goesOn, 3, none),
  (yX12_goes, cX12_goes, 1, none),
  (yX12_goesBy, cX12_goesBy, 3, none),
  (yX12_knownNext, cX12_knownNext, 6, (some FieldType.int)),
  (yX12_isKnownNext, cX12_isKnownNext, 7, (some FieldType.boolean)),
  (yX12_isPassed, cX12_isPassed, 5, (some FieldType.boolean)),
  (yX12_on, cX12_on, 4, (some FieldType.int)),
  (yX12_keeps, cX12_keeps, 2, none),
  (yX12_goesBack, cX12_goesBack, 2, none),
  (yX12_lasts, cX12_lasts, 3, (some FieldType.int)),
  (yX12_tidesKnown, cX12_tidesKnown, 4, (some FieldType.int)),
  (yX12_tell, cX12_tell, 6, (some FieldType.int)),
  (yX12_teach, cX12_teach, 8, (some FieldType.int)),
  (yX12_heldBehind, cX12_heldBehind, 6, (some FieldType.int)),
  (yX12_see, cX12_see, 5, (some FieldType.int)),
  (yX12_knew, cX12_knew, 3, (some FieldType.int)),
  (yX12_fitting, cX12_fitting, 9, (some FieldType.int)),
  (yX12_areAsSeen, cX12_areAsSeen, 3, (some FieldType.boolean)),
  (yX12_isAsSeen, cX12_isAsSeen, 5, (some FieldType.boolean)),
  (yX12_firm, cX12_firm, 3, (some FieldType.int)),
  (yX12_odds, cX12_odds, 9, (some FieldType.long)),
  (yX12_lowest, cX12_lowest, 11, (some FieldType.long)),
  (yX12_mean, cX12_mean, 4, (some FieldType.long)),
  (yX12_plan, cX12_plan, 3, (some FieldType.int)),
  (yX12_isPlan, cX12_isPlan, 3, (some FieldType.boolean)),
  (yX12_done, cX12_done, 3, (some FieldType.int)),
  (yX12_does, cX12_does, 3, none),
  (yX12_book, cX12_book, 3, (some FieldType.int)),
  (yX12_looked, cX12_looked, 2, (some FieldType.int)),
  (yX12_act, cX12_act, 4, (some FieldType.int)),
  (yX12_leansActs, cX12_leansActs, 2, (some FieldType.int)),
  (yX12_isUnder, cX12_isUnder, 2, (some FieldType.boolean)),
  (yX12_ranBody, cX12_ranBody, 2, none),
  (yX12_plainLeans, cX12_plainLeans, 2, (some FieldType.int)),
  (yX12_saysActs, cX12_saysActs, 2, (some FieldType.int)),
  (yX12_plainSays, cX12_plainSays, 2, (some FieldType.int)),
  (yX12_bristlesActs, cX12_bristlesActs, 3, (some FieldType.int)),
  (yX12_plainTelling, cX12_plainTelling, 2, (some FieldType.int)),
  (yX12_trace, cX12_trace, 2, (some FieldType.int)),
  (yX12_as, cX12_as, 3, (some FieldType.int)),
  (yX12_image, cX12_image, 2, (some FieldType.int)),
  (yX12_undo, cX12_undo, 2, (some FieldType.int)),
  (yX12_count, cX12_count, 2, (some FieldType.int))]
def mt : MT := fun j => match l_get mtL j with
  | some q => q
  | none => (⟨"", "", ""⟩, ⟨#[]⟩, 0, none)
theorem mt_X11_init : mt jX11_init = (yX11_init, cX11_init, 1, none) := rfl
theorem mt_X7_init : mt jX7_init = (yX7_init, cX7_init, 1, none) := rfl
theorem mt_X8_init : mt jX8_init = (yX8_init, cX8_init, 2, none) := rfl
theorem mt_J9_min_7cf53 : mt jJ9_min_7cf53 = (yJ9_min_7cf53, cJ9_min_7cf53, 2, (some FieldType.int)) := rfl
theorem mt_X1_init : mt jX1_init = (yX1_init, cX1_init, 1, none) := rfl
theorem mt_X10_init : mt jX10_init = (yX10_init, cX10_init, 1, none) := rfl
theorem mt_X3_init : mt jX3_init = (yX3_init, cX3_init, 1, none) := rfl
theorem mt_X2_init : mt jX2_init = (yX2_init, cX2_init, 1, none) := rfl
theorem mt_X0_init : mt jX0_init = (yX0_init, cX0_init, 1, none) := rfl
theorem mt_X5_init : mt jX5_init = (yX5_init, cX5_init, 1, none) := rfl
theorem mt_X6_init : mt jX6_init = (yX6_init, cX6_init, 1, none) := rfl
theorem mt_X9_init : mt jX9_init = (yX9_init, cX9_init, 1, none) := rfl
theorem mt_X4_init : mt jX4_init = (yX4_init, cX4_init, 1, none) := rfl
theorem mt_X11_feed : mt jX11_feed = (yX11_feed, cX11_feed, 2, (some FieldType.int)) := rfl
theorem mt_X11_ledge : mt jX11_ledge = (yX11_ledge, cX11_ledge, 2, (some FieldType.int)) := rfl
theorem mt_X4_read : mt jX4_read = (yX4_read, cX4_read, 4, (some FieldType.int)) := rfl
theorem mt_X4_advance : mt jX4_advance = (yX4_advance, cX4_advance, 1, none) := rfl
theorem mt_X4_readClause : mt jX4_readClause = (yX4_readClause, cX4_readClause, 3, (some FieldType.boolean)) := rfl
theorem mt_X4_wordOf : mt jX4_wordOf = (yX4_wordOf, cX4_wordOf, 1, (some (FieldType.object "java/lang/String"))) := rfl
theorem mt_X4_takeWord : mt jX4_takeWord = (yX4_takeWord, cX4_takeWord, 3, (some FieldType.boolean)) := rfl
theorem mt_J0_length_8abf5 : mt jJ0_length_8abf5 = (yJ0_length_8abf5, cJ0_length_8abf5, 1, (some FieldType.int)) := rfl
theorem mt_J0_coder_7d493 : mt jJ0_coder_7d493 = (yJ0_coder_7d493, cJ0_coder_7d493, 1, (some FieldType.byte)) := rfl
theorem mt_J0_charAt_5068e : mt jJ0_charAt_5068e = (yJ0_charAt_5068e, cJ0_charAt_5068e, 2, (some FieldType.char)) := rfl
theorem mt_J0_isLatin1_aae02 : mt jJ0_isLatin1_aae02 = (yJ0_isLatin1_aae02, cJ0_isLatin1_aae02, 1, (some FieldType.boolean)) := rfl
theorem mt_J1_charAt_3b067 : mt jJ1_charAt_3b067 = (yJ1_charAt_3b067, cJ1_charAt_3b067, 2, (some FieldType.char)) := rfl
theorem mt_J0_checkIndex_df160 : mt jJ0_checkIndex_df160 = (yJ0_checkIndex_df160, cJ0_checkIndex_df160, 2, none) := rfl
theorem mt_J3_checkIndex_8e157 : mt jJ3_checkIndex_8e157 = (yJ3_checkIndex_8e157, cJ3_checkIndex_8e157, 3, (some FieldType.int)) := rfl
theorem mt_J2_charAt_3b067 : mt jJ2_charAt_3b067 = (yJ2_charAt_3b067, cJ2_charAt_3b067, 2, (some FieldType.char)) := rfl
theorem mt_J2_checkIndex_2214a : mt jJ2_checkIndex_2214a = (yJ2_checkIndex_2214a, cJ2_checkIndex_2214a, 2, none) := rfl
theorem mt_J2_length_9d52b : mt jJ2_length_9d52b = (yJ2_length_9d52b, cJ2_length_9d52b, 1, (some FieldType.int)) := rfl
theorem mt_J2_getChar_3b067 : mt jJ2_getChar_3b067 = (yJ2_getChar_3b067, cJ2_getChar_3b067, 2, (some FieldType.char)) := rfl
theorem mt_X4_take : mt jX4_take = (yX4_take, cX4_take, 2, (some FieldType.boolean)) := rfl
theorem mt_X4_readNumber : mt jX4_readNumber = (yX4_readNumber, cX4_readNumber, 1, (some FieldType.boolean)) := rfl
theorem mt_X4_isDigit : mt jX4_isDigit = (yX4_isDigit, cX4_isDigit, 1, (some FieldType.boolean)) := rfl
theorem mt_X4_readEither : mt jX4_readEither = (yX4_readEither, cX4_readEither, 3, (some FieldType.boolean)) := rfl
theorem mt_X4_readBoth : mt jX4_readBoth = (yX4_readBoth, cX4_readBoth, 3, (some FieldType.boolean)) := rfl
theorem mt_X4_readPart : mt jX4_readPart = (yX4_readPart, cX4_readPart, 2, (some FieldType.boolean)) := rfl
theorem mt_X4_readTest : mt jX4_readTest = (yX4_readTest, cX4_readTest, 3, (some FieldType.boolean)) := rfl
theorem mt_X4_placeOf : mt jX4_placeOf = (yX4_placeOf, cX4_placeOf, 2, (some FieldType.int)) := rfl
theorem mt_J0_indexOf_0f7a4 : mt jJ0_indexOf_0f7a4 = (yJ0_indexOf_0f7a4, cJ0_indexOf_0f7a4, 2, (some FieldType.int)) := rfl
theorem mt_J0_indexOf_7cf53 : mt jJ0_indexOf_7cf53 = (yJ0_indexOf_7cf53, cJ0_indexOf_7cf53, 3, (some FieldType.int)) := rfl
theorem mt_J1_indexOf_4cfef : mt jJ1_indexOf_4cfef = (yJ1_indexOf_4cfef, cJ1_indexOf_4cfef, 4, (some FieldType.int)) := rfl
theorem mt_J1_canEncode_9a6ad : mt jJ1_canEncode_9a6ad = (yJ1_canEncode_9a6ad, cJ1_canEncode_9a6ad, 1, (some FieldType.boolean)) := rfl
theorem mt_J9_max_7cf53 : mt jJ9_max_7cf53 = (yJ9_max_7cf53, cJ9_max_7cf53, 2, (some FieldType.int)) := rfl
theorem mt_J1_indexOfChar_4cfef : mt jJ1_indexOfChar_4cfef = (yJ1_indexOfChar_4cfef, cJ1_indexOfChar_4cfef, 6, (some FieldType.int)) := rfl
theorem mt_J2_indexOf_4cfef : mt jJ2_indexOf_4cfef = (yJ2_indexOf_4cfef, cJ2_indexOf_4cfef, 4, (some FieldType.int)) := rfl
theorem mt_J2_indexOfChar_4cfef : mt jJ2_indexOfChar_4cfef = (yJ2_indexOfChar_4cfef, cJ2_indexOfChar_4cfef, 4, (some FieldType.int)) := rfl
theorem mt_J2_checkBoundsBeginEnd_d044e : mt jJ2_checkBoundsBeginEnd_d044e = (yJ2_checkBoundsBeginEnd_d044e, cJ2_checkBoundsBeginEnd_d044e, 3, none) := rfl
theorem mt_J0_checkBoundsBeginEnd_23922 : mt jJ0_checkBoundsBeginEnd_23922 = (yJ0_checkBoundsBeginEnd_23922, cJ0_checkBoundsBeginEnd_23922, 3, none) := rfl
theorem mt_J3_checkFromToIndex_8c36e : mt jJ3_checkFromToIndex_8c36e = (yJ3_checkFromToIndex_8c36e, cJ3_checkFromToIndex_8c36e, 4, (some FieldType.int)) := rfl
theorem mt_J2_indexOfCharUnsafe_4cfef : mt jJ2_indexOfCharUnsafe_4cfef = (yJ2_indexOfCharUnsafe_4cfef, cJ2_indexOfCharUnsafe_4cfef, 5, (some FieldType.int)) := rfl
theorem mt_J2_indexOfSupplementary_4cfef : mt jJ2_indexOfSupplementary_4cfef = (yJ2_indexOfSupplementary_4cfef, cJ2_indexOfSupplementary_4cfef, 7, (some FieldType.int)) := rfl
theorem mt_J11_isValidCodePoint_9a6ad : mt jJ11_isValidCodePoint_9a6ad = (yJ11_isValidCodePoint_9a6ad, cJ11_isValidCodePoint_9a6ad, 2, (some FieldType.boolean)) := rfl
theorem mt_J11_highSurrogate_5068e : mt jJ11_highSurrogate_5068e = (yJ11_highSurrogate_5068e, cJ11_highSurrogate_5068e, 1, (some FieldType.char)) := rfl
theorem mt_J11_lowSurrogate_5068e : mt jJ11_lowSurrogate_5068e = (yJ11_lowSurrogate_5068e, cJ11_lowSurrogate_5068e, 1, (some FieldType.char)) := rfl
theorem mt_X4_put : mt jX4_put = (yX4_put, cX4_put, 2, (some FieldType.boolean)) := rfl
theorem mt_X11_urchin : mt jX11_urchin = (yX11_urchin, cX11_urchin, 3, (some FieldType.int)) := rfl
theorem mt_X11_isNumber : mt jX11_isNumber = (yX11_isNumber, cX11_isNumber, 1, (some FieldType.boolean)) := rfl
theorem mt_X7_join : mt jX7_join = (yX7_join, cX7_join, 4, (some FieldType.int)) := rfl
theorem mt_X7_putOut : mt jX7_putOut = (yX7_putOut, cX7_putOut, 3, none) := rfl
theorem mt_X11_of : mt jX11_of = (yX11_of, cX11_of, 3, (some FieldType.int)) := rfl
theorem mt_X7_has : mt jX7_has = (yX7_has, cX7_has, 2, (some FieldType.boolean)) := rfl
theorem mt_X7_isOut : mt jX7_isOut = (yX7_isOut, cX7_isOut, 2, (some FieldType.boolean)) := rfl
theorem mt_X11_isFact : mt jX11_isFact = (yX11_isFact, cX11_isFact, 2, (some FieldType.boolean)) := rfl
theorem mt_X11_holding : mt jX11_holding = (yX11_holding, cX11_holding, 2, (some (FieldType.object "UrchinSchool$Ledge"))) := rfl
theorem mt_X1_heedOf : mt jX1_heedOf = (yX1_heedOf, cX1_heedOf, 5, (some FieldType.int)) := rfl
theorem mt_X1_look : mt jX1_look = (yX1_look, cX1_look, 4, none) := rfl
theorem mt_J6_bitCount_0f7a4 : mt jJ6_bitCount_0f7a4 = (yJ6_bitCount_0f7a4, cJ6_bitCount_0f7a4, 1, (some FieldType.int)) := rfl
theorem mt_X1_kindOf : mt jX1_kindOf = (yX1_kindOf, cX1_kindOf, 3, (some (FieldType.object "UrchinSchool$Urchin"))) := rfl
theorem mt_X4_sum : mt jX4_sum = (yX4_sum, cX4_sum, 6, (some FieldType.int)) := rfl
theorem mt_X4_holds : mt jX4_holds = (yX4_holds, cX4_holds, 5, (some FieldType.boolean)) := rfl
theorem mt_X4_joined : mt jX4_joined = (yX4_joined, cX4_joined, 4, (some FieldType.int)) := rfl
theorem mt_X0_heed : mt jX0_heed = (yX0_heed, cX0_heed, 3, (some FieldType.int)) := rfl
theorem mt_X2_heed : mt jX2_heed = (yX2_heed, cX2_heed, 3, (some FieldType.int)) := rfl
theorem mt_X3_heed : mt jX3_heed = (yX3_heed, cX3_heed, 3, (some FieldType.int)) := rfl
theorem mt_X5_heed : mt jX5_heed = (yX5_heed, cX5_heed, 4, (some FieldType.int)) := rfl
theorem mt_X6_heed : mt jX6_heed = (yX6_heed, cX6_heed, 3, (some FieldType.int)) := rfl
theorem mt_X9_heed : mt jX9_heed = (yX9_heed, cX9_heed, 3, (some FieldType.int)) := rfl
theorem mt_X10_heed : mt jX10_heed = (yX10_heed, cX10_heed, 3, (some FieldType.int)) := rfl
theorem mt_X11_row : mt jX11_row = (yX11_row, cX11_row, 6, (some FieldType.int)) := rfl
theorem mt_X11_isLesson : mt jX11_isLesson = (yX11_isLesson, cX11_isLesson, 1, (some FieldType.boolean)) := rfl
theorem mt_X11_learn : mt jX11_learn = (yX11_learn, cX11_learn, 4, (some FieldType.int)) := rfl
theorem mt_X11_isSet : mt jX11_isSet = (yX11_isSet, cX11_isSet, 1, (some FieldType.boolean)) := rfl
theorem mt_X11_beach : mt jX11_beach = (yX11_beach, cX11_beach, 4, (some FieldType.int)) := rfl
theorem mt_X11_lesson : mt jX11_lesson = (yX11_lesson, cX11_lesson, 4, (some FieldType.int)) := rfl
theorem mt_X11_told : mt jX11_told = (yX11_told, cX11_told, 2, (some FieldType.int)) := rfl
theorem mt_X7_all : mt jX7_all = (yX7_all, cX7_all, 3, (some FieldType.int)) := rfl
theorem mt_X7_held : mt jX7_held = (yX7_held, cX7_held, 3, (some FieldType.int)) := rfl
theorem mt_X7_few : mt jX7_few = (yX7_few, cX7_few, 5, (some FieldType.int)) := rfl
theorem mt_X7_knownBy : mt jX7_knownBy = (yX7_knownBy, cX7_knownBy, 4, (some FieldType.int)) := rfl
theorem mt_X11_toldLesson : mt jX11_toldLesson = (yX11_toldLesson, cX11_toldLesson, 3, (some FieldType.int)) := rfl
theorem mt_X11_pass : mt jX11_pass = (yX11_pass, cX11_pass, 2, (some FieldType.int)) := rfl
theorem mt_X11_areTides : mt jX11_areTides = (yX11_areTides, cX11_areTides, 1, (some FieldType.boolean)) := rfl
theorem mt_X1_forget : mt jX1_forget = (yX1_forget, cX1_forget, 1, none) := rfl
theorem mt_J7_fill_53178 : mt jJ7_fill_53178 = (yJ7_fill_53178, cJ7_fill_53178, 4, none) := rfl
theorem mt_X11_go : mt jX11_go = (yX11_go, cX11_go, 5, none) := rfl
theorem mt_X7_lessonNow : mt jX7_lessonNow = (yX7_lessonNow, cX7_lessonNow, 2, (some FieldType.int)) := rfl
theorem mt_X7_goTide : mt jX7_goTide = (yX7_goTide, cX7_goTide, 10, none) := rfl
theorem mt_X1_setsOf : mt jX1_setsOf = (yX1_setsOf, cX1_setsOf, 6, (some FieldType.int)) := rfl
theorem mt_X1_weigh : mt jX1_weigh = (yX1_weigh, cX1_weigh, 7, (some FieldType.int)) := rfl
theorem mt_X7_least : mt jX7_least = (yX7_least, cX7_least, 5, (some FieldType.int)) := rfl
theorem mt_X11_on : mt jX11_on = (yX11_on, cX11_on, 4, (some FieldType.int)) := rfl
theorem mt_X7_becomeRow : mt jX7_becomeRow = (yX7_becomeRow, cX7_becomeRow, 2, none) := rfl
theorem mt_X11_lasts : mt jX11_lasts = (yX11_lasts, cX11_lasts, 3, (some FieldType.int)) := rfl
theorem mt_X11_tidesAheadWith : mt jX11_tidesAheadWith = (yX11_tidesAheadWith, cX11_tidesAheadWith, 4, (some FieldType.int)) := rfl
theorem mt_X11_teach : mt jX11_teach = (yX11_teach, cX11_teach, 8, (some FieldType.int)) := rfl
theorem mt_X11_heldIfTaught : mt jX11_heldIfTaught = (yX11_heldIfTaught, cX11_heldIfTaught, 5, (some FieldType.int)) := rfl
theorem mt_X11_taughtAt : mt jX11_taughtAt = (yX11_taughtAt, cX11_taughtAt, 5, (some FieldType.int)) := rfl
theorem mt_X11_tell : mt jX11_tell = (yX11_tell, cX11_tell, 6, (some FieldType.int)) := rfl
theorem mt_X11_tidesIfTold : mt jX11_tidesIfTold = (yX11_tidesIfTold, cX11_tidesIfTold, 3, (some FieldType.int)) := rfl
theorem mt_X7_tellFact : mt jX7_tellFact = (yX7_tellFact, cX7_tellFact, 3, none) := rfl
theorem mt_X11_see : mt jX11_see = (yX11_see, cX11_see, 5, (some FieldType.int)) := rfl
theorem mt_X8_empty : mt jX8_empty = (yX8_empty, cX8_empty, 1, (some FieldType.int)) := rfl
theorem mt_X8_add : mt jX8_add = (yX8_add, cX8_add, 6, (some FieldType.int)) := rfl
theorem mt_X11_knew : mt jX11_knew = (yX11_knew, cX11_knew, 6, (some FieldType.int)) := rfl
theorem mt_X11_isPart : mt jX11_isPart = (yX11_isPart, cX11_isPart, 1, (some FieldType.boolean)) := rfl
theorem mt_X11_seenIsSo : mt jX11_seenIsSo = (yX11_seenIsSo, cX11_seenIsSo, 4, (some FieldType.boolean)) := rfl
theorem mt_X7_lastSeen : mt jX7_lastSeen = (yX7_lastSeen, cX7_lastSeen, 3, (some FieldType.int)) := rfl
theorem mt_X8_cell : mt jX8_cell = (yX8_cell, cX8_cell, 4, (some FieldType.int)) := rfl
theorem mt_X7_isAsSeen : mt jX7_isAsSeen = (yX7_isAsSeen, cX7_isAsSeen, 5, (some FieldType.boolean)) := rfl
theorem mt_X11_firm : mt jX11_firm = (yX11_firm, cX11_firm, 6, (some FieldType.int)) := rfl
theorem mt_X11_odds : mt jX11_odds = (yX11_odds, cX11_odds, 6, (some FieldType.long)) := rfl
theorem mt_X7_notOut : mt jX7_notOut = (yX7_notOut, cX7_notOut, 3, (some FieldType.int)) := rfl
theorem mt_X11_lowest : mt jX11_lowest = (yX11_lowest, cX11_lowest, 7, (some FieldType.long)) := rfl
theorem mt_X11_mean : mt jX11_mean = (yX11_mean, cX11_mean, 2, (some FieldType.long)) := rfl
theorem mt_X11_plan : mt jX11_plan = (yX11_plan, cX11_plan, 3, (some FieldType.int)) := rfl
theorem mt_X11_isPlan : mt jX11_isPlan = (yX11_isPlan, cX11_isPlan, 3, (some FieldType.boolean)) := rfl
theorem mt_X11_done : mt jX11_done = (yX11_done, cX11_done, 3, (some FieldType.int)) := rfl
theorem mt_X11_doPlanned : mt jX11_doPlanned = (yX11_doPlanned, cX11_doPlanned, 3, none) := rfl
theorem mt_X11_book : mt jX11_book = (yX11_book, cX11_book, 3, (some FieldType.int)) := rfl
theorem mt_X11_looked : mt jX11_looked = (yX11_looked, cX11_looked, 3, (some FieldType.int)) := rfl
theorem mt_X11_act : mt jX11_act = (yX11_act, cX11_act, 5, (some FieldType.int)) := rfl
theorem mt_X10_wake : mt jX10_wake = (yX10_wake, cX10_wake, 3, none) := rfl
theorem mt_X3_leans : mt jX3_leans = (yX3_leans, cX3_leans, 2, (some FieldType.int)) := rfl
theorem mt_X10_begin : mt jX10_begin = (yX10_begin, cX10_begin, 2, none) := rfl
theorem mt_X6_leans : mt jX6_leans = (yX6_leans, cX6_leans, 2, (some FieldType.int)) := rfl
theorem mt_X10_leans : mt jX10_leans = (yX10_leans, cX10_leans, 2, (some FieldType.int)) := rfl
theorem mt_X2_says : mt jX2_says = (yX2_says, cX2_says, 2, (some FieldType.int)) := rfl
theorem mt_X9_says : mt jX9_says = (yX9_says, cX9_says, 2, (some FieldType.int)) := rfl
theorem mt_X10_says : mt jX10_says = (yX10_says, cX10_says, 2, (some FieldType.int)) := rfl
theorem mt_X0_bristles : mt jX0_bristles = (yX0_bristles, cX0_bristles, 2, (some FieldType.int)) := rfl
theorem mt_X5_bristles : mt jX5_bristles = (yX5_bristles, cX5_bristles, 2, (some FieldType.int)) := rfl
theorem mt_X10_bristles : mt jX10_bristles = (yX10_bristles, cX10_bristles, 2, (some FieldType.int)) := rfl
theorem mt_X11_trace : mt jX11_trace = (yX11_trace, cX11_trace, 2, (some FieldType.int)) := rfl
theorem mt_X10_bodyAt : mt jX10_bodyAt = (yX10_bodyAt, cX10_bodyAt, 2, (some FieldType.int)) := rfl
theorem mt_X11_as : mt jX11_as = (yX11_as, cX11_as, 5, (some FieldType.int)) := rfl
theorem mt_X11_image : mt jX11_image = (yX11_image, cX11_image, 1, (some FieldType.int)) := rfl
theorem mt_X7_become : mt jX7_become = (yX7_become, cX7_become, 2, none) := rfl
theorem mt_X8_takeOver : mt jX8_takeOver = (yX8_takeOver, cX8_takeOver, 2, none) := rfl
theorem mt_X11_undo : mt jX11_undo = (yX11_undo, cX11_undo, 1, (some FieldType.int)) := rfl
theorem mt_X11_count : mt jX11_count = (yX11_count, cX11_count, 2, (some FieldType.int)) := rfl
theorem mt_X12_init : mt jX12_init = (yX12_init, cX12_init, 2, none) := rfl
theorem mt_X12_feed : mt jX12_feed = (yX12_feed, cX12_feed, 2, (some FieldType.int)) := rfl
theorem mt_X12_in : mt jX12_in = (yX12_in, cX12_in, 3, (some FieldType.boolean)) := rfl
theorem mt_X12_ledge : mt jX12_ledge = (yX12_ledge, cX12_ledge, 2, (some FieldType.int)) := rfl
theorem mt_X12_clauseHere : mt jX12_clauseHere = (yX12_clauseHere, cX12_clauseHere, 1, none) := rfl
theorem mt_X12_here : mt jX12_here = (yX12_here, cX12_here, 1, (some FieldType.int)) := rfl
theorem mt_X12_tellsHere : mt jX12_tellsHere = (yX12_tellsHere, cX12_tellsHere, 4, none) := rfl
theorem mt_X12_spells : mt jX12_spells = (yX12_spells, cX12_spells, 3, none) := rfl
theorem mt_X12_must : mt jX12_must = (yX12_must, cX12_must, 2, none) := rfl
theorem mt_X12_figures : mt jX12_figures = (yX12_figures, cX12_figures, 3, (some FieldType.int)) := rfl
theorem mt_X12_much : mt jX12_much = (yX12_much, cX12_much, 4, none) := rfl
theorem mt_X12_some : mt jX12_some = (yX12_some, cX12_some, 1, none) := rfl
theorem mt_X12_every : mt jX12_every = (yX12_every, cX12_every, 1, none) := rfl
theorem mt_X12_factor : mt jX12_factor = (yX12_factor, cX12_factor, 5, none) := rfl
theorem mt_X12_emits : mt jX12_emits = (yX12_emits, cX12_emits, 2, none) := rfl
theorem mt_X12_among : mt jX12_among = (yX12_among, cX12_among, 3, (some FieldType.int)) := rfl
theorem mt_X12_urchin : mt jX12_urchin = (yX12_urchin, cX12_urchin, 5, (some FieldType.int)) := rfl
theorem mt_X12_of : mt jX12_of = (yX12_of, cX12_of, 3, (some FieldType.int)) := rfl
theorem mt_X12_isUrchin : mt jX12_isUrchin = (yX12_isUrchin, cX12_isUrchin, 2, (some FieldType.boolean)) := rfl
theorem mt_X12_looksAnew : mt jX12_looksAnew = (yX12_looksAnew, cX12_looksAnew, 1, none) := rfl
theorem mt_X12_isFact : mt jX12_isFact = (yX12_isFact, cX12_isFact, 1, (some FieldType.boolean)) := rfl
theorem mt_X12_heedOf : mt jX12_heedOf = (yX12_heedOf, cX12_heedOf, 5, (some FieldType.int)) := rfl
theorem mt_X12_sumOf : mt jX12_sumOf = (yX12_sumOf, cX12_sumOf, 6, (some FieldType.int)) := rfl
theorem mt_X12_countOf : mt jX12_countOf = (yX12_countOf, cX12_countOf, 3, (some FieldType.int)) := rfl
theorem mt_X12_clausesOf : mt jX12_clausesOf = (yX12_clausesOf, cX12_clausesOf, 14, (some FieldType.int)) := rfl
theorem mt_X12_tellsOf : mt jX12_tellsOf = (yX12_tellsOf, cX12_tellsOf, 3, (some FieldType.int)) := rfl
theorem mt_X12_row : mt jX12_row = (yX12_row, cX12_row, 4, (some FieldType.int)) := rfl
theorem mt_X12_becomes : mt jX12_becomes = (yX12_becomes, cX12_becomes, 4, (some FieldType.int)) := rfl
theorem mt_X12_learn : mt jX12_learn = (yX12_learn, cX12_learn, 3, (some FieldType.int)) := rfl
theorem mt_X12_beach : mt jX12_beach = (yX12_beach, cX12_beach, 3, (some FieldType.int)) := rfl
theorem mt_X12_lesson : mt jX12_lesson = (yX12_lesson, cX12_lesson, 3, (some FieldType.int)) := rfl
theorem mt_X12_told : mt jX12_told = (yX12_told, cX12_told, 2, (some FieldType.int)) := rfl
theorem mt_X12_knownByAny : mt jX12_knownByAny = (yX12_knownByAny, cX12_knownByAny, 3, (some FieldType.int)) := rfl
theorem mt_X12_heldByAll : mt jX12_heldByAll = (yX12_heldByAll, cX12_heldByAll, 3, (some FieldType.int)) := rfl
theorem mt_X12_awayOnes : mt jX12_awayOnes = (yX12_awayOnes, cX12_awayOnes, 3, (some FieldType.int)) := rfl
theorem mt_X12_fewest : mt jX12_fewest = (yX12_fewest, cX12_fewest, 4, (some FieldType.int)) := rfl
theorem mt_X12_knownBy : mt jX12_knownBy = (yX12_knownBy, cX12_knownBy, 4, (some FieldType.int)) := rfl
theorem mt_X12_pass : mt jX12_pass = (yX12_pass, cX12_pass, 2, (some FieldType.int)) := rfl
theorem mt_X12_goesOn : mt jX12_goesOn = (yX12_goesOn, cX12_goesOn, 3, none) := rfl
theorem mt_X12_goes : mt jX12_goes = (yX12_goes, cX12_goes, 1, none) := rfl
theorem mt_X12_goesBy : mt jX12_goesBy = (yX12_goesBy, cX12_goesBy, 3, none) := rfl
theorem mt_X12_knownNext : mt jX12_knownNext = (yX12_knownNext, cX12_knownNext, 6, (some FieldType.int)) := rfl
theorem mt_X12_isKnownNext : mt jX12_isKnownNext = (yX12_isKnownNext, cX12_isKnownNext, 7, (some FieldType.boolean)) := rfl
theorem mt_X12_isPassed : mt jX12_isPassed = (yX12_isPassed, cX12_isPassed, 5, (some FieldType.boolean)) := rfl
theorem mt_X12_on : mt jX12_on = (yX12_on, cX12_on, 4, (some FieldType.int)) := rfl
theorem mt_X12_keeps : mt jX12_keeps = (yX12_keeps, cX12_keeps, 2, none) := rfl
theorem mt_X12_goesBack : mt jX12_goesBack = (yX12_goesBack, cX12_goesBack, 2, none) := rfl
theorem mt_X12_lasts : mt jX12_lasts = (yX12_lasts, cX12_lasts, 3, (some FieldType.int)) := rfl
theorem mt_X12_tidesKnown : mt jX12_tidesKnown = (yX12_tidesKnown, cX12_tidesKnown, 4, (some FieldType.int)) := rfl
theorem mt_X12_tell : mt jX12_tell = (yX12_tell, cX12_tell, 6, (some FieldType.int)) := rfl
theorem mt_X12_teach : mt jX12_teach = (yX12_teach, cX12_teach, 8, (some FieldType.int)) := rfl
theorem mt_X12_heldBehind : mt jX12_heldBehind = (yX12_heldBehind, cX12_heldBehind, 6, (some FieldType.int)) := rfl
theorem mt_X12_see : mt jX12_see = (yX12_see, cX12_see, 5, (some FieldType.int)) := rfl
theorem mt_X12_knew : mt jX12_knew = (yX12_knew, cX12_knew, 3, (some FieldType.int)) := rfl
theorem mt_X12_fitting : mt jX12_fitting = (yX12_fitting, cX12_fitting, 9, (some FieldType.int)) := rfl
theorem mt_X12_areAsSeen : mt jX12_areAsSeen = (yX12_areAsSeen, cX12_areAsSeen, 3, (some FieldType.boolean)) := rfl
theorem mt_X12_isAsSeen : mt jX12_isAsSeen = (yX12_isAsSeen, cX12_isAsSeen, 5, (some FieldType.boolean)) := rfl
theorem mt_X12_firm : mt jX12_firm = (yX12_firm, cX12_firm, 3, (some FieldType.int)) := rfl
theorem mt_X12_odds : mt jX12_odds = (yX12_odds, cX12_odds, 9, (some FieldType.long)) := rfl
theorem mt_X12_lowest : mt jX12_lowest = (yX12_lowest, cX12_lowest, 11, (some FieldType.long)) := rfl
theorem mt_X12_mean : mt jX12_mean = (yX12_mean, cX12_mean, 4, (some FieldType.long)) := rfl
theorem mt_X12_plan : mt jX12_plan = (yX12_plan, cX12_plan, 3, (some FieldType.int)) := rfl
theorem mt_X12_isPlan : mt jX12_isPlan = (yX12_isPlan, cX12_isPlan, 3, (some FieldType.boolean)) := rfl
theorem mt_X12_done : mt jX12_done = (yX12_done, cX12_done, 3, (some FieldType.int)) := rfl
theorem mt_X12_does : mt jX12_does = (yX12_does, cX12_does, 3, none) := rfl
theorem mt_X12_book : mt jX12_book = (yX12_book, cX12_book, 3, (some FieldType.int)) := rfl
theorem mt_X12_looked : mt jX12_looked = (yX12_looked, cX12_looked, 2, (some FieldType.int)) := rfl
theorem mt_X12_act : mt jX12_act = (yX12_act, cX12_act, 4, (some FieldType.int)) := rfl
theorem mt_X12_leansActs : mt jX12_leansActs = (yX12_leansActs, cX12_leansActs, 2, (some FieldType.int)) := rfl
theorem mt_X12_isUnder : mt jX12_isUnder = (yX12_isUnder, cX12_isUnder, 2, (some FieldType.boolean)) := rfl
theorem mt_X12_ranBody : mt jX12_ranBody = (yX12_ranBody, cX12_ranBody, 2, none) := rfl
theorem mt_X12_plainLeans : mt jX12_plainLeans = (yX12_plainLeans, cX12_plainLeans, 2, (some FieldType.int)) := rfl
theorem mt_X12_saysActs : mt jX12_saysActs = (yX12_saysActs, cX12_saysActs, 2, (some FieldType.int)) := rfl
theorem mt_X12_plainSays : mt jX12_plainSays = (yX12_plainSays, cX12_plainSays, 2, (some FieldType.int)) := rfl
theorem mt_X12_bristlesActs : mt jX12_bristlesActs = (yX12_bristlesActs, cX12_bristlesActs, 3, (some FieldType.int)) := rfl
theorem mt_X12_plainTelling : mt jX12_plainTelling = (yX12_plainTelling, cX12_plainTelling, 2, (some FieldType.int)) := rfl
theorem mt_X12_trace : mt jX12_trace = (yX12_trace, cX12_trace, 2, (some FieldType.int)) := rfl
theorem mt_X12_as : mt jX12_as = (yX12_as, cX12_as, 3, (some FieldType.int)) := rfl
theorem mt_X12_image : mt jX12_image = (yX12_image, cX12_image, 2, (some FieldType.int)) := rfl
theorem mt_X12_undo : mt jX12_undo = (yX12_undo, cX12_undo, 2, (some FieldType.int)) := rfl
theorem mt_X12_count : mt jX12_count = (yX12_count, cX12_count, 2, (some FieldType.int)) := rfl
