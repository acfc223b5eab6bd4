/-! printed by wip/whole/gen/tables.py: what nobody writes; the pools of the names, and that they are right -/
def strB : List (List Int32) := [[107, 101, 101, 112, 32], [112, 97, 115, 115, 32], [108, 111, 117, 100, 32], [100, 117, 108, 108, 32], [112, 107, 118, 102, 99, 116], [60, 61, 62]]
def sB_0 : Nat → Int32 := fun j => (strB.getD 0 []).getD j 0
def sB_1 : Nat → Int32 := fun j => (strB.getD 1 []).getD j 0
def sB_2 : Nat → Int32 := fun j => (strB.getD 2 []).getD j 0
def sB_3 : Nat → Int32 := fun j => (strB.getD 3 []).getD j 0
def sB_4 : Nat → Int32 := fun j => (strB.getD 4 []).getD j 0
def sB_5 : Nat → Int32 := fun j => (strB.getD 5 []).getD j 0
def sAb : Nat → Int32 := fun j => ([-1, 0, 0, 0, 1, 2, 3] : List Int32).getD j 0
/-- the formatter of the text's own checks: null, or some object -/
def FV (fv : Value) : Prop := fv = .null ∨ fv = .ref 1101
def nestW : List Cond := [.methodLinkNest RX11 11 yX7_init RX11,
  .fieldLinkNest RX7 100 RX8 "size" "I" RX11,
  .fieldLinkNest RX11 221 RX8 "size" "I" RX11,
  .methodLinkNest RX11 26 yX1_init RX11,
  .methodLinkNest RX1 11 yX10_init RX11,
  .fieldLinkNest RX11 266 RX10 "ran" "I" RX11,
  .methodLinkNest RX1 20 yX3_init RX11,
  .methodLinkNest RX3 1 yX10_init RX11,
  .methodLinkNest RX1 23 yX2_init RX11,
  .methodLinkNest RX2 1 yX10_init RX11,
  .methodLinkNest RX1 26 yX0_init RX11,
  .methodLinkNest RX0 1 yX10_init RX11,
  .methodLinkNest RX1 29 yX5_init RX11,
  .methodLinkNest RX5 1 yX3_init RX11,
  .methodLinkNest RX1 32 yX6_init RX11,
  .methodLinkNest RX6 1 yX2_init RX11,
  .methodLinkNest RX1 35 yX9_init RX11,
  .methodLinkNest RX9 1 yX0_init RX11,
  .fieldLinkNest RX4 122 RX1 "p" "I" RX11,
  .fieldLinkNest RX4 127 RX1 "k" "I" RX11,
  .fieldLinkNest RX3 7 RX1 "v" "I" RX11,
  .fieldLinkNest RX6 11 RX1 "v" "I" RX11,
  .fieldLinkNest RX4 130 RX1 "v" "I" RX11,
  .fieldLinkNest RX4 133 RX1 "f" "I" RX11,
  .fieldLinkNest RX0 7 RX1 "c" "I" RX11,
  .fieldLinkNest RX4 136 RX1 "c" "I" RX11,
  .fieldLinkNest RX4 139 RX1 "t" "I" RX11,
  .fieldLinkNest RX9 11 RX1 "row" "I" RX11,
  .fieldLinkNest RX5 11 RX1 "knows" "Z" RX11,
  .methodLinkNest RX11 33 yX4_init RX11,
  .fieldLinkNest RX11 114 RX4 "keep" "I" RX11,
  .fieldLinkNest RX7 116 RX4 "keep" "I" RX11,
  .fieldLinkNest RX1 97 RX4 "pass" "I" RX11,
  .fieldLinkNest RX11 117 RX4 "pass" "I" RX11]
def xrF : List (Nat × String × String × String × Value) := [(1000, "java/lang/String", "coder", "B", .int 0), (1000, "java/lang/String", "value", "[B", .ref 1050), (1001, "java/lang/String", "coder", "B", .int 0), (1001, "java/lang/String", "value", "[B", .ref 1051), (1002, "java/lang/String", "coder", "B", .int 0), (1002, "java/lang/String", "value", "[B", .ref 1052), (1003, "java/lang/String", "coder", "B", .int 0), (1003, "java/lang/String", "value", "[B", .ref 1053), (1004, "java/lang/String", "coder", "B", .int 0), (1004, "java/lang/String", "value", "[B", .ref 1054), (1005, "java/lang/String", "coder", "B", .int 0), (1005, "java/lang/String", "value", "[B", .ref 1055)]
def XR (fv : Value) : RoT := ([(1000, "java/lang/String"), (1001, "java/lang/String"), (1002, "java/lang/String"), (1003, "java/lang/String"), (1004, "java/lang/String"), (1005, "java/lang/String")],
  xrF,
  [(1050, .byte, 5, sB_0), (1051, .byte, 5, sB_1), (1052, .byte, 5, sB_2), (1053, .byte, 5, sB_3), (1054, .byte, 6, sB_4), (1055, .byte, 3, sB_5), (1100, .int, 7, sAb)],
  [("UrchinSchool", "ABOVE", "[I", .ref 1100), ("java/lang/String", "COMPACT_STRINGS", "Z", .int 1), ("jdk/internal/util/Preconditions", "SIOOBE_FORMATTER", "Ljava/util/function/BiFunction;", fv)],
  [(RX4, 69, "keep ", 1000), (RX4, 71, "pass ", 1001), (RX4, 73, "loud ", 1002), (RX4, 75, "dull ", 1003), (RX4, 89, "pkvfct", 1004), (RX4, 95, "<=>", 1005), (RX12, 108, "keep ", 1000), (RX12, 114, "pass ", 1001), (RX12, 116, "loud ", 1002), (RX12, 90, "pkvfct", 1004), (RX12, 96, "<=>", 1005), (RX12, 121, "dull ", 1003)],
  nestW)
theorem XR_ok {fv : Value} (h : FV fv) : RoOK (XR fv) := by
  refine ⟨?_, ?_, ?_, ?_, ?_, ?_⟩
  · intro q hq; simp only [XR, List.mem_cons, List.not_mem_nil, or_false] at hq; rcases hq with rfl | rfl | rfl | rfl | rfl | rfl <;> decide
  · intro q hq
    simp only [XR, xrF, List.mem_cons, List.not_mem_nil, or_false] at hq
    rcases hq with rfl | rfl | rfl | rfl | rfl | rfl | rfl | rfl | rfl | rfl | rfl | rfl <;> first | exact ⟨by decide, True.intro⟩ | exact ⟨by decide, (by decide : 1000 ≤ _)⟩
  · intro q hq; simp only [XR, List.mem_cons, List.not_mem_nil, or_false] at hq; rcases hq with rfl | rfl | rfl | rfl | rfl | rfl | rfl <;> decide
  · intro q hq
    simp only [XR, List.mem_cons, List.not_mem_nil, or_false] at hq
    rcases hq with rfl | rfl | rfl
    · exact (by decide : 1000 ≤ 1100)
    · exact True.intro
    · rcases h with rfl | rfl
      · exact True.intro
      · exact (by decide : 1000 ≤ 1101)
  · intro q hq; simp only [XR, List.mem_cons, List.not_mem_nil, or_false] at hq; rcases hq with rfl | rfl | rfl | rfl | rfl | rfl | rfl | rfl | rfl | rfl | rfl | rfl <;> decide
  · intro w hw
    have : ∀ w ∈ nestW, (match w with | .fieldLinkNest .. => true | .methodLinkNest .. => true | _ => false) = true := by decide +kernel
    have h9 := this w hw
    cases w <;> first | exact True.intro | exact Bool.noConfusion h9
theorem XR_str {fv : Value} : ∀ i, 1000 ≤ i → i < 1006 → (i, "java/lang/String") ∈ (XR fv).1 := by
  intro i h1 h2
  have : i = 1000 ∨ i = 1001 ∨ i = 1002 ∨ i = 1003 ∨ i = 1004 ∨ i = 1005 := by omega
  rcases this with rfl | rfl | rfl | rfl | rfl | rfl <;> simp [XR]
theorem cls_ok : ClsOK TB vwCl := by
  intro ci C T N h
  match ci, h with
  | 0, h => cases h; exact ⟨List.forall_mem_cons.mpr ⟨q_0, List.forall_mem_cons.mpr ⟨q_1, List.forall_mem_cons.mpr ⟨q_2, List.forall_mem_cons.mpr ⟨q_3, fun _ z => absurd z List.not_mem_nil⟩⟩⟩⟩, tyX0, tyX0_ok, nmX0⟩
  | 1, h => cases h; exact ⟨List.forall_mem_cons.mpr ⟨q_4, List.forall_mem_cons.mpr ⟨q_5, List.forall_mem_cons.mpr ⟨q_6, List.forall_mem_cons.mpr ⟨q_7, List.forall_mem_cons.mpr ⟨q_8, List.forall_mem_cons.mpr ⟨q_9, List.forall_mem_cons.mpr ⟨q_10, List.forall_mem_cons.mpr ⟨q_11, List.forall_mem_cons.mpr ⟨q_12, List.forall_mem_cons.mpr ⟨q_13, List.forall_mem_cons.mpr ⟨q_14, fun _ z => absurd z List.not_mem_nil⟩⟩⟩⟩⟩⟩⟩⟩⟩⟩⟩, tyX1, tyX1_ok, nmX1⟩
  | 2, h => cases h; exact ⟨List.forall_mem_cons.mpr ⟨q_15, List.forall_mem_cons.mpr ⟨q_16, List.forall_mem_cons.mpr ⟨q_17, List.forall_mem_cons.mpr ⟨q_18, fun _ z => absurd z List.not_mem_nil⟩⟩⟩⟩, tyX2, tyX2_ok, nmX2⟩
  | 3, h => cases h; exact ⟨List.forall_mem_cons.mpr ⟨q_19, List.forall_mem_cons.mpr ⟨q_20, List.forall_mem_cons.mpr ⟨q_21, List.forall_mem_cons.mpr ⟨q_22, fun _ z => absurd z List.not_mem_nil⟩⟩⟩⟩, tyX3, tyX3_ok, nmX3⟩
  | 4, h => cases h; exact ⟨List.forall_mem_cons.mpr ⟨q_23, List.forall_mem_cons.mpr ⟨q_24, List.forall_mem_cons.mpr ⟨q_25, List.forall_mem_cons.mpr ⟨q_26, List.forall_mem_cons.mpr ⟨q_27, List.forall_mem_cons.mpr ⟨q_28, List.forall_mem_cons.mpr ⟨q_29, List.forall_mem_cons.mpr ⟨q_30, List.forall_mem_cons.mpr ⟨q_31, List.forall_mem_cons.mpr ⟨q_32, fun _ z => absurd z List.not_mem_nil⟩⟩⟩⟩⟩⟩⟩⟩⟩⟩, tyX4, tyX4_ok, nmX4⟩
  | 5, h => cases h; exact ⟨List.forall_mem_cons.mpr ⟨q_33, List.forall_mem_cons.mpr ⟨q_34, List.forall_mem_cons.mpr ⟨q_35, List.forall_mem_cons.mpr ⟨q_36, fun _ z => absurd z List.not_mem_nil⟩⟩⟩⟩, tyX5, tyX5_ok, nmX5⟩
  | 6, h => cases h; exact ⟨List.forall_mem_cons.mpr ⟨q_37, List.forall_mem_cons.mpr ⟨q_38, List.forall_mem_cons.mpr ⟨q_39, List.forall_mem_cons.mpr ⟨q_40, fun _ z => absurd z List.not_mem_nil⟩⟩⟩⟩, tyX6, tyX6_ok, nmX6⟩
  | 7, h => cases h; exact ⟨List.forall_mem_cons.mpr ⟨q_41, List.forall_mem_cons.mpr ⟨q_42, List.forall_mem_cons.mpr ⟨q_43, List.forall_mem_cons.mpr ⟨q_44, List.forall_mem_cons.mpr ⟨q_45, List.forall_mem_cons.mpr ⟨q_46, List.forall_mem_cons.mpr ⟨q_47, List.forall_mem_cons.mpr ⟨q_48, List.forall_mem_cons.mpr ⟨q_49, List.forall_mem_cons.mpr ⟨q_50, List.forall_mem_cons.mpr ⟨q_51, List.forall_mem_cons.mpr ⟨q_52, List.forall_mem_cons.mpr ⟨q_53, List.forall_mem_cons.mpr ⟨q_54, fun _ z => absurd z List.not_mem_nil⟩⟩⟩⟩⟩⟩⟩⟩⟩⟩⟩⟩⟩⟩, tyX7, tyX7_ok, nmX7⟩
  | 8, h => cases h; exact ⟨List.forall_mem_cons.mpr ⟨q_55, List.forall_mem_cons.mpr ⟨q_56, List.forall_mem_cons.mpr ⟨q_57, fun _ z => absurd z List.not_mem_nil⟩⟩⟩, tyX8, tyX8_ok, nmX8⟩
  | 9, h => cases h; exact ⟨List.forall_mem_cons.mpr ⟨q_58, List.forall_mem_cons.mpr ⟨q_59, List.forall_mem_cons.mpr ⟨q_60, List.forall_mem_cons.mpr ⟨q_61, fun _ z => absurd z List.not_mem_nil⟩⟩⟩⟩, tyX9, tyX9_ok, nmX9⟩
  | 10, h => cases h; exact ⟨List.forall_mem_cons.mpr ⟨q_62, List.forall_mem_cons.mpr ⟨q_63, List.forall_mem_cons.mpr ⟨q_64, List.forall_mem_cons.mpr ⟨q_65, fun _ z => absurd z List.not_mem_nil⟩⟩⟩⟩, tyX10, tyX10_ok, nmX10⟩
  | 11, h => cases h; exact ⟨List.forall_mem_cons.mpr ⟨q_66, List.forall_mem_cons.mpr ⟨q_67, List.forall_mem_cons.mpr ⟨q_68, List.forall_mem_cons.mpr ⟨q_69, List.forall_mem_cons.mpr ⟨q_70, List.forall_mem_cons.mpr ⟨q_71, List.forall_mem_cons.mpr ⟨q_72, List.forall_mem_cons.mpr ⟨q_73, fun _ z => absurd z List.not_mem_nil⟩⟩⟩⟩⟩⟩⟩⟩, tyX11, tyX11_ok, nmX11⟩
  | 12, h => cases h; exact ⟨List.forall_mem_cons.mpr ⟨q_74, List.forall_mem_cons.mpr ⟨q_75, List.forall_mem_cons.mpr ⟨q_76, List.forall_mem_cons.mpr ⟨q_77, List.forall_mem_cons.mpr ⟨q_78, List.forall_mem_cons.mpr ⟨q_79, List.forall_mem_cons.mpr ⟨q_80, List.forall_mem_cons.mpr ⟨q_81, List.forall_mem_cons.mpr ⟨q_82, List.forall_mem_cons.mpr ⟨q_83, List.forall_mem_cons.mpr ⟨q_84, List.forall_mem_cons.mpr ⟨q_85, List.forall_mem_cons.mpr ⟨q_86, List.forall_mem_cons.mpr ⟨q_87, List.forall_mem_cons.mpr ⟨q_88, List.forall_mem_cons.mpr ⟨q_89, List.forall_mem_cons.mpr ⟨q_90, List.forall_mem_cons.mpr ⟨q_91, List.forall_mem_cons.mpr ⟨q_92, List.forall_mem_cons.mpr ⟨q_93, List.forall_mem_cons.mpr ⟨q_94, fun _ z => absurd z List.not_mem_nil⟩⟩⟩⟩⟩⟩⟩⟩⟩⟩⟩⟩⟩⟩⟩⟩⟩⟩⟩⟩⟩, tyX12, tyX12_ok, nmX12⟩
  | n + 13, h => exact absurd (List.getElem?_eq_some_iff.mp h).1 (by simp [vwCl])
def CT (l : Launch) (fv : Value) : CTP := CTof l TB mt vwCl (XR fv)
theorem mok_X11_init : MOK TB mt jX11_init := ⟨cw_X11_init, by decide⟩
theorem mok_X7_init : MOK TB mt jX7_init := ⟨cw_X7_init, by decide⟩
theorem mok_X8_init : MOK TB mt jX8_init := ⟨cw_X8_init, by decide⟩
theorem mok_J9_min_7cf53 : MOK TB mt jJ9_min_7cf53 := ⟨cw_J9_min_7cf53, by decide⟩
theorem mok_X1_init : MOK TB mt jX1_init := ⟨cw_X1_init, by decide⟩
theorem mok_X10_init : MOK TB mt jX10_init := ⟨cw_X10_init, by decide⟩
theorem mok_X3_init : MOK TB mt jX3_init := ⟨cw_X3_init, by decide⟩
theorem mok_X2_init : MOK TB mt jX2_init := ⟨cw_X2_init, by decide⟩
theorem mok_X0_init : MOK TB mt jX0_init := ⟨cw_X0_init, by decide⟩
theorem mok_X5_init : MOK TB mt jX5_init := ⟨cw_X5_init, by decide⟩
theorem mok_X6_init : MOK TB mt jX6_init := ⟨cw_X6_init, by decide⟩
theorem mok_X9_init : MOK TB mt jX9_init := ⟨cw_X9_init, by decide⟩
theorem mok_X4_init : MOK TB mt jX4_init := ⟨cw_X4_init, by decide⟩
theorem mok_X11_feed : MOK TB mt jX11_feed := ⟨cw_X11_feed, by decide⟩
theorem mok_X11_ledge : MOK TB mt jX11_ledge := ⟨cw_X11_ledge, by decide⟩
theorem mok_X4_read : MOK TB mt jX4_read := ⟨cw_X4_read, by decide⟩
theorem mok_X4_advance : MOK TB mt jX4_advance := ⟨cw_X4_advance, by decide⟩
theorem mok_X4_readClause : MOK TB mt jX4_readClause := ⟨cw_X4_readClause, by decide⟩
theorem mok_X4_wordOf : MOK TB mt jX4_wordOf := ⟨cw_X4_wordOf, by decide⟩
theorem mok_X4_takeWord : MOK TB mt jX4_takeWord := ⟨cw_X4_takeWord, by decide⟩
theorem mok_J0_length_8abf5 : MOK TB mt jJ0_length_8abf5 := ⟨cw_J0_length_8abf5, by decide⟩
theorem mok_J0_coder_7d493 : MOK TB mt jJ0_coder_7d493 := ⟨cw_J0_coder_7d493, by decide⟩
theorem mok_J0_charAt_5068e : MOK TB mt jJ0_charAt_5068e := ⟨cw_J0_charAt_5068e, by decide⟩
theorem mok_J0_isLatin1_aae02 : MOK TB mt jJ0_isLatin1_aae02 := ⟨cw_J0_isLatin1_aae02, by decide⟩
theorem mok_J1_charAt_3b067 : MOK TB mt jJ1_charAt_3b067 := ⟨cw_J1_charAt_3b067, by decide⟩
theorem mok_J0_checkIndex_df160 : MOK TB mt jJ0_checkIndex_df160 := ⟨cw_J0_checkIndex_df160, by decide⟩
theorem mok_J3_checkIndex_8e157 : MOK TB mt jJ3_checkIndex_8e157 := ⟨cw_J3_checkIndex_8e157, by decide⟩
theorem mok_J2_charAt_3b067 : MOK TB mt jJ2_charAt_3b067 := ⟨cw_J2_charAt_3b067, by decide⟩
theorem mok_J2_checkIndex_2214a : MOK TB mt jJ2_checkIndex_2214a := ⟨cw_J2_checkIndex_2214a, by decide⟩
theorem mok_J2_length_9d52b : MOK TB mt jJ2_length_9d52b := ⟨cw_J2_length_9d52b, by decide⟩
theorem mok_J2_getChar_3b067 : MOK TB mt jJ2_getChar_3b067 := ⟨cw_J2_getChar_3b067, by decide⟩
theorem mok_X4_take : MOK TB mt jX4_take := ⟨cw_X4_take, by decide⟩
theorem mok_X4_readNumber : MOK TB mt jX4_readNumber := ⟨cw_X4_readNumber, by decide⟩
theorem mok_X4_isDigit : MOK TB mt jX4_isDigit := ⟨cw_X4_isDigit, by decide⟩
theorem mok_X4_readEither : MOK TB mt jX4_readEither := ⟨cw_X4_readEither, by decide⟩
theorem mok_X4_readBoth : MOK TB mt jX4_readBoth := ⟨cw_X4_readBoth, by decide⟩
theorem mok_X4_readPart : MOK TB mt jX4_readPart := ⟨cw_X4_readPart, by decide⟩
theorem mok_X4_readTest : MOK TB mt jX4_readTest := ⟨cw_X4_readTest, by decide⟩
theorem mok_X4_placeOf : MOK TB mt jX4_placeOf := ⟨cw_X4_placeOf, by decide⟩
theorem mok_J0_indexOf_0f7a4 : MOK TB mt jJ0_indexOf_0f7a4 := ⟨cw_J0_indexOf_0f7a4, by decide⟩
theorem mok_J0_indexOf_7cf53 : MOK TB mt jJ0_indexOf_7cf53 := ⟨cw_J0_indexOf_7cf53, by decide⟩
theorem mok_J1_indexOf_4cfef : MOK TB mt jJ1_indexOf_4cfef := ⟨cw_J1_indexOf_4cfef, by decide⟩
theorem mok_J1_canEncode_9a6ad : MOK TB mt jJ1_canEncode_9a6ad := ⟨cw_J1_canEncode_9a6ad, by decide⟩
theorem mok_J9_max_7cf53 : MOK TB mt jJ9_max_7cf53 := ⟨cw_J9_max_7cf53, by decide⟩
theorem mok_J1_indexOfChar_4cfef : MOK TB mt jJ1_indexOfChar_4cfef := ⟨cw_J1_indexOfChar_4cfef, by decide⟩
theorem mok_J2_indexOf_4cfef : MOK TB mt jJ2_indexOf_4cfef := ⟨cw_J2_indexOf_4cfef, by decide⟩
theorem mok_J2_indexOfChar_4cfef : MOK TB mt jJ2_indexOfChar_4cfef := ⟨cw_J2_indexOfChar_4cfef, by decide⟩
theorem mok_J2_checkBoundsBeginEnd_d044e : MOK TB mt jJ2_checkBoundsBeginEnd_d044e := ⟨cw_J2_checkBoundsBeginEnd_d044e, by decide⟩
theorem mok_J0_checkBoundsBeginEnd_23922 : MOK TB mt jJ0_checkBoundsBeginEnd_23922 := ⟨cw_J0_checkBoundsBeginEnd_23922, by decide⟩
theorem mok_J3_checkFromToIndex_8c36e : MOK TB mt jJ3_checkFromToIndex_8c36e := ⟨cw_J3_checkFromToIndex_8c36e, by decide⟩
theorem mok_J2_indexOfCharUnsafe_4cfef : MOK TB mt jJ2_indexOfCharUnsafe_4cfef := ⟨cw_J2_indexOfCharUnsafe_4cfef, by decide⟩
theorem mok_J2_indexOfSupplementary_4cfef : MOK TB mt jJ2_indexOfSupplementary_4cfef := ⟨cw_J2_indexOfSupplementary_4cfef, by decide⟩
theorem mok_J11_isValidCodePoint_9a6ad : MOK TB mt jJ11_isValidCodePoint_9a6ad := ⟨cw_J11_isValidCodePoint_9a6ad, by decide⟩
theorem mok_J11_highSurrogate_5068e : MOK TB mt jJ11_highSurrogate_5068e := ⟨cw_J11_highSurrogate_5068e, by decide⟩
theorem mok_J11_lowSurrogate_5068e : MOK TB mt jJ11_lowSurrogate_5068e := ⟨cw_J11_lowSurrogate_5068e, by decide⟩
theorem mok_X4_put : MOK TB mt jX4_put := ⟨cw_X4_put, by decide⟩
theorem mok_X11_urchin : MOK TB mt jX11_urchin := ⟨cw_X11_urchin, by decide⟩
theorem mok_X11_isNumber : MOK TB mt jX11_isNumber := ⟨cw_X11_isNumber, by decide⟩
theorem mok_X7_join : MOK TB mt jX7_join := ⟨cw_X7_join, by decide⟩
theorem mok_X7_putOut : MOK TB mt jX7_putOut := ⟨cw_X7_putOut, by decide⟩
theorem mok_X11_of : MOK TB mt jX11_of := ⟨cw_X11_of, by decide⟩
theorem mok_X7_has : MOK TB mt jX7_has := ⟨cw_X7_has, by decide⟩
theorem mok_X7_isOut : MOK TB mt jX7_isOut := ⟨cw_X7_isOut, by decide⟩
theorem mok_X11_isFact : MOK TB mt jX11_isFact := ⟨cw_X11_isFact, by decide⟩
theorem mok_X11_holding : MOK TB mt jX11_holding := ⟨cw_X11_holding, by decide⟩
theorem mok_X1_heedOf : MOK TB mt jX1_heedOf := ⟨cw_X1_heedOf, by decide⟩
theorem mok_X1_look : MOK TB mt jX1_look := ⟨cw_X1_look, by decide⟩
theorem mok_J6_bitCount_0f7a4 : MOK TB mt jJ6_bitCount_0f7a4 := ⟨cw_J6_bitCount_0f7a4, by decide⟩
theorem mok_X1_kindOf : MOK TB mt jX1_kindOf := ⟨cw_X1_kindOf, by decide⟩
theorem mok_X4_sum : MOK TB mt jX4_sum := ⟨cw_X4_sum, by decide⟩
theorem mok_X4_holds : MOK TB mt jX4_holds := ⟨cw_X4_holds, by decide⟩
theorem mok_X4_joined : MOK TB mt jX4_joined := ⟨cw_X4_joined, by decide⟩
theorem mok_X0_heed : MOK TB mt jX0_heed := ⟨cw_X0_heed, by decide⟩
theorem mok_X2_heed : MOK TB mt jX2_heed := ⟨cw_X2_heed, by decide⟩
theorem mok_X3_heed : MOK TB mt jX3_heed := ⟨cw_X3_heed, by decide⟩
theorem mok_X5_heed : MOK TB mt jX5_heed := ⟨cw_X5_heed, by decide⟩
theorem mok_X6_heed : MOK TB mt jX6_heed := ⟨cw_X6_heed, by decide⟩
theorem mok_X9_heed : MOK TB mt jX9_heed := ⟨cw_X9_heed, by decide⟩
theorem mok_X10_heed : MOK TB mt jX10_heed := ⟨cw_X10_heed, by decide⟩
theorem mok_X11_row : MOK TB mt jX11_row := ⟨cw_X11_row, by decide⟩
theorem mok_X11_isLesson : MOK TB mt jX11_isLesson := ⟨cw_X11_isLesson, by decide⟩
theorem mok_X11_learn : MOK TB mt jX11_learn := ⟨cw_X11_learn, by decide⟩
theorem mok_X11_isSet : MOK TB mt jX11_isSet := ⟨cw_X11_isSet, by decide⟩
theorem mok_X11_beach : MOK TB mt jX11_beach := ⟨cw_X11_beach, by decide⟩
theorem mok_X11_lesson : MOK TB mt jX11_lesson := ⟨cw_X11_lesson, by decide⟩
theorem mok_X11_told : MOK TB mt jX11_told := ⟨cw_X11_told, by decide⟩
theorem mok_X7_all : MOK TB mt jX7_all := ⟨cw_X7_all, by decide⟩
theorem mok_X7_held : MOK TB mt jX7_held := ⟨cw_X7_held, by decide⟩
theorem mok_X7_few : MOK TB mt jX7_few := ⟨cw_X7_few, by decide⟩
theorem mok_X7_knownBy : MOK TB mt jX7_knownBy := ⟨cw_X7_knownBy, by decide⟩
theorem mok_X11_toldLesson : MOK TB mt jX11_toldLesson := ⟨cw_X11_toldLesson, by decide⟩
theorem mok_X11_pass : MOK TB mt jX11_pass := ⟨cw_X11_pass, by decide⟩
theorem mok_X11_areTides : MOK TB mt jX11_areTides := ⟨cw_X11_areTides, by decide⟩
theorem mok_X1_forget : MOK TB mt jX1_forget := ⟨cw_X1_forget, by decide⟩
theorem mok_J7_fill_53178 : MOK TB mt jJ7_fill_53178 := ⟨cw_J7_fill_53178, by decide⟩
theorem mok_X11_go : MOK TB mt jX11_go := ⟨cw_X11_go, by decide⟩
theorem mok_X7_lessonNow : MOK TB mt jX7_lessonNow := ⟨cw_X7_lessonNow, by decide⟩
theorem mok_X7_goTide : MOK TB mt jX7_goTide := ⟨cw_X7_goTide, by decide⟩
theorem mok_X1_setsOf : MOK TB mt jX1_setsOf := ⟨cw_X1_setsOf, by decide⟩
theorem mok_X1_weigh : MOK TB mt jX1_weigh := ⟨cw_X1_weigh, by decide⟩
theorem mok_X7_least : MOK TB mt jX7_least := ⟨cw_X7_least, by decide⟩
theorem mok_X11_on : MOK TB mt jX11_on := ⟨cw_X11_on, by decide⟩
theorem mok_X7_becomeRow : MOK TB mt jX7_becomeRow := ⟨cw_X7_becomeRow, by decide⟩
theorem mok_X11_lasts : MOK TB mt jX11_lasts := ⟨cw_X11_lasts, by decide⟩
theorem mok_X11_tidesAheadWith : MOK TB mt jX11_tidesAheadWith := ⟨cw_X11_tidesAheadWith, by decide⟩
theorem mok_X11_teach : MOK TB mt jX11_teach := ⟨cw_X11_teach, by decide⟩
theorem mok_X11_heldIfTaught : MOK TB mt jX11_heldIfTaught := ⟨cw_X11_heldIfTaught, by decide⟩
theorem mok_X11_taughtAt : MOK TB mt jX11_taughtAt := ⟨cw_X11_taughtAt, by decide⟩
theorem mok_X11_tell : MOK TB mt jX11_tell := ⟨cw_X11_tell, by decide⟩
theorem mok_X11_tidesIfTold : MOK TB mt jX11_tidesIfTold := ⟨cw_X11_tidesIfTold, by decide⟩
theorem mok_X7_tellFact : MOK TB mt jX7_tellFact := ⟨cw_X7_tellFact, by decide⟩
theorem mok_X11_see : MOK TB mt jX11_see := ⟨cw_X11_see, by decide⟩
theorem mok_X8_empty : MOK TB mt jX8_empty := ⟨cw_X8_empty, by decide⟩
theorem mok_X8_add : MOK TB mt jX8_add := ⟨cw_X8_add, by decide⟩
theorem mok_X11_knew : MOK TB mt jX11_knew := ⟨cw_X11_knew, by decide⟩
theorem mok_X11_isPart : MOK TB mt jX11_isPart := ⟨cw_X11_isPart, by decide⟩
theorem mok_X11_seenIsSo : MOK TB mt jX11_seenIsSo := ⟨cw_X11_seenIsSo, by decide⟩
theorem mok_X7_lastSeen : MOK TB mt jX7_lastSeen := ⟨cw_X7_lastSeen, by decide⟩
theorem mok_X8_cell : MOK TB mt jX8_cell := ⟨cw_X8_cell, by decide⟩
theorem mok_X7_isAsSeen : MOK TB mt jX7_isAsSeen := ⟨cw_X7_isAsSeen, by decide⟩
theorem mok_X11_firm : MOK TB mt jX11_firm := ⟨cw_X11_firm, by decide⟩
theorem mok_X11_odds : MOK TB mt jX11_odds := ⟨cw_X11_odds, by decide⟩
theorem mok_X7_notOut : MOK TB mt jX7_notOut := ⟨cw_X7_notOut, by decide⟩
theorem mok_X11_lowest : MOK TB mt jX11_lowest := ⟨cw_X11_lowest, by decide⟩
theorem mok_X11_mean : MOK TB mt jX11_mean := ⟨cw_X11_mean, by decide⟩
theorem mok_X11_plan : MOK TB mt jX11_plan := ⟨cw_X11_plan, by decide⟩
theorem mok_X11_isPlan : MOK TB mt jX11_isPlan := ⟨cw_X11_isPlan, by decide⟩
theorem mok_X11_done : MOK TB mt jX11_done := ⟨cw_X11_done, by decide⟩
theorem mok_X11_doPlanned : MOK TB mt jX11_doPlanned := ⟨cw_X11_doPlanned, by decide⟩
theorem mok_X11_book : MOK TB mt jX11_book := ⟨cw_X11_book, by decide⟩
theorem mok_X11_looked : MOK TB mt jX11_looked := ⟨cw_X11_looked, by decide⟩
theorem mok_X11_act : MOK TB mt jX11_act := ⟨cw_X11_act, by decide⟩
theorem mok_X10_wake : MOK TB mt jX10_wake := ⟨cw_X10_wake, by decide⟩
theorem mok_X3_leans : MOK TB mt jX3_leans := ⟨cw_X3_leans, by decide⟩
theorem mok_X10_begin : MOK TB mt jX10_begin := ⟨cw_X10_begin, by decide⟩
theorem mok_X6_leans : MOK TB mt jX6_leans := ⟨cw_X6_leans, by decide⟩
theorem mok_X10_leans : MOK TB mt jX10_leans := ⟨cw_X10_leans, by decide⟩
theorem mok_X2_says : MOK TB mt jX2_says := ⟨cw_X2_says, by decide⟩
theorem mok_X9_says : MOK TB mt jX9_says := ⟨cw_X9_says, by decide⟩
theorem mok_X10_says : MOK TB mt jX10_says := ⟨cw_X10_says, by decide⟩
theorem mok_X0_bristles : MOK TB mt jX0_bristles := ⟨cw_X0_bristles, by decide⟩
theorem mok_X5_bristles : MOK TB mt jX5_bristles := ⟨cw_X5_bristles, by decide⟩
theorem mok_X10_bristles : MOK TB mt jX10_bristles := ⟨cw_X10_bristles, by decide⟩
theorem mok_X11_trace : MOK TB mt jX11_trace := ⟨cw_X11_trace, by decide⟩
theorem mok_X10_bodyAt : MOK TB mt jX10_bodyAt := ⟨cw_X10_bodyAt, by decide⟩
theorem mok_X11_as : MOK TB mt jX11_as := ⟨cw_X11_as, by decide⟩
theorem mok_X11_image : MOK TB mt jX11_image := ⟨cw_X11_image, by decide⟩
theorem mok_X7_become : MOK TB mt jX7_become := ⟨cw_X7_become, by decide⟩
theorem mok_X8_takeOver : MOK TB mt jX8_takeOver := ⟨cw_X8_takeOver, by decide⟩
theorem mok_X11_undo : MOK TB mt jX11_undo := ⟨cw_X11_undo, by decide⟩
theorem mok_X11_count : MOK TB mt jX11_count := ⟨cw_X11_count, by decide⟩
theorem mok_X12_init : MOK TB mt jX12_init := ⟨cw_X12_init, by decide⟩
theorem mok_X12_feed : MOK TB mt jX12_feed := ⟨cw_X12_feed, by decide⟩
theorem mok_X12_in : MOK TB mt jX12_in := ⟨cw_X12_in, by decide⟩
theorem mok_X12_ledge : MOK TB mt jX12_ledge := ⟨cw_X12_ledge, by decide⟩
theorem mok_X12_clauseHere : MOK TB mt jX12_clauseHere := ⟨cw_X12_clauseHere, by decide⟩
theorem mok_X12_here : MOK TB mt jX12_here := ⟨cw_X12_here, by decide⟩
theorem mok_X12_tellsHere : MOK TB mt jX12_tellsHere := ⟨cw_X12_tellsHere, by decide⟩
theorem mok_X12_spells : MOK TB mt jX12_spells := ⟨cw_X12_spells, by decide⟩
theorem mok_X12_must : MOK TB mt jX12_must := ⟨cw_X12_must, by decide⟩
theorem mok_X12_figures : MOK TB mt jX12_figures := ⟨cw_X12_figures, by decide⟩
theorem mok_X12_much : MOK TB mt jX12_much := ⟨cw_X12_much, by decide⟩
theorem mok_X12_some : MOK TB mt jX12_some := ⟨cw_X12_some, by decide⟩
theorem mok_X12_every : MOK TB mt jX12_every := ⟨cw_X12_every, by decide⟩
theorem mok_X12_factor : MOK TB mt jX12_factor := ⟨cw_X12_factor, by decide⟩
theorem mok_X12_emits : MOK TB mt jX12_emits := ⟨cw_X12_emits, by decide⟩
theorem mok_X12_among : MOK TB mt jX12_among := ⟨cw_X12_among, by decide⟩
theorem mok_X12_urchin : MOK TB mt jX12_urchin := ⟨cw_X12_urchin, by decide⟩
theorem mok_X12_of : MOK TB mt jX12_of := ⟨cw_X12_of, by decide⟩
theorem mok_X12_isUrchin : MOK TB mt jX12_isUrchin := ⟨cw_X12_isUrchin, by decide⟩
theorem mok_X12_looksAnew : MOK TB mt jX12_looksAnew := ⟨cw_X12_looksAnew, by decide⟩
theorem mok_X12_isFact : MOK TB mt jX12_isFact := ⟨cw_X12_isFact, by decide⟩
theorem mok_X12_heedOf : MOK TB mt jX12_heedOf := ⟨cw_X12_heedOf, by decide⟩
theorem mok_X12_sumOf : MOK TB mt jX12_sumOf := ⟨cw_X12_sumOf, by decide⟩
theorem mok_X12_countOf : MOK TB mt jX12_countOf := ⟨cw_X12_countOf, by decide⟩
theorem mok_X12_clausesOf : MOK TB mt jX12_clausesOf := ⟨cw_X12_clausesOf, by decide⟩
theorem mok_X12_tellsOf : MOK TB mt jX12_tellsOf := ⟨cw_X12_tellsOf, by decide⟩
theorem mok_X12_row : MOK TB mt jX12_row := ⟨cw_X12_row, by decide⟩
theorem mok_X12_becomes : MOK TB mt jX12_becomes := ⟨cw_X12_becomes, by decide⟩
theorem mok_X12_learn : MOK TB mt jX12_learn := ⟨cw_X12_learn, by decide⟩
theorem mok_X12_beach : MOK TB mt jX12_beach := ⟨cw_X12_beach, by decide⟩
theorem mok_X12_lesson : MOK TB mt jX12_lesson := ⟨cw_X12_lesson, by decide⟩
theorem mok_X12_told : MOK TB mt jX12_told := ⟨cw_X12_told, by decide⟩
theorem mok_X12_knownByAny : MOK TB mt jX12_knownByAny := ⟨cw_X12_knownByAny, by decide⟩
theorem mok_X12_heldByAll : MOK TB mt jX12_heldByAll := ⟨cw_X12_heldByAll, by decide⟩
theorem mok_X12_awayOnes : MOK TB mt jX12_awayOnes := ⟨cw_X12_awayOnes, by decide⟩
theorem mok_X12_fewest : MOK TB mt jX12_fewest := ⟨cw_X12_fewest, by decide⟩
theorem mok_X12_knownBy : MOK TB mt jX12_knownBy := ⟨cw_X12_knownBy, by decide⟩
theorem mok_X12_pass : MOK TB mt jX12_pass := ⟨cw_X12_pass, by decide⟩
theorem mok_X12_goesOn : MOK TB mt jX12_goesOn := ⟨cw_X12_goesOn, by decide⟩
theorem mok_X12_goes : MOK TB mt jX12_goes := ⟨cw_X12_goes, by decide⟩
theorem mok_X12_goesBy : MOK TB mt jX12_goesBy := ⟨cw_X12_goesBy, by decide⟩
theorem mok_X12_knownNext : MOK TB mt jX12_knownNext := ⟨cw_X12_knownNext, by decide⟩
theorem mok_X12_isKnownNext : MOK TB mt jX12_isKnownNext := ⟨cw_X12_isKnownNext, by decide⟩
theorem mok_X12_isPassed : MOK TB mt jX12_isPassed := ⟨cw_X12_isPassed, by decide⟩
theorem mok_X12_on : MOK TB mt jX12_on := ⟨cw_X12_on, by decide⟩
theorem mok_X12_keeps : MOK TB mt jX12_keeps := ⟨cw_X12_keeps, by decide⟩
theorem mok_X12_goesBack : MOK TB mt jX12_goesBack := ⟨cw_X12_goesBack, by decide⟩
theorem mok_X12_lasts : MOK TB mt jX12_lasts := ⟨cw_X12_lasts, by decide⟩
theorem mok_X12_tidesKnown : MOK TB mt jX12_tidesKnown := ⟨cw_X12_tidesKnown, by decide⟩
theorem mok_X12_tell : MOK TB mt jX12_tell := ⟨cw_X12_tell, by decide⟩
theorem mok_X12_teach : MOK TB mt jX12_teach := ⟨cw_X12_teach, by decide⟩
theorem mok_X12_heldBehind : MOK TB mt jX12_heldBehind := ⟨cw_X12_heldBehind, by decide⟩
theorem mok_X12_see : MOK TB mt jX12_see := ⟨cw_X12_see, by decide⟩
theorem mok_X12_knew : MOK TB mt jX12_knew := ⟨cw_X12_knew, by decide⟩
theorem mok_X12_fitting : MOK TB mt jX12_fitting := ⟨cw_X12_fitting, by decide⟩
theorem mok_X12_areAsSeen : MOK TB mt jX12_areAsSeen := ⟨cw_X12_areAsSeen, by decide⟩
theorem mok_X12_isAsSeen : MOK TB mt jX12_isAsSeen := ⟨cw_X12_isAsSeen, by decide⟩
theorem mok_X12_firm : MOK TB mt jX12_firm := ⟨cw_X12_firm, by decide⟩
theorem mok_X12_odds : MOK TB mt jX12_odds := ⟨cw_X12_odds, by decide⟩
theorem mok_X12_lowest : MOK TB mt jX12_lowest := ⟨cw_X12_lowest, by decide⟩
theorem mok_X12_mean : MOK TB mt jX12_mean := ⟨cw_X12_mean, by decide⟩
theorem mok_X12_plan : MOK TB mt jX12_plan := ⟨cw_X12_plan, by decide⟩
theorem mok_X12_isPlan : MOK TB mt jX12_isPlan := ⟨cw_X12_isPlan, by decide⟩
theorem mok_X12_done : MOK TB mt jX12_done := ⟨cw_X12_done, by decide⟩
theorem mok_X12_does : MOK TB mt jX12_does := ⟨cw_X12_does, by decide⟩
theorem mok_X12_book : MOK TB mt jX12_book := ⟨cw_X12_book, by decide⟩
theorem mok_X12_looked : MOK TB mt jX12_looked := ⟨cw_X12_looked, by decide⟩
theorem mok_X12_act : MOK TB mt jX12_act := ⟨cw_X12_act, by decide⟩
theorem mok_X12_leansActs : MOK TB mt jX12_leansActs := ⟨cw_X12_leansActs, by decide⟩
theorem mok_X12_isUnder : MOK TB mt jX12_isUnder := ⟨cw_X12_isUnder, by decide⟩
theorem mok_X12_ranBody : MOK TB mt jX12_ranBody := ⟨cw_X12_ranBody, by decide⟩
theorem mok_X12_plainLeans : MOK TB mt jX12_plainLeans := ⟨cw_X12_plainLeans, by decide⟩
theorem mok_X12_saysActs : MOK TB mt jX12_saysActs := ⟨cw_X12_saysActs, by decide⟩
theorem mok_X12_plainSays : MOK TB mt jX12_plainSays := ⟨cw_X12_plainSays, by decide⟩
theorem mok_X12_bristlesActs : MOK TB mt jX12_bristlesActs := ⟨cw_X12_bristlesActs, by decide⟩
theorem mok_X12_plainTelling : MOK TB mt jX12_plainTelling := ⟨cw_X12_plainTelling, by decide⟩
theorem mok_X12_trace : MOK TB mt jX12_trace := ⟨cw_X12_trace, by decide⟩
theorem mok_X12_as : MOK TB mt jX12_as := ⟨cw_X12_as, by decide⟩
theorem mok_X12_image : MOK TB mt jX12_image := ⟨cw_X12_image, by decide⟩
theorem mok_X12_undo : MOK TB mt jX12_undo := ⟨cw_X12_undo, by decide⟩
theorem mok_X12_count : MOK TB mt jX12_count := ⟨cw_X12_count, by decide⟩
theorem nst_0 : Cond.methodLinkNest RX11 11 yX7_init RX11 ∈ nestW := List.mem_of_getElem? (i := 0) rfl
theorem nst_1 : Cond.fieldLinkNest RX7 100 RX8 "size" "I" RX11 ∈ nestW := List.mem_of_getElem? (i := 1) rfl
theorem nst_2 : Cond.fieldLinkNest RX11 221 RX8 "size" "I" RX11 ∈ nestW := List.mem_of_getElem? (i := 2) rfl
theorem nst_3 : Cond.methodLinkNest RX11 26 yX1_init RX11 ∈ nestW := List.mem_of_getElem? (i := 3) rfl
theorem nst_4 : Cond.methodLinkNest RX1 11 yX10_init RX11 ∈ nestW := List.mem_of_getElem? (i := 4) rfl
theorem nst_5 : Cond.fieldLinkNest RX11 266 RX10 "ran" "I" RX11 ∈ nestW := List.mem_of_getElem? (i := 5) rfl
theorem nst_6 : Cond.methodLinkNest RX1 20 yX3_init RX11 ∈ nestW := List.mem_of_getElem? (i := 6) rfl
theorem nst_7 : Cond.methodLinkNest RX3 1 yX10_init RX11 ∈ nestW := List.mem_of_getElem? (i := 7) rfl
theorem nst_8 : Cond.methodLinkNest RX1 23 yX2_init RX11 ∈ nestW := List.mem_of_getElem? (i := 8) rfl
theorem nst_9 : Cond.methodLinkNest RX2 1 yX10_init RX11 ∈ nestW := List.mem_of_getElem? (i := 9) rfl
theorem nst_10 : Cond.methodLinkNest RX1 26 yX0_init RX11 ∈ nestW := List.mem_of_getElem? (i := 10) rfl
theorem nst_11 : Cond.methodLinkNest RX0 1 yX10_init RX11 ∈ nestW := List.mem_of_getElem? (i := 11) rfl
theorem nst_12 : Cond.methodLinkNest RX1 29 yX5_init RX11 ∈ nestW := List.mem_of_getElem? (i := 12) rfl
theorem nst_13 : Cond.methodLinkNest RX5 1 yX3_init RX11 ∈ nestW := List.mem_of_getElem? (i := 13) rfl
theorem nst_14 : Cond.methodLinkNest RX1 32 yX6_init RX11 ∈ nestW := List.mem_of_getElem? (i := 14) rfl
theorem nst_15 : Cond.methodLinkNest RX6 1 yX2_init RX11 ∈ nestW := List.mem_of_getElem? (i := 15) rfl
theorem nst_16 : Cond.methodLinkNest RX1 35 yX9_init RX11 ∈ nestW := List.mem_of_getElem? (i := 16) rfl
theorem nst_17 : Cond.methodLinkNest RX9 1 yX0_init RX11 ∈ nestW := List.mem_of_getElem? (i := 17) rfl
theorem nst_18 : Cond.fieldLinkNest RX4 122 RX1 "p" "I" RX11 ∈ nestW := List.mem_of_getElem? (i := 18) rfl
theorem nst_19 : Cond.fieldLinkNest RX4 127 RX1 "k" "I" RX11 ∈ nestW := List.mem_of_getElem? (i := 19) rfl
theorem nst_20 : Cond.fieldLinkNest RX3 7 RX1 "v" "I" RX11 ∈ nestW := List.mem_of_getElem? (i := 20) rfl
theorem nst_21 : Cond.fieldLinkNest RX6 11 RX1 "v" "I" RX11 ∈ nestW := List.mem_of_getElem? (i := 21) rfl
theorem nst_22 : Cond.fieldLinkNest RX4 130 RX1 "v" "I" RX11 ∈ nestW := List.mem_of_getElem? (i := 22) rfl
theorem nst_23 : Cond.fieldLinkNest RX4 133 RX1 "f" "I" RX11 ∈ nestW := List.mem_of_getElem? (i := 23) rfl
theorem nst_24 : Cond.fieldLinkNest RX0 7 RX1 "c" "I" RX11 ∈ nestW := List.mem_of_getElem? (i := 24) rfl
theorem nst_25 : Cond.fieldLinkNest RX4 136 RX1 "c" "I" RX11 ∈ nestW := List.mem_of_getElem? (i := 25) rfl
theorem nst_26 : Cond.fieldLinkNest RX4 139 RX1 "t" "I" RX11 ∈ nestW := List.mem_of_getElem? (i := 26) rfl
theorem nst_27 : Cond.fieldLinkNest RX9 11 RX1 "row" "I" RX11 ∈ nestW := List.mem_of_getElem? (i := 27) rfl
theorem nst_28 : Cond.fieldLinkNest RX5 11 RX1 "knows" "Z" RX11 ∈ nestW := List.mem_of_getElem? (i := 28) rfl
theorem nst_29 : Cond.methodLinkNest RX11 33 yX4_init RX11 ∈ nestW := List.mem_of_getElem? (i := 29) rfl
theorem nst_30 : Cond.fieldLinkNest RX11 114 RX4 "keep" "I" RX11 ∈ nestW := List.mem_of_getElem? (i := 30) rfl
theorem nst_31 : Cond.fieldLinkNest RX7 116 RX4 "keep" "I" RX11 ∈ nestW := List.mem_of_getElem? (i := 31) rfl
theorem nst_32 : Cond.fieldLinkNest RX1 97 RX4 "pass" "I" RX11 ∈ nestW := List.mem_of_getElem? (i := 32) rfl
theorem nst_33 : Cond.fieldLinkNest RX11 117 RX4 "pass" "I" RX11 ∈ nestW := List.mem_of_getElem? (i := 33) rfl
theorem farN {own : String} {P : Pool} {X : RoT} (h : P.1.all (fun q => !(q.2.2.2.contains 50)) = true) : ∀ q ∈ P.1, ∀ i v, 50 ∈ q.2.2.2 → (16 * i + q.2.1, v) ∈ P.2.2.2.2.1 → ∃ o n d, (i, o, n, d, v) ∈ X.2.1 ∧ Cond.fieldLink own q.1 o n d ∈ TB := by
  intro q hq i v h5 _
  have h1 := List.all_eq_true.mp h q hq
  have h2 : q.2.2.2.contains 50 = true := List.contains_iff_mem.mpr h5
  rw [h2] at h1
  exact Bool.noConfusion h1
def rofS : List (Nat × Value) := [(16000, .ref 1050), (16001, .int 0), (16016, .ref 1051), (16017, .int 0), (16032, .ref 1052), (16033, .int 0), (16048, .ref 1053), (16049, .int 0), (16064, .ref 1054), (16065, .int 0), (16080, .ref 1055), (16081, .int 0)]
theorem farS_v {own : String} {ix : Nat} {fv : Value} (q : Cond.fieldLink own ix "java/lang/String" "value" "[B" ∈ TB) : ∀ i v, 50 ∈ [50] → (16 * i + 0, v) ∈ rofS → ∃ o n d, (i, o, n, d, v) ∈ (XR fv).2.1 ∧ Cond.fieldLink own ix o n d ∈ TB := by
  intro i v _ h
  have key : ∀ q ∈ rofS, q.1 % 16 = 0 → (q.1 / 16, "java/lang/String", "value", "[B", q.2) ∈ xrF := by decide +kernel
  have h1 := key _ h (by show (16 * i + 0) % 16 = 0; omega)
  have e : (16 * i + 0) / 16 = i := by omega
  simp only [e] at h1
  exact ⟨_, _, _, h1, q⟩
theorem farS_c {own : String} {ix : Nat} {fv : Value} (q : Cond.fieldLink own ix "java/lang/String" "coder" "B" ∈ TB) : ∀ i v, 50 ∈ [50] → (16 * i + 1, v) ∈ rofS → ∃ o n d, (i, o, n, d, v) ∈ (XR fv).2.1 ∧ Cond.fieldLink own ix o n d ∈ TB := by
  intro i v _ h
  have key : ∀ q ∈ rofS, q.1 % 16 = 1 → (q.1 / 16, "java/lang/String", "coder", "B", q.2) ∈ xrF := by decide +kernel
  have h1 := key _ h (by show (16 * i + 1) % 16 = 1; omega)
  have e : (16 * i + 1) / 16 = i := by omega
  simp only [e] at h1
  exact ⟨_, _, _, h1, q⟩
theorem nMH {n : String} (h1 : n ≠ "java/lang/invoke/MethodHandle") (h2 : n ≠ "java/lang/invoke/VarHandle") : notMH n := ⟨h1, h2⟩
theorem nmh_X0 : notMH RX0 := ⟨by decide +kernel, by decide +kernel⟩
theorem nmh_X1 : notMH RX1 := ⟨by decide +kernel, by decide +kernel⟩
theorem nmh_X2 : notMH RX2 := ⟨by decide +kernel, by decide +kernel⟩
theorem nmh_X3 : notMH RX3 := ⟨by decide +kernel, by decide +kernel⟩
theorem nmh_X4 : notMH RX4 := ⟨by decide +kernel, by decide +kernel⟩
theorem nmh_X5 : notMH RX5 := ⟨by decide +kernel, by decide +kernel⟩
theorem nmh_X6 : notMH RX6 := ⟨by decide +kernel, by decide +kernel⟩
theorem nmh_X7 : notMH RX7 := ⟨by decide +kernel, by decide +kernel⟩
theorem nmh_X8 : notMH RX8 := ⟨by decide +kernel, by decide +kernel⟩
theorem nmh_X9 : notMH RX9 := ⟨by decide +kernel, by decide +kernel⟩
theorem nmh_X10 : notMH RX10 := ⟨by decide +kernel, by decide +kernel⟩
theorem nmh_X11 : notMH RX11 := ⟨by decide +kernel, by decide +kernel⟩
theorem nmh_X12 : notMH RX12 := ⟨by decide +kernel, by decide +kernel⟩
theorem nmh_Jx145de : notMH RJx145de := ⟨by decide +kernel, by decide +kernel⟩
theorem nmh_Jx9f9b0 : notMH RJx9f9b0 := ⟨by decide +kernel, by decide +kernel⟩
theorem nmh_J11 : notMH RJ11 := ⟨by decide +kernel, by decide +kernel⟩
theorem nmh_Jxb160c : notMH RJxb160c := ⟨by decide +kernel, by decide +kernel⟩
theorem nmh_J6 : notMH RJ6 := ⟨by decide +kernel, by decide +kernel⟩
theorem nmh_J9 : notMH RJ9 := ⟨by decide +kernel, by decide +kernel⟩
theorem nmh_J0 : notMH RJ0 := ⟨by decide +kernel, by decide +kernel⟩
theorem nmh_J1 : notMH RJ1 := ⟨by decide +kernel, by decide +kernel⟩
theorem nmh_J2 : notMH RJ2 := ⟨by decide +kernel, by decide +kernel⟩
theorem nmh_J10 : notMH RJ10 := ⟨by decide +kernel, by decide +kernel⟩
theorem nmh_Jxfd54e : notMH RJxfd54e := ⟨by decide +kernel, by decide +kernel⟩
theorem nmh_Jx3cf43 : notMH RJx3cf43 := ⟨by decide +kernel, by decide +kernel⟩
theorem nmh_J7 : notMH RJ7 := ⟨by decide +kernel, by decide +kernel⟩
theorem nmh_J3 : notMH RJ3 := ⟨by decide +kernel, by decide +kernel⟩
theorem nmh_L : notMH RL := ⟨by decide +kernel, by decide +kernel⟩
theorem vokA {own C : String} {idx na j : Nat} {y : MethodName} (hy : (mt j).1 = y) (h1 : y.cls = C) (h2 : notMH C) (h3 : arOK na y) (q1 : Cond.methodLink own idx y ∈ TB) (q2 : Cond.instanceMethod y ∈ TB) (q3 : Cond.selects C y y ∈ TB) (q4 : Cond.initialized C ∈ TB) : VOK TB mt own idx na C j := by
  subst hy
  refine Or.inl ⟨h1, h2, h3, fun w hw => ?_⟩
  simp only [wsV, List.append_nil, List.mem_cons, List.not_mem_nil, or_false] at hw
  rcases hw with rfl | rfl | rfl | rfl
  · exact q1
  · exact q2
  · exact q3
  · exact q4
theorem vokU {own C owner : String} {idx na j : Nat} {x y : MethodName} (hy : (mt j).1 = y) (h1 : y = ⟨owner, x.name, x.desc⟩) (h2 : notMH owner) (h3 : arOK na x) (q1 : Cond.methodLink own idx x ∈ TB) (q2 : Cond.sameMethod x.cls owner x.name x.desc ∈ TB) (q3 : Cond.selects C x y ∈ TB) (q4 : Cond.instanceMethod y ∈ TB) (q5 : Cond.initialized y.cls ∈ TB) : VOK TB mt own idx na C j := by
  subst hy
  refine Or.inr (Or.inl ⟨x, owner, h1, h2, h3, fun w hw => ?_⟩)
  simp only [va_wsU, List.append_nil, List.mem_cons, List.not_mem_nil, or_false] at hw
  rcases hw with rfl | rfl | rfl | rfl | rfl
  · exact q1
  · exact q2
  · exact q3
  · exact q4
  · exact q5
theorem vokO {own C owner : String} {idx na j : Nat} {x y : MethodName} {b0 : ByteArray} {m0 : Nat} {r0 : Option FieldType} (hy : (mt j).1 = y) (h2 : notMH owner) (h3 : arOK na x) (q1 : Cond.methodLink own idx x ∈ TB) (q2 : Cond.sameMethod x.cls owner x.name x.desc ∈ TB) (q6 : Cond.instanceMethod ⟨owner, x.name, x.desc⟩ ∈ TB) (q3 : Cond.selects C x y ∈ TB) (q4 : Cond.instanceMethod y ∈ TB) (q5 : Cond.initialized y.cls ∈ TB) (q7 : Cond.code ⟨owner, x.name, x.desc⟩ b0 m0 r0 ∈ TB) : VOK TB mt own idx na C j := by
  subst hy
  refine Or.inr (Or.inr ⟨x, owner, h2, h3, fun w hw => ?_, b0, m0, r0, q7⟩)
  simp only [va_wsO, List.append_nil, List.mem_cons, List.not_mem_nil, or_false] at hw
  rcases hw with rfl | rfl | rfl | rfl | rfl | rfl
  · exact q1
  · exact q2
  · exact q6
  · exact q3
  · exact q4
  · exact q5
theorem sok {own : String} {idx na j : Nat} {y : MethodName} (hy : (mt j).1 = y) (h1 : notMH y.cls) (h2 : arOK na y) (q1 : Cond.methodLink own idx y ∈ TB) (q2 : Cond.static y ∈ TB) (q3 : Cond.initialized y.cls ∈ TB) : SOK TB mt own idx na j := by
  subst hy
  exact ⟨h1, h2, q1, q2, q3⟩
theorem uok {own : String} {idx na j : Nat} {y : MethodName} (hy : (mt j).1 = y) (h1 : y.name ≠ "<init>") (h2 : arOK na y) (q1 : Cond.methodLink own idx y ∈ TB) (q2 : Cond.sameMethod y.cls y.cls y.name y.desc ∈ TB) (q3 : Cond.superclass own y.cls ∈ TB) (q4 : Cond.instanceMethod y ∈ TB) (q5 : Cond.initialized y.cls ∈ TB) : UOK TB mt own idx na j := by
  subst hy
  refine Or.inl ⟨h1, h2, fun w hw => ?_⟩
  simp only [va_wsSU, List.append_nil, List.mem_cons, List.not_mem_nil, or_false] at hw
  rcases hw with rfl | rfl | rfl | rfl | rfl
  · exact q1
  · exact q2
  · exact q3
  · exact q4
  · exact q5
theorem uokI {own owner : String} {idx na j : Nat} {x y : MethodName} (hy : (mt j).1 = y) (h0 : y = ⟨owner, x.name, x.desc⟩) (h1 : x.name ≠ "<init>") (h2 : arOK na x) (q1 : Cond.methodLink own idx x ∈ TB) (q2 : Cond.sameMethod x.cls owner x.name x.desc ∈ TB) (q3 : Cond.superclass own x.cls ∈ TB) (q4 : Cond.superclass x.cls owner ∈ TB) (q5 : Cond.instanceMethod y ∈ TB) (q6 : Cond.initialized owner ∈ TB) : UOK TB mt own idx na j := by
  subst hy
  exact Or.inr ⟨x, owner, h0, h1, h2, q1, q2, q3, q4, q5, q6⟩
def P_X0 : Pool := ([(7, 7, 0, [1])],
  [(13, 0, 1, [(0, jX10_begin), (9, jX10_begin)]),
   (19, 2, 1, [(0, jX10_bristles), (9, jX10_bristles)])],
  [], [], [], [])
theorem fld_X0 : FldOK TB nestW vwCl RX0 (P_X0) := List.forall_mem_cons.mpr ⟨List.forall_mem_cons.mpr ⟨Or.inr ⟨RX1, TX1, 11, rfl, by decide, ⟨RX1, Or.inr ⟨RX11, nst_24⟩, Or.inl rfl⟩, Or.inr ⟨rfl, tyX1 7, tyX1_ok 7 (by decide), rfl⟩⟩, fun _ z => absurd z List.not_mem_nil⟩, fun _ z => absurd z List.not_mem_nil⟩
set_option maxRecDepth 4000 in
theorem cpo_X0 : CpOK TB mt vwCl RX0 (P_X0) := List.forall_mem_cons.mpr ⟨Or.inl ⟨rfl, List.forall_mem_cons.mpr ⟨⟨mok_X10_begin, RX0, Or.inr ⟨_, _, rfl⟩, vokU (x := ⟨RX0, "begin", "(I)V"⟩) (y := yX10_begin) rfl rfl nmh_X10 rfl q_95 q_96 q_97 q_98 q_99⟩, List.forall_mem_cons.mpr ⟨⟨mok_X10_begin, RX9, Or.inr ⟨_, _, rfl⟩, vokU (x := ⟨RX0, "begin", "(I)V"⟩) (y := yX10_begin) rfl rfl nmh_X10 rfl q_95 q_96 q_100 q_98 q_99⟩, fun _ z => absurd z List.not_mem_nil⟩⟩⟩, List.forall_mem_cons.mpr ⟨Or.inr (Or.inr (Or.inl ⟨rfl, List.forall_mem_cons.mpr ⟨⟨mok_X10_bristles, ⟨_, _, _, rfl⟩, uok (y := yX10_bristles) rfl (by decide +kernel) rfl q_101 q_102 q_103 q_104 q_99⟩, List.forall_mem_cons.mpr ⟨⟨mok_X10_bristles, ⟨_, _, _, rfl⟩, uok (y := yX10_bristles) rfl (by decide +kernel) rfl q_101 q_102 q_103 q_104 q_99⟩, fun _ z => absurd z List.not_mem_nil⟩⟩⟩)), fun _ z => absurd z List.not_mem_nil⟩⟩
theorem far_X0 (fv : Value) : FarOK TB (XR fv) RX0 (P_X0) := ⟨farN (by decide +kernel), fun _ z => absurd z List.not_mem_nil, fun _ z => absurd z List.not_mem_nil, fun _ z => absurd z List.not_mem_nil⟩
theorem tab_X0 {fv : Value} (h : FV fv) : TabOK TB mt vwCl (XR fv) RX0 (P_X0) := ⟨by decide, XR_ok h, XR_str, TB_ok, cls_ok, fld_X0, far_X0 fv, cpo_X0⟩
def P_X1 : Pool := ([(12, 0, 9, [1]), (36, 1, 9, [1]), (40, 2, 9, [1]), (56, 2, 9, [7]), (65, 7, 0, [7]), (77, 10, 1, [1]), (80, 4, 0, [1]), (97, 3, 0, [4]), (100, 3, 0, [1]), (103, 0, 9, [7]), (106, 1, 9, [7]), (109, 5, 0, [1]), (111, 6, 0, [1]), (114, 7, 0, [1]), (117, 8, 0, [1]), (120, 3, 9, [7]), (123, 9, 0, [1])],
  [(44, 1, 2, [(0, jJ7_fill_53178)]),
   (50, 0, 1, [(7, jX7_has)]),
   (59, 1, 1, [(0, jJ6_bitCount_0f7a4)]),
   (69, 0, 3, [(1, jX1_weigh)]),
   (73, 0, 3, [(1, jX1_look)]),
   (83, 0, 1, [(1, jX1_kindOf)]),
   (87, 0, 1, [(4, jX4_sum)]),
   (93, 0, 2, [(0, jX0_heed), (2, jX2_heed), (3, jX3_heed), (5, jX5_heed), (6, jX6_heed), (9, jX9_heed), (10, jX10_heed)])],
  [], [], [], [])
theorem fld_X1 : FldOK TB nestW vwCl RX1 (P_X1) := List.forall_mem_cons.mpr ⟨List.forall_mem_cons.mpr ⟨Or.inr ⟨RX1, TX1, 11, rfl, by decide, ⟨RX1, Or.inl q_105, Or.inl rfl⟩, Or.inl rfl⟩, fun _ z => absurd z List.not_mem_nil⟩, List.forall_mem_cons.mpr ⟨List.forall_mem_cons.mpr ⟨Or.inr ⟨RX1, TX1, 11, rfl, by decide, ⟨RX1, Or.inl q_106, Or.inl rfl⟩, Or.inl rfl⟩, fun _ z => absurd z List.not_mem_nil⟩, List.forall_mem_cons.mpr ⟨List.forall_mem_cons.mpr ⟨Or.inr ⟨RX1, TX1, 11, rfl, by decide, ⟨RX1, Or.inl q_107, Or.inl rfl⟩, Or.inl rfl⟩, fun _ z => absurd z List.not_mem_nil⟩, List.forall_mem_cons.mpr ⟨List.forall_mem_cons.mpr ⟨Or.inr ⟨RX7, TX7, 14, rfl, by decide, ⟨RX7, Or.inl q_115, Or.inl rfl⟩, Or.inl rfl⟩, fun _ z => absurd z List.not_mem_nil⟩, List.forall_mem_cons.mpr ⟨List.forall_mem_cons.mpr ⟨Or.inr ⟨RX7, TX7, 14, rfl, by decide, ⟨RX7, Or.inl q_119, Or.inl rfl⟩, Or.inr ⟨rfl, tyX7 7, tyX7_ok 7 (by decide), rfl⟩⟩, fun _ z => absurd z List.not_mem_nil⟩, List.forall_mem_cons.mpr ⟨List.forall_mem_cons.mpr ⟨Or.inr ⟨RX1, TX1, 11, rfl, by decide, ⟨RX1, Or.inl q_127, Or.inl rfl⟩, Or.inr ⟨rfl, tyX1 10, tyX1_ok 10 (by decide), rfl⟩⟩, fun _ z => absurd z List.not_mem_nil⟩, List.forall_mem_cons.mpr ⟨List.forall_mem_cons.mpr ⟨Or.inr ⟨RX1, TX1, 11, rfl, by decide, ⟨RX1, Or.inl q_128, Or.inl rfl⟩, Or.inr ⟨rfl, tyX1 4, tyX1_ok 4 (by decide), rfl⟩⟩, fun _ z => absurd z List.not_mem_nil⟩, List.forall_mem_cons.mpr ⟨List.forall_mem_cons.mpr ⟨Or.inr ⟨RX4, TX4, 10, rfl, by decide, ⟨RX4, Or.inr ⟨RX11, nst_32⟩, Or.inl rfl⟩, Or.inr ⟨rfl, tyX4 3, tyX4_ok 3 (by decide), rfl⟩⟩, fun _ z => absurd z List.not_mem_nil⟩, List.forall_mem_cons.mpr ⟨List.forall_mem_cons.mpr ⟨Or.inr ⟨RX1, TX1, 11, rfl, by decide, ⟨RX1, Or.inl q_158, Or.inl rfl⟩, Or.inr ⟨rfl, tyX1 3, tyX1_ok 3 (by decide), rfl⟩⟩, fun _ z => absurd z List.not_mem_nil⟩, List.forall_mem_cons.mpr ⟨List.forall_mem_cons.mpr ⟨Or.inr ⟨RX7, TX7, 14, rfl, by decide, ⟨RX7, Or.inl q_159, Or.inl rfl⟩, Or.inl rfl⟩, fun _ z => absurd z List.not_mem_nil⟩, List.forall_mem_cons.mpr ⟨List.forall_mem_cons.mpr ⟨Or.inr ⟨RX7, TX7, 14, rfl, by decide, ⟨RX7, Or.inl q_160, Or.inl rfl⟩, Or.inl rfl⟩, fun _ z => absurd z List.not_mem_nil⟩, List.forall_mem_cons.mpr ⟨List.forall_mem_cons.mpr ⟨Or.inr ⟨RX1, TX1, 11, rfl, by decide, ⟨RX1, Or.inl q_161, Or.inl rfl⟩, Or.inr ⟨rfl, tyX1 5, tyX1_ok 5 (by decide), rfl⟩⟩, fun _ z => absurd z List.not_mem_nil⟩, List.forall_mem_cons.mpr ⟨List.forall_mem_cons.mpr ⟨Or.inr ⟨RX1, TX1, 11, rfl, by decide, ⟨RX1, Or.inl q_162, Or.inl rfl⟩, Or.inr ⟨rfl, tyX1 6, tyX1_ok 6 (by decide), rfl⟩⟩, fun _ z => absurd z List.not_mem_nil⟩, List.forall_mem_cons.mpr ⟨List.forall_mem_cons.mpr ⟨Or.inr ⟨RX1, TX1, 11, rfl, by decide, ⟨RX1, Or.inl q_163, Or.inl rfl⟩, Or.inr ⟨rfl, tyX1 7, tyX1_ok 7 (by decide), rfl⟩⟩, fun _ z => absurd z List.not_mem_nil⟩, List.forall_mem_cons.mpr ⟨List.forall_mem_cons.mpr ⟨Or.inr ⟨RX1, TX1, 11, rfl, by decide, ⟨RX1, Or.inl q_164, Or.inl rfl⟩, Or.inr ⟨rfl, tyX1 8, tyX1_ok 8 (by decide), rfl⟩⟩, fun _ z => absurd z List.not_mem_nil⟩, List.forall_mem_cons.mpr ⟨List.forall_mem_cons.mpr ⟨Or.inr ⟨RX7, TX7, 14, rfl, by decide, ⟨RX7, Or.inl q_165, Or.inl rfl⟩, Or.inl rfl⟩, fun _ z => absurd z List.not_mem_nil⟩, List.forall_mem_cons.mpr ⟨List.forall_mem_cons.mpr ⟨Or.inr ⟨RX1, TX1, 11, rfl, by decide, ⟨RX1, Or.inl q_166, Or.inl rfl⟩, Or.inr ⟨rfl, tyX1 9, tyX1_ok 9 (by decide), rfl⟩⟩, fun _ z => absurd z List.not_mem_nil⟩, fun _ z => absurd z List.not_mem_nil⟩⟩⟩⟩⟩⟩⟩⟩⟩⟩⟩⟩⟩⟩⟩⟩⟩
set_option maxRecDepth 4000 in
theorem cpo_X1 : CpOK TB mt vwCl RX1 (P_X1) := List.forall_mem_cons.mpr ⟨Or.inr (Or.inl ⟨rfl, List.forall_mem_cons.mpr ⟨⟨mok_J7_fill_53178, sok (y := yJ7_fill_53178) rfl nmh_J7 rfl q_108 q_109 q_110⟩, fun _ z => absurd z List.not_mem_nil⟩⟩), List.forall_mem_cons.mpr ⟨Or.inl ⟨rfl, List.forall_mem_cons.mpr ⟨⟨mok_X7_has, RX7, Or.inr ⟨_, _, rfl⟩, vokA (y := yX7_has) rfl rfl nmh_X7 rfl q_111 q_112 q_113 q_114⟩, fun _ z => absurd z List.not_mem_nil⟩⟩, List.forall_mem_cons.mpr ⟨Or.inr (Or.inl ⟨rfl, List.forall_mem_cons.mpr ⟨⟨mok_J6_bitCount_0f7a4, sok (y := yJ6_bitCount_0f7a4) rfl nmh_J6 rfl q_116 q_117 q_118⟩, fun _ z => absurd z List.not_mem_nil⟩⟩), List.forall_mem_cons.mpr ⟨Or.inl ⟨rfl, List.forall_mem_cons.mpr ⟨⟨mok_X1_weigh, RX1, Or.inr ⟨_, _, rfl⟩, vokA (y := yX1_weigh) rfl rfl nmh_X1 rfl q_120 q_121 q_122 q_123⟩, fun _ z => absurd z List.not_mem_nil⟩⟩, List.forall_mem_cons.mpr ⟨Or.inl ⟨rfl, List.forall_mem_cons.mpr ⟨⟨mok_X1_look, RX1, Or.inr ⟨_, _, rfl⟩, vokA (y := yX1_look) rfl rfl nmh_X1 rfl q_124 q_125 q_126 q_123⟩, fun _ z => absurd z List.not_mem_nil⟩⟩, List.forall_mem_cons.mpr ⟨Or.inl ⟨rfl, List.forall_mem_cons.mpr ⟨⟨mok_X1_kindOf, RX1, Or.inr ⟨_, _, rfl⟩, vokA (y := yX1_kindOf) rfl rfl nmh_X1 rfl q_129 q_130 q_131 q_123⟩, fun _ z => absurd z List.not_mem_nil⟩⟩, List.forall_mem_cons.mpr ⟨Or.inl ⟨rfl, List.forall_mem_cons.mpr ⟨⟨mok_X4_sum, RX4, Or.inr ⟨_, _, rfl⟩, vokA (y := yX4_sum) rfl rfl nmh_X4 rfl q_132 q_133 q_134 q_135⟩, fun _ z => absurd z List.not_mem_nil⟩⟩, List.forall_mem_cons.mpr ⟨Or.inl ⟨rfl, List.forall_mem_cons.mpr ⟨⟨mok_X0_heed, RX0, Or.inr ⟨_, _, rfl⟩, vokO (x := yX10_heed) (y := yX0_heed) rfl nmh_X10 rfl q_136 q_137 q_138 q_139 q_140 q_141 cw_X10_heed⟩, List.forall_mem_cons.mpr ⟨⟨mok_X2_heed, RX2, Or.inr ⟨_, _, rfl⟩, vokO (x := yX10_heed) (y := yX2_heed) rfl nmh_X10 rfl q_136 q_137 q_138 q_142 q_143 q_144 cw_X10_heed⟩, List.forall_mem_cons.mpr ⟨⟨mok_X3_heed, RX3, Or.inr ⟨_, _, rfl⟩, vokO (x := yX10_heed) (y := yX3_heed) rfl nmh_X10 rfl q_136 q_137 q_138 q_145 q_146 q_147 cw_X10_heed⟩, List.forall_mem_cons.mpr ⟨⟨mok_X5_heed, RX5, Or.inr ⟨_, _, rfl⟩, vokO (x := yX10_heed) (y := yX5_heed) rfl nmh_X10 rfl q_136 q_137 q_138 q_148 q_149 q_150 cw_X10_heed⟩, List.forall_mem_cons.mpr ⟨⟨mok_X6_heed, RX6, Or.inr ⟨_, _, rfl⟩, vokO (x := yX10_heed) (y := yX6_heed) rfl nmh_X10 rfl q_136 q_137 q_138 q_151 q_152 q_153 cw_X10_heed⟩, List.forall_mem_cons.mpr ⟨⟨mok_X9_heed, RX9, Or.inr ⟨_, _, rfl⟩, vokO (x := yX10_heed) (y := yX9_heed) rfl nmh_X10 rfl q_136 q_137 q_138 q_154 q_155 q_156 cw_X10_heed⟩, List.forall_mem_cons.mpr ⟨⟨mok_X10_heed, RX10, Or.inr ⟨_, _, rfl⟩, vokA (y := yX10_heed) rfl rfl nmh_X10 rfl q_136 q_138 q_157 q_99⟩, fun _ z => absurd z List.not_mem_nil⟩⟩⟩⟩⟩⟩⟩⟩, fun _ z => absurd z List.not_mem_nil⟩⟩⟩⟩⟩⟩⟩⟩
theorem far_X1 (fv : Value) : FarOK TB (XR fv) RX1 (P_X1) := ⟨farN (by decide +kernel), fun _ z => absurd z List.not_mem_nil, fun _ z => absurd z List.not_mem_nil, fun _ z => absurd z List.not_mem_nil⟩
theorem tab_X1 {fv : Value} (h : FV fv) : TabOK TB mt vwCl (XR fv) RX1 (P_X1) := ⟨by decide, XR_ok h, XR_str, TB_ok, cls_ok, fld_X1, far_X1 fv, cpo_X1⟩
def P_X2 : Pool := ([],
  [(7, 0, 1, [(2, jX10_begin), (6, jX10_begin)]),
   (13, 2, 1, [(2, jX10_says), (6, jX10_says)])],
  [], [], [], [])
theorem fld_X2 : FldOK TB nestW vwCl RX2 (P_X2) := fun _ z => absurd z List.not_mem_nil
set_option maxRecDepth 4000 in
theorem cpo_X2 : CpOK TB mt vwCl RX2 (P_X2) := List.forall_mem_cons.mpr ⟨Or.inl ⟨rfl, List.forall_mem_cons.mpr ⟨⟨mok_X10_begin, RX2, Or.inr ⟨_, _, rfl⟩, vokU (x := ⟨RX2, "begin", "(I)V"⟩) (y := yX10_begin) rfl rfl nmh_X10 rfl q_167 q_168 q_169 q_98 q_99⟩, List.forall_mem_cons.mpr ⟨⟨mok_X10_begin, RX6, Or.inr ⟨_, _, rfl⟩, vokU (x := ⟨RX2, "begin", "(I)V"⟩) (y := yX10_begin) rfl rfl nmh_X10 rfl q_167 q_168 q_170 q_98 q_99⟩, fun _ z => absurd z List.not_mem_nil⟩⟩⟩, List.forall_mem_cons.mpr ⟨Or.inr (Or.inr (Or.inl ⟨rfl, List.forall_mem_cons.mpr ⟨⟨mok_X10_says, ⟨_, _, _, rfl⟩, uok (y := yX10_says) rfl (by decide +kernel) rfl q_171 q_172 q_173 q_174 q_99⟩, List.forall_mem_cons.mpr ⟨⟨mok_X10_says, ⟨_, _, _, rfl⟩, uok (y := yX10_says) rfl (by decide +kernel) rfl q_171 q_172 q_173 q_174 q_99⟩, fun _ z => absurd z List.not_mem_nil⟩⟩⟩)), fun _ z => absurd z List.not_mem_nil⟩⟩
theorem far_X2 (fv : Value) : FarOK TB (XR fv) RX2 (P_X2) := ⟨fun _ z => absurd z List.not_mem_nil, fun _ z => absurd z List.not_mem_nil, fun _ z => absurd z List.not_mem_nil, fun _ z => absurd z List.not_mem_nil⟩
theorem tab_X2 {fv : Value} (h : FV fv) : TabOK TB mt vwCl (XR fv) RX2 (P_X2) := ⟨by decide, XR_ok h, XR_str, TB_ok, cls_ok, fld_X2, far_X2 fv, cpo_X2⟩
def P_X3 : Pool := ([(7, 5, 0, [1])],
  [(13, 0, 1, [(3, jX10_begin), (5, jX10_begin)]),
   (19, 2, 1, [(3, jX10_leans), (5, jX10_leans)])],
  [], [], [], [])
theorem fld_X3 : FldOK TB nestW vwCl RX3 (P_X3) := List.forall_mem_cons.mpr ⟨List.forall_mem_cons.mpr ⟨Or.inr ⟨RX1, TX1, 11, rfl, by decide, ⟨RX1, Or.inr ⟨RX11, nst_20⟩, Or.inl rfl⟩, Or.inr ⟨rfl, tyX1 5, tyX1_ok 5 (by decide), rfl⟩⟩, fun _ z => absurd z List.not_mem_nil⟩, fun _ z => absurd z List.not_mem_nil⟩
set_option maxRecDepth 4000 in
theorem cpo_X3 : CpOK TB mt vwCl RX3 (P_X3) := List.forall_mem_cons.mpr ⟨Or.inl ⟨rfl, List.forall_mem_cons.mpr ⟨⟨mok_X10_begin, RX3, Or.inr ⟨_, _, rfl⟩, vokU (x := ⟨RX3, "begin", "(I)V"⟩) (y := yX10_begin) rfl rfl nmh_X10 rfl q_175 q_176 q_177 q_98 q_99⟩, List.forall_mem_cons.mpr ⟨⟨mok_X10_begin, RX5, Or.inr ⟨_, _, rfl⟩, vokU (x := ⟨RX3, "begin", "(I)V"⟩) (y := yX10_begin) rfl rfl nmh_X10 rfl q_175 q_176 q_178 q_98 q_99⟩, fun _ z => absurd z List.not_mem_nil⟩⟩⟩, List.forall_mem_cons.mpr ⟨Or.inr (Or.inr (Or.inl ⟨rfl, List.forall_mem_cons.mpr ⟨⟨mok_X10_leans, ⟨_, _, _, rfl⟩, uok (y := yX10_leans) rfl (by decide +kernel) rfl q_179 q_180 q_181 q_182 q_99⟩, List.forall_mem_cons.mpr ⟨⟨mok_X10_leans, ⟨_, _, _, rfl⟩, uok (y := yX10_leans) rfl (by decide +kernel) rfl q_179 q_180 q_181 q_182 q_99⟩, fun _ z => absurd z List.not_mem_nil⟩⟩⟩)), fun _ z => absurd z List.not_mem_nil⟩⟩
theorem far_X3 (fv : Value) : FarOK TB (XR fv) RX3 (P_X3) := ⟨farN (by decide +kernel), fun _ z => absurd z List.not_mem_nil, fun _ z => absurd z List.not_mem_nil, fun _ z => absurd z List.not_mem_nil⟩
theorem tab_X3 {fv : Value} (h : FV fv) : TabOK TB mt vwCl (XR fv) RX3 (P_X3) := ⟨by decide, XR_ok h, XR_str, TB_ok, cls_ok, fld_X3, far_X3 fv, cpo_X3⟩
def P_X4 : Pool := ([(9, 0, 9, [4]), (15, 2, 0, [4]), (19, 3, 0, [4]), (22, 4, 2, [4]), (26, 5, 0, [4]), (29, 6, 0, [4]), (32, 1, 0, [4]), (42, 7, 0, [4]), (60, 9, 0, [4]), (86, 8, 0, [4]), (122, 3, 0, [1]), (127, 4, 0, [1]), (130, 5, 0, [1]), (133, 6, 0, [1]), (136, 7, 0, [1]), (139, 8, 0, [1])],
  [(35, 0, 0, [(4, jX4_advance)]),
   (38, 0, 0, [(4, jX4_readClause)]),
   (45, 0, 1, [(4, jX4_take)]),
   (49, 1, 1, [(0, jX4_wordOf)]),
   (53, 0, 1, [(4, jX4_takeWord)]),
   (57, 0, 0, [(4, jX4_readNumber)]),
   (63, 0, 1, [(4, jX4_readEither)]),
   (66, 0, 1, [(4, jX4_put)]),
   (77, 0, 1, [(4, jX4_readBoth)]),
   (80, 0, 1, [(4, jX4_readPart)]),
   (83, 0, 0, [(4, jX4_readTest)]),
   (91, 1, 2, [(0, jX4_placeOf)]),
   (97, 0, 1, [(50, jJ0_indexOf_0f7a4)]),
   (103, 1, 1, [(0, jX4_isDigit)]),
   (106, 0, 0, [(50, jJ0_length_8abf5)]),
   (110, 0, 1, [(50, jJ0_charAt_5068e)]),
   (114, 1, 2, [(0, jX4_holds)]),
   (118, 1, 2, [(0, jX4_joined)])],
  [(69, .ref 1000), (71, .ref 1001), (73, .ref 1002), (75, .ref 1003), (89, .ref 1004), (95, .ref 1005)], [], [], [])
theorem fld_X4 : FldOK TB nestW vwCl RX4 (P_X4) := List.forall_mem_cons.mpr ⟨List.forall_mem_cons.mpr ⟨Or.inr ⟨RX4, TX4, 10, rfl, by decide, ⟨RX4, Or.inl q_183, Or.inl rfl⟩, Or.inl rfl⟩, fun _ z => absurd z List.not_mem_nil⟩, List.forall_mem_cons.mpr ⟨List.forall_mem_cons.mpr ⟨Or.inr ⟨RX4, TX4, 10, rfl, by decide, ⟨RX4, Or.inl q_184, Or.inl rfl⟩, Or.inr ⟨rfl, tyX4 2, tyX4_ok 2 (by decide), rfl⟩⟩, fun _ z => absurd z List.not_mem_nil⟩, List.forall_mem_cons.mpr ⟨List.forall_mem_cons.mpr ⟨Or.inr ⟨RX4, TX4, 10, rfl, by decide, ⟨RX4, Or.inl q_185, Or.inl rfl⟩, Or.inr ⟨rfl, tyX4 3, tyX4_ok 3 (by decide), rfl⟩⟩, fun _ z => absurd z List.not_mem_nil⟩, List.forall_mem_cons.mpr ⟨List.forall_mem_cons.mpr ⟨Or.inr ⟨RX4, TX4, 10, rfl, by decide, ⟨RX4, Or.inl q_186, Or.inl rfl⟩, Or.inr ⟨rfl, tyX4 4, tyX4_ok 4 (by decide), Or.inr ⟨_, rfl⟩⟩⟩, fun _ z => absurd z List.not_mem_nil⟩, List.forall_mem_cons.mpr ⟨List.forall_mem_cons.mpr ⟨Or.inr ⟨RX4, TX4, 10, rfl, by decide, ⟨RX4, Or.inl q_187, Or.inl rfl⟩, Or.inr ⟨rfl, tyX4 5, tyX4_ok 5 (by decide), rfl⟩⟩, fun _ z => absurd z List.not_mem_nil⟩, List.forall_mem_cons.mpr ⟨List.forall_mem_cons.mpr ⟨Or.inr ⟨RX4, TX4, 10, rfl, by decide, ⟨RX4, Or.inl q_188, Or.inl rfl⟩, Or.inr ⟨rfl, tyX4 6, tyX4_ok 6 (by decide), rfl⟩⟩, fun _ z => absurd z List.not_mem_nil⟩, List.forall_mem_cons.mpr ⟨List.forall_mem_cons.mpr ⟨Or.inr ⟨RX4, TX4, 10, rfl, by decide, ⟨RX4, Or.inl q_189, Or.inl rfl⟩, Or.inr ⟨rfl, tyX4 1, tyX4_ok 1 (by decide), rfl⟩⟩, fun _ z => absurd z List.not_mem_nil⟩, List.forall_mem_cons.mpr ⟨List.forall_mem_cons.mpr ⟨Or.inr ⟨RX4, TX4, 10, rfl, by decide, ⟨RX4, Or.inl q_196, Or.inl rfl⟩, Or.inr ⟨rfl, tyX4 7, tyX4_ok 7 (by decide), rfl⟩⟩, fun _ z => absurd z List.not_mem_nil⟩, List.forall_mem_cons.mpr ⟨List.forall_mem_cons.mpr ⟨Or.inr ⟨RX4, TX4, 10, rfl, by decide, ⟨RX4, Or.inl q_208, Or.inl rfl⟩, Or.inr ⟨rfl, tyX4 9, tyX4_ok 9 (by decide), rfl⟩⟩, fun _ z => absurd z List.not_mem_nil⟩, List.forall_mem_cons.mpr ⟨List.forall_mem_cons.mpr ⟨Or.inr ⟨RX4, TX4, 10, rfl, by decide, ⟨RX4, Or.inl q_224, Or.inl rfl⟩, Or.inr ⟨rfl, tyX4 8, tyX4_ok 8 (by decide), rfl⟩⟩, fun _ z => absurd z List.not_mem_nil⟩, List.forall_mem_cons.mpr ⟨List.forall_mem_cons.mpr ⟨Or.inr ⟨RX1, TX1, 11, rfl, by decide, ⟨RX1, Or.inr ⟨RX11, nst_18⟩, Or.inl rfl⟩, Or.inr ⟨rfl, tyX1 3, tyX1_ok 3 (by decide), rfl⟩⟩, fun _ z => absurd z List.not_mem_nil⟩, List.forall_mem_cons.mpr ⟨List.forall_mem_cons.mpr ⟨Or.inr ⟨RX1, TX1, 11, rfl, by decide, ⟨RX1, Or.inr ⟨RX11, nst_19⟩, Or.inl rfl⟩, Or.inr ⟨rfl, tyX1 4, tyX1_ok 4 (by decide), rfl⟩⟩, fun _ z => absurd z List.not_mem_nil⟩, List.forall_mem_cons.mpr ⟨List.forall_mem_cons.mpr ⟨Or.inr ⟨RX1, TX1, 11, rfl, by decide, ⟨RX1, Or.inr ⟨RX11, nst_22⟩, Or.inl rfl⟩, Or.inr ⟨rfl, tyX1 5, tyX1_ok 5 (by decide), rfl⟩⟩, fun _ z => absurd z List.not_mem_nil⟩, List.forall_mem_cons.mpr ⟨List.forall_mem_cons.mpr ⟨Or.inr ⟨RX1, TX1, 11, rfl, by decide, ⟨RX1, Or.inr ⟨RX11, nst_23⟩, Or.inl rfl⟩, Or.inr ⟨rfl, tyX1 6, tyX1_ok 6 (by decide), rfl⟩⟩, fun _ z => absurd z List.not_mem_nil⟩, List.forall_mem_cons.mpr ⟨List.forall_mem_cons.mpr ⟨Or.inr ⟨RX1, TX1, 11, rfl, by decide, ⟨RX1, Or.inr ⟨RX11, nst_25⟩, Or.inl rfl⟩, Or.inr ⟨rfl, tyX1 7, tyX1_ok 7 (by decide), rfl⟩⟩, fun _ z => absurd z List.not_mem_nil⟩, List.forall_mem_cons.mpr ⟨List.forall_mem_cons.mpr ⟨Or.inr ⟨RX1, TX1, 11, rfl, by decide, ⟨RX1, Or.inr ⟨RX11, nst_26⟩, Or.inl rfl⟩, Or.inr ⟨rfl, tyX1 8, tyX1_ok 8 (by decide), rfl⟩⟩, fun _ z => absurd z List.not_mem_nil⟩, fun _ z => absurd z List.not_mem_nil⟩⟩⟩⟩⟩⟩⟩⟩⟩⟩⟩⟩⟩⟩⟩⟩
set_option maxRecDepth 4000 in
theorem cpo_X4 : CpOK TB mt vwCl RX4 (P_X4) := List.forall_mem_cons.mpr ⟨Or.inl ⟨rfl, List.forall_mem_cons.mpr ⟨⟨mok_X4_advance, RX4, Or.inr ⟨_, _, rfl⟩, vokA (y := yX4_advance) rfl rfl nmh_X4 rfl q_190 q_191 q_192 q_135⟩, fun _ z => absurd z List.not_mem_nil⟩⟩, List.forall_mem_cons.mpr ⟨Or.inl ⟨rfl, List.forall_mem_cons.mpr ⟨⟨mok_X4_readClause, RX4, Or.inr ⟨_, _, rfl⟩, vokA (y := yX4_readClause) rfl rfl nmh_X4 rfl q_193 q_194 q_195 q_135⟩, fun _ z => absurd z List.not_mem_nil⟩⟩, List.forall_mem_cons.mpr ⟨Or.inl ⟨rfl, List.forall_mem_cons.mpr ⟨⟨mok_X4_take, RX4, Or.inr ⟨_, _, rfl⟩, vokA (y := yX4_take) rfl rfl nmh_X4 rfl q_197 q_198 q_199 q_135⟩, fun _ z => absurd z List.not_mem_nil⟩⟩, List.forall_mem_cons.mpr ⟨Or.inr (Or.inl ⟨rfl, List.forall_mem_cons.mpr ⟨⟨mok_X4_wordOf, sok (y := yX4_wordOf) rfl nmh_X4 rfl q_200 q_201 q_135⟩, fun _ z => absurd z List.not_mem_nil⟩⟩), List.forall_mem_cons.mpr ⟨Or.inl ⟨rfl, List.forall_mem_cons.mpr ⟨⟨mok_X4_takeWord, RX4, Or.inr ⟨_, _, rfl⟩, vokA (y := yX4_takeWord) rfl rfl nmh_X4 rfl q_202 q_203 q_204 q_135⟩, fun _ z => absurd z List.not_mem_nil⟩⟩, List.forall_mem_cons.mpr ⟨Or.inl ⟨rfl, List.forall_mem_cons.mpr ⟨⟨mok_X4_readNumber, RX4, Or.inr ⟨_, _, rfl⟩, vokA (y := yX4_readNumber) rfl rfl nmh_X4 rfl q_205 q_206 q_207 q_135⟩, fun _ z => absurd z List.not_mem_nil⟩⟩, List.forall_mem_cons.mpr ⟨Or.inl ⟨rfl, List.forall_mem_cons.mpr ⟨⟨mok_X4_readEither, RX4, Or.inr ⟨_, _, rfl⟩, vokA (y := yX4_readEither) rfl rfl nmh_X4 rfl q_209 q_210 q_211 q_135⟩, fun _ z => absurd z List.not_mem_nil⟩⟩, List.forall_mem_cons.mpr ⟨Or.inl ⟨rfl, List.forall_mem_cons.mpr ⟨⟨mok_X4_put, RX4, Or.inr ⟨_, _, rfl⟩, vokA (y := yX4_put) rfl rfl nmh_X4 rfl q_212 q_213 q_214 q_135⟩, fun _ z => absurd z List.not_mem_nil⟩⟩, List.forall_mem_cons.mpr ⟨Or.inl ⟨rfl, List.forall_mem_cons.mpr ⟨⟨mok_X4_readBoth, RX4, Or.inr ⟨_, _, rfl⟩, vokA (y := yX4_readBoth) rfl rfl nmh_X4 rfl q_215 q_216 q_217 q_135⟩, fun _ z => absurd z List.not_mem_nil⟩⟩, List.forall_mem_cons.mpr ⟨Or.inl ⟨rfl, List.forall_mem_cons.mpr ⟨⟨mok_X4_readPart, RX4, Or.inr ⟨_, _, rfl⟩, vokA (y := yX4_readPart) rfl rfl nmh_X4 rfl q_218 q_219 q_220 q_135⟩, fun _ z => absurd z List.not_mem_nil⟩⟩, List.forall_mem_cons.mpr ⟨Or.inl ⟨rfl, List.forall_mem_cons.mpr ⟨⟨mok_X4_readTest, RX4, Or.inr ⟨_, _, rfl⟩, vokA (y := yX4_readTest) rfl rfl nmh_X4 rfl q_221 q_222 q_223 q_135⟩, fun _ z => absurd z List.not_mem_nil⟩⟩, List.forall_mem_cons.mpr ⟨Or.inr (Or.inl ⟨rfl, List.forall_mem_cons.mpr ⟨⟨mok_X4_placeOf, sok (y := yX4_placeOf) rfl nmh_X4 rfl q_225 q_226 q_135⟩, fun _ z => absurd z List.not_mem_nil⟩⟩), List.forall_mem_cons.mpr ⟨Or.inl ⟨rfl, List.forall_mem_cons.mpr ⟨⟨mok_J0_indexOf_0f7a4, RJ0, Or.inl ⟨rfl, rfl⟩, vokA (y := yJ0_indexOf_0f7a4) rfl rfl nmh_J0 rfl q_227 q_228 q_229 q_230⟩, fun _ z => absurd z List.not_mem_nil⟩⟩, List.forall_mem_cons.mpr ⟨Or.inr (Or.inl ⟨rfl, List.forall_mem_cons.mpr ⟨⟨mok_X4_isDigit, sok (y := yX4_isDigit) rfl nmh_X4 rfl q_231 q_232 q_135⟩, fun _ z => absurd z List.not_mem_nil⟩⟩), List.forall_mem_cons.mpr ⟨Or.inl ⟨rfl, List.forall_mem_cons.mpr ⟨⟨mok_J0_length_8abf5, RJ0, Or.inl ⟨rfl, rfl⟩, vokA (y := yJ0_length_8abf5) rfl rfl nmh_J0 rfl q_233 q_234 q_235 q_230⟩, fun _ z => absurd z List.not_mem_nil⟩⟩, List.forall_mem_cons.mpr ⟨Or.inl ⟨rfl, List.forall_mem_cons.mpr ⟨⟨mok_J0_charAt_5068e, RJ0, Or.inl ⟨rfl, rfl⟩, vokA (y := yJ0_charAt_5068e) rfl rfl nmh_J0 rfl q_236 q_237 q_238 q_230⟩, fun _ z => absurd z List.not_mem_nil⟩⟩, List.forall_mem_cons.mpr ⟨Or.inr (Or.inl ⟨rfl, List.forall_mem_cons.mpr ⟨⟨mok_X4_holds, sok (y := yX4_holds) rfl nmh_X4 rfl q_239 q_240 q_135⟩, fun _ z => absurd z List.not_mem_nil⟩⟩), List.forall_mem_cons.mpr ⟨Or.inr (Or.inl ⟨rfl, List.forall_mem_cons.mpr ⟨⟨mok_X4_joined, sok (y := yX4_joined) rfl nmh_X4 rfl q_241 q_242 q_135⟩, fun _ z => absurd z List.not_mem_nil⟩⟩), fun _ z => absurd z List.not_mem_nil⟩⟩⟩⟩⟩⟩⟩⟩⟩⟩⟩⟩⟩⟩⟩⟩⟩⟩
theorem far_X4 (fv : Value) : FarOK TB (XR fv) RX4 (P_X4) := ⟨farN (by decide +kernel), fun _ z => absurd z List.not_mem_nil, List.forall_mem_cons.mpr ⟨⟨_, List.mem_cons_self⟩, List.forall_mem_cons.mpr ⟨⟨_, List.mem_cons_of_mem _ (List.mem_cons_self)⟩, List.forall_mem_cons.mpr ⟨⟨_, List.mem_cons_of_mem _ (List.mem_cons_of_mem _ (List.mem_cons_self))⟩, List.forall_mem_cons.mpr ⟨⟨_, List.mem_cons_of_mem _ (List.mem_cons_of_mem _ (List.mem_cons_of_mem _ (List.mem_cons_self)))⟩, List.forall_mem_cons.mpr ⟨⟨_, List.mem_cons_of_mem _ (List.mem_cons_of_mem _ (List.mem_cons_of_mem _ (List.mem_cons_of_mem _ (List.mem_cons_self))))⟩, List.forall_mem_cons.mpr ⟨⟨_, List.mem_cons_of_mem _ (List.mem_cons_of_mem _ (List.mem_cons_of_mem _ (List.mem_cons_of_mem _ (List.mem_cons_of_mem _ (List.mem_cons_self)))))⟩, fun _ z => absurd z List.not_mem_nil⟩⟩⟩⟩⟩⟩, fun _ z => absurd z List.not_mem_nil⟩
theorem tab_X4 {fv : Value} (h : FV fv) : TabOK TB mt vwCl (XR fv) RX4 (P_X4) := ⟨by decide, XR_ok h, XR_str, TB_ok, cls_ok, fld_X4, far_X4 fv, cpo_X4⟩
def P_X5 : Pool := ([(11, 10, 1, [1])],
  [(7, 2, 2, [(5, jX3_heed)]),
   (17, 0, 1, [(5, jX10_begin)]),
   (23, 2, 1, [(5, jX10_bristles)]),
   (27, 0, 1, [(5, jX3_leans)])],
  [], [], [], [])
theorem fld_X5 : FldOK TB nestW vwCl RX5 (P_X5) := List.forall_mem_cons.mpr ⟨List.forall_mem_cons.mpr ⟨Or.inr ⟨RX1, TX1, 11, rfl, by decide, ⟨RX1, Or.inr ⟨RX11, nst_28⟩, Or.inl rfl⟩, Or.inr ⟨rfl, tyX1 10, tyX1_ok 10 (by decide), rfl⟩⟩, fun _ z => absurd z List.not_mem_nil⟩, fun _ z => absurd z List.not_mem_nil⟩
set_option maxRecDepth 4000 in
theorem cpo_X5 : CpOK TB mt vwCl RX5 (P_X5) := List.forall_mem_cons.mpr ⟨Or.inr (Or.inr (Or.inl ⟨rfl, List.forall_mem_cons.mpr ⟨⟨mok_X3_heed, ⟨_, _, _, rfl⟩, uok (y := yX3_heed) rfl (by decide +kernel) rfl q_243 q_244 q_245 q_146 q_147⟩, fun _ z => absurd z List.not_mem_nil⟩⟩)), List.forall_mem_cons.mpr ⟨Or.inl ⟨rfl, List.forall_mem_cons.mpr ⟨⟨mok_X10_begin, RX5, Or.inr ⟨_, _, rfl⟩, vokU (x := ⟨RX5, "begin", "(I)V"⟩) (y := yX10_begin) rfl rfl nmh_X10 rfl q_246 q_247 q_248 q_98 q_99⟩, fun _ z => absurd z List.not_mem_nil⟩⟩, List.forall_mem_cons.mpr ⟨Or.inr (Or.inr (Or.inl ⟨rfl, List.forall_mem_cons.mpr ⟨⟨mok_X10_bristles, ⟨_, _, _, rfl⟩, uokI (x := ⟨RX3, "bristles", "(I)I"⟩) (y := yX10_bristles) rfl rfl (by decide +kernel) rfl q_249 q_250 q_245 q_181 q_104 q_99⟩, fun _ z => absurd z List.not_mem_nil⟩⟩)), List.forall_mem_cons.mpr ⟨Or.inl ⟨rfl, List.forall_mem_cons.mpr ⟨⟨mok_X3_leans, RX5, Or.inr ⟨_, _, rfl⟩, vokU (x := ⟨RX5, "leans", "(I)I"⟩) (y := yX3_leans) rfl rfl nmh_X3 rfl q_251 q_252 q_253 q_254 q_147⟩, fun _ z => absurd z List.not_mem_nil⟩⟩, fun _ z => absurd z List.not_mem_nil⟩⟩⟩⟩
theorem far_X5 (fv : Value) : FarOK TB (XR fv) RX5 (P_X5) := ⟨farN (by decide +kernel), fun _ z => absurd z List.not_mem_nil, fun _ z => absurd z List.not_mem_nil, fun _ z => absurd z List.not_mem_nil⟩
theorem tab_X5 {fv : Value} (h : FV fv) : TabOK TB mt vwCl (XR fv) RX5 (P_X5) := ⟨by decide, XR_ok h, XR_str, TB_ok, cls_ok, fld_X5, far_X5 fv, cpo_X5⟩
def P_X6 : Pool := ([(11, 5, 0, [1]), (27, 2, 0, [0, 2, 3, 5, 6, 9, 10])],
  [(7, 2, 2, [(6, jX2_heed)]),
   (17, 0, 1, [(6, jX10_begin)]),
   (23, 2, 1, [(6, jX10_leans)])],
  [], [], [], [])
theorem fld_X6 : FldOK TB nestW vwCl RX6 (P_X6) := List.forall_mem_cons.mpr ⟨List.forall_mem_cons.mpr ⟨Or.inr ⟨RX1, TX1, 11, rfl, by decide, ⟨RX1, Or.inr ⟨RX11, nst_21⟩, Or.inl rfl⟩, Or.inr ⟨rfl, tyX1 5, tyX1_ok 5 (by decide), rfl⟩⟩, fun _ z => absurd z List.not_mem_nil⟩, List.forall_mem_cons.mpr ⟨List.forall_mem_cons.mpr ⟨Or.inr ⟨RX0, TX0, 4, rfl, by decide, ⟨RX6, Or.inl q_263, Or.inr q_264⟩, Or.inr ⟨rfl, tyX0 2, tyX0_ok 2 (by decide), rfl⟩⟩, List.forall_mem_cons.mpr ⟨Or.inr ⟨RX2, TX2, 4, rfl, by decide, ⟨RX6, Or.inl q_263, Or.inr q_264⟩, Or.inr ⟨rfl, tyX2 2, tyX2_ok 2 (by decide), rfl⟩⟩, List.forall_mem_cons.mpr ⟨Or.inr ⟨RX3, TX3, 4, rfl, by decide, ⟨RX6, Or.inl q_263, Or.inr q_264⟩, Or.inr ⟨rfl, tyX3 2, tyX3_ok 2 (by decide), rfl⟩⟩, List.forall_mem_cons.mpr ⟨Or.inr ⟨RX5, TX5, 4, rfl, by decide, ⟨RX6, Or.inl q_263, Or.inr q_264⟩, Or.inr ⟨rfl, tyX5 2, tyX5_ok 2 (by decide), rfl⟩⟩, List.forall_mem_cons.mpr ⟨Or.inr ⟨RX6, TX6, 4, rfl, by decide, ⟨RX6, Or.inl q_263, Or.inr q_264⟩, Or.inr ⟨rfl, tyX6 2, tyX6_ok 2 (by decide), rfl⟩⟩, List.forall_mem_cons.mpr ⟨Or.inr ⟨RX9, TX9, 4, rfl, by decide, ⟨RX6, Or.inl q_263, Or.inr q_264⟩, Or.inr ⟨rfl, tyX9 2, tyX9_ok 2 (by decide), rfl⟩⟩, List.forall_mem_cons.mpr ⟨Or.inr ⟨RX10, TX10, 4, rfl, by decide, ⟨RX6, Or.inl q_263, Or.inr q_264⟩, Or.inr ⟨rfl, tyX10 2, tyX10_ok 2 (by decide), rfl⟩⟩, fun _ z => absurd z List.not_mem_nil⟩⟩⟩⟩⟩⟩⟩, fun _ z => absurd z List.not_mem_nil⟩⟩
set_option maxRecDepth 4000 in
theorem cpo_X6 : CpOK TB mt vwCl RX6 (P_X6) := List.forall_mem_cons.mpr ⟨Or.inr (Or.inr (Or.inl ⟨rfl, List.forall_mem_cons.mpr ⟨⟨mok_X2_heed, ⟨_, _, _, rfl⟩, uok (y := yX2_heed) rfl (by decide +kernel) rfl q_255 q_256 q_257 q_143 q_144⟩, fun _ z => absurd z List.not_mem_nil⟩⟩)), List.forall_mem_cons.mpr ⟨Or.inl ⟨rfl, List.forall_mem_cons.mpr ⟨⟨mok_X10_begin, RX6, Or.inr ⟨_, _, rfl⟩, vokU (x := ⟨RX6, "begin", "(I)V"⟩) (y := yX10_begin) rfl rfl nmh_X10 rfl q_258 q_259 q_260 q_98 q_99⟩, fun _ z => absurd z List.not_mem_nil⟩⟩, List.forall_mem_cons.mpr ⟨Or.inr (Or.inr (Or.inl ⟨rfl, List.forall_mem_cons.mpr ⟨⟨mok_X10_leans, ⟨_, _, _, rfl⟩, uokI (x := ⟨RX2, "leans", "(I)I"⟩) (y := yX10_leans) rfl rfl (by decide +kernel) rfl q_261 q_262 q_257 q_173 q_182 q_99⟩, fun _ z => absurd z List.not_mem_nil⟩⟩)), fun _ z => absurd z List.not_mem_nil⟩⟩⟩
theorem far_X6 (fv : Value) : FarOK TB (XR fv) RX6 (P_X6) := ⟨farN (by decide +kernel), fun _ z => absurd z List.not_mem_nil, fun _ z => absurd z List.not_mem_nil, fun _ z => absurd z List.not_mem_nil⟩
theorem tab_X6 {fv : Value} (h : FV fv) : TabOK TB mt vwCl (XR fv) RX6 (P_X6) := ⟨by decide, XR_ok h, XR_str, TB_ok, cls_ok, fld_X6, far_X6 fv, cpo_X6⟩
def P_X7 : Pool := ([(9, 0, 9, [7]), (15, 1, 9, [7]), (18, 2, 9, [7]), (21, 3, 9, [7]), (24, 4, 9, [7]), (27, 8, 9, [7]), (36, 11, 9, [7]), (40, 12, 9, [7]), (43, 13, 9, [7]), (56, 9, 0, [7]), (60, 10, 0, [7]), (67, 5, 0, [7]), (70, 6, 0, [7]), (73, 7, 0, [7]), (100, 2, 0, [8]), (116, 2, 0, [4])],
  [(46, 0, 1, [(7, jX7_becomeRow)]),
   (50, 5, 5, []),
   (63, 0, 1, [(8, jX8_takeOver)]),
   (76, 0, 2, [(7, jX7_putOut)]),
   (80, 0, 1, [(7, jX7_has)]),
   (84, 0, 1, [(7, jX7_isOut)]),
   (87, 1, 1, [(0, jJ6_bitCount_0f7a4)]),
   (93, 0, 0, [(7, jX7_all)]),
   (97, 0, 1, [(7, jX7_knownBy)]),
   (101, 0, 2, [(8, jX8_cell)]),
   (105, 1, 2, [(0, jJ9_max_7cf53)]),
   (110, 0, 3, [(1, jX1_setsOf)]),
   (121, 1, 2, [(0, jX7_least)])],
  [], [], [], [])
theorem fld_X7 : FldOK TB nestW vwCl RX7 (P_X7) := List.forall_mem_cons.mpr ⟨List.forall_mem_cons.mpr ⟨Or.inr ⟨RX7, TX7, 14, rfl, by decide, ⟨RX7, Or.inl q_265, Or.inl rfl⟩, Or.inl rfl⟩, fun _ z => absurd z List.not_mem_nil⟩, List.forall_mem_cons.mpr ⟨List.forall_mem_cons.mpr ⟨Or.inr ⟨RX7, TX7, 14, rfl, by decide, ⟨RX7, Or.inl q_266, Or.inl rfl⟩, Or.inl rfl⟩, fun _ z => absurd z List.not_mem_nil⟩, List.forall_mem_cons.mpr ⟨List.forall_mem_cons.mpr ⟨Or.inr ⟨RX7, TX7, 14, rfl, by decide, ⟨RX7, Or.inl q_267, Or.inl rfl⟩, Or.inl rfl⟩, fun _ z => absurd z List.not_mem_nil⟩, List.forall_mem_cons.mpr ⟨List.forall_mem_cons.mpr ⟨Or.inr ⟨RX7, TX7, 14, rfl, by decide, ⟨RX7, Or.inl q_268, Or.inl rfl⟩, Or.inl rfl⟩, fun _ z => absurd z List.not_mem_nil⟩, List.forall_mem_cons.mpr ⟨List.forall_mem_cons.mpr ⟨Or.inr ⟨RX7, TX7, 14, rfl, by decide, ⟨RX7, Or.inl q_269, Or.inl rfl⟩, Or.inl rfl⟩, fun _ z => absurd z List.not_mem_nil⟩, List.forall_mem_cons.mpr ⟨List.forall_mem_cons.mpr ⟨Or.inr ⟨RX7, TX7, 14, rfl, by decide, ⟨RX7, Or.inl q_270, Or.inl rfl⟩, Or.inl rfl⟩, fun _ z => absurd z List.not_mem_nil⟩, List.forall_mem_cons.mpr ⟨List.forall_mem_cons.mpr ⟨Or.inr ⟨RX7, TX7, 14, rfl, by decide, ⟨RX7, Or.inl q_271, Or.inl rfl⟩, Or.inl rfl⟩, fun _ z => absurd z List.not_mem_nil⟩, List.forall_mem_cons.mpr ⟨List.forall_mem_cons.mpr ⟨Or.inr ⟨RX7, TX7, 14, rfl, by decide, ⟨RX7, Or.inl q_272, Or.inl rfl⟩, Or.inl rfl⟩, fun _ z => absurd z List.not_mem_nil⟩, List.forall_mem_cons.mpr ⟨List.forall_mem_cons.mpr ⟨Or.inr ⟨RX7, TX7, 14, rfl, by decide, ⟨RX7, Or.inl q_273, Or.inl rfl⟩, Or.inl rfl⟩, fun _ z => absurd z List.not_mem_nil⟩, List.forall_mem_cons.mpr ⟨List.forall_mem_cons.mpr ⟨Or.inr ⟨RX7, TX7, 14, rfl, by decide, ⟨RX7, Or.inl q_281, Or.inl rfl⟩, Or.inr ⟨rfl, tyX7 9, tyX7_ok 9 (by decide), rfl⟩⟩, fun _ z => absurd z List.not_mem_nil⟩, List.forall_mem_cons.mpr ⟨List.forall_mem_cons.mpr ⟨Or.inr ⟨RX7, TX7, 14, rfl, by decide, ⟨RX7, Or.inl q_282, Or.inl rfl⟩, Or.inr ⟨rfl, tyX7 10, tyX7_ok 10 (by decide), rfl⟩⟩, fun _ z => absurd z List.not_mem_nil⟩, List.forall_mem_cons.mpr ⟨List.forall_mem_cons.mpr ⟨Or.inr ⟨RX7, TX7, 14, rfl, by decide, ⟨RX7, Or.inl q_287, Or.inl rfl⟩, Or.inr ⟨rfl, tyX7 5, tyX7_ok 5 (by decide), rfl⟩⟩, fun _ z => absurd z List.not_mem_nil⟩, List.forall_mem_cons.mpr ⟨List.forall_mem_cons.mpr ⟨Or.inr ⟨RX7, TX7, 14, rfl, by decide, ⟨RX7, Or.inl q_288, Or.inl rfl⟩, Or.inr ⟨rfl, tyX7 6, tyX7_ok 6 (by decide), rfl⟩⟩, fun _ z => absurd z List.not_mem_nil⟩, List.forall_mem_cons.mpr ⟨List.forall_mem_cons.mpr ⟨Or.inr ⟨RX7, TX7, 14, rfl, by decide, ⟨RX7, Or.inl q_289, Or.inl rfl⟩, Or.inr ⟨rfl, tyX7 7, tyX7_ok 7 (by decide), rfl⟩⟩, fun _ z => absurd z List.not_mem_nil⟩, List.forall_mem_cons.mpr ⟨List.forall_mem_cons.mpr ⟨Or.inr ⟨RX8, TX8, 3, rfl, by decide, ⟨RX8, Or.inr ⟨RX11, nst_1⟩, Or.inl rfl⟩, Or.inr ⟨rfl, tyX8 2, tyX8_ok 2 (by decide), rfl⟩⟩, fun _ z => absurd z List.not_mem_nil⟩, List.forall_mem_cons.mpr ⟨List.forall_mem_cons.mpr ⟨Or.inr ⟨RX4, TX4, 10, rfl, by decide, ⟨RX4, Or.inr ⟨RX11, nst_31⟩, Or.inl rfl⟩, Or.inr ⟨rfl, tyX4 2, tyX4_ok 2 (by decide), rfl⟩⟩, fun _ z => absurd z List.not_mem_nil⟩, fun _ z => absurd z List.not_mem_nil⟩⟩⟩⟩⟩⟩⟩⟩⟩⟩⟩⟩⟩⟩⟩⟩
set_option maxRecDepth 4000 in
theorem cpo_X7 : CpOK TB mt vwCl RX7 (P_X7) := List.forall_mem_cons.mpr ⟨Or.inl ⟨rfl, List.forall_mem_cons.mpr ⟨⟨mok_X7_becomeRow, RX7, Or.inr ⟨_, _, rfl⟩, vokA (y := yX7_becomeRow) rfl rfl nmh_X7 rfl q_274 q_275 q_276 q_114⟩, fun _ z => absurd z List.not_mem_nil⟩⟩, List.forall_mem_cons.mpr ⟨Or.inr (Or.inr (Or.inr ⟨rfl, q_277, q_278, q_279, q_280⟩)), List.forall_mem_cons.mpr ⟨Or.inl ⟨rfl, List.forall_mem_cons.mpr ⟨⟨mok_X8_takeOver, RX8, Or.inr ⟨_, _, rfl⟩, vokA (y := yX8_takeOver) rfl rfl nmh_X8 rfl q_283 q_284 q_285 q_286⟩, fun _ z => absurd z List.not_mem_nil⟩⟩, List.forall_mem_cons.mpr ⟨Or.inl ⟨rfl, List.forall_mem_cons.mpr ⟨⟨mok_X7_putOut, RX7, Or.inr ⟨_, _, rfl⟩, vokA (y := yX7_putOut) rfl rfl nmh_X7 rfl q_290 q_291 q_292 q_114⟩, fun _ z => absurd z List.not_mem_nil⟩⟩, List.forall_mem_cons.mpr ⟨Or.inl ⟨rfl, List.forall_mem_cons.mpr ⟨⟨mok_X7_has, RX7, Or.inr ⟨_, _, rfl⟩, vokA (y := yX7_has) rfl rfl nmh_X7 rfl q_293 q_112 q_113 q_114⟩, fun _ z => absurd z List.not_mem_nil⟩⟩, List.forall_mem_cons.mpr ⟨Or.inl ⟨rfl, List.forall_mem_cons.mpr ⟨⟨mok_X7_isOut, RX7, Or.inr ⟨_, _, rfl⟩, vokA (y := yX7_isOut) rfl rfl nmh_X7 rfl q_294 q_295 q_296 q_114⟩, fun _ z => absurd z List.not_mem_nil⟩⟩, List.forall_mem_cons.mpr ⟨Or.inr (Or.inl ⟨rfl, List.forall_mem_cons.mpr ⟨⟨mok_J6_bitCount_0f7a4, sok (y := yJ6_bitCount_0f7a4) rfl nmh_J6 rfl q_297 q_117 q_118⟩, fun _ z => absurd z List.not_mem_nil⟩⟩), List.forall_mem_cons.mpr ⟨Or.inl ⟨rfl, List.forall_mem_cons.mpr ⟨⟨mok_X7_all, RX7, Or.inr ⟨_, _, rfl⟩, vokA (y := yX7_all) rfl rfl nmh_X7 rfl q_298 q_299 q_300 q_114⟩, fun _ z => absurd z List.not_mem_nil⟩⟩, List.forall_mem_cons.mpr ⟨Or.inl ⟨rfl, List.forall_mem_cons.mpr ⟨⟨mok_X7_knownBy, RX7, Or.inr ⟨_, _, rfl⟩, vokA (y := yX7_knownBy) rfl rfl nmh_X7 rfl q_301 q_302 q_303 q_114⟩, fun _ z => absurd z List.not_mem_nil⟩⟩, List.forall_mem_cons.mpr ⟨Or.inl ⟨rfl, List.forall_mem_cons.mpr ⟨⟨mok_X8_cell, RX8, Or.inr ⟨_, _, rfl⟩, vokA (y := yX8_cell) rfl rfl nmh_X8 rfl q_304 q_305 q_306 q_286⟩, fun _ z => absurd z List.not_mem_nil⟩⟩, List.forall_mem_cons.mpr ⟨Or.inr (Or.inl ⟨rfl, List.forall_mem_cons.mpr ⟨⟨mok_J9_max_7cf53, sok (y := yJ9_max_7cf53) rfl nmh_J9 rfl q_307 q_308 q_309⟩, fun _ z => absurd z List.not_mem_nil⟩⟩), List.forall_mem_cons.mpr ⟨Or.inl ⟨rfl, List.forall_mem_cons.mpr ⟨⟨mok_X1_setsOf, RX1, Or.inr ⟨_, _, rfl⟩, vokA (y := yX1_setsOf) rfl rfl nmh_X1 rfl q_310 q_311 q_312 q_123⟩, fun _ z => absurd z List.not_mem_nil⟩⟩, List.forall_mem_cons.mpr ⟨Or.inr (Or.inl ⟨rfl, List.forall_mem_cons.mpr ⟨⟨mok_X7_least, sok (y := yX7_least) rfl nmh_X7 rfl q_313 q_314 q_114⟩, fun _ z => absurd z List.not_mem_nil⟩⟩), fun _ z => absurd z List.not_mem_nil⟩⟩⟩⟩⟩⟩⟩⟩⟩⟩⟩⟩⟩
theorem far_X7 (fv : Value) : FarOK TB (XR fv) RX7 (P_X7) := ⟨farN (by decide +kernel), fun _ z => absurd z List.not_mem_nil, fun _ z => absurd z List.not_mem_nil, fun _ z => absurd z List.not_mem_nil⟩
theorem tab_X7 {fv : Value} (h : FV fv) : TabOK TB mt vwCl (XR fv) RX7 (P_X7) := ⟨by decide, XR_ok h, XR_str, TB_ok, cls_ok, fld_X7, far_X7 fv, cpo_X7⟩
def P_X8 : Pool := ([(11, 0, 9, [8]), (21, 1, 9, [8]), (25, 2, 0, [8])],
  [(15, 1, 2, [(0, jJ9_min_7cf53)]),
   (28, 5, 5, [])],
  [], [], [], [])
theorem fld_X8 : FldOK TB nestW vwCl RX8 (P_X8) := List.forall_mem_cons.mpr ⟨List.forall_mem_cons.mpr ⟨Or.inr ⟨RX8, TX8, 3, rfl, by decide, ⟨RX8, Or.inl q_315, Or.inl rfl⟩, Or.inl rfl⟩, fun _ z => absurd z List.not_mem_nil⟩, List.forall_mem_cons.mpr ⟨List.forall_mem_cons.mpr ⟨Or.inr ⟨RX8, TX8, 3, rfl, by decide, ⟨RX8, Or.inl q_318, Or.inl rfl⟩, Or.inl rfl⟩, fun _ z => absurd z List.not_mem_nil⟩, List.forall_mem_cons.mpr ⟨List.forall_mem_cons.mpr ⟨Or.inr ⟨RX8, TX8, 3, rfl, by decide, ⟨RX8, Or.inl q_319, Or.inl rfl⟩, Or.inr ⟨rfl, tyX8 2, tyX8_ok 2 (by decide), rfl⟩⟩, fun _ z => absurd z List.not_mem_nil⟩, fun _ z => absurd z List.not_mem_nil⟩⟩⟩
set_option maxRecDepth 4000 in
theorem cpo_X8 : CpOK TB mt vwCl RX8 (P_X8) := List.forall_mem_cons.mpr ⟨Or.inr (Or.inl ⟨rfl, List.forall_mem_cons.mpr ⟨⟨mok_J9_min_7cf53, sok (y := yJ9_min_7cf53) rfl nmh_J9 rfl q_316 q_317 q_309⟩, fun _ z => absurd z List.not_mem_nil⟩⟩), List.forall_mem_cons.mpr ⟨Or.inr (Or.inr (Or.inr ⟨rfl, q_320, q_278, q_279, q_280⟩)), fun _ z => absurd z List.not_mem_nil⟩⟩
theorem far_X8 (fv : Value) : FarOK TB (XR fv) RX8 (P_X8) := ⟨farN (by decide +kernel), fun _ z => absurd z List.not_mem_nil, fun _ z => absurd z List.not_mem_nil, fun _ z => absurd z List.not_mem_nil⟩
theorem tab_X8 {fv : Value} (h : FV fv) : TabOK TB mt vwCl (XR fv) RX8 (P_X8) := ⟨by decide, XR_ok h, XR_str, TB_ok, cls_ok, fld_X8, far_X8 fv, cpo_X8⟩
def P_X9 : Pool := ([(11, 9, 0, [1]), (27, 3, 0, [0, 2, 3, 5, 6, 9, 10])],
  [(7, 2, 2, [(9, jX0_heed)]),
   (17, 0, 1, [(9, jX10_begin)]),
   (23, 2, 1, [(9, jX10_says)])],
  [], [], [], [])
theorem fld_X9 : FldOK TB nestW vwCl RX9 (P_X9) := List.forall_mem_cons.mpr ⟨List.forall_mem_cons.mpr ⟨Or.inr ⟨RX1, TX1, 11, rfl, by decide, ⟨RX1, Or.inr ⟨RX11, nst_27⟩, Or.inl rfl⟩, Or.inr ⟨rfl, tyX1 9, tyX1_ok 9 (by decide), rfl⟩⟩, fun _ z => absurd z List.not_mem_nil⟩, List.forall_mem_cons.mpr ⟨List.forall_mem_cons.mpr ⟨Or.inr ⟨RX0, TX0, 4, rfl, by decide, ⟨RX9, Or.inl q_329, Or.inr q_330⟩, Or.inr ⟨rfl, tyX0 3, tyX0_ok 3 (by decide), rfl⟩⟩, List.forall_mem_cons.mpr ⟨Or.inr ⟨RX2, TX2, 4, rfl, by decide, ⟨RX9, Or.inl q_329, Or.inr q_330⟩, Or.inr ⟨rfl, tyX2 3, tyX2_ok 3 (by decide), rfl⟩⟩, List.forall_mem_cons.mpr ⟨Or.inr ⟨RX3, TX3, 4, rfl, by decide, ⟨RX9, Or.inl q_329, Or.inr q_330⟩, Or.inr ⟨rfl, tyX3 3, tyX3_ok 3 (by decide), rfl⟩⟩, List.forall_mem_cons.mpr ⟨Or.inr ⟨RX5, TX5, 4, rfl, by decide, ⟨RX9, Or.inl q_329, Or.inr q_330⟩, Or.inr ⟨rfl, tyX5 3, tyX5_ok 3 (by decide), rfl⟩⟩, List.forall_mem_cons.mpr ⟨Or.inr ⟨RX6, TX6, 4, rfl, by decide, ⟨RX9, Or.inl q_329, Or.inr q_330⟩, Or.inr ⟨rfl, tyX6 3, tyX6_ok 3 (by decide), rfl⟩⟩, List.forall_mem_cons.mpr ⟨Or.inr ⟨RX9, TX9, 4, rfl, by decide, ⟨RX9, Or.inl q_329, Or.inr q_330⟩, Or.inr ⟨rfl, tyX9 3, tyX9_ok 3 (by decide), rfl⟩⟩, List.forall_mem_cons.mpr ⟨Or.inr ⟨RX10, TX10, 4, rfl, by decide, ⟨RX9, Or.inl q_329, Or.inr q_330⟩, Or.inr ⟨rfl, tyX10 3, tyX10_ok 3 (by decide), rfl⟩⟩, fun _ z => absurd z List.not_mem_nil⟩⟩⟩⟩⟩⟩⟩, fun _ z => absurd z List.not_mem_nil⟩⟩
set_option maxRecDepth 4000 in
theorem cpo_X9 : CpOK TB mt vwCl RX9 (P_X9) := List.forall_mem_cons.mpr ⟨Or.inr (Or.inr (Or.inl ⟨rfl, List.forall_mem_cons.mpr ⟨⟨mok_X0_heed, ⟨_, _, _, rfl⟩, uok (y := yX0_heed) rfl (by decide +kernel) rfl q_321 q_322 q_323 q_140 q_141⟩, fun _ z => absurd z List.not_mem_nil⟩⟩)), List.forall_mem_cons.mpr ⟨Or.inl ⟨rfl, List.forall_mem_cons.mpr ⟨⟨mok_X10_begin, RX9, Or.inr ⟨_, _, rfl⟩, vokU (x := ⟨RX9, "begin", "(I)V"⟩) (y := yX10_begin) rfl rfl nmh_X10 rfl q_324 q_325 q_326 q_98 q_99⟩, fun _ z => absurd z List.not_mem_nil⟩⟩, List.forall_mem_cons.mpr ⟨Or.inr (Or.inr (Or.inl ⟨rfl, List.forall_mem_cons.mpr ⟨⟨mok_X10_says, ⟨_, _, _, rfl⟩, uokI (x := ⟨RX0, "says", "(I)I"⟩) (y := yX10_says) rfl rfl (by decide +kernel) rfl q_327 q_328 q_323 q_103 q_174 q_99⟩, fun _ z => absurd z List.not_mem_nil⟩⟩)), fun _ z => absurd z List.not_mem_nil⟩⟩⟩
theorem far_X9 (fv : Value) : FarOK TB (XR fv) RX9 (P_X9) := ⟨farN (by decide +kernel), fun _ z => absurd z List.not_mem_nil, fun _ z => absurd z List.not_mem_nil, fun _ z => absurd z List.not_mem_nil⟩
theorem tab_X9 {fv : Value} (h : FV fv) : TabOK TB mt vwCl (XR fv) RX9 (P_X9) := ⟨by decide, XR_ok h, XR_str, TB_ok, cls_ok, fld_X9, far_X9 fv, cpo_X9⟩
def P_X10 : Pool := ([(9, 0, 9, [0, 2, 3, 5, 6, 9, 10]), (15, 2, 0, [0, 2, 3, 5, 6, 9, 10]), (19, 3, 0, [0, 2, 3, 5, 6, 9, 10]), (22, 1, 0, [0, 2, 3, 5, 6, 9, 10])],
  [(25, 0, 1, [(0, jX10_begin), (2, jX10_begin), (3, jX10_begin), (5, jX10_begin), (6, jX10_begin), (9, jX10_begin), (10, jX10_begin)]),
   (29, 0, 1, [(0, jX10_leans), (2, jX10_leans), (3, jX3_leans), (5, jX3_leans), (6, jX6_leans), (9, jX10_leans), (10, jX10_leans)]),
   (33, 0, 1, [(0, jX10_says), (2, jX2_says), (3, jX10_says), (5, jX10_says), (6, jX2_says), (9, jX9_says), (10, jX10_says)])],
  [], [], [], [])
theorem fld_X10 : FldOK TB nestW vwCl RX10 (P_X10) := List.forall_mem_cons.mpr ⟨List.forall_mem_cons.mpr ⟨Or.inr ⟨RX0, TX0, 4, rfl, by decide, ⟨RX10, Or.inl q_331, Or.inl rfl⟩, Or.inl rfl⟩, List.forall_mem_cons.mpr ⟨Or.inr ⟨RX2, TX2, 4, rfl, by decide, ⟨RX10, Or.inl q_331, Or.inl rfl⟩, Or.inl rfl⟩, List.forall_mem_cons.mpr ⟨Or.inr ⟨RX3, TX3, 4, rfl, by decide, ⟨RX10, Or.inl q_331, Or.inl rfl⟩, Or.inl rfl⟩, List.forall_mem_cons.mpr ⟨Or.inr ⟨RX5, TX5, 4, rfl, by decide, ⟨RX10, Or.inl q_331, Or.inl rfl⟩, Or.inl rfl⟩, List.forall_mem_cons.mpr ⟨Or.inr ⟨RX6, TX6, 4, rfl, by decide, ⟨RX10, Or.inl q_331, Or.inl rfl⟩, Or.inl rfl⟩, List.forall_mem_cons.mpr ⟨Or.inr ⟨RX9, TX9, 4, rfl, by decide, ⟨RX10, Or.inl q_331, Or.inl rfl⟩, Or.inl rfl⟩, List.forall_mem_cons.mpr ⟨Or.inr ⟨RX10, TX10, 4, rfl, by decide, ⟨RX10, Or.inl q_331, Or.inl rfl⟩, Or.inl rfl⟩, fun _ z => absurd z List.not_mem_nil⟩⟩⟩⟩⟩⟩⟩, List.forall_mem_cons.mpr ⟨List.forall_mem_cons.mpr ⟨Or.inr ⟨RX0, TX0, 4, rfl, by decide, ⟨RX10, Or.inl q_332, Or.inl rfl⟩, Or.inr ⟨rfl, tyX0 2, tyX0_ok 2 (by decide), rfl⟩⟩, List.forall_mem_cons.mpr ⟨Or.inr ⟨RX2, TX2, 4, rfl, by decide, ⟨RX10, Or.inl q_332, Or.inl rfl⟩, Or.inr ⟨rfl, tyX2 2, tyX2_ok 2 (by decide), rfl⟩⟩, List.forall_mem_cons.mpr ⟨Or.inr ⟨RX3, TX3, 4, rfl, by decide, ⟨RX10, Or.inl q_332, Or.inl rfl⟩, Or.inr ⟨rfl, tyX3 2, tyX3_ok 2 (by decide), rfl⟩⟩, List.forall_mem_cons.mpr ⟨Or.inr ⟨RX5, TX5, 4, rfl, by decide, ⟨RX10, Or.inl q_332, Or.inl rfl⟩, Or.inr ⟨rfl, tyX5 2, tyX5_ok 2 (by decide), rfl⟩⟩, List.forall_mem_cons.mpr ⟨Or.inr ⟨RX6, TX6, 4, rfl, by decide, ⟨RX10, Or.inl q_332, Or.inl rfl⟩, Or.inr ⟨rfl, tyX6 2, tyX6_ok 2 (by decide), rfl⟩⟩, List.forall_mem_cons.mpr ⟨Or.inr ⟨RX9, TX9, 4, rfl, by decide, ⟨RX10, Or.inl q_332, Or.inl rfl⟩, Or.inr ⟨rfl, tyX9 2, tyX9_ok 2 (by decide), rfl⟩⟩, List.forall_mem_cons.mpr ⟨Or.inr ⟨RX10, TX10, 4, rfl, by decide, ⟨RX10, Or.inl q_332, Or.inl rfl⟩, Or.inr ⟨rfl, tyX10 2, tyX10_ok 2 (by decide), rfl⟩⟩, fun _ z => absurd z List.not_mem_nil⟩⟩⟩⟩⟩⟩⟩, List.forall_mem_cons.mpr ⟨List.forall_mem_cons.mpr ⟨Or.inr ⟨RX0, TX0, 4, rfl, by decide, ⟨RX10, Or.inl q_333, Or.inl rfl⟩, Or.inr ⟨rfl, tyX0 3, tyX0_ok 3 (by decide), rfl⟩⟩, List.forall_mem_cons.mpr ⟨Or.inr ⟨RX2, TX2, 4, rfl, by decide, ⟨RX10, Or.inl q_333, Or.inl rfl⟩, Or.inr ⟨rfl, tyX2 3, tyX2_ok 3 (by decide), rfl⟩⟩, List.forall_mem_cons.mpr ⟨Or.inr ⟨RX3, TX3, 4, rfl, by decide, ⟨RX10, Or.inl q_333, Or.inl rfl⟩, Or.inr ⟨rfl, tyX3 3, tyX3_ok 3 (by decide), rfl⟩⟩, List.forall_mem_cons.mpr ⟨Or.inr ⟨RX5, TX5, 4, rfl, by decide, ⟨RX10, Or.inl q_333, Or.inl rfl⟩, Or.inr ⟨rfl, tyX5 3, tyX5_ok 3 (by decide), rfl⟩⟩, List.forall_mem_cons.mpr ⟨Or.inr ⟨RX6, TX6, 4, rfl, by decide, ⟨RX10, Or.inl q_333, Or.inl rfl⟩, Or.inr ⟨rfl, tyX6 3, tyX6_ok 3 (by decide), rfl⟩⟩, List.forall_mem_cons.mpr ⟨Or.inr ⟨RX9, TX9, 4, rfl, by decide, ⟨RX10, Or.inl q_333, Or.inl rfl⟩, Or.inr ⟨rfl, tyX9 3, tyX9_ok 3 (by decide), rfl⟩⟩, List.forall_mem_cons.mpr ⟨Or.inr ⟨RX10, TX10, 4, rfl, by decide, ⟨RX10, Or.inl q_333, Or.inl rfl⟩, Or.inr ⟨rfl, tyX10 3, tyX10_ok 3 (by decide), rfl⟩⟩, fun _ z => absurd z List.not_mem_nil⟩⟩⟩⟩⟩⟩⟩, List.forall_mem_cons.mpr ⟨List.forall_mem_cons.mpr ⟨Or.inr ⟨RX0, TX0, 4, rfl, by decide, ⟨RX10, Or.inl q_334, Or.inl rfl⟩, Or.inr ⟨rfl, tyX0 1, tyX0_ok 1 (by decide), rfl⟩⟩, List.forall_mem_cons.mpr ⟨Or.inr ⟨RX2, TX2, 4, rfl, by decide, ⟨RX10, Or.inl q_334, Or.inl rfl⟩, Or.inr ⟨rfl, tyX2 1, tyX2_ok 1 (by decide), rfl⟩⟩, List.forall_mem_cons.mpr ⟨Or.inr ⟨RX3, TX3, 4, rfl, by decide, ⟨RX10, Or.inl q_334, Or.inl rfl⟩, Or.inr ⟨rfl, tyX3 1, tyX3_ok 1 (by decide), rfl⟩⟩, List.forall_mem_cons.mpr ⟨Or.inr ⟨RX5, TX5, 4, rfl, by decide, ⟨RX10, Or.inl q_334, Or.inl rfl⟩, Or.inr ⟨rfl, tyX5 1, tyX5_ok 1 (by decide), rfl⟩⟩, List.forall_mem_cons.mpr ⟨Or.inr ⟨RX6, TX6, 4, rfl, by decide, ⟨RX10, Or.inl q_334, Or.inl rfl⟩, Or.inr ⟨rfl, tyX6 1, tyX6_ok 1 (by decide), rfl⟩⟩, List.forall_mem_cons.mpr ⟨Or.inr ⟨RX9, TX9, 4, rfl, by decide, ⟨RX10, Or.inl q_334, Or.inl rfl⟩, Or.inr ⟨rfl, tyX9 1, tyX9_ok 1 (by decide), rfl⟩⟩, List.forall_mem_cons.mpr ⟨Or.inr ⟨RX10, TX10, 4, rfl, by decide, ⟨RX10, Or.inl q_334, Or.inl rfl⟩, Or.inr ⟨rfl, tyX10 1, tyX10_ok 1 (by decide), rfl⟩⟩, fun _ z => absurd z List.not_mem_nil⟩⟩⟩⟩⟩⟩⟩, fun _ z => absurd z List.not_mem_nil⟩⟩⟩⟩
set_option maxRecDepth 4000 in
theorem cpo_X10 : CpOK TB mt vwCl RX10 (P_X10) := List.forall_mem_cons.mpr ⟨Or.inl ⟨rfl, List.forall_mem_cons.mpr ⟨⟨mok_X10_begin, RX0, Or.inr ⟨_, _, rfl⟩, vokU (x := yX10_begin) (y := yX10_begin) rfl rfl nmh_X10 rfl q_335 q_336 q_337 q_98 q_99⟩, List.forall_mem_cons.mpr ⟨⟨mok_X10_begin, RX2, Or.inr ⟨_, _, rfl⟩, vokU (x := yX10_begin) (y := yX10_begin) rfl rfl nmh_X10 rfl q_335 q_336 q_338 q_98 q_99⟩, List.forall_mem_cons.mpr ⟨⟨mok_X10_begin, RX3, Or.inr ⟨_, _, rfl⟩, vokU (x := yX10_begin) (y := yX10_begin) rfl rfl nmh_X10 rfl q_335 q_336 q_339 q_98 q_99⟩, List.forall_mem_cons.mpr ⟨⟨mok_X10_begin, RX5, Or.inr ⟨_, _, rfl⟩, vokU (x := yX10_begin) (y := yX10_begin) rfl rfl nmh_X10 rfl q_335 q_336 q_340 q_98 q_99⟩, List.forall_mem_cons.mpr ⟨⟨mok_X10_begin, RX6, Or.inr ⟨_, _, rfl⟩, vokU (x := yX10_begin) (y := yX10_begin) rfl rfl nmh_X10 rfl q_335 q_336 q_341 q_98 q_99⟩, List.forall_mem_cons.mpr ⟨⟨mok_X10_begin, RX9, Or.inr ⟨_, _, rfl⟩, vokU (x := yX10_begin) (y := yX10_begin) rfl rfl nmh_X10 rfl q_335 q_336 q_342 q_98 q_99⟩, List.forall_mem_cons.mpr ⟨⟨mok_X10_begin, RX10, Or.inr ⟨_, _, rfl⟩, vokA (y := yX10_begin) rfl rfl nmh_X10 rfl q_335 q_98 q_343 q_99⟩, fun _ z => absurd z List.not_mem_nil⟩⟩⟩⟩⟩⟩⟩⟩, List.forall_mem_cons.mpr ⟨Or.inl ⟨rfl, List.forall_mem_cons.mpr ⟨⟨mok_X10_leans, RX0, Or.inr ⟨_, _, rfl⟩, vokU (x := yX10_leans) (y := yX10_leans) rfl rfl nmh_X10 rfl q_344 q_180 q_345 q_182 q_99⟩, List.forall_mem_cons.mpr ⟨⟨mok_X10_leans, RX2, Or.inr ⟨_, _, rfl⟩, vokU (x := yX10_leans) (y := yX10_leans) rfl rfl nmh_X10 rfl q_344 q_180 q_346 q_182 q_99⟩, List.forall_mem_cons.mpr ⟨⟨mok_X3_leans, RX3, Or.inr ⟨_, _, rfl⟩, vokO (x := yX10_leans) (y := yX3_leans) rfl nmh_X10 rfl q_344 q_180 q_182 q_347 q_254 q_147 cw_X10_leans⟩, List.forall_mem_cons.mpr ⟨⟨mok_X3_leans, RX5, Or.inr ⟨_, _, rfl⟩, vokO (x := yX10_leans) (y := yX3_leans) rfl nmh_X10 rfl q_344 q_180 q_182 q_348 q_254 q_147 cw_X10_leans⟩, List.forall_mem_cons.mpr ⟨⟨mok_X6_leans, RX6, Or.inr ⟨_, _, rfl⟩, vokO (x := yX10_leans) (y := yX6_leans) rfl nmh_X10 rfl q_344 q_180 q_182 q_349 q_350 q_153 cw_X10_leans⟩, List.forall_mem_cons.mpr ⟨⟨mok_X10_leans, RX9, Or.inr ⟨_, _, rfl⟩, vokU (x := yX10_leans) (y := yX10_leans) rfl rfl nmh_X10 rfl q_344 q_180 q_351 q_182 q_99⟩, List.forall_mem_cons.mpr ⟨⟨mok_X10_leans, RX10, Or.inr ⟨_, _, rfl⟩, vokA (y := yX10_leans) rfl rfl nmh_X10 rfl q_344 q_182 q_352 q_99⟩, fun _ z => absurd z List.not_mem_nil⟩⟩⟩⟩⟩⟩⟩⟩, List.forall_mem_cons.mpr ⟨Or.inl ⟨rfl, List.forall_mem_cons.mpr ⟨⟨mok_X10_says, RX0, Or.inr ⟨_, _, rfl⟩, vokU (x := yX10_says) (y := yX10_says) rfl rfl nmh_X10 rfl q_353 q_172 q_354 q_174 q_99⟩, List.forall_mem_cons.mpr ⟨⟨mok_X2_says, RX2, Or.inr ⟨_, _, rfl⟩, vokO (x := yX10_says) (y := yX2_says) rfl nmh_X10 rfl q_353 q_172 q_174 q_355 q_356 q_144 cw_X10_says⟩, List.forall_mem_cons.mpr ⟨⟨mok_X10_says, RX3, Or.inr ⟨_, _, rfl⟩, vokU (x := yX10_says) (y := yX10_says) rfl rfl nmh_X10 rfl q_353 q_172 q_357 q_174 q_99⟩, List.forall_mem_cons.mpr ⟨⟨mok_X10_says, RX5, Or.inr ⟨_, _, rfl⟩, vokU (x := yX10_says) (y := yX10_says) rfl rfl nmh_X10 rfl q_353 q_172 q_358 q_174 q_99⟩, List.forall_mem_cons.mpr ⟨⟨mok_X2_says, RX6, Or.inr ⟨_, _, rfl⟩, vokO (x := yX10_says) (y := yX2_says) rfl nmh_X10 rfl q_353 q_172 q_174 q_359 q_356 q_144 cw_X10_says⟩, List.forall_mem_cons.mpr ⟨⟨mok_X9_says, RX9, Or.inr ⟨_, _, rfl⟩, vokO (x := yX10_says) (y := yX9_says) rfl nmh_X10 rfl q_353 q_172 q_174 q_360 q_361 q_156 cw_X10_says⟩, List.forall_mem_cons.mpr ⟨⟨mok_X10_says, RX10, Or.inr ⟨_, _, rfl⟩, vokA (y := yX10_says) rfl rfl nmh_X10 rfl q_353 q_174 q_362 q_99⟩, fun _ z => absurd z List.not_mem_nil⟩⟩⟩⟩⟩⟩⟩⟩, fun _ z => absurd z List.not_mem_nil⟩⟩⟩
theorem far_X10 (fv : Value) : FarOK TB (XR fv) RX10 (P_X10) := ⟨farN (by decide +kernel), fun _ z => absurd z List.not_mem_nil, fun _ z => absurd z List.not_mem_nil, fun _ z => absurd z List.not_mem_nil⟩
theorem tab_X10 {fv : Value} (h : FV fv) : TabOK TB mt vwCl (XR fv) RX10 (P_X10) := ⟨by decide, XR_ok h, XR_str, TB_ok, cls_ok, fld_X10, far_X10 fv, cpo_X10⟩
def P_X11 : Pool := ([(12, 0, 9, [11]), (18, 1, 9, [11]), (21, 2, 9, [11]), (27, 3, 9, [11]), (34, 4, 9, [11]), (38, 5, 9, [11]), (42, 9, 0, [7]), (46, 8, 9, [7]), (50, 10, 0, [7]), (68, 0, 9, [7]), (72, 1, 9, [7]), (75, 2, 9, [7]), (98, 3, 9, [7]), (108, 4, 9, [7]), (111, 7, 0, [7]), (114, 2, 0, [4]), (117, 3, 0, [4]), (127, 6, 0, [7]), (161, 5, 0, [7]), (178, 11, 9, [7]), (214, 12, 9, [7]), (221, 2, 0, [8]), (228, 13, 9, [7]), (231, 7, 2, [11]), (262, 6, 1, [11]), (266, 1, 0, [0, 2, 3, 5, 6, 9, 10])],
  [(52, 0, 2, [(4, jX4_read)]),
   (56, 1, 1, [(0, jX11_isNumber)]),
   (60, 0, 2, [(7, jX7_join)]),
   (64, 0, 1, [(7, jX7_has)]),
   (78, 0, 1, [(7, jX7_isOut)]),
   (83, 1, 1, [(0, jX11_isFact)]),
   (87, 0, 0, [(11, jX11_holding)]),
   (91, 0, 4, [(1, jX1_heedOf)]),
   (95, 1, 1, [(0, jX11_isLesson)]),
   (101, 1, 1, [(0, jX11_isSet)]),
   (104, 0, 2, [(7, jX7_putOut)]),
   (120, 0, 0, [(7, jX7_all)]),
   (124, 0, 0, [(7, jX7_held)]),
   (130, 0, 0, [(7, jX7_few)]),
   (133, 0, 1, [(11, jX11_toldLesson)]),
   (137, 1, 1, [(0, jX11_areTides)]),
   (140, 0, 0, [(1, jX1_forget)]),
   (143, 0, 2, [(11, jX11_go)]),
   (147, 0, 1, [(7, jX7_becomeRow)]),
   (151, 0, 1, [(11, jX11_tidesAheadWith)]),
   (154, 0, 2, [(11, jX11_heldIfTaught)]),
   (157, 1, 3, [(0, jX11_taughtAt)]),
   (164, 0, 2, [(11, jX11_tidesIfTold)]),
   (167, 0, 2, [(7, jX7_tellFact)]),
   (171, 0, 0, [(7, jX7_lessonNow)]),
   (174, 0, 3, [(7, jX7_goTide)]),
   (182, 0, 0, [(8, jX8_empty)]),
   (187, 0, 4, [(8, jX8_add)]),
   (191, 1, 1, [(0, jX11_isPart)]),
   (194, 0, 0, [(11, jX11_seenIsSo)]),
   (198, 0, 0, [(7, jX7_lastSeen)]),
   (201, 0, 2, [(7, jX7_isAsSeen)]),
   (207, 0, 0, [(7, jX7_notOut)]),
   (210, 1, 3, [(0, jX11_lowest)]),
   (217, 0, 2, [(11, jX11_isPlan)]),
   (222, 0, 2, [(8, jX8_cell)]),
   (225, 0, 2, [(11, jX11_doPlanned)]),
   (235, 0, 1, [(1, jX1_kindOf)]),
   (239, 0, 2, [(0, jX10_wake), (2, jX10_wake), (3, jX10_wake), (5, jX10_wake), (6, jX10_wake), (9, jX10_wake), (10, jX10_wake)]),
   (244, 0, 1, [(0, jX10_leans), (2, jX10_leans), (3, jX3_leans), (5, jX3_leans), (6, jX6_leans), (9, jX10_leans), (10, jX10_leans)]),
   (247, 0, 1, [(0, jX10_says), (2, jX2_says), (3, jX10_says), (5, jX10_says), (6, jX2_says), (9, jX9_says), (10, jX10_says)]),
   (250, 0, 1, [(0, jX0_bristles), (2, jX10_bristles), (3, jX10_bristles), (5, jX5_bristles), (6, jX10_bristles), (9, jX0_bristles), (10, jX10_bristles)]),
   (253, 0, 1, [(0, jX10_bodyAt), (2, jX10_bodyAt), (3, jX10_bodyAt), (5, jX10_bodyAt), (6, jX10_bodyAt), (9, jX10_bodyAt), (10, jX10_bodyAt)]),
   (259, 0, 1, [(7, jX7_become)])],
  [(67, .int (-999999)), (81, .long 10), (205, .long (-9223372036854775808)), (269, .long 8)], [(256, .ref 1100)], [], [(1100, 0, 7, sAb)])
theorem fld_X11 : FldOK TB nestW vwCl RX11 (P_X11) := List.forall_mem_cons.mpr ⟨List.forall_mem_cons.mpr ⟨Or.inr ⟨RX11, TX11, 8, rfl, by decide, ⟨RX11, Or.inl q_363, Or.inl rfl⟩, Or.inl rfl⟩, fun _ z => absurd z List.not_mem_nil⟩, List.forall_mem_cons.mpr ⟨List.forall_mem_cons.mpr ⟨Or.inr ⟨RX11, TX11, 8, rfl, by decide, ⟨RX11, Or.inl q_364, Or.inl rfl⟩, Or.inl rfl⟩, fun _ z => absurd z List.not_mem_nil⟩, List.forall_mem_cons.mpr ⟨List.forall_mem_cons.mpr ⟨Or.inr ⟨RX11, TX11, 8, rfl, by decide, ⟨RX11, Or.inl q_365, Or.inl rfl⟩, Or.inl rfl⟩, fun _ z => absurd z List.not_mem_nil⟩, List.forall_mem_cons.mpr ⟨List.forall_mem_cons.mpr ⟨Or.inr ⟨RX11, TX11, 8, rfl, by decide, ⟨RX11, Or.inl q_366, Or.inl rfl⟩, Or.inl rfl⟩, fun _ z => absurd z List.not_mem_nil⟩, List.forall_mem_cons.mpr ⟨List.forall_mem_cons.mpr ⟨Or.inr ⟨RX11, TX11, 8, rfl, by decide, ⟨RX11, Or.inl q_367, Or.inl rfl⟩, Or.inl rfl⟩, fun _ z => absurd z List.not_mem_nil⟩, List.forall_mem_cons.mpr ⟨List.forall_mem_cons.mpr ⟨Or.inr ⟨RX11, TX11, 8, rfl, by decide, ⟨RX11, Or.inl q_368, Or.inl rfl⟩, Or.inl rfl⟩, fun _ z => absurd z List.not_mem_nil⟩, List.forall_mem_cons.mpr ⟨List.forall_mem_cons.mpr ⟨Or.inr ⟨RX7, TX7, 14, rfl, by decide, ⟨RX7, Or.inl q_369, Or.inl rfl⟩, Or.inr ⟨rfl, tyX7 9, tyX7_ok 9 (by decide), rfl⟩⟩, fun _ z => absurd z List.not_mem_nil⟩, List.forall_mem_cons.mpr ⟨List.forall_mem_cons.mpr ⟨Or.inr ⟨RX7, TX7, 14, rfl, by decide, ⟨RX7, Or.inl q_370, Or.inl rfl⟩, Or.inl rfl⟩, fun _ z => absurd z List.not_mem_nil⟩, List.forall_mem_cons.mpr ⟨List.forall_mem_cons.mpr ⟨Or.inr ⟨RX7, TX7, 14, rfl, by decide, ⟨RX7, Or.inl q_371, Or.inl rfl⟩, Or.inr ⟨rfl, tyX7 10, tyX7_ok 10 (by decide), rfl⟩⟩, fun _ z => absurd z List.not_mem_nil⟩, List.forall_mem_cons.mpr ⟨List.forall_mem_cons.mpr ⟨Or.inr ⟨RX7, TX7, 14, rfl, by decide, ⟨RX7, Or.inl q_383, Or.inl rfl⟩, Or.inl rfl⟩, fun _ z => absurd z List.not_mem_nil⟩, List.forall_mem_cons.mpr ⟨List.forall_mem_cons.mpr ⟨Or.inr ⟨RX7, TX7, 14, rfl, by decide, ⟨RX7, Or.inl q_384, Or.inl rfl⟩, Or.inl rfl⟩, fun _ z => absurd z List.not_mem_nil⟩, List.forall_mem_cons.mpr ⟨List.forall_mem_cons.mpr ⟨Or.inr ⟨RX7, TX7, 14, rfl, by decide, ⟨RX7, Or.inl q_385, Or.inl rfl⟩, Or.inl rfl⟩, fun _ z => absurd z List.not_mem_nil⟩, List.forall_mem_cons.mpr ⟨List.forall_mem_cons.mpr ⟨Or.inr ⟨RX7, TX7, 14, rfl, by decide, ⟨RX7, Or.inl q_398, Or.inl rfl⟩, Or.inl rfl⟩, fun _ z => absurd z List.not_mem_nil⟩, List.forall_mem_cons.mpr ⟨List.forall_mem_cons.mpr ⟨Or.inr ⟨RX7, TX7, 14, rfl, by decide, ⟨RX7, Or.inl q_402, Or.inl rfl⟩, Or.inl rfl⟩, fun _ z => absurd z List.not_mem_nil⟩, List.forall_mem_cons.mpr ⟨List.forall_mem_cons.mpr ⟨Or.inr ⟨RX7, TX7, 14, rfl, by decide, ⟨RX7, Or.inl q_403, Or.inl rfl⟩, Or.inr ⟨rfl, tyX7 7, tyX7_ok 7 (by decide), rfl⟩⟩, fun _ z => absurd z List.not_mem_nil⟩, List.forall_mem_cons.mpr ⟨List.forall_mem_cons.mpr ⟨Or.inr ⟨RX4, TX4, 10, rfl, by decide, ⟨RX4, Or.inr ⟨RX11, nst_30⟩, Or.inl rfl⟩, Or.inr ⟨rfl, tyX4 2, tyX4_ok 2 (by decide), rfl⟩⟩, fun _ z => absurd z List.not_mem_nil⟩, List.forall_mem_cons.mpr ⟨List.forall_mem_cons.mpr ⟨Or.inr ⟨RX4, TX4, 10, rfl, by decide, ⟨RX4, Or.inr ⟨RX11, nst_33⟩, Or.inl rfl⟩, Or.inr ⟨rfl, tyX4 3, tyX4_ok 3 (by decide), rfl⟩⟩, fun _ z => absurd z List.not_mem_nil⟩, List.forall_mem_cons.mpr ⟨List.forall_mem_cons.mpr ⟨Or.inr ⟨RX7, TX7, 14, rfl, by decide, ⟨RX7, Or.inl q_408, Or.inl rfl⟩, Or.inr ⟨rfl, tyX7 6, tyX7_ok 6 (by decide), rfl⟩⟩, fun _ z => absurd z List.not_mem_nil⟩, List.forall_mem_cons.mpr ⟨List.forall_mem_cons.mpr ⟨Or.inr ⟨RX7, TX7, 14, rfl, by decide, ⟨RX7, Or.inl q_432, Or.inl rfl⟩, Or.inr ⟨rfl, tyX7 5, tyX7_ok 5 (by decide), rfl⟩⟩, fun _ z => absurd z List.not_mem_nil⟩, List.forall_mem_cons.mpr ⟨List.forall_mem_cons.mpr ⟨Or.inr ⟨RX7, TX7, 14, rfl, by decide, ⟨RX7, Or.inl q_445, Or.inl rfl⟩, Or.inl rfl⟩, fun _ z => absurd z List.not_mem_nil⟩, List.forall_mem_cons.mpr ⟨List.forall_mem_cons.mpr ⟨Or.inr ⟨RX7, TX7, 14, rfl, by decide, ⟨RX7, Or.inl q_469, Or.inl rfl⟩, Or.inl rfl⟩, fun _ z => absurd z List.not_mem_nil⟩, List.forall_mem_cons.mpr ⟨List.forall_mem_cons.mpr ⟨Or.inr ⟨RX8, TX8, 3, rfl, by decide, ⟨RX8, Or.inr ⟨RX11, nst_2⟩, Or.inl rfl⟩, Or.inr ⟨rfl, tyX8 2, tyX8_ok 2 (by decide), rfl⟩⟩, fun _ z => absurd z List.not_mem_nil⟩, List.forall_mem_cons.mpr ⟨List.forall_mem_cons.mpr ⟨Or.inr ⟨RX7, TX7, 14, rfl, by decide, ⟨RX7, Or.inl q_477, Or.inl rfl⟩, Or.inl rfl⟩, fun _ z => absurd z List.not_mem_nil⟩, List.forall_mem_cons.mpr ⟨List.forall_mem_cons.mpr ⟨Or.inr ⟨RX11, TX11, 8, rfl, by decide, ⟨RX11, Or.inl q_478, Or.inl rfl⟩, Or.inr ⟨rfl, tyX11 7, tyX11_ok 7 (by decide), Or.inl ⟨_, rfl⟩⟩⟩, fun _ z => absurd z List.not_mem_nil⟩, List.forall_mem_cons.mpr ⟨List.forall_mem_cons.mpr ⟨Or.inr ⟨RX11, TX11, 8, rfl, by decide, ⟨RX11, Or.inl q_516, Or.inl rfl⟩, Or.inr ⟨rfl, tyX11 6, tyX11_ok 6 (by decide), rfl⟩⟩, fun _ z => absurd z List.not_mem_nil⟩, List.forall_mem_cons.mpr ⟨List.forall_mem_cons.mpr ⟨Or.inr ⟨RX0, TX0, 4, rfl, by decide, ⟨RX10, Or.inr ⟨RX11, nst_5⟩, Or.inl rfl⟩, Or.inr ⟨rfl, tyX0 1, tyX0_ok 1 (by decide), rfl⟩⟩, List.forall_mem_cons.mpr ⟨Or.inr ⟨RX2, TX2, 4, rfl, by decide, ⟨RX10, Or.inr ⟨RX11, nst_5⟩, Or.inl rfl⟩, Or.inr ⟨rfl, tyX2 1, tyX2_ok 1 (by decide), rfl⟩⟩, List.forall_mem_cons.mpr ⟨Or.inr ⟨RX3, TX3, 4, rfl, by decide, ⟨RX10, Or.inr ⟨RX11, nst_5⟩, Or.inl rfl⟩, Or.inr ⟨rfl, tyX3 1, tyX3_ok 1 (by decide), rfl⟩⟩, List.forall_mem_cons.mpr ⟨Or.inr ⟨RX5, TX5, 4, rfl, by decide, ⟨RX10, Or.inr ⟨RX11, nst_5⟩, Or.inl rfl⟩, Or.inr ⟨rfl, tyX5 1, tyX5_ok 1 (by decide), rfl⟩⟩, List.forall_mem_cons.mpr ⟨Or.inr ⟨RX6, TX6, 4, rfl, by decide, ⟨RX10, Or.inr ⟨RX11, nst_5⟩, Or.inl rfl⟩, Or.inr ⟨rfl, tyX6 1, tyX6_ok 1 (by decide), rfl⟩⟩, List.forall_mem_cons.mpr ⟨Or.inr ⟨RX9, TX9, 4, rfl, by decide, ⟨RX10, Or.inr ⟨RX11, nst_5⟩, Or.inl rfl⟩, Or.inr ⟨rfl, tyX9 1, tyX9_ok 1 (by decide), rfl⟩⟩, List.forall_mem_cons.mpr ⟨Or.inr ⟨RX10, TX10, 4, rfl, by decide, ⟨RX10, Or.inr ⟨RX11, nst_5⟩, Or.inl rfl⟩, Or.inr ⟨rfl, tyX10 1, tyX10_ok 1 (by decide), rfl⟩⟩, fun _ z => absurd z List.not_mem_nil⟩⟩⟩⟩⟩⟩⟩, fun _ z => absurd z List.not_mem_nil⟩⟩⟩⟩⟩⟩⟩⟩⟩⟩⟩⟩⟩⟩⟩⟩⟩⟩⟩⟩⟩⟩⟩⟩⟩⟩
set_option maxRecDepth 4000 in
theorem cpo_X11 : CpOK TB mt vwCl RX11 (P_X11) := List.forall_mem_cons.mpr ⟨Or.inl ⟨rfl, List.forall_mem_cons.mpr ⟨⟨mok_X4_read, RX4, Or.inr ⟨_, _, rfl⟩, vokA (y := yX4_read) rfl rfl nmh_X4 rfl q_372 q_373 q_374 q_135⟩, fun _ z => absurd z List.not_mem_nil⟩⟩, List.forall_mem_cons.mpr ⟨Or.inr (Or.inl ⟨rfl, List.forall_mem_cons.mpr ⟨⟨mok_X11_isNumber, sok (y := yX11_isNumber) rfl nmh_X11 rfl q_375 q_376 q_377⟩, fun _ z => absurd z List.not_mem_nil⟩⟩), List.forall_mem_cons.mpr ⟨Or.inl ⟨rfl, List.forall_mem_cons.mpr ⟨⟨mok_X7_join, RX7, Or.inr ⟨_, _, rfl⟩, vokA (y := yX7_join) rfl rfl nmh_X7 rfl q_378 q_379 q_380 q_114⟩, fun _ z => absurd z List.not_mem_nil⟩⟩, List.forall_mem_cons.mpr ⟨Or.inl ⟨rfl, List.forall_mem_cons.mpr ⟨⟨mok_X7_has, RX7, Or.inr ⟨_, _, rfl⟩, vokA (y := yX7_has) rfl rfl nmh_X7 rfl q_381 q_112 q_113 q_114⟩, fun _ z => absurd z List.not_mem_nil⟩⟩, List.forall_mem_cons.mpr ⟨Or.inl ⟨rfl, List.forall_mem_cons.mpr ⟨⟨mok_X7_isOut, RX7, Or.inr ⟨_, _, rfl⟩, vokA (y := yX7_isOut) rfl rfl nmh_X7 rfl q_386 q_295 q_296 q_114⟩, fun _ z => absurd z List.not_mem_nil⟩⟩, List.forall_mem_cons.mpr ⟨Or.inr (Or.inl ⟨rfl, List.forall_mem_cons.mpr ⟨⟨mok_X11_isFact, sok (y := yX11_isFact) rfl nmh_X11 rfl q_388 q_389 q_377⟩, fun _ z => absurd z List.not_mem_nil⟩⟩), List.forall_mem_cons.mpr ⟨Or.inl ⟨rfl, List.forall_mem_cons.mpr ⟨⟨mok_X11_holding, RX11, Or.inr ⟨_, _, rfl⟩, vokA (y := yX11_holding) rfl rfl nmh_X11 rfl q_390 q_391 q_392 q_377⟩, fun _ z => absurd z List.not_mem_nil⟩⟩, List.forall_mem_cons.mpr ⟨Or.inl ⟨rfl, List.forall_mem_cons.mpr ⟨⟨mok_X1_heedOf, RX1, Or.inr ⟨_, _, rfl⟩, vokA (y := yX1_heedOf) rfl rfl nmh_X1 rfl q_393 q_394 q_395 q_123⟩, fun _ z => absurd z List.not_mem_nil⟩⟩, List.forall_mem_cons.mpr ⟨Or.inr (Or.inl ⟨rfl, List.forall_mem_cons.mpr ⟨⟨mok_X11_isLesson, sok (y := yX11_isLesson) rfl nmh_X11 rfl q_396 q_397 q_377⟩, fun _ z => absurd z List.not_mem_nil⟩⟩), List.forall_mem_cons.mpr ⟨Or.inr (Or.inl ⟨rfl, List.forall_mem_cons.mpr ⟨⟨mok_X11_isSet, sok (y := yX11_isSet) rfl nmh_X11 rfl q_399 q_400 q_377⟩, fun _ z => absurd z List.not_mem_nil⟩⟩), List.forall_mem_cons.mpr ⟨Or.inl ⟨rfl, List.forall_mem_cons.mpr ⟨⟨mok_X7_putOut, RX7, Or.inr ⟨_, _, rfl⟩, vokA (y := yX7_putOut) rfl rfl nmh_X7 rfl q_401 q_291 q_292 q_114⟩, fun _ z => absurd z List.not_mem_nil⟩⟩, List.forall_mem_cons.mpr ⟨Or.inl ⟨rfl, List.forall_mem_cons.mpr ⟨⟨mok_X7_all, RX7, Or.inr ⟨_, _, rfl⟩, vokA (y := yX7_all) rfl rfl nmh_X7 rfl q_404 q_299 q_300 q_114⟩, fun _ z => absurd z List.not_mem_nil⟩⟩, List.forall_mem_cons.mpr ⟨Or.inl ⟨rfl, List.forall_mem_cons.mpr ⟨⟨mok_X7_held, RX7, Or.inr ⟨_, _, rfl⟩, vokA (y := yX7_held) rfl rfl nmh_X7 rfl q_405 q_406 q_407 q_114⟩, fun _ z => absurd z List.not_mem_nil⟩⟩, List.forall_mem_cons.mpr ⟨Or.inl ⟨rfl, List.forall_mem_cons.mpr ⟨⟨mok_X7_few, RX7, Or.inr ⟨_, _, rfl⟩, vokA (y := yX7_few) rfl rfl nmh_X7 rfl q_409 q_410 q_411 q_114⟩, fun _ z => absurd z List.not_mem_nil⟩⟩, List.forall_mem_cons.mpr ⟨Or.inl ⟨rfl, List.forall_mem_cons.mpr ⟨⟨mok_X11_toldLesson, RX11, Or.inr ⟨_, _, rfl⟩, vokA (y := yX11_toldLesson) rfl rfl nmh_X11 rfl q_412 q_413 q_414 q_377⟩, fun _ z => absurd z List.not_mem_nil⟩⟩, List.forall_mem_cons.mpr ⟨Or.inr (Or.inl ⟨rfl, List.forall_mem_cons.mpr ⟨⟨mok_X11_areTides, sok (y := yX11_areTides) rfl nmh_X11 rfl q_415 q_416 q_377⟩, fun _ z => absurd z List.not_mem_nil⟩⟩), List.forall_mem_cons.mpr ⟨Or.inl ⟨rfl, List.forall_mem_cons.mpr ⟨⟨mok_X1_forget, RX1, Or.inr ⟨_, _, rfl⟩, vokA (y := yX1_forget) rfl rfl nmh_X1 rfl q_417 q_418 q_419 q_123⟩, fun _ z => absurd z List.not_mem_nil⟩⟩, List.forall_mem_cons.mpr ⟨Or.inl ⟨rfl, List.forall_mem_cons.mpr ⟨⟨mok_X11_go, RX11, Or.inr ⟨_, _, rfl⟩, vokA (y := yX11_go) rfl rfl nmh_X11 rfl q_420 q_421 q_422 q_377⟩, fun _ z => absurd z List.not_mem_nil⟩⟩, List.forall_mem_cons.mpr ⟨Or.inl ⟨rfl, List.forall_mem_cons.mpr ⟨⟨mok_X7_becomeRow, RX7, Or.inr ⟨_, _, rfl⟩, vokA (y := yX7_becomeRow) rfl rfl nmh_X7 rfl q_423 q_275 q_276 q_114⟩, fun _ z => absurd z List.not_mem_nil⟩⟩, List.forall_mem_cons.mpr ⟨Or.inl ⟨rfl, List.forall_mem_cons.mpr ⟨⟨mok_X11_tidesAheadWith, RX11, Or.inr ⟨_, _, rfl⟩, vokA (y := yX11_tidesAheadWith) rfl rfl nmh_X11 rfl q_424 q_425 q_426 q_377⟩, fun _ z => absurd z List.not_mem_nil⟩⟩, List.forall_mem_cons.mpr ⟨Or.inl ⟨rfl, List.forall_mem_cons.mpr ⟨⟨mok_X11_heldIfTaught, RX11, Or.inr ⟨_, _, rfl⟩, vokA (y := yX11_heldIfTaught) rfl rfl nmh_X11 rfl q_427 q_428 q_429 q_377⟩, fun _ z => absurd z List.not_mem_nil⟩⟩, List.forall_mem_cons.mpr ⟨Or.inr (Or.inl ⟨rfl, List.forall_mem_cons.mpr ⟨⟨mok_X11_taughtAt, sok (y := yX11_taughtAt) rfl nmh_X11 rfl q_430 q_431 q_377⟩, fun _ z => absurd z List.not_mem_nil⟩⟩), List.forall_mem_cons.mpr ⟨Or.inl ⟨rfl, List.forall_mem_cons.mpr ⟨⟨mok_X11_tidesIfTold, RX11, Or.inr ⟨_, _, rfl⟩, vokA (y := yX11_tidesIfTold) rfl rfl nmh_X11 rfl q_433 q_434 q_435 q_377⟩, fun _ z => absurd z List.not_mem_nil⟩⟩, List.forall_mem_cons.mpr ⟨Or.inl ⟨rfl, List.forall_mem_cons.mpr ⟨⟨mok_X7_tellFact, RX7, Or.inr ⟨_, _, rfl⟩, vokA (y := yX7_tellFact) rfl rfl nmh_X7 rfl q_436 q_437 q_438 q_114⟩, fun _ z => absurd z List.not_mem_nil⟩⟩, List.forall_mem_cons.mpr ⟨Or.inl ⟨rfl, List.forall_mem_cons.mpr ⟨⟨mok_X7_lessonNow, RX7, Or.inr ⟨_, _, rfl⟩, vokA (y := yX7_lessonNow) rfl rfl nmh_X7 rfl q_439 q_440 q_441 q_114⟩, fun _ z => absurd z List.not_mem_nil⟩⟩, List.forall_mem_cons.mpr ⟨Or.inl ⟨rfl, List.forall_mem_cons.mpr ⟨⟨mok_X7_goTide, RX7, Or.inr ⟨_, _, rfl⟩, vokA (y := yX7_goTide) rfl rfl nmh_X7 rfl q_442 q_443 q_444 q_114⟩, fun _ z => absurd z List.not_mem_nil⟩⟩, List.forall_mem_cons.mpr ⟨Or.inl ⟨rfl, List.forall_mem_cons.mpr ⟨⟨mok_X8_empty, RX8, Or.inr ⟨_, _, rfl⟩, vokA (y := yX8_empty) rfl rfl nmh_X8 rfl q_446 q_447 q_448 q_286⟩, fun _ z => absurd z List.not_mem_nil⟩⟩, List.forall_mem_cons.mpr ⟨Or.inl ⟨rfl, List.forall_mem_cons.mpr ⟨⟨mok_X8_add, RX8, Or.inr ⟨_, _, rfl⟩, vokA (y := yX8_add) rfl rfl nmh_X8 rfl q_449 q_450 q_451 q_286⟩, fun _ z => absurd z List.not_mem_nil⟩⟩, List.forall_mem_cons.mpr ⟨Or.inr (Or.inl ⟨rfl, List.forall_mem_cons.mpr ⟨⟨mok_X11_isPart, sok (y := yX11_isPart) rfl nmh_X11 rfl q_452 q_453 q_377⟩, fun _ z => absurd z List.not_mem_nil⟩⟩), List.forall_mem_cons.mpr ⟨Or.inl ⟨rfl, List.forall_mem_cons.mpr ⟨⟨mok_X11_seenIsSo, RX11, Or.inr ⟨_, _, rfl⟩, vokA (y := yX11_seenIsSo) rfl rfl nmh_X11 rfl q_454 q_455 q_456 q_377⟩, fun _ z => absurd z List.not_mem_nil⟩⟩, List.forall_mem_cons.mpr ⟨Or.inl ⟨rfl, List.forall_mem_cons.mpr ⟨⟨mok_X7_lastSeen, RX7, Or.inr ⟨_, _, rfl⟩, vokA (y := yX7_lastSeen) rfl rfl nmh_X7 rfl q_457 q_458 q_459 q_114⟩, fun _ z => absurd z List.not_mem_nil⟩⟩, List.forall_mem_cons.mpr ⟨Or.inl ⟨rfl, List.forall_mem_cons.mpr ⟨⟨mok_X7_isAsSeen, RX7, Or.inr ⟨_, _, rfl⟩, vokA (y := yX7_isAsSeen) rfl rfl nmh_X7 rfl q_460 q_461 q_462 q_114⟩, fun _ z => absurd z List.not_mem_nil⟩⟩, List.forall_mem_cons.mpr ⟨Or.inl ⟨rfl, List.forall_mem_cons.mpr ⟨⟨mok_X7_notOut, RX7, Or.inr ⟨_, _, rfl⟩, vokA (y := yX7_notOut) rfl rfl nmh_X7 rfl q_464 q_465 q_466 q_114⟩, fun _ z => absurd z List.not_mem_nil⟩⟩, List.forall_mem_cons.mpr ⟨Or.inr (Or.inl ⟨rfl, List.forall_mem_cons.mpr ⟨⟨mok_X11_lowest, sok (y := yX11_lowest) rfl nmh_X11 rfl q_467 q_468 q_377⟩, fun _ z => absurd z List.not_mem_nil⟩⟩), List.forall_mem_cons.mpr ⟨Or.inl ⟨rfl, List.forall_mem_cons.mpr ⟨⟨mok_X11_isPlan, RX11, Or.inr ⟨_, _, rfl⟩, vokA (y := yX11_isPlan) rfl rfl nmh_X11 rfl q_470 q_471 q_472 q_377⟩, fun _ z => absurd z List.not_mem_nil⟩⟩, List.forall_mem_cons.mpr ⟨Or.inl ⟨rfl, List.forall_mem_cons.mpr ⟨⟨mok_X8_cell, RX8, Or.inr ⟨_, _, rfl⟩, vokA (y := yX8_cell) rfl rfl nmh_X8 rfl q_473 q_305 q_306 q_286⟩, fun _ z => absurd z List.not_mem_nil⟩⟩, List.forall_mem_cons.mpr ⟨Or.inl ⟨rfl, List.forall_mem_cons.mpr ⟨⟨mok_X11_doPlanned, RX11, Or.inr ⟨_, _, rfl⟩, vokA (y := yX11_doPlanned) rfl rfl nmh_X11 rfl q_474 q_475 q_476 q_377⟩, fun _ z => absurd z List.not_mem_nil⟩⟩, List.forall_mem_cons.mpr ⟨Or.inl ⟨rfl, List.forall_mem_cons.mpr ⟨⟨mok_X1_kindOf, RX1, Or.inr ⟨_, _, rfl⟩, vokA (y := yX1_kindOf) rfl rfl nmh_X1 rfl q_479 q_130 q_131 q_123⟩, fun _ z => absurd z List.not_mem_nil⟩⟩, List.forall_mem_cons.mpr ⟨Or.inl ⟨rfl, List.forall_mem_cons.mpr ⟨⟨mok_X10_wake, RX0, Or.inr ⟨_, _, rfl⟩, vokU (x := yX10_wake) (y := yX10_wake) rfl rfl nmh_X10 rfl q_480 q_481 q_482 q_483 q_99⟩, List.forall_mem_cons.mpr ⟨⟨mok_X10_wake, RX2, Or.inr ⟨_, _, rfl⟩, vokU (x := yX10_wake) (y := yX10_wake) rfl rfl nmh_X10 rfl q_480 q_481 q_484 q_483 q_99⟩, List.forall_mem_cons.mpr ⟨⟨mok_X10_wake, RX3, Or.inr ⟨_, _, rfl⟩, vokU (x := yX10_wake) (y := yX10_wake) rfl rfl nmh_X10 rfl q_480 q_481 q_485 q_483 q_99⟩, List.forall_mem_cons.mpr ⟨⟨mok_X10_wake, RX5, Or.inr ⟨_, _, rfl⟩, vokU (x := yX10_wake) (y := yX10_wake) rfl rfl nmh_X10 rfl q_480 q_481 q_486 q_483 q_99⟩, List.forall_mem_cons.mpr ⟨⟨mok_X10_wake, RX6, Or.inr ⟨_, _, rfl⟩, vokU (x := yX10_wake) (y := yX10_wake) rfl rfl nmh_X10 rfl q_480 q_481 q_487 q_483 q_99⟩, List.forall_mem_cons.mpr ⟨⟨mok_X10_wake, RX9, Or.inr ⟨_, _, rfl⟩, vokU (x := yX10_wake) (y := yX10_wake) rfl rfl nmh_X10 rfl q_480 q_481 q_488 q_483 q_99⟩, List.forall_mem_cons.mpr ⟨⟨mok_X10_wake, RX10, Or.inr ⟨_, _, rfl⟩, vokA (y := yX10_wake) rfl rfl nmh_X10 rfl q_480 q_483 q_489 q_99⟩, fun _ z => absurd z List.not_mem_nil⟩⟩⟩⟩⟩⟩⟩⟩, List.forall_mem_cons.mpr ⟨Or.inl ⟨rfl, List.forall_mem_cons.mpr ⟨⟨mok_X10_leans, RX0, Or.inr ⟨_, _, rfl⟩, vokU (x := yX10_leans) (y := yX10_leans) rfl rfl nmh_X10 rfl q_490 q_180 q_345 q_182 q_99⟩, List.forall_mem_cons.mpr ⟨⟨mok_X10_leans, RX2, Or.inr ⟨_, _, rfl⟩, vokU (x := yX10_leans) (y := yX10_leans) rfl rfl nmh_X10 rfl q_490 q_180 q_346 q_182 q_99⟩, List.forall_mem_cons.mpr ⟨⟨mok_X3_leans, RX3, Or.inr ⟨_, _, rfl⟩, vokO (x := yX10_leans) (y := yX3_leans) rfl nmh_X10 rfl q_490 q_180 q_182 q_347 q_254 q_147 cw_X10_leans⟩, List.forall_mem_cons.mpr ⟨⟨mok_X3_leans, RX5, Or.inr ⟨_, _, rfl⟩, vokO (x := yX10_leans) (y := yX3_leans) rfl nmh_X10 rfl q_490 q_180 q_182 q_348 q_254 q_147 cw_X10_leans⟩, List.forall_mem_cons.mpr ⟨⟨mok_X6_leans, RX6, Or.inr ⟨_, _, rfl⟩, vokO (x := yX10_leans) (y := yX6_leans) rfl nmh_X10 rfl q_490 q_180 q_182 q_349 q_350 q_153 cw_X10_leans⟩, List.forall_mem_cons.mpr ⟨⟨mok_X10_leans, RX9, Or.inr ⟨_, _, rfl⟩, vokU (x := yX10_leans) (y := yX10_leans) rfl rfl nmh_X10 rfl q_490 q_180 q_351 q_182 q_99⟩, List.forall_mem_cons.mpr ⟨⟨mok_X10_leans, RX10, Or.inr ⟨_, _, rfl⟩, vokA (y := yX10_leans) rfl rfl nmh_X10 rfl q_490 q_182 q_352 q_99⟩, fun _ z => absurd z List.not_mem_nil⟩⟩⟩⟩⟩⟩⟩⟩, List.forall_mem_cons.mpr ⟨Or.inl ⟨rfl, List.forall_mem_cons.mpr ⟨⟨mok_X10_says, RX0, Or.inr ⟨_, _, rfl⟩, vokU (x := yX10_says) (y := yX10_says) rfl rfl nmh_X10 rfl q_491 q_172 q_354 q_174 q_99⟩, List.forall_mem_cons.mpr ⟨⟨mok_X2_says, RX2, Or.inr ⟨_, _, rfl⟩, vokO (x := yX10_says) (y := yX2_says) rfl nmh_X10 rfl q_491 q_172 q_174 q_355 q_356 q_144 cw_X10_says⟩, List.forall_mem_cons.mpr ⟨⟨mok_X10_says, RX3, Or.inr ⟨_, _, rfl⟩, vokU (x := yX10_says) (y := yX10_says) rfl rfl nmh_X10 rfl q_491 q_172 q_357 q_174 q_99⟩, List.forall_mem_cons.mpr ⟨⟨mok_X10_says, RX5, Or.inr ⟨_, _, rfl⟩, vokU (x := yX10_says) (y := yX10_says) rfl rfl nmh_X10 rfl q_491 q_172 q_358 q_174 q_99⟩, List.forall_mem_cons.mpr ⟨⟨mok_X2_says, RX6, Or.inr ⟨_, _, rfl⟩, vokO (x := yX10_says) (y := yX2_says) rfl nmh_X10 rfl q_491 q_172 q_174 q_359 q_356 q_144 cw_X10_says⟩, List.forall_mem_cons.mpr ⟨⟨mok_X9_says, RX9, Or.inr ⟨_, _, rfl⟩, vokO (x := yX10_says) (y := yX9_says) rfl nmh_X10 rfl q_491 q_172 q_174 q_360 q_361 q_156 cw_X10_says⟩, List.forall_mem_cons.mpr ⟨⟨mok_X10_says, RX10, Or.inr ⟨_, _, rfl⟩, vokA (y := yX10_says) rfl rfl nmh_X10 rfl q_491 q_174 q_362 q_99⟩, fun _ z => absurd z List.not_mem_nil⟩⟩⟩⟩⟩⟩⟩⟩, List.forall_mem_cons.mpr ⟨Or.inl ⟨rfl, List.forall_mem_cons.mpr ⟨⟨mok_X0_bristles, RX0, Or.inr ⟨_, _, rfl⟩, vokO (x := yX10_bristles) (y := yX0_bristles) rfl nmh_X10 rfl q_492 q_102 q_104 q_493 q_494 q_141 cw_X10_bristles⟩, List.forall_mem_cons.mpr ⟨⟨mok_X10_bristles, RX2, Or.inr ⟨_, _, rfl⟩, vokU (x := yX10_bristles) (y := yX10_bristles) rfl rfl nmh_X10 rfl q_492 q_102 q_495 q_104 q_99⟩, List.forall_mem_cons.mpr ⟨⟨mok_X10_bristles, RX3, Or.inr ⟨_, _, rfl⟩, vokU (x := yX10_bristles) (y := yX10_bristles) rfl rfl nmh_X10 rfl q_492 q_102 q_496 q_104 q_99⟩, List.forall_mem_cons.mpr ⟨⟨mok_X5_bristles, RX5, Or.inr ⟨_, _, rfl⟩, vokO (x := yX10_bristles) (y := yX5_bristles) rfl nmh_X10 rfl q_492 q_102 q_104 q_497 q_498 q_150 cw_X10_bristles⟩, List.forall_mem_cons.mpr ⟨⟨mok_X10_bristles, RX6, Or.inr ⟨_, _, rfl⟩, vokU (x := yX10_bristles) (y := yX10_bristles) rfl rfl nmh_X10 rfl q_492 q_102 q_499 q_104 q_99⟩, List.forall_mem_cons.mpr ⟨⟨mok_X0_bristles, RX9, Or.inr ⟨_, _, rfl⟩, vokO (x := yX10_bristles) (y := yX0_bristles) rfl nmh_X10 rfl q_492 q_102 q_104 q_500 q_494 q_141 cw_X10_bristles⟩, List.forall_mem_cons.mpr ⟨⟨mok_X10_bristles, RX10, Or.inr ⟨_, _, rfl⟩, vokA (y := yX10_bristles) rfl rfl nmh_X10 rfl q_492 q_104 q_501 q_99⟩, fun _ z => absurd z List.not_mem_nil⟩⟩⟩⟩⟩⟩⟩⟩, List.forall_mem_cons.mpr ⟨Or.inl ⟨rfl, List.forall_mem_cons.mpr ⟨⟨mok_X10_bodyAt, RX0, Or.inr ⟨_, _, rfl⟩, vokU (x := yX10_bodyAt) (y := yX10_bodyAt) rfl rfl nmh_X10 rfl q_502 q_503 q_504 q_505 q_99⟩, List.forall_mem_cons.mpr ⟨⟨mok_X10_bodyAt, RX2, Or.inr ⟨_, _, rfl⟩, vokU (x := yX10_bodyAt) (y := yX10_bodyAt) rfl rfl nmh_X10 rfl q_502 q_503 q_506 q_505 q_99⟩, List.forall_mem_cons.mpr ⟨⟨mok_X10_bodyAt, RX3, Or.inr ⟨_, _, rfl⟩, vokU (x := yX10_bodyAt) (y := yX10_bodyAt) rfl rfl nmh_X10 rfl q_502 q_503 q_507 q_505 q_99⟩, List.forall_mem_cons.mpr ⟨⟨mok_X10_bodyAt, RX5, Or.inr ⟨_, _, rfl⟩, vokU (x := yX10_bodyAt) (y := yX10_bodyAt) rfl rfl nmh_X10 rfl q_502 q_503 q_508 q_505 q_99⟩, List.forall_mem_cons.mpr ⟨⟨mok_X10_bodyAt, RX6, Or.inr ⟨_, _, rfl⟩, vokU (x := yX10_bodyAt) (y := yX10_bodyAt) rfl rfl nmh_X10 rfl q_502 q_503 q_509 q_505 q_99⟩, List.forall_mem_cons.mpr ⟨⟨mok_X10_bodyAt, RX9, Or.inr ⟨_, _, rfl⟩, vokU (x := yX10_bodyAt) (y := yX10_bodyAt) rfl rfl nmh_X10 rfl q_502 q_503 q_510 q_505 q_99⟩, List.forall_mem_cons.mpr ⟨⟨mok_X10_bodyAt, RX10, Or.inr ⟨_, _, rfl⟩, vokA (y := yX10_bodyAt) rfl rfl nmh_X10 rfl q_502 q_505 q_511 q_99⟩, fun _ z => absurd z List.not_mem_nil⟩⟩⟩⟩⟩⟩⟩⟩, List.forall_mem_cons.mpr ⟨Or.inl ⟨rfl, List.forall_mem_cons.mpr ⟨⟨mok_X7_become, RX7, Or.inr ⟨_, _, rfl⟩, vokA (y := yX7_become) rfl rfl nmh_X7 rfl q_513 q_514 q_515 q_114⟩, fun _ z => absurd z List.not_mem_nil⟩⟩, fun _ z => absurd z List.not_mem_nil⟩⟩⟩⟩⟩⟩⟩⟩⟩⟩⟩⟩⟩⟩⟩⟩⟩⟩⟩⟩⟩⟩⟩⟩⟩⟩⟩⟩⟩⟩⟩⟩⟩⟩⟩⟩⟩⟩⟩⟩⟩⟩⟩⟩
theorem far_X11 (fv : Value) : FarOK TB (XR fv) RX11 (P_X11) := ⟨farN (by decide +kernel), List.forall_mem_cons.mpr ⟨Or.inl ⟨rfl, List.mem_cons_of_mem _ (List.mem_cons_of_mem _ (List.mem_cons_of_mem _ (List.mem_cons_of_mem _ (List.mem_cons_of_mem _ (List.mem_cons_of_mem _ (List.mem_cons_self))))))⟩, fun _ z => absurd z List.not_mem_nil⟩, List.forall_mem_cons.mpr ⟨q_382, List.forall_mem_cons.mpr ⟨q_387, List.forall_mem_cons.mpr ⟨q_463, List.forall_mem_cons.mpr ⟨q_517, fun _ z => absurd z List.not_mem_nil⟩⟩⟩⟩, List.forall_mem_cons.mpr ⟨⟨_, _, _, List.mem_cons_self, q_512⟩, fun _ z => absurd z List.not_mem_nil⟩⟩
theorem tab_X11 {fv : Value} (h : FV fv) : TabOK TB mt vwCl (XR fv) RX11 (P_X11) := ⟨by decide, XR_ok h, XR_str, TB_ok, cls_ok, fld_X11, far_X11 fv, cpo_X11⟩
def P_X12 : Pool := ([(9, 1, 9, [12]), (15, 2, 9, [12]), (18, 3, 9, [12]), (21, 10, 9, [12]), (24, 11, 9, [12]), (28, 12, 9, [12]), (31, 13, 9, [12]), (34, 15, 9, [12]), (37, 16, 9, [12]), (48, 6, 0, [12]), (51, 7, 0, [12]), (54, 8, 1, [12]), (75, 5, 0, [12]), (78, 9, 0, [12]), (130, 14, 0, [12]), (231, 17, 0, [12]), (237, 19, 0, [12]), (240, 18, 0, [12]), (252, 20, 0, [12]), (267, 4, 1, [12])],
  [(44, 1, 3, [(0, jX12_in)]),
   (58, 0, 0, [(12, jX12_here)]),
   (62, 0, 0, [(50, jJ0_length_8abf5)]),
   (67, 0, 1, [(50, jJ0_charAt_5068e)]),
   (71, 0, 1, [(12, jX12_must)]),
   (81, 0, 0, [(12, jX12_factor)]),
   (84, 0, 1, [(12, jX12_emits)]),
   (87, 0, 0, [(12, jX12_some)]),
   (92, 0, 1, [(12, jX12_among)]),
   (98, 0, 0, [(12, jX12_figures)]),
   (101, 0, 0, [(12, jX12_every)]),
   (104, 0, 1, [(12, jX12_spells)]),
   (110, 0, 2, [(12, jX12_tellsHere)]),
   (118, 0, 2, [(12, jX12_much)]),
   (123, 0, 0, [(12, jX12_clauseHere)]),
   (126, 0, 2, [(12, jX12_tellsOf)]),
   (133, 1, 1, [(0, jX12_countOf)]),
   (137, 0, 4, [(12, jX12_clausesOf)]),
   (141, 0, 2, [(12, jX12_sumOf)]),
   (144, 0, 1, [(12, jX12_isUrchin)]),
   (149, 0, 0, [(12, jX12_looksAnew)]),
   (152, 1, 1, [(0, jX12_isFact)]),
   (155, 0, 2, [(12, jX12_heedOf)]),
   (158, 0, 2, [(12, jX12_becomes)]),
   (161, 0, 0, [(12, jX12_awayOnes)]),
   (164, 0, 1, [(12, jX12_knownBy)]),
   (167, 0, 0, [(12, jX12_knownByAny)]),
   (170, 0, 0, [(12, jX12_heldByAll)]),
   (173, 0, 0, [(12, jX12_fewest)]),
   (176, 0, 2, [(12, jX12_isPassed)]),
   (180, 0, 3, [(12, jX12_isKnownNext)]),
   (183, 0, 2, [(12, jX12_knownNext)]),
   (186, 0, 1, [(12, jX12_goesBy)]),
   (189, 0, 0, [(12, jX12_goes)]),
   (192, 0, 1, [(12, jX12_goesOn)]),
   (195, 0, 0, [(12, jX12_keeps)]),
   (198, 0, 0, [(12, jX12_goesBack)]),
   (201, 0, 1, [(12, jX12_tidesKnown)]),
   (204, 0, 2, [(12, jX12_heldBehind)]),
   (207, 0, 1, [(12, jX12_isAsSeen)]),
   (210, 0, 0, [(12, jX12_areAsSeen)]),
   (214, 0, 3, [(12, jX12_fitting)]),
   (220, 1, 3, [(0, jX12_lowest)]),
   (224, 0, 2, [(12, jX12_isPlan)]),
   (227, 0, 2, [(12, jX12_does)]),
   (234, 0, 1, [(12, jX12_ranBody)]),
   (243, 1, 2, [(0, jX12_isUnder)]),
   (246, 0, 1, [(12, jX12_plainLeans)]),
   (249, 0, 1, [(12, jX12_leansActs)]),
   (255, 0, 1, [(12, jX12_plainSays)]),
   (258, 0, 1, [(12, jX12_saysActs)]),
   (261, 0, 1, [(12, jX12_plainTelling)]),
   (264, 0, 1, [(12, jX12_bristlesActs)])],
  [(90, .ref 1004), (96, .ref 1005), (108, .ref 1000), (114, .ref 1001), (116, .ref 1002), (121, .ref 1003), (148, .int (-999999)), (218, .long (-9223372036854775808))], [], [], [])
theorem fld_X12 : FldOK TB nestW vwCl RX12 (P_X12) := List.forall_mem_cons.mpr ⟨List.forall_mem_cons.mpr ⟨Or.inr ⟨RX12, TX12, 21, rfl, by decide, ⟨RX12, Or.inl q_518, Or.inl rfl⟩, Or.inl rfl⟩, fun _ z => absurd z List.not_mem_nil⟩, List.forall_mem_cons.mpr ⟨List.forall_mem_cons.mpr ⟨Or.inr ⟨RX12, TX12, 21, rfl, by decide, ⟨RX12, Or.inl q_519, Or.inl rfl⟩, Or.inl rfl⟩, fun _ z => absurd z List.not_mem_nil⟩, List.forall_mem_cons.mpr ⟨List.forall_mem_cons.mpr ⟨Or.inr ⟨RX12, TX12, 21, rfl, by decide, ⟨RX12, Or.inl q_520, Or.inl rfl⟩, Or.inl rfl⟩, fun _ z => absurd z List.not_mem_nil⟩, List.forall_mem_cons.mpr ⟨List.forall_mem_cons.mpr ⟨Or.inr ⟨RX12, TX12, 21, rfl, by decide, ⟨RX12, Or.inl q_521, Or.inl rfl⟩, Or.inl rfl⟩, fun _ z => absurd z List.not_mem_nil⟩, List.forall_mem_cons.mpr ⟨List.forall_mem_cons.mpr ⟨Or.inr ⟨RX12, TX12, 21, rfl, by decide, ⟨RX12, Or.inl q_522, Or.inl rfl⟩, Or.inl rfl⟩, fun _ z => absurd z List.not_mem_nil⟩, List.forall_mem_cons.mpr ⟨List.forall_mem_cons.mpr ⟨Or.inr ⟨RX12, TX12, 21, rfl, by decide, ⟨RX12, Or.inl q_523, Or.inl rfl⟩, Or.inl rfl⟩, fun _ z => absurd z List.not_mem_nil⟩, List.forall_mem_cons.mpr ⟨List.forall_mem_cons.mpr ⟨Or.inr ⟨RX12, TX12, 21, rfl, by decide, ⟨RX12, Or.inl q_524, Or.inl rfl⟩, Or.inl rfl⟩, fun _ z => absurd z List.not_mem_nil⟩, List.forall_mem_cons.mpr ⟨List.forall_mem_cons.mpr ⟨Or.inr ⟨RX12, TX12, 21, rfl, by decide, ⟨RX12, Or.inl q_525, Or.inl rfl⟩, Or.inl rfl⟩, fun _ z => absurd z List.not_mem_nil⟩, List.forall_mem_cons.mpr ⟨List.forall_mem_cons.mpr ⟨Or.inr ⟨RX12, TX12, 21, rfl, by decide, ⟨RX12, Or.inl q_526, Or.inl rfl⟩, Or.inl rfl⟩, fun _ z => absurd z List.not_mem_nil⟩, List.forall_mem_cons.mpr ⟨List.forall_mem_cons.mpr ⟨Or.inr ⟨RX12, TX12, 21, rfl, by decide, ⟨RX12, Or.inl q_530, Or.inl rfl⟩, Or.inr ⟨rfl, tyX12 6, tyX12_ok 6 (by decide), rfl⟩⟩, fun _ z => absurd z List.not_mem_nil⟩, List.forall_mem_cons.mpr ⟨List.forall_mem_cons.mpr ⟨Or.inr ⟨RX12, TX12, 21, rfl, by decide, ⟨RX12, Or.inl q_531, Or.inl rfl⟩, Or.inr ⟨rfl, tyX12 7, tyX12_ok 7 (by decide), rfl⟩⟩, fun _ z => absurd z List.not_mem_nil⟩, List.forall_mem_cons.mpr ⟨List.forall_mem_cons.mpr ⟨Or.inr ⟨RX12, TX12, 21, rfl, by decide, ⟨RX12, Or.inl q_532, Or.inl rfl⟩, Or.inr ⟨rfl, tyX12 8, tyX12_ok 8 (by decide), rfl⟩⟩, fun _ z => absurd z List.not_mem_nil⟩, List.forall_mem_cons.mpr ⟨List.forall_mem_cons.mpr ⟨Or.inr ⟨RX12, TX12, 21, rfl, by decide, ⟨RX12, Or.inl q_541, Or.inl rfl⟩, Or.inr ⟨rfl, tyX12 5, tyX12_ok 5 (by decide), rfl⟩⟩, fun _ z => absurd z List.not_mem_nil⟩, List.forall_mem_cons.mpr ⟨List.forall_mem_cons.mpr ⟨Or.inr ⟨RX12, TX12, 21, rfl, by decide, ⟨RX12, Or.inl q_542, Or.inl rfl⟩, Or.inr ⟨rfl, tyX12 9, tyX12_ok 9 (by decide), rfl⟩⟩, fun _ z => absurd z List.not_mem_nil⟩, List.forall_mem_cons.mpr ⟨List.forall_mem_cons.mpr ⟨Or.inr ⟨RX12, TX12, 21, rfl, by decide, ⟨RX12, Or.inl q_576, Or.inl rfl⟩, Or.inr ⟨rfl, tyX12 14, tyX12_ok 14 (by decide), rfl⟩⟩, fun _ z => absurd z List.not_mem_nil⟩, List.forall_mem_cons.mpr ⟨List.forall_mem_cons.mpr ⟨Or.inr ⟨RX12, TX12, 21, rfl, by decide, ⟨RX12, Or.inl q_663, Or.inl rfl⟩, Or.inr ⟨rfl, tyX12 17, tyX12_ok 17 (by decide), rfl⟩⟩, fun _ z => absurd z List.not_mem_nil⟩, List.forall_mem_cons.mpr ⟨List.forall_mem_cons.mpr ⟨Or.inr ⟨RX12, TX12, 21, rfl, by decide, ⟨RX12, Or.inl q_667, Or.inl rfl⟩, Or.inr ⟨rfl, tyX12 19, tyX12_ok 19 (by decide), rfl⟩⟩, fun _ z => absurd z List.not_mem_nil⟩, List.forall_mem_cons.mpr ⟨List.forall_mem_cons.mpr ⟨Or.inr ⟨RX12, TX12, 21, rfl, by decide, ⟨RX12, Or.inl q_668, Or.inl rfl⟩, Or.inr ⟨rfl, tyX12 18, tyX12_ok 18 (by decide), rfl⟩⟩, fun _ z => absurd z List.not_mem_nil⟩, List.forall_mem_cons.mpr ⟨List.forall_mem_cons.mpr ⟨Or.inr ⟨RX12, TX12, 21, rfl, by decide, ⟨RX12, Or.inl q_677, Or.inl rfl⟩, Or.inr ⟨rfl, tyX12 20, tyX12_ok 20 (by decide), rfl⟩⟩, fun _ z => absurd z List.not_mem_nil⟩, List.forall_mem_cons.mpr ⟨List.forall_mem_cons.mpr ⟨Or.inr ⟨RX12, TX12, 21, rfl, by decide, ⟨RX12, Or.inl q_690, Or.inl rfl⟩, Or.inr ⟨rfl, tyX12 4, tyX12_ok 4 (by decide), rfl⟩⟩, fun _ z => absurd z List.not_mem_nil⟩, fun _ z => absurd z List.not_mem_nil⟩⟩⟩⟩⟩⟩⟩⟩⟩⟩⟩⟩⟩⟩⟩⟩⟩⟩⟩⟩
set_option maxRecDepth 4000 in
theorem cpo_X12 : CpOK TB mt vwCl RX12 (P_X12) := List.forall_mem_cons.mpr ⟨Or.inr (Or.inl ⟨rfl, List.forall_mem_cons.mpr ⟨⟨mok_X12_in, sok (y := yX12_in) rfl nmh_X12 rfl q_527 q_528 q_529⟩, fun _ z => absurd z List.not_mem_nil⟩⟩), List.forall_mem_cons.mpr ⟨Or.inl ⟨rfl, List.forall_mem_cons.mpr ⟨⟨mok_X12_here, RX12, Or.inr ⟨_, _, rfl⟩, vokA (y := yX12_here) rfl rfl nmh_X12 rfl q_533 q_534 q_535 q_529⟩, fun _ z => absurd z List.not_mem_nil⟩⟩, List.forall_mem_cons.mpr ⟨Or.inl ⟨rfl, List.forall_mem_cons.mpr ⟨⟨mok_J0_length_8abf5, RJ0, Or.inl ⟨rfl, rfl⟩, vokA (y := yJ0_length_8abf5) rfl rfl nmh_J0 rfl q_536 q_234 q_235 q_230⟩, fun _ z => absurd z List.not_mem_nil⟩⟩, List.forall_mem_cons.mpr ⟨Or.inl ⟨rfl, List.forall_mem_cons.mpr ⟨⟨mok_J0_charAt_5068e, RJ0, Or.inl ⟨rfl, rfl⟩, vokA (y := yJ0_charAt_5068e) rfl rfl nmh_J0 rfl q_537 q_237 q_238 q_230⟩, fun _ z => absurd z List.not_mem_nil⟩⟩, List.forall_mem_cons.mpr ⟨Or.inl ⟨rfl, List.forall_mem_cons.mpr ⟨⟨mok_X12_must, RX12, Or.inr ⟨_, _, rfl⟩, vokA (y := yX12_must) rfl rfl nmh_X12 rfl q_538 q_539 q_540 q_529⟩, fun _ z => absurd z List.not_mem_nil⟩⟩, List.forall_mem_cons.mpr ⟨Or.inl ⟨rfl, List.forall_mem_cons.mpr ⟨⟨mok_X12_factor, RX12, Or.inr ⟨_, _, rfl⟩, vokA (y := yX12_factor) rfl rfl nmh_X12 rfl q_543 q_544 q_545 q_529⟩, fun _ z => absurd z List.not_mem_nil⟩⟩, List.forall_mem_cons.mpr ⟨Or.inl ⟨rfl, List.forall_mem_cons.mpr ⟨⟨mok_X12_emits, RX12, Or.inr ⟨_, _, rfl⟩, vokA (y := yX12_emits) rfl rfl nmh_X12 rfl q_546 q_547 q_548 q_529⟩, fun _ z => absurd z List.not_mem_nil⟩⟩, List.forall_mem_cons.mpr ⟨Or.inl ⟨rfl, List.forall_mem_cons.mpr ⟨⟨mok_X12_some, RX12, Or.inr ⟨_, _, rfl⟩, vokA (y := yX12_some) rfl rfl nmh_X12 rfl q_549 q_550 q_551 q_529⟩, fun _ z => absurd z List.not_mem_nil⟩⟩, List.forall_mem_cons.mpr ⟨Or.inl ⟨rfl, List.forall_mem_cons.mpr ⟨⟨mok_X12_among, RX12, Or.inr ⟨_, _, rfl⟩, vokA (y := yX12_among) rfl rfl nmh_X12 rfl q_552 q_553 q_554 q_529⟩, fun _ z => absurd z List.not_mem_nil⟩⟩, List.forall_mem_cons.mpr ⟨Or.inl ⟨rfl, List.forall_mem_cons.mpr ⟨⟨mok_X12_figures, RX12, Or.inr ⟨_, _, rfl⟩, vokA (y := yX12_figures) rfl rfl nmh_X12 rfl q_555 q_556 q_557 q_529⟩, fun _ z => absurd z List.not_mem_nil⟩⟩, List.forall_mem_cons.mpr ⟨Or.inl ⟨rfl, List.forall_mem_cons.mpr ⟨⟨mok_X12_every, RX12, Or.inr ⟨_, _, rfl⟩, vokA (y := yX12_every) rfl rfl nmh_X12 rfl q_558 q_559 q_560 q_529⟩, fun _ z => absurd z List.not_mem_nil⟩⟩, List.forall_mem_cons.mpr ⟨Or.inl ⟨rfl, List.forall_mem_cons.mpr ⟨⟨mok_X12_spells, RX12, Or.inr ⟨_, _, rfl⟩, vokA (y := yX12_spells) rfl rfl nmh_X12 rfl q_561 q_562 q_563 q_529⟩, fun _ z => absurd z List.not_mem_nil⟩⟩, List.forall_mem_cons.mpr ⟨Or.inl ⟨rfl, List.forall_mem_cons.mpr ⟨⟨mok_X12_tellsHere, RX12, Or.inr ⟨_, _, rfl⟩, vokA (y := yX12_tellsHere) rfl rfl nmh_X12 rfl q_564 q_565 q_566 q_529⟩, fun _ z => absurd z List.not_mem_nil⟩⟩, List.forall_mem_cons.mpr ⟨Or.inl ⟨rfl, List.forall_mem_cons.mpr ⟨⟨mok_X12_much, RX12, Or.inr ⟨_, _, rfl⟩, vokA (y := yX12_much) rfl rfl nmh_X12 rfl q_567 q_568 q_569 q_529⟩, fun _ z => absurd z List.not_mem_nil⟩⟩, List.forall_mem_cons.mpr ⟨Or.inl ⟨rfl, List.forall_mem_cons.mpr ⟨⟨mok_X12_clauseHere, RX12, Or.inr ⟨_, _, rfl⟩, vokA (y := yX12_clauseHere) rfl rfl nmh_X12 rfl q_570 q_571 q_572 q_529⟩, fun _ z => absurd z List.not_mem_nil⟩⟩, List.forall_mem_cons.mpr ⟨Or.inl ⟨rfl, List.forall_mem_cons.mpr ⟨⟨mok_X12_tellsOf, RX12, Or.inr ⟨_, _, rfl⟩, vokA (y := yX12_tellsOf) rfl rfl nmh_X12 rfl q_573 q_574 q_575 q_529⟩, fun _ z => absurd z List.not_mem_nil⟩⟩, List.forall_mem_cons.mpr ⟨Or.inr (Or.inl ⟨rfl, List.forall_mem_cons.mpr ⟨⟨mok_X12_countOf, sok (y := yX12_countOf) rfl nmh_X12 rfl q_577 q_578 q_529⟩, fun _ z => absurd z List.not_mem_nil⟩⟩), List.forall_mem_cons.mpr ⟨Or.inl ⟨rfl, List.forall_mem_cons.mpr ⟨⟨mok_X12_clausesOf, RX12, Or.inr ⟨_, _, rfl⟩, vokA (y := yX12_clausesOf) rfl rfl nmh_X12 rfl q_579 q_580 q_581 q_529⟩, fun _ z => absurd z List.not_mem_nil⟩⟩, List.forall_mem_cons.mpr ⟨Or.inl ⟨rfl, List.forall_mem_cons.mpr ⟨⟨mok_X12_sumOf, RX12, Or.inr ⟨_, _, rfl⟩, vokA (y := yX12_sumOf) rfl rfl nmh_X12 rfl q_582 q_583 q_584 q_529⟩, fun _ z => absurd z List.not_mem_nil⟩⟩, List.forall_mem_cons.mpr ⟨Or.inl ⟨rfl, List.forall_mem_cons.mpr ⟨⟨mok_X12_isUrchin, RX12, Or.inr ⟨_, _, rfl⟩, vokA (y := yX12_isUrchin) rfl rfl nmh_X12 rfl q_585 q_586 q_587 q_529⟩, fun _ z => absurd z List.not_mem_nil⟩⟩, List.forall_mem_cons.mpr ⟨Or.inl ⟨rfl, List.forall_mem_cons.mpr ⟨⟨mok_X12_looksAnew, RX12, Or.inr ⟨_, _, rfl⟩, vokA (y := yX12_looksAnew) rfl rfl nmh_X12 rfl q_589 q_590 q_591 q_529⟩, fun _ z => absurd z List.not_mem_nil⟩⟩, List.forall_mem_cons.mpr ⟨Or.inr (Or.inl ⟨rfl, List.forall_mem_cons.mpr ⟨⟨mok_X12_isFact, sok (y := yX12_isFact) rfl nmh_X12 rfl q_592 q_593 q_529⟩, fun _ z => absurd z List.not_mem_nil⟩⟩), List.forall_mem_cons.mpr ⟨Or.inl ⟨rfl, List.forall_mem_cons.mpr ⟨⟨mok_X12_heedOf, RX12, Or.inr ⟨_, _, rfl⟩, vokA (y := yX12_heedOf) rfl rfl nmh_X12 rfl q_594 q_595 q_596 q_529⟩, fun _ z => absurd z List.not_mem_nil⟩⟩, List.forall_mem_cons.mpr ⟨Or.inl ⟨rfl, List.forall_mem_cons.mpr ⟨⟨mok_X12_becomes, RX12, Or.inr ⟨_, _, rfl⟩, vokA (y := yX12_becomes) rfl rfl nmh_X12 rfl q_597 q_598 q_599 q_529⟩, fun _ z => absurd z List.not_mem_nil⟩⟩, List.forall_mem_cons.mpr ⟨Or.inl ⟨rfl, List.forall_mem_cons.mpr ⟨⟨mok_X12_awayOnes, RX12, Or.inr ⟨_, _, rfl⟩, vokA (y := yX12_awayOnes) rfl rfl nmh_X12 rfl q_600 q_601 q_602 q_529⟩, fun _ z => absurd z List.not_mem_nil⟩⟩, List.forall_mem_cons.mpr ⟨Or.inl ⟨rfl, List.forall_mem_cons.mpr ⟨⟨mok_X12_knownBy, RX12, Or.inr ⟨_, _, rfl⟩, vokA (y := yX12_knownBy) rfl rfl nmh_X12 rfl q_603 q_604 q_605 q_529⟩, fun _ z => absurd z List.not_mem_nil⟩⟩, List.forall_mem_cons.mpr ⟨Or.inl ⟨rfl, List.forall_mem_cons.mpr ⟨⟨mok_X12_knownByAny, RX12, Or.inr ⟨_, _, rfl⟩, vokA (y := yX12_knownByAny) rfl rfl nmh_X12 rfl q_606 q_607 q_608 q_529⟩, fun _ z => absurd z List.not_mem_nil⟩⟩, List.forall_mem_cons.mpr ⟨Or.inl ⟨rfl, List.forall_mem_cons.mpr ⟨⟨mok_X12_heldByAll, RX12, Or.inr ⟨_, _, rfl⟩, vokA (y := yX12_heldByAll) rfl rfl nmh_X12 rfl q_609 q_610 q_611 q_529⟩, fun _ z => absurd z List.not_mem_nil⟩⟩, List.forall_mem_cons.mpr ⟨Or.inl ⟨rfl, List.forall_mem_cons.mpr ⟨⟨mok_X12_fewest, RX12, Or.inr ⟨_, _, rfl⟩, vokA (y := yX12_fewest) rfl rfl nmh_X12 rfl q_612 q_613 q_614 q_529⟩, fun _ z => absurd z List.not_mem_nil⟩⟩, List.forall_mem_cons.mpr ⟨Or.inl ⟨rfl, List.forall_mem_cons.mpr ⟨⟨mok_X12_isPassed, RX12, Or.inr ⟨_, _, rfl⟩, vokA (y := yX12_isPassed) rfl rfl nmh_X12 rfl q_615 q_616 q_617 q_529⟩, fun _ z => absurd z List.not_mem_nil⟩⟩, List.forall_mem_cons.mpr ⟨Or.inl ⟨rfl, List.forall_mem_cons.mpr ⟨⟨mok_X12_isKnownNext, RX12, Or.inr ⟨_, _, rfl⟩, vokA (y := yX12_isKnownNext) rfl rfl nmh_X12 rfl q_618 q_619 q_620 q_529⟩, fun _ z => absurd z List.not_mem_nil⟩⟩, List.forall_mem_cons.mpr ⟨Or.inl ⟨rfl, List.forall_mem_cons.mpr ⟨⟨mok_X12_knownNext, RX12, Or.inr ⟨_, _, rfl⟩, vokA (y := yX12_knownNext) rfl rfl nmh_X12 rfl q_621 q_622 q_623 q_529⟩, fun _ z => absurd z List.not_mem_nil⟩⟩, List.forall_mem_cons.mpr ⟨Or.inl ⟨rfl, List.forall_mem_cons.mpr ⟨⟨mok_X12_goesBy, RX12, Or.inr ⟨_, _, rfl⟩, vokA (y := yX12_goesBy) rfl rfl nmh_X12 rfl q_624 q_625 q_626 q_529⟩, fun _ z => absurd z List.not_mem_nil⟩⟩, List.forall_mem_cons.mpr ⟨Or.inl ⟨rfl, List.forall_mem_cons.mpr ⟨⟨mok_X12_goes, RX12, Or.inr ⟨_, _, rfl⟩, vokA (y := yX12_goes) rfl rfl nmh_X12 rfl q_627 q_628 q_629 q_529⟩, fun _ z => absurd z List.not_mem_nil⟩⟩, List.forall_mem_cons.mpr ⟨Or.inl ⟨rfl, List.forall_mem_cons.mpr ⟨⟨mok_X12_goesOn, RX12, Or.inr ⟨_, _, rfl⟩, vokA (y := yX12_goesOn) rfl rfl nmh_X12 rfl q_630 q_631 q_632 q_529⟩, fun _ z => absurd z List.not_mem_nil⟩⟩, List.forall_mem_cons.mpr ⟨Or.inl ⟨rfl, List.forall_mem_cons.mpr ⟨⟨mok_X12_keeps, RX12, Or.inr ⟨_, _, rfl⟩, vokA (y := yX12_keeps) rfl rfl nmh_X12 rfl q_633 q_634 q_635 q_529⟩, fun _ z => absurd z List.not_mem_nil⟩⟩, List.forall_mem_cons.mpr ⟨Or.inl ⟨rfl, List.forall_mem_cons.mpr ⟨⟨mok_X12_goesBack, RX12, Or.inr ⟨_, _, rfl⟩, vokA (y := yX12_goesBack) rfl rfl nmh_X12 rfl q_636 q_637 q_638 q_529⟩, fun _ z => absurd z List.not_mem_nil⟩⟩, List.forall_mem_cons.mpr ⟨Or.inl ⟨rfl, List.forall_mem_cons.mpr ⟨⟨mok_X12_tidesKnown, RX12, Or.inr ⟨_, _, rfl⟩, vokA (y := yX12_tidesKnown) rfl rfl nmh_X12 rfl q_639 q_640 q_641 q_529⟩, fun _ z => absurd z List.not_mem_nil⟩⟩, List.forall_mem_cons.mpr ⟨Or.inl ⟨rfl, List.forall_mem_cons.mpr ⟨⟨mok_X12_heldBehind, RX12, Or.inr ⟨_, _, rfl⟩, vokA (y := yX12_heldBehind) rfl rfl nmh_X12 rfl q_642 q_643 q_644 q_529⟩, fun _ z => absurd z List.not_mem_nil⟩⟩, List.forall_mem_cons.mpr ⟨Or.inl ⟨rfl, List.forall_mem_cons.mpr ⟨⟨mok_X12_isAsSeen, RX12, Or.inr ⟨_, _, rfl⟩, vokA (y := yX12_isAsSeen) rfl rfl nmh_X12 rfl q_645 q_646 q_647 q_529⟩, fun _ z => absurd z List.not_mem_nil⟩⟩, List.forall_mem_cons.mpr ⟨Or.inl ⟨rfl, List.forall_mem_cons.mpr ⟨⟨mok_X12_areAsSeen, RX12, Or.inr ⟨_, _, rfl⟩, vokA (y := yX12_areAsSeen) rfl rfl nmh_X12 rfl q_648 q_649 q_650 q_529⟩, fun _ z => absurd z List.not_mem_nil⟩⟩, List.forall_mem_cons.mpr ⟨Or.inl ⟨rfl, List.forall_mem_cons.mpr ⟨⟨mok_X12_fitting, RX12, Or.inr ⟨_, _, rfl⟩, vokA (y := yX12_fitting) rfl rfl nmh_X12 rfl q_651 q_652 q_653 q_529⟩, fun _ z => absurd z List.not_mem_nil⟩⟩, List.forall_mem_cons.mpr ⟨Or.inr (Or.inl ⟨rfl, List.forall_mem_cons.mpr ⟨⟨mok_X12_lowest, sok (y := yX12_lowest) rfl nmh_X12 rfl q_655 q_656 q_529⟩, fun _ z => absurd z List.not_mem_nil⟩⟩), List.forall_mem_cons.mpr ⟨Or.inl ⟨rfl, List.forall_mem_cons.mpr ⟨⟨mok_X12_isPlan, RX12, Or.inr ⟨_, _, rfl⟩, vokA (y := yX12_isPlan) rfl rfl nmh_X12 rfl q_657 q_658 q_659 q_529⟩, fun _ z => absurd z List.not_mem_nil⟩⟩, List.forall_mem_cons.mpr ⟨Or.inl ⟨rfl, List.forall_mem_cons.mpr ⟨⟨mok_X12_does, RX12, Or.inr ⟨_, _, rfl⟩, vokA (y := yX12_does) rfl rfl nmh_X12 rfl q_660 q_661 q_662 q_529⟩, fun _ z => absurd z List.not_mem_nil⟩⟩, List.forall_mem_cons.mpr ⟨Or.inl ⟨rfl, List.forall_mem_cons.mpr ⟨⟨mok_X12_ranBody, RX12, Or.inr ⟨_, _, rfl⟩, vokA (y := yX12_ranBody) rfl rfl nmh_X12 rfl q_664 q_665 q_666 q_529⟩, fun _ z => absurd z List.not_mem_nil⟩⟩, List.forall_mem_cons.mpr ⟨Or.inr (Or.inl ⟨rfl, List.forall_mem_cons.mpr ⟨⟨mok_X12_isUnder, sok (y := yX12_isUnder) rfl nmh_X12 rfl q_669 q_670 q_529⟩, fun _ z => absurd z List.not_mem_nil⟩⟩), List.forall_mem_cons.mpr ⟨Or.inl ⟨rfl, List.forall_mem_cons.mpr ⟨⟨mok_X12_plainLeans, RX12, Or.inr ⟨_, _, rfl⟩, vokA (y := yX12_plainLeans) rfl rfl nmh_X12 rfl q_671 q_672 q_673 q_529⟩, fun _ z => absurd z List.not_mem_nil⟩⟩, List.forall_mem_cons.mpr ⟨Or.inl ⟨rfl, List.forall_mem_cons.mpr ⟨⟨mok_X12_leansActs, RX12, Or.inr ⟨_, _, rfl⟩, vokA (y := yX12_leansActs) rfl rfl nmh_X12 rfl q_674 q_675 q_676 q_529⟩, fun _ z => absurd z List.not_mem_nil⟩⟩, List.forall_mem_cons.mpr ⟨Or.inl ⟨rfl, List.forall_mem_cons.mpr ⟨⟨mok_X12_plainSays, RX12, Or.inr ⟨_, _, rfl⟩, vokA (y := yX12_plainSays) rfl rfl nmh_X12 rfl q_678 q_679 q_680 q_529⟩, fun _ z => absurd z List.not_mem_nil⟩⟩, List.forall_mem_cons.mpr ⟨Or.inl ⟨rfl, List.forall_mem_cons.mpr ⟨⟨mok_X12_saysActs, RX12, Or.inr ⟨_, _, rfl⟩, vokA (y := yX12_saysActs) rfl rfl nmh_X12 rfl q_681 q_682 q_683 q_529⟩, fun _ z => absurd z List.not_mem_nil⟩⟩, List.forall_mem_cons.mpr ⟨Or.inl ⟨rfl, List.forall_mem_cons.mpr ⟨⟨mok_X12_plainTelling, RX12, Or.inr ⟨_, _, rfl⟩, vokA (y := yX12_plainTelling) rfl rfl nmh_X12 rfl q_684 q_685 q_686 q_529⟩, fun _ z => absurd z List.not_mem_nil⟩⟩, List.forall_mem_cons.mpr ⟨Or.inl ⟨rfl, List.forall_mem_cons.mpr ⟨⟨mok_X12_bristlesActs, RX12, Or.inr ⟨_, _, rfl⟩, vokA (y := yX12_bristlesActs) rfl rfl nmh_X12 rfl q_687 q_688 q_689 q_529⟩, fun _ z => absurd z List.not_mem_nil⟩⟩, fun _ z => absurd z List.not_mem_nil⟩⟩⟩⟩⟩⟩⟩⟩⟩⟩⟩⟩⟩⟩⟩⟩⟩⟩⟩⟩⟩⟩⟩⟩⟩⟩⟩⟩⟩⟩⟩⟩⟩⟩⟩⟩⟩⟩⟩⟩⟩⟩⟩⟩⟩⟩⟩⟩⟩⟩⟩⟩⟩
theorem far_X12 (fv : Value) : FarOK TB (XR fv) RX12 (P_X12) := ⟨farN (by decide +kernel), fun _ z => absurd z List.not_mem_nil, List.forall_mem_cons.mpr ⟨⟨_, List.mem_cons_of_mem _ (List.mem_cons_of_mem _ (List.mem_cons_of_mem _ (List.mem_cons_of_mem _ (List.mem_cons_of_mem _ (List.mem_cons_of_mem _ (List.mem_cons_of_mem _ (List.mem_cons_of_mem _ (List.mem_cons_of_mem _ (List.mem_cons_self)))))))))⟩, List.forall_mem_cons.mpr ⟨⟨_, List.mem_cons_of_mem _ (List.mem_cons_of_mem _ (List.mem_cons_of_mem _ (List.mem_cons_of_mem _ (List.mem_cons_of_mem _ (List.mem_cons_of_mem _ (List.mem_cons_of_mem _ (List.mem_cons_of_mem _ (List.mem_cons_of_mem _ (List.mem_cons_of_mem _ (List.mem_cons_self))))))))))⟩, List.forall_mem_cons.mpr ⟨⟨_, List.mem_cons_of_mem _ (List.mem_cons_of_mem _ (List.mem_cons_of_mem _ (List.mem_cons_of_mem _ (List.mem_cons_of_mem _ (List.mem_cons_of_mem _ (List.mem_cons_self))))))⟩, List.forall_mem_cons.mpr ⟨⟨_, List.mem_cons_of_mem _ (List.mem_cons_of_mem _ (List.mem_cons_of_mem _ (List.mem_cons_of_mem _ (List.mem_cons_of_mem _ (List.mem_cons_of_mem _ (List.mem_cons_of_mem _ (List.mem_cons_self)))))))⟩, List.forall_mem_cons.mpr ⟨⟨_, List.mem_cons_of_mem _ (List.mem_cons_of_mem _ (List.mem_cons_of_mem _ (List.mem_cons_of_mem _ (List.mem_cons_of_mem _ (List.mem_cons_of_mem _ (List.mem_cons_of_mem _ (List.mem_cons_of_mem _ (List.mem_cons_self))))))))⟩, List.forall_mem_cons.mpr ⟨⟨_, List.mem_cons_of_mem _ (List.mem_cons_of_mem _ (List.mem_cons_of_mem _ (List.mem_cons_of_mem _ (List.mem_cons_of_mem _ (List.mem_cons_of_mem _ (List.mem_cons_of_mem _ (List.mem_cons_of_mem _ (List.mem_cons_of_mem _ (List.mem_cons_of_mem _ (List.mem_cons_of_mem _ (List.mem_cons_self)))))))))))⟩, List.forall_mem_cons.mpr ⟨q_588, List.forall_mem_cons.mpr ⟨q_654, fun _ z => absurd z List.not_mem_nil⟩⟩⟩⟩⟩⟩⟩⟩, fun _ z => absurd z List.not_mem_nil⟩
theorem tab_X12 {fv : Value} (h : FV fv) : TabOK TB mt vwCl (XR fv) RX12 (P_X12) := ⟨by decide, XR_ok h, XR_str, TB_ok, cls_ok, fld_X12, far_X12 fv, cpo_X12⟩
def P_J11 : Pool := ([],
  [],
  [(76, .int 56320), (110, .int 55232)], [], [], [])
theorem fld_J11 : FldOK TB nestW vwCl RJ11 (P_J11) := fun _ z => absurd z List.not_mem_nil
set_option maxRecDepth 4000 in
theorem cpo_J11 : CpOK TB mt vwCl RJ11 (P_J11) := fun _ z => absurd z List.not_mem_nil
theorem far_J11 (fv : Value) : FarOK TB (XR fv) RJ11 (P_J11) := ⟨fun _ z => absurd z List.not_mem_nil, fun _ z => absurd z List.not_mem_nil, List.forall_mem_cons.mpr ⟨q_691, List.forall_mem_cons.mpr ⟨q_692, fun _ z => absurd z List.not_mem_nil⟩⟩, fun _ z => absurd z List.not_mem_nil⟩
theorem tab_J11 {fv : Value} (h : FV fv) : TabOK TB mt vwCl (XR fv) RJ11 (P_J11) := ⟨by decide, XR_ok h, XR_str, TB_ok, cls_ok, fld_J11, far_J11 fv, cpo_J11⟩
def P_J6 : Pool := ([],
  [],
  [(265, .int 1431655765), (266, .int 858993459), (267, .int 252645135)], [], [], [])
theorem fld_J6 : FldOK TB nestW vwCl RJ6 (P_J6) := fun _ z => absurd z List.not_mem_nil
set_option maxRecDepth 4000 in
theorem cpo_J6 : CpOK TB mt vwCl RJ6 (P_J6) := fun _ z => absurd z List.not_mem_nil
theorem far_J6 (fv : Value) : FarOK TB (XR fv) RJ6 (P_J6) := ⟨fun _ z => absurd z List.not_mem_nil, fun _ z => absurd z List.not_mem_nil, List.forall_mem_cons.mpr ⟨q_693, List.forall_mem_cons.mpr ⟨q_694, List.forall_mem_cons.mpr ⟨q_695, fun _ z => absurd z List.not_mem_nil⟩⟩⟩, fun _ z => absurd z List.not_mem_nil⟩
theorem tab_J6 {fv : Value} (h : FV fv) : TabOK TB mt vwCl (XR fv) RJ6 (P_J6) := ⟨by decide, XR_ok h, XR_str, TB_ok, cls_ok, fld_J6, far_J6 fv, cpo_J6⟩
def P_J9 : Pool := ([],
  [],
  [], [], [], [])
theorem fld_J9 : FldOK TB nestW vwCl RJ9 (P_J9) := fun _ z => absurd z List.not_mem_nil
set_option maxRecDepth 4000 in
theorem cpo_J9 : CpOK TB mt vwCl RJ9 (P_J9) := fun _ z => absurd z List.not_mem_nil
theorem far_J9 (fv : Value) : FarOK TB (XR fv) RJ9 (P_J9) := ⟨fun _ z => absurd z List.not_mem_nil, fun _ z => absurd z List.not_mem_nil, fun _ z => absurd z List.not_mem_nil, fun _ z => absurd z List.not_mem_nil⟩
theorem tab_J9 {fv : Value} (h : FV fv) : TabOK TB mt vwCl (XR fv) RJ9 (P_J9) := ⟨by decide, XR_ok h, XR_str, TB_ok, cls_ok, fld_J9, far_J9 fv, cpo_J9⟩
def P_J0 (fv : Value) : Pool := ([(9, 0, 9, [50]), (15, 1, 9, [50])],
  [(335, 0, 0, [(50, jJ0_coder_7d493)]),
   (492, 0, 0, [(50, jJ0_isLatin1_aae02)]),
   (495, 1, 2, [(0, jJ1_charAt_3b067)]),
   (498, 1, 2, [(0, jJ2_charAt_3b067)]),
   (505, 0, 0, [(50, jJ0_length_8abf5)]),
   (633, 0, 2, [(50, jJ0_indexOf_7cf53)]),
   (637, 1, 4, [(0, jJ1_indexOf_4cfef)]),
   (640, 1, 4, [(0, jJ2_indexOf_4cfef)]),
   (1059, 1, 3, [(0, jJ3_checkIndex_8e157)]),
   (1062, 1, 4, [(0, jJ3_checkFromToIndex_8c36e)])],
  [], [(38, .int 1), (1053, fv)], [(16000, .ref 1050), (16001, .int 0), (16016, .ref 1051), (16017, .int 0), (16032, .ref 1052), (16033, .int 0), (16048, .ref 1053), (16049, .int 0), (16064, .ref 1054), (16065, .int 0), (16080, .ref 1055), (16081, .int 0)], [(1050, 1, 5, sB_0), (1051, 1, 5, sB_1), (1052, 1, 5, sB_2), (1053, 1, 5, sB_3), (1054, 1, 6, sB_4), (1055, 1, 3, sB_5)])
theorem fld_J0 (fv : Value) : FldOK TB nestW vwCl RJ0 (P_J0 fv) := List.forall_mem_cons.mpr ⟨List.forall_mem_cons.mpr ⟨Or.inl rfl, fun _ z => absurd z List.not_mem_nil⟩, List.forall_mem_cons.mpr ⟨List.forall_mem_cons.mpr ⟨Or.inl rfl, fun _ z => absurd z List.not_mem_nil⟩, fun _ z => absurd z List.not_mem_nil⟩⟩
set_option maxRecDepth 4000 in
theorem cpo_J0 (fv : Value) : CpOK TB mt vwCl RJ0 (P_J0 fv) := List.forall_mem_cons.mpr ⟨Or.inl ⟨rfl, List.forall_mem_cons.mpr ⟨⟨mok_J0_coder_7d493, RJ0, Or.inl ⟨rfl, rfl⟩, vokA (y := yJ0_coder_7d493) rfl rfl nmh_J0 rfl q_697 q_698 q_699 q_230⟩, fun _ z => absurd z List.not_mem_nil⟩⟩, List.forall_mem_cons.mpr ⟨Or.inl ⟨rfl, List.forall_mem_cons.mpr ⟨⟨mok_J0_isLatin1_aae02, RJ0, Or.inl ⟨rfl, rfl⟩, vokA (y := yJ0_isLatin1_aae02) rfl rfl nmh_J0 rfl q_700 q_701 q_702 q_230⟩, fun _ z => absurd z List.not_mem_nil⟩⟩, List.forall_mem_cons.mpr ⟨Or.inr (Or.inl ⟨rfl, List.forall_mem_cons.mpr ⟨⟨mok_J1_charAt_3b067, sok (y := yJ1_charAt_3b067) rfl nmh_J1 rfl q_703 q_704 q_705⟩, fun _ z => absurd z List.not_mem_nil⟩⟩), List.forall_mem_cons.mpr ⟨Or.inr (Or.inl ⟨rfl, List.forall_mem_cons.mpr ⟨⟨mok_J2_charAt_3b067, sok (y := yJ2_charAt_3b067) rfl nmh_J2 rfl q_706 q_707 q_708⟩, fun _ z => absurd z List.not_mem_nil⟩⟩), List.forall_mem_cons.mpr ⟨Or.inl ⟨rfl, List.forall_mem_cons.mpr ⟨⟨mok_J0_length_8abf5, RJ0, Or.inl ⟨rfl, rfl⟩, vokA (y := yJ0_length_8abf5) rfl rfl nmh_J0 rfl q_709 q_234 q_235 q_230⟩, fun _ z => absurd z List.not_mem_nil⟩⟩, List.forall_mem_cons.mpr ⟨Or.inl ⟨rfl, List.forall_mem_cons.mpr ⟨⟨mok_J0_indexOf_7cf53, RJ0, Or.inl ⟨rfl, rfl⟩, vokA (y := yJ0_indexOf_7cf53) rfl rfl nmh_J0 rfl q_710 q_711 q_712 q_230⟩, fun _ z => absurd z List.not_mem_nil⟩⟩, List.forall_mem_cons.mpr ⟨Or.inr (Or.inl ⟨rfl, List.forall_mem_cons.mpr ⟨⟨mok_J1_indexOf_4cfef, sok (y := yJ1_indexOf_4cfef) rfl nmh_J1 rfl q_713 q_714 q_705⟩, fun _ z => absurd z List.not_mem_nil⟩⟩), List.forall_mem_cons.mpr ⟨Or.inr (Or.inl ⟨rfl, List.forall_mem_cons.mpr ⟨⟨mok_J2_indexOf_4cfef, sok (y := yJ2_indexOf_4cfef) rfl nmh_J2 rfl q_715 q_716 q_708⟩, fun _ z => absurd z List.not_mem_nil⟩⟩), List.forall_mem_cons.mpr ⟨Or.inr (Or.inl ⟨rfl, List.forall_mem_cons.mpr ⟨⟨mok_J3_checkIndex_8e157, sok (y := yJ3_checkIndex_8e157) rfl nmh_J3 rfl q_718 q_719 q_720⟩, fun _ z => absurd z List.not_mem_nil⟩⟩), List.forall_mem_cons.mpr ⟨Or.inr (Or.inl ⟨rfl, List.forall_mem_cons.mpr ⟨⟨mok_J3_checkFromToIndex_8c36e, sok (y := yJ3_checkFromToIndex_8c36e) rfl nmh_J3 rfl q_721 q_722 q_720⟩, fun _ z => absurd z List.not_mem_nil⟩⟩), fun _ z => absurd z List.not_mem_nil⟩⟩⟩⟩⟩⟩⟩⟩⟩⟩
theorem far_J0 (fv : Value) : FarOK TB (XR fv) RJ0 (P_J0 fv) := ⟨List.forall_mem_cons.mpr ⟨farS_v q_723, List.forall_mem_cons.mpr ⟨farS_c q_724, fun _ z => absurd z List.not_mem_nil⟩⟩, List.forall_mem_cons.mpr ⟨Or.inr ⟨rfl, List.mem_cons_self⟩, List.forall_mem_cons.mpr ⟨Or.inr ⟨rfl, List.mem_cons_of_mem _ (List.mem_cons_self)⟩, List.forall_mem_cons.mpr ⟨Or.inr ⟨rfl, List.mem_cons_of_mem _ (List.mem_cons_of_mem _ (List.mem_cons_self))⟩, List.forall_mem_cons.mpr ⟨Or.inr ⟨rfl, List.mem_cons_of_mem _ (List.mem_cons_of_mem _ (List.mem_cons_of_mem _ (List.mem_cons_self)))⟩, List.forall_mem_cons.mpr ⟨Or.inr ⟨rfl, List.mem_cons_of_mem _ (List.mem_cons_of_mem _ (List.mem_cons_of_mem _ (List.mem_cons_of_mem _ (List.mem_cons_self))))⟩, List.forall_mem_cons.mpr ⟨Or.inr ⟨rfl, List.mem_cons_of_mem _ (List.mem_cons_of_mem _ (List.mem_cons_of_mem _ (List.mem_cons_of_mem _ (List.mem_cons_of_mem _ (List.mem_cons_self)))))⟩, fun _ z => absurd z List.not_mem_nil⟩⟩⟩⟩⟩⟩, fun _ z => absurd z List.not_mem_nil, List.forall_mem_cons.mpr ⟨⟨_, _, _, List.mem_cons_of_mem _ (List.mem_cons_self), q_696⟩, List.forall_mem_cons.mpr ⟨⟨_, _, _, List.mem_cons_of_mem _ (List.mem_cons_of_mem _ (List.mem_cons_self)), q_717⟩, fun _ z => absurd z List.not_mem_nil⟩⟩⟩
theorem tab_J0 {fv : Value} (h : FV fv) : TabOK TB mt vwCl (XR fv) RJ0 (P_J0 fv) := ⟨by decide, XR_ok h, XR_str, TB_ok, cls_ok, fld_J0 fv, far_J0 fv, cpo_J0 fv⟩
def P_J1 : Pool := ([],
  [(9, 1, 2, [(0, jJ0_checkIndex_df160)]),
   (38, 1, 2, [(0, jJ9_min_7cf53)]),
   (88, 1, 1, [(0, jJ1_canEncode_9a6ad)]),
   (92, 1, 2, [(0, jJ9_max_7cf53)]),
   (95, 1, 4, [(0, jJ1_indexOfChar_4cfef)])],
  [], [], [], [(1050, 1, 5, sB_0), (1051, 1, 5, sB_1), (1052, 1, 5, sB_2), (1053, 1, 5, sB_3), (1054, 1, 6, sB_4), (1055, 1, 3, sB_5)])
theorem fld_J1 : FldOK TB nestW vwCl RJ1 (P_J1) := fun _ z => absurd z List.not_mem_nil
set_option maxRecDepth 4000 in
theorem cpo_J1 : CpOK TB mt vwCl RJ1 (P_J1) := List.forall_mem_cons.mpr ⟨Or.inr (Or.inl ⟨rfl, List.forall_mem_cons.mpr ⟨⟨mok_J0_checkIndex_df160, sok (y := yJ0_checkIndex_df160) rfl nmh_J0 rfl q_725 q_726 q_230⟩, fun _ z => absurd z List.not_mem_nil⟩⟩), List.forall_mem_cons.mpr ⟨Or.inr (Or.inl ⟨rfl, List.forall_mem_cons.mpr ⟨⟨mok_J9_min_7cf53, sok (y := yJ9_min_7cf53) rfl nmh_J9 rfl q_727 q_317 q_309⟩, fun _ z => absurd z List.not_mem_nil⟩⟩), List.forall_mem_cons.mpr ⟨Or.inr (Or.inl ⟨rfl, List.forall_mem_cons.mpr ⟨⟨mok_J1_canEncode_9a6ad, sok (y := yJ1_canEncode_9a6ad) rfl nmh_J1 rfl q_728 q_729 q_705⟩, fun _ z => absurd z List.not_mem_nil⟩⟩), List.forall_mem_cons.mpr ⟨Or.inr (Or.inl ⟨rfl, List.forall_mem_cons.mpr ⟨⟨mok_J9_max_7cf53, sok (y := yJ9_max_7cf53) rfl nmh_J9 rfl q_730 q_308 q_309⟩, fun _ z => absurd z List.not_mem_nil⟩⟩), List.forall_mem_cons.mpr ⟨Or.inr (Or.inl ⟨rfl, List.forall_mem_cons.mpr ⟨⟨mok_J1_indexOfChar_4cfef, sok (y := yJ1_indexOfChar_4cfef) rfl nmh_J1 rfl q_731 q_732 q_705⟩, fun _ z => absurd z List.not_mem_nil⟩⟩), fun _ z => absurd z List.not_mem_nil⟩⟩⟩⟩⟩
theorem far_J1 (fv : Value) : FarOK TB (XR fv) RJ1 (P_J1) := ⟨fun _ z => absurd z List.not_mem_nil, List.forall_mem_cons.mpr ⟨Or.inr ⟨rfl, List.mem_cons_self⟩, List.forall_mem_cons.mpr ⟨Or.inr ⟨rfl, List.mem_cons_of_mem _ (List.mem_cons_self)⟩, List.forall_mem_cons.mpr ⟨Or.inr ⟨rfl, List.mem_cons_of_mem _ (List.mem_cons_of_mem _ (List.mem_cons_self))⟩, List.forall_mem_cons.mpr ⟨Or.inr ⟨rfl, List.mem_cons_of_mem _ (List.mem_cons_of_mem _ (List.mem_cons_of_mem _ (List.mem_cons_self)))⟩, List.forall_mem_cons.mpr ⟨Or.inr ⟨rfl, List.mem_cons_of_mem _ (List.mem_cons_of_mem _ (List.mem_cons_of_mem _ (List.mem_cons_of_mem _ (List.mem_cons_self))))⟩, List.forall_mem_cons.mpr ⟨Or.inr ⟨rfl, List.mem_cons_of_mem _ (List.mem_cons_of_mem _ (List.mem_cons_of_mem _ (List.mem_cons_of_mem _ (List.mem_cons_of_mem _ (List.mem_cons_self)))))⟩, fun _ z => absurd z List.not_mem_nil⟩⟩⟩⟩⟩⟩, fun _ z => absurd z List.not_mem_nil, fun _ z => absurd z List.not_mem_nil⟩
theorem tab_J1 {fv : Value} (h : FV fv) : TabOK TB mt vwCl (XR fv) RJ1 (P_J1) := ⟨by decide, XR_ok h, XR_str, TB_ok, cls_ok, fld_J1, far_J1 fv, cpo_J1⟩
def P_J2 : Pool := ([],
  [(48, 1, 1, [(0, jJ2_length_9d52b)]),
   (67, 1, 2, [(0, jJ2_checkIndex_2214a)]),
   (71, 1, 2, [(0, jJ2_getChar_3b067)]),
   (96, 1, 3, [(0, jJ2_checkBoundsBeginEnd_d044e)]),
   (157, 1, 1, [(0, jJ11_highSurrogate_5068e)]),
   (161, 1, 1, [(0, jJ11_lowSurrogate_5068e)]),
   (164, 1, 1, [(0, jJ11_isValidCodePoint_9a6ad)]),
   (183, 1, 2, [(0, jJ9_min_7cf53)]),
   (224, 1, 2, [(0, jJ9_max_7cf53)]),
   (228, 1, 4, [(0, jJ2_indexOfChar_4cfef)]),
   (232, 1, 4, [(0, jJ2_indexOfSupplementary_4cfef)]),
   (241, 1, 3, [(0, jJ0_checkBoundsBeginEnd_23922)]),
   (244, 1, 4, [(0, jJ2_indexOfCharUnsafe_4cfef)]),
   (414, 1, 2, [(0, jJ0_checkIndex_df160)])],
  [(227, .int 65536)], [], [], [])
theorem fld_J2 : FldOK TB nestW vwCl RJ2 (P_J2) := fun _ z => absurd z List.not_mem_nil
set_option maxRecDepth 4000 in
theorem cpo_J2 : CpOK TB mt vwCl RJ2 (P_J2) := List.forall_mem_cons.mpr ⟨Or.inr (Or.inl ⟨rfl, List.forall_mem_cons.mpr ⟨⟨mok_J2_length_9d52b, sok (y := yJ2_length_9d52b) rfl nmh_J2 rfl q_733 q_734 q_708⟩, fun _ z => absurd z List.not_mem_nil⟩⟩), List.forall_mem_cons.mpr ⟨Or.inr (Or.inl ⟨rfl, List.forall_mem_cons.mpr ⟨⟨mok_J2_checkIndex_2214a, sok (y := yJ2_checkIndex_2214a) rfl nmh_J2 rfl q_735 q_736 q_708⟩, fun _ z => absurd z List.not_mem_nil⟩⟩), List.forall_mem_cons.mpr ⟨Or.inr (Or.inl ⟨rfl, List.forall_mem_cons.mpr ⟨⟨mok_J2_getChar_3b067, sok (y := yJ2_getChar_3b067) rfl nmh_J2 rfl q_737 q_738 q_708⟩, fun _ z => absurd z List.not_mem_nil⟩⟩), List.forall_mem_cons.mpr ⟨Or.inr (Or.inl ⟨rfl, List.forall_mem_cons.mpr ⟨⟨mok_J2_checkBoundsBeginEnd_d044e, sok (y := yJ2_checkBoundsBeginEnd_d044e) rfl nmh_J2 rfl q_739 q_740 q_708⟩, fun _ z => absurd z List.not_mem_nil⟩⟩), List.forall_mem_cons.mpr ⟨Or.inr (Or.inl ⟨rfl, List.forall_mem_cons.mpr ⟨⟨mok_J11_highSurrogate_5068e, sok (y := yJ11_highSurrogate_5068e) rfl nmh_J11 rfl q_741 q_742 q_743⟩, fun _ z => absurd z List.not_mem_nil⟩⟩), List.forall_mem_cons.mpr ⟨Or.inr (Or.inl ⟨rfl, List.forall_mem_cons.mpr ⟨⟨mok_J11_lowSurrogate_5068e, sok (y := yJ11_lowSurrogate_5068e) rfl nmh_J11 rfl q_744 q_745 q_743⟩, fun _ z => absurd z List.not_mem_nil⟩⟩), List.forall_mem_cons.mpr ⟨Or.inr (Or.inl ⟨rfl, List.forall_mem_cons.mpr ⟨⟨mok_J11_isValidCodePoint_9a6ad, sok (y := yJ11_isValidCodePoint_9a6ad) rfl nmh_J11 rfl q_746 q_747 q_743⟩, fun _ z => absurd z List.not_mem_nil⟩⟩), List.forall_mem_cons.mpr ⟨Or.inr (Or.inl ⟨rfl, List.forall_mem_cons.mpr ⟨⟨mok_J9_min_7cf53, sok (y := yJ9_min_7cf53) rfl nmh_J9 rfl q_748 q_317 q_309⟩, fun _ z => absurd z List.not_mem_nil⟩⟩), List.forall_mem_cons.mpr ⟨Or.inr (Or.inl ⟨rfl, List.forall_mem_cons.mpr ⟨⟨mok_J9_max_7cf53, sok (y := yJ9_max_7cf53) rfl nmh_J9 rfl q_749 q_308 q_309⟩, fun _ z => absurd z List.not_mem_nil⟩⟩), List.forall_mem_cons.mpr ⟨Or.inr (Or.inl ⟨rfl, List.forall_mem_cons.mpr ⟨⟨mok_J2_indexOfChar_4cfef, sok (y := yJ2_indexOfChar_4cfef) rfl nmh_J2 rfl q_751 q_752 q_708⟩, fun _ z => absurd z List.not_mem_nil⟩⟩), List.forall_mem_cons.mpr ⟨Or.inr (Or.inl ⟨rfl, List.forall_mem_cons.mpr ⟨⟨mok_J2_indexOfSupplementary_4cfef, sok (y := yJ2_indexOfSupplementary_4cfef) rfl nmh_J2 rfl q_753 q_754 q_708⟩, fun _ z => absurd z List.not_mem_nil⟩⟩), List.forall_mem_cons.mpr ⟨Or.inr (Or.inl ⟨rfl, List.forall_mem_cons.mpr ⟨⟨mok_J0_checkBoundsBeginEnd_23922, sok (y := yJ0_checkBoundsBeginEnd_23922) rfl nmh_J0 rfl q_755 q_756 q_230⟩, fun _ z => absurd z List.not_mem_nil⟩⟩), List.forall_mem_cons.mpr ⟨Or.inr (Or.inl ⟨rfl, List.forall_mem_cons.mpr ⟨⟨mok_J2_indexOfCharUnsafe_4cfef, sok (y := yJ2_indexOfCharUnsafe_4cfef) rfl nmh_J2 rfl q_757 q_758 q_708⟩, fun _ z => absurd z List.not_mem_nil⟩⟩), List.forall_mem_cons.mpr ⟨Or.inr (Or.inl ⟨rfl, List.forall_mem_cons.mpr ⟨⟨mok_J0_checkIndex_df160, sok (y := yJ0_checkIndex_df160) rfl nmh_J0 rfl q_759 q_726 q_230⟩, fun _ z => absurd z List.not_mem_nil⟩⟩), fun _ z => absurd z List.not_mem_nil⟩⟩⟩⟩⟩⟩⟩⟩⟩⟩⟩⟩⟩⟩
theorem far_J2 (fv : Value) : FarOK TB (XR fv) RJ2 (P_J2) := ⟨fun _ z => absurd z List.not_mem_nil, fun _ z => absurd z List.not_mem_nil, List.forall_mem_cons.mpr ⟨q_750, fun _ z => absurd z List.not_mem_nil⟩, fun _ z => absurd z List.not_mem_nil⟩
theorem tab_J2 {fv : Value} (h : FV fv) : TabOK TB mt vwCl (XR fv) RJ2 (P_J2) := ⟨by decide, XR_ok h, XR_str, TB_ok, cls_ok, fld_J2, far_J2 fv, cpo_J2⟩
def P_J7 : Pool := ([],
  [],
  [], [], [], [])
theorem fld_J7 : FldOK TB nestW vwCl RJ7 (P_J7) := fun _ z => absurd z List.not_mem_nil
set_option maxRecDepth 4000 in
theorem cpo_J7 : CpOK TB mt vwCl RJ7 (P_J7) := fun _ z => absurd z List.not_mem_nil
theorem far_J7 (fv : Value) : FarOK TB (XR fv) RJ7 (P_J7) := ⟨fun _ z => absurd z List.not_mem_nil, fun _ z => absurd z List.not_mem_nil, fun _ z => absurd z List.not_mem_nil, fun _ z => absurd z List.not_mem_nil⟩
theorem tab_J7 {fv : Value} (h : FV fv) : TabOK TB mt vwCl (XR fv) RJ7 (P_J7) := ⟨by decide, XR_ok h, XR_str, TB_ok, cls_ok, fld_J7, far_J7 fv, cpo_J7⟩
def P_J3 : Pool := ([],
  [],
  [], [], [], [])
theorem fld_J3 : FldOK TB nestW vwCl RJ3 (P_J3) := fun _ z => absurd z List.not_mem_nil
set_option maxRecDepth 4000 in
theorem cpo_J3 : CpOK TB mt vwCl RJ3 (P_J3) := fun _ z => absurd z List.not_mem_nil
theorem far_J3 (fv : Value) : FarOK TB (XR fv) RJ3 (P_J3) := ⟨fun _ z => absurd z List.not_mem_nil, fun _ z => absurd z List.not_mem_nil, fun _ z => absurd z List.not_mem_nil, fun _ z => absurd z List.not_mem_nil⟩
theorem tab_J3 {fv : Value} (h : FV fv) : TabOK TB mt vwCl (XR fv) RJ3 (P_J3) := ⟨by decide, XR_ok h, XR_str, TB_ok, cls_ok, fld_J3, far_J3 fv, cpo_J3⟩
def P_L : Pool := ([],
  [(13, 0, 1, [(11, jX11_feed)]),
   (17, 0, 1, [(12, jX12_feed)]),
   (18, 0, 0, [(11, jX11_ledge)]),
   (22, 0, 0, [(12, jX12_ledge)]),
   (23, 0, 2, [(11, jX11_urchin)]),
   (27, 0, 2, [(12, jX12_urchin)]),
   (28, 0, 2, [(11, jX11_of)]),
   (31, 0, 2, [(12, jX12_of)]),
   (32, 0, 3, [(11, jX11_row)]),
   (36, 0, 3, [(12, jX12_row)]),
   (37, 0, 2, [(11, jX11_learn)]),
   (40, 0, 2, [(12, jX12_learn)]),
   (41, 0, 2, [(11, jX11_beach)]),
   (45, 0, 2, [(12, jX12_beach)]),
   (46, 0, 2, [(11, jX11_lesson)]),
   (49, 0, 2, [(12, jX12_lesson)]),
   (50, 0, 1, [(11, jX11_told)]),
   (53, 0, 1, [(12, jX12_told)]),
   (54, 0, 1, [(11, jX11_pass)]),
   (57, 0, 1, [(12, jX12_pass)]),
   (58, 0, 2, [(11, jX11_on)]),
   (61, 0, 2, [(12, jX12_on)]),
   (62, 0, 1, [(11, jX11_lasts)]),
   (65, 0, 1, [(12, jX12_lasts)]),
   (66, 0, 2, [(11, jX11_teach)]),
   (69, 0, 2, [(12, jX12_teach)]),
   (70, 0, 1, [(11, jX11_tell)]),
   (73, 0, 1, [(12, jX12_tell)]),
   (74, 0, 4, [(11, jX11_see)]),
   (78, 0, 4, [(12, jX12_see)]),
   (79, 0, 2, [(11, jX11_knew)]),
   (82, 0, 2, [(12, jX12_knew)]),
   (83, 0, 2, [(11, jX11_firm)]),
   (86, 0, 2, [(12, jX12_firm)]),
   (87, 0, 3, [(11, jX11_odds)]),
   (91, 0, 3, [(12, jX12_odds)]),
   (92, 0, 1, [(11, jX11_mean)]),
   (96, 0, 1, [(12, jX12_mean)]),
   (97, 0, 2, [(11, jX11_plan)]),
   (100, 0, 2, [(12, jX12_plan)]),
   (101, 0, 1, [(11, jX11_done)]),
   (104, 0, 1, [(12, jX12_done)]),
   (105, 0, 2, [(11, jX11_book)]),
   (108, 0, 2, [(12, jX12_book)]),
   (109, 0, 0, [(11, jX11_looked)]),
   (112, 0, 0, [(12, jX12_looked)]),
   (113, 0, 3, [(11, jX11_act)]),
   (116, 0, 3, [(12, jX12_act)]),
   (117, 0, 1, [(11, jX11_trace)]),
   (120, 0, 1, [(12, jX12_trace)]),
   (121, 0, 2, [(11, jX11_as)]),
   (124, 0, 2, [(12, jX12_as)]),
   (125, 0, 0, [(11, jX11_image)]),
   (128, 0, 0, [(12, jX12_image)]),
   (129, 0, 0, [(11, jX11_undo)]),
   (132, 0, 0, [(12, jX12_undo)]),
   (133, 0, 1, [(11, jX11_count)]),
   (136, 0, 1, [(12, jX12_count)])],
  [], [], [], [])
theorem fld_L : FldOK TB nestW vwCl RL (P_L) := fun _ z => absurd z List.not_mem_nil
set_option maxRecDepth 4000 in
theorem cpo_L : CpOK TB mt vwCl RL (P_L) := List.forall_mem_cons.mpr ⟨Or.inl ⟨rfl, List.forall_mem_cons.mpr ⟨⟨mok_X11_feed, RX11, Or.inr ⟨_, _, rfl⟩, vokA (y := yX11_feed) rfl rfl nmh_X11 rfl q_760 q_761 q_762 q_377⟩, fun _ z => absurd z List.not_mem_nil⟩⟩, List.forall_mem_cons.mpr ⟨Or.inl ⟨rfl, List.forall_mem_cons.mpr ⟨⟨mok_X12_feed, RX12, Or.inr ⟨_, _, rfl⟩, vokA (y := yX12_feed) rfl rfl nmh_X12 rfl q_763 q_764 q_765 q_529⟩, fun _ z => absurd z List.not_mem_nil⟩⟩, List.forall_mem_cons.mpr ⟨Or.inl ⟨rfl, List.forall_mem_cons.mpr ⟨⟨mok_X11_ledge, RX11, Or.inr ⟨_, _, rfl⟩, vokA (y := yX11_ledge) rfl rfl nmh_X11 rfl q_766 q_767 q_768 q_377⟩, fun _ z => absurd z List.not_mem_nil⟩⟩, List.forall_mem_cons.mpr ⟨Or.inl ⟨rfl, List.forall_mem_cons.mpr ⟨⟨mok_X12_ledge, RX12, Or.inr ⟨_, _, rfl⟩, vokA (y := yX12_ledge) rfl rfl nmh_X12 rfl q_769 q_770 q_771 q_529⟩, fun _ z => absurd z List.not_mem_nil⟩⟩, List.forall_mem_cons.mpr ⟨Or.inl ⟨rfl, List.forall_mem_cons.mpr ⟨⟨mok_X11_urchin, RX11, Or.inr ⟨_, _, rfl⟩, vokA (y := yX11_urchin) rfl rfl nmh_X11 rfl q_772 q_773 q_774 q_377⟩, fun _ z => absurd z List.not_mem_nil⟩⟩, List.forall_mem_cons.mpr ⟨Or.inl ⟨rfl, List.forall_mem_cons.mpr ⟨⟨mok_X12_urchin, RX12, Or.inr ⟨_, _, rfl⟩, vokA (y := yX12_urchin) rfl rfl nmh_X12 rfl q_775 q_776 q_777 q_529⟩, fun _ z => absurd z List.not_mem_nil⟩⟩, List.forall_mem_cons.mpr ⟨Or.inl ⟨rfl, List.forall_mem_cons.mpr ⟨⟨mok_X11_of, RX11, Or.inr ⟨_, _, rfl⟩, vokA (y := yX11_of) rfl rfl nmh_X11 rfl q_778 q_779 q_780 q_377⟩, fun _ z => absurd z List.not_mem_nil⟩⟩, List.forall_mem_cons.mpr ⟨Or.inl ⟨rfl, List.forall_mem_cons.mpr ⟨⟨mok_X12_of, RX12, Or.inr ⟨_, _, rfl⟩, vokA (y := yX12_of) rfl rfl nmh_X12 rfl q_781 q_782 q_783 q_529⟩, fun _ z => absurd z List.not_mem_nil⟩⟩, List.forall_mem_cons.mpr ⟨Or.inl ⟨rfl, List.forall_mem_cons.mpr ⟨⟨mok_X11_row, RX11, Or.inr ⟨_, _, rfl⟩, vokA (y := yX11_row) rfl rfl nmh_X11 rfl q_784 q_785 q_786 q_377⟩, fun _ z => absurd z List.not_mem_nil⟩⟩, List.forall_mem_cons.mpr ⟨Or.inl ⟨rfl, List.forall_mem_cons.mpr ⟨⟨mok_X12_row, RX12, Or.inr ⟨_, _, rfl⟩, vokA (y := yX12_row) rfl rfl nmh_X12 rfl q_787 q_788 q_789 q_529⟩, fun _ z => absurd z List.not_mem_nil⟩⟩, List.forall_mem_cons.mpr ⟨Or.inl ⟨rfl, List.forall_mem_cons.mpr ⟨⟨mok_X11_learn, RX11, Or.inr ⟨_, _, rfl⟩, vokA (y := yX11_learn) rfl rfl nmh_X11 rfl q_790 q_791 q_792 q_377⟩, fun _ z => absurd z List.not_mem_nil⟩⟩, List.forall_mem_cons.mpr ⟨Or.inl ⟨rfl, List.forall_mem_cons.mpr ⟨⟨mok_X12_learn, RX12, Or.inr ⟨_, _, rfl⟩, vokA (y := yX12_learn) rfl rfl nmh_X12 rfl q_793 q_794 q_795 q_529⟩, fun _ z => absurd z List.not_mem_nil⟩⟩, List.forall_mem_cons.mpr ⟨Or.inl ⟨rfl, List.forall_mem_cons.mpr ⟨⟨mok_X11_beach, RX11, Or.inr ⟨_, _, rfl⟩, vokA (y := yX11_beach) rfl rfl nmh_X11 rfl q_796 q_797 q_798 q_377⟩, fun _ z => absurd z List.not_mem_nil⟩⟩, List.forall_mem_cons.mpr ⟨Or.inl ⟨rfl, List.forall_mem_cons.mpr ⟨⟨mok_X12_beach, RX12, Or.inr ⟨_, _, rfl⟩, vokA (y := yX12_beach) rfl rfl nmh_X12 rfl q_799 q_800 q_801 q_529⟩, fun _ z => absurd z List.not_mem_nil⟩⟩, List.forall_mem_cons.mpr ⟨Or.inl ⟨rfl, List.forall_mem_cons.mpr ⟨⟨mok_X11_lesson, RX11, Or.inr ⟨_, _, rfl⟩, vokA (y := yX11_lesson) rfl rfl nmh_X11 rfl q_802 q_803 q_804 q_377⟩, fun _ z => absurd z List.not_mem_nil⟩⟩, List.forall_mem_cons.mpr ⟨Or.inl ⟨rfl, List.forall_mem_cons.mpr ⟨⟨mok_X12_lesson, RX12, Or.inr ⟨_, _, rfl⟩, vokA (y := yX12_lesson) rfl rfl nmh_X12 rfl q_805 q_806 q_807 q_529⟩, fun _ z => absurd z List.not_mem_nil⟩⟩, List.forall_mem_cons.mpr ⟨Or.inl ⟨rfl, List.forall_mem_cons.mpr ⟨⟨mok_X11_told, RX11, Or.inr ⟨_, _, rfl⟩, vokA (y := yX11_told) rfl rfl nmh_X11 rfl q_808 q_809 q_810 q_377⟩, fun _ z => absurd z List.not_mem_nil⟩⟩, List.forall_mem_cons.mpr ⟨Or.inl ⟨rfl, List.forall_mem_cons.mpr ⟨⟨mok_X12_told, RX12, Or.inr ⟨_, _, rfl⟩, vokA (y := yX12_told) rfl rfl nmh_X12 rfl q_811 q_812 q_813 q_529⟩, fun _ z => absurd z List.not_mem_nil⟩⟩, List.forall_mem_cons.mpr ⟨Or.inl ⟨rfl, List.forall_mem_cons.mpr ⟨⟨mok_X11_pass, RX11, Or.inr ⟨_, _, rfl⟩, vokA (y := yX11_pass) rfl rfl nmh_X11 rfl q_814 q_815 q_816 q_377⟩, fun _ z => absurd z List.not_mem_nil⟩⟩, List.forall_mem_cons.mpr ⟨Or.inl ⟨rfl, List.forall_mem_cons.mpr ⟨⟨mok_X12_pass, RX12, Or.inr ⟨_, _, rfl⟩, vokA (y := yX12_pass) rfl rfl nmh_X12 rfl q_817 q_818 q_819 q_529⟩, fun _ z => absurd z List.not_mem_nil⟩⟩, List.forall_mem_cons.mpr ⟨Or.inl ⟨rfl, List.forall_mem_cons.mpr ⟨⟨mok_X11_on, RX11, Or.inr ⟨_, _, rfl⟩, vokA (y := yX11_on) rfl rfl nmh_X11 rfl q_820 q_821 q_822 q_377⟩, fun _ z => absurd z List.not_mem_nil⟩⟩, List.forall_mem_cons.mpr ⟨Or.inl ⟨rfl, List.forall_mem_cons.mpr ⟨⟨mok_X12_on, RX12, Or.inr ⟨_, _, rfl⟩, vokA (y := yX12_on) rfl rfl nmh_X12 rfl q_823 q_824 q_825 q_529⟩, fun _ z => absurd z List.not_mem_nil⟩⟩, List.forall_mem_cons.mpr ⟨Or.inl ⟨rfl, List.forall_mem_cons.mpr ⟨⟨mok_X11_lasts, RX11, Or.inr ⟨_, _, rfl⟩, vokA (y := yX11_lasts) rfl rfl nmh_X11 rfl q_826 q_827 q_828 q_377⟩, fun _ z => absurd z List.not_mem_nil⟩⟩, List.forall_mem_cons.mpr ⟨Or.inl ⟨rfl, List.forall_mem_cons.mpr ⟨⟨mok_X12_lasts, RX12, Or.inr ⟨_, _, rfl⟩, vokA (y := yX12_lasts) rfl rfl nmh_X12 rfl q_829 q_830 q_831 q_529⟩, fun _ z => absurd z List.not_mem_nil⟩⟩, List.forall_mem_cons.mpr ⟨Or.inl ⟨rfl, List.forall_mem_cons.mpr ⟨⟨mok_X11_teach, RX11, Or.inr ⟨_, _, rfl⟩, vokA (y := yX11_teach) rfl rfl nmh_X11 rfl q_832 q_833 q_834 q_377⟩, fun _ z => absurd z List.not_mem_nil⟩⟩, List.forall_mem_cons.mpr ⟨Or.inl ⟨rfl, List.forall_mem_cons.mpr ⟨⟨mok_X12_teach, RX12, Or.inr ⟨_, _, rfl⟩, vokA (y := yX12_teach) rfl rfl nmh_X12 rfl q_835 q_836 q_837 q_529⟩, fun _ z => absurd z List.not_mem_nil⟩⟩, List.forall_mem_cons.mpr ⟨Or.inl ⟨rfl, List.forall_mem_cons.mpr ⟨⟨mok_X11_tell, RX11, Or.inr ⟨_, _, rfl⟩, vokA (y := yX11_tell) rfl rfl nmh_X11 rfl q_838 q_839 q_840 q_377⟩, fun _ z => absurd z List.not_mem_nil⟩⟩, List.forall_mem_cons.mpr ⟨Or.inl ⟨rfl, List.forall_mem_cons.mpr ⟨⟨mok_X12_tell, RX12, Or.inr ⟨_, _, rfl⟩, vokA (y := yX12_tell) rfl rfl nmh_X12 rfl q_841 q_842 q_843 q_529⟩, fun _ z => absurd z List.not_mem_nil⟩⟩, List.forall_mem_cons.mpr ⟨Or.inl ⟨rfl, List.forall_mem_cons.mpr ⟨⟨mok_X11_see, RX11, Or.inr ⟨_, _, rfl⟩, vokA (y := yX11_see) rfl rfl nmh_X11 rfl q_844 q_845 q_846 q_377⟩, fun _ z => absurd z List.not_mem_nil⟩⟩, List.forall_mem_cons.mpr ⟨Or.inl ⟨rfl, List.forall_mem_cons.mpr ⟨⟨mok_X12_see, RX12, Or.inr ⟨_, _, rfl⟩, vokA (y := yX12_see) rfl rfl nmh_X12 rfl q_847 q_848 q_849 q_529⟩, fun _ z => absurd z List.not_mem_nil⟩⟩, List.forall_mem_cons.mpr ⟨Or.inl ⟨rfl, List.forall_mem_cons.mpr ⟨⟨mok_X11_knew, RX11, Or.inr ⟨_, _, rfl⟩, vokA (y := yX11_knew) rfl rfl nmh_X11 rfl q_850 q_851 q_852 q_377⟩, fun _ z => absurd z List.not_mem_nil⟩⟩, List.forall_mem_cons.mpr ⟨Or.inl ⟨rfl, List.forall_mem_cons.mpr ⟨⟨mok_X12_knew, RX12, Or.inr ⟨_, _, rfl⟩, vokA (y := yX12_knew) rfl rfl nmh_X12 rfl q_853 q_854 q_855 q_529⟩, fun _ z => absurd z List.not_mem_nil⟩⟩, List.forall_mem_cons.mpr ⟨Or.inl ⟨rfl, List.forall_mem_cons.mpr ⟨⟨mok_X11_firm, RX11, Or.inr ⟨_, _, rfl⟩, vokA (y := yX11_firm) rfl rfl nmh_X11 rfl q_856 q_857 q_858 q_377⟩, fun _ z => absurd z List.not_mem_nil⟩⟩, List.forall_mem_cons.mpr ⟨Or.inl ⟨rfl, List.forall_mem_cons.mpr ⟨⟨mok_X12_firm, RX12, Or.inr ⟨_, _, rfl⟩, vokA (y := yX12_firm) rfl rfl nmh_X12 rfl q_859 q_860 q_861 q_529⟩, fun _ z => absurd z List.not_mem_nil⟩⟩, List.forall_mem_cons.mpr ⟨Or.inl ⟨rfl, List.forall_mem_cons.mpr ⟨⟨mok_X11_odds, RX11, Or.inr ⟨_, _, rfl⟩, vokA (y := yX11_odds) rfl rfl nmh_X11 rfl q_862 q_863 q_864 q_377⟩, fun _ z => absurd z List.not_mem_nil⟩⟩, List.forall_mem_cons.mpr ⟨Or.inl ⟨rfl, List.forall_mem_cons.mpr ⟨⟨mok_X12_odds, RX12, Or.inr ⟨_, _, rfl⟩, vokA (y := yX12_odds) rfl rfl nmh_X12 rfl q_865 q_866 q_867 q_529⟩, fun _ z => absurd z List.not_mem_nil⟩⟩, List.forall_mem_cons.mpr ⟨Or.inl ⟨rfl, List.forall_mem_cons.mpr ⟨⟨mok_X11_mean, RX11, Or.inr ⟨_, _, rfl⟩, vokA (y := yX11_mean) rfl rfl nmh_X11 rfl q_868 q_869 q_870 q_377⟩, fun _ z => absurd z List.not_mem_nil⟩⟩, List.forall_mem_cons.mpr ⟨Or.inl ⟨rfl, List.forall_mem_cons.mpr ⟨⟨mok_X12_mean, RX12, Or.inr ⟨_, _, rfl⟩, vokA (y := yX12_mean) rfl rfl nmh_X12 rfl q_871 q_872 q_873 q_529⟩, fun _ z => absurd z List.not_mem_nil⟩⟩, List.forall_mem_cons.mpr ⟨Or.inl ⟨rfl, List.forall_mem_cons.mpr ⟨⟨mok_X11_plan, RX11, Or.inr ⟨_, _, rfl⟩, vokA (y := yX11_plan) rfl rfl nmh_X11 rfl q_874 q_875 q_876 q_377⟩, fun _ z => absurd z List.not_mem_nil⟩⟩, List.forall_mem_cons.mpr ⟨Or.inl ⟨rfl, List.forall_mem_cons.mpr ⟨⟨mok_X12_plan, RX12, Or.inr ⟨_, _, rfl⟩, vokA (y := yX12_plan) rfl rfl nmh_X12 rfl q_877 q_878 q_879 q_529⟩, fun _ z => absurd z List.not_mem_nil⟩⟩, List.forall_mem_cons.mpr ⟨Or.inl ⟨rfl, List.forall_mem_cons.mpr ⟨⟨mok_X11_done, RX11, Or.inr ⟨_, _, rfl⟩, vokA (y := yX11_done) rfl rfl nmh_X11 rfl q_880 q_881 q_882 q_377⟩, fun _ z => absurd z List.not_mem_nil⟩⟩, List.forall_mem_cons.mpr ⟨Or.inl ⟨rfl, List.forall_mem_cons.mpr ⟨⟨mok_X12_done, RX12, Or.inr ⟨_, _, rfl⟩, vokA (y := yX12_done) rfl rfl nmh_X12 rfl q_883 q_884 q_885 q_529⟩, fun _ z => absurd z List.not_mem_nil⟩⟩, List.forall_mem_cons.mpr ⟨Or.inl ⟨rfl, List.forall_mem_cons.mpr ⟨⟨mok_X11_book, RX11, Or.inr ⟨_, _, rfl⟩, vokA (y := yX11_book) rfl rfl nmh_X11 rfl q_886 q_887 q_888 q_377⟩, fun _ z => absurd z List.not_mem_nil⟩⟩, List.forall_mem_cons.mpr ⟨Or.inl ⟨rfl, List.forall_mem_cons.mpr ⟨⟨mok_X12_book, RX12, Or.inr ⟨_, _, rfl⟩, vokA (y := yX12_book) rfl rfl nmh_X12 rfl q_889 q_890 q_891 q_529⟩, fun _ z => absurd z List.not_mem_nil⟩⟩, List.forall_mem_cons.mpr ⟨Or.inl ⟨rfl, List.forall_mem_cons.mpr ⟨⟨mok_X11_looked, RX11, Or.inr ⟨_, _, rfl⟩, vokA (y := yX11_looked) rfl rfl nmh_X11 rfl q_892 q_893 q_894 q_377⟩, fun _ z => absurd z List.not_mem_nil⟩⟩, List.forall_mem_cons.mpr ⟨Or.inl ⟨rfl, List.forall_mem_cons.mpr ⟨⟨mok_X12_looked, RX12, Or.inr ⟨_, _, rfl⟩, vokA (y := yX12_looked) rfl rfl nmh_X12 rfl q_895 q_896 q_897 q_529⟩, fun _ z => absurd z List.not_mem_nil⟩⟩, List.forall_mem_cons.mpr ⟨Or.inl ⟨rfl, List.forall_mem_cons.mpr ⟨⟨mok_X11_act, RX11, Or.inr ⟨_, _, rfl⟩, vokA (y := yX11_act) rfl rfl nmh_X11 rfl q_898 q_899 q_900 q_377⟩, fun _ z => absurd z List.not_mem_nil⟩⟩, List.forall_mem_cons.mpr ⟨Or.inl ⟨rfl, List.forall_mem_cons.mpr ⟨⟨mok_X12_act, RX12, Or.inr ⟨_, _, rfl⟩, vokA (y := yX12_act) rfl rfl nmh_X12 rfl q_901 q_902 q_903 q_529⟩, fun _ z => absurd z List.not_mem_nil⟩⟩, List.forall_mem_cons.mpr ⟨Or.inl ⟨rfl, List.forall_mem_cons.mpr ⟨⟨mok_X11_trace, RX11, Or.inr ⟨_, _, rfl⟩, vokA (y := yX11_trace) rfl rfl nmh_X11 rfl q_904 q_905 q_906 q_377⟩, fun _ z => absurd z List.not_mem_nil⟩⟩, List.forall_mem_cons.mpr ⟨Or.inl ⟨rfl, List.forall_mem_cons.mpr ⟨⟨mok_X12_trace, RX12, Or.inr ⟨_, _, rfl⟩, vokA (y := yX12_trace) rfl rfl nmh_X12 rfl q_907 q_908 q_909 q_529⟩, fun _ z => absurd z List.not_mem_nil⟩⟩, List.forall_mem_cons.mpr ⟨Or.inl ⟨rfl, List.forall_mem_cons.mpr ⟨⟨mok_X11_as, RX11, Or.inr ⟨_, _, rfl⟩, vokA (y := yX11_as) rfl rfl nmh_X11 rfl q_910 q_911 q_912 q_377⟩, fun _ z => absurd z List.not_mem_nil⟩⟩, List.forall_mem_cons.mpr ⟨Or.inl ⟨rfl, List.forall_mem_cons.mpr ⟨⟨mok_X12_as, RX12, Or.inr ⟨_, _, rfl⟩, vokA (y := yX12_as) rfl rfl nmh_X12 rfl q_913 q_914 q_915 q_529⟩, fun _ z => absurd z List.not_mem_nil⟩⟩, List.forall_mem_cons.mpr ⟨Or.inl ⟨rfl, List.forall_mem_cons.mpr ⟨⟨mok_X11_image, RX11, Or.inr ⟨_, _, rfl⟩, vokA (y := yX11_image) rfl rfl nmh_X11 rfl q_916 q_917 q_918 q_377⟩, fun _ z => absurd z List.not_mem_nil⟩⟩, List.forall_mem_cons.mpr ⟨Or.inl ⟨rfl, List.forall_mem_cons.mpr ⟨⟨mok_X12_image, RX12, Or.inr ⟨_, _, rfl⟩, vokA (y := yX12_image) rfl rfl nmh_X12 rfl q_919 q_920 q_921 q_529⟩, fun _ z => absurd z List.not_mem_nil⟩⟩, List.forall_mem_cons.mpr ⟨Or.inl ⟨rfl, List.forall_mem_cons.mpr ⟨⟨mok_X11_undo, RX11, Or.inr ⟨_, _, rfl⟩, vokA (y := yX11_undo) rfl rfl nmh_X11 rfl q_922 q_923 q_924 q_377⟩, fun _ z => absurd z List.not_mem_nil⟩⟩, List.forall_mem_cons.mpr ⟨Or.inl ⟨rfl, List.forall_mem_cons.mpr ⟨⟨mok_X12_undo, RX12, Or.inr ⟨_, _, rfl⟩, vokA (y := yX12_undo) rfl rfl nmh_X12 rfl q_925 q_926 q_927 q_529⟩, fun _ z => absurd z List.not_mem_nil⟩⟩, List.forall_mem_cons.mpr ⟨Or.inl ⟨rfl, List.forall_mem_cons.mpr ⟨⟨mok_X11_count, RX11, Or.inr ⟨_, _, rfl⟩, vokA (y := yX11_count) rfl rfl nmh_X11 rfl q_928 q_929 q_930 q_377⟩, fun _ z => absurd z List.not_mem_nil⟩⟩, List.forall_mem_cons.mpr ⟨Or.inl ⟨rfl, List.forall_mem_cons.mpr ⟨⟨mok_X12_count, RX12, Or.inr ⟨_, _, rfl⟩, vokA (y := yX12_count) rfl rfl nmh_X12 rfl q_931 q_932 q_933 q_529⟩, fun _ z => absurd z List.not_mem_nil⟩⟩, fun _ z => absurd z List.not_mem_nil⟩⟩⟩⟩⟩⟩⟩⟩⟩⟩⟩⟩⟩⟩⟩⟩⟩⟩⟩⟩⟩⟩⟩⟩⟩⟩⟩⟩⟩⟩⟩⟩⟩⟩⟩⟩⟩⟩⟩⟩⟩⟩⟩⟩⟩⟩⟩⟩⟩⟩⟩⟩⟩⟩⟩⟩⟩⟩
theorem far_L (fv : Value) : FarOK TB (XR fv) RL (P_L) := ⟨fun _ z => absurd z List.not_mem_nil, fun _ z => absurd z List.not_mem_nil, fun _ z => absurd z List.not_mem_nil, fun _ z => absurd z List.not_mem_nil⟩
theorem tab_L {fv : Value} (h : FV fv) : TabOK TB mt vwCl (XR fv) RL (P_L) := ⟨by decide, XR_ok h, XR_str, TB_ok, cls_ok, fld_L, far_L fv, cpo_L⟩
