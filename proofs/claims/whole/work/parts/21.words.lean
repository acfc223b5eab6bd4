/-! printed by wip/whole/gen/tables.py: the words of the tables that are used, each by its place -/
def TB : List Cond := lw_tbl.filter goodWord
theorem TB_ok : TbOK TB := fun w hw => good_of_word (List.mem_filter.mp hw).2
theorem in_S {w : Cond} {i : Nat} (h : (k2_sels lw_privs)[i]? = some w) (hg : goodWord w = true) : w ∈ TB := List.mem_filter.mpr ⟨List.mem_append_left _ (List.mem_of_getElem? h), hg⟩
theorem in_1 {w : Cond} {i : Nat} (h : tables_1_1[i]? = some w) (hg : goodWord w = true) : w ∈ TB := List.mem_filter.mpr ⟨List.mem_append_right _ (List.mem_append_left _ (List.mem_of_getElem? h)), hg⟩
theorem in_2 {w : Cond} {i : Nat} (h : tables_1_2[i]? = some w) (hg : goodWord w = true) : w ∈ TB := List.mem_filter.mpr ⟨List.mem_append_right _ (List.mem_append_right _ (List.mem_append_left _ (List.mem_of_getElem? h))), hg⟩
theorem in_3 {w : Cond} {i : Nat} (h : tables_1_3[i]? = some w) (hg : goodWord w = true) : w ∈ TB := List.mem_filter.mpr ⟨List.mem_append_right _ (List.mem_append_right _ (List.mem_append_right _ (List.mem_append_left _ (List.mem_of_getElem? h)))), hg⟩
theorem in_4 {w : Cond} {i : Nat} (h : tables_1_4[i]? = some w) (hg : goodWord w = true) : w ∈ TB := List.mem_filter.mpr ⟨List.mem_append_right _ (List.mem_append_right _ (List.mem_append_right _ (List.mem_append_right _ (List.mem_append_left _ (List.mem_of_getElem? h))))), hg⟩
theorem in_5 {w : Cond} {i : Nat} (h : tables_1_5[i]? = some w) (hg : goodWord w = true) : w ∈ TB := List.mem_filter.mpr ⟨List.mem_append_right _ (List.mem_append_right _ (List.mem_append_right _ (List.mem_append_right _ (List.mem_append_right _ (List.mem_append_left _ (List.mem_of_getElem? h)))))), hg⟩
theorem in_6 {w : Cond} {i : Nat} (h : tables_1_6[i]? = some w) (hg : goodWord w = true) : w ∈ TB := List.mem_filter.mpr ⟨List.mem_append_right _ (List.mem_append_right _ (List.mem_append_right _ (List.mem_append_right _ (List.mem_append_right _ (List.mem_append_right _ (List.mem_of_getElem? h)))))), hg⟩
theorem q_0 : Cond.laysFinal RX0 RX10 "bodies" "[I" ∈ TB := in_1 (i := 181) rfl rfl
theorem q_1 : Cond.lays RX0 RX10 "ran" "I" ∈ TB := in_1 (i := 182) rfl rfl
theorem q_2 : Cond.lays RX0 RX10 "i" "I" ∈ TB := in_1 (i := 183) rfl rfl
theorem q_3 : Cond.lays RX0 RX10 "v" "I" ∈ TB := in_1 (i := 184) rfl rfl
theorem q_4 : Cond.laysFinal RX1 RX1 "plain" "LUrchinSchool$Urchin;" ∈ TB := in_2 (i := 1) rfl rfl
theorem q_5 : Cond.laysFinal RX1 RX1 "kinds" "[LUrchinSchool$Urchin;" ∈ TB := in_2 (i := 3) rfl rfl
theorem q_6 : Cond.laysFinal RX1 RX1 "sets" "[I" ∈ TB := in_2 (i := 5) rfl rfl
theorem q_7 : Cond.lays RX1 RX1 "p" "I" ∈ TB := in_2 (i := 7) rfl rfl
theorem q_8 : Cond.lays RX1 RX1 "k" "I" ∈ TB := in_2 (i := 9) rfl rfl
theorem q_9 : Cond.lays RX1 RX1 "v" "I" ∈ TB := in_2 (i := 11) rfl rfl
theorem q_10 : Cond.lays RX1 RX1 "f" "I" ∈ TB := in_2 (i := 13) rfl rfl
theorem q_11 : Cond.lays RX1 RX1 "c" "I" ∈ TB := in_2 (i := 15) rfl rfl
theorem q_12 : Cond.lays RX1 RX1 "t" "I" ∈ TB := in_2 (i := 17) rfl rfl
theorem q_13 : Cond.lays RX1 RX1 "row" "I" ∈ TB := in_2 (i := 19) rfl rfl
theorem q_14 : Cond.lays RX1 RX1 "knows" "Z" ∈ TB := in_2 (i := 21) rfl rfl
theorem q_15 : Cond.laysFinal RX2 RX10 "bodies" "[I" ∈ TB := in_1 (i := 170) rfl rfl
theorem q_16 : Cond.lays RX2 RX10 "ran" "I" ∈ TB := in_1 (i := 171) rfl rfl
theorem q_17 : Cond.lays RX2 RX10 "i" "I" ∈ TB := in_1 (i := 172) rfl rfl
theorem q_18 : Cond.lays RX2 RX10 "v" "I" ∈ TB := in_1 (i := 173) rfl rfl
theorem q_19 : Cond.laysFinal RX3 RX10 "bodies" "[I" ∈ TB := in_1 (i := 159) rfl rfl
theorem q_20 : Cond.lays RX3 RX10 "ran" "I" ∈ TB := in_1 (i := 160) rfl rfl
theorem q_21 : Cond.lays RX3 RX10 "i" "I" ∈ TB := in_1 (i := 161) rfl rfl
theorem q_22 : Cond.lays RX3 RX10 "v" "I" ∈ TB := in_1 (i := 162) rfl rfl
theorem q_23 : Cond.laysFinal RX4 RX4 "steps" "[I" ∈ TB := in_2 (i := 44) rfl rfl
theorem q_24 : Cond.lays RX4 RX4 "size" "I" ∈ TB := in_2 (i := 46) rfl rfl
theorem q_25 : Cond.lays RX4 RX4 "keep" "I" ∈ TB := in_2 (i := 48) rfl rfl
theorem q_26 : Cond.lays RX4 RX4 "pass" "I" ∈ TB := in_2 (i := 50) rfl rfl
theorem q_27 : Cond.lays RX4 RX4 "tape" "[B" ∈ TB := in_2 (i := 52) rfl rfl
theorem q_28 : Cond.lays RX4 RX4 "signs" "I" ∈ TB := in_2 (i := 54) rfl rfl
theorem q_29 : Cond.lays RX4 RX4 "at" "I" ∈ TB := in_2 (i := 56) rfl rfl
theorem q_30 : Cond.lays RX4 RX4 "sign" "I" ∈ TB := in_2 (i := 58) rfl rfl
theorem q_31 : Cond.lays RX4 RX4 "test" "I" ∈ TB := in_2 (i := 60) rfl rfl
theorem q_32 : Cond.lays RX4 RX4 "number" "I" ∈ TB := in_2 (i := 62) rfl rfl
theorem q_33 : Cond.laysFinal RX5 RX10 "bodies" "[I" ∈ TB := in_1 (i := 192) rfl rfl
theorem q_34 : Cond.lays RX5 RX10 "ran" "I" ∈ TB := in_1 (i := 193) rfl rfl
theorem q_35 : Cond.lays RX5 RX10 "i" "I" ∈ TB := in_1 (i := 194) rfl rfl
theorem q_36 : Cond.lays RX5 RX10 "v" "I" ∈ TB := in_1 (i := 195) rfl rfl
theorem q_37 : Cond.laysFinal RX6 RX10 "bodies" "[I" ∈ TB := in_1 (i := 203) rfl rfl
theorem q_38 : Cond.lays RX6 RX10 "ran" "I" ∈ TB := in_1 (i := 204) rfl rfl
theorem q_39 : Cond.lays RX6 RX10 "i" "I" ∈ TB := in_1 (i := 205) rfl rfl
theorem q_40 : Cond.lays RX6 RX10 "v" "I" ∈ TB := in_1 (i := 206) rfl rfl
theorem q_41 : Cond.laysFinal RX7 RX7 "kind" "[I" ∈ TB := in_1 (i := 93) rfl rfl
theorem q_42 : Cond.laysFinal RX7 RX7 "v" "[I" ∈ TB := in_1 (i := 95) rfl rfl
theorem q_43 : Cond.laysFinal RX7 RX7 "knows" "[I" ∈ TB := in_1 (i := 97) rfl rfl
theorem q_44 : Cond.laysFinal RX7 RX7 "rows" "[I" ∈ TB := in_1 (i := 99) rfl rfl
theorem q_45 : Cond.laysFinal RX7 RX7 "lessons" "[I" ∈ TB := in_1 (i := 101) rfl rfl
theorem q_46 : Cond.lays RX7 RX7 "size" "I" ∈ TB := in_1 (i := 103) rfl rfl
theorem q_47 : Cond.lays RX7 RX7 "out" "I" ∈ TB := in_1 (i := 105) rfl rfl
theorem q_48 : Cond.lays RX7 RX7 "tide" "I" ∈ TB := in_1 (i := 107) rfl rfl
theorem q_49 : Cond.laysFinal RX7 RX7 "tape" "[B" ∈ TB := in_1 (i := 109) rfl rfl
theorem q_50 : Cond.lays RX7 RX7 "signs" "I" ∈ TB := in_1 (i := 111) rfl rfl
theorem q_51 : Cond.lays RX7 RX7 "ledges" "I" ∈ TB := in_1 (i := 113) rfl rfl
theorem q_52 : Cond.laysFinal RX7 RX7 "seen" "LUrchinSchool$Table;" ∈ TB := in_1 (i := 115) rfl rfl
theorem q_53 : Cond.laysFinal RX7 RX7 "plan" "LUrchinSchool$Table;" ∈ TB := in_1 (i := 117) rfl rfl
theorem q_54 : Cond.laysFinal RX7 RX7 "book" "LUrchinSchool$Table;" ∈ TB := in_1 (i := 119) rfl rfl
theorem q_55 : Cond.laysFinal RX8 RX8 "cells" "[I" ∈ TB := in_1 (i := 51) rfl rfl
theorem q_56 : Cond.laysFinal RX8 RX8 "limit" "I" ∈ TB := in_1 (i := 53) rfl rfl
theorem q_57 : Cond.lays RX8 RX8 "size" "I" ∈ TB := in_1 (i := 55) rfl rfl
theorem q_58 : Cond.laysFinal RX9 RX10 "bodies" "[I" ∈ TB := in_1 (i := 214) rfl rfl
theorem q_59 : Cond.lays RX9 RX10 "ran" "I" ∈ TB := in_1 (i := 215) rfl rfl
theorem q_60 : Cond.lays RX9 RX10 "i" "I" ∈ TB := in_1 (i := 216) rfl rfl
theorem q_61 : Cond.lays RX9 RX10 "v" "I" ∈ TB := in_1 (i := 217) rfl rfl
theorem q_62 : Cond.laysFinal RX10 RX10 "bodies" "[I" ∈ TB := in_1 (i := 143) rfl rfl
theorem q_63 : Cond.lays RX10 RX10 "ran" "I" ∈ TB := in_1 (i := 145) rfl rfl
theorem q_64 : Cond.lays RX10 RX10 "i" "I" ∈ TB := in_1 (i := 147) rfl rfl
theorem q_65 : Cond.lays RX10 RX10 "v" "I" ∈ TB := in_1 (i := 149) rfl rfl
theorem q_66 : Cond.laysFinal RX11 RX11 "now" "LUrchinSchool$School;" ∈ TB := in_2 (i := 74) rfl rfl
theorem q_67 : Cond.laysFinal RX11 RX11 "kept" "LUrchinSchool$School;" ∈ TB := in_2 (i := 76) rfl rfl
theorem q_68 : Cond.laysFinal RX11 RX11 "ahead" "LUrchinSchool$School;" ∈ TB := in_2 (i := 78) rfl rfl
theorem q_69 : Cond.laysFinal RX11 RX11 "heeds" "LUrchinSchool$Heeds;" ∈ TB := in_2 (i := 80) rfl rfl
theorem q_70 : Cond.laysFinal RX11 RX11 "bare" "LUrchinSchool$Ledge;" ∈ TB := in_2 (i := 82) rfl rfl
theorem q_71 : Cond.laysFinal RX11 RX11 "ledges" "[LUrchinSchool$Ledge;" ∈ TB := in_2 (i := 84) rfl rfl
theorem q_72 : Cond.lays RX11 RX11 "imageTaken" "Z" ∈ TB := in_2 (i := 86) rfl rfl
theorem q_73 : Cond.lays RX11 RX11 "actor" "LUrchinSchool$Urchin;" ∈ TB := in_2 (i := 88) rfl rfl
theorem q_74 : Cond.lays RX12 RX12 "thrown" "I" ∈ TB := in_5 (i := 19) rfl rfl
theorem q_75 : Cond.laysFinal RX12 RX12 "s" "[I" ∈ TB := in_5 (i := 21) rfl rfl
theorem q_76 : Cond.laysFinal RX12 RX12 "image" "[I" ∈ TB := in_5 (i := 23) rfl rfl
theorem q_77 : Cond.laysFinal RX12 RX12 "frame" "[I" ∈ TB := in_5 (i := 25) rfl rfl
theorem q_78 : Cond.lays RX12 RX12 "hasImage" "Z" ∈ TB := in_5 (i := 27) rfl rfl
theorem q_79 : Cond.lays RX12 RX12 "act" "I" ∈ TB := in_5 (i := 29) rfl rfl
theorem q_80 : Cond.lays RX12 RX12 "spot" "I" ∈ TB := in_5 (i := 31) rfl rfl
theorem q_81 : Cond.lays RX12 RX12 "end" "I" ∈ TB := in_5 (i := 33) rfl rfl
theorem q_82 : Cond.lays RX12 RX12 "isWrong" "Z" ∈ TB := in_5 (i := 35) rfl rfl
theorem q_83 : Cond.lays RX12 RX12 "open" "I" ∈ TB := in_5 (i := 37) rfl rfl
theorem q_84 : Cond.laysFinal RX12 RX12 "by" "[I" ∈ TB := in_5 (i := 39) rfl rfl
theorem q_85 : Cond.laysFinal RX12 RX12 "truths" "[Z" ∈ TB := in_5 (i := 41) rfl rfl
theorem q_86 : Cond.laysFinal RX12 RX12 "sums" "[I" ∈ TB := in_5 (i := 43) rfl rfl
theorem q_87 : Cond.laysFinal RX12 RX12 "lookedFor" "[I" ∈ TB := in_5 (i := 45) rfl rfl
theorem q_88 : Cond.lays RX12 RX12 "looking" "I" ∈ TB := in_5 (i := 47) rfl rfl
theorem q_89 : Cond.laysFinal RX12 RX12 "next" "[I" ∈ TB := in_5 (i := 49) rfl rfl
theorem q_90 : Cond.laysFinal RX12 RX12 "bodies" "[I" ∈ TB := in_5 (i := 51) rfl rfl
theorem q_91 : Cond.lays RX12 RX12 "ran" "I" ∈ TB := in_5 (i := 53) rfl rfl
theorem q_92 : Cond.lays RX12 RX12 "kind" "I" ∈ TB := in_5 (i := 55) rfl rfl
theorem q_93 : Cond.lays RX12 RX12 "number" "I" ∈ TB := in_5 (i := 57) rfl rfl
theorem q_94 : Cond.lays RX12 RX12 "tellsV" "I" ∈ TB := in_5 (i := 59) rfl rfl
theorem cw_X11_init : Cond.code yX11_init cX11_init 1 none ∈ TB := in_1 (i := 27) rfl rfl
theorem cw_X7_init : Cond.code yX7_init cX7_init 1 none ∈ TB := in_1 (i := 35) rfl rfl
theorem cw_X8_init : Cond.code yX8_init cX8_init 2 none ∈ TB := in_1 (i := 41) rfl rfl
theorem cw_J9_min_7cf53 : Cond.code yJ9_min_7cf53 cJ9_min_7cf53 2 (some FieldType.int) ∈ TB := in_1 (i := 45) rfl rfl
theorem cw_X1_init : Cond.code yX1_init cX1_init 1 none ∈ TB := in_1 (i := 126) rfl rfl
theorem cw_X10_init : Cond.code yX10_init cX10_init 1 none ∈ TB := in_1 (i := 132) rfl rfl
theorem cw_X3_init : Cond.code yX3_init cX3_init 1 none ∈ TB := in_1 (i := 157) rfl rfl
theorem cw_X2_init : Cond.code yX2_init cX2_init 1 none ∈ TB := in_1 (i := 168) rfl rfl
theorem cw_X0_init : Cond.code yX0_init cX0_init 1 none ∈ TB := in_1 (i := 179) rfl rfl
theorem cw_X5_init : Cond.code yX5_init cX5_init 1 none ∈ TB := in_1 (i := 190) rfl rfl
theorem cw_X6_init : Cond.code yX6_init cX6_init 1 none ∈ TB := in_1 (i := 201) rfl rfl
theorem cw_X9_init : Cond.code yX9_init cX9_init 1 none ∈ TB := in_1 (i := 212) rfl rfl
theorem cw_X4_init : Cond.code yX4_init cX4_init 1 none ∈ TB := in_2 (i := 28) rfl rfl
theorem cw_X11_feed : Cond.code yX11_feed cX11_feed 2 (some FieldType.int) ∈ TB := in_2 (i := 94) rfl rfl
theorem cw_X11_ledge : Cond.code yX11_ledge cX11_ledge 2 (some FieldType.int) ∈ TB := in_2 (i := 98) rfl rfl
theorem cw_X4_read : Cond.code yX4_read cX4_read 4 (some FieldType.int) ∈ TB := in_2 (i := 102) rfl rfl
theorem cw_X4_advance : Cond.code yX4_advance cX4_advance 1 none ∈ TB := in_2 (i := 106) rfl rfl
theorem cw_X4_readClause : Cond.code yX4_readClause cX4_readClause 3 (some FieldType.boolean) ∈ TB := in_2 (i := 110) rfl rfl
theorem cw_X4_wordOf : Cond.code yX4_wordOf cX4_wordOf 1 (some (FieldType.object "java/lang/String")) ∈ TB := in_2 (i := 113) rfl rfl
theorem cw_X4_takeWord : Cond.code yX4_takeWord cX4_takeWord 3 (some FieldType.boolean) ∈ TB := in_2 (i := 121) rfl rfl
theorem cw_J0_length_8abf5 : Cond.code yJ0_length_8abf5 cJ0_length_8abf5 1 (some FieldType.int) ∈ TB := in_2 (i := 125) rfl rfl
theorem cw_J0_coder_7d493 : Cond.code yJ0_coder_7d493 cJ0_coder_7d493 1 (some FieldType.byte) ∈ TB := in_2 (i := 129) rfl rfl
theorem cw_J0_charAt_5068e : Cond.code yJ0_charAt_5068e cJ0_charAt_5068e 2 (some FieldType.char) ∈ TB := in_2 (i := 135) rfl rfl
theorem cw_J0_isLatin1_aae02 : Cond.code yJ0_isLatin1_aae02 cJ0_isLatin1_aae02 1 (some FieldType.boolean) ∈ TB := in_2 (i := 139) rfl rfl
theorem cw_J1_charAt_3b067 : Cond.code yJ1_charAt_3b067 cJ1_charAt_3b067 2 (some FieldType.char) ∈ TB := in_2 (i := 142) rfl rfl
theorem cw_J0_checkIndex_df160 : Cond.code yJ0_checkIndex_df160 cJ0_checkIndex_df160 2 none ∈ TB := in_2 (i := 145) rfl rfl
theorem cw_J3_checkIndex_8e157 : Cond.code yJ3_checkIndex_8e157 cJ3_checkIndex_8e157 3 (some FieldType.int) ∈ TB := in_2 (i := 150) rfl rfl
theorem cw_J2_charAt_3b067 : Cond.code yJ2_charAt_3b067 cJ2_charAt_3b067 2 (some FieldType.char) ∈ TB := in_2 (i := 153) rfl rfl
theorem cw_J2_checkIndex_2214a : Cond.code yJ2_checkIndex_2214a cJ2_checkIndex_2214a 2 none ∈ TB := in_2 (i := 156) rfl rfl
theorem cw_J2_length_9d52b : Cond.code yJ2_length_9d52b cJ2_length_9d52b 1 (some FieldType.int) ∈ TB := in_2 (i := 159) rfl rfl
theorem cw_J2_getChar_3b067 : Cond.code yJ2_getChar_3b067 cJ2_getChar_3b067 2 (some FieldType.char) ∈ TB := in_2 (i := 163) rfl rfl
theorem cw_X4_take : Cond.code yX4_take cX4_take 2 (some FieldType.boolean) ∈ TB := in_2 (i := 173) rfl rfl
theorem cw_X4_readNumber : Cond.code yX4_readNumber cX4_readNumber 1 (some FieldType.boolean) ∈ TB := in_2 (i := 177) rfl rfl
theorem cw_X4_isDigit : Cond.code yX4_isDigit cX4_isDigit 1 (some FieldType.boolean) ∈ TB := in_2 (i := 180) rfl rfl
theorem cw_X4_readEither : Cond.code yX4_readEither cX4_readEither 3 (some FieldType.boolean) ∈ TB := in_2 (i := 184) rfl rfl
theorem cw_X4_readBoth : Cond.code yX4_readBoth cX4_readBoth 3 (some FieldType.boolean) ∈ TB := in_2 (i := 188) rfl rfl
theorem cw_X4_readPart : Cond.code yX4_readPart cX4_readPart 2 (some FieldType.boolean) ∈ TB := in_2 (i := 192) rfl rfl
theorem cw_X4_readTest : Cond.code yX4_readTest cX4_readTest 3 (some FieldType.boolean) ∈ TB := in_2 (i := 196) rfl rfl
theorem cw_X4_placeOf : Cond.code yX4_placeOf cX4_placeOf 2 (some FieldType.int) ∈ TB := in_2 (i := 200) rfl rfl
theorem cw_J0_indexOf_0f7a4 : Cond.code yJ0_indexOf_0f7a4 cJ0_indexOf_0f7a4 2 (some FieldType.int) ∈ TB := in_2 (i := 204) rfl rfl
theorem cw_J0_indexOf_7cf53 : Cond.code yJ0_indexOf_7cf53 cJ0_indexOf_7cf53 3 (some FieldType.int) ∈ TB := in_2 (i := 208) rfl rfl
theorem cw_J1_indexOf_4cfef : Cond.code yJ1_indexOf_4cfef cJ1_indexOf_4cfef 4 (some FieldType.int) ∈ TB := in_2 (i := 212) rfl rfl
theorem cw_J1_canEncode_9a6ad : Cond.code yJ1_canEncode_9a6ad cJ1_canEncode_9a6ad 1 (some FieldType.boolean) ∈ TB := in_2 (i := 215) rfl rfl
theorem cw_J9_max_7cf53 : Cond.code yJ9_max_7cf53 cJ9_max_7cf53 2 (some FieldType.int) ∈ TB := in_2 (i := 218) rfl rfl
theorem cw_J1_indexOfChar_4cfef : Cond.code yJ1_indexOfChar_4cfef cJ1_indexOfChar_4cfef 6 (some FieldType.int) ∈ TB := in_2 (i := 222) rfl rfl
theorem cw_J2_indexOf_4cfef : Cond.code yJ2_indexOf_4cfef cJ2_indexOf_4cfef 4 (some FieldType.int) ∈ TB := in_2 (i := 225) rfl rfl
theorem cw_J2_indexOfChar_4cfef : Cond.code yJ2_indexOfChar_4cfef cJ2_indexOfChar_4cfef 4 (some FieldType.int) ∈ TB := in_2 (i := 231) rfl rfl
theorem cw_J2_checkBoundsBeginEnd_d044e : Cond.code yJ2_checkBoundsBeginEnd_d044e cJ2_checkBoundsBeginEnd_d044e 3 none ∈ TB := in_2 (i := 234) rfl rfl
theorem cw_J0_checkBoundsBeginEnd_23922 : Cond.code yJ0_checkBoundsBeginEnd_23922 cJ0_checkBoundsBeginEnd_23922 3 none ∈ TB := in_2 (i := 237) rfl rfl
theorem cw_J3_checkFromToIndex_8c36e : Cond.code yJ3_checkFromToIndex_8c36e cJ3_checkFromToIndex_8c36e 4 (some FieldType.int) ∈ TB := in_3 (i := 0) rfl rfl
theorem cw_J2_indexOfCharUnsafe_4cfef : Cond.code yJ2_indexOfCharUnsafe_4cfef cJ2_indexOfCharUnsafe_4cfef 5 (some FieldType.int) ∈ TB := in_3 (i := 3) rfl rfl
theorem cw_J2_indexOfSupplementary_4cfef : Cond.code yJ2_indexOfSupplementary_4cfef cJ2_indexOfSupplementary_4cfef 7 (some FieldType.int) ∈ TB := in_3 (i := 6) rfl rfl
theorem cw_J11_isValidCodePoint_9a6ad : Cond.code yJ11_isValidCodePoint_9a6ad cJ11_isValidCodePoint_9a6ad 2 (some FieldType.boolean) ∈ TB := in_3 (i := 9) rfl rfl
theorem cw_J11_highSurrogate_5068e : Cond.code yJ11_highSurrogate_5068e cJ11_highSurrogate_5068e 1 (some FieldType.char) ∈ TB := in_3 (i := 12) rfl rfl
theorem cw_J11_lowSurrogate_5068e : Cond.code yJ11_lowSurrogate_5068e cJ11_lowSurrogate_5068e 1 (some FieldType.char) ∈ TB := in_3 (i := 16) rfl rfl
theorem cw_X4_put : Cond.code yX4_put cX4_put 2 (some FieldType.boolean) ∈ TB := in_3 (i := 22) rfl rfl
theorem cw_X11_urchin : Cond.code yX11_urchin cX11_urchin 3 (some FieldType.int) ∈ TB := in_3 (i := 26) rfl rfl
theorem cw_X11_isNumber : Cond.code yX11_isNumber cX11_isNumber 1 (some FieldType.boolean) ∈ TB := in_3 (i := 29) rfl rfl
theorem cw_X7_join : Cond.code yX7_join cX7_join 4 (some FieldType.int) ∈ TB := in_3 (i := 33) rfl rfl
theorem cw_X7_putOut : Cond.code yX7_putOut cX7_putOut 3 none ∈ TB := in_3 (i := 37) rfl rfl
theorem cw_X11_of : Cond.code yX11_of cX11_of 3 (some FieldType.int) ∈ TB := in_3 (i := 41) rfl rfl
theorem cw_X7_has : Cond.code yX7_has cX7_has 2 (some FieldType.boolean) ∈ TB := in_3 (i := 45) rfl rfl
theorem cw_X7_isOut : Cond.code yX7_isOut cX7_isOut 2 (some FieldType.boolean) ∈ TB := in_3 (i := 50) rfl rfl
theorem cw_X11_isFact : Cond.code yX11_isFact cX11_isFact 2 (some FieldType.boolean) ∈ TB := in_3 (i := 54) rfl rfl
theorem cw_X11_holding : Cond.code yX11_holding cX11_holding 2 (some (FieldType.object "UrchinSchool$Ledge")) ∈ TB := in_3 (i := 59) rfl rfl
theorem cw_X1_heedOf : Cond.code yX1_heedOf cX1_heedOf 5 (some FieldType.int) ∈ TB := in_3 (i := 63) rfl rfl
theorem cw_X1_look : Cond.code yX1_look cX1_look 4 none ∈ TB := in_3 (i := 67) rfl rfl
theorem cw_J6_bitCount_0f7a4 : Cond.code yJ6_bitCount_0f7a4 cJ6_bitCount_0f7a4 1 (some FieldType.int) ∈ TB := in_3 (i := 71) rfl rfl
theorem cw_X1_kindOf : Cond.code yX1_kindOf cX1_kindOf 3 (some (FieldType.object "UrchinSchool$Urchin")) ∈ TB := in_3 (i := 78) rfl rfl
theorem cw_X4_sum : Cond.code yX4_sum cX4_sum 6 (some FieldType.int) ∈ TB := in_3 (i := 82) rfl rfl
theorem cw_X4_holds : Cond.code yX4_holds cX4_holds 5 (some FieldType.boolean) ∈ TB := in_3 (i := 85) rfl rfl
theorem cw_X4_joined : Cond.code yX4_joined cX4_joined 4 (some FieldType.int) ∈ TB := in_3 (i := 88) rfl rfl
theorem cw_X0_heed : Cond.code yX0_heed cX0_heed 3 (some FieldType.int) ∈ TB := in_3 (i := 95) rfl rfl
theorem cw_X2_heed : Cond.code yX2_heed cX2_heed 3 (some FieldType.int) ∈ TB := in_3 (i := 98) rfl rfl
theorem cw_X3_heed : Cond.code yX3_heed cX3_heed 3 (some FieldType.int) ∈ TB := in_3 (i := 101) rfl rfl
theorem cw_X5_heed : Cond.code yX5_heed cX5_heed 4 (some FieldType.int) ∈ TB := in_3 (i := 104) rfl rfl
theorem cw_X6_heed : Cond.code yX6_heed cX6_heed 3 (some FieldType.int) ∈ TB := in_3 (i := 108) rfl rfl
theorem cw_X9_heed : Cond.code yX9_heed cX9_heed 3 (some FieldType.int) ∈ TB := in_3 (i := 112) rfl rfl
theorem cw_X10_heed : Cond.code yX10_heed cX10_heed 3 (some FieldType.int) ∈ TB := in_3 (i := 114) rfl rfl
theorem cw_X11_row : Cond.code yX11_row cX11_row 6 (some FieldType.int) ∈ TB := in_3 (i := 118) rfl rfl
theorem cw_X11_isLesson : Cond.code yX11_isLesson cX11_isLesson 1 (some FieldType.boolean) ∈ TB := in_3 (i := 121) rfl rfl
theorem cw_X11_learn : Cond.code yX11_learn cX11_learn 4 (some FieldType.int) ∈ TB := in_3 (i := 125) rfl rfl
theorem cw_X11_isSet : Cond.code yX11_isSet cX11_isSet 1 (some FieldType.boolean) ∈ TB := in_3 (i := 128) rfl rfl
theorem cw_X11_beach : Cond.code yX11_beach cX11_beach 4 (some FieldType.int) ∈ TB := in_3 (i := 132) rfl rfl
theorem cw_X11_lesson : Cond.code yX11_lesson cX11_lesson 4 (some FieldType.int) ∈ TB := in_3 (i := 137) rfl rfl
theorem cw_X11_told : Cond.code yX11_told cX11_told 2 (some FieldType.int) ∈ TB := in_3 (i := 141) rfl rfl
theorem cw_X7_all : Cond.code yX7_all cX7_all 3 (some FieldType.int) ∈ TB := in_3 (i := 145) rfl rfl
theorem cw_X7_held : Cond.code yX7_held cX7_held 3 (some FieldType.int) ∈ TB := in_3 (i := 150) rfl rfl
theorem cw_X7_few : Cond.code yX7_few cX7_few 5 (some FieldType.int) ∈ TB := in_3 (i := 155) rfl rfl
theorem cw_X7_knownBy : Cond.code yX7_knownBy cX7_knownBy 4 (some FieldType.int) ∈ TB := in_3 (i := 160) rfl rfl
theorem cw_X11_toldLesson : Cond.code yX11_toldLesson cX11_toldLesson 3 (some FieldType.int) ∈ TB := in_3 (i := 164) rfl rfl
theorem cw_X11_pass : Cond.code yX11_pass cX11_pass 2 (some FieldType.int) ∈ TB := in_3 (i := 168) rfl rfl
theorem cw_X11_areTides : Cond.code yX11_areTides cX11_areTides 1 (some FieldType.boolean) ∈ TB := in_3 (i := 171) rfl rfl
theorem cw_X1_forget : Cond.code yX1_forget cX1_forget 1 none ∈ TB := in_3 (i := 175) rfl rfl
theorem cw_J7_fill_53178 : Cond.code yJ7_fill_53178 cJ7_fill_53178 4 none ∈ TB := in_3 (i := 178) rfl rfl
theorem cw_X11_go : Cond.code yX11_go cX11_go 5 none ∈ TB := in_3 (i := 182) rfl rfl
theorem cw_X7_lessonNow : Cond.code yX7_lessonNow cX7_lessonNow 2 (some FieldType.int) ∈ TB := in_3 (i := 186) rfl rfl
theorem cw_X7_goTide : Cond.code yX7_goTide cX7_goTide 10 none ∈ TB := in_3 (i := 190) rfl rfl
theorem cw_X1_setsOf : Cond.code yX1_setsOf cX1_setsOf 6 (some FieldType.int) ∈ TB := in_3 (i := 195) rfl rfl
theorem cw_X1_weigh : Cond.code yX1_weigh cX1_weigh 7 (some FieldType.int) ∈ TB := in_3 (i := 199) rfl rfl
theorem cw_X7_least : Cond.code yX7_least cX7_least 5 (some FieldType.int) ∈ TB := in_3 (i := 202) rfl rfl
theorem cw_X11_on : Cond.code yX11_on cX11_on 4 (some FieldType.int) ∈ TB := in_3 (i := 206) rfl rfl
theorem cw_X7_becomeRow : Cond.code yX7_becomeRow cX7_becomeRow 2 none ∈ TB := in_3 (i := 210) rfl rfl
theorem cw_X11_lasts : Cond.code yX11_lasts cX11_lasts 3 (some FieldType.int) ∈ TB := in_3 (i := 217) rfl rfl
theorem cw_X11_tidesAheadWith : Cond.code yX11_tidesAheadWith cX11_tidesAheadWith 4 (some FieldType.int) ∈ TB := in_3 (i := 221) rfl rfl
theorem cw_X11_teach : Cond.code yX11_teach cX11_teach 8 (some FieldType.int) ∈ TB := in_3 (i := 225) rfl rfl
theorem cw_X11_heldIfTaught : Cond.code yX11_heldIfTaught cX11_heldIfTaught 5 (some FieldType.int) ∈ TB := in_3 (i := 229) rfl rfl
theorem cw_X11_taughtAt : Cond.code yX11_taughtAt cX11_taughtAt 5 (some FieldType.int) ∈ TB := in_3 (i := 232) rfl rfl
theorem cw_X11_tell : Cond.code yX11_tell cX11_tell 6 (some FieldType.int) ∈ TB := in_3 (i := 236) rfl rfl
theorem cw_X11_tidesIfTold : Cond.code yX11_tidesIfTold cX11_tidesIfTold 3 (some FieldType.int) ∈ TB := in_4 (i := 0) rfl rfl
theorem cw_X7_tellFact : Cond.code yX7_tellFact cX7_tellFact 3 none ∈ TB := in_4 (i := 4) rfl rfl
theorem cw_X11_see : Cond.code yX11_see cX11_see 5 (some FieldType.int) ∈ TB := in_4 (i := 8) rfl rfl
theorem cw_X8_empty : Cond.code yX8_empty cX8_empty 1 (some FieldType.int) ∈ TB := in_4 (i := 12) rfl rfl
theorem cw_X8_add : Cond.code yX8_add cX8_add 6 (some FieldType.int) ∈ TB := in_4 (i := 16) rfl rfl
theorem cw_X11_knew : Cond.code yX11_knew cX11_knew 6 (some FieldType.int) ∈ TB := in_4 (i := 20) rfl rfl
theorem cw_X11_isPart : Cond.code yX11_isPart cX11_isPart 1 (some FieldType.boolean) ∈ TB := in_4 (i := 23) rfl rfl
theorem cw_X11_seenIsSo : Cond.code yX11_seenIsSo cX11_seenIsSo 4 (some FieldType.boolean) ∈ TB := in_4 (i := 27) rfl rfl
theorem cw_X7_lastSeen : Cond.code yX7_lastSeen cX7_lastSeen 3 (some FieldType.int) ∈ TB := in_4 (i := 31) rfl rfl
theorem cw_X8_cell : Cond.code yX8_cell cX8_cell 4 (some FieldType.int) ∈ TB := in_4 (i := 35) rfl rfl
theorem cw_X7_isAsSeen : Cond.code yX7_isAsSeen cX7_isAsSeen 5 (some FieldType.boolean) ∈ TB := in_4 (i := 40) rfl rfl
theorem cw_X11_firm : Cond.code yX11_firm cX11_firm 6 (some FieldType.int) ∈ TB := in_4 (i := 44) rfl rfl
theorem cw_X11_odds : Cond.code yX11_odds cX11_odds 6 (some FieldType.long) ∈ TB := in_4 (i := 48) rfl rfl
theorem cw_X7_notOut : Cond.code yX7_notOut cX7_notOut 3 (some FieldType.int) ∈ TB := in_4 (i := 53) rfl rfl
theorem cw_X11_lowest : Cond.code yX11_lowest cX11_lowest 7 (some FieldType.long) ∈ TB := in_4 (i := 56) rfl rfl
theorem cw_X11_mean : Cond.code yX11_mean cX11_mean 2 (some FieldType.long) ∈ TB := in_4 (i := 60) rfl rfl
theorem cw_X11_plan : Cond.code yX11_plan cX11_plan 3 (some FieldType.int) ∈ TB := in_4 (i := 64) rfl rfl
theorem cw_X11_isPlan : Cond.code yX11_isPlan cX11_isPlan 3 (some FieldType.boolean) ∈ TB := in_4 (i := 68) rfl rfl
theorem cw_X11_done : Cond.code yX11_done cX11_done 3 (some FieldType.int) ∈ TB := in_4 (i := 72) rfl rfl
theorem cw_X11_doPlanned : Cond.code yX11_doPlanned cX11_doPlanned 3 none ∈ TB := in_4 (i := 77) rfl rfl
theorem cw_X11_book : Cond.code yX11_book cX11_book 3 (some FieldType.int) ∈ TB := in_4 (i := 81) rfl rfl
theorem cw_X11_looked : Cond.code yX11_looked cX11_looked 3 (some FieldType.int) ∈ TB := in_4 (i := 85) rfl rfl
theorem cw_X11_act : Cond.code yX11_act cX11_act 5 (some FieldType.int) ∈ TB := in_4 (i := 89) rfl rfl
theorem cw_X10_wake : Cond.code yX10_wake cX10_wake 3 none ∈ TB := in_4 (i := 101) rfl rfl
theorem cw_X3_leans : Cond.code yX3_leans cX3_leans 2 (some FieldType.int) ∈ TB := in_4 (i := 110) rfl rfl
theorem cw_X10_begin : Cond.code yX10_begin cX10_begin 2 none ∈ TB := in_4 (i := 117) rfl rfl
theorem cw_X6_leans : Cond.code yX6_leans cX6_leans 2 (some FieldType.int) ∈ TB := in_4 (i := 122) rfl rfl
theorem cw_X10_leans : Cond.code yX10_leans cX10_leans 2 (some FieldType.int) ∈ TB := in_4 (i := 130) rfl rfl
theorem cw_X2_says : Cond.code yX2_says cX2_says 2 (some FieldType.int) ∈ TB := in_4 (i := 139) rfl rfl
theorem cw_X9_says : Cond.code yX9_says cX9_says 2 (some FieldType.int) ∈ TB := in_4 (i := 150) rfl rfl
theorem cw_X10_says : Cond.code yX10_says cX10_says 2 (some FieldType.int) ∈ TB := in_4 (i := 157) rfl rfl
theorem cw_X0_bristles : Cond.code yX0_bristles cX0_bristles 2 (some FieldType.int) ∈ TB := in_4 (i := 165) rfl rfl
theorem cw_X5_bristles : Cond.code yX5_bristles cX5_bristles 2 (some FieldType.int) ∈ TB := in_4 (i := 175) rfl rfl
theorem cw_X10_bristles : Cond.code yX10_bristles cX10_bristles 2 (some FieldType.int) ∈ TB := in_4 (i := 188) rfl rfl
theorem cw_X11_trace : Cond.code yX11_trace cX11_trace 2 (some FieldType.int) ∈ TB := in_4 (i := 193) rfl rfl
theorem cw_X10_bodyAt : Cond.code yX10_bodyAt cX10_bodyAt 2 (some FieldType.int) ∈ TB := in_4 (i := 204) rfl rfl
theorem cw_X11_as : Cond.code yX11_as cX11_as 5 (some FieldType.int) ∈ TB := in_4 (i := 208) rfl rfl
theorem cw_X11_image : Cond.code yX11_image cX11_image 1 (some FieldType.int) ∈ TB := in_4 (i := 214) rfl rfl
theorem cw_X7_become : Cond.code yX7_become cX7_become 2 none ∈ TB := in_4 (i := 218) rfl rfl
theorem cw_X8_takeOver : Cond.code yX8_takeOver cX8_takeOver 2 none ∈ TB := in_4 (i := 223) rfl rfl
theorem cw_X11_undo : Cond.code yX11_undo cX11_undo 1 (some FieldType.int) ∈ TB := in_4 (i := 228) rfl rfl
theorem cw_X11_count : Cond.code yX11_count cX11_count 2 (some FieldType.int) ∈ TB := in_4 (i := 232) rfl rfl
theorem cw_X12_init : Cond.code yX12_init cX12_init 2 none ∈ TB := in_4 (i := 237) rfl rfl
theorem cw_X12_feed : Cond.code yX12_feed cX12_feed 2 (some FieldType.int) ∈ TB := in_5 (i := 66) rfl rfl
theorem cw_X12_in : Cond.code yX12_in cX12_in 3 (some FieldType.boolean) ∈ TB := in_5 (i := 69) rfl rfl
theorem cw_X12_ledge : Cond.code yX12_ledge cX12_ledge 2 (some FieldType.int) ∈ TB := in_5 (i := 73) rfl rfl
theorem cw_X12_clauseHere : Cond.code yX12_clauseHere cX12_clauseHere 1 none ∈ TB := in_5 (i := 77) rfl rfl
theorem cw_X12_here : Cond.code yX12_here cX12_here 1 (some FieldType.int) ∈ TB := in_5 (i := 81) rfl rfl
theorem cw_X12_tellsHere : Cond.code yX12_tellsHere cX12_tellsHere 4 none ∈ TB := in_5 (i := 86) rfl rfl
theorem cw_X12_spells : Cond.code yX12_spells cX12_spells 3 none ∈ TB := in_5 (i := 90) rfl rfl
theorem cw_X12_must : Cond.code yX12_must cX12_must 2 none ∈ TB := in_5 (i := 96) rfl rfl
theorem cw_X12_figures : Cond.code yX12_figures cX12_figures 3 (some FieldType.int) ∈ TB := in_5 (i := 100) rfl rfl
theorem cw_X12_much : Cond.code yX12_much cX12_much 4 none ∈ TB := in_5 (i := 106) rfl rfl
theorem cw_X12_some : Cond.code yX12_some cX12_some 1 none ∈ TB := in_5 (i := 110) rfl rfl
theorem cw_X12_every : Cond.code yX12_every cX12_every 1 none ∈ TB := in_5 (i := 114) rfl rfl
theorem cw_X12_factor : Cond.code yX12_factor cX12_factor 5 none ∈ TB := in_5 (i := 118) rfl rfl
theorem cw_X12_emits : Cond.code yX12_emits cX12_emits 2 none ∈ TB := in_5 (i := 122) rfl rfl
theorem cw_X12_among : Cond.code yX12_among cX12_among 3 (some FieldType.int) ∈ TB := in_5 (i := 127) rfl rfl
theorem cw_X12_urchin : Cond.code yX12_urchin cX12_urchin 5 (some FieldType.int) ∈ TB := in_5 (i := 133) rfl rfl
theorem cw_X12_of : Cond.code yX12_of cX12_of 3 (some FieldType.int) ∈ TB := in_5 (i := 137) rfl rfl
theorem cw_X12_isUrchin : Cond.code yX12_isUrchin cX12_isUrchin 2 (some FieldType.boolean) ∈ TB := in_5 (i := 141) rfl rfl
theorem cw_X12_looksAnew : Cond.code yX12_looksAnew cX12_looksAnew 1 none ∈ TB := in_5 (i := 146) rfl rfl
theorem cw_X12_isFact : Cond.code yX12_isFact cX12_isFact 1 (some FieldType.boolean) ∈ TB := in_5 (i := 149) rfl rfl
theorem cw_X12_heedOf : Cond.code yX12_heedOf cX12_heedOf 5 (some FieldType.int) ∈ TB := in_5 (i := 153) rfl rfl
theorem cw_X12_sumOf : Cond.code yX12_sumOf cX12_sumOf 6 (some FieldType.int) ∈ TB := in_5 (i := 157) rfl rfl
theorem cw_X12_countOf : Cond.code yX12_countOf cX12_countOf 3 (some FieldType.int) ∈ TB := in_5 (i := 160) rfl rfl
theorem cw_X12_clausesOf : Cond.code yX12_clausesOf cX12_clausesOf 14 (some FieldType.int) ∈ TB := in_5 (i := 164) rfl rfl
theorem cw_X12_tellsOf : Cond.code yX12_tellsOf cX12_tellsOf 3 (some FieldType.int) ∈ TB := in_5 (i := 168) rfl rfl
theorem cw_X12_row : Cond.code yX12_row cX12_row 4 (some FieldType.int) ∈ TB := in_5 (i := 172) rfl rfl
theorem cw_X12_becomes : Cond.code yX12_becomes cX12_becomes 4 (some FieldType.int) ∈ TB := in_5 (i := 176) rfl rfl
theorem cw_X12_learn : Cond.code yX12_learn cX12_learn 3 (some FieldType.int) ∈ TB := in_5 (i := 180) rfl rfl
theorem cw_X12_beach : Cond.code yX12_beach cX12_beach 3 (some FieldType.int) ∈ TB := in_5 (i := 184) rfl rfl
theorem cw_X12_lesson : Cond.code yX12_lesson cX12_lesson 3 (some FieldType.int) ∈ TB := in_5 (i := 188) rfl rfl
theorem cw_X12_told : Cond.code yX12_told cX12_told 2 (some FieldType.int) ∈ TB := in_5 (i := 192) rfl rfl
theorem cw_X12_knownByAny : Cond.code yX12_knownByAny cX12_knownByAny 3 (some FieldType.int) ∈ TB := in_5 (i := 196) rfl rfl
theorem cw_X12_heldByAll : Cond.code yX12_heldByAll cX12_heldByAll 3 (some FieldType.int) ∈ TB := in_5 (i := 200) rfl rfl
theorem cw_X12_awayOnes : Cond.code yX12_awayOnes cX12_awayOnes 3 (some FieldType.int) ∈ TB := in_5 (i := 204) rfl rfl
theorem cw_X12_fewest : Cond.code yX12_fewest cX12_fewest 4 (some FieldType.int) ∈ TB := in_5 (i := 208) rfl rfl
theorem cw_X12_knownBy : Cond.code yX12_knownBy cX12_knownBy 4 (some FieldType.int) ∈ TB := in_5 (i := 212) rfl rfl
theorem cw_X12_pass : Cond.code yX12_pass cX12_pass 2 (some FieldType.int) ∈ TB := in_5 (i := 216) rfl rfl
theorem cw_X12_goesOn : Cond.code yX12_goesOn cX12_goesOn 3 none ∈ TB := in_5 (i := 220) rfl rfl
theorem cw_X12_goes : Cond.code yX12_goes cX12_goes 1 none ∈ TB := in_5 (i := 224) rfl rfl
theorem cw_X12_goesBy : Cond.code yX12_goesBy cX12_goesBy 3 none ∈ TB := in_5 (i := 228) rfl rfl
theorem cw_X12_knownNext : Cond.code yX12_knownNext cX12_knownNext 6 (some FieldType.int) ∈ TB := in_5 (i := 232) rfl rfl
theorem cw_X12_isKnownNext : Cond.code yX12_isKnownNext cX12_isKnownNext 7 (some FieldType.boolean) ∈ TB := in_5 (i := 236) rfl rfl
theorem cw_X12_isPassed : Cond.code yX12_isPassed cX12_isPassed 5 (some FieldType.boolean) ∈ TB := in_6 (i := 0) rfl rfl
theorem cw_X12_on : Cond.code yX12_on cX12_on 4 (some FieldType.int) ∈ TB := in_6 (i := 4) rfl rfl
theorem cw_X12_keeps : Cond.code yX12_keeps cX12_keeps 2 none ∈ TB := in_6 (i := 8) rfl rfl
theorem cw_X12_goesBack : Cond.code yX12_goesBack cX12_goesBack 2 none ∈ TB := in_6 (i := 12) rfl rfl
theorem cw_X12_lasts : Cond.code yX12_lasts cX12_lasts 3 (some FieldType.int) ∈ TB := in_6 (i := 16) rfl rfl
theorem cw_X12_tidesKnown : Cond.code yX12_tidesKnown cX12_tidesKnown 4 (some FieldType.int) ∈ TB := in_6 (i := 20) rfl rfl
theorem cw_X12_tell : Cond.code yX12_tell cX12_tell 6 (some FieldType.int) ∈ TB := in_6 (i := 24) rfl rfl
theorem cw_X12_teach : Cond.code yX12_teach cX12_teach 8 (some FieldType.int) ∈ TB := in_6 (i := 28) rfl rfl
theorem cw_X12_heldBehind : Cond.code yX12_heldBehind cX12_heldBehind 6 (some FieldType.int) ∈ TB := in_6 (i := 32) rfl rfl
theorem cw_X12_see : Cond.code yX12_see cX12_see 5 (some FieldType.int) ∈ TB := in_6 (i := 36) rfl rfl
theorem cw_X12_knew : Cond.code yX12_knew cX12_knew 3 (some FieldType.int) ∈ TB := in_6 (i := 40) rfl rfl
theorem cw_X12_fitting : Cond.code yX12_fitting cX12_fitting 9 (some FieldType.int) ∈ TB := in_6 (i := 44) rfl rfl
theorem cw_X12_areAsSeen : Cond.code yX12_areAsSeen cX12_areAsSeen 3 (some FieldType.boolean) ∈ TB := in_6 (i := 48) rfl rfl
theorem cw_X12_isAsSeen : Cond.code yX12_isAsSeen cX12_isAsSeen 5 (some FieldType.boolean) ∈ TB := in_6 (i := 52) rfl rfl
theorem cw_X12_firm : Cond.code yX12_firm cX12_firm 3 (some FieldType.int) ∈ TB := in_6 (i := 56) rfl rfl
theorem cw_X12_odds : Cond.code yX12_odds cX12_odds 9 (some FieldType.long) ∈ TB := in_6 (i := 60) rfl rfl
theorem cw_X12_lowest : Cond.code yX12_lowest cX12_lowest 11 (some FieldType.long) ∈ TB := in_6 (i := 64) rfl rfl
theorem cw_X12_mean : Cond.code yX12_mean cX12_mean 4 (some FieldType.long) ∈ TB := in_6 (i := 68) rfl rfl
theorem cw_X12_plan : Cond.code yX12_plan cX12_plan 3 (some FieldType.int) ∈ TB := in_6 (i := 72) rfl rfl
theorem cw_X12_isPlan : Cond.code yX12_isPlan cX12_isPlan 3 (some FieldType.boolean) ∈ TB := in_6 (i := 76) rfl rfl
theorem cw_X12_done : Cond.code yX12_done cX12_done 3 (some FieldType.int) ∈ TB := in_6 (i := 80) rfl rfl
theorem cw_X12_does : Cond.code yX12_does cX12_does 3 none ∈ TB := in_6 (i := 84) rfl rfl
theorem cw_X12_book : Cond.code yX12_book cX12_book 3 (some FieldType.int) ∈ TB := in_6 (i := 88) rfl rfl
theorem cw_X12_looked : Cond.code yX12_looked cX12_looked 2 (some FieldType.int) ∈ TB := in_6 (i := 92) rfl rfl
theorem cw_X12_act : Cond.code yX12_act cX12_act 4 (some FieldType.int) ∈ TB := in_6 (i := 96) rfl rfl
theorem cw_X12_leansActs : Cond.code yX12_leansActs cX12_leansActs 2 (some FieldType.int) ∈ TB := in_6 (i := 100) rfl rfl
theorem cw_X12_isUnder : Cond.code yX12_isUnder cX12_isUnder 2 (some FieldType.boolean) ∈ TB := in_6 (i := 103) rfl rfl
theorem cw_X12_ranBody : Cond.code yX12_ranBody cX12_ranBody 2 none ∈ TB := in_6 (i := 107) rfl rfl
theorem cw_X12_plainLeans : Cond.code yX12_plainLeans cX12_plainLeans 2 (some FieldType.int) ∈ TB := in_6 (i := 111) rfl rfl
theorem cw_X12_saysActs : Cond.code yX12_saysActs cX12_saysActs 2 (some FieldType.int) ∈ TB := in_6 (i := 115) rfl rfl
theorem cw_X12_plainSays : Cond.code yX12_plainSays cX12_plainSays 2 (some FieldType.int) ∈ TB := in_6 (i := 119) rfl rfl
theorem cw_X12_bristlesActs : Cond.code yX12_bristlesActs cX12_bristlesActs 3 (some FieldType.int) ∈ TB := in_6 (i := 123) rfl rfl
theorem cw_X12_plainTelling : Cond.code yX12_plainTelling cX12_plainTelling 2 (some FieldType.int) ∈ TB := in_6 (i := 127) rfl rfl
theorem cw_X12_trace : Cond.code yX12_trace cX12_trace 2 (some FieldType.int) ∈ TB := in_6 (i := 131) rfl rfl
theorem cw_X12_as : Cond.code yX12_as cX12_as 3 (some FieldType.int) ∈ TB := in_6 (i := 135) rfl rfl
theorem cw_X12_image : Cond.code yX12_image cX12_image 2 (some FieldType.int) ∈ TB := in_6 (i := 139) rfl rfl
theorem cw_X12_undo : Cond.code yX12_undo cX12_undo 2 (some FieldType.int) ∈ TB := in_6 (i := 143) rfl rfl
theorem cw_X12_count : Cond.code yX12_count cX12_count 2 (some FieldType.int) ∈ TB := in_6 (i := 147) rfl rfl
theorem q_95 : Cond.methodLink RX0 13 ⟨RX0, "begin", "(I)V"⟩ ∈ TB := in_4 (i := 166) rfl rfl
theorem q_96 : Cond.sameMethod RX0 RX10 "begin" "(I)V" ∈ TB := in_4 (i := 167) rfl rfl
theorem q_97 : Cond.selects RX0 ⟨RX0, "begin", "(I)V"⟩ yX10_begin ∈ TB := in_4 (i := 168) rfl rfl
theorem q_98 : Cond.instanceMethod yX10_begin ∈ TB := in_4 (i := 116) rfl rfl
theorem q_99 : Cond.initialized RX10 ∈ TB := in_1 (i := 6) rfl rfl
theorem q_100 : Cond.selects RX9 ⟨RX0, "begin", "(I)V"⟩ yX10_begin ∈ TB := in_4 (i := 169) rfl rfl
theorem q_101 : Cond.methodLink RX0 19 yX10_bristles ∈ TB := in_4 (i := 170) rfl rfl
theorem q_102 : Cond.sameMethod RX10 RX10 "bristles" "(I)I" ∈ TB := in_4 (i := 162) rfl rfl
theorem q_103 : Cond.superclass RX0 RX10 ∈ TB := in_1 (i := 185) rfl rfl
theorem q_104 : Cond.instanceMethod yX10_bristles ∈ TB := in_4 (i := 160) rfl rfl
theorem q_105 : Cond.fieldLink RX1 12 RX1 "plain" "LUrchinSchool$Urchin;" ∈ TB := in_1 (i := 219) rfl rfl
theorem q_106 : Cond.fieldLink RX1 36 RX1 "kinds" "[LUrchinSchool$Urchin;" ∈ TB := in_1 (i := 220) rfl rfl
theorem q_107 : Cond.fieldLink RX1 40 RX1 "sets" "[I" ∈ TB := in_1 (i := 221) rfl rfl
theorem q_108 : Cond.methodLink RX1 44 yJ7_fill_53178 ∈ TB := in_3 (i := 176) rfl rfl
theorem q_109 : Cond.static yJ7_fill_53178 ∈ TB := in_3 (i := 177) rfl rfl
theorem q_110 : Cond.initialized RJ7 ∈ TB := in_1 (i := 21) rfl rfl
theorem q_111 : Cond.methodLink RX1 50 yX7_has ∈ TB := in_3 (i := 68) rfl rfl
theorem q_112 : Cond.instanceMethod yX7_has ∈ TB := in_3 (i := 43) rfl rfl
theorem q_113 : Cond.selects RX7 yX7_has yX7_has ∈ TB := in_3 (i := 44) rfl rfl
theorem q_114 : Cond.initialized RX7 ∈ TB := in_1 (i := 2) rfl rfl
theorem q_115 : Cond.fieldLink RX1 56 RX7 "knows" "[I" ∈ TB := in_1 (i := 67) rfl rfl
theorem q_116 : Cond.methodLink RX1 59 yJ6_bitCount_0f7a4 ∈ TB := in_3 (i := 69) rfl rfl
theorem q_117 : Cond.static yJ6_bitCount_0f7a4 ∈ TB := in_3 (i := 70) rfl rfl
theorem q_118 : Cond.initialized RJ6 ∈ TB := in_1 (i := 20) rfl rfl
theorem q_119 : Cond.fieldLink RX1 65 RX7 "tide" "I" ∈ TB := in_1 (i := 79) rfl rfl
theorem q_120 : Cond.methodLink RX1 69 yX1_weigh ∈ TB := in_3 (i := 196) rfl rfl
theorem q_121 : Cond.instanceMethod yX1_weigh ∈ TB := in_3 (i := 198) rfl rfl
theorem q_122 : Cond.selects RX1 yX1_weigh yX1_weigh ∈ TB := in_S (i := 15) rfl rfl
theorem q_123 : Cond.initialized RX1 ∈ TB := in_1 (i := 5) rfl rfl
theorem q_124 : Cond.methodLink RX1 73 yX1_look ∈ TB := in_3 (i := 64) rfl rfl
theorem q_125 : Cond.instanceMethod yX1_look ∈ TB := in_3 (i := 66) rfl rfl
theorem q_126 : Cond.selects RX1 yX1_look yX1_look ∈ TB := in_S (i := 11) rfl rfl
theorem q_127 : Cond.fieldLink RX1 77 RX1 "knows" "Z" ∈ TB := in_2 (i := 0) rfl rfl
theorem q_128 : Cond.fieldLink RX1 80 RX1 "k" "I" ∈ TB := in_1 (i := 224) rfl rfl
theorem q_129 : Cond.methodLink RX1 83 yX1_kindOf ∈ TB := in_3 (i := 75) rfl rfl
theorem q_130 : Cond.instanceMethod yX1_kindOf ∈ TB := in_3 (i := 76) rfl rfl
theorem q_131 : Cond.selects RX1 yX1_kindOf yX1_kindOf ∈ TB := in_3 (i := 77) rfl rfl
theorem q_132 : Cond.methodLink RX1 87 yX4_sum ∈ TB := in_3 (i := 79) rfl rfl
theorem q_133 : Cond.instanceMethod yX4_sum ∈ TB := in_3 (i := 80) rfl rfl
theorem q_134 : Cond.selects RX4 yX4_sum yX4_sum ∈ TB := in_3 (i := 81) rfl rfl
theorem q_135 : Cond.initialized RX4 ∈ TB := in_1 (i := 13) rfl rfl
theorem q_136 : Cond.methodLink RX1 93 yX10_heed ∈ TB := in_3 (i := 89) rfl rfl
theorem q_137 : Cond.sameMethod RX10 RX10 "heed" "(ILUrchinSchool$Heeds;)I" ∈ TB := in_3 (i := 92) rfl rfl
theorem q_138 : Cond.instanceMethod yX10_heed ∈ TB := in_3 (i := 90) rfl rfl
theorem q_139 : Cond.selects RX0 yX10_heed yX0_heed ∈ TB := in_3 (i := 93) rfl rfl
theorem q_140 : Cond.instanceMethod yX0_heed ∈ TB := in_3 (i := 94) rfl rfl
theorem q_141 : Cond.initialized RX0 ∈ TB := in_1 (i := 9) rfl rfl
theorem q_142 : Cond.selects RX2 yX10_heed yX2_heed ∈ TB := in_3 (i := 96) rfl rfl
theorem q_143 : Cond.instanceMethod yX2_heed ∈ TB := in_3 (i := 97) rfl rfl
theorem q_144 : Cond.initialized RX2 ∈ TB := in_1 (i := 8) rfl rfl
theorem q_145 : Cond.selects RX3 yX10_heed yX3_heed ∈ TB := in_3 (i := 99) rfl rfl
theorem q_146 : Cond.instanceMethod yX3_heed ∈ TB := in_3 (i := 100) rfl rfl
theorem q_147 : Cond.initialized RX3 ∈ TB := in_1 (i := 7) rfl rfl
theorem q_148 : Cond.selects RX5 yX10_heed yX5_heed ∈ TB := in_3 (i := 102) rfl rfl
theorem q_149 : Cond.instanceMethod yX5_heed ∈ TB := in_3 (i := 103) rfl rfl
theorem q_150 : Cond.initialized RX5 ∈ TB := in_1 (i := 10) rfl rfl
theorem q_151 : Cond.selects RX6 yX10_heed yX6_heed ∈ TB := in_3 (i := 106) rfl rfl
theorem q_152 : Cond.instanceMethod yX6_heed ∈ TB := in_3 (i := 107) rfl rfl
theorem q_153 : Cond.initialized RX6 ∈ TB := in_1 (i := 11) rfl rfl
theorem q_154 : Cond.selects RX9 yX10_heed yX9_heed ∈ TB := in_3 (i := 110) rfl rfl
theorem q_155 : Cond.instanceMethod yX9_heed ∈ TB := in_3 (i := 111) rfl rfl
theorem q_156 : Cond.initialized RX9 ∈ TB := in_1 (i := 12) rfl rfl
theorem q_157 : Cond.selects RX10 yX10_heed yX10_heed ∈ TB := in_3 (i := 91) rfl rfl
theorem q_158 : Cond.fieldLink RX1 100 RX1 "p" "I" ∈ TB := in_1 (i := 222) rfl rfl
theorem q_159 : Cond.fieldLink RX1 103 RX7 "kind" "[I" ∈ TB := in_1 (i := 62) rfl rfl
theorem q_160 : Cond.fieldLink RX1 106 RX7 "v" "[I" ∈ TB := in_1 (i := 65) rfl rfl
theorem q_161 : Cond.fieldLink RX1 109 RX1 "v" "I" ∈ TB := in_1 (i := 228) rfl rfl
theorem q_162 : Cond.fieldLink RX1 111 RX1 "f" "I" ∈ TB := in_1 (i := 230) rfl rfl
theorem q_163 : Cond.fieldLink RX1 114 RX1 "c" "I" ∈ TB := in_1 (i := 233) rfl rfl
theorem q_164 : Cond.fieldLink RX1 117 RX1 "t" "I" ∈ TB := in_1 (i := 235) rfl rfl
theorem q_165 : Cond.fieldLink RX1 120 RX7 "rows" "[I" ∈ TB := in_1 (i := 71) rfl rfl
theorem q_166 : Cond.fieldLink RX1 123 RX1 "row" "I" ∈ TB := in_1 (i := 238) rfl rfl
theorem q_167 : Cond.methodLink RX2 7 ⟨RX2, "begin", "(I)V"⟩ ∈ TB := in_4 (i := 140) rfl rfl
theorem q_168 : Cond.sameMethod RX2 RX10 "begin" "(I)V" ∈ TB := in_4 (i := 141) rfl rfl
theorem q_169 : Cond.selects RX2 ⟨RX2, "begin", "(I)V"⟩ yX10_begin ∈ TB := in_4 (i := 142) rfl rfl
theorem q_170 : Cond.selects RX6 ⟨RX2, "begin", "(I)V"⟩ yX10_begin ∈ TB := in_4 (i := 143) rfl rfl
theorem q_171 : Cond.methodLink RX2 13 yX10_says ∈ TB := in_4 (i := 144) rfl rfl
theorem q_172 : Cond.sameMethod RX10 RX10 "says" "(I)I" ∈ TB := in_4 (i := 135) rfl rfl
theorem q_173 : Cond.superclass RX2 RX10 ∈ TB := in_1 (i := 174) rfl rfl
theorem q_174 : Cond.instanceMethod yX10_says ∈ TB := in_4 (i := 133) rfl rfl
theorem q_175 : Cond.methodLink RX3 13 ⟨RX3, "begin", "(I)V"⟩ ∈ TB := in_4 (i := 111) rfl rfl
theorem q_176 : Cond.sameMethod RX3 RX10 "begin" "(I)V" ∈ TB := in_4 (i := 112) rfl rfl
theorem q_177 : Cond.selects RX3 ⟨RX3, "begin", "(I)V"⟩ yX10_begin ∈ TB := in_4 (i := 114) rfl rfl
theorem q_178 : Cond.selects RX5 ⟨RX3, "begin", "(I)V"⟩ yX10_begin ∈ TB := in_4 (i := 115) rfl rfl
theorem q_179 : Cond.methodLink RX3 19 yX10_leans ∈ TB := in_4 (i := 118) rfl rfl
theorem q_180 : Cond.sameMethod RX10 RX10 "leans" "(I)I" ∈ TB := in_4 (i := 105) rfl rfl
theorem q_181 : Cond.superclass RX3 RX10 ∈ TB := in_1 (i := 163) rfl rfl
theorem q_182 : Cond.instanceMethod yX10_leans ∈ TB := in_4 (i := 103) rfl rfl
theorem q_183 : Cond.fieldLink RX4 9 RX4 "steps" "[I" ∈ TB := in_2 (i := 30) rfl rfl
theorem q_184 : Cond.fieldLink RX4 15 RX4 "keep" "I" ∈ TB := in_2 (i := 32) rfl rfl
theorem q_185 : Cond.fieldLink RX4 19 RX4 "pass" "I" ∈ TB := in_2 (i := 35) rfl rfl
theorem q_186 : Cond.fieldLink RX4 22 RX4 "tape" "[B" ∈ TB := in_2 (i := 38) rfl rfl
theorem q_187 : Cond.fieldLink RX4 26 RX4 "signs" "I" ∈ TB := in_2 (i := 39) rfl rfl
theorem q_188 : Cond.fieldLink RX4 29 RX4 "at" "I" ∈ TB := in_2 (i := 40) rfl rfl
theorem q_189 : Cond.fieldLink RX4 32 RX4 "size" "I" ∈ TB := in_2 (i := 31) rfl rfl
theorem q_190 : Cond.methodLink RX4 35 yX4_advance ∈ TB := in_2 (i := 103) rfl rfl
theorem q_191 : Cond.instanceMethod yX4_advance ∈ TB := in_2 (i := 105) rfl rfl
theorem q_192 : Cond.selects RX4 yX4_advance yX4_advance ∈ TB := in_S (i := 0) rfl rfl
theorem q_193 : Cond.methodLink RX4 38 yX4_readClause ∈ TB := in_2 (i := 107) rfl rfl
theorem q_194 : Cond.instanceMethod yX4_readClause ∈ TB := in_2 (i := 109) rfl rfl
theorem q_195 : Cond.selects RX4 yX4_readClause yX4_readClause ∈ TB := in_S (i := 1) rfl rfl
theorem q_196 : Cond.fieldLink RX4 42 RX4 "sign" "I" ∈ TB := in_2 (i := 41) rfl rfl
theorem q_197 : Cond.methodLink RX4 45 yX4_take ∈ TB := in_2 (i := 170) rfl rfl
theorem q_198 : Cond.instanceMethod yX4_take ∈ TB := in_2 (i := 172) rfl rfl
theorem q_199 : Cond.selects RX4 yX4_take yX4_take ∈ TB := in_S (i := 3) rfl rfl
theorem q_200 : Cond.methodLink RX4 49 yX4_wordOf ∈ TB := in_2 (i := 111) rfl rfl
theorem q_201 : Cond.static yX4_wordOf ∈ TB := in_2 (i := 112) rfl rfl
theorem q_202 : Cond.methodLink RX4 53 yX4_takeWord ∈ TB := in_2 (i := 118) rfl rfl
theorem q_203 : Cond.instanceMethod yX4_takeWord ∈ TB := in_2 (i := 120) rfl rfl
theorem q_204 : Cond.selects RX4 yX4_takeWord yX4_takeWord ∈ TB := in_S (i := 2) rfl rfl
theorem q_205 : Cond.methodLink RX4 57 yX4_readNumber ∈ TB := in_2 (i := 174) rfl rfl
theorem q_206 : Cond.instanceMethod yX4_readNumber ∈ TB := in_2 (i := 176) rfl rfl
theorem q_207 : Cond.selects RX4 yX4_readNumber yX4_readNumber ∈ TB := in_S (i := 4) rfl rfl
theorem q_208 : Cond.fieldLink RX4 60 RX4 "number" "I" ∈ TB := in_2 (i := 43) rfl rfl
theorem q_209 : Cond.methodLink RX4 63 yX4_readEither ∈ TB := in_2 (i := 181) rfl rfl
theorem q_210 : Cond.instanceMethod yX4_readEither ∈ TB := in_2 (i := 183) rfl rfl
theorem q_211 : Cond.selects RX4 yX4_readEither yX4_readEither ∈ TB := in_S (i := 5) rfl rfl
theorem q_212 : Cond.methodLink RX4 66 yX4_put ∈ TB := in_3 (i := 19) rfl rfl
theorem q_213 : Cond.instanceMethod yX4_put ∈ TB := in_3 (i := 21) rfl rfl
theorem q_214 : Cond.selects RX4 yX4_put yX4_put ∈ TB := in_S (i := 9) rfl rfl
theorem q_215 : Cond.methodLink RX4 77 yX4_readBoth ∈ TB := in_2 (i := 185) rfl rfl
theorem q_216 : Cond.instanceMethod yX4_readBoth ∈ TB := in_2 (i := 187) rfl rfl
theorem q_217 : Cond.selects RX4 yX4_readBoth yX4_readBoth ∈ TB := in_S (i := 6) rfl rfl
theorem q_218 : Cond.methodLink RX4 80 yX4_readPart ∈ TB := in_2 (i := 189) rfl rfl
theorem q_219 : Cond.instanceMethod yX4_readPart ∈ TB := in_2 (i := 191) rfl rfl
theorem q_220 : Cond.selects RX4 yX4_readPart yX4_readPart ∈ TB := in_S (i := 7) rfl rfl
theorem q_221 : Cond.methodLink RX4 83 yX4_readTest ∈ TB := in_2 (i := 193) rfl rfl
theorem q_222 : Cond.instanceMethod yX4_readTest ∈ TB := in_2 (i := 195) rfl rfl
theorem q_223 : Cond.selects RX4 yX4_readTest yX4_readTest ∈ TB := in_S (i := 8) rfl rfl
theorem q_224 : Cond.fieldLink RX4 86 RX4 "test" "I" ∈ TB := in_2 (i := 42) rfl rfl
theorem q_225 : Cond.methodLink RX4 91 yX4_placeOf ∈ TB := in_2 (i := 198) rfl rfl
theorem q_226 : Cond.static yX4_placeOf ∈ TB := in_2 (i := 199) rfl rfl
theorem q_227 : Cond.methodLink RX4 97 yJ0_indexOf_0f7a4 ∈ TB := in_2 (i := 201) rfl rfl
theorem q_228 : Cond.instanceMethod yJ0_indexOf_0f7a4 ∈ TB := in_2 (i := 202) rfl rfl
theorem q_229 : Cond.selects RJ0 yJ0_indexOf_0f7a4 yJ0_indexOf_0f7a4 ∈ TB := in_2 (i := 203) rfl rfl
theorem q_230 : Cond.initialized RJ0 ∈ TB := in_1 (i := 15) rfl rfl
theorem q_231 : Cond.methodLink RX4 103 yX4_isDigit ∈ TB := in_2 (i := 178) rfl rfl
theorem q_232 : Cond.static yX4_isDigit ∈ TB := in_2 (i := 179) rfl rfl
theorem q_233 : Cond.methodLink RX4 106 yJ0_length_8abf5 ∈ TB := in_2 (i := 122) rfl rfl
theorem q_234 : Cond.instanceMethod yJ0_length_8abf5 ∈ TB := in_2 (i := 123) rfl rfl
theorem q_235 : Cond.selects RJ0 yJ0_length_8abf5 yJ0_length_8abf5 ∈ TB := in_2 (i := 124) rfl rfl
theorem q_236 : Cond.methodLink RX4 110 yJ0_charAt_5068e ∈ TB := in_2 (i := 132) rfl rfl
theorem q_237 : Cond.instanceMethod yJ0_charAt_5068e ∈ TB := in_2 (i := 133) rfl rfl
theorem q_238 : Cond.selects RJ0 yJ0_charAt_5068e yJ0_charAt_5068e ∈ TB := in_2 (i := 134) rfl rfl
theorem q_239 : Cond.methodLink RX4 114 yX4_holds ∈ TB := in_3 (i := 83) rfl rfl
theorem q_240 : Cond.static yX4_holds ∈ TB := in_3 (i := 84) rfl rfl
theorem q_241 : Cond.methodLink RX4 118 yX4_joined ∈ TB := in_3 (i := 86) rfl rfl
theorem q_242 : Cond.static yX4_joined ∈ TB := in_3 (i := 87) rfl rfl
theorem q_243 : Cond.methodLink RX5 7 yX3_heed ∈ TB := in_3 (i := 105) rfl rfl
theorem q_244 : Cond.sameMethod RX3 RX3 "heed" "(ILUrchinSchool$Heeds;)I" ∈ TB := in_6 (i := 148) rfl rfl
theorem q_245 : Cond.superclass RX5 RX3 ∈ TB := in_1 (i := 196) rfl rfl
theorem q_246 : Cond.methodLink RX5 17 ⟨RX5, "begin", "(I)V"⟩ ∈ TB := in_4 (i := 176) rfl rfl
theorem q_247 : Cond.sameMethod RX5 RX10 "begin" "(I)V" ∈ TB := in_4 (i := 177) rfl rfl
theorem q_248 : Cond.selects RX5 ⟨RX5, "begin", "(I)V"⟩ yX10_begin ∈ TB := in_4 (i := 178) rfl rfl
theorem q_249 : Cond.methodLink RX5 23 ⟨RX3, "bristles", "(I)I"⟩ ∈ TB := in_4 (i := 179) rfl rfl
theorem q_250 : Cond.sameMethod RX3 RX10 "bristles" "(I)I" ∈ TB := in_4 (i := 180) rfl rfl
theorem q_251 : Cond.methodLink RX5 27 ⟨RX5, "leans", "(I)I"⟩ ∈ TB := in_4 (i := 182) rfl rfl
theorem q_252 : Cond.sameMethod RX5 RX3 "leans" "(I)I" ∈ TB := in_4 (i := 183) rfl rfl
theorem q_253 : Cond.selects RX5 ⟨RX5, "leans", "(I)I"⟩ yX3_leans ∈ TB := in_4 (i := 185) rfl rfl
theorem q_254 : Cond.instanceMethod yX3_leans ∈ TB := in_4 (i := 109) rfl rfl
theorem q_255 : Cond.methodLink RX6 7 yX2_heed ∈ TB := in_3 (i := 109) rfl rfl
theorem q_256 : Cond.sameMethod RX2 RX2 "heed" "(ILUrchinSchool$Heeds;)I" ∈ TB := in_6 (i := 149) rfl rfl
theorem q_257 : Cond.superclass RX6 RX2 ∈ TB := in_1 (i := 207) rfl rfl
theorem q_258 : Cond.methodLink RX6 17 ⟨RX6, "begin", "(I)V"⟩ ∈ TB := in_4 (i := 123) rfl rfl
theorem q_259 : Cond.sameMethod RX6 RX10 "begin" "(I)V" ∈ TB := in_4 (i := 124) rfl rfl
theorem q_260 : Cond.selects RX6 ⟨RX6, "begin", "(I)V"⟩ yX10_begin ∈ TB := in_4 (i := 125) rfl rfl
theorem q_261 : Cond.methodLink RX6 23 ⟨RX2, "leans", "(I)I"⟩ ∈ TB := in_4 (i := 126) rfl rfl
theorem q_262 : Cond.sameMethod RX2 RX10 "leans" "(I)I" ∈ TB := in_4 (i := 127) rfl rfl
theorem q_263 : Cond.fieldLink RX6 27 RX6 "i" "I" ∈ TB := in_1 (i := 138) rfl rfl
theorem q_264 : Cond.sameField RX6 RX10 "i" "I" ∈ TB := in_1 (i := 139) rfl rfl
theorem q_265 : Cond.fieldLink RX7 9 RX7 "kind" "[I" ∈ TB := in_1 (i := 60) rfl rfl
theorem q_266 : Cond.fieldLink RX7 15 RX7 "v" "[I" ∈ TB := in_1 (i := 63) rfl rfl
theorem q_267 : Cond.fieldLink RX7 18 RX7 "knows" "[I" ∈ TB := in_1 (i := 66) rfl rfl
theorem q_268 : Cond.fieldLink RX7 21 RX7 "rows" "[I" ∈ TB := in_1 (i := 69) rfl rfl
theorem q_269 : Cond.fieldLink RX7 24 RX7 "lessons" "[I" ∈ TB := in_1 (i := 72) rfl rfl
theorem q_270 : Cond.fieldLink RX7 27 RX7 "tape" "[B" ∈ TB := in_1 (i := 81) rfl rfl
theorem q_271 : Cond.fieldLink RX7 36 RX7 "seen" "LUrchinSchool$Table;" ∈ TB := in_1 (i := 87) rfl rfl
theorem q_272 : Cond.fieldLink RX7 40 RX7 "plan" "LUrchinSchool$Table;" ∈ TB := in_1 (i := 89) rfl rfl
theorem q_273 : Cond.fieldLink RX7 43 RX7 "book" "LUrchinSchool$Table;" ∈ TB := in_1 (i := 91) rfl rfl
theorem q_274 : Cond.methodLink RX7 46 yX7_becomeRow ∈ TB := in_4 (i := 219) rfl rfl
theorem q_275 : Cond.instanceMethod yX7_becomeRow ∈ TB := in_3 (i := 208) rfl rfl
theorem q_276 : Cond.selects RX7 yX7_becomeRow yX7_becomeRow ∈ TB := in_3 (i := 209) rfl rfl
theorem q_277 : Cond.methodLink RX7 50 ⟨RJ10, "arraycopy", "(Ljava/lang/Object;ILjava/lang/Object;II)V"⟩ ∈ TB := in_3 (i := 211) rfl rfl
theorem q_278 : Cond.native ⟨RJ10, "arraycopy", "(Ljava/lang/Object;ILjava/lang/Object;II)V"⟩ ∈ TB := in_3 (i := 213) rfl rfl
theorem q_279 : Cond.static ⟨RJ10, "arraycopy", "(Ljava/lang/Object;ILjava/lang/Object;II)V"⟩ ∈ TB := in_3 (i := 212) rfl rfl
theorem q_280 : Cond.initialized RJ10 ∈ TB := in_1 (i := 22) rfl rfl
theorem q_281 : Cond.fieldLink RX7 56 RX7 "signs" "I" ∈ TB := in_1 (i := 84) rfl rfl
theorem q_282 : Cond.fieldLink RX7 60 RX7 "ledges" "I" ∈ TB := in_1 (i := 85) rfl rfl
theorem q_283 : Cond.methodLink RX7 63 yX8_takeOver ∈ TB := in_4 (i := 220) rfl rfl
theorem q_284 : Cond.instanceMethod yX8_takeOver ∈ TB := in_4 (i := 221) rfl rfl
theorem q_285 : Cond.selects RX8 yX8_takeOver yX8_takeOver ∈ TB := in_4 (i := 222) rfl rfl
theorem q_286 : Cond.initialized RX8 ∈ TB := in_1 (i := 3) rfl rfl
theorem q_287 : Cond.fieldLink RX7 67 RX7 "size" "I" ∈ TB := in_1 (i := 74) rfl rfl
theorem q_288 : Cond.fieldLink RX7 70 RX7 "out" "I" ∈ TB := in_1 (i := 76) rfl rfl
theorem q_289 : Cond.fieldLink RX7 73 RX7 "tide" "I" ∈ TB := in_1 (i := 78) rfl rfl
theorem q_290 : Cond.methodLink RX7 76 yX7_putOut ∈ TB := in_3 (i := 34) rfl rfl
theorem q_291 : Cond.instanceMethod yX7_putOut ∈ TB := in_3 (i := 35) rfl rfl
theorem q_292 : Cond.selects RX7 yX7_putOut yX7_putOut ∈ TB := in_3 (i := 36) rfl rfl
theorem q_293 : Cond.methodLink RX7 80 yX7_has ∈ TB := in_3 (i := 191) rfl rfl
theorem q_294 : Cond.methodLink RX7 84 yX7_isOut ∈ TB := in_3 (i := 146) rfl rfl
theorem q_295 : Cond.instanceMethod yX7_isOut ∈ TB := in_3 (i := 48) rfl rfl
theorem q_296 : Cond.selects RX7 yX7_isOut yX7_isOut ∈ TB := in_3 (i := 49) rfl rfl
theorem q_297 : Cond.methodLink RX7 87 yJ6_bitCount_0f7a4 ∈ TB := in_3 (i := 151) rfl rfl
theorem q_298 : Cond.methodLink RX7 93 yX7_all ∈ TB := in_3 (i := 156) rfl rfl
theorem q_299 : Cond.instanceMethod yX7_all ∈ TB := in_3 (i := 143) rfl rfl
theorem q_300 : Cond.selects RX7 yX7_all yX7_all ∈ TB := in_3 (i := 144) rfl rfl
theorem q_301 : Cond.methodLink RX7 97 yX7_knownBy ∈ TB := in_3 (i := 157) rfl rfl
theorem q_302 : Cond.instanceMethod yX7_knownBy ∈ TB := in_3 (i := 159) rfl rfl
theorem q_303 : Cond.selects RX7 yX7_knownBy yX7_knownBy ∈ TB := in_S (i := 12) rfl rfl
theorem q_304 : Cond.methodLink RX7 101 yX8_cell ∈ TB := in_4 (i := 32) rfl rfl
theorem q_305 : Cond.instanceMethod yX8_cell ∈ TB := in_4 (i := 33) rfl rfl
theorem q_306 : Cond.selects RX8 yX8_cell yX8_cell ∈ TB := in_4 (i := 34) rfl rfl
theorem q_307 : Cond.methodLink RX7 105 yJ9_max_7cf53 ∈ TB := in_4 (i := 36) rfl rfl
theorem q_308 : Cond.static yJ9_max_7cf53 ∈ TB := in_2 (i := 217) rfl rfl
theorem q_309 : Cond.initialized RJ9 ∈ TB := in_1 (i := 4) rfl rfl
theorem q_310 : Cond.methodLink RX7 110 yX1_setsOf ∈ TB := in_3 (i := 192) rfl rfl
theorem q_311 : Cond.instanceMethod yX1_setsOf ∈ TB := in_3 (i := 193) rfl rfl
theorem q_312 : Cond.selects RX1 yX1_setsOf yX1_setsOf ∈ TB := in_3 (i := 194) rfl rfl
theorem q_313 : Cond.methodLink RX7 121 yX7_least ∈ TB := in_3 (i := 200) rfl rfl
theorem q_314 : Cond.static yX7_least ∈ TB := in_3 (i := 201) rfl rfl
theorem q_315 : Cond.fieldLink RX8 11 RX8 "cells" "[I" ∈ TB := in_1 (i := 46) rfl rfl
theorem q_316 : Cond.methodLink RX8 15 yJ9_min_7cf53 ∈ TB := in_1 (i := 43) rfl rfl
theorem q_317 : Cond.static yJ9_min_7cf53 ∈ TB := in_1 (i := 44) rfl rfl
theorem q_318 : Cond.fieldLink RX8 21 RX8 "limit" "I" ∈ TB := in_1 (i := 47) rfl rfl
theorem q_319 : Cond.fieldLink RX8 25 RX8 "size" "I" ∈ TB := in_1 (i := 48) rfl rfl
theorem q_320 : Cond.methodLink RX8 28 ⟨RJ10, "arraycopy", "(Ljava/lang/Object;ILjava/lang/Object;II)V"⟩ ∈ TB := in_4 (i := 224) rfl rfl
theorem q_321 : Cond.methodLink RX9 7 yX0_heed ∈ TB := in_3 (i := 113) rfl rfl
theorem q_322 : Cond.sameMethod RX0 RX0 "heed" "(ILUrchinSchool$Heeds;)I" ∈ TB := in_6 (i := 150) rfl rfl
theorem q_323 : Cond.superclass RX9 RX0 ∈ TB := in_1 (i := 218) rfl rfl
theorem q_324 : Cond.methodLink RX9 17 ⟨RX9, "begin", "(I)V"⟩ ∈ TB := in_4 (i := 151) rfl rfl
theorem q_325 : Cond.sameMethod RX9 RX10 "begin" "(I)V" ∈ TB := in_4 (i := 152) rfl rfl
theorem q_326 : Cond.selects RX9 ⟨RX9, "begin", "(I)V"⟩ yX10_begin ∈ TB := in_4 (i := 153) rfl rfl
theorem q_327 : Cond.methodLink RX9 23 ⟨RX0, "says", "(I)I"⟩ ∈ TB := in_4 (i := 154) rfl rfl
theorem q_328 : Cond.sameMethod RX0 RX10 "says" "(I)I" ∈ TB := in_4 (i := 155) rfl rfl
theorem q_329 : Cond.fieldLink RX9 27 RX9 "v" "I" ∈ TB := in_1 (i := 141) rfl rfl
theorem q_330 : Cond.sameField RX9 RX10 "v" "I" ∈ TB := in_1 (i := 142) rfl rfl
theorem q_331 : Cond.fieldLink RX10 9 RX10 "bodies" "[I" ∈ TB := in_1 (i := 134) rfl rfl
theorem q_332 : Cond.fieldLink RX10 15 RX10 "i" "I" ∈ TB := in_1 (i := 137) rfl rfl
theorem q_333 : Cond.fieldLink RX10 19 RX10 "v" "I" ∈ TB := in_1 (i := 140) rfl rfl
theorem q_334 : Cond.fieldLink RX10 22 RX10 "ran" "I" ∈ TB := in_1 (i := 135) rfl rfl
theorem q_335 : Cond.methodLink RX10 25 yX10_begin ∈ TB := in_4 (i := 131) rfl rfl
theorem q_336 : Cond.sameMethod RX10 RX10 "begin" "(I)V" ∈ TB := in_6 (i := 151) rfl rfl
theorem q_337 : Cond.selects RX0 yX10_begin yX10_begin ∈ TB := in_6 (i := 152) rfl rfl
theorem q_338 : Cond.selects RX2 yX10_begin yX10_begin ∈ TB := in_6 (i := 153) rfl rfl
theorem q_339 : Cond.selects RX3 yX10_begin yX10_begin ∈ TB := in_6 (i := 154) rfl rfl
theorem q_340 : Cond.selects RX5 yX10_begin yX10_begin ∈ TB := in_6 (i := 155) rfl rfl
theorem q_341 : Cond.selects RX6 yX10_begin yX10_begin ∈ TB := in_6 (i := 156) rfl rfl
theorem q_342 : Cond.selects RX9 yX10_begin yX10_begin ∈ TB := in_6 (i := 157) rfl rfl
theorem q_343 : Cond.selects RX10 yX10_begin yX10_begin ∈ TB := in_6 (i := 158) rfl rfl
theorem q_344 : Cond.methodLink RX10 29 yX10_leans ∈ TB := in_4 (i := 158) rfl rfl
theorem q_345 : Cond.selects RX0 yX10_leans yX10_leans ∈ TB := in_4 (i := 106) rfl rfl
theorem q_346 : Cond.selects RX2 yX10_leans yX10_leans ∈ TB := in_4 (i := 107) rfl rfl
theorem q_347 : Cond.selects RX3 yX10_leans yX3_leans ∈ TB := in_4 (i := 108) rfl rfl
theorem q_348 : Cond.selects RX5 yX10_leans yX3_leans ∈ TB := in_4 (i := 119) rfl rfl
theorem q_349 : Cond.selects RX6 yX10_leans yX6_leans ∈ TB := in_4 (i := 120) rfl rfl
theorem q_350 : Cond.instanceMethod yX6_leans ∈ TB := in_4 (i := 121) rfl rfl
theorem q_351 : Cond.selects RX9 yX10_leans yX10_leans ∈ TB := in_4 (i := 129) rfl rfl
theorem q_352 : Cond.selects RX10 yX10_leans yX10_leans ∈ TB := in_4 (i := 104) rfl rfl
theorem q_353 : Cond.methodLink RX10 33 yX10_says ∈ TB := in_4 (i := 189) rfl rfl
theorem q_354 : Cond.selects RX0 yX10_says yX10_says ∈ TB := in_4 (i := 136) rfl rfl
theorem q_355 : Cond.selects RX2 yX10_says yX2_says ∈ TB := in_4 (i := 137) rfl rfl
theorem q_356 : Cond.instanceMethod yX2_says ∈ TB := in_4 (i := 138) rfl rfl
theorem q_357 : Cond.selects RX3 yX10_says yX10_says ∈ TB := in_4 (i := 145) rfl rfl
theorem q_358 : Cond.selects RX5 yX10_says yX10_says ∈ TB := in_4 (i := 146) rfl rfl
theorem q_359 : Cond.selects RX6 yX10_says yX2_says ∈ TB := in_4 (i := 147) rfl rfl
theorem q_360 : Cond.selects RX9 yX10_says yX9_says ∈ TB := in_4 (i := 148) rfl rfl
theorem q_361 : Cond.instanceMethod yX9_says ∈ TB := in_4 (i := 149) rfl rfl
theorem q_362 : Cond.selects RX10 yX10_says yX10_says ∈ TB := in_4 (i := 134) rfl rfl
theorem q_363 : Cond.fieldLink RX11 12 RX11 "now" "LUrchinSchool$School;" ∈ TB := in_2 (i := 66) rfl rfl
theorem q_364 : Cond.fieldLink RX11 18 RX11 "kept" "LUrchinSchool$School;" ∈ TB := in_2 (i := 67) rfl rfl
theorem q_365 : Cond.fieldLink RX11 21 RX11 "ahead" "LUrchinSchool$School;" ∈ TB := in_2 (i := 68) rfl rfl
theorem q_366 : Cond.fieldLink RX11 27 RX11 "heeds" "LUrchinSchool$Heeds;" ∈ TB := in_2 (i := 69) rfl rfl
theorem q_367 : Cond.fieldLink RX11 34 RX11 "bare" "LUrchinSchool$Ledge;" ∈ TB := in_2 (i := 70) rfl rfl
theorem q_368 : Cond.fieldLink RX11 38 RX11 "ledges" "[LUrchinSchool$Ledge;" ∈ TB := in_2 (i := 71) rfl rfl
theorem q_369 : Cond.fieldLink RX11 42 RX7 "signs" "I" ∈ TB := in_1 (i := 83) rfl rfl
theorem q_370 : Cond.fieldLink RX11 46 RX7 "tape" "[B" ∈ TB := in_1 (i := 82) rfl rfl
theorem q_371 : Cond.fieldLink RX11 50 RX7 "ledges" "I" ∈ TB := in_1 (i := 86) rfl rfl
theorem q_372 : Cond.methodLink RX11 52 yX4_read ∈ TB := in_2 (i := 99) rfl rfl
theorem q_373 : Cond.instanceMethod yX4_read ∈ TB := in_2 (i := 100) rfl rfl
theorem q_374 : Cond.selects RX4 yX4_read yX4_read ∈ TB := in_2 (i := 101) rfl rfl
theorem q_375 : Cond.methodLink RX11 56 yX11_isNumber ∈ TB := in_3 (i := 27) rfl rfl
theorem q_376 : Cond.static yX11_isNumber ∈ TB := in_3 (i := 28) rfl rfl
theorem q_377 : Cond.initialized RX11 ∈ TB := in_1 (i := 1) rfl rfl
theorem q_378 : Cond.methodLink RX11 60 yX7_join ∈ TB := in_3 (i := 30) rfl rfl
theorem q_379 : Cond.instanceMethod yX7_join ∈ TB := in_3 (i := 31) rfl rfl
theorem q_380 : Cond.selects RX7 yX7_join yX7_join ∈ TB := in_3 (i := 32) rfl rfl
theorem q_381 : Cond.methodLink RX11 64 yX7_has ∈ TB := in_3 (i := 42) rfl rfl
theorem q_382 : Cond.constant RX11 67 (-999999) ∈ TB := in_3 (i := 46) rfl rfl
theorem q_383 : Cond.fieldLink RX11 68 RX7 "kind" "[I" ∈ TB := in_1 (i := 61) rfl rfl
theorem q_384 : Cond.fieldLink RX11 72 RX7 "v" "[I" ∈ TB := in_1 (i := 64) rfl rfl
theorem q_385 : Cond.fieldLink RX11 75 RX7 "knows" "[I" ∈ TB := in_1 (i := 68) rfl rfl
theorem q_386 : Cond.methodLink RX11 78 yX7_isOut ∈ TB := in_3 (i := 47) rfl rfl
theorem q_387 : Cond.constantLong RX11 81 10 ∈ TB := in_3 (i := 51) rfl rfl
theorem q_388 : Cond.methodLink RX11 83 yX11_isFact ∈ TB := in_3 (i := 52) rfl rfl
theorem q_389 : Cond.static yX11_isFact ∈ TB := in_3 (i := 53) rfl rfl
theorem q_390 : Cond.methodLink RX11 87 yX11_holding ∈ TB := in_3 (i := 56) rfl rfl
theorem q_391 : Cond.instanceMethod yX11_holding ∈ TB := in_3 (i := 58) rfl rfl
theorem q_392 : Cond.selects RX11 yX11_holding yX11_holding ∈ TB := in_S (i := 10) rfl rfl
theorem q_393 : Cond.methodLink RX11 91 yX1_heedOf ∈ TB := in_3 (i := 60) rfl rfl
theorem q_394 : Cond.instanceMethod yX1_heedOf ∈ TB := in_3 (i := 61) rfl rfl
theorem q_395 : Cond.selects RX1 yX1_heedOf yX1_heedOf ∈ TB := in_3 (i := 62) rfl rfl
theorem q_396 : Cond.methodLink RX11 95 yX11_isLesson ∈ TB := in_3 (i := 119) rfl rfl
theorem q_397 : Cond.static yX11_isLesson ∈ TB := in_3 (i := 120) rfl rfl
theorem q_398 : Cond.fieldLink RX11 98 RX7 "rows" "[I" ∈ TB := in_1 (i := 70) rfl rfl
theorem q_399 : Cond.methodLink RX11 101 yX11_isSet ∈ TB := in_3 (i := 126) rfl rfl
theorem q_400 : Cond.static yX11_isSet ∈ TB := in_3 (i := 127) rfl rfl
theorem q_401 : Cond.methodLink RX11 104 yX7_putOut ∈ TB := in_3 (i := 133) rfl rfl
theorem q_402 : Cond.fieldLink RX11 108 RX7 "lessons" "[I" ∈ TB := in_1 (i := 73) rfl rfl
theorem q_403 : Cond.fieldLink RX11 111 RX7 "tide" "I" ∈ TB := in_1 (i := 80) rfl rfl
theorem q_404 : Cond.methodLink RX11 120 yX7_all ∈ TB := in_3 (i := 142) rfl rfl
theorem q_405 : Cond.methodLink RX11 124 yX7_held ∈ TB := in_3 (i := 147) rfl rfl
theorem q_406 : Cond.instanceMethod yX7_held ∈ TB := in_3 (i := 148) rfl rfl
theorem q_407 : Cond.selects RX7 yX7_held yX7_held ∈ TB := in_3 (i := 149) rfl rfl
theorem q_408 : Cond.fieldLink RX11 127 RX7 "out" "I" ∈ TB := in_1 (i := 77) rfl rfl
theorem q_409 : Cond.methodLink RX11 130 yX7_few ∈ TB := in_3 (i := 152) rfl rfl
theorem q_410 : Cond.instanceMethod yX7_few ∈ TB := in_3 (i := 153) rfl rfl
theorem q_411 : Cond.selects RX7 yX7_few yX7_few ∈ TB := in_3 (i := 154) rfl rfl
theorem q_412 : Cond.methodLink RX11 133 yX11_toldLesson ∈ TB := in_3 (i := 161) rfl rfl
theorem q_413 : Cond.instanceMethod yX11_toldLesson ∈ TB := in_3 (i := 163) rfl rfl
theorem q_414 : Cond.selects RX11 yX11_toldLesson yX11_toldLesson ∈ TB := in_S (i := 13) rfl rfl
theorem q_415 : Cond.methodLink RX11 137 yX11_areTides ∈ TB := in_3 (i := 169) rfl rfl
theorem q_416 : Cond.static yX11_areTides ∈ TB := in_3 (i := 170) rfl rfl
theorem q_417 : Cond.methodLink RX11 140 yX1_forget ∈ TB := in_3 (i := 172) rfl rfl
theorem q_418 : Cond.instanceMethod yX1_forget ∈ TB := in_3 (i := 173) rfl rfl
theorem q_419 : Cond.selects RX1 yX1_forget yX1_forget ∈ TB := in_3 (i := 174) rfl rfl
theorem q_420 : Cond.methodLink RX11 143 yX11_go ∈ TB := in_3 (i := 179) rfl rfl
theorem q_421 : Cond.instanceMethod yX11_go ∈ TB := in_3 (i := 181) rfl rfl
theorem q_422 : Cond.selects RX11 yX11_go yX11_go ∈ TB := in_S (i := 14) rfl rfl
theorem q_423 : Cond.methodLink RX11 147 yX7_becomeRow ∈ TB := in_3 (i := 207) rfl rfl
theorem q_424 : Cond.methodLink RX11 151 yX11_tidesAheadWith ∈ TB := in_3 (i := 218) rfl rfl
theorem q_425 : Cond.instanceMethod yX11_tidesAheadWith ∈ TB := in_3 (i := 220) rfl rfl
theorem q_426 : Cond.selects RX11 yX11_tidesAheadWith yX11_tidesAheadWith ∈ TB := in_S (i := 16) rfl rfl
theorem q_427 : Cond.methodLink RX11 154 yX11_heldIfTaught ∈ TB := in_3 (i := 226) rfl rfl
theorem q_428 : Cond.instanceMethod yX11_heldIfTaught ∈ TB := in_3 (i := 228) rfl rfl
theorem q_429 : Cond.selects RX11 yX11_heldIfTaught yX11_heldIfTaught ∈ TB := in_S (i := 17) rfl rfl
theorem q_430 : Cond.methodLink RX11 157 yX11_taughtAt ∈ TB := in_3 (i := 230) rfl rfl
theorem q_431 : Cond.static yX11_taughtAt ∈ TB := in_3 (i := 231) rfl rfl
theorem q_432 : Cond.fieldLink RX11 161 RX7 "size" "I" ∈ TB := in_1 (i := 75) rfl rfl
theorem q_433 : Cond.methodLink RX11 164 yX11_tidesIfTold ∈ TB := in_3 (i := 237) rfl rfl
theorem q_434 : Cond.instanceMethod yX11_tidesIfTold ∈ TB := in_3 (i := 239) rfl rfl
theorem q_435 : Cond.selects RX11 yX11_tidesIfTold yX11_tidesIfTold ∈ TB := in_S (i := 18) rfl rfl
theorem q_436 : Cond.methodLink RX11 167 yX7_tellFact ∈ TB := in_4 (i := 1) rfl rfl
theorem q_437 : Cond.instanceMethod yX7_tellFact ∈ TB := in_4 (i := 2) rfl rfl
theorem q_438 : Cond.selects RX7 yX7_tellFact yX7_tellFact ∈ TB := in_4 (i := 3) rfl rfl
theorem q_439 : Cond.methodLink RX11 171 yX7_lessonNow ∈ TB := in_3 (i := 183) rfl rfl
theorem q_440 : Cond.instanceMethod yX7_lessonNow ∈ TB := in_3 (i := 184) rfl rfl
theorem q_441 : Cond.selects RX7 yX7_lessonNow yX7_lessonNow ∈ TB := in_3 (i := 185) rfl rfl
theorem q_442 : Cond.methodLink RX11 174 yX7_goTide ∈ TB := in_3 (i := 187) rfl rfl
theorem q_443 : Cond.instanceMethod yX7_goTide ∈ TB := in_3 (i := 188) rfl rfl
theorem q_444 : Cond.selects RX7 yX7_goTide yX7_goTide ∈ TB := in_3 (i := 189) rfl rfl
theorem q_445 : Cond.fieldLink RX11 178 RX7 "seen" "LUrchinSchool$Table;" ∈ TB := in_1 (i := 88) rfl rfl
theorem q_446 : Cond.methodLink RX11 182 yX8_empty ∈ TB := in_4 (i := 9) rfl rfl
theorem q_447 : Cond.instanceMethod yX8_empty ∈ TB := in_4 (i := 10) rfl rfl
theorem q_448 : Cond.selects RX8 yX8_empty yX8_empty ∈ TB := in_4 (i := 11) rfl rfl
theorem q_449 : Cond.methodLink RX11 187 yX8_add ∈ TB := in_4 (i := 13) rfl rfl
theorem q_450 : Cond.instanceMethod yX8_add ∈ TB := in_4 (i := 14) rfl rfl
theorem q_451 : Cond.selects RX8 yX8_add yX8_add ∈ TB := in_4 (i := 15) rfl rfl
theorem q_452 : Cond.methodLink RX11 191 yX11_isPart ∈ TB := in_4 (i := 21) rfl rfl
theorem q_453 : Cond.static yX11_isPart ∈ TB := in_4 (i := 22) rfl rfl
theorem q_454 : Cond.methodLink RX11 194 yX11_seenIsSo ∈ TB := in_4 (i := 24) rfl rfl
theorem q_455 : Cond.instanceMethod yX11_seenIsSo ∈ TB := in_4 (i := 26) rfl rfl
theorem q_456 : Cond.selects RX11 yX11_seenIsSo yX11_seenIsSo ∈ TB := in_S (i := 19) rfl rfl
theorem q_457 : Cond.methodLink RX11 198 yX7_lastSeen ∈ TB := in_4 (i := 28) rfl rfl
theorem q_458 : Cond.instanceMethod yX7_lastSeen ∈ TB := in_4 (i := 29) rfl rfl
theorem q_459 : Cond.selects RX7 yX7_lastSeen yX7_lastSeen ∈ TB := in_4 (i := 30) rfl rfl
theorem q_460 : Cond.methodLink RX11 201 yX7_isAsSeen ∈ TB := in_4 (i := 37) rfl rfl
theorem q_461 : Cond.instanceMethod yX7_isAsSeen ∈ TB := in_4 (i := 38) rfl rfl
theorem q_462 : Cond.selects RX7 yX7_isAsSeen yX7_isAsSeen ∈ TB := in_4 (i := 39) rfl rfl
theorem q_463 : Cond.constantLong RX11 205 (-9223372036854775808) ∈ TB := in_4 (i := 49) rfl rfl
theorem q_464 : Cond.methodLink RX11 207 yX7_notOut ∈ TB := in_4 (i := 50) rfl rfl
theorem q_465 : Cond.instanceMethod yX7_notOut ∈ TB := in_4 (i := 51) rfl rfl
theorem q_466 : Cond.selects RX7 yX7_notOut yX7_notOut ∈ TB := in_4 (i := 52) rfl rfl
theorem q_467 : Cond.methodLink RX11 210 yX11_lowest ∈ TB := in_4 (i := 54) rfl rfl
theorem q_468 : Cond.static yX11_lowest ∈ TB := in_4 (i := 55) rfl rfl
theorem q_469 : Cond.fieldLink RX11 214 RX7 "plan" "LUrchinSchool$Table;" ∈ TB := in_1 (i := 90) rfl rfl
theorem q_470 : Cond.methodLink RX11 217 yX11_isPlan ∈ TB := in_4 (i := 65) rfl rfl
theorem q_471 : Cond.instanceMethod yX11_isPlan ∈ TB := in_4 (i := 67) rfl rfl
theorem q_472 : Cond.selects RX11 yX11_isPlan yX11_isPlan ∈ TB := in_S (i := 20) rfl rfl
theorem q_473 : Cond.methodLink RX11 222 yX8_cell ∈ TB := in_4 (i := 73) rfl rfl
theorem q_474 : Cond.methodLink RX11 225 yX11_doPlanned ∈ TB := in_4 (i := 74) rfl rfl
theorem q_475 : Cond.instanceMethod yX11_doPlanned ∈ TB := in_4 (i := 76) rfl rfl
theorem q_476 : Cond.selects RX11 yX11_doPlanned yX11_doPlanned ∈ TB := in_S (i := 21) rfl rfl
theorem q_477 : Cond.fieldLink RX11 228 RX7 "book" "LUrchinSchool$Table;" ∈ TB := in_1 (i := 92) rfl rfl
theorem q_478 : Cond.fieldLink RX11 231 RX11 "actor" "LUrchinSchool$Urchin;" ∈ TB := in_2 (i := 73) rfl rfl
theorem q_479 : Cond.methodLink RX11 235 yX1_kindOf ∈ TB := in_4 (i := 90) rfl rfl
theorem q_480 : Cond.methodLink RX11 239 yX10_wake ∈ TB := in_4 (i := 91) rfl rfl
theorem q_481 : Cond.sameMethod RX10 RX10 "wake" "(II)V" ∈ TB := in_4 (i := 94) rfl rfl
theorem q_482 : Cond.selects RX0 yX10_wake yX10_wake ∈ TB := in_4 (i := 95) rfl rfl
theorem q_483 : Cond.instanceMethod yX10_wake ∈ TB := in_4 (i := 92) rfl rfl
theorem q_484 : Cond.selects RX2 yX10_wake yX10_wake ∈ TB := in_4 (i := 96) rfl rfl
theorem q_485 : Cond.selects RX3 yX10_wake yX10_wake ∈ TB := in_4 (i := 97) rfl rfl
theorem q_486 : Cond.selects RX5 yX10_wake yX10_wake ∈ TB := in_4 (i := 98) rfl rfl
theorem q_487 : Cond.selects RX6 yX10_wake yX10_wake ∈ TB := in_4 (i := 99) rfl rfl
theorem q_488 : Cond.selects RX9 yX10_wake yX10_wake ∈ TB := in_4 (i := 100) rfl rfl
theorem q_489 : Cond.selects RX10 yX10_wake yX10_wake ∈ TB := in_4 (i := 93) rfl rfl
theorem q_490 : Cond.methodLink RX11 244 yX10_leans ∈ TB := in_4 (i := 102) rfl rfl
theorem q_491 : Cond.methodLink RX11 247 yX10_says ∈ TB := in_4 (i := 132) rfl rfl
theorem q_492 : Cond.methodLink RX11 250 yX10_bristles ∈ TB := in_4 (i := 159) rfl rfl
theorem q_493 : Cond.selects RX0 yX10_bristles yX0_bristles ∈ TB := in_4 (i := 163) rfl rfl
theorem q_494 : Cond.instanceMethod yX0_bristles ∈ TB := in_4 (i := 164) rfl rfl
theorem q_495 : Cond.selects RX2 yX10_bristles yX10_bristles ∈ TB := in_4 (i := 171) rfl rfl
theorem q_496 : Cond.selects RX3 yX10_bristles yX10_bristles ∈ TB := in_4 (i := 172) rfl rfl
theorem q_497 : Cond.selects RX5 yX10_bristles yX5_bristles ∈ TB := in_4 (i := 173) rfl rfl
theorem q_498 : Cond.instanceMethod yX5_bristles ∈ TB := in_4 (i := 174) rfl rfl
theorem q_499 : Cond.selects RX6 yX10_bristles yX10_bristles ∈ TB := in_4 (i := 186) rfl rfl
theorem q_500 : Cond.selects RX9 yX10_bristles yX0_bristles ∈ TB := in_4 (i := 187) rfl rfl
theorem q_501 : Cond.selects RX10 yX10_bristles yX10_bristles ∈ TB := in_4 (i := 161) rfl rfl
theorem q_502 : Cond.methodLink RX11 253 yX10_bodyAt ∈ TB := in_4 (i := 194) rfl rfl
theorem q_503 : Cond.sameMethod RX10 RX10 "bodyAt" "(I)I" ∈ TB := in_4 (i := 197) rfl rfl
theorem q_504 : Cond.selects RX0 yX10_bodyAt yX10_bodyAt ∈ TB := in_4 (i := 198) rfl rfl
theorem q_505 : Cond.instanceMethod yX10_bodyAt ∈ TB := in_4 (i := 195) rfl rfl
theorem q_506 : Cond.selects RX2 yX10_bodyAt yX10_bodyAt ∈ TB := in_4 (i := 199) rfl rfl
theorem q_507 : Cond.selects RX3 yX10_bodyAt yX10_bodyAt ∈ TB := in_4 (i := 200) rfl rfl
theorem q_508 : Cond.selects RX5 yX10_bodyAt yX10_bodyAt ∈ TB := in_4 (i := 201) rfl rfl
theorem q_509 : Cond.selects RX6 yX10_bodyAt yX10_bodyAt ∈ TB := in_4 (i := 202) rfl rfl
theorem q_510 : Cond.selects RX9 yX10_bodyAt yX10_bodyAt ∈ TB := in_4 (i := 203) rfl rfl
theorem q_511 : Cond.selects RX10 yX10_bodyAt yX10_bodyAt ∈ TB := in_4 (i := 196) rfl rfl
theorem q_512 : Cond.fieldLink RX11 256 RX11 "ABOVE" "[I" ∈ TB := in_4 (i := 209) rfl rfl
theorem q_513 : Cond.methodLink RX11 259 yX7_become ∈ TB := in_4 (i := 215) rfl rfl
theorem q_514 : Cond.instanceMethod yX7_become ∈ TB := in_4 (i := 216) rfl rfl
theorem q_515 : Cond.selects RX7 yX7_become yX7_become ∈ TB := in_4 (i := 217) rfl rfl
theorem q_516 : Cond.fieldLink RX11 262 RX11 "imageTaken" "Z" ∈ TB := in_2 (i := 72) rfl rfl
theorem q_517 : Cond.constantLong RX11 269 8 ∈ TB := in_3 (i := 55) rfl rfl
theorem q_518 : Cond.fieldLink RX12 9 RX12 "s" "[I" ∈ TB := in_4 (i := 239) rfl rfl
theorem q_519 : Cond.fieldLink RX12 15 RX12 "image" "[I" ∈ TB := in_5 (i := 0) rfl rfl
theorem q_520 : Cond.fieldLink RX12 18 RX12 "frame" "[I" ∈ TB := in_5 (i := 1) rfl rfl
theorem q_521 : Cond.fieldLink RX12 21 RX12 "by" "[I" ∈ TB := in_5 (i := 8) rfl rfl
theorem q_522 : Cond.fieldLink RX12 24 RX12 "truths" "[Z" ∈ TB := in_5 (i := 9) rfl rfl
theorem q_523 : Cond.fieldLink RX12 28 RX12 "sums" "[I" ∈ TB := in_5 (i := 10) rfl rfl
theorem q_524 : Cond.fieldLink RX12 31 RX12 "lookedFor" "[I" ∈ TB := in_5 (i := 11) rfl rfl
theorem q_525 : Cond.fieldLink RX12 34 RX12 "next" "[I" ∈ TB := in_5 (i := 13) rfl rfl
theorem q_526 : Cond.fieldLink RX12 37 RX12 "bodies" "[I" ∈ TB := in_5 (i := 14) rfl rfl
theorem q_527 : Cond.methodLink RX12 44 yX12_in ∈ TB := in_5 (i := 67) rfl rfl
theorem q_528 : Cond.static yX12_in ∈ TB := in_5 (i := 68) rfl rfl
theorem q_529 : Cond.initialized RX12 ∈ TB := in_1 (i := 14) rfl rfl
theorem q_530 : Cond.fieldLink RX12 48 RX12 "spot" "I" ∈ TB := in_5 (i := 4) rfl rfl
theorem q_531 : Cond.fieldLink RX12 51 RX12 "end" "I" ∈ TB := in_5 (i := 5) rfl rfl
theorem q_532 : Cond.fieldLink RX12 54 RX12 "isWrong" "Z" ∈ TB := in_5 (i := 6) rfl rfl
theorem q_533 : Cond.methodLink RX12 58 yX12_here ∈ TB := in_5 (i := 78) rfl rfl
theorem q_534 : Cond.instanceMethod yX12_here ∈ TB := in_5 (i := 80) rfl rfl
theorem q_535 : Cond.selects RX12 yX12_here yX12_here ∈ TB := in_S (i := 23) rfl rfl
theorem q_536 : Cond.methodLink RX12 62 yJ0_length_8abf5 ∈ TB := in_5 (i := 91) rfl rfl
theorem q_537 : Cond.methodLink RX12 67 yJ0_charAt_5068e ∈ TB := in_5 (i := 92) rfl rfl
theorem q_538 : Cond.methodLink RX12 71 yX12_must ∈ TB := in_5 (i := 93) rfl rfl
theorem q_539 : Cond.instanceMethod yX12_must ∈ TB := in_5 (i := 95) rfl rfl
theorem q_540 : Cond.selects RX12 yX12_must yX12_must ∈ TB := in_S (i := 26) rfl rfl
theorem q_541 : Cond.fieldLink RX12 75 RX12 "act" "I" ∈ TB := in_5 (i := 3) rfl rfl
theorem q_542 : Cond.fieldLink RX12 78 RX12 "open" "I" ∈ TB := in_5 (i := 7) rfl rfl
theorem q_543 : Cond.methodLink RX12 81 yX12_factor ∈ TB := in_5 (i := 115) rfl rfl
theorem q_544 : Cond.instanceMethod yX12_factor ∈ TB := in_5 (i := 117) rfl rfl
theorem q_545 : Cond.selects RX12 yX12_factor yX12_factor ∈ TB := in_S (i := 31) rfl rfl
theorem q_546 : Cond.methodLink RX12 84 yX12_emits ∈ TB := in_5 (i := 119) rfl rfl
theorem q_547 : Cond.instanceMethod yX12_emits ∈ TB := in_5 (i := 121) rfl rfl
theorem q_548 : Cond.selects RX12 yX12_emits yX12_emits ∈ TB := in_S (i := 32) rfl rfl
theorem q_549 : Cond.methodLink RX12 87 yX12_some ∈ TB := in_5 (i := 107) rfl rfl
theorem q_550 : Cond.instanceMethod yX12_some ∈ TB := in_5 (i := 109) rfl rfl
theorem q_551 : Cond.selects RX12 yX12_some yX12_some ∈ TB := in_S (i := 29) rfl rfl
theorem q_552 : Cond.methodLink RX12 92 yX12_among ∈ TB := in_5 (i := 124) rfl rfl
theorem q_553 : Cond.instanceMethod yX12_among ∈ TB := in_5 (i := 126) rfl rfl
theorem q_554 : Cond.selects RX12 yX12_among yX12_among ∈ TB := in_S (i := 33) rfl rfl
theorem q_555 : Cond.methodLink RX12 98 yX12_figures ∈ TB := in_5 (i := 97) rfl rfl
theorem q_556 : Cond.instanceMethod yX12_figures ∈ TB := in_5 (i := 99) rfl rfl
theorem q_557 : Cond.selects RX12 yX12_figures yX12_figures ∈ TB := in_S (i := 27) rfl rfl
theorem q_558 : Cond.methodLink RX12 101 yX12_every ∈ TB := in_5 (i := 111) rfl rfl
theorem q_559 : Cond.instanceMethod yX12_every ∈ TB := in_5 (i := 113) rfl rfl
theorem q_560 : Cond.selects RX12 yX12_every yX12_every ∈ TB := in_S (i := 30) rfl rfl
theorem q_561 : Cond.methodLink RX12 104 yX12_spells ∈ TB := in_5 (i := 87) rfl rfl
theorem q_562 : Cond.instanceMethod yX12_spells ∈ TB := in_5 (i := 89) rfl rfl
theorem q_563 : Cond.selects RX12 yX12_spells yX12_spells ∈ TB := in_S (i := 25) rfl rfl
theorem q_564 : Cond.methodLink RX12 110 yX12_tellsHere ∈ TB := in_5 (i := 83) rfl rfl
theorem q_565 : Cond.instanceMethod yX12_tellsHere ∈ TB := in_5 (i := 85) rfl rfl
theorem q_566 : Cond.selects RX12 yX12_tellsHere yX12_tellsHere ∈ TB := in_S (i := 24) rfl rfl
theorem q_567 : Cond.methodLink RX12 118 yX12_much ∈ TB := in_5 (i := 103) rfl rfl
theorem q_568 : Cond.instanceMethod yX12_much ∈ TB := in_5 (i := 105) rfl rfl
theorem q_569 : Cond.selects RX12 yX12_much yX12_much ∈ TB := in_S (i := 28) rfl rfl
theorem q_570 : Cond.methodLink RX12 123 yX12_clauseHere ∈ TB := in_5 (i := 74) rfl rfl
theorem q_571 : Cond.instanceMethod yX12_clauseHere ∈ TB := in_5 (i := 76) rfl rfl
theorem q_572 : Cond.selects RX12 yX12_clauseHere yX12_clauseHere ∈ TB := in_S (i := 22) rfl rfl
theorem q_573 : Cond.methodLink RX12 126 yX12_tellsOf ∈ TB := in_5 (i := 165) rfl rfl
theorem q_574 : Cond.instanceMethod yX12_tellsOf ∈ TB := in_5 (i := 167) rfl rfl
theorem q_575 : Cond.selects RX12 yX12_tellsOf yX12_tellsOf ∈ TB := in_S (i := 39) rfl rfl
theorem q_576 : Cond.fieldLink RX12 130 RX12 "looking" "I" ∈ TB := in_5 (i := 12) rfl rfl
theorem q_577 : Cond.methodLink RX12 133 yX12_countOf ∈ TB := in_5 (i := 158) rfl rfl
theorem q_578 : Cond.static yX12_countOf ∈ TB := in_5 (i := 159) rfl rfl
theorem q_579 : Cond.methodLink RX12 137 yX12_clausesOf ∈ TB := in_5 (i := 161) rfl rfl
theorem q_580 : Cond.instanceMethod yX12_clausesOf ∈ TB := in_5 (i := 163) rfl rfl
theorem q_581 : Cond.selects RX12 yX12_clausesOf yX12_clausesOf ∈ TB := in_S (i := 38) rfl rfl
theorem q_582 : Cond.methodLink RX12 141 yX12_sumOf ∈ TB := in_5 (i := 154) rfl rfl
theorem q_583 : Cond.instanceMethod yX12_sumOf ∈ TB := in_5 (i := 156) rfl rfl
theorem q_584 : Cond.selects RX12 yX12_sumOf yX12_sumOf ∈ TB := in_S (i := 37) rfl rfl
theorem q_585 : Cond.methodLink RX12 144 yX12_isUrchin ∈ TB := in_5 (i := 138) rfl rfl
theorem q_586 : Cond.instanceMethod yX12_isUrchin ∈ TB := in_5 (i := 140) rfl rfl
theorem q_587 : Cond.selects RX12 yX12_isUrchin yX12_isUrchin ∈ TB := in_S (i := 34) rfl rfl
theorem q_588 : Cond.constant RX12 148 (-999999) ∈ TB := in_5 (i := 142) rfl rfl
theorem q_589 : Cond.methodLink RX12 149 yX12_looksAnew ∈ TB := in_5 (i := 143) rfl rfl
theorem q_590 : Cond.instanceMethod yX12_looksAnew ∈ TB := in_5 (i := 145) rfl rfl
theorem q_591 : Cond.selects RX12 yX12_looksAnew yX12_looksAnew ∈ TB := in_S (i := 35) rfl rfl
theorem q_592 : Cond.methodLink RX12 152 yX12_isFact ∈ TB := in_5 (i := 147) rfl rfl
theorem q_593 : Cond.static yX12_isFact ∈ TB := in_5 (i := 148) rfl rfl
theorem q_594 : Cond.methodLink RX12 155 yX12_heedOf ∈ TB := in_5 (i := 150) rfl rfl
theorem q_595 : Cond.instanceMethod yX12_heedOf ∈ TB := in_5 (i := 152) rfl rfl
theorem q_596 : Cond.selects RX12 yX12_heedOf yX12_heedOf ∈ TB := in_S (i := 36) rfl rfl
theorem q_597 : Cond.methodLink RX12 158 yX12_becomes ∈ TB := in_5 (i := 173) rfl rfl
theorem q_598 : Cond.instanceMethod yX12_becomes ∈ TB := in_5 (i := 175) rfl rfl
theorem q_599 : Cond.selects RX12 yX12_becomes yX12_becomes ∈ TB := in_S (i := 40) rfl rfl
theorem q_600 : Cond.methodLink RX12 161 yX12_awayOnes ∈ TB := in_5 (i := 201) rfl rfl
theorem q_601 : Cond.instanceMethod yX12_awayOnes ∈ TB := in_5 (i := 203) rfl rfl
theorem q_602 : Cond.selects RX12 yX12_awayOnes yX12_awayOnes ∈ TB := in_S (i := 43) rfl rfl
theorem q_603 : Cond.methodLink RX12 164 yX12_knownBy ∈ TB := in_5 (i := 209) rfl rfl
theorem q_604 : Cond.instanceMethod yX12_knownBy ∈ TB := in_5 (i := 211) rfl rfl
theorem q_605 : Cond.selects RX12 yX12_knownBy yX12_knownBy ∈ TB := in_S (i := 45) rfl rfl
theorem q_606 : Cond.methodLink RX12 167 yX12_knownByAny ∈ TB := in_5 (i := 193) rfl rfl
theorem q_607 : Cond.instanceMethod yX12_knownByAny ∈ TB := in_5 (i := 195) rfl rfl
theorem q_608 : Cond.selects RX12 yX12_knownByAny yX12_knownByAny ∈ TB := in_S (i := 41) rfl rfl
theorem q_609 : Cond.methodLink RX12 170 yX12_heldByAll ∈ TB := in_5 (i := 197) rfl rfl
theorem q_610 : Cond.instanceMethod yX12_heldByAll ∈ TB := in_5 (i := 199) rfl rfl
theorem q_611 : Cond.selects RX12 yX12_heldByAll yX12_heldByAll ∈ TB := in_S (i := 42) rfl rfl
theorem q_612 : Cond.methodLink RX12 173 yX12_fewest ∈ TB := in_5 (i := 205) rfl rfl
theorem q_613 : Cond.instanceMethod yX12_fewest ∈ TB := in_5 (i := 207) rfl rfl
theorem q_614 : Cond.selects RX12 yX12_fewest yX12_fewest ∈ TB := in_S (i := 44) rfl rfl
theorem q_615 : Cond.methodLink RX12 176 yX12_isPassed ∈ TB := in_5 (i := 237) rfl rfl
theorem q_616 : Cond.instanceMethod yX12_isPassed ∈ TB := in_5 (i := 239) rfl rfl
theorem q_617 : Cond.selects RX12 yX12_isPassed yX12_isPassed ∈ TB := in_S (i := 51) rfl rfl
theorem q_618 : Cond.methodLink RX12 180 yX12_isKnownNext ∈ TB := in_5 (i := 233) rfl rfl
theorem q_619 : Cond.instanceMethod yX12_isKnownNext ∈ TB := in_5 (i := 235) rfl rfl
theorem q_620 : Cond.selects RX12 yX12_isKnownNext yX12_isKnownNext ∈ TB := in_S (i := 50) rfl rfl
theorem q_621 : Cond.methodLink RX12 183 yX12_knownNext ∈ TB := in_5 (i := 229) rfl rfl
theorem q_622 : Cond.instanceMethod yX12_knownNext ∈ TB := in_5 (i := 231) rfl rfl
theorem q_623 : Cond.selects RX12 yX12_knownNext yX12_knownNext ∈ TB := in_S (i := 49) rfl rfl
theorem q_624 : Cond.methodLink RX12 186 yX12_goesBy ∈ TB := in_5 (i := 225) rfl rfl
theorem q_625 : Cond.instanceMethod yX12_goesBy ∈ TB := in_5 (i := 227) rfl rfl
theorem q_626 : Cond.selects RX12 yX12_goesBy yX12_goesBy ∈ TB := in_S (i := 48) rfl rfl
theorem q_627 : Cond.methodLink RX12 189 yX12_goes ∈ TB := in_5 (i := 221) rfl rfl
theorem q_628 : Cond.instanceMethod yX12_goes ∈ TB := in_5 (i := 223) rfl rfl
theorem q_629 : Cond.selects RX12 yX12_goes yX12_goes ∈ TB := in_S (i := 47) rfl rfl
theorem q_630 : Cond.methodLink RX12 192 yX12_goesOn ∈ TB := in_5 (i := 217) rfl rfl
theorem q_631 : Cond.instanceMethod yX12_goesOn ∈ TB := in_5 (i := 219) rfl rfl
theorem q_632 : Cond.selects RX12 yX12_goesOn yX12_goesOn ∈ TB := in_S (i := 46) rfl rfl
theorem q_633 : Cond.methodLink RX12 195 yX12_keeps ∈ TB := in_6 (i := 5) rfl rfl
theorem q_634 : Cond.instanceMethod yX12_keeps ∈ TB := in_6 (i := 7) rfl rfl
theorem q_635 : Cond.selects RX12 yX12_keeps yX12_keeps ∈ TB := in_S (i := 52) rfl rfl
theorem q_636 : Cond.methodLink RX12 198 yX12_goesBack ∈ TB := in_6 (i := 9) rfl rfl
theorem q_637 : Cond.instanceMethod yX12_goesBack ∈ TB := in_6 (i := 11) rfl rfl
theorem q_638 : Cond.selects RX12 yX12_goesBack yX12_goesBack ∈ TB := in_S (i := 53) rfl rfl
theorem q_639 : Cond.methodLink RX12 201 yX12_tidesKnown ∈ TB := in_6 (i := 17) rfl rfl
theorem q_640 : Cond.instanceMethod yX12_tidesKnown ∈ TB := in_6 (i := 19) rfl rfl
theorem q_641 : Cond.selects RX12 yX12_tidesKnown yX12_tidesKnown ∈ TB := in_S (i := 54) rfl rfl
theorem q_642 : Cond.methodLink RX12 204 yX12_heldBehind ∈ TB := in_6 (i := 29) rfl rfl
theorem q_643 : Cond.instanceMethod yX12_heldBehind ∈ TB := in_6 (i := 31) rfl rfl
theorem q_644 : Cond.selects RX12 yX12_heldBehind yX12_heldBehind ∈ TB := in_S (i := 55) rfl rfl
theorem q_645 : Cond.methodLink RX12 207 yX12_isAsSeen ∈ TB := in_6 (i := 49) rfl rfl
theorem q_646 : Cond.instanceMethod yX12_isAsSeen ∈ TB := in_6 (i := 51) rfl rfl
theorem q_647 : Cond.selects RX12 yX12_isAsSeen yX12_isAsSeen ∈ TB := in_S (i := 58) rfl rfl
theorem q_648 : Cond.methodLink RX12 210 yX12_areAsSeen ∈ TB := in_6 (i := 45) rfl rfl
theorem q_649 : Cond.instanceMethod yX12_areAsSeen ∈ TB := in_6 (i := 47) rfl rfl
theorem q_650 : Cond.selects RX12 yX12_areAsSeen yX12_areAsSeen ∈ TB := in_S (i := 57) rfl rfl
theorem q_651 : Cond.methodLink RX12 214 yX12_fitting ∈ TB := in_6 (i := 41) rfl rfl
theorem q_652 : Cond.instanceMethod yX12_fitting ∈ TB := in_6 (i := 43) rfl rfl
theorem q_653 : Cond.selects RX12 yX12_fitting yX12_fitting ∈ TB := in_S (i := 56) rfl rfl
theorem q_654 : Cond.constantLong RX12 218 (-9223372036854775808) ∈ TB := in_6 (i := 61) rfl rfl
theorem q_655 : Cond.methodLink RX12 220 yX12_lowest ∈ TB := in_6 (i := 62) rfl rfl
theorem q_656 : Cond.static yX12_lowest ∈ TB := in_6 (i := 63) rfl rfl
theorem q_657 : Cond.methodLink RX12 224 yX12_isPlan ∈ TB := in_6 (i := 73) rfl rfl
theorem q_658 : Cond.instanceMethod yX12_isPlan ∈ TB := in_6 (i := 75) rfl rfl
theorem q_659 : Cond.selects RX12 yX12_isPlan yX12_isPlan ∈ TB := in_S (i := 59) rfl rfl
theorem q_660 : Cond.methodLink RX12 227 yX12_does ∈ TB := in_6 (i := 81) rfl rfl
theorem q_661 : Cond.instanceMethod yX12_does ∈ TB := in_6 (i := 83) rfl rfl
theorem q_662 : Cond.selects RX12 yX12_does yX12_does ∈ TB := in_S (i := 60) rfl rfl
theorem q_663 : Cond.fieldLink RX12 231 RX12 "ran" "I" ∈ TB := in_5 (i := 15) rfl rfl
theorem q_664 : Cond.methodLink RX12 234 yX12_ranBody ∈ TB := in_6 (i := 104) rfl rfl
theorem q_665 : Cond.instanceMethod yX12_ranBody ∈ TB := in_6 (i := 106) rfl rfl
theorem q_666 : Cond.selects RX12 yX12_ranBody yX12_ranBody ∈ TB := in_S (i := 62) rfl rfl
theorem q_667 : Cond.fieldLink RX12 237 RX12 "number" "I" ∈ TB := in_5 (i := 17) rfl rfl
theorem q_668 : Cond.fieldLink RX12 240 RX12 "kind" "I" ∈ TB := in_5 (i := 16) rfl rfl
theorem q_669 : Cond.methodLink RX12 243 yX12_isUnder ∈ TB := in_6 (i := 101) rfl rfl
theorem q_670 : Cond.static yX12_isUnder ∈ TB := in_6 (i := 102) rfl rfl
theorem q_671 : Cond.methodLink RX12 246 yX12_plainLeans ∈ TB := in_6 (i := 108) rfl rfl
theorem q_672 : Cond.instanceMethod yX12_plainLeans ∈ TB := in_6 (i := 110) rfl rfl
theorem q_673 : Cond.selects RX12 yX12_plainLeans yX12_plainLeans ∈ TB := in_S (i := 63) rfl rfl
theorem q_674 : Cond.methodLink RX12 249 yX12_leansActs ∈ TB := in_6 (i := 97) rfl rfl
theorem q_675 : Cond.instanceMethod yX12_leansActs ∈ TB := in_6 (i := 99) rfl rfl
theorem q_676 : Cond.selects RX12 yX12_leansActs yX12_leansActs ∈ TB := in_S (i := 61) rfl rfl
theorem q_677 : Cond.fieldLink RX12 252 RX12 "tellsV" "I" ∈ TB := in_5 (i := 18) rfl rfl
theorem q_678 : Cond.methodLink RX12 255 yX12_plainSays ∈ TB := in_6 (i := 116) rfl rfl
theorem q_679 : Cond.instanceMethod yX12_plainSays ∈ TB := in_6 (i := 118) rfl rfl
theorem q_680 : Cond.selects RX12 yX12_plainSays yX12_plainSays ∈ TB := in_S (i := 65) rfl rfl
theorem q_681 : Cond.methodLink RX12 258 yX12_saysActs ∈ TB := in_6 (i := 112) rfl rfl
theorem q_682 : Cond.instanceMethod yX12_saysActs ∈ TB := in_6 (i := 114) rfl rfl
theorem q_683 : Cond.selects RX12 yX12_saysActs yX12_saysActs ∈ TB := in_S (i := 64) rfl rfl
theorem q_684 : Cond.methodLink RX12 261 yX12_plainTelling ∈ TB := in_6 (i := 124) rfl rfl
theorem q_685 : Cond.instanceMethod yX12_plainTelling ∈ TB := in_6 (i := 126) rfl rfl
theorem q_686 : Cond.selects RX12 yX12_plainTelling yX12_plainTelling ∈ TB := in_S (i := 67) rfl rfl
theorem q_687 : Cond.methodLink RX12 264 yX12_bristlesActs ∈ TB := in_6 (i := 120) rfl rfl
theorem q_688 : Cond.instanceMethod yX12_bristlesActs ∈ TB := in_6 (i := 122) rfl rfl
theorem q_689 : Cond.selects RX12 yX12_bristlesActs yX12_bristlesActs ∈ TB := in_S (i := 66) rfl rfl
theorem q_690 : Cond.fieldLink RX12 267 RX12 "hasImage" "Z" ∈ TB := in_5 (i := 2) rfl rfl
theorem q_691 : Cond.constant RJ11 76 56320 ∈ TB := in_3 (i := 17) rfl rfl
theorem q_692 : Cond.constant RJ11 110 55232 ∈ TB := in_3 (i := 13) rfl rfl
theorem q_693 : Cond.constant RJ6 265 1431655765 ∈ TB := in_3 (i := 72) rfl rfl
theorem q_694 : Cond.constant RJ6 266 858993459 ∈ TB := in_3 (i := 73) rfl rfl
theorem q_695 : Cond.constant RJ6 267 252645135 ∈ TB := in_3 (i := 74) rfl rfl
theorem q_696 : Cond.fieldLink RJ0 38 RJ0 "COMPACT_STRINGS" "Z" ∈ TB := in_2 (i := 130) rfl rfl
theorem q_697 : Cond.methodLink RJ0 335 yJ0_coder_7d493 ∈ TB := in_2 (i := 126) rfl rfl
theorem q_698 : Cond.instanceMethod yJ0_coder_7d493 ∈ TB := in_2 (i := 127) rfl rfl
theorem q_699 : Cond.selects RJ0 yJ0_coder_7d493 yJ0_coder_7d493 ∈ TB := in_2 (i := 128) rfl rfl
theorem q_700 : Cond.methodLink RJ0 492 yJ0_isLatin1_aae02 ∈ TB := in_2 (i := 136) rfl rfl
theorem q_701 : Cond.instanceMethod yJ0_isLatin1_aae02 ∈ TB := in_2 (i := 137) rfl rfl
theorem q_702 : Cond.selects RJ0 yJ0_isLatin1_aae02 yJ0_isLatin1_aae02 ∈ TB := in_2 (i := 138) rfl rfl
theorem q_703 : Cond.methodLink RJ0 495 yJ1_charAt_3b067 ∈ TB := in_2 (i := 140) rfl rfl
theorem q_704 : Cond.static yJ1_charAt_3b067 ∈ TB := in_2 (i := 141) rfl rfl
theorem q_705 : Cond.initialized RJ1 ∈ TB := in_1 (i := 16) rfl rfl
theorem q_706 : Cond.methodLink RJ0 498 yJ2_charAt_3b067 ∈ TB := in_2 (i := 151) rfl rfl
theorem q_707 : Cond.static yJ2_charAt_3b067 ∈ TB := in_2 (i := 152) rfl rfl
theorem q_708 : Cond.initialized RJ2 ∈ TB := in_1 (i := 18) rfl rfl
theorem q_709 : Cond.methodLink RJ0 505 yJ0_length_8abf5 ∈ TB := in_2 (i := 209) rfl rfl
theorem q_710 : Cond.methodLink RJ0 633 yJ0_indexOf_7cf53 ∈ TB := in_2 (i := 205) rfl rfl
theorem q_711 : Cond.instanceMethod yJ0_indexOf_7cf53 ∈ TB := in_2 (i := 206) rfl rfl
theorem q_712 : Cond.selects RJ0 yJ0_indexOf_7cf53 yJ0_indexOf_7cf53 ∈ TB := in_2 (i := 207) rfl rfl
theorem q_713 : Cond.methodLink RJ0 637 yJ1_indexOf_4cfef ∈ TB := in_2 (i := 210) rfl rfl
theorem q_714 : Cond.static yJ1_indexOf_4cfef ∈ TB := in_2 (i := 211) rfl rfl
theorem q_715 : Cond.methodLink RJ0 640 yJ2_indexOf_4cfef ∈ TB := in_2 (i := 223) rfl rfl
theorem q_716 : Cond.static yJ2_indexOf_4cfef ∈ TB := in_2 (i := 224) rfl rfl
theorem q_717 : Cond.fieldLink RJ0 1053 RJ3 "SIOOBE_FORMATTER" "Ljava/util/function/BiFunction;" ∈ TB := in_2 (i := 146) rfl rfl
theorem q_718 : Cond.methodLink RJ0 1059 yJ3_checkIndex_8e157 ∈ TB := in_2 (i := 148) rfl rfl
theorem q_719 : Cond.static yJ3_checkIndex_8e157 ∈ TB := in_2 (i := 149) rfl rfl
theorem q_720 : Cond.initialized RJ3 ∈ TB := in_1 (i := 17) rfl rfl
theorem q_721 : Cond.methodLink RJ0 1062 yJ3_checkFromToIndex_8c36e ∈ TB := in_2 (i := 238) rfl rfl
theorem q_722 : Cond.static yJ3_checkFromToIndex_8c36e ∈ TB := in_2 (i := 239) rfl rfl
theorem q_723 : Cond.fieldLink RJ0 9 RJ0 "value" "[B" ∈ TB := in_6 (i := 165) rfl rfl
theorem q_724 : Cond.fieldLink RJ0 15 RJ0 "coder" "B" ∈ TB := in_6 (i := 166) rfl rfl
theorem q_725 : Cond.methodLink RJ1 9 yJ0_checkIndex_df160 ∈ TB := in_2 (i := 143) rfl rfl
theorem q_726 : Cond.static yJ0_checkIndex_df160 ∈ TB := in_2 (i := 144) rfl rfl
theorem q_727 : Cond.methodLink RJ1 38 yJ9_min_7cf53 ∈ TB := in_2 (i := 219) rfl rfl
theorem q_728 : Cond.methodLink RJ1 88 yJ1_canEncode_9a6ad ∈ TB := in_2 (i := 213) rfl rfl
theorem q_729 : Cond.static yJ1_canEncode_9a6ad ∈ TB := in_2 (i := 214) rfl rfl
theorem q_730 : Cond.methodLink RJ1 92 yJ9_max_7cf53 ∈ TB := in_2 (i := 216) rfl rfl
theorem q_731 : Cond.methodLink RJ1 95 yJ1_indexOfChar_4cfef ∈ TB := in_2 (i := 220) rfl rfl
theorem q_732 : Cond.static yJ1_indexOfChar_4cfef ∈ TB := in_2 (i := 221) rfl rfl
theorem q_733 : Cond.methodLink RJ2 48 yJ2_length_9d52b ∈ TB := in_2 (i := 157) rfl rfl
theorem q_734 : Cond.static yJ2_length_9d52b ∈ TB := in_2 (i := 158) rfl rfl
theorem q_735 : Cond.methodLink RJ2 67 yJ2_checkIndex_2214a ∈ TB := in_2 (i := 154) rfl rfl
theorem q_736 : Cond.static yJ2_checkIndex_2214a ∈ TB := in_2 (i := 155) rfl rfl
theorem q_737 : Cond.methodLink RJ2 71 yJ2_getChar_3b067 ∈ TB := in_2 (i := 161) rfl rfl
theorem q_738 : Cond.static yJ2_getChar_3b067 ∈ TB := in_2 (i := 162) rfl rfl
theorem q_739 : Cond.methodLink RJ2 96 yJ2_checkBoundsBeginEnd_d044e ∈ TB := in_2 (i := 232) rfl rfl
theorem q_740 : Cond.static yJ2_checkBoundsBeginEnd_d044e ∈ TB := in_2 (i := 233) rfl rfl
theorem q_741 : Cond.methodLink RJ2 157 yJ11_highSurrogate_5068e ∈ TB := in_3 (i := 10) rfl rfl
theorem q_742 : Cond.static yJ11_highSurrogate_5068e ∈ TB := in_3 (i := 11) rfl rfl
theorem q_743 : Cond.initialized RJ11 ∈ TB := in_1 (i := 19) rfl rfl
theorem q_744 : Cond.methodLink RJ2 161 yJ11_lowSurrogate_5068e ∈ TB := in_3 (i := 14) rfl rfl
theorem q_745 : Cond.static yJ11_lowSurrogate_5068e ∈ TB := in_3 (i := 15) rfl rfl
theorem q_746 : Cond.methodLink RJ2 164 yJ11_isValidCodePoint_9a6ad ∈ TB := in_3 (i := 7) rfl rfl
theorem q_747 : Cond.static yJ11_isValidCodePoint_9a6ad ∈ TB := in_3 (i := 8) rfl rfl
theorem q_748 : Cond.methodLink RJ2 183 yJ9_min_7cf53 ∈ TB := in_2 (i := 227) rfl rfl
theorem q_749 : Cond.methodLink RJ2 224 yJ9_max_7cf53 ∈ TB := in_2 (i := 226) rfl rfl
theorem q_750 : Cond.constant RJ2 227 65536 ∈ TB := in_2 (i := 228) rfl rfl
theorem q_751 : Cond.methodLink RJ2 228 yJ2_indexOfChar_4cfef ∈ TB := in_2 (i := 229) rfl rfl
theorem q_752 : Cond.static yJ2_indexOfChar_4cfef ∈ TB := in_2 (i := 230) rfl rfl
theorem q_753 : Cond.methodLink RJ2 232 yJ2_indexOfSupplementary_4cfef ∈ TB := in_3 (i := 4) rfl rfl
theorem q_754 : Cond.static yJ2_indexOfSupplementary_4cfef ∈ TB := in_3 (i := 5) rfl rfl
theorem q_755 : Cond.methodLink RJ2 241 yJ0_checkBoundsBeginEnd_23922 ∈ TB := in_2 (i := 235) rfl rfl
theorem q_756 : Cond.static yJ0_checkBoundsBeginEnd_23922 ∈ TB := in_2 (i := 236) rfl rfl
theorem q_757 : Cond.methodLink RJ2 244 yJ2_indexOfCharUnsafe_4cfef ∈ TB := in_3 (i := 1) rfl rfl
theorem q_758 : Cond.static yJ2_indexOfCharUnsafe_4cfef ∈ TB := in_3 (i := 2) rfl rfl
theorem q_759 : Cond.methodLink RJ2 414 yJ0_checkIndex_df160 ∈ TB := in_2 (i := 160) rfl rfl
theorem q_760 : Cond.methodLink RL 13 yX11_feed ∈ TB := in_2 (i := 91) rfl rfl
theorem q_761 : Cond.instanceMethod yX11_feed ∈ TB := in_2 (i := 92) rfl rfl
theorem q_762 : Cond.selects RX11 yX11_feed yX11_feed ∈ TB := in_2 (i := 93) rfl rfl
theorem q_763 : Cond.methodLink RL 17 yX12_feed ∈ TB := in_5 (i := 63) rfl rfl
theorem q_764 : Cond.instanceMethod yX12_feed ∈ TB := in_5 (i := 64) rfl rfl
theorem q_765 : Cond.selects RX12 yX12_feed yX12_feed ∈ TB := in_5 (i := 65) rfl rfl
theorem q_766 : Cond.methodLink RL 18 yX11_ledge ∈ TB := in_2 (i := 95) rfl rfl
theorem q_767 : Cond.instanceMethod yX11_ledge ∈ TB := in_2 (i := 96) rfl rfl
theorem q_768 : Cond.selects RX11 yX11_ledge yX11_ledge ∈ TB := in_2 (i := 97) rfl rfl
theorem q_769 : Cond.methodLink RL 22 yX12_ledge ∈ TB := in_5 (i := 70) rfl rfl
theorem q_770 : Cond.instanceMethod yX12_ledge ∈ TB := in_5 (i := 71) rfl rfl
theorem q_771 : Cond.selects RX12 yX12_ledge yX12_ledge ∈ TB := in_5 (i := 72) rfl rfl
theorem q_772 : Cond.methodLink RL 23 yX11_urchin ∈ TB := in_3 (i := 23) rfl rfl
theorem q_773 : Cond.instanceMethod yX11_urchin ∈ TB := in_3 (i := 24) rfl rfl
theorem q_774 : Cond.selects RX11 yX11_urchin yX11_urchin ∈ TB := in_3 (i := 25) rfl rfl
theorem q_775 : Cond.methodLink RL 27 yX12_urchin ∈ TB := in_5 (i := 130) rfl rfl
theorem q_776 : Cond.instanceMethod yX12_urchin ∈ TB := in_5 (i := 131) rfl rfl
theorem q_777 : Cond.selects RX12 yX12_urchin yX12_urchin ∈ TB := in_5 (i := 132) rfl rfl
theorem q_778 : Cond.methodLink RL 28 yX11_of ∈ TB := in_3 (i := 38) rfl rfl
theorem q_779 : Cond.instanceMethod yX11_of ∈ TB := in_3 (i := 39) rfl rfl
theorem q_780 : Cond.selects RX11 yX11_of yX11_of ∈ TB := in_3 (i := 40) rfl rfl
theorem q_781 : Cond.methodLink RL 31 yX12_of ∈ TB := in_5 (i := 134) rfl rfl
theorem q_782 : Cond.instanceMethod yX12_of ∈ TB := in_5 (i := 135) rfl rfl
theorem q_783 : Cond.selects RX12 yX12_of yX12_of ∈ TB := in_5 (i := 136) rfl rfl
theorem q_784 : Cond.methodLink RL 32 yX11_row ∈ TB := in_3 (i := 115) rfl rfl
theorem q_785 : Cond.instanceMethod yX11_row ∈ TB := in_3 (i := 116) rfl rfl
theorem q_786 : Cond.selects RX11 yX11_row yX11_row ∈ TB := in_3 (i := 117) rfl rfl
theorem q_787 : Cond.methodLink RL 36 yX12_row ∈ TB := in_5 (i := 169) rfl rfl
theorem q_788 : Cond.instanceMethod yX12_row ∈ TB := in_5 (i := 170) rfl rfl
theorem q_789 : Cond.selects RX12 yX12_row yX12_row ∈ TB := in_5 (i := 171) rfl rfl
theorem q_790 : Cond.methodLink RL 37 yX11_learn ∈ TB := in_3 (i := 122) rfl rfl
theorem q_791 : Cond.instanceMethod yX11_learn ∈ TB := in_3 (i := 123) rfl rfl
theorem q_792 : Cond.selects RX11 yX11_learn yX11_learn ∈ TB := in_3 (i := 124) rfl rfl
theorem q_793 : Cond.methodLink RL 40 yX12_learn ∈ TB := in_5 (i := 177) rfl rfl
theorem q_794 : Cond.instanceMethod yX12_learn ∈ TB := in_5 (i := 178) rfl rfl
theorem q_795 : Cond.selects RX12 yX12_learn yX12_learn ∈ TB := in_5 (i := 179) rfl rfl
theorem q_796 : Cond.methodLink RL 41 yX11_beach ∈ TB := in_3 (i := 129) rfl rfl
theorem q_797 : Cond.instanceMethod yX11_beach ∈ TB := in_3 (i := 130) rfl rfl
theorem q_798 : Cond.selects RX11 yX11_beach yX11_beach ∈ TB := in_3 (i := 131) rfl rfl
theorem q_799 : Cond.methodLink RL 45 yX12_beach ∈ TB := in_5 (i := 181) rfl rfl
theorem q_800 : Cond.instanceMethod yX12_beach ∈ TB := in_5 (i := 182) rfl rfl
theorem q_801 : Cond.selects RX12 yX12_beach yX12_beach ∈ TB := in_5 (i := 183) rfl rfl
theorem q_802 : Cond.methodLink RL 46 yX11_lesson ∈ TB := in_3 (i := 134) rfl rfl
theorem q_803 : Cond.instanceMethod yX11_lesson ∈ TB := in_3 (i := 135) rfl rfl
theorem q_804 : Cond.selects RX11 yX11_lesson yX11_lesson ∈ TB := in_3 (i := 136) rfl rfl
theorem q_805 : Cond.methodLink RL 49 yX12_lesson ∈ TB := in_5 (i := 185) rfl rfl
theorem q_806 : Cond.instanceMethod yX12_lesson ∈ TB := in_5 (i := 186) rfl rfl
theorem q_807 : Cond.selects RX12 yX12_lesson yX12_lesson ∈ TB := in_5 (i := 187) rfl rfl
theorem q_808 : Cond.methodLink RL 50 yX11_told ∈ TB := in_3 (i := 138) rfl rfl
theorem q_809 : Cond.instanceMethod yX11_told ∈ TB := in_3 (i := 139) rfl rfl
theorem q_810 : Cond.selects RX11 yX11_told yX11_told ∈ TB := in_3 (i := 140) rfl rfl
theorem q_811 : Cond.methodLink RL 53 yX12_told ∈ TB := in_5 (i := 189) rfl rfl
theorem q_812 : Cond.instanceMethod yX12_told ∈ TB := in_5 (i := 190) rfl rfl
theorem q_813 : Cond.selects RX12 yX12_told yX12_told ∈ TB := in_5 (i := 191) rfl rfl
theorem q_814 : Cond.methodLink RL 54 yX11_pass ∈ TB := in_3 (i := 165) rfl rfl
theorem q_815 : Cond.instanceMethod yX11_pass ∈ TB := in_3 (i := 166) rfl rfl
theorem q_816 : Cond.selects RX11 yX11_pass yX11_pass ∈ TB := in_3 (i := 167) rfl rfl
theorem q_817 : Cond.methodLink RL 57 yX12_pass ∈ TB := in_5 (i := 213) rfl rfl
theorem q_818 : Cond.instanceMethod yX12_pass ∈ TB := in_5 (i := 214) rfl rfl
theorem q_819 : Cond.selects RX12 yX12_pass yX12_pass ∈ TB := in_5 (i := 215) rfl rfl
theorem q_820 : Cond.methodLink RL 58 yX11_on ∈ TB := in_3 (i := 203) rfl rfl
theorem q_821 : Cond.instanceMethod yX11_on ∈ TB := in_3 (i := 204) rfl rfl
theorem q_822 : Cond.selects RX11 yX11_on yX11_on ∈ TB := in_3 (i := 205) rfl rfl
theorem q_823 : Cond.methodLink RL 61 yX12_on ∈ TB := in_6 (i := 1) rfl rfl
theorem q_824 : Cond.instanceMethod yX12_on ∈ TB := in_6 (i := 2) rfl rfl
theorem q_825 : Cond.selects RX12 yX12_on yX12_on ∈ TB := in_6 (i := 3) rfl rfl
theorem q_826 : Cond.methodLink RL 62 yX11_lasts ∈ TB := in_3 (i := 214) rfl rfl
theorem q_827 : Cond.instanceMethod yX11_lasts ∈ TB := in_3 (i := 215) rfl rfl
theorem q_828 : Cond.selects RX11 yX11_lasts yX11_lasts ∈ TB := in_3 (i := 216) rfl rfl
theorem q_829 : Cond.methodLink RL 65 yX12_lasts ∈ TB := in_6 (i := 13) rfl rfl
theorem q_830 : Cond.instanceMethod yX12_lasts ∈ TB := in_6 (i := 14) rfl rfl
theorem q_831 : Cond.selects RX12 yX12_lasts yX12_lasts ∈ TB := in_6 (i := 15) rfl rfl
theorem q_832 : Cond.methodLink RL 66 yX11_teach ∈ TB := in_3 (i := 222) rfl rfl
theorem q_833 : Cond.instanceMethod yX11_teach ∈ TB := in_3 (i := 223) rfl rfl
theorem q_834 : Cond.selects RX11 yX11_teach yX11_teach ∈ TB := in_3 (i := 224) rfl rfl
theorem q_835 : Cond.methodLink RL 69 yX12_teach ∈ TB := in_6 (i := 25) rfl rfl
theorem q_836 : Cond.instanceMethod yX12_teach ∈ TB := in_6 (i := 26) rfl rfl
theorem q_837 : Cond.selects RX12 yX12_teach yX12_teach ∈ TB := in_6 (i := 27) rfl rfl
theorem q_838 : Cond.methodLink RL 70 yX11_tell ∈ TB := in_3 (i := 233) rfl rfl
theorem q_839 : Cond.instanceMethod yX11_tell ∈ TB := in_3 (i := 234) rfl rfl
theorem q_840 : Cond.selects RX11 yX11_tell yX11_tell ∈ TB := in_3 (i := 235) rfl rfl
theorem q_841 : Cond.methodLink RL 73 yX12_tell ∈ TB := in_6 (i := 21) rfl rfl
theorem q_842 : Cond.instanceMethod yX12_tell ∈ TB := in_6 (i := 22) rfl rfl
theorem q_843 : Cond.selects RX12 yX12_tell yX12_tell ∈ TB := in_6 (i := 23) rfl rfl
theorem q_844 : Cond.methodLink RL 74 yX11_see ∈ TB := in_4 (i := 5) rfl rfl
theorem q_845 : Cond.instanceMethod yX11_see ∈ TB := in_4 (i := 6) rfl rfl
theorem q_846 : Cond.selects RX11 yX11_see yX11_see ∈ TB := in_4 (i := 7) rfl rfl
theorem q_847 : Cond.methodLink RL 78 yX12_see ∈ TB := in_6 (i := 33) rfl rfl
theorem q_848 : Cond.instanceMethod yX12_see ∈ TB := in_6 (i := 34) rfl rfl
theorem q_849 : Cond.selects RX12 yX12_see yX12_see ∈ TB := in_6 (i := 35) rfl rfl
theorem q_850 : Cond.methodLink RL 79 yX11_knew ∈ TB := in_4 (i := 17) rfl rfl
theorem q_851 : Cond.instanceMethod yX11_knew ∈ TB := in_4 (i := 18) rfl rfl
theorem q_852 : Cond.selects RX11 yX11_knew yX11_knew ∈ TB := in_4 (i := 19) rfl rfl
theorem q_853 : Cond.methodLink RL 82 yX12_knew ∈ TB := in_6 (i := 37) rfl rfl
theorem q_854 : Cond.instanceMethod yX12_knew ∈ TB := in_6 (i := 38) rfl rfl
theorem q_855 : Cond.selects RX12 yX12_knew yX12_knew ∈ TB := in_6 (i := 39) rfl rfl
theorem q_856 : Cond.methodLink RL 83 yX11_firm ∈ TB := in_4 (i := 41) rfl rfl
theorem q_857 : Cond.instanceMethod yX11_firm ∈ TB := in_4 (i := 42) rfl rfl
theorem q_858 : Cond.selects RX11 yX11_firm yX11_firm ∈ TB := in_4 (i := 43) rfl rfl
theorem q_859 : Cond.methodLink RL 86 yX12_firm ∈ TB := in_6 (i := 53) rfl rfl
theorem q_860 : Cond.instanceMethod yX12_firm ∈ TB := in_6 (i := 54) rfl rfl
theorem q_861 : Cond.selects RX12 yX12_firm yX12_firm ∈ TB := in_6 (i := 55) rfl rfl
theorem q_862 : Cond.methodLink RL 87 yX11_odds ∈ TB := in_4 (i := 45) rfl rfl
theorem q_863 : Cond.instanceMethod yX11_odds ∈ TB := in_4 (i := 46) rfl rfl
theorem q_864 : Cond.selects RX11 yX11_odds yX11_odds ∈ TB := in_4 (i := 47) rfl rfl
theorem q_865 : Cond.methodLink RL 91 yX12_odds ∈ TB := in_6 (i := 57) rfl rfl
theorem q_866 : Cond.instanceMethod yX12_odds ∈ TB := in_6 (i := 58) rfl rfl
theorem q_867 : Cond.selects RX12 yX12_odds yX12_odds ∈ TB := in_6 (i := 59) rfl rfl
theorem q_868 : Cond.methodLink RL 92 yX11_mean ∈ TB := in_4 (i := 57) rfl rfl
theorem q_869 : Cond.instanceMethod yX11_mean ∈ TB := in_4 (i := 58) rfl rfl
theorem q_870 : Cond.selects RX11 yX11_mean yX11_mean ∈ TB := in_4 (i := 59) rfl rfl
theorem q_871 : Cond.methodLink RL 96 yX12_mean ∈ TB := in_6 (i := 65) rfl rfl
theorem q_872 : Cond.instanceMethod yX12_mean ∈ TB := in_6 (i := 66) rfl rfl
theorem q_873 : Cond.selects RX12 yX12_mean yX12_mean ∈ TB := in_6 (i := 67) rfl rfl
theorem q_874 : Cond.methodLink RL 97 yX11_plan ∈ TB := in_4 (i := 61) rfl rfl
theorem q_875 : Cond.instanceMethod yX11_plan ∈ TB := in_4 (i := 62) rfl rfl
theorem q_876 : Cond.selects RX11 yX11_plan yX11_plan ∈ TB := in_4 (i := 63) rfl rfl
theorem q_877 : Cond.methodLink RL 100 yX12_plan ∈ TB := in_6 (i := 69) rfl rfl
theorem q_878 : Cond.instanceMethod yX12_plan ∈ TB := in_6 (i := 70) rfl rfl
theorem q_879 : Cond.selects RX12 yX12_plan yX12_plan ∈ TB := in_6 (i := 71) rfl rfl
theorem q_880 : Cond.methodLink RL 101 yX11_done ∈ TB := in_4 (i := 69) rfl rfl
theorem q_881 : Cond.instanceMethod yX11_done ∈ TB := in_4 (i := 70) rfl rfl
theorem q_882 : Cond.selects RX11 yX11_done yX11_done ∈ TB := in_4 (i := 71) rfl rfl
theorem q_883 : Cond.methodLink RL 104 yX12_done ∈ TB := in_6 (i := 77) rfl rfl
theorem q_884 : Cond.instanceMethod yX12_done ∈ TB := in_6 (i := 78) rfl rfl
theorem q_885 : Cond.selects RX12 yX12_done yX12_done ∈ TB := in_6 (i := 79) rfl rfl
theorem q_886 : Cond.methodLink RL 105 yX11_book ∈ TB := in_4 (i := 78) rfl rfl
theorem q_887 : Cond.instanceMethod yX11_book ∈ TB := in_4 (i := 79) rfl rfl
theorem q_888 : Cond.selects RX11 yX11_book yX11_book ∈ TB := in_4 (i := 80) rfl rfl
theorem q_889 : Cond.methodLink RL 108 yX12_book ∈ TB := in_6 (i := 85) rfl rfl
theorem q_890 : Cond.instanceMethod yX12_book ∈ TB := in_6 (i := 86) rfl rfl
theorem q_891 : Cond.selects RX12 yX12_book yX12_book ∈ TB := in_6 (i := 87) rfl rfl
theorem q_892 : Cond.methodLink RL 109 yX11_looked ∈ TB := in_4 (i := 82) rfl rfl
theorem q_893 : Cond.instanceMethod yX11_looked ∈ TB := in_4 (i := 83) rfl rfl
theorem q_894 : Cond.selects RX11 yX11_looked yX11_looked ∈ TB := in_4 (i := 84) rfl rfl
theorem q_895 : Cond.methodLink RL 112 yX12_looked ∈ TB := in_6 (i := 89) rfl rfl
theorem q_896 : Cond.instanceMethod yX12_looked ∈ TB := in_6 (i := 90) rfl rfl
theorem q_897 : Cond.selects RX12 yX12_looked yX12_looked ∈ TB := in_6 (i := 91) rfl rfl
theorem q_898 : Cond.methodLink RL 113 yX11_act ∈ TB := in_4 (i := 86) rfl rfl
theorem q_899 : Cond.instanceMethod yX11_act ∈ TB := in_4 (i := 87) rfl rfl
theorem q_900 : Cond.selects RX11 yX11_act yX11_act ∈ TB := in_4 (i := 88) rfl rfl
theorem q_901 : Cond.methodLink RL 116 yX12_act ∈ TB := in_6 (i := 93) rfl rfl
theorem q_902 : Cond.instanceMethod yX12_act ∈ TB := in_6 (i := 94) rfl rfl
theorem q_903 : Cond.selects RX12 yX12_act yX12_act ∈ TB := in_6 (i := 95) rfl rfl
theorem q_904 : Cond.methodLink RL 117 yX11_trace ∈ TB := in_4 (i := 190) rfl rfl
theorem q_905 : Cond.instanceMethod yX11_trace ∈ TB := in_4 (i := 191) rfl rfl
theorem q_906 : Cond.selects RX11 yX11_trace yX11_trace ∈ TB := in_4 (i := 192) rfl rfl
theorem q_907 : Cond.methodLink RL 120 yX12_trace ∈ TB := in_6 (i := 128) rfl rfl
theorem q_908 : Cond.instanceMethod yX12_trace ∈ TB := in_6 (i := 129) rfl rfl
theorem q_909 : Cond.selects RX12 yX12_trace yX12_trace ∈ TB := in_6 (i := 130) rfl rfl
theorem q_910 : Cond.methodLink RL 121 yX11_as ∈ TB := in_4 (i := 205) rfl rfl
theorem q_911 : Cond.instanceMethod yX11_as ∈ TB := in_4 (i := 206) rfl rfl
theorem q_912 : Cond.selects RX11 yX11_as yX11_as ∈ TB := in_4 (i := 207) rfl rfl
theorem q_913 : Cond.methodLink RL 124 yX12_as ∈ TB := in_6 (i := 132) rfl rfl
theorem q_914 : Cond.instanceMethod yX12_as ∈ TB := in_6 (i := 133) rfl rfl
theorem q_915 : Cond.selects RX12 yX12_as yX12_as ∈ TB := in_6 (i := 134) rfl rfl
theorem q_916 : Cond.methodLink RL 125 yX11_image ∈ TB := in_4 (i := 211) rfl rfl
theorem q_917 : Cond.instanceMethod yX11_image ∈ TB := in_4 (i := 212) rfl rfl
theorem q_918 : Cond.selects RX11 yX11_image yX11_image ∈ TB := in_4 (i := 213) rfl rfl
theorem q_919 : Cond.methodLink RL 128 yX12_image ∈ TB := in_6 (i := 136) rfl rfl
theorem q_920 : Cond.instanceMethod yX12_image ∈ TB := in_6 (i := 137) rfl rfl
theorem q_921 : Cond.selects RX12 yX12_image yX12_image ∈ TB := in_6 (i := 138) rfl rfl
theorem q_922 : Cond.methodLink RL 129 yX11_undo ∈ TB := in_4 (i := 225) rfl rfl
theorem q_923 : Cond.instanceMethod yX11_undo ∈ TB := in_4 (i := 226) rfl rfl
theorem q_924 : Cond.selects RX11 yX11_undo yX11_undo ∈ TB := in_4 (i := 227) rfl rfl
theorem q_925 : Cond.methodLink RL 132 yX12_undo ∈ TB := in_6 (i := 140) rfl rfl
theorem q_926 : Cond.instanceMethod yX12_undo ∈ TB := in_6 (i := 141) rfl rfl
theorem q_927 : Cond.selects RX12 yX12_undo yX12_undo ∈ TB := in_6 (i := 142) rfl rfl
theorem q_928 : Cond.methodLink RL 133 yX11_count ∈ TB := in_4 (i := 229) rfl rfl
theorem q_929 : Cond.instanceMethod yX11_count ∈ TB := in_4 (i := 230) rfl rfl
theorem q_930 : Cond.selects RX11 yX11_count yX11_count ∈ TB := in_4 (i := 231) rfl rfl
theorem q_931 : Cond.methodLink RL 136 yX12_count ∈ TB := in_6 (i := 144) rfl rfl
theorem q_932 : Cond.instanceMethod yX12_count ∈ TB := in_6 (i := 145) rfl rfl
theorem q_933 : Cond.selects RX12 yX12_count yX12_count ∈ TB := in_6 (i := 146) rfl rfl
