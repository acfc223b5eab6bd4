/-! the constructors: what their words are, where they stand; each walked -/
theorem z_0 : Cond.methodLink RX10 3 Lib.objectInit ∈ TB := in_1 (i := 133) rfl rfl
theorem z_1 : Cond.instanceMethod Lib.objectInit ∈ TB := in_1 (i := 29) rfl rfl
theorem z_2 : Cond.code Lib.objectInit ⟨#[0xb1]⟩ 1 none ∈ TB := in_1 (i := 30) rfl rfl
theorem z_3 : Cond.arrayClass .int ∈ TB := in_1 (i := 58) rfl rfl
theorem z_4 : Cond.fieldLink RX10 9 RX10 "bodies" "[I" ∈ TB := in_1 (i := 134) rfl rfl
theorem z_5 : Cond.instanceMethod yX10_init ∈ TB := in_1 (i := 131) rfl rfl
theorem z_6 : Cond.initialized RX10 ∈ TB := in_1 (i := 6) rfl rfl
theorem z_7 : Cond.instanceMethod yX3_init ∈ TB := in_1 (i := 156) rfl rfl
theorem z_8 : Cond.initialized RX3 ∈ TB := in_1 (i := 7) rfl rfl
theorem z_9 : Cond.instanceMethod yX2_init ∈ TB := in_1 (i := 167) rfl rfl
theorem z_10 : Cond.initialized RX2 ∈ TB := in_1 (i := 8) rfl rfl
theorem z_11 : Cond.instanceMethod yX0_init ∈ TB := in_1 (i := 178) rfl rfl
theorem z_12 : Cond.initialized RX0 ∈ TB := in_1 (i := 9) rfl rfl
theorem z_13 : Cond.methodLink RX8 3 Lib.objectInit ∈ TB := in_1 (i := 42) rfl rfl
theorem z_14 : Cond.fieldLink RX8 11 RX8 "cells" "[I" ∈ TB := in_1 (i := 46) rfl rfl
theorem z_15 : Cond.methodLink RX8 15 Lib.Math.min.name ∈ TB := in_1 (i := 43) rfl rfl
theorem z_16 : Cond.static Lib.Math.min.name ∈ TB := in_1 (i := 44) rfl rfl
theorem z_17 : Cond.initialized RJ9 ∈ TB := in_1 (i := 4) rfl rfl
theorem z_18 : Cond.code Lib.Math.min.name Lib.Math.min.code 2 (some .int) ∈ TB := in_1 (i := 45) rfl rfl
theorem z_19 : Cond.fieldLink RX8 21 RX8 "limit" "I" ∈ TB := in_1 (i := 47) rfl rfl
theorem z_20 : Cond.methodLink RX4 3 Lib.objectInit ∈ TB := in_2 (i := 29) rfl rfl
theorem z_21 : Cond.fieldLink RX4 9 RX4 "steps" "[I" ∈ TB := in_2 (i := 30) rfl rfl
theorem z_22 : Cond.fieldLink RX4 15 RX4 "keep" "I" ∈ TB := in_2 (i := 32) rfl rfl
theorem z_23 : Cond.fieldLink RX4 19 RX4 "pass" "I" ∈ TB := in_2 (i := 35) rfl rfl
theorem z_24 : Cond.methodLink RX7 3 Lib.objectInit ∈ TB := in_1 (i := 36) rfl rfl
theorem z_25 : Cond.fieldLink RX7 9 RX7 "kind" "[I" ∈ TB := in_1 (i := 60) rfl rfl
theorem z_26 : Cond.fieldLink RX7 15 RX7 "v" "[I" ∈ TB := in_1 (i := 63) rfl rfl
theorem z_27 : Cond.fieldLink RX7 18 RX7 "knows" "[I" ∈ TB := in_1 (i := 66) rfl rfl
theorem z_28 : Cond.fieldLink RX7 21 RX7 "rows" "[I" ∈ TB := in_1 (i := 69) rfl rfl
theorem z_29 : Cond.fieldLink RX7 24 RX7 "lessons" "[I" ∈ TB := in_1 (i := 72) rfl rfl
theorem z_30 : Cond.arrayClass .byte ∈ TB := in_1 (i := 59) rfl rfl
theorem z_31 : Cond.fieldLink RX7 27 RX7 "tape" "[B" ∈ TB := in_1 (i := 81) rfl rfl
theorem z_32 : Cond.classLink RX7 31 RX8 ∈ TB := in_1 (i := 37) rfl rfl
theorem z_33 : Cond.instantiable RX8 3 ∈ TB := in_1 (i := 38) rfl rfl
theorem z_34 : Cond.initialized RX8 ∈ TB := in_1 (i := 3) rfl rfl
theorem z_35 : Cond.methodLink RX7 33 yX8_init ∈ TB := in_1 (i := 39) rfl rfl
theorem z_36 : Cond.instanceMethod yX8_init ∈ TB := in_1 (i := 40) rfl rfl
theorem z_37 : Cond.fieldLink RX7 36 RX7 "seen" "LUrchinSchool$Table;" ∈ TB := in_1 (i := 87) rfl rfl
theorem z_38 : Cond.fieldLink RX7 40 RX7 "plan" "LUrchinSchool$Table;" ∈ TB := in_1 (i := 89) rfl rfl
theorem z_39 : Cond.fieldLink RX7 43 RX7 "book" "LUrchinSchool$Table;" ∈ TB := in_1 (i := 91) rfl rfl
theorem z_40 : Cond.methodLink RX1 3 Lib.objectInit ∈ TB := in_1 (i := 127) rfl rfl
theorem z_41 : Cond.classLink RX1 9 RX10 ∈ TB := in_1 (i := 128) rfl rfl
theorem z_42 : Cond.instantiable RX10 4 ∈ TB := in_1 (i := 129) rfl rfl
theorem z_43 : Cond.fieldLink RX1 12 RX1 "plain" "LUrchinSchool$Urchin;" ∈ TB := in_1 (i := 219) rfl rfl
theorem z_44 : Cond.classLink RX1 18 RX3 ∈ TB := in_1 (i := 153) rfl rfl
theorem z_45 : Cond.instantiable RX3 4 ∈ TB := in_1 (i := 154) rfl rfl
theorem z_46 : Cond.classLink RX1 21 RX2 ∈ TB := in_1 (i := 164) rfl rfl
theorem z_47 : Cond.instantiable RX2 4 ∈ TB := in_1 (i := 165) rfl rfl
theorem z_48 : Cond.classLink RX1 24 RX0 ∈ TB := in_1 (i := 175) rfl rfl
theorem z_49 : Cond.instantiable RX0 4 ∈ TB := in_1 (i := 176) rfl rfl
theorem z_50 : Cond.classLink RX1 27 RX5 ∈ TB := in_1 (i := 186) rfl rfl
theorem z_51 : Cond.instantiable RX5 4 ∈ TB := in_1 (i := 187) rfl rfl
theorem z_52 : Cond.initialized RX5 ∈ TB := in_1 (i := 10) rfl rfl
theorem z_53 : Cond.instanceMethod yX5_init ∈ TB := in_1 (i := 189) rfl rfl
theorem z_54 : Cond.classLink RX1 30 RX6 ∈ TB := in_1 (i := 197) rfl rfl
theorem z_55 : Cond.instantiable RX6 4 ∈ TB := in_1 (i := 198) rfl rfl
theorem z_56 : Cond.initialized RX6 ∈ TB := in_1 (i := 11) rfl rfl
theorem z_57 : Cond.instanceMethod yX6_init ∈ TB := in_1 (i := 200) rfl rfl
theorem z_58 : Cond.classLink RX1 33 RX9 ∈ TB := in_1 (i := 208) rfl rfl
theorem z_59 : Cond.instantiable RX9 4 ∈ TB := in_1 (i := 209) rfl rfl
theorem z_60 : Cond.initialized RX9 ∈ TB := in_1 (i := 12) rfl rfl
theorem z_61 : Cond.instanceMethod yX9_init ∈ TB := in_1 (i := 211) rfl rfl
theorem z_62 : Cond.fieldLink RX1 36 RX1 "kinds" "[LUrchinSchool$Urchin;" ∈ TB := in_1 (i := 220) rfl rfl
theorem z_63 : Cond.fieldLink RX1 40 RX1 "sets" "[I" ∈ TB := in_1 (i := 221) rfl rfl
theorem z_64 : Cond.methodLink RX12 3 Lib.objectInit ∈ TB := in_4 (i := 238) rfl rfl
theorem z_65 : Cond.fieldLink RX12 9 RX12 "s" "[I" ∈ TB := in_4 (i := 239) rfl rfl
theorem z_66 : Cond.fieldLink RX12 15 RX12 "image" "[I" ∈ TB := in_5 (i := 0) rfl rfl
theorem z_67 : Cond.fieldLink RX12 18 RX12 "frame" "[I" ∈ TB := in_5 (i := 1) rfl rfl
theorem z_68 : Cond.fieldLink RX12 21 RX12 "by" "[I" ∈ TB := in_5 (i := 8) rfl rfl
theorem z_69 : Cond.arrayClass .boolean ∈ TB := in_5 (i := 62) rfl rfl
theorem z_70 : Cond.fieldLink RX12 24 RX12 "truths" "[Z" ∈ TB := in_5 (i := 9) rfl rfl
theorem z_71 : Cond.fieldLink RX12 28 RX12 "sums" "[I" ∈ TB := in_5 (i := 10) rfl rfl
theorem z_72 : Cond.fieldLink RX12 31 RX12 "lookedFor" "[I" ∈ TB := in_5 (i := 11) rfl rfl
theorem z_73 : Cond.fieldLink RX12 34 RX12 "next" "[I" ∈ TB := in_5 (i := 13) rfl rfl
theorem z_74 : Cond.fieldLink RX12 37 RX12 "bodies" "[I" ∈ TB := in_5 (i := 14) rfl rfl
theorem z_75 : Cond.methodLink RX11 3 Lib.objectInit ∈ TB := in_1 (i := 28) rfl rfl
theorem z_76 : Cond.classLink RX11 9 RX7 ∈ TB := in_1 (i := 31) rfl rfl
theorem z_77 : Cond.instantiable RX7 14 ∈ TB := in_1 (i := 32) rfl rfl
theorem z_78 : Cond.initialized RX7 ∈ TB := in_1 (i := 2) rfl rfl
theorem z_79 : Cond.instanceMethod yX7_init ∈ TB := in_1 (i := 34) rfl rfl
theorem z_80 : Cond.fieldLink RX11 12 RX11 "now" "LUrchinSchool$School;" ∈ TB := in_2 (i := 66) rfl rfl
theorem z_81 : Cond.fieldLink RX11 18 RX11 "kept" "LUrchinSchool$School;" ∈ TB := in_2 (i := 67) rfl rfl
theorem z_82 : Cond.fieldLink RX11 21 RX11 "ahead" "LUrchinSchool$School;" ∈ TB := in_2 (i := 68) rfl rfl
theorem z_83 : Cond.classLink RX11 24 RX1 ∈ TB := in_1 (i := 122) rfl rfl
theorem z_84 : Cond.instantiable RX1 11 ∈ TB := in_1 (i := 123) rfl rfl
theorem z_85 : Cond.initialized RX1 ∈ TB := in_1 (i := 5) rfl rfl
theorem z_86 : Cond.instanceMethod yX1_init ∈ TB := in_1 (i := 125) rfl rfl
theorem z_87 : Cond.fieldLink RX11 27 RX11 "heeds" "LUrchinSchool$Heeds;" ∈ TB := in_2 (i := 69) rfl rfl
theorem z_88 : Cond.classLink RX11 31 RX4 ∈ TB := in_2 (i := 24) rfl rfl
theorem z_89 : Cond.instantiable RX4 10 ∈ TB := in_2 (i := 25) rfl rfl
theorem z_90 : Cond.initialized RX4 ∈ TB := in_1 (i := 13) rfl rfl
theorem z_91 : Cond.instanceMethod yX4_init ∈ TB := in_2 (i := 27) rfl rfl
theorem z_92 : Cond.fieldLink RX11 34 RX11 "bare" "LUrchinSchool$Ledge;" ∈ TB := in_2 (i := 70) rfl rfl
theorem z_93 : Cond.fieldLink RX11 38 RX11 "ledges" "[LUrchinSchool$Ledge;" ∈ TB := in_2 (i := 71) rfl rfl
theorem dX10_init_0 : decode cX10_init 0 = .ok (.aload_n 0, 1) := by decide +kernel
theorem dX10_init_1 : decode cX10_init 1 = .ok (.invokespecial 3, 3) := by decide +kernel
theorem dX10_init_4 : decode cX10_init 4 = .ok (.aload_n 0, 1) := by decide +kernel
theorem dX10_init_5 : decode cX10_init 5 = .ok (.bipush 20, 2) := by decide +kernel
theorem dX10_init_7 : decode cX10_init 7 = .ok (.newarray .int, 2) := by decide +kernel
theorem dX10_init_9 : decode cX10_init 9 = .ok (.putfield 9, 3) := by decide +kernel
theorem dX10_init_12 : decode cX10_init 12 = .ok (.return_, 1) := by decide +kernel
theorem dX3_init_0 : decode cX3_init 0 = .ok (.aload_n 0, 1) := by decide +kernel
theorem dX3_init_1 : decode cX3_init 1 = .ok (.invokespecial 1, 3) := by decide +kernel
theorem dX3_init_4 : decode cX3_init 4 = .ok (.return_, 1) := by decide +kernel
theorem dX2_init_0 : decode cX2_init 0 = .ok (.aload_n 0, 1) := by decide +kernel
theorem dX2_init_1 : decode cX2_init 1 = .ok (.invokespecial 1, 3) := by decide +kernel
theorem dX2_init_4 : decode cX2_init 4 = .ok (.return_, 1) := by decide +kernel
theorem dX0_init_0 : decode cX0_init 0 = .ok (.aload_n 0, 1) := by decide +kernel
theorem dX0_init_1 : decode cX0_init 1 = .ok (.invokespecial 1, 3) := by decide +kernel
theorem dX0_init_4 : decode cX0_init 4 = .ok (.return_, 1) := by decide +kernel
theorem dX5_init_0 : decode cX5_init 0 = .ok (.aload_n 0, 1) := by decide +kernel
theorem dX5_init_1 : decode cX5_init 1 = .ok (.invokespecial 1, 3) := by decide +kernel
theorem dX5_init_4 : decode cX5_init 4 = .ok (.return_, 1) := by decide +kernel
theorem dX6_init_0 : decode cX6_init 0 = .ok (.aload_n 0, 1) := by decide +kernel
theorem dX6_init_1 : decode cX6_init 1 = .ok (.invokespecial 1, 3) := by decide +kernel
theorem dX6_init_4 : decode cX6_init 4 = .ok (.return_, 1) := by decide +kernel
theorem dX9_init_0 : decode cX9_init 0 = .ok (.aload_n 0, 1) := by decide +kernel
theorem dX9_init_1 : decode cX9_init 1 = .ok (.invokespecial 1, 3) := by decide +kernel
theorem dX9_init_4 : decode cX9_init 4 = .ok (.return_, 1) := by decide +kernel
theorem dX8_init_0 : decode cX8_init 0 = .ok (.aload_n 0, 1) := by decide +kernel
theorem dX8_init_1 : decode cX8_init 1 = .ok (.invokespecial 3, 3) := by decide +kernel
theorem dX8_init_4 : decode cX8_init 4 = .ok (.aload_n 0, 1) := by decide +kernel
theorem dX8_init_5 : decode cX8_init 5 = .ok (.bipush 32, 2) := by decide +kernel
theorem dX8_init_7 : decode cX8_init 7 = .ok (.newarray .int, 2) := by decide +kernel
theorem dX8_init_9 : decode cX8_init 9 = .ok (.putfield 11, 3) := by decide +kernel
theorem dX8_init_12 : decode cX8_init 12 = .ok (.aload_n 0, 1) := by decide +kernel
theorem dX8_init_13 : decode cX8_init 13 = .ok (.iload_n 1, 1) := by decide +kernel
theorem dX8_init_14 : decode cX8_init 14 = .ok (.bipush 8, 2) := by decide +kernel
theorem dX8_init_16 : decode cX8_init 16 = .ok (.invokestatic 15, 3) := by decide +kernel
theorem dX8_init_19 : decode cX8_init 19 = .ok (.putfield 21, 3) := by decide +kernel
theorem dX8_init_22 : decode cX8_init 22 = .ok (.return_, 1) := by decide +kernel
theorem dX4_init_0 : decode cX4_init 0 = .ok (.aload_n 0, 1) := by decide +kernel
theorem dX4_init_1 : decode cX4_init 1 = .ok (.invokespecial 3, 3) := by decide +kernel
theorem dX4_init_4 : decode cX4_init 4 = .ok (.aload_n 0, 1) := by decide +kernel
theorem dX4_init_5 : decode cX4_init 5 = .ok (.bipush 100, 2) := by decide +kernel
theorem dX4_init_7 : decode cX4_init 7 = .ok (.newarray .int, 2) := by decide +kernel
theorem dX4_init_9 : decode cX4_init 9 = .ok (.putfield 9, 3) := by decide +kernel
theorem dX4_init_12 : decode cX4_init 12 = .ok (.aload_n 0, 1) := by decide +kernel
theorem dX4_init_13 : decode cX4_init 13 = .ok (.iconst 4, 1) := by decide +kernel
theorem dX4_init_14 : decode cX4_init 14 = .ok (.putfield 15, 3) := by decide +kernel
theorem dX4_init_17 : decode cX4_init 17 = .ok (.aload_n 0, 1) := by decide +kernel
theorem dX4_init_18 : decode cX4_init 18 = .ok (.bipush 6, 2) := by decide +kernel
theorem dX4_init_20 : decode cX4_init 20 = .ok (.putfield 19, 3) := by decide +kernel
theorem dX4_init_23 : decode cX4_init 23 = .ok (.return_, 1) := by decide +kernel
theorem dX7_init_0 : decode cX7_init 0 = .ok (.aload_n 0, 1) := by decide +kernel
theorem dX7_init_1 : decode cX7_init 1 = .ok (.invokespecial 3, 3) := by decide +kernel
theorem dX7_init_4 : decode cX7_init 4 = .ok (.aload_n 0, 1) := by decide +kernel
theorem dX7_init_5 : decode cX7_init 5 = .ok (.bipush 6, 2) := by decide +kernel
theorem dX7_init_7 : decode cX7_init 7 = .ok (.newarray .int, 2) := by decide +kernel
theorem dX7_init_9 : decode cX7_init 9 = .ok (.putfield 9, 3) := by decide +kernel
theorem dX7_init_12 : decode cX7_init 12 = .ok (.aload_n 0, 1) := by decide +kernel
theorem dX7_init_13 : decode cX7_init 13 = .ok (.bipush 6, 2) := by decide +kernel
theorem dX7_init_15 : decode cX7_init 15 = .ok (.newarray .int, 2) := by decide +kernel
theorem dX7_init_17 : decode cX7_init 17 = .ok (.putfield 15, 3) := by decide +kernel
theorem dX7_init_20 : decode cX7_init 20 = .ok (.aload_n 0, 1) := by decide +kernel
theorem dX7_init_21 : decode cX7_init 21 = .ok (.bipush 6, 2) := by decide +kernel
theorem dX7_init_23 : decode cX7_init 23 = .ok (.newarray .int, 2) := by decide +kernel
theorem dX7_init_25 : decode cX7_init 25 = .ok (.putfield 18, 3) := by decide +kernel
theorem dX7_init_28 : decode cX7_init 28 = .ok (.aload_n 0, 1) := by decide +kernel
theorem dX7_init_29 : decode cX7_init 29 = .ok (.bipush 24, 2) := by decide +kernel
theorem dX7_init_31 : decode cX7_init 31 = .ok (.newarray .int, 2) := by decide +kernel
theorem dX7_init_33 : decode cX7_init 33 = .ok (.putfield 21, 3) := by decide +kernel
theorem dX7_init_36 : decode cX7_init 36 = .ok (.aload_n 0, 1) := by decide +kernel
theorem dX7_init_37 : decode cX7_init 37 = .ok (.iconst 4, 1) := by decide +kernel
theorem dX7_init_38 : decode cX7_init 38 = .ok (.newarray .int, 2) := by decide +kernel
theorem dX7_init_40 : decode cX7_init 40 = .ok (.dup, 1) := by decide +kernel
theorem dX7_init_41 : decode cX7_init 41 = .ok (.iconst 0, 1) := by decide +kernel
theorem dX7_init_42 : decode cX7_init 42 = .ok (.bipush 8, 2) := by decide +kernel
theorem dX7_init_44 : decode cX7_init 44 = .ok (.iastore, 1) := by decide +kernel
theorem dX7_init_45 : decode cX7_init 45 = .ok (.dup, 1) := by decide +kernel
theorem dX7_init_46 : decode cX7_init 46 = .ok (.iconst 1, 1) := by decide +kernel
theorem dX7_init_47 : decode cX7_init 47 = .ok (.bipush 8, 2) := by decide +kernel
theorem dX7_init_49 : decode cX7_init 49 = .ok (.iastore, 1) := by decide +kernel
theorem dX7_init_50 : decode cX7_init 50 = .ok (.dup, 1) := by decide +kernel
theorem dX7_init_51 : decode cX7_init 51 = .ok (.iconst 2, 1) := by decide +kernel
theorem dX7_init_52 : decode cX7_init 52 = .ok (.bipush 8, 2) := by decide +kernel
theorem dX7_init_54 : decode cX7_init 54 = .ok (.iastore, 1) := by decide +kernel
theorem dX7_init_55 : decode cX7_init 55 = .ok (.dup, 1) := by decide +kernel
theorem dX7_init_56 : decode cX7_init 56 = .ok (.iconst 3, 1) := by decide +kernel
theorem dX7_init_57 : decode cX7_init 57 = .ok (.bipush 8, 2) := by decide +kernel
theorem dX7_init_59 : decode cX7_init 59 = .ok (.iastore, 1) := by decide +kernel
theorem dX7_init_60 : decode cX7_init 60 = .ok (.putfield 24, 3) := by decide +kernel
theorem dX7_init_63 : decode cX7_init 63 = .ok (.aload_n 0, 1) := by decide +kernel
theorem dX7_init_64 : decode cX7_init 64 = .ok (.bipush 100, 2) := by decide +kernel
theorem dX7_init_66 : decode cX7_init 66 = .ok (.newarray .byte, 2) := by decide +kernel
theorem dX7_init_68 : decode cX7_init 68 = .ok (.putfield 27, 3) := by decide +kernel
theorem dX7_init_71 : decode cX7_init 71 = .ok (.aload_n 0, 1) := by decide +kernel
theorem dX7_init_72 : decode cX7_init 72 = .ok (.new 31, 3) := by decide +kernel
theorem dX7_init_75 : decode cX7_init 75 = .ok (.dup, 1) := by decide +kernel
theorem dX7_init_76 : decode cX7_init 76 = .ok (.iconst 5, 1) := by decide +kernel
theorem dX7_init_77 : decode cX7_init 77 = .ok (.invokespecial 33, 3) := by decide +kernel
theorem dX7_init_80 : decode cX7_init 80 = .ok (.putfield 36, 3) := by decide +kernel
theorem dX7_init_83 : decode cX7_init 83 = .ok (.aload_n 0, 1) := by decide +kernel
theorem dX7_init_84 : decode cX7_init 84 = .ok (.new 31, 3) := by decide +kernel
theorem dX7_init_87 : decode cX7_init 87 = .ok (.dup, 1) := by decide +kernel
theorem dX7_init_88 : decode cX7_init 88 = .ok (.bipush 8, 2) := by decide +kernel
theorem dX7_init_90 : decode cX7_init 90 = .ok (.invokespecial 33, 3) := by decide +kernel
theorem dX7_init_93 : decode cX7_init 93 = .ok (.putfield 40, 3) := by decide +kernel
theorem dX7_init_96 : decode cX7_init 96 = .ok (.aload_n 0, 1) := by decide +kernel
theorem dX7_init_97 : decode cX7_init 97 = .ok (.new 31, 3) := by decide +kernel
theorem dX7_init_100 : decode cX7_init 100 = .ok (.dup, 1) := by decide +kernel
theorem dX7_init_101 : decode cX7_init 101 = .ok (.bipush 8, 2) := by decide +kernel
theorem dX7_init_103 : decode cX7_init 103 = .ok (.invokespecial 33, 3) := by decide +kernel
theorem dX7_init_106 : decode cX7_init 106 = .ok (.putfield 43, 3) := by decide +kernel
theorem dX7_init_109 : decode cX7_init 109 = .ok (.return_, 1) := by decide +kernel
theorem dX1_init_0 : decode cX1_init 0 = .ok (.aload_n 0, 1) := by decide +kernel
theorem dX1_init_1 : decode cX1_init 1 = .ok (.invokespecial 3, 3) := by decide +kernel
theorem dX1_init_4 : decode cX1_init 4 = .ok (.aload_n 0, 1) := by decide +kernel
theorem dX1_init_5 : decode cX1_init 5 = .ok (.new 9, 3) := by decide +kernel
theorem dX1_init_8 : decode cX1_init 8 = .ok (.dup, 1) := by decide +kernel
theorem dX1_init_9 : decode cX1_init 9 = .ok (.invokespecial 11, 3) := by decide +kernel
theorem dX1_init_12 : decode cX1_init 12 = .ok (.putfield 12, 3) := by decide +kernel
theorem dX1_init_15 : decode cX1_init 15 = .ok (.aload_n 0, 1) := by decide +kernel
theorem dX1_init_16 : decode cX1_init 16 = .ok (.bipush 7, 2) := by decide +kernel
theorem dX1_init_18 : decode cX1_init 18 = .ok (.anewarray 9, 3) := by decide +kernel
theorem dX1_init_21 : decode cX1_init 21 = .ok (.dup, 1) := by decide +kernel
theorem dX1_init_22 : decode cX1_init 22 = .ok (.iconst 0, 1) := by decide +kernel
theorem dX1_init_23 : decode cX1_init 23 = .ok (.aload_n 0, 1) := by decide +kernel
theorem dX1_init_24 : decode cX1_init 24 = .ok (.getfield 12, 3) := by decide +kernel
theorem dX1_init_27 : decode cX1_init 27 = .ok (.aastore, 1) := by decide +kernel
theorem dX1_init_28 : decode cX1_init 28 = .ok (.dup, 1) := by decide +kernel
theorem dX1_init_29 : decode cX1_init 29 = .ok (.iconst 1, 1) := by decide +kernel
theorem dX1_init_30 : decode cX1_init 30 = .ok (.new 18, 3) := by decide +kernel
theorem dX1_init_33 : decode cX1_init 33 = .ok (.dup, 1) := by decide +kernel
theorem dX1_init_34 : decode cX1_init 34 = .ok (.invokespecial 20, 3) := by decide +kernel
theorem dX1_init_37 : decode cX1_init 37 = .ok (.aastore, 1) := by decide +kernel
theorem dX1_init_38 : decode cX1_init 38 = .ok (.dup, 1) := by decide +kernel
theorem dX1_init_39 : decode cX1_init 39 = .ok (.iconst 2, 1) := by decide +kernel
theorem dX1_init_40 : decode cX1_init 40 = .ok (.new 21, 3) := by decide +kernel
theorem dX1_init_43 : decode cX1_init 43 = .ok (.dup, 1) := by decide +kernel
theorem dX1_init_44 : decode cX1_init 44 = .ok (.invokespecial 23, 3) := by decide +kernel
theorem dX1_init_47 : decode cX1_init 47 = .ok (.aastore, 1) := by decide +kernel
theorem dX1_init_48 : decode cX1_init 48 = .ok (.dup, 1) := by decide +kernel
theorem dX1_init_49 : decode cX1_init 49 = .ok (.iconst 3, 1) := by decide +kernel
theorem dX1_init_50 : decode cX1_init 50 = .ok (.new 24, 3) := by decide +kernel
theorem dX1_init_53 : decode cX1_init 53 = .ok (.dup, 1) := by decide +kernel
theorem dX1_init_54 : decode cX1_init 54 = .ok (.invokespecial 26, 3) := by decide +kernel
theorem dX1_init_57 : decode cX1_init 57 = .ok (.aastore, 1) := by decide +kernel
theorem dX1_init_58 : decode cX1_init 58 = .ok (.dup, 1) := by decide +kernel
theorem dX1_init_59 : decode cX1_init 59 = .ok (.iconst 4, 1) := by decide +kernel
theorem dX1_init_60 : decode cX1_init 60 = .ok (.new 27, 3) := by decide +kernel
theorem dX1_init_63 : decode cX1_init 63 = .ok (.dup, 1) := by decide +kernel
theorem dX1_init_64 : decode cX1_init 64 = .ok (.invokespecial 29, 3) := by decide +kernel
theorem dX1_init_67 : decode cX1_init 67 = .ok (.aastore, 1) := by decide +kernel
theorem dX1_init_68 : decode cX1_init 68 = .ok (.dup, 1) := by decide +kernel
theorem dX1_init_69 : decode cX1_init 69 = .ok (.iconst 5, 1) := by decide +kernel
theorem dX1_init_70 : decode cX1_init 70 = .ok (.new 30, 3) := by decide +kernel
theorem dX1_init_73 : decode cX1_init 73 = .ok (.dup, 1) := by decide +kernel
theorem dX1_init_74 : decode cX1_init 74 = .ok (.invokespecial 32, 3) := by decide +kernel
theorem dX1_init_77 : decode cX1_init 77 = .ok (.aastore, 1) := by decide +kernel
theorem dX1_init_78 : decode cX1_init 78 = .ok (.dup, 1) := by decide +kernel
theorem dX1_init_79 : decode cX1_init 79 = .ok (.bipush 6, 2) := by decide +kernel
theorem dX1_init_81 : decode cX1_init 81 = .ok (.new 33, 3) := by decide +kernel
theorem dX1_init_84 : decode cX1_init 84 = .ok (.dup, 1) := by decide +kernel
theorem dX1_init_85 : decode cX1_init 85 = .ok (.invokespecial 35, 3) := by decide +kernel
theorem dX1_init_88 : decode cX1_init 88 = .ok (.aastore, 1) := by decide +kernel
theorem dX1_init_89 : decode cX1_init 89 = .ok (.putfield 36, 3) := by decide +kernel
theorem dX1_init_92 : decode cX1_init 92 = .ok (.aload_n 0, 1) := by decide +kernel
theorem dX1_init_93 : decode cX1_init 93 = .ok (.sipush 540, 3) := by decide +kernel
theorem dX1_init_96 : decode cX1_init 96 = .ok (.newarray .int, 2) := by decide +kernel
theorem dX1_init_98 : decode cX1_init 98 = .ok (.putfield 40, 3) := by decide +kernel
theorem dX1_init_101 : decode cX1_init 101 = .ok (.return_, 1) := by decide +kernel
theorem dX12_init_0 : decode cX12_init 0 = .ok (.aload_n 0, 1) := by decide +kernel
theorem dX12_init_1 : decode cX12_init 1 = .ok (.invokespecial 3, 3) := by decide +kernel
theorem dX12_init_4 : decode cX12_init 4 = .ok (.aload_n 0, 1) := by decide +kernel
theorem dX12_init_5 : decode cX12_init 5 = .ok (.sipush 927, 3) := by decide +kernel
theorem dX12_init_8 : decode cX12_init 8 = .ok (.newarray .int, 2) := by decide +kernel
theorem dX12_init_10 : decode cX12_init 10 = .ok (.putfield 9, 3) := by decide +kernel
theorem dX12_init_13 : decode cX12_init 13 = .ok (.aload_n 0, 1) := by decide +kernel
theorem dX12_init_14 : decode cX12_init 14 = .ok (.sipush 927, 3) := by decide +kernel
theorem dX12_init_17 : decode cX12_init 17 = .ok (.newarray .int, 2) := by decide +kernel
theorem dX12_init_19 : decode cX12_init 19 = .ok (.putfield 15, 3) := by decide +kernel
theorem dX12_init_22 : decode cX12_init 22 = .ok (.aload_n 0, 1) := by decide +kernel
theorem dX12_init_23 : decode cX12_init 23 = .ok (.bipush 17, 2) := by decide +kernel
theorem dX12_init_25 : decode cX12_init 25 = .ok (.newarray .int, 2) := by decide +kernel
theorem dX12_init_27 : decode cX12_init 27 = .ok (.putfield 18, 3) := by decide +kernel
theorem dX12_init_30 : decode cX12_init 30 = .ok (.aload_n 0, 1) := by decide +kernel
theorem dX12_init_31 : decode cX12_init 31 = .ok (.bipush 6, 2) := by decide +kernel
theorem dX12_init_33 : decode cX12_init 33 = .ok (.newarray .int, 2) := by decide +kernel
theorem dX12_init_35 : decode cX12_init 35 = .ok (.putfield 21, 3) := by decide +kernel
theorem dX12_init_38 : decode cX12_init 38 = .ok (.aload_n 0, 1) := by decide +kernel
theorem dX12_init_39 : decode cX12_init 39 = .ok (.bipush 64, 2) := by decide +kernel
theorem dX12_init_41 : decode cX12_init 41 = .ok (.newarray .boolean, 2) := by decide +kernel
theorem dX12_init_43 : decode cX12_init 43 = .ok (.putfield 24, 3) := by decide +kernel
theorem dX12_init_46 : decode cX12_init 46 = .ok (.aload_n 0, 1) := by decide +kernel
theorem dX12_init_47 : decode cX12_init 47 = .ok (.sipush 4320, 3) := by decide +kernel
theorem dX12_init_50 : decode cX12_init 50 = .ok (.newarray .int, 2) := by decide +kernel
theorem dX12_init_52 : decode cX12_init 52 = .ok (.putfield 28, 3) := by decide +kernel
theorem dX12_init_55 : decode cX12_init 55 = .ok (.aload_n 0, 1) := by decide +kernel
theorem dX12_init_56 : decode cX12_init 56 = .ok (.sipush 4320, 3) := by decide +kernel
theorem dX12_init_59 : decode cX12_init 59 = .ok (.newarray .int, 2) := by decide +kernel
theorem dX12_init_61 : decode cX12_init 61 = .ok (.putfield 31, 3) := by decide +kernel
theorem dX12_init_64 : decode cX12_init 64 = .ok (.aload_n 0, 1) := by decide +kernel
theorem dX12_init_65 : decode cX12_init 65 = .ok (.bipush 6, 2) := by decide +kernel
theorem dX12_init_67 : decode cX12_init 67 = .ok (.newarray .int, 2) := by decide +kernel
theorem dX12_init_69 : decode cX12_init 69 = .ok (.putfield 34, 3) := by decide +kernel
theorem dX12_init_72 : decode cX12_init 72 = .ok (.aload_n 0, 1) := by decide +kernel
theorem dX12_init_73 : decode cX12_init 73 = .ok (.bipush 20, 2) := by decide +kernel
theorem dX12_init_75 : decode cX12_init 75 = .ok (.newarray .int, 2) := by decide +kernel
theorem dX12_init_77 : decode cX12_init 77 = .ok (.putfield 37, 3) := by decide +kernel
theorem dX12_init_80 : decode cX12_init 80 = .ok (.aload_n 0, 1) := by decide +kernel
theorem dX12_init_81 : decode cX12_init 81 = .ok (.getfield 9, 3) := by decide +kernel
theorem dX12_init_84 : decode cX12_init 84 = .ok (.bipush 23, 2) := by decide +kernel
theorem dX12_init_86 : decode cX12_init 86 = .ok (.iconst (-1), 1) := by decide +kernel
theorem dX12_init_87 : decode cX12_init 87 = .ok (.iastore, 1) := by decide +kernel
theorem dX12_init_88 : decode cX12_init 88 = .ok (.iconst 0, 1) := by decide +kernel
theorem dX12_init_89 : decode cX12_init 89 = .ok (.istore_n 1, 1) := by decide +kernel
theorem dX12_init_90 : decode cX12_init 90 = .ok (.iload_n 1, 1) := by decide +kernel
theorem dX12_init_91 : decode cX12_init 91 = .ok (.iconst 4, 1) := by decide +kernel
theorem dX12_init_92 : decode cX12_init 92 = .ok (.if_icmp .ge 20, 3) := by decide +kernel
theorem dX12_init_95 : decode cX12_init 95 = .ok (.aload_n 0, 1) := by decide +kernel
theorem dX12_init_96 : decode cX12_init 96 = .ok (.getfield 9, 3) := by decide +kernel
theorem dX12_init_99 : decode cX12_init 99 = .ok (.bipush 13, 2) := by decide +kernel
theorem dX12_init_101 : decode cX12_init 101 = .ok (.iload_n 1, 1) := by decide +kernel
theorem dX12_init_102 : decode cX12_init 102 = .ok (.iadd, 1) := by decide +kernel
theorem dX12_init_103 : decode cX12_init 103 = .ok (.bipush (-5), 2) := by decide +kernel
theorem dX12_init_105 : decode cX12_init 105 = .ok (.iastore, 1) := by decide +kernel
theorem dX12_init_106 : decode cX12_init 106 = .ok (.iinc 1 1, 3) := by decide +kernel
theorem dX12_init_109 : decode cX12_init 109 = .ok (.goto (-19), 3) := by decide +kernel
theorem dX12_init_112 : decode cX12_init 112 = .ok (.return_, 1) := by decide +kernel
def hn_X10_init_c10 : List AE := [.inr (10, [.ref 1, .int 0, .int 0, .int 0]), .inl (0, 20, .inl (fun _ => 0))]
set_option maxHeartbeats 4000000 in
set_option maxRecDepth 100000 in
theorem n_X10_init_c10 (l : Launch) : NC l jX10_init [] (.inr (10, [.null, .int 0, .int 0, .int 0])) (hn_X10_init_c10) 1 := by
  refine NC_of mt_X10_init (by decide +kernel) rfl (Nat.le_of_ble_eq_true rfl) (fun _ => rfl) ?_
  intro p e R s m args below meth c Q D tc b G
  refine g_al G dX10_init_0 rfl ?_
  refine g_oi G dX10_init_1 z_0 z_1 z_2 rfl (by decide) ?_
  refine g_al G dX10_init_4 rfl ?_
  refine g_bi G (nI 20) dX10_init_5 (by decide) ?_
  refine g_na G 20 0 .int [.inr (10, [.null, .int 0, .int 0, .int 0]), .inl (0, 20, .inl (fun _ => 0))] dX10_init_7 rfl rfl rfl (fun _ z => z) z_3 (by decide) (nI_clamp (by decide)) rfl rfl rfl rfl ?_
  refine g_pu (ci := 10) (C := RX10) (F := TX10) (Nf := 4) (k := 0) G [.inr (10, [.ref 1, .int 0, .int 0, .int 0]), .inl (0, 20, .inl (fun _ => 0))] dX10_init_9 rfl rfl (by decide) (by decide) z_4 (tyX10_ok 0 (by decide)) (fun _ => ⟨rfl, rfl⟩) (Or.inr ⟨rfl, rfl⟩) rfl ?_
  exact g_rt G dX10_init_12 rfl
def hn_X10_init_c3 : List AE := [.inr (3, [.ref 1, .int 0, .int 0, .int 0]), .inl (0, 20, .inl (fun _ => 0))]
set_option maxHeartbeats 4000000 in
set_option maxRecDepth 100000 in
theorem n_X10_init_c3 (l : Launch) : NC l jX10_init [] (.inr (3, [.null, .int 0, .int 0, .int 0])) (hn_X10_init_c3) 1 := by
  refine NC_of mt_X10_init (by decide +kernel) rfl (Nat.le_of_ble_eq_true rfl) (fun _ => rfl) ?_
  intro p e R s m args below meth c Q D tc b G
  refine g_al G dX10_init_0 rfl ?_
  refine g_oi G dX10_init_1 z_0 z_1 z_2 rfl (by decide) ?_
  refine g_al G dX10_init_4 rfl ?_
  refine g_bi G (nI 20) dX10_init_5 (by decide) ?_
  refine g_na G 20 0 .int [.inr (3, [.null, .int 0, .int 0, .int 0]), .inl (0, 20, .inl (fun _ => 0))] dX10_init_7 rfl rfl rfl (fun _ z => z) z_3 (by decide) (nI_clamp (by decide)) rfl rfl rfl rfl ?_
  refine g_pu (ci := 3) (C := RX3) (F := TX3) (Nf := 4) (k := 0) G [.inr (3, [.ref 1, .int 0, .int 0, .int 0]), .inl (0, 20, .inl (fun _ => 0))] dX10_init_9 rfl rfl (by decide) (by decide) z_4 (tyX3_ok 0 (by decide)) (fun _ => ⟨rfl, rfl⟩) (Or.inr ⟨rfl, rfl⟩) rfl ?_
  exact g_rt G dX10_init_12 rfl
def hn_X10_init_c2 : List AE := [.inr (2, [.ref 1, .int 0, .int 0, .int 0]), .inl (0, 20, .inl (fun _ => 0))]
set_option maxHeartbeats 4000000 in
set_option maxRecDepth 100000 in
theorem n_X10_init_c2 (l : Launch) : NC l jX10_init [] (.inr (2, [.null, .int 0, .int 0, .int 0])) (hn_X10_init_c2) 1 := by
  refine NC_of mt_X10_init (by decide +kernel) rfl (Nat.le_of_ble_eq_true rfl) (fun _ => rfl) ?_
  intro p e R s m args below meth c Q D tc b G
  refine g_al G dX10_init_0 rfl ?_
  refine g_oi G dX10_init_1 z_0 z_1 z_2 rfl (by decide) ?_
  refine g_al G dX10_init_4 rfl ?_
  refine g_bi G (nI 20) dX10_init_5 (by decide) ?_
  refine g_na G 20 0 .int [.inr (2, [.null, .int 0, .int 0, .int 0]), .inl (0, 20, .inl (fun _ => 0))] dX10_init_7 rfl rfl rfl (fun _ z => z) z_3 (by decide) (nI_clamp (by decide)) rfl rfl rfl rfl ?_
  refine g_pu (ci := 2) (C := RX2) (F := TX2) (Nf := 4) (k := 0) G [.inr (2, [.ref 1, .int 0, .int 0, .int 0]), .inl (0, 20, .inl (fun _ => 0))] dX10_init_9 rfl rfl (by decide) (by decide) z_4 (tyX2_ok 0 (by decide)) (fun _ => ⟨rfl, rfl⟩) (Or.inr ⟨rfl, rfl⟩) rfl ?_
  exact g_rt G dX10_init_12 rfl
def hn_X10_init_c0 : List AE := [.inr (0, [.ref 1, .int 0, .int 0, .int 0]), .inl (0, 20, .inl (fun _ => 0))]
set_option maxHeartbeats 4000000 in
set_option maxRecDepth 100000 in
theorem n_X10_init_c0 (l : Launch) : NC l jX10_init [] (.inr (0, [.null, .int 0, .int 0, .int 0])) (hn_X10_init_c0) 1 := by
  refine NC_of mt_X10_init (by decide +kernel) rfl (Nat.le_of_ble_eq_true rfl) (fun _ => rfl) ?_
  intro p e R s m args below meth c Q D tc b G
  refine g_al G dX10_init_0 rfl ?_
  refine g_oi G dX10_init_1 z_0 z_1 z_2 rfl (by decide) ?_
  refine g_al G dX10_init_4 rfl ?_
  refine g_bi G (nI 20) dX10_init_5 (by decide) ?_
  refine g_na G 20 0 .int [.inr (0, [.null, .int 0, .int 0, .int 0]), .inl (0, 20, .inl (fun _ => 0))] dX10_init_7 rfl rfl rfl (fun _ z => z) z_3 (by decide) (nI_clamp (by decide)) rfl rfl rfl rfl ?_
  refine g_pu (ci := 0) (C := RX0) (F := TX0) (Nf := 4) (k := 0) G [.inr (0, [.ref 1, .int 0, .int 0, .int 0]), .inl (0, 20, .inl (fun _ => 0))] dX10_init_9 rfl rfl (by decide) (by decide) z_4 (tyX0_ok 0 (by decide)) (fun _ => ⟨rfl, rfl⟩) (Or.inr ⟨rfl, rfl⟩) rfl ?_
  exact g_rt G dX10_init_12 rfl
def hn_X10_init_c5 : List AE := [.inr (5, [.ref 1, .int 0, .int 0, .int 0]), .inl (0, 20, .inl (fun _ => 0))]
set_option maxHeartbeats 4000000 in
set_option maxRecDepth 100000 in
theorem n_X10_init_c5 (l : Launch) : NC l jX10_init [] (.inr (5, [.null, .int 0, .int 0, .int 0])) (hn_X10_init_c5) 1 := by
  refine NC_of mt_X10_init (by decide +kernel) rfl (Nat.le_of_ble_eq_true rfl) (fun _ => rfl) ?_
  intro p e R s m args below meth c Q D tc b G
  refine g_al G dX10_init_0 rfl ?_
  refine g_oi G dX10_init_1 z_0 z_1 z_2 rfl (by decide) ?_
  refine g_al G dX10_init_4 rfl ?_
  refine g_bi G (nI 20) dX10_init_5 (by decide) ?_
  refine g_na G 20 0 .int [.inr (5, [.null, .int 0, .int 0, .int 0]), .inl (0, 20, .inl (fun _ => 0))] dX10_init_7 rfl rfl rfl (fun _ z => z) z_3 (by decide) (nI_clamp (by decide)) rfl rfl rfl rfl ?_
  refine g_pu (ci := 5) (C := RX5) (F := TX5) (Nf := 4) (k := 0) G [.inr (5, [.ref 1, .int 0, .int 0, .int 0]), .inl (0, 20, .inl (fun _ => 0))] dX10_init_9 rfl rfl (by decide) (by decide) z_4 (tyX5_ok 0 (by decide)) (fun _ => ⟨rfl, rfl⟩) (Or.inr ⟨rfl, rfl⟩) rfl ?_
  exact g_rt G dX10_init_12 rfl
def hn_X10_init_c6 : List AE := [.inr (6, [.ref 1, .int 0, .int 0, .int 0]), .inl (0, 20, .inl (fun _ => 0))]
set_option maxHeartbeats 4000000 in
set_option maxRecDepth 100000 in
theorem n_X10_init_c6 (l : Launch) : NC l jX10_init [] (.inr (6, [.null, .int 0, .int 0, .int 0])) (hn_X10_init_c6) 1 := by
  refine NC_of mt_X10_init (by decide +kernel) rfl (Nat.le_of_ble_eq_true rfl) (fun _ => rfl) ?_
  intro p e R s m args below meth c Q D tc b G
  refine g_al G dX10_init_0 rfl ?_
  refine g_oi G dX10_init_1 z_0 z_1 z_2 rfl (by decide) ?_
  refine g_al G dX10_init_4 rfl ?_
  refine g_bi G (nI 20) dX10_init_5 (by decide) ?_
  refine g_na G 20 0 .int [.inr (6, [.null, .int 0, .int 0, .int 0]), .inl (0, 20, .inl (fun _ => 0))] dX10_init_7 rfl rfl rfl (fun _ z => z) z_3 (by decide) (nI_clamp (by decide)) rfl rfl rfl rfl ?_
  refine g_pu (ci := 6) (C := RX6) (F := TX6) (Nf := 4) (k := 0) G [.inr (6, [.ref 1, .int 0, .int 0, .int 0]), .inl (0, 20, .inl (fun _ => 0))] dX10_init_9 rfl rfl (by decide) (by decide) z_4 (tyX6_ok 0 (by decide)) (fun _ => ⟨rfl, rfl⟩) (Or.inr ⟨rfl, rfl⟩) rfl ?_
  exact g_rt G dX10_init_12 rfl
def hn_X10_init_c9 : List AE := [.inr (9, [.ref 1, .int 0, .int 0, .int 0]), .inl (0, 20, .inl (fun _ => 0))]
set_option maxHeartbeats 4000000 in
set_option maxRecDepth 100000 in
theorem n_X10_init_c9 (l : Launch) : NC l jX10_init [] (.inr (9, [.null, .int 0, .int 0, .int 0])) (hn_X10_init_c9) 1 := by
  refine NC_of mt_X10_init (by decide +kernel) rfl (Nat.le_of_ble_eq_true rfl) (fun _ => rfl) ?_
  intro p e R s m args below meth c Q D tc b G
  refine g_al G dX10_init_0 rfl ?_
  refine g_oi G dX10_init_1 z_0 z_1 z_2 rfl (by decide) ?_
  refine g_al G dX10_init_4 rfl ?_
  refine g_bi G (nI 20) dX10_init_5 (by decide) ?_
  refine g_na G 20 0 .int [.inr (9, [.null, .int 0, .int 0, .int 0]), .inl (0, 20, .inl (fun _ => 0))] dX10_init_7 rfl rfl rfl (fun _ z => z) z_3 (by decide) (nI_clamp (by decide)) rfl rfl rfl rfl ?_
  refine g_pu (ci := 9) (C := RX9) (F := TX9) (Nf := 4) (k := 0) G [.inr (9, [.ref 1, .int 0, .int 0, .int 0]), .inl (0, 20, .inl (fun _ => 0))] dX10_init_9 rfl rfl (by decide) (by decide) z_4 (tyX9_ok 0 (by decide)) (fun _ => ⟨rfl, rfl⟩) (Or.inr ⟨rfl, rfl⟩) rfl ?_
  exact g_rt G dX10_init_12 rfl
def hn_X3_init_c3 : List AE := [.inr (3, [.ref 1, .int 0, .int 0, .int 0]), .inl (0, 20, .inl (fun _ => 0))]
set_option maxHeartbeats 4000000 in
set_option maxRecDepth 100000 in
theorem n_X3_init_c3 (l : Launch) : NC l jX3_init [] (.inr (3, [.null, .int 0, .int 0, .int 0])) (hn_X3_init_c3) 2 := by
  refine NC_of mt_X3_init (by decide +kernel) rfl (Nat.le_of_ble_eq_true rfl) (fun _ => rfl) ?_
  intro p e R s m args below meth c Q D tc b G
  refine g_al G dX3_init_0 rfl ?_
  refine g_ct (pre := []) (c0 := .inr (3, [.null, .int 0, .int 0, .int 0])) G 0 [.inr (3, [.ref 1, .int 0, .int 0, .int 0]), .inl (0, 20, .inl (fun _ => 0))] dX3_init_1 (n_X10_init_c3 l) mt_X10_init cw_X10_init rfl z_5 z_6 nmh_X10 rfl (Or.inr ⟨RX11, List.mem_of_getElem? (i := 7) rfl⟩) (by decide) (by decide) (fun _ => rfl) rfl rfl rfl rfl rfl rfl rfl rfl rfl rfl ?_
  exact g_rt G dX3_init_4 rfl
def hn_X3_init_c5 : List AE := [.inr (5, [.ref 1, .int 0, .int 0, .int 0]), .inl (0, 20, .inl (fun _ => 0))]
set_option maxHeartbeats 4000000 in
set_option maxRecDepth 100000 in
theorem n_X3_init_c5 (l : Launch) : NC l jX3_init [] (.inr (5, [.null, .int 0, .int 0, .int 0])) (hn_X3_init_c5) 2 := by
  refine NC_of mt_X3_init (by decide +kernel) rfl (Nat.le_of_ble_eq_true rfl) (fun _ => rfl) ?_
  intro p e R s m args below meth c Q D tc b G
  refine g_al G dX3_init_0 rfl ?_
  refine g_ct (pre := []) (c0 := .inr (5, [.null, .int 0, .int 0, .int 0])) G 0 [.inr (5, [.ref 1, .int 0, .int 0, .int 0]), .inl (0, 20, .inl (fun _ => 0))] dX3_init_1 (n_X10_init_c5 l) mt_X10_init cw_X10_init rfl z_5 z_6 nmh_X10 rfl (Or.inr ⟨RX11, List.mem_of_getElem? (i := 7) rfl⟩) (by decide) (by decide) (fun _ => rfl) rfl rfl rfl rfl rfl rfl rfl rfl rfl rfl ?_
  exact g_rt G dX3_init_4 rfl
def hn_X2_init_c2 : List AE := [.inr (2, [.ref 1, .int 0, .int 0, .int 0]), .inl (0, 20, .inl (fun _ => 0))]
set_option maxHeartbeats 4000000 in
set_option maxRecDepth 100000 in
theorem n_X2_init_c2 (l : Launch) : NC l jX2_init [] (.inr (2, [.null, .int 0, .int 0, .int 0])) (hn_X2_init_c2) 2 := by
  refine NC_of mt_X2_init (by decide +kernel) rfl (Nat.le_of_ble_eq_true rfl) (fun _ => rfl) ?_
  intro p e R s m args below meth c Q D tc b G
  refine g_al G dX2_init_0 rfl ?_
  refine g_ct (pre := []) (c0 := .inr (2, [.null, .int 0, .int 0, .int 0])) G 0 [.inr (2, [.ref 1, .int 0, .int 0, .int 0]), .inl (0, 20, .inl (fun _ => 0))] dX2_init_1 (n_X10_init_c2 l) mt_X10_init cw_X10_init rfl z_5 z_6 nmh_X10 rfl (Or.inr ⟨RX11, List.mem_of_getElem? (i := 9) rfl⟩) (by decide) (by decide) (fun _ => rfl) rfl rfl rfl rfl rfl rfl rfl rfl rfl rfl ?_
  exact g_rt G dX2_init_4 rfl
def hn_X2_init_c6 : List AE := [.inr (6, [.ref 1, .int 0, .int 0, .int 0]), .inl (0, 20, .inl (fun _ => 0))]
set_option maxHeartbeats 4000000 in
set_option maxRecDepth 100000 in
theorem n_X2_init_c6 (l : Launch) : NC l jX2_init [] (.inr (6, [.null, .int 0, .int 0, .int 0])) (hn_X2_init_c6) 2 := by
  refine NC_of mt_X2_init (by decide +kernel) rfl (Nat.le_of_ble_eq_true rfl) (fun _ => rfl) ?_
  intro p e R s m args below meth c Q D tc b G
  refine g_al G dX2_init_0 rfl ?_
  refine g_ct (pre := []) (c0 := .inr (6, [.null, .int 0, .int 0, .int 0])) G 0 [.inr (6, [.ref 1, .int 0, .int 0, .int 0]), .inl (0, 20, .inl (fun _ => 0))] dX2_init_1 (n_X10_init_c6 l) mt_X10_init cw_X10_init rfl z_5 z_6 nmh_X10 rfl (Or.inr ⟨RX11, List.mem_of_getElem? (i := 9) rfl⟩) (by decide) (by decide) (fun _ => rfl) rfl rfl rfl rfl rfl rfl rfl rfl rfl rfl ?_
  exact g_rt G dX2_init_4 rfl
def hn_X0_init_c0 : List AE := [.inr (0, [.ref 1, .int 0, .int 0, .int 0]), .inl (0, 20, .inl (fun _ => 0))]
set_option maxHeartbeats 4000000 in
set_option maxRecDepth 100000 in
theorem n_X0_init_c0 (l : Launch) : NC l jX0_init [] (.inr (0, [.null, .int 0, .int 0, .int 0])) (hn_X0_init_c0) 2 := by
  refine NC_of mt_X0_init (by decide +kernel) rfl (Nat.le_of_ble_eq_true rfl) (fun _ => rfl) ?_
  intro p e R s m args below meth c Q D tc b G
  refine g_al G dX0_init_0 rfl ?_
  refine g_ct (pre := []) (c0 := .inr (0, [.null, .int 0, .int 0, .int 0])) G 0 [.inr (0, [.ref 1, .int 0, .int 0, .int 0]), .inl (0, 20, .inl (fun _ => 0))] dX0_init_1 (n_X10_init_c0 l) mt_X10_init cw_X10_init rfl z_5 z_6 nmh_X10 rfl (Or.inr ⟨RX11, List.mem_of_getElem? (i := 11) rfl⟩) (by decide) (by decide) (fun _ => rfl) rfl rfl rfl rfl rfl rfl rfl rfl rfl rfl ?_
  exact g_rt G dX0_init_4 rfl
def hn_X0_init_c9 : List AE := [.inr (9, [.ref 1, .int 0, .int 0, .int 0]), .inl (0, 20, .inl (fun _ => 0))]
set_option maxHeartbeats 4000000 in
set_option maxRecDepth 100000 in
theorem n_X0_init_c9 (l : Launch) : NC l jX0_init [] (.inr (9, [.null, .int 0, .int 0, .int 0])) (hn_X0_init_c9) 2 := by
  refine NC_of mt_X0_init (by decide +kernel) rfl (Nat.le_of_ble_eq_true rfl) (fun _ => rfl) ?_
  intro p e R s m args below meth c Q D tc b G
  refine g_al G dX0_init_0 rfl ?_
  refine g_ct (pre := []) (c0 := .inr (9, [.null, .int 0, .int 0, .int 0])) G 0 [.inr (9, [.ref 1, .int 0, .int 0, .int 0]), .inl (0, 20, .inl (fun _ => 0))] dX0_init_1 (n_X10_init_c9 l) mt_X10_init cw_X10_init rfl z_5 z_6 nmh_X10 rfl (Or.inr ⟨RX11, List.mem_of_getElem? (i := 11) rfl⟩) (by decide) (by decide) (fun _ => rfl) rfl rfl rfl rfl rfl rfl rfl rfl rfl rfl ?_
  exact g_rt G dX0_init_4 rfl
def hn_X5_init : List AE := [.inr (5, [.ref 1, .int 0, .int 0, .int 0]), .inl (0, 20, .inl (fun _ => 0))]
set_option maxHeartbeats 4000000 in
set_option maxRecDepth 100000 in
theorem n_X5_init (l : Launch) : NC l jX5_init [] (.inr (5, [.null, .int 0, .int 0, .int 0])) (hn_X5_init) 3 := by
  refine NC_of mt_X5_init (by decide +kernel) rfl (Nat.le_of_ble_eq_true rfl) (fun _ => rfl) ?_
  intro p e R s m args below meth c Q D tc b G
  refine g_al G dX5_init_0 rfl ?_
  refine g_ct (pre := []) (c0 := .inr (5, [.null, .int 0, .int 0, .int 0])) G 0 [.inr (5, [.ref 1, .int 0, .int 0, .int 0]), .inl (0, 20, .inl (fun _ => 0))] dX5_init_1 (n_X3_init_c5 l) mt_X3_init cw_X3_init rfl z_7 z_8 nmh_X3 rfl (Or.inr ⟨RX11, List.mem_of_getElem? (i := 13) rfl⟩) (by decide) (by decide) (fun _ => rfl) rfl rfl rfl rfl rfl rfl rfl rfl rfl rfl ?_
  exact g_rt G dX5_init_4 rfl
def hn_X6_init : List AE := [.inr (6, [.ref 1, .int 0, .int 0, .int 0]), .inl (0, 20, .inl (fun _ => 0))]
set_option maxHeartbeats 4000000 in
set_option maxRecDepth 100000 in
theorem n_X6_init (l : Launch) : NC l jX6_init [] (.inr (6, [.null, .int 0, .int 0, .int 0])) (hn_X6_init) 3 := by
  refine NC_of mt_X6_init (by decide +kernel) rfl (Nat.le_of_ble_eq_true rfl) (fun _ => rfl) ?_
  intro p e R s m args below meth c Q D tc b G
  refine g_al G dX6_init_0 rfl ?_
  refine g_ct (pre := []) (c0 := .inr (6, [.null, .int 0, .int 0, .int 0])) G 0 [.inr (6, [.ref 1, .int 0, .int 0, .int 0]), .inl (0, 20, .inl (fun _ => 0))] dX6_init_1 (n_X2_init_c6 l) mt_X2_init cw_X2_init rfl z_9 z_10 nmh_X2 rfl (Or.inr ⟨RX11, List.mem_of_getElem? (i := 15) rfl⟩) (by decide) (by decide) (fun _ => rfl) rfl rfl rfl rfl rfl rfl rfl rfl rfl rfl ?_
  exact g_rt G dX6_init_4 rfl
def hn_X9_init : List AE := [.inr (9, [.ref 1, .int 0, .int 0, .int 0]), .inl (0, 20, .inl (fun _ => 0))]
set_option maxHeartbeats 4000000 in
set_option maxRecDepth 100000 in
theorem n_X9_init (l : Launch) : NC l jX9_init [] (.inr (9, [.null, .int 0, .int 0, .int 0])) (hn_X9_init) 3 := by
  refine NC_of mt_X9_init (by decide +kernel) rfl (Nat.le_of_ble_eq_true rfl) (fun _ => rfl) ?_
  intro p e R s m args below meth c Q D tc b G
  refine g_al G dX9_init_0 rfl ?_
  refine g_ct (pre := []) (c0 := .inr (9, [.null, .int 0, .int 0, .int 0])) G 0 [.inr (9, [.ref 1, .int 0, .int 0, .int 0]), .inl (0, 20, .inl (fun _ => 0))] dX9_init_1 (n_X0_init_c9 l) mt_X0_init cw_X0_init rfl z_11 z_12 nmh_X0 rfl (Or.inr ⟨RX11, List.mem_of_getElem? (i := 17) rfl⟩) (by decide) (by decide) (fun _ => rfl) rfl rfl rfl rfl rfl rfl rfl rfl rfl rfl ?_
  exact g_rt G dX9_init_4 rfl
def hn_X8_init (x0 : Int32) : List AE := [.inr (8, [.ref 1, .int (if nI 8 < x0 then nI 8 else x0), .int 0]), .inl (0, 32, .inl (fun _ => 0))]
set_option maxHeartbeats 4000000 in
set_option maxRecDepth 100000 in
theorem n_X8_init (l : Launch) (x0 : Int32) : NC l jX8_init [.int x0] (.inr (8, [.null, .int 0, .int 0])) (hn_X8_init x0) 1 := by
  refine NC_of mt_X8_init (by decide +kernel) rfl (Nat.le_of_ble_eq_true rfl) (fun _ => rfl) ?_
  intro p e R s m args below meth c Q D tc b G
  refine g_al G dX8_init_0 rfl ?_
  refine g_oi G dX8_init_1 z_13 z_1 z_2 rfl (by decide) ?_
  refine g_al G dX8_init_4 rfl ?_
  refine g_bi G (nI 32) dX8_init_5 (by decide) ?_
  refine g_na G 32 0 .int [.inr (8, [.null, .int 0, .int 0]), .inl (0, 32, .inl (fun _ => 0))] dX8_init_7 rfl rfl rfl (fun _ z => z) z_3 (by decide) (nI_clamp (by decide)) rfl rfl rfl rfl ?_
  refine g_pu (ci := 8) (C := RX8) (F := TX8) (Nf := 3) (k := 0) G [.inr (8, [.ref 1, .int 0, .int 0]), .inl (0, 32, .inl (fun _ => 0))] dX8_init_9 rfl rfl (by decide) (by decide) z_14 (tyX8_ok 0 (by decide)) (fun _ => ⟨rfl, rfl⟩) (Or.inr ⟨rfl, rfl⟩) rfl ?_
  refine g_al G dX8_init_12 rfl ?_
  refine g_il G dX8_init_13 rfl ?_
  refine g_bi G (nI 8) dX8_init_14 (by decide) ?_
  refine g_mn G dX8_init_16 z_15 z_16 z_17 z_18 rfl (by decide) rfl rfl ?_
  refine g_pu (ci := 8) (C := RX8) (F := TX8) (Nf := 3) (k := 1) G [.inr (8, [.ref 1, .int (if nI 8 < x0 then nI 8 else x0), .int 0]), .inl (0, 32, .inl (fun _ => 0))] dX8_init_19 rfl rfl (by decide) (by decide) z_19 (tyX8_ok 1 (by decide)) (fun _ => ⟨rfl, rfl⟩) (Or.inr ⟨rfl, rfl⟩) rfl ?_
  exact g_rt G dX8_init_22 rfl
def hn_X4_init : List AE := [.inr (4, [.ref 1, .int 0, .int (nI 4), .int (nI 6), .null, .int 0, .int 0, .int 0, .int 0, .int 0]), .inl (0, 100, .inl (fun _ => 0))]
set_option maxHeartbeats 4000000 in
set_option maxRecDepth 100000 in
theorem n_X4_init (l : Launch) : NC l jX4_init [] (.inr (4, [.null, .int 0, .int 0, .int 0, .null, .int 0, .int 0, .int 0, .int 0, .int 0])) (hn_X4_init) 1 := by
  refine NC_of mt_X4_init (by decide +kernel) rfl (Nat.le_of_ble_eq_true rfl) (fun _ => rfl) ?_
  intro p e R s m args below meth c Q D tc b G
  refine g_al G dX4_init_0 rfl ?_
  refine g_oi G dX4_init_1 z_20 z_1 z_2 rfl (by decide) ?_
  refine g_al G dX4_init_4 rfl ?_
  refine g_bi G (nI 100) dX4_init_5 (by decide) ?_
  refine g_na G 100 0 .int [.inr (4, [.null, .int 0, .int 0, .int 0, .null, .int 0, .int 0, .int 0, .int 0, .int 0]), .inl (0, 100, .inl (fun _ => 0))] dX4_init_7 rfl rfl rfl (fun _ z => z) z_3 (by decide) (nI_clamp (by decide)) rfl rfl rfl rfl ?_
  refine g_pu (ci := 4) (C := RX4) (F := TX4) (Nf := 10) (k := 0) G [.inr (4, [.ref 1, .int 0, .int 0, .int 0, .null, .int 0, .int 0, .int 0, .int 0, .int 0]), .inl (0, 100, .inl (fun _ => 0))] dX4_init_9 rfl rfl (by decide) (by decide) z_21 (tyX4_ok 0 (by decide)) (fun _ => ⟨rfl, rfl⟩) (Or.inr ⟨rfl, rfl⟩) rfl ?_
  refine g_al G dX4_init_12 rfl ?_
  refine g_ic G (nI 4) dX4_init_13 (by decide) ?_
  refine g_pu (ci := 4) (C := RX4) (F := TX4) (Nf := 10) (k := 2) G [.inr (4, [.ref 1, .int 0, .int (nI 4), .int 0, .null, .int 0, .int 0, .int 0, .int 0, .int 0]), .inl (0, 100, .inl (fun _ => 0))] dX4_init_14 rfl rfl (by decide) (by decide) z_22 (tyX4_ok 2 (by decide)) (fun _ => ⟨rfl, rfl⟩) (Or.inl rfl) rfl ?_
  refine g_al G dX4_init_17 rfl ?_
  refine g_bi G (nI 6) dX4_init_18 (by decide) ?_
  refine g_pu (ci := 4) (C := RX4) (F := TX4) (Nf := 10) (k := 3) G [.inr (4, [.ref 1, .int 0, .int (nI 4), .int (nI 6), .null, .int 0, .int 0, .int 0, .int 0, .int 0]), .inl (0, 100, .inl (fun _ => 0))] dX4_init_20 rfl rfl (by decide) (by decide) z_23 (tyX4_ok 3 (by decide)) (fun _ => ⟨rfl, rfl⟩) (Or.inl rfl) rfl ?_
  exact g_rt G dX4_init_23 rfl
def hn_X7_init : List AE := [.inr (7, [.ref 1, .ref 2, .ref 3, .ref 4, .ref 5, .int 0, .int 0, .int 0, .ref 6, .int 0, .int 0, .ref 7, .ref 9, .ref 11]), .inl (0, 6, .inl (fun _ => 0)), .inl (0, 6, .inl (fun _ => 0)), .inl (0, 6, .inl (fun _ => 0)), .inl (0, 24, .inl (fun _ => 0)), .inl (0, 4, .inl (upd (upd (upd (upd (fun _ => 0) (nI 0).toNatClampNeg (nI 8)) (nI 1).toNatClampNeg (nI 8)) (nI 2).toNatClampNeg (nI 8)) (nI 3).toNatClampNeg (nI 8))), .inl (1, 100, .inl (fun _ => 0)), .inr (8, [.ref 8, .int (if nI 8 < nI 5 then nI 8 else nI 5), .int 0]), .inl (0, 32, .inl (fun _ => 0)), .inr (8, [.ref 10, .int (if nI 8 < nI 8 then nI 8 else nI 8), .int 0]), .inl (0, 32, .inl (fun _ => 0)), .inr (8, [.ref 12, .int (if nI 8 < nI 8 then nI 8 else nI 8), .int 0]), .inl (0, 32, .inl (fun _ => 0))]
set_option maxHeartbeats 4000000 in
set_option maxRecDepth 100000 in
theorem n_X7_init (l : Launch) : NC l jX7_init [] (.inr (7, [.null, .null, .null, .null, .null, .int 0, .int 0, .int 0, .null, .int 0, .int 0, .null, .null, .null])) (hn_X7_init) 2 := by
  refine NC_of mt_X7_init (by decide +kernel) rfl (Nat.le_of_ble_eq_true rfl) (fun _ => rfl) ?_
  intro p e R s m args below meth c Q D tc b G
  refine g_al G dX7_init_0 rfl ?_
  refine g_oi G dX7_init_1 z_24 z_1 z_2 rfl (by decide) ?_
  refine g_al G dX7_init_4 rfl ?_
  refine g_bi G (nI 6) dX7_init_5 (by decide) ?_
  refine g_na G 6 0 .int [.inr (7, [.null, .null, .null, .null, .null, .int 0, .int 0, .int 0, .null, .int 0, .int 0, .null, .null, .null]), .inl (0, 6, .inl (fun _ => 0))] dX7_init_7 rfl rfl rfl (fun _ z => z) z_3 (by decide) (nI_clamp (by decide)) rfl rfl rfl rfl ?_
  refine g_pu (ci := 7) (C := RX7) (F := TX7) (Nf := 14) (k := 0) G [.inr (7, [.ref 1, .null, .null, .null, .null, .int 0, .int 0, .int 0, .null, .int 0, .int 0, .null, .null, .null]), .inl (0, 6, .inl (fun _ => 0))] dX7_init_9 rfl rfl (by decide) (by decide) z_25 (tyX7_ok 0 (by decide)) (fun _ => ⟨rfl, rfl⟩) (Or.inr ⟨rfl, rfl⟩) rfl ?_
  refine g_al G dX7_init_12 rfl ?_
  refine g_bi G (nI 6) dX7_init_13 (by decide) ?_
  refine g_na G 6 0 .int [.inr (7, [.ref 1, .null, .null, .null, .null, .int 0, .int 0, .int 0, .null, .int 0, .int 0, .null, .null, .null]), .inl (0, 6, .inl (fun _ => 0)), .inl (0, 6, .inl (fun _ => 0))] dX7_init_15 rfl rfl rfl (fun _ z => z) z_3 (by decide) (nI_clamp (by decide)) rfl rfl rfl rfl ?_
  refine g_pu (ci := 7) (C := RX7) (F := TX7) (Nf := 14) (k := 1) G [.inr (7, [.ref 1, .ref 2, .null, .null, .null, .int 0, .int 0, .int 0, .null, .int 0, .int 0, .null, .null, .null]), .inl (0, 6, .inl (fun _ => 0)), .inl (0, 6, .inl (fun _ => 0))] dX7_init_17 rfl rfl (by decide) (by decide) z_26 (tyX7_ok 1 (by decide)) (fun _ => ⟨rfl, rfl⟩) (Or.inr ⟨rfl, rfl⟩) rfl ?_
  refine g_al G dX7_init_20 rfl ?_
  refine g_bi G (nI 6) dX7_init_21 (by decide) ?_
  refine g_na G 6 0 .int [.inr (7, [.ref 1, .ref 2, .null, .null, .null, .int 0, .int 0, .int 0, .null, .int 0, .int 0, .null, .null, .null]), .inl (0, 6, .inl (fun _ => 0)), .inl (0, 6, .inl (fun _ => 0)), .inl (0, 6, .inl (fun _ => 0))] dX7_init_23 rfl rfl rfl (fun _ z => z) z_3 (by decide) (nI_clamp (by decide)) rfl rfl rfl rfl ?_
  refine g_pu (ci := 7) (C := RX7) (F := TX7) (Nf := 14) (k := 2) G [.inr (7, [.ref 1, .ref 2, .ref 3, .null, .null, .int 0, .int 0, .int 0, .null, .int 0, .int 0, .null, .null, .null]), .inl (0, 6, .inl (fun _ => 0)), .inl (0, 6, .inl (fun _ => 0)), .inl (0, 6, .inl (fun _ => 0))] dX7_init_25 rfl rfl (by decide) (by decide) z_27 (tyX7_ok 2 (by decide)) (fun _ => ⟨rfl, rfl⟩) (Or.inr ⟨rfl, rfl⟩) rfl ?_
  refine g_al G dX7_init_28 rfl ?_
  refine g_bi G (nI 24) dX7_init_29 (by decide) ?_
  refine g_na G 24 0 .int [.inr (7, [.ref 1, .ref 2, .ref 3, .null, .null, .int 0, .int 0, .int 0, .null, .int 0, .int 0, .null, .null, .null]), .inl (0, 6, .inl (fun _ => 0)), .inl (0, 6, .inl (fun _ => 0)), .inl (0, 6, .inl (fun _ => 0)), .inl (0, 24, .inl (fun _ => 0))] dX7_init_31 rfl rfl rfl (fun _ z => z) z_3 (by decide) (nI_clamp (by decide)) rfl rfl rfl rfl ?_
  refine g_pu (ci := 7) (C := RX7) (F := TX7) (Nf := 14) (k := 3) G [.inr (7, [.ref 1, .ref 2, .ref 3, .ref 4, .null, .int 0, .int 0, .int 0, .null, .int 0, .int 0, .null, .null, .null]), .inl (0, 6, .inl (fun _ => 0)), .inl (0, 6, .inl (fun _ => 0)), .inl (0, 6, .inl (fun _ => 0)), .inl (0, 24, .inl (fun _ => 0))] dX7_init_33 rfl rfl (by decide) (by decide) z_28 (tyX7_ok 3 (by decide)) (fun _ => ⟨rfl, rfl⟩) (Or.inr ⟨rfl, rfl⟩) rfl ?_
  refine g_al G dX7_init_36 rfl ?_
  refine g_ic G (nI 4) dX7_init_37 (by decide) ?_
  refine g_na G 4 0 .int [.inr (7, [.ref 1, .ref 2, .ref 3, .ref 4, .null, .int 0, .int 0, .int 0, .null, .int 0, .int 0, .null, .null, .null]), .inl (0, 6, .inl (fun _ => 0)), .inl (0, 6, .inl (fun _ => 0)), .inl (0, 6, .inl (fun _ => 0)), .inl (0, 24, .inl (fun _ => 0)), .inl (0, 4, .inl (fun _ => 0))] dX7_init_38 rfl rfl rfl (fun _ z => z) z_3 (by decide) (nI_clamp (by decide)) rfl rfl rfl rfl ?_
  refine g_du G dX7_init_40 rfl ?_
  refine g_ic G (nI 0) dX7_init_41 (by decide) ?_
  refine g_bi G (nI 8) dX7_init_42 (by decide) ?_
  refine g_si_a G [.inr (7, [.ref 1, .ref 2, .ref 3, .ref 4, .null, .int 0, .int 0, .int 0, .null, .int 0, .int 0, .null, .null, .null]), .inl (0, 6, .inl (fun _ => 0)), .inl (0, 6, .inl (fun _ => 0)), .inl (0, 6, .inl (fun _ => 0)), .inl (0, 24, .inl (fun _ => 0)), .inl (0, 4, .inl (upd (fun _ => 0) (nI 0).toNatClampNeg (nI 8)))] dX7_init_44 rfl (vp_in_nI (by decide) (by decide)) rfl ?_
  refine g_du G dX7_init_45 rfl ?_
  refine g_ic G (nI 1) dX7_init_46 (by decide) ?_
  refine g_bi G (nI 8) dX7_init_47 (by decide) ?_
  refine g_si_a G [.inr (7, [.ref 1, .ref 2, .ref 3, .ref 4, .null, .int 0, .int 0, .int 0, .null, .int 0, .int 0, .null, .null, .null]), .inl (0, 6, .inl (fun _ => 0)), .inl (0, 6, .inl (fun _ => 0)), .inl (0, 6, .inl (fun _ => 0)), .inl (0, 24, .inl (fun _ => 0)), .inl (0, 4, .inl (upd (upd (fun _ => 0) (nI 0).toNatClampNeg (nI 8)) (nI 1).toNatClampNeg (nI 8)))] dX7_init_49 rfl (vp_in_nI (by decide) (by decide)) rfl ?_
  refine g_du G dX7_init_50 rfl ?_
  refine g_ic G (nI 2) dX7_init_51 (by decide) ?_
  refine g_bi G (nI 8) dX7_init_52 (by decide) ?_
  refine g_si_a G [.inr (7, [.ref 1, .ref 2, .ref 3, .ref 4, .null, .int 0, .int 0, .int 0, .null, .int 0, .int 0, .null, .null, .null]), .inl (0, 6, .inl (fun _ => 0)), .inl (0, 6, .inl (fun _ => 0)), .inl (0, 6, .inl (fun _ => 0)), .inl (0, 24, .inl (fun _ => 0)), .inl (0, 4, .inl (upd (upd (upd (fun _ => 0) (nI 0).toNatClampNeg (nI 8)) (nI 1).toNatClampNeg (nI 8)) (nI 2).toNatClampNeg (nI 8)))] dX7_init_54 rfl (vp_in_nI (by decide) (by decide)) rfl ?_
  refine g_du G dX7_init_55 rfl ?_
  refine g_ic G (nI 3) dX7_init_56 (by decide) ?_
  refine g_bi G (nI 8) dX7_init_57 (by decide) ?_
  refine g_si_a G [.inr (7, [.ref 1, .ref 2, .ref 3, .ref 4, .null, .int 0, .int 0, .int 0, .null, .int 0, .int 0, .null, .null, .null]), .inl (0, 6, .inl (fun _ => 0)), .inl (0, 6, .inl (fun _ => 0)), .inl (0, 6, .inl (fun _ => 0)), .inl (0, 24, .inl (fun _ => 0)), .inl (0, 4, .inl (upd (upd (upd (upd (fun _ => 0) (nI 0).toNatClampNeg (nI 8)) (nI 1).toNatClampNeg (nI 8)) (nI 2).toNatClampNeg (nI 8)) (nI 3).toNatClampNeg (nI 8)))] dX7_init_59 rfl (vp_in_nI (by decide) (by decide)) rfl ?_
  refine g_pu (ci := 7) (C := RX7) (F := TX7) (Nf := 14) (k := 4) G [.inr (7, [.ref 1, .ref 2, .ref 3, .ref 4, .ref 5, .int 0, .int 0, .int 0, .null, .int 0, .int 0, .null, .null, .null]), .inl (0, 6, .inl (fun _ => 0)), .inl (0, 6, .inl (fun _ => 0)), .inl (0, 6, .inl (fun _ => 0)), .inl (0, 24, .inl (fun _ => 0)), .inl (0, 4, .inl (upd (upd (upd (upd (fun _ => 0) (nI 0).toNatClampNeg (nI 8)) (nI 1).toNatClampNeg (nI 8)) (nI 2).toNatClampNeg (nI 8)) (nI 3).toNatClampNeg (nI 8)))] dX7_init_60 rfl rfl (by decide) (by decide) z_29 (tyX7_ok 4 (by decide)) (fun _ => ⟨rfl, rfl⟩) (Or.inr ⟨rfl, rfl⟩) rfl ?_
  refine g_al G dX7_init_63 rfl ?_
  refine g_bi G (nI 100) dX7_init_64 (by decide) ?_
  refine g_na G 100 1 .byte [.inr (7, [.ref 1, .ref 2, .ref 3, .ref 4, .ref 5, .int 0, .int 0, .int 0, .null, .int 0, .int 0, .null, .null, .null]), .inl (0, 6, .inl (fun _ => 0)), .inl (0, 6, .inl (fun _ => 0)), .inl (0, 6, .inl (fun _ => 0)), .inl (0, 24, .inl (fun _ => 0)), .inl (0, 4, .inl (upd (upd (upd (upd (fun _ => 0) (nI 0).toNatClampNeg (nI 8)) (nI 1).toNatClampNeg (nI 8)) (nI 2).toNatClampNeg (nI 8)) (nI 3).toNatClampNeg (nI 8))), .inl (1, 100, .inl (fun _ => 0))] dX7_init_66 rfl rfl rfl (fun _ z => z) z_30 (by decide) (nI_clamp (by decide)) rfl rfl rfl rfl ?_
  refine g_pu (ci := 7) (C := RX7) (F := TX7) (Nf := 14) (k := 8) G [.inr (7, [.ref 1, .ref 2, .ref 3, .ref 4, .ref 5, .int 0, .int 0, .int 0, .ref 6, .int 0, .int 0, .null, .null, .null]), .inl (0, 6, .inl (fun _ => 0)), .inl (0, 6, .inl (fun _ => 0)), .inl (0, 6, .inl (fun _ => 0)), .inl (0, 24, .inl (fun _ => 0)), .inl (0, 4, .inl (upd (upd (upd (upd (fun _ => 0) (nI 0).toNatClampNeg (nI 8)) (nI 1).toNatClampNeg (nI 8)) (nI 2).toNatClampNeg (nI 8)) (nI 3).toNatClampNeg (nI 8))), .inl (1, 100, .inl (fun _ => 0))] dX7_init_68 rfl rfl (by decide) (by decide) z_31 (tyX7_ok 8 (by decide)) (fun _ => ⟨rfl, rfl⟩) (Or.inr ⟨rfl, rfl⟩) rfl ?_
  refine g_al G dX7_init_71 rfl ?_
  refine g_nw (ci := 8) (C := RX8) (F := TX8) (Nf := 3) G tyX8 [.inr (7, [.ref 1, .ref 2, .ref 3, .ref 4, .ref 5, .int 0, .int 0, .int 0, .ref 6, .int 0, .int 0, .null, .null, .null]), .inl (0, 6, .inl (fun _ => 0)), .inl (0, 6, .inl (fun _ => 0)), .inl (0, 6, .inl (fun _ => 0)), .inl (0, 24, .inl (fun _ => 0)), .inl (0, 4, .inl (upd (upd (upd (upd (fun _ => 0) (nI 0).toNatClampNeg (nI 8)) (nI 1).toNatClampNeg (nI 8)) (nI 2).toNatClampNeg (nI 8)) (nI 3).toNatClampNeg (nI 8))), .inl (1, 100, .inl (fun _ => 0)), .inr (8, [.null, .int 0, .int 0])] dX7_init_72 rfl tyX8_ok z_32 z_33 z_34 (fun _ => rfl) rfl (fun j hj => by rcases (show j = 0 ∨ j = 1 ∨ j = 2 by omega) with rfl | rfl | rfl <;> rfl) rfl rfl rfl ?_
  refine g_du G dX7_init_75 rfl ?_
  refine g_ic G (nI 5) dX7_init_76 (by decide) ?_
  refine g_ct (pre := [.inr (7, [.ref 1, .ref 2, .ref 3, .ref 4, .ref 5, .int 0, .int 0, .int 0, .ref 6, .int 0, .int 0, .null, .null, .null]), .inl (0, 6, .inl (fun _ => 0)), .inl (0, 6, .inl (fun _ => 0)), .inl (0, 6, .inl (fun _ => 0)), .inl (0, 24, .inl (fun _ => 0)), .inl (0, 4, .inl (upd (upd (upd (upd (fun _ => 0) (nI 0).toNatClampNeg (nI 8)) (nI 1).toNatClampNeg (nI 8)) (nI 2).toNatClampNeg (nI 8)) (nI 3).toNatClampNeg (nI 8))), .inl (1, 100, .inl (fun _ => 0))]) (c0 := .inr (8, [.null, .int 0, .int 0])) G 7 [.inr (7, [.ref 1, .ref 2, .ref 3, .ref 4, .ref 5, .int 0, .int 0, .int 0, .ref 6, .int 0, .int 0, .null, .null, .null]), .inl (0, 6, .inl (fun _ => 0)), .inl (0, 6, .inl (fun _ => 0)), .inl (0, 6, .inl (fun _ => 0)), .inl (0, 24, .inl (fun _ => 0)), .inl (0, 4, .inl (upd (upd (upd (upd (fun _ => 0) (nI 0).toNatClampNeg (nI 8)) (nI 1).toNatClampNeg (nI 8)) (nI 2).toNatClampNeg (nI 8)) (nI 3).toNatClampNeg (nI 8))), .inl (1, 100, .inl (fun _ => 0)), .inr (8, [.ref 8, .int (if nI 8 < nI 5 then nI 8 else nI 5), .int 0]), .inl (0, 32, .inl (fun _ => 0))] dX7_init_77 (n_X8_init l (nI 5)) mt_X8_init cw_X8_init rfl z_36 z_34 nmh_X8 rfl (Or.inl z_35) (by decide) (by decide) (fun _ => rfl) rfl rfl rfl rfl rfl rfl rfl rfl rfl rfl ?_
  refine g_pu (ci := 7) (C := RX7) (F := TX7) (Nf := 14) (k := 11) G [.inr (7, [.ref 1, .ref 2, .ref 3, .ref 4, .ref 5, .int 0, .int 0, .int 0, .ref 6, .int 0, .int 0, .ref 7, .null, .null]), .inl (0, 6, .inl (fun _ => 0)), .inl (0, 6, .inl (fun _ => 0)), .inl (0, 6, .inl (fun _ => 0)), .inl (0, 24, .inl (fun _ => 0)), .inl (0, 4, .inl (upd (upd (upd (upd (fun _ => 0) (nI 0).toNatClampNeg (nI 8)) (nI 1).toNatClampNeg (nI 8)) (nI 2).toNatClampNeg (nI 8)) (nI 3).toNatClampNeg (nI 8))), .inl (1, 100, .inl (fun _ => 0)), .inr (8, [.ref 8, .int (if nI 8 < nI 5 then nI 8 else nI 5), .int 0]), .inl (0, 32, .inl (fun _ => 0))] dX7_init_80 rfl rfl (by decide) (by decide) z_37 (tyX7_ok 11 (by decide)) (fun _ => ⟨rfl, rfl⟩) (Or.inr ⟨rfl, rfl⟩) rfl ?_
  refine g_al G dX7_init_83 rfl ?_
  refine g_nw (ci := 8) (C := RX8) (F := TX8) (Nf := 3) G tyX8 [.inr (7, [.ref 1, .ref 2, .ref 3, .ref 4, .ref 5, .int 0, .int 0, .int 0, .ref 6, .int 0, .int 0, .ref 7, .null, .null]), .inl (0, 6, .inl (fun _ => 0)), .inl (0, 6, .inl (fun _ => 0)), .inl (0, 6, .inl (fun _ => 0)), .inl (0, 24, .inl (fun _ => 0)), .inl (0, 4, .inl (upd (upd (upd (upd (fun _ => 0) (nI 0).toNatClampNeg (nI 8)) (nI 1).toNatClampNeg (nI 8)) (nI 2).toNatClampNeg (nI 8)) (nI 3).toNatClampNeg (nI 8))), .inl (1, 100, .inl (fun _ => 0)), .inr (8, [.ref 8, .int (if nI 8 < nI 5 then nI 8 else nI 5), .int 0]), .inl (0, 32, .inl (fun _ => 0)), .inr (8, [.null, .int 0, .int 0])] dX7_init_84 rfl tyX8_ok z_32 z_33 z_34 (fun _ => rfl) rfl (fun j hj => by rcases (show j = 0 ∨ j = 1 ∨ j = 2 by omega) with rfl | rfl | rfl <;> rfl) rfl rfl rfl ?_
  refine g_du G dX7_init_87 rfl ?_
  refine g_bi G (nI 8) dX7_init_88 (by decide) ?_
  refine g_ct (pre := [.inr (7, [.ref 1, .ref 2, .ref 3, .ref 4, .ref 5, .int 0, .int 0, .int 0, .ref 6, .int 0, .int 0, .ref 7, .null, .null]), .inl (0, 6, .inl (fun _ => 0)), .inl (0, 6, .inl (fun _ => 0)), .inl (0, 6, .inl (fun _ => 0)), .inl (0, 24, .inl (fun _ => 0)), .inl (0, 4, .inl (upd (upd (upd (upd (fun _ => 0) (nI 0).toNatClampNeg (nI 8)) (nI 1).toNatClampNeg (nI 8)) (nI 2).toNatClampNeg (nI 8)) (nI 3).toNatClampNeg (nI 8))), .inl (1, 100, .inl (fun _ => 0)), .inr (8, [.ref 8, .int (if nI 8 < nI 5 then nI 8 else nI 5), .int 0]), .inl (0, 32, .inl (fun _ => 0))]) (c0 := .inr (8, [.null, .int 0, .int 0])) G 9 [.inr (7, [.ref 1, .ref 2, .ref 3, .ref 4, .ref 5, .int 0, .int 0, .int 0, .ref 6, .int 0, .int 0, .ref 7, .null, .null]), .inl (0, 6, .inl (fun _ => 0)), .inl (0, 6, .inl (fun _ => 0)), .inl (0, 6, .inl (fun _ => 0)), .inl (0, 24, .inl (fun _ => 0)), .inl (0, 4, .inl (upd (upd (upd (upd (fun _ => 0) (nI 0).toNatClampNeg (nI 8)) (nI 1).toNatClampNeg (nI 8)) (nI 2).toNatClampNeg (nI 8)) (nI 3).toNatClampNeg (nI 8))), .inl (1, 100, .inl (fun _ => 0)), .inr (8, [.ref 8, .int (if nI 8 < nI 5 then nI 8 else nI 5), .int 0]), .inl (0, 32, .inl (fun _ => 0)), .inr (8, [.ref 10, .int (if nI 8 < nI 8 then nI 8 else nI 8), .int 0]), .inl (0, 32, .inl (fun _ => 0))] dX7_init_90 (n_X8_init l (nI 8)) mt_X8_init cw_X8_init rfl z_36 z_34 nmh_X8 rfl (Or.inl z_35) (by decide) (by decide) (fun _ => rfl) rfl rfl rfl rfl rfl rfl rfl rfl rfl rfl ?_
  refine g_pu (ci := 7) (C := RX7) (F := TX7) (Nf := 14) (k := 12) G [.inr (7, [.ref 1, .ref 2, .ref 3, .ref 4, .ref 5, .int 0, .int 0, .int 0, .ref 6, .int 0, .int 0, .ref 7, .ref 9, .null]), .inl (0, 6, .inl (fun _ => 0)), .inl (0, 6, .inl (fun _ => 0)), .inl (0, 6, .inl (fun _ => 0)), .inl (0, 24, .inl (fun _ => 0)), .inl (0, 4, .inl (upd (upd (upd (upd (fun _ => 0) (nI 0).toNatClampNeg (nI 8)) (nI 1).toNatClampNeg (nI 8)) (nI 2).toNatClampNeg (nI 8)) (nI 3).toNatClampNeg (nI 8))), .inl (1, 100, .inl (fun _ => 0)), .inr (8, [.ref 8, .int (if nI 8 < nI 5 then nI 8 else nI 5), .int 0]), .inl (0, 32, .inl (fun _ => 0)), .inr (8, [.ref 10, .int (if nI 8 < nI 8 then nI 8 else nI 8), .int 0]), .inl (0, 32, .inl (fun _ => 0))] dX7_init_93 rfl rfl (by decide) (by decide) z_38 (tyX7_ok 12 (by decide)) (fun _ => ⟨rfl, rfl⟩) (Or.inr ⟨rfl, rfl⟩) rfl ?_
  refine g_al G dX7_init_96 rfl ?_
  refine g_nw (ci := 8) (C := RX8) (F := TX8) (Nf := 3) G tyX8 [.inr (7, [.ref 1, .ref 2, .ref 3, .ref 4, .ref 5, .int 0, .int 0, .int 0, .ref 6, .int 0, .int 0, .ref 7, .ref 9, .null]), .inl (0, 6, .inl (fun _ => 0)), .inl (0, 6, .inl (fun _ => 0)), .inl (0, 6, .inl (fun _ => 0)), .inl (0, 24, .inl (fun _ => 0)), .inl (0, 4, .inl (upd (upd (upd (upd (fun _ => 0) (nI 0).toNatClampNeg (nI 8)) (nI 1).toNatClampNeg (nI 8)) (nI 2).toNatClampNeg (nI 8)) (nI 3).toNatClampNeg (nI 8))), .inl (1, 100, .inl (fun _ => 0)), .inr (8, [.ref 8, .int (if nI 8 < nI 5 then nI 8 else nI 5), .int 0]), .inl (0, 32, .inl (fun _ => 0)), .inr (8, [.ref 10, .int (if nI 8 < nI 8 then nI 8 else nI 8), .int 0]), .inl (0, 32, .inl (fun _ => 0)), .inr (8, [.null, .int 0, .int 0])] dX7_init_97 rfl tyX8_ok z_32 z_33 z_34 (fun _ => rfl) rfl (fun j hj => by rcases (show j = 0 ∨ j = 1 ∨ j = 2 by omega) with rfl | rfl | rfl <;> rfl) rfl rfl rfl ?_
  refine g_du G dX7_init_100 rfl ?_
  refine g_bi G (nI 8) dX7_init_101 (by decide) ?_
  refine g_ct (pre := [.inr (7, [.ref 1, .ref 2, .ref 3, .ref 4, .ref 5, .int 0, .int 0, .int 0, .ref 6, .int 0, .int 0, .ref 7, .ref 9, .null]), .inl (0, 6, .inl (fun _ => 0)), .inl (0, 6, .inl (fun _ => 0)), .inl (0, 6, .inl (fun _ => 0)), .inl (0, 24, .inl (fun _ => 0)), .inl (0, 4, .inl (upd (upd (upd (upd (fun _ => 0) (nI 0).toNatClampNeg (nI 8)) (nI 1).toNatClampNeg (nI 8)) (nI 2).toNatClampNeg (nI 8)) (nI 3).toNatClampNeg (nI 8))), .inl (1, 100, .inl (fun _ => 0)), .inr (8, [.ref 8, .int (if nI 8 < nI 5 then nI 8 else nI 5), .int 0]), .inl (0, 32, .inl (fun _ => 0)), .inr (8, [.ref 10, .int (if nI 8 < nI 8 then nI 8 else nI 8), .int 0]), .inl (0, 32, .inl (fun _ => 0))]) (c0 := .inr (8, [.null, .int 0, .int 0])) G 11 [.inr (7, [.ref 1, .ref 2, .ref 3, .ref 4, .ref 5, .int 0, .int 0, .int 0, .ref 6, .int 0, .int 0, .ref 7, .ref 9, .null]), .inl (0, 6, .inl (fun _ => 0)), .inl (0, 6, .inl (fun _ => 0)), .inl (0, 6, .inl (fun _ => 0)), .inl (0, 24, .inl (fun _ => 0)), .inl (0, 4, .inl (upd (upd (upd (upd (fun _ => 0) (nI 0).toNatClampNeg (nI 8)) (nI 1).toNatClampNeg (nI 8)) (nI 2).toNatClampNeg (nI 8)) (nI 3).toNatClampNeg (nI 8))), .inl (1, 100, .inl (fun _ => 0)), .inr (8, [.ref 8, .int (if nI 8 < nI 5 then nI 8 else nI 5), .int 0]), .inl (0, 32, .inl (fun _ => 0)), .inr (8, [.ref 10, .int (if nI 8 < nI 8 then nI 8 else nI 8), .int 0]), .inl (0, 32, .inl (fun _ => 0)), .inr (8, [.ref 12, .int (if nI 8 < nI 8 then nI 8 else nI 8), .int 0]), .inl (0, 32, .inl (fun _ => 0))] dX7_init_103 (n_X8_init l (nI 8)) mt_X8_init cw_X8_init rfl z_36 z_34 nmh_X8 rfl (Or.inl z_35) (by decide) (by decide) (fun _ => rfl) rfl rfl rfl rfl rfl rfl rfl rfl rfl rfl ?_
  refine g_pu (ci := 7) (C := RX7) (F := TX7) (Nf := 14) (k := 13) G [.inr (7, [.ref 1, .ref 2, .ref 3, .ref 4, .ref 5, .int 0, .int 0, .int 0, .ref 6, .int 0, .int 0, .ref 7, .ref 9, .ref 11]), .inl (0, 6, .inl (fun _ => 0)), .inl (0, 6, .inl (fun _ => 0)), .inl (0, 6, .inl (fun _ => 0)), .inl (0, 24, .inl (fun _ => 0)), .inl (0, 4, .inl (upd (upd (upd (upd (fun _ => 0) (nI 0).toNatClampNeg (nI 8)) (nI 1).toNatClampNeg (nI 8)) (nI 2).toNatClampNeg (nI 8)) (nI 3).toNatClampNeg (nI 8))), .inl (1, 100, .inl (fun _ => 0)), .inr (8, [.ref 8, .int (if nI 8 < nI 5 then nI 8 else nI 5), .int 0]), .inl (0, 32, .inl (fun _ => 0)), .inr (8, [.ref 10, .int (if nI 8 < nI 8 then nI 8 else nI 8), .int 0]), .inl (0, 32, .inl (fun _ => 0)), .inr (8, [.ref 12, .int (if nI 8 < nI 8 then nI 8 else nI 8), .int 0]), .inl (0, 32, .inl (fun _ => 0))] dX7_init_106 rfl rfl (by decide) (by decide) z_39 (tyX7_ok 13 (by decide)) (fun _ => ⟨rfl, rfl⟩) (Or.inr ⟨rfl, rfl⟩) rfl ?_
  exact g_rt G dX7_init_109 rfl
def hn_X1_init : List AE := [.inr (1, [.ref 1, .ref 3, .ref 16, .int 0, .int 0, .int 0, .int 0, .int 0, .int 0, .int 0, .int 0]), .inr (10, [.ref 2, .int 0, .int 0, .int 0]), .inl (0, 20, .inl (fun _ => 0)), .inl (4, 7, .inr (.inr (.inr (.inr (va_up (va_up (va_up (va_up (va_up (va_up (va_up (fun _ => none) (nI 0).toNatClampNeg (some 1)) (nI 1).toNatClampNeg (some 4)) (nI 2).toNatClampNeg (some 6)) (nI 3).toNatClampNeg (some 8)) (nI 4).toNatClampNeg (some 10)) (nI 5).toNatClampNeg (some 12)) (nI 6).toNatClampNeg (some 14)))))), .inr (3, [.ref 5, .int 0, .int 0, .int 0]), .inl (0, 20, .inl (fun _ => 0)), .inr (2, [.ref 7, .int 0, .int 0, .int 0]), .inl (0, 20, .inl (fun _ => 0)), .inr (0, [.ref 9, .int 0, .int 0, .int 0]), .inl (0, 20, .inl (fun _ => 0)), .inr (5, [.ref 11, .int 0, .int 0, .int 0]), .inl (0, 20, .inl (fun _ => 0)), .inr (6, [.ref 13, .int 0, .int 0, .int 0]), .inl (0, 20, .inl (fun _ => 0)), .inr (9, [.ref 15, .int 0, .int 0, .int 0]), .inl (0, 20, .inl (fun _ => 0)), .inl (0, 540, .inl (fun _ => 0))]
set_option maxHeartbeats 4000000 in
set_option maxRecDepth 100000 in
theorem n_X1_init (l : Launch) : NC l jX1_init [] (.inr (1, [.null, .null, .null, .int 0, .int 0, .int 0, .int 0, .int 0, .int 0, .int 0, .int 0])) (hn_X1_init) 4 := by
  refine NC_of mt_X1_init (by decide +kernel) rfl (Nat.le_of_ble_eq_true rfl) (fun _ => rfl) ?_
  intro p e R s m args below meth c Q D tc b G
  refine g_al G dX1_init_0 rfl ?_
  refine g_oi G dX1_init_1 z_40 z_1 z_2 rfl (by decide) ?_
  refine g_al G dX1_init_4 rfl ?_
  refine g_nw (ci := 10) (C := RX10) (F := TX10) (Nf := 4) G tyX10 [.inr (1, [.null, .null, .null, .int 0, .int 0, .int 0, .int 0, .int 0, .int 0, .int 0, .int 0]), .inr (10, [.null, .int 0, .int 0, .int 0])] dX1_init_5 rfl tyX10_ok z_41 z_42 z_6 (fun _ => rfl) rfl (fun j hj => by rcases (show j = 0 ∨ j = 1 ∨ j = 2 ∨ j = 3 by omega) with rfl | rfl | rfl | rfl <;> rfl) rfl rfl rfl ?_
  refine g_du G dX1_init_8 rfl ?_
  refine g_ct (pre := [.inr (1, [.null, .null, .null, .int 0, .int 0, .int 0, .int 0, .int 0, .int 0, .int 0, .int 0])]) (c0 := .inr (10, [.null, .int 0, .int 0, .int 0])) G 1 [.inr (1, [.null, .null, .null, .int 0, .int 0, .int 0, .int 0, .int 0, .int 0, .int 0, .int 0]), .inr (10, [.ref 2, .int 0, .int 0, .int 0]), .inl (0, 20, .inl (fun _ => 0))] dX1_init_9 (n_X10_init_c10 l) mt_X10_init cw_X10_init rfl z_5 z_6 nmh_X10 rfl (Or.inr ⟨RX11, List.mem_of_getElem? (i := 4) rfl⟩) (by decide) (by decide) (fun _ => rfl) rfl rfl rfl rfl rfl rfl rfl rfl rfl rfl ?_
  refine g_pu (ci := 1) (C := RX1) (F := TX1) (Nf := 11) (k := 0) G [.inr (1, [.ref 1, .null, .null, .int 0, .int 0, .int 0, .int 0, .int 0, .int 0, .int 0, .int 0]), .inr (10, [.ref 2, .int 0, .int 0, .int 0]), .inl (0, 20, .inl (fun _ => 0))] dX1_init_12 rfl rfl (by decide) (by decide) z_43 (tyX1_ok 0 (by decide)) (fun _ => ⟨rfl, rfl⟩) (Or.inr ⟨rfl, rfl⟩) rfl ?_
  refine g_al G dX1_init_15 rfl ?_
  refine g_bi G (nI 7) dX1_init_16 (by decide) ?_
  refine g_aa G 7 4 RX10 [.inr (1, [.ref 1, .null, .null, .int 0, .int 0, .int 0, .int 0, .int 0, .int 0, .int 0, .int 0]), .inr (10, [.ref 2, .int 0, .int 0, .int 0]), .inl (0, 20, .inl (fun _ => 0)), .inl (4, 7, .inr (.inr (.inr (.inr (fun _ => none)))))] dX1_init_18 rfl G.1.2.2.2.2.2.2.2.2.2 z_41 (by decide) (nI_clamp (by decide)) rfl rfl rfl rfl ?_
  refine g_du G dX1_init_21 rfl ?_
  refine g_ic G (nI 0) dX1_init_22 (by decide) ?_
  refine g_al G dX1_init_23 rfl ?_
  refine g_ge_f (ci := 1) (C := RX1) (F := TX1) (Nf := 11) (k := 0) (v := .ref 1) G dX1_init_24 rfl rfl (by decide) z_43 rfl ?_
  refine g_as G RX10 [.inr (1, [.ref 1, .null, .null, .int 0, .int 0, .int 0, .int 0, .int 0, .int 0, .int 0, .int 0]), .inr (10, [.ref 2, .int 0, .int 0, .int 0]), .inl (0, 20, .inl (fun _ => 0)), .inl (4, 7, .inr (.inr (.inr (.inr (va_up (fun _ => none) (nI 0).toNatClampNeg (some 1))))))] dX1_init_27 rfl rfl rfl rfl (Or.inl rfl) (vp_in_nI (by decide) (by decide)) rfl ?_
  refine g_du G dX1_init_28 rfl ?_
  refine g_ic G (nI 1) dX1_init_29 (by decide) ?_
  refine g_nw (ci := 3) (C := RX3) (F := TX3) (Nf := 4) G tyX3 [.inr (1, [.ref 1, .null, .null, .int 0, .int 0, .int 0, .int 0, .int 0, .int 0, .int 0, .int 0]), .inr (10, [.ref 2, .int 0, .int 0, .int 0]), .inl (0, 20, .inl (fun _ => 0)), .inl (4, 7, .inr (.inr (.inr (.inr (va_up (fun _ => none) (nI 0).toNatClampNeg (some 1)))))), .inr (3, [.null, .int 0, .int 0, .int 0])] dX1_init_30 rfl tyX3_ok z_44 z_45 z_8 (fun _ => rfl) rfl (fun j hj => by rcases (show j = 0 ∨ j = 1 ∨ j = 2 ∨ j = 3 by omega) with rfl | rfl | rfl | rfl <;> rfl) rfl rfl rfl ?_
  refine g_du G dX1_init_33 rfl ?_
  refine g_ct (pre := [.inr (1, [.ref 1, .null, .null, .int 0, .int 0, .int 0, .int 0, .int 0, .int 0, .int 0, .int 0]), .inr (10, [.ref 2, .int 0, .int 0, .int 0]), .inl (0, 20, .inl (fun _ => 0)), .inl (4, 7, .inr (.inr (.inr (.inr (va_up (fun _ => none) (nI 0).toNatClampNeg (some 1))))))]) (c0 := .inr (3, [.null, .int 0, .int 0, .int 0])) G 4 [.inr (1, [.ref 1, .null, .null, .int 0, .int 0, .int 0, .int 0, .int 0, .int 0, .int 0, .int 0]), .inr (10, [.ref 2, .int 0, .int 0, .int 0]), .inl (0, 20, .inl (fun _ => 0)), .inl (4, 7, .inr (.inr (.inr (.inr (va_up (fun _ => none) (nI 0).toNatClampNeg (some 1)))))), .inr (3, [.ref 5, .int 0, .int 0, .int 0]), .inl (0, 20, .inl (fun _ => 0))] dX1_init_34 (n_X3_init_c3 l) mt_X3_init cw_X3_init rfl z_7 z_8 nmh_X3 rfl (Or.inr ⟨RX11, List.mem_of_getElem? (i := 6) rfl⟩) (by decide) (by decide) (fun _ => rfl) rfl rfl rfl rfl rfl rfl rfl rfl rfl rfl ?_
  refine g_as G RX10 [.inr (1, [.ref 1, .null, .null, .int 0, .int 0, .int 0, .int 0, .int 0, .int 0, .int 0, .int 0]), .inr (10, [.ref 2, .int 0, .int 0, .int 0]), .inl (0, 20, .inl (fun _ => 0)), .inl (4, 7, .inr (.inr (.inr (.inr (va_up (va_up (fun _ => none) (nI 0).toNatClampNeg (some 1)) (nI 1).toNatClampNeg (some 4)))))), .inr (3, [.ref 5, .int 0, .int 0, .int 0]), .inl (0, 20, .inl (fun _ => 0))] dX1_init_37 rfl rfl rfl rfl (Or.inr (G.1.2.2.2.2.2.2.2.1 RX3 (List.mem_of_getElem? (i := 0) rfl))) (vp_in_nI (by decide) (by decide)) rfl ?_
  refine g_du G dX1_init_38 rfl ?_
  refine g_ic G (nI 2) dX1_init_39 (by decide) ?_
  refine g_nw (ci := 2) (C := RX2) (F := TX2) (Nf := 4) G tyX2 [.inr (1, [.ref 1, .null, .null, .int 0, .int 0, .int 0, .int 0, .int 0, .int 0, .int 0, .int 0]), .inr (10, [.ref 2, .int 0, .int 0, .int 0]), .inl (0, 20, .inl (fun _ => 0)), .inl (4, 7, .inr (.inr (.inr (.inr (va_up (va_up (fun _ => none) (nI 0).toNatClampNeg (some 1)) (nI 1).toNatClampNeg (some 4)))))), .inr (3, [.ref 5, .int 0, .int 0, .int 0]), .inl (0, 20, .inl (fun _ => 0)), .inr (2, [.null, .int 0, .int 0, .int 0])] dX1_init_40 rfl tyX2_ok z_46 z_47 z_10 (fun _ => rfl) rfl (fun j hj => by rcases (show j = 0 ∨ j = 1 ∨ j = 2 ∨ j = 3 by omega) with rfl | rfl | rfl | rfl <;> rfl) rfl rfl rfl ?_
  refine g_du G dX1_init_43 rfl ?_
  refine g_ct (pre := [.inr (1, [.ref 1, .null, .null, .int 0, .int 0, .int 0, .int 0, .int 0, .int 0, .int 0, .int 0]), .inr (10, [.ref 2, .int 0, .int 0, .int 0]), .inl (0, 20, .inl (fun _ => 0)), .inl (4, 7, .inr (.inr (.inr (.inr (va_up (va_up (fun _ => none) (nI 0).toNatClampNeg (some 1)) (nI 1).toNatClampNeg (some 4)))))), .inr (3, [.ref 5, .int 0, .int 0, .int 0]), .inl (0, 20, .inl (fun _ => 0))]) (c0 := .inr (2, [.null, .int 0, .int 0, .int 0])) G 6 [.inr (1, [.ref 1, .null, .null, .int 0, .int 0, .int 0, .int 0, .int 0, .int 0, .int 0, .int 0]), .inr (10, [.ref 2, .int 0, .int 0, .int 0]), .inl (0, 20, .inl (fun _ => 0)), .inl (4, 7, .inr (.inr (.inr (.inr (va_up (va_up (fun _ => none) (nI 0).toNatClampNeg (some 1)) (nI 1).toNatClampNeg (some 4)))))), .inr (3, [.ref 5, .int 0, .int 0, .int 0]), .inl (0, 20, .inl (fun _ => 0)), .inr (2, [.ref 7, .int 0, .int 0, .int 0]), .inl (0, 20, .inl (fun _ => 0))] dX1_init_44 (n_X2_init_c2 l) mt_X2_init cw_X2_init rfl z_9 z_10 nmh_X2 rfl (Or.inr ⟨RX11, List.mem_of_getElem? (i := 8) rfl⟩) (by decide) (by decide) (fun _ => rfl) rfl rfl rfl rfl rfl rfl rfl rfl rfl rfl ?_
  refine g_as G RX10 [.inr (1, [.ref 1, .null, .null, .int 0, .int 0, .int 0, .int 0, .int 0, .int 0, .int 0, .int 0]), .inr (10, [.ref 2, .int 0, .int 0, .int 0]), .inl (0, 20, .inl (fun _ => 0)), .inl (4, 7, .inr (.inr (.inr (.inr (va_up (va_up (va_up (fun _ => none) (nI 0).toNatClampNeg (some 1)) (nI 1).toNatClampNeg (some 4)) (nI 2).toNatClampNeg (some 6)))))), .inr (3, [.ref 5, .int 0, .int 0, .int 0]), .inl (0, 20, .inl (fun _ => 0)), .inr (2, [.ref 7, .int 0, .int 0, .int 0]), .inl (0, 20, .inl (fun _ => 0))] dX1_init_47 rfl rfl rfl rfl (Or.inr (G.1.2.2.2.2.2.2.2.1 RX2 (List.mem_of_getElem? (i := 1) rfl))) (vp_in_nI (by decide) (by decide)) rfl ?_
  refine g_du G dX1_init_48 rfl ?_
  refine g_ic G (nI 3) dX1_init_49 (by decide) ?_
  refine g_nw (ci := 0) (C := RX0) (F := TX0) (Nf := 4) G tyX0 [.inr (1, [.ref 1, .null, .null, .int 0, .int 0, .int 0, .int 0, .int 0, .int 0, .int 0, .int 0]), .inr (10, [.ref 2, .int 0, .int 0, .int 0]), .inl (0, 20, .inl (fun _ => 0)), .inl (4, 7, .inr (.inr (.inr (.inr (va_up (va_up (va_up (fun _ => none) (nI 0).toNatClampNeg (some 1)) (nI 1).toNatClampNeg (some 4)) (nI 2).toNatClampNeg (some 6)))))), .inr (3, [.ref 5, .int 0, .int 0, .int 0]), .inl (0, 20, .inl (fun _ => 0)), .inr (2, [.ref 7, .int 0, .int 0, .int 0]), .inl (0, 20, .inl (fun _ => 0)), .inr (0, [.null, .int 0, .int 0, .int 0])] dX1_init_50 rfl tyX0_ok z_48 z_49 z_12 (fun _ => rfl) rfl (fun j hj => by rcases (show j = 0 ∨ j = 1 ∨ j = 2 ∨ j = 3 by omega) with rfl | rfl | rfl | rfl <;> rfl) rfl rfl rfl ?_
  refine g_du G dX1_init_53 rfl ?_
  refine g_ct (pre := [.inr (1, [.ref 1, .null, .null, .int 0, .int 0, .int 0, .int 0, .int 0, .int 0, .int 0, .int 0]), .inr (10, [.ref 2, .int 0, .int 0, .int 0]), .inl (0, 20, .inl (fun _ => 0)), .inl (4, 7, .inr (.inr (.inr (.inr (va_up (va_up (va_up (fun _ => none) (nI 0).toNatClampNeg (some 1)) (nI 1).toNatClampNeg (some 4)) (nI 2).toNatClampNeg (some 6)))))), .inr (3, [.ref 5, .int 0, .int 0, .int 0]), .inl (0, 20, .inl (fun _ => 0)), .inr (2, [.ref 7, .int 0, .int 0, .int 0]), .inl (0, 20, .inl (fun _ => 0))]) (c0 := .inr (0, [.null, .int 0, .int 0, .int 0])) G 8 [.inr (1, [.ref 1, .null, .null, .int 0, .int 0, .int 0, .int 0, .int 0, .int 0, .int 0, .int 0]), .inr (10, [.ref 2, .int 0, .int 0, .int 0]), .inl (0, 20, .inl (fun _ => 0)), .inl (4, 7, .inr (.inr (.inr (.inr (va_up (va_up (va_up (fun _ => none) (nI 0).toNatClampNeg (some 1)) (nI 1).toNatClampNeg (some 4)) (nI 2).toNatClampNeg (some 6)))))), .inr (3, [.ref 5, .int 0, .int 0, .int 0]), .inl (0, 20, .inl (fun _ => 0)), .inr (2, [.ref 7, .int 0, .int 0, .int 0]), .inl (0, 20, .inl (fun _ => 0)), .inr (0, [.ref 9, .int 0, .int 0, .int 0]), .inl (0, 20, .inl (fun _ => 0))] dX1_init_54 (n_X0_init_c0 l) mt_X0_init cw_X0_init rfl z_11 z_12 nmh_X0 rfl (Or.inr ⟨RX11, List.mem_of_getElem? (i := 10) rfl⟩) (by decide) (by decide) (fun _ => rfl) rfl rfl rfl rfl rfl rfl rfl rfl rfl rfl ?_
  refine g_as G RX10 [.inr (1, [.ref 1, .null, .null, .int 0, .int 0, .int 0, .int 0, .int 0, .int 0, .int 0, .int 0]), .inr (10, [.ref 2, .int 0, .int 0, .int 0]), .inl (0, 20, .inl (fun _ => 0)), .inl (4, 7, .inr (.inr (.inr (.inr (va_up (va_up (va_up (va_up (fun _ => none) (nI 0).toNatClampNeg (some 1)) (nI 1).toNatClampNeg (some 4)) (nI 2).toNatClampNeg (some 6)) (nI 3).toNatClampNeg (some 8)))))), .inr (3, [.ref 5, .int 0, .int 0, .int 0]), .inl (0, 20, .inl (fun _ => 0)), .inr (2, [.ref 7, .int 0, .int 0, .int 0]), .inl (0, 20, .inl (fun _ => 0)), .inr (0, [.ref 9, .int 0, .int 0, .int 0]), .inl (0, 20, .inl (fun _ => 0))] dX1_init_57 rfl rfl rfl rfl (Or.inr (G.1.2.2.2.2.2.2.2.1 RX0 (List.mem_of_getElem? (i := 2) rfl))) (vp_in_nI (by decide) (by decide)) rfl ?_
  refine g_du G dX1_init_58 rfl ?_
  refine g_ic G (nI 4) dX1_init_59 (by decide) ?_
  refine g_nw (ci := 5) (C := RX5) (F := TX5) (Nf := 4) G tyX5 [.inr (1, [.ref 1, .null, .null, .int 0, .int 0, .int 0, .int 0, .int 0, .int 0, .int 0, .int 0]), .inr (10, [.ref 2, .int 0, .int 0, .int 0]), .inl (0, 20, .inl (fun _ => 0)), .inl (4, 7, .inr (.inr (.inr (.inr (va_up (va_up (va_up (va_up (fun _ => none) (nI 0).toNatClampNeg (some 1)) (nI 1).toNatClampNeg (some 4)) (nI 2).toNatClampNeg (some 6)) (nI 3).toNatClampNeg (some 8)))))), .inr (3, [.ref 5, .int 0, .int 0, .int 0]), .inl (0, 20, .inl (fun _ => 0)), .inr (2, [.ref 7, .int 0, .int 0, .int 0]), .inl (0, 20, .inl (fun _ => 0)), .inr (0, [.ref 9, .int 0, .int 0, .int 0]), .inl (0, 20, .inl (fun _ => 0)), .inr (5, [.null, .int 0, .int 0, .int 0])] dX1_init_60 rfl tyX5_ok z_50 z_51 z_52 (fun _ => rfl) rfl (fun j hj => by rcases (show j = 0 ∨ j = 1 ∨ j = 2 ∨ j = 3 by omega) with rfl | rfl | rfl | rfl <;> rfl) rfl rfl rfl ?_
  refine g_du G dX1_init_63 rfl ?_
  refine g_ct (pre := [.inr (1, [.ref 1, .null, .null, .int 0, .int 0, .int 0, .int 0, .int 0, .int 0, .int 0, .int 0]), .inr (10, [.ref 2, .int 0, .int 0, .int 0]), .inl (0, 20, .inl (fun _ => 0)), .inl (4, 7, .inr (.inr (.inr (.inr (va_up (va_up (va_up (va_up (fun _ => none) (nI 0).toNatClampNeg (some 1)) (nI 1).toNatClampNeg (some 4)) (nI 2).toNatClampNeg (some 6)) (nI 3).toNatClampNeg (some 8)))))), .inr (3, [.ref 5, .int 0, .int 0, .int 0]), .inl (0, 20, .inl (fun _ => 0)), .inr (2, [.ref 7, .int 0, .int 0, .int 0]), .inl (0, 20, .inl (fun _ => 0)), .inr (0, [.ref 9, .int 0, .int 0, .int 0]), .inl (0, 20, .inl (fun _ => 0))]) (c0 := .inr (5, [.null, .int 0, .int 0, .int 0])) G 10 [.inr (1, [.ref 1, .null, .null, .int 0, .int 0, .int 0, .int 0, .int 0, .int 0, .int 0, .int 0]), .inr (10, [.ref 2, .int 0, .int 0, .int 0]), .inl (0, 20, .inl (fun _ => 0)), .inl (4, 7, .inr (.inr (.inr (.inr (va_up (va_up (va_up (va_up (fun _ => none) (nI 0).toNatClampNeg (some 1)) (nI 1).toNatClampNeg (some 4)) (nI 2).toNatClampNeg (some 6)) (nI 3).toNatClampNeg (some 8)))))), .inr (3, [.ref 5, .int 0, .int 0, .int 0]), .inl (0, 20, .inl (fun _ => 0)), .inr (2, [.ref 7, .int 0, .int 0, .int 0]), .inl (0, 20, .inl (fun _ => 0)), .inr (0, [.ref 9, .int 0, .int 0, .int 0]), .inl (0, 20, .inl (fun _ => 0)), .inr (5, [.ref 11, .int 0, .int 0, .int 0]), .inl (0, 20, .inl (fun _ => 0))] dX1_init_64 (n_X5_init l) mt_X5_init cw_X5_init rfl z_53 z_52 nmh_X5 rfl (Or.inr ⟨RX11, List.mem_of_getElem? (i := 12) rfl⟩) (by decide) (by decide) (fun _ => rfl) rfl rfl rfl rfl rfl rfl rfl rfl rfl rfl ?_
  refine g_as G RX10 [.inr (1, [.ref 1, .null, .null, .int 0, .int 0, .int 0, .int 0, .int 0, .int 0, .int 0, .int 0]), .inr (10, [.ref 2, .int 0, .int 0, .int 0]), .inl (0, 20, .inl (fun _ => 0)), .inl (4, 7, .inr (.inr (.inr (.inr (va_up (va_up (va_up (va_up (va_up (fun _ => none) (nI 0).toNatClampNeg (some 1)) (nI 1).toNatClampNeg (some 4)) (nI 2).toNatClampNeg (some 6)) (nI 3).toNatClampNeg (some 8)) (nI 4).toNatClampNeg (some 10)))))), .inr (3, [.ref 5, .int 0, .int 0, .int 0]), .inl (0, 20, .inl (fun _ => 0)), .inr (2, [.ref 7, .int 0, .int 0, .int 0]), .inl (0, 20, .inl (fun _ => 0)), .inr (0, [.ref 9, .int 0, .int 0, .int 0]), .inl (0, 20, .inl (fun _ => 0)), .inr (5, [.ref 11, .int 0, .int 0, .int 0]), .inl (0, 20, .inl (fun _ => 0))] dX1_init_67 rfl rfl rfl rfl (Or.inr (G.1.2.2.2.2.2.2.2.1 RX5 (List.mem_of_getElem? (i := 3) rfl))) (vp_in_nI (by decide) (by decide)) rfl ?_
  refine g_du G dX1_init_68 rfl ?_
  refine g_ic G (nI 5) dX1_init_69 (by decide) ?_
  refine g_nw (ci := 6) (C := RX6) (F := TX6) (Nf := 4) G tyX6 [.inr (1, [.ref 1, .null, .null, .int 0, .int 0, .int 0, .int 0, .int 0, .int 0, .int 0, .int 0]), .inr (10, [.ref 2, .int 0, .int 0, .int 0]), .inl (0, 20, .inl (fun _ => 0)), .inl (4, 7, .inr (.inr (.inr (.inr (va_up (va_up (va_up (va_up (va_up (fun _ => none) (nI 0).toNatClampNeg (some 1)) (nI 1).toNatClampNeg (some 4)) (nI 2).toNatClampNeg (some 6)) (nI 3).toNatClampNeg (some 8)) (nI 4).toNatClampNeg (some 10)))))), .inr (3, [.ref 5, .int 0, .int 0, .int 0]), .inl (0, 20, .inl (fun _ => 0)), .inr (2, [.ref 7, .int 0, .int 0, .int 0]), .inl (0, 20, .inl (fun _ => 0)), .inr (0, [.ref 9, .int 0, .int 0, .int 0]), .inl (0, 20, .inl (fun _ => 0)), .inr (5, [.ref 11, .int 0, .int 0, .int 0]), .inl (0, 20, .inl (fun _ => 0)), .inr (6, [.null, .int 0, .int 0, .int 0])] dX1_init_70 rfl tyX6_ok z_54 z_55 z_56 (fun _ => rfl) rfl (fun j hj => by rcases (show j = 0 ∨ j = 1 ∨ j = 2 ∨ j = 3 by omega) with rfl | rfl | rfl | rfl <;> rfl) rfl rfl rfl ?_
  refine g_du G dX1_init_73 rfl ?_
  refine g_ct (pre := [.inr (1, [.ref 1, .null, .null, .int 0, .int 0, .int 0, .int 0, .int 0, .int 0, .int 0, .int 0]), .inr (10, [.ref 2, .int 0, .int 0, .int 0]), .inl (0, 20, .inl (fun _ => 0)), .inl (4, 7, .inr (.inr (.inr (.inr (va_up (va_up (va_up (va_up (va_up (fun _ => none) (nI 0).toNatClampNeg (some 1)) (nI 1).toNatClampNeg (some 4)) (nI 2).toNatClampNeg (some 6)) (nI 3).toNatClampNeg (some 8)) (nI 4).toNatClampNeg (some 10)))))), .inr (3, [.ref 5, .int 0, .int 0, .int 0]), .inl (0, 20, .inl (fun _ => 0)), .inr (2, [.ref 7, .int 0, .int 0, .int 0]), .inl (0, 20, .inl (fun _ => 0)), .inr (0, [.ref 9, .int 0, .int 0, .int 0]), .inl (0, 20, .inl (fun _ => 0)), .inr (5, [.ref 11, .int 0, .int 0, .int 0]), .inl (0, 20, .inl (fun _ => 0))]) (c0 := .inr (6, [.null, .int 0, .int 0, .int 0])) G 12 [.inr (1, [.ref 1, .null, .null, .int 0, .int 0, .int 0, .int 0, .int 0, .int 0, .int 0, .int 0]), .inr (10, [.ref 2, .int 0, .int 0, .int 0]), .inl (0, 20, .inl (fun _ => 0)), .inl (4, 7, .inr (.inr (.inr (.inr (va_up (va_up (va_up (va_up (va_up (fun _ => none) (nI 0).toNatClampNeg (some 1)) (nI 1).toNatClampNeg (some 4)) (nI 2).toNatClampNeg (some 6)) (nI 3).toNatClampNeg (some 8)) (nI 4).toNatClampNeg (some 10)))))), .inr (3, [.ref 5, .int 0, .int 0, .int 0]), .inl (0, 20, .inl (fun _ => 0)), .inr (2, [.ref 7, .int 0, .int 0, .int 0]), .inl (0, 20, .inl (fun _ => 0)), .inr (0, [.ref 9, .int 0, .int 0, .int 0]), .inl (0, 20, .inl (fun _ => 0)), .inr (5, [.ref 11, .int 0, .int 0, .int 0]), .inl (0, 20, .inl (fun _ => 0)), .inr (6, [.ref 13, .int 0, .int 0, .int 0]), .inl (0, 20, .inl (fun _ => 0))] dX1_init_74 (n_X6_init l) mt_X6_init cw_X6_init rfl z_57 z_56 nmh_X6 rfl (Or.inr ⟨RX11, List.mem_of_getElem? (i := 14) rfl⟩) (by decide) (by decide) (fun _ => rfl) rfl rfl rfl rfl rfl rfl rfl rfl rfl rfl ?_
  refine g_as G RX10 [.inr (1, [.ref 1, .null, .null, .int 0, .int 0, .int 0, .int 0, .int 0, .int 0, .int 0, .int 0]), .inr (10, [.ref 2, .int 0, .int 0, .int 0]), .inl (0, 20, .inl (fun _ => 0)), .inl (4, 7, .inr (.inr (.inr (.inr (va_up (va_up (va_up (va_up (va_up (va_up (fun _ => none) (nI 0).toNatClampNeg (some 1)) (nI 1).toNatClampNeg (some 4)) (nI 2).toNatClampNeg (some 6)) (nI 3).toNatClampNeg (some 8)) (nI 4).toNatClampNeg (some 10)) (nI 5).toNatClampNeg (some 12)))))), .inr (3, [.ref 5, .int 0, .int 0, .int 0]), .inl (0, 20, .inl (fun _ => 0)), .inr (2, [.ref 7, .int 0, .int 0, .int 0]), .inl (0, 20, .inl (fun _ => 0)), .inr (0, [.ref 9, .int 0, .int 0, .int 0]), .inl (0, 20, .inl (fun _ => 0)), .inr (5, [.ref 11, .int 0, .int 0, .int 0]), .inl (0, 20, .inl (fun _ => 0)), .inr (6, [.ref 13, .int 0, .int 0, .int 0]), .inl (0, 20, .inl (fun _ => 0))] dX1_init_77 rfl rfl rfl rfl (Or.inr (G.1.2.2.2.2.2.2.2.1 RX6 (List.mem_of_getElem? (i := 4) rfl))) (vp_in_nI (by decide) (by decide)) rfl ?_
  refine g_du G dX1_init_78 rfl ?_
  refine g_bi G (nI 6) dX1_init_79 (by decide) ?_
  refine g_nw (ci := 9) (C := RX9) (F := TX9) (Nf := 4) G tyX9 [.inr (1, [.ref 1, .null, .null, .int 0, .int 0, .int 0, .int 0, .int 0, .int 0, .int 0, .int 0]), .inr (10, [.ref 2, .int 0, .int 0, .int 0]), .inl (0, 20, .inl (fun _ => 0)), .inl (4, 7, .inr (.inr (.inr (.inr (va_up (va_up (va_up (va_up (va_up (va_up (fun _ => none) (nI 0).toNatClampNeg (some 1)) (nI 1).toNatClampNeg (some 4)) (nI 2).toNatClampNeg (some 6)) (nI 3).toNatClampNeg (some 8)) (nI 4).toNatClampNeg (some 10)) (nI 5).toNatClampNeg (some 12)))))), .inr (3, [.ref 5, .int 0, .int 0, .int 0]), .inl (0, 20, .inl (fun _ => 0)), .inr (2, [.ref 7, .int 0, .int 0, .int 0]), .inl (0, 20, .inl (fun _ => 0)), .inr (0, [.ref 9, .int 0, .int 0, .int 0]), .inl (0, 20, .inl (fun _ => 0)), .inr (5, [.ref 11, .int 0, .int 0, .int 0]), .inl (0, 20, .inl (fun _ => 0)), .inr (6, [.ref 13, .int 0, .int 0, .int 0]), .inl (0, 20, .inl (fun _ => 0)), .inr (9, [.null, .int 0, .int 0, .int 0])] dX1_init_81 rfl tyX9_ok z_58 z_59 z_60 (fun _ => rfl) rfl (fun j hj => by rcases (show j = 0 ∨ j = 1 ∨ j = 2 ∨ j = 3 by omega) with rfl | rfl | rfl | rfl <;> rfl) rfl rfl rfl ?_
  refine g_du G dX1_init_84 rfl ?_
  refine g_ct (pre := [.inr (1, [.ref 1, .null, .null, .int 0, .int 0, .int 0, .int 0, .int 0, .int 0, .int 0, .int 0]), .inr (10, [.ref 2, .int 0, .int 0, .int 0]), .inl (0, 20, .inl (fun _ => 0)), .inl (4, 7, .inr (.inr (.inr (.inr (va_up (va_up (va_up (va_up (va_up (va_up (fun _ => none) (nI 0).toNatClampNeg (some 1)) (nI 1).toNatClampNeg (some 4)) (nI 2).toNatClampNeg (some 6)) (nI 3).toNatClampNeg (some 8)) (nI 4).toNatClampNeg (some 10)) (nI 5).toNatClampNeg (some 12)))))), .inr (3, [.ref 5, .int 0, .int 0, .int 0]), .inl (0, 20, .inl (fun _ => 0)), .inr (2, [.ref 7, .int 0, .int 0, .int 0]), .inl (0, 20, .inl (fun _ => 0)), .inr (0, [.ref 9, .int 0, .int 0, .int 0]), .inl (0, 20, .inl (fun _ => 0)), .inr (5, [.ref 11, .int 0, .int 0, .int 0]), .inl (0, 20, .inl (fun _ => 0)), .inr (6, [.ref 13, .int 0, .int 0, .int 0]), .inl (0, 20, .inl (fun _ => 0))]) (c0 := .inr (9, [.null, .int 0, .int 0, .int 0])) G 14 [.inr (1, [.ref 1, .null, .null, .int 0, .int 0, .int 0, .int 0, .int 0, .int 0, .int 0, .int 0]), .inr (10, [.ref 2, .int 0, .int 0, .int 0]), .inl (0, 20, .inl (fun _ => 0)), .inl (4, 7, .inr (.inr (.inr (.inr (va_up (va_up (va_up (va_up (va_up (va_up (fun _ => none) (nI 0).toNatClampNeg (some 1)) (nI 1).toNatClampNeg (some 4)) (nI 2).toNatClampNeg (some 6)) (nI 3).toNatClampNeg (some 8)) (nI 4).toNatClampNeg (some 10)) (nI 5).toNatClampNeg (some 12)))))), .inr (3, [.ref 5, .int 0, .int 0, .int 0]), .inl (0, 20, .inl (fun _ => 0)), .inr (2, [.ref 7, .int 0, .int 0, .int 0]), .inl (0, 20, .inl (fun _ => 0)), .inr (0, [.ref 9, .int 0, .int 0, .int 0]), .inl (0, 20, .inl (fun _ => 0)), .inr (5, [.ref 11, .int 0, .int 0, .int 0]), .inl (0, 20, .inl (fun _ => 0)), .inr (6, [.ref 13, .int 0, .int 0, .int 0]), .inl (0, 20, .inl (fun _ => 0)), .inr (9, [.ref 15, .int 0, .int 0, .int 0]), .inl (0, 20, .inl (fun _ => 0))] dX1_init_85 (n_X9_init l) mt_X9_init cw_X9_init rfl z_61 z_60 nmh_X9 rfl (Or.inr ⟨RX11, List.mem_of_getElem? (i := 16) rfl⟩) (by decide) (by decide) (fun _ => rfl) rfl rfl rfl rfl rfl rfl rfl rfl rfl rfl ?_
  refine g_as G RX10 [.inr (1, [.ref 1, .null, .null, .int 0, .int 0, .int 0, .int 0, .int 0, .int 0, .int 0, .int 0]), .inr (10, [.ref 2, .int 0, .int 0, .int 0]), .inl (0, 20, .inl (fun _ => 0)), .inl (4, 7, .inr (.inr (.inr (.inr (va_up (va_up (va_up (va_up (va_up (va_up (va_up (fun _ => none) (nI 0).toNatClampNeg (some 1)) (nI 1).toNatClampNeg (some 4)) (nI 2).toNatClampNeg (some 6)) (nI 3).toNatClampNeg (some 8)) (nI 4).toNatClampNeg (some 10)) (nI 5).toNatClampNeg (some 12)) (nI 6).toNatClampNeg (some 14)))))), .inr (3, [.ref 5, .int 0, .int 0, .int 0]), .inl (0, 20, .inl (fun _ => 0)), .inr (2, [.ref 7, .int 0, .int 0, .int 0]), .inl (0, 20, .inl (fun _ => 0)), .inr (0, [.ref 9, .int 0, .int 0, .int 0]), .inl (0, 20, .inl (fun _ => 0)), .inr (5, [.ref 11, .int 0, .int 0, .int 0]), .inl (0, 20, .inl (fun _ => 0)), .inr (6, [.ref 13, .int 0, .int 0, .int 0]), .inl (0, 20, .inl (fun _ => 0)), .inr (9, [.ref 15, .int 0, .int 0, .int 0]), .inl (0, 20, .inl (fun _ => 0))] dX1_init_88 rfl rfl rfl rfl (Or.inr (G.1.2.2.2.2.2.2.2.1 RX9 (List.mem_of_getElem? (i := 5) rfl))) (vp_in_nI (by decide) (by decide)) rfl ?_
  refine g_pu (ci := 1) (C := RX1) (F := TX1) (Nf := 11) (k := 1) G [.inr (1, [.ref 1, .ref 3, .null, .int 0, .int 0, .int 0, .int 0, .int 0, .int 0, .int 0, .int 0]), .inr (10, [.ref 2, .int 0, .int 0, .int 0]), .inl (0, 20, .inl (fun _ => 0)), .inl (4, 7, .inr (.inr (.inr (.inr (va_up (va_up (va_up (va_up (va_up (va_up (va_up (fun _ => none) (nI 0).toNatClampNeg (some 1)) (nI 1).toNatClampNeg (some 4)) (nI 2).toNatClampNeg (some 6)) (nI 3).toNatClampNeg (some 8)) (nI 4).toNatClampNeg (some 10)) (nI 5).toNatClampNeg (some 12)) (nI 6).toNatClampNeg (some 14)))))), .inr (3, [.ref 5, .int 0, .int 0, .int 0]), .inl (0, 20, .inl (fun _ => 0)), .inr (2, [.ref 7, .int 0, .int 0, .int 0]), .inl (0, 20, .inl (fun _ => 0)), .inr (0, [.ref 9, .int 0, .int 0, .int 0]), .inl (0, 20, .inl (fun _ => 0)), .inr (5, [.ref 11, .int 0, .int 0, .int 0]), .inl (0, 20, .inl (fun _ => 0)), .inr (6, [.ref 13, .int 0, .int 0, .int 0]), .inl (0, 20, .inl (fun _ => 0)), .inr (9, [.ref 15, .int 0, .int 0, .int 0]), .inl (0, 20, .inl (fun _ => 0))] dX1_init_89 rfl rfl (by decide) (by decide) z_62 (tyX1_ok 1 (by decide)) (fun _ => ⟨rfl, rfl⟩) (Or.inr ⟨rfl, rfl⟩) rfl ?_
  refine g_al G dX1_init_92 rfl ?_
  refine g_si G (nI 540) dX1_init_93 (by decide) ?_
  refine g_na G 540 0 .int [.inr (1, [.ref 1, .ref 3, .null, .int 0, .int 0, .int 0, .int 0, .int 0, .int 0, .int 0, .int 0]), .inr (10, [.ref 2, .int 0, .int 0, .int 0]), .inl (0, 20, .inl (fun _ => 0)), .inl (4, 7, .inr (.inr (.inr (.inr (va_up (va_up (va_up (va_up (va_up (va_up (va_up (fun _ => none) (nI 0).toNatClampNeg (some 1)) (nI 1).toNatClampNeg (some 4)) (nI 2).toNatClampNeg (some 6)) (nI 3).toNatClampNeg (some 8)) (nI 4).toNatClampNeg (some 10)) (nI 5).toNatClampNeg (some 12)) (nI 6).toNatClampNeg (some 14)))))), .inr (3, [.ref 5, .int 0, .int 0, .int 0]), .inl (0, 20, .inl (fun _ => 0)), .inr (2, [.ref 7, .int 0, .int 0, .int 0]), .inl (0, 20, .inl (fun _ => 0)), .inr (0, [.ref 9, .int 0, .int 0, .int 0]), .inl (0, 20, .inl (fun _ => 0)), .inr (5, [.ref 11, .int 0, .int 0, .int 0]), .inl (0, 20, .inl (fun _ => 0)), .inr (6, [.ref 13, .int 0, .int 0, .int 0]), .inl (0, 20, .inl (fun _ => 0)), .inr (9, [.ref 15, .int 0, .int 0, .int 0]), .inl (0, 20, .inl (fun _ => 0)), .inl (0, 540, .inl (fun _ => 0))] dX1_init_96 rfl rfl rfl (fun _ z => z) z_3 (by decide) (nI_clamp (by decide)) rfl rfl rfl rfl ?_
  refine g_pu (ci := 1) (C := RX1) (F := TX1) (Nf := 11) (k := 2) G [.inr (1, [.ref 1, .ref 3, .ref 16, .int 0, .int 0, .int 0, .int 0, .int 0, .int 0, .int 0, .int 0]), .inr (10, [.ref 2, .int 0, .int 0, .int 0]), .inl (0, 20, .inl (fun _ => 0)), .inl (4, 7, .inr (.inr (.inr (.inr (va_up (va_up (va_up (va_up (va_up (va_up (va_up (fun _ => none) (nI 0).toNatClampNeg (some 1)) (nI 1).toNatClampNeg (some 4)) (nI 2).toNatClampNeg (some 6)) (nI 3).toNatClampNeg (some 8)) (nI 4).toNatClampNeg (some 10)) (nI 5).toNatClampNeg (some 12)) (nI 6).toNatClampNeg (some 14)))))), .inr (3, [.ref 5, .int 0, .int 0, .int 0]), .inl (0, 20, .inl (fun _ => 0)), .inr (2, [.ref 7, .int 0, .int 0, .int 0]), .inl (0, 20, .inl (fun _ => 0)), .inr (0, [.ref 9, .int 0, .int 0, .int 0]), .inl (0, 20, .inl (fun _ => 0)), .inr (5, [.ref 11, .int 0, .int 0, .int 0]), .inl (0, 20, .inl (fun _ => 0)), .inr (6, [.ref 13, .int 0, .int 0, .int 0]), .inl (0, 20, .inl (fun _ => 0)), .inr (9, [.ref 15, .int 0, .int 0, .int 0]), .inl (0, 20, .inl (fun _ => 0)), .inl (0, 540, .inl (fun _ => 0))] dX1_init_98 rfl rfl (by decide) (by decide) z_63 (tyX1_ok 2 (by decide)) (fun _ => ⟨rfl, rfl⟩) (Or.inr ⟨rfl, rfl⟩) rfl ?_
  exact g_rt G dX1_init_101 rfl
def hn_X12_init : List AE := [.inr (12, [.int 0, .ref 1, .ref 2, .ref 3, .int 0, .int 0, .int 0, .int 0, .int 0, .int 0, .ref 4, .ref 5, .ref 6, .ref 7, .int 0, .ref 8, .ref 9, .int 0, .int 0, .int 0, .int 0]), .inl (0, 927, .inl (upd (upd (upd (upd (upd (fun _ => 0) (nI 23).toNatClampNeg (-nI 1)) ((nI 13) + (nI 0)).toNatClampNeg (-nI 5)) ((nI 13) + (nI 1)).toNatClampNeg (-nI 5)) ((nI 13) + (nI 2)).toNatClampNeg (-nI 5)) ((nI 13) + (nI 3)).toNatClampNeg (-nI 5))), .inl (0, 927, .inl (fun _ => 0)), .inl (0, 17, .inl (fun _ => 0)), .inl (0, 6, .inl (fun _ => 0)), .inl (2, 64, .inl (fun _ => 0)), .inl (0, 4320, .inl (fun _ => 0)), .inl (0, 4320, .inl (fun _ => 0)), .inl (0, 6, .inl (fun _ => 0)), .inl (0, 20, .inl (fun _ => 0))]
set_option maxHeartbeats 4000000 in
set_option maxRecDepth 100000 in
theorem n_X12_init (l : Launch) : NC l jX12_init [] (.inr (12, [.int 0, .null, .null, .null, .int 0, .int 0, .int 0, .int 0, .int 0, .int 0, .null, .null, .null, .null, .int 0, .null, .null, .int 0, .int 0, .int 0, .int 0])) (hn_X12_init) 1 := by
  refine NC_of mt_X12_init (by decide +kernel) rfl (Nat.le_of_ble_eq_true rfl) (fun _ => rfl) ?_
  intro p e R s m args below meth c Q D tc b G
  refine g_al G dX12_init_0 rfl ?_
  refine g_oi G dX12_init_1 z_64 z_1 z_2 rfl (by decide) ?_
  refine g_al G dX12_init_4 rfl ?_
  refine g_si G (nI 927) dX12_init_5 (by decide) ?_
  refine g_na G 927 0 .int [.inr (12, [.int 0, .null, .null, .null, .int 0, .int 0, .int 0, .int 0, .int 0, .int 0, .null, .null, .null, .null, .int 0, .null, .null, .int 0, .int 0, .int 0, .int 0]), .inl (0, 927, .inl (fun _ => 0))] dX12_init_8 rfl rfl rfl (fun _ z => z) z_3 (by decide) (nI_clamp (by decide)) rfl rfl rfl rfl ?_
  refine g_pu (ci := 12) (C := RX12) (F := TX12) (Nf := 21) (k := 1) G [.inr (12, [.int 0, .ref 1, .null, .null, .int 0, .int 0, .int 0, .int 0, .int 0, .int 0, .null, .null, .null, .null, .int 0, .null, .null, .int 0, .int 0, .int 0, .int 0]), .inl (0, 927, .inl (fun _ => 0))] dX12_init_10 rfl rfl (by decide) (by decide) z_65 (tyX12_ok 1 (by decide)) (fun _ => ⟨rfl, rfl⟩) (Or.inr ⟨rfl, rfl⟩) rfl ?_
  refine g_al G dX12_init_13 rfl ?_
  refine g_si G (nI 927) dX12_init_14 (by decide) ?_
  refine g_na G 927 0 .int [.inr (12, [.int 0, .ref 1, .null, .null, .int 0, .int 0, .int 0, .int 0, .int 0, .int 0, .null, .null, .null, .null, .int 0, .null, .null, .int 0, .int 0, .int 0, .int 0]), .inl (0, 927, .inl (fun _ => 0)), .inl (0, 927, .inl (fun _ => 0))] dX12_init_17 rfl rfl rfl (fun _ z => z) z_3 (by decide) (nI_clamp (by decide)) rfl rfl rfl rfl ?_
  refine g_pu (ci := 12) (C := RX12) (F := TX12) (Nf := 21) (k := 2) G [.inr (12, [.int 0, .ref 1, .ref 2, .null, .int 0, .int 0, .int 0, .int 0, .int 0, .int 0, .null, .null, .null, .null, .int 0, .null, .null, .int 0, .int 0, .int 0, .int 0]), .inl (0, 927, .inl (fun _ => 0)), .inl (0, 927, .inl (fun _ => 0))] dX12_init_19 rfl rfl (by decide) (by decide) z_66 (tyX12_ok 2 (by decide)) (fun _ => ⟨rfl, rfl⟩) (Or.inr ⟨rfl, rfl⟩) rfl ?_
  refine g_al G dX12_init_22 rfl ?_
  refine g_bi G (nI 17) dX12_init_23 (by decide) ?_
  refine g_na G 17 0 .int [.inr (12, [.int 0, .ref 1, .ref 2, .null, .int 0, .int 0, .int 0, .int 0, .int 0, .int 0, .null, .null, .null, .null, .int 0, .null, .null, .int 0, .int 0, .int 0, .int 0]), .inl (0, 927, .inl (fun _ => 0)), .inl (0, 927, .inl (fun _ => 0)), .inl (0, 17, .inl (fun _ => 0))] dX12_init_25 rfl rfl rfl (fun _ z => z) z_3 (by decide) (nI_clamp (by decide)) rfl rfl rfl rfl ?_
  refine g_pu (ci := 12) (C := RX12) (F := TX12) (Nf := 21) (k := 3) G [.inr (12, [.int 0, .ref 1, .ref 2, .ref 3, .int 0, .int 0, .int 0, .int 0, .int 0, .int 0, .null, .null, .null, .null, .int 0, .null, .null, .int 0, .int 0, .int 0, .int 0]), .inl (0, 927, .inl (fun _ => 0)), .inl (0, 927, .inl (fun _ => 0)), .inl (0, 17, .inl (fun _ => 0))] dX12_init_27 rfl rfl (by decide) (by decide) z_67 (tyX12_ok 3 (by decide)) (fun _ => ⟨rfl, rfl⟩) (Or.inr ⟨rfl, rfl⟩) rfl ?_
  refine g_al G dX12_init_30 rfl ?_
  refine g_bi G (nI 6) dX12_init_31 (by decide) ?_
  refine g_na G 6 0 .int [.inr (12, [.int 0, .ref 1, .ref 2, .ref 3, .int 0, .int 0, .int 0, .int 0, .int 0, .int 0, .null, .null, .null, .null, .int 0, .null, .null, .int 0, .int 0, .int 0, .int 0]), .inl (0, 927, .inl (fun _ => 0)), .inl (0, 927, .inl (fun _ => 0)), .inl (0, 17, .inl (fun _ => 0)), .inl (0, 6, .inl (fun _ => 0))] dX12_init_33 rfl rfl rfl (fun _ z => z) z_3 (by decide) (nI_clamp (by decide)) rfl rfl rfl rfl ?_
  refine g_pu (ci := 12) (C := RX12) (F := TX12) (Nf := 21) (k := 10) G [.inr (12, [.int 0, .ref 1, .ref 2, .ref 3, .int 0, .int 0, .int 0, .int 0, .int 0, .int 0, .ref 4, .null, .null, .null, .int 0, .null, .null, .int 0, .int 0, .int 0, .int 0]), .inl (0, 927, .inl (fun _ => 0)), .inl (0, 927, .inl (fun _ => 0)), .inl (0, 17, .inl (fun _ => 0)), .inl (0, 6, .inl (fun _ => 0))] dX12_init_35 rfl rfl (by decide) (by decide) z_68 (tyX12_ok 10 (by decide)) (fun _ => ⟨rfl, rfl⟩) (Or.inr ⟨rfl, rfl⟩) rfl ?_
  refine g_al G dX12_init_38 rfl ?_
  refine g_bi G (nI 64) dX12_init_39 (by decide) ?_
  refine g_na G 64 2 .boolean [.inr (12, [.int 0, .ref 1, .ref 2, .ref 3, .int 0, .int 0, .int 0, .int 0, .int 0, .int 0, .ref 4, .null, .null, .null, .int 0, .null, .null, .int 0, .int 0, .int 0, .int 0]), .inl (0, 927, .inl (fun _ => 0)), .inl (0, 927, .inl (fun _ => 0)), .inl (0, 17, .inl (fun _ => 0)), .inl (0, 6, .inl (fun _ => 0)), .inl (2, 64, .inl (fun _ => 0))] dX12_init_41 rfl rfl rfl (fun _ z => z) z_69 (by decide) (nI_clamp (by decide)) rfl rfl rfl rfl ?_
  refine g_pu (ci := 12) (C := RX12) (F := TX12) (Nf := 21) (k := 11) G [.inr (12, [.int 0, .ref 1, .ref 2, .ref 3, .int 0, .int 0, .int 0, .int 0, .int 0, .int 0, .ref 4, .ref 5, .null, .null, .int 0, .null, .null, .int 0, .int 0, .int 0, .int 0]), .inl (0, 927, .inl (fun _ => 0)), .inl (0, 927, .inl (fun _ => 0)), .inl (0, 17, .inl (fun _ => 0)), .inl (0, 6, .inl (fun _ => 0)), .inl (2, 64, .inl (fun _ => 0))] dX12_init_43 rfl rfl (by decide) (by decide) z_70 (tyX12_ok 11 (by decide)) (fun _ => ⟨rfl, rfl⟩) (Or.inr ⟨rfl, rfl⟩) rfl ?_
  refine g_al G dX12_init_46 rfl ?_
  refine g_si G (nI 4320) dX12_init_47 (by decide) ?_
  refine g_na G 4320 0 .int [.inr (12, [.int 0, .ref 1, .ref 2, .ref 3, .int 0, .int 0, .int 0, .int 0, .int 0, .int 0, .ref 4, .ref 5, .null, .null, .int 0, .null, .null, .int 0, .int 0, .int 0, .int 0]), .inl (0, 927, .inl (fun _ => 0)), .inl (0, 927, .inl (fun _ => 0)), .inl (0, 17, .inl (fun _ => 0)), .inl (0, 6, .inl (fun _ => 0)), .inl (2, 64, .inl (fun _ => 0)), .inl (0, 4320, .inl (fun _ => 0))] dX12_init_50 rfl rfl rfl (fun _ z => z) z_3 (by decide) (nI_clamp (by decide)) rfl rfl rfl rfl ?_
  refine g_pu (ci := 12) (C := RX12) (F := TX12) (Nf := 21) (k := 12) G [.inr (12, [.int 0, .ref 1, .ref 2, .ref 3, .int 0, .int 0, .int 0, .int 0, .int 0, .int 0, .ref 4, .ref 5, .ref 6, .null, .int 0, .null, .null, .int 0, .int 0, .int 0, .int 0]), .inl (0, 927, .inl (fun _ => 0)), .inl (0, 927, .inl (fun _ => 0)), .inl (0, 17, .inl (fun _ => 0)), .inl (0, 6, .inl (fun _ => 0)), .inl (2, 64, .inl (fun _ => 0)), .inl (0, 4320, .inl (fun _ => 0))] dX12_init_52 rfl rfl (by decide) (by decide) z_71 (tyX12_ok 12 (by decide)) (fun _ => ⟨rfl, rfl⟩) (Or.inr ⟨rfl, rfl⟩) rfl ?_
  refine g_al G dX12_init_55 rfl ?_
  refine g_si G (nI 4320) dX12_init_56 (by decide) ?_
  refine g_na G 4320 0 .int [.inr (12, [.int 0, .ref 1, .ref 2, .ref 3, .int 0, .int 0, .int 0, .int 0, .int 0, .int 0, .ref 4, .ref 5, .ref 6, .null, .int 0, .null, .null, .int 0, .int 0, .int 0, .int 0]), .inl (0, 927, .inl (fun _ => 0)), .inl (0, 927, .inl (fun _ => 0)), .inl (0, 17, .inl (fun _ => 0)), .inl (0, 6, .inl (fun _ => 0)), .inl (2, 64, .inl (fun _ => 0)), .inl (0, 4320, .inl (fun _ => 0)), .inl (0, 4320, .inl (fun _ => 0))] dX12_init_59 rfl rfl rfl (fun _ z => z) z_3 (by decide) (nI_clamp (by decide)) rfl rfl rfl rfl ?_
  refine g_pu (ci := 12) (C := RX12) (F := TX12) (Nf := 21) (k := 13) G [.inr (12, [.int 0, .ref 1, .ref 2, .ref 3, .int 0, .int 0, .int 0, .int 0, .int 0, .int 0, .ref 4, .ref 5, .ref 6, .ref 7, .int 0, .null, .null, .int 0, .int 0, .int 0, .int 0]), .inl (0, 927, .inl (fun _ => 0)), .inl (0, 927, .inl (fun _ => 0)), .inl (0, 17, .inl (fun _ => 0)), .inl (0, 6, .inl (fun _ => 0)), .inl (2, 64, .inl (fun _ => 0)), .inl (0, 4320, .inl (fun _ => 0)), .inl (0, 4320, .inl (fun _ => 0))] dX12_init_61 rfl rfl (by decide) (by decide) z_72 (tyX12_ok 13 (by decide)) (fun _ => ⟨rfl, rfl⟩) (Or.inr ⟨rfl, rfl⟩) rfl ?_
  refine g_al G dX12_init_64 rfl ?_
  refine g_bi G (nI 6) dX12_init_65 (by decide) ?_
  refine g_na G 6 0 .int [.inr (12, [.int 0, .ref 1, .ref 2, .ref 3, .int 0, .int 0, .int 0, .int 0, .int 0, .int 0, .ref 4, .ref 5, .ref 6, .ref 7, .int 0, .null, .null, .int 0, .int 0, .int 0, .int 0]), .inl (0, 927, .inl (fun _ => 0)), .inl (0, 927, .inl (fun _ => 0)), .inl (0, 17, .inl (fun _ => 0)), .inl (0, 6, .inl (fun _ => 0)), .inl (2, 64, .inl (fun _ => 0)), .inl (0, 4320, .inl (fun _ => 0)), .inl (0, 4320, .inl (fun _ => 0)), .inl (0, 6, .inl (fun _ => 0))] dX12_init_67 rfl rfl rfl (fun _ z => z) z_3 (by decide) (nI_clamp (by decide)) rfl rfl rfl rfl ?_
  refine g_pu (ci := 12) (C := RX12) (F := TX12) (Nf := 21) (k := 15) G [.inr (12, [.int 0, .ref 1, .ref 2, .ref 3, .int 0, .int 0, .int 0, .int 0, .int 0, .int 0, .ref 4, .ref 5, .ref 6, .ref 7, .int 0, .ref 8, .null, .int 0, .int 0, .int 0, .int 0]), .inl (0, 927, .inl (fun _ => 0)), .inl (0, 927, .inl (fun _ => 0)), .inl (0, 17, .inl (fun _ => 0)), .inl (0, 6, .inl (fun _ => 0)), .inl (2, 64, .inl (fun _ => 0)), .inl (0, 4320, .inl (fun _ => 0)), .inl (0, 4320, .inl (fun _ => 0)), .inl (0, 6, .inl (fun _ => 0))] dX12_init_69 rfl rfl (by decide) (by decide) z_73 (tyX12_ok 15 (by decide)) (fun _ => ⟨rfl, rfl⟩) (Or.inr ⟨rfl, rfl⟩) rfl ?_
  refine g_al G dX12_init_72 rfl ?_
  refine g_bi G (nI 20) dX12_init_73 (by decide) ?_
  refine g_na G 20 0 .int [.inr (12, [.int 0, .ref 1, .ref 2, .ref 3, .int 0, .int 0, .int 0, .int 0, .int 0, .int 0, .ref 4, .ref 5, .ref 6, .ref 7, .int 0, .ref 8, .null, .int 0, .int 0, .int 0, .int 0]), .inl (0, 927, .inl (fun _ => 0)), .inl (0, 927, .inl (fun _ => 0)), .inl (0, 17, .inl (fun _ => 0)), .inl (0, 6, .inl (fun _ => 0)), .inl (2, 64, .inl (fun _ => 0)), .inl (0, 4320, .inl (fun _ => 0)), .inl (0, 4320, .inl (fun _ => 0)), .inl (0, 6, .inl (fun _ => 0)), .inl (0, 20, .inl (fun _ => 0))] dX12_init_75 rfl rfl rfl (fun _ z => z) z_3 (by decide) (nI_clamp (by decide)) rfl rfl rfl rfl ?_
  refine g_pu (ci := 12) (C := RX12) (F := TX12) (Nf := 21) (k := 16) G [.inr (12, [.int 0, .ref 1, .ref 2, .ref 3, .int 0, .int 0, .int 0, .int 0, .int 0, .int 0, .ref 4, .ref 5, .ref 6, .ref 7, .int 0, .ref 8, .ref 9, .int 0, .int 0, .int 0, .int 0]), .inl (0, 927, .inl (fun _ => 0)), .inl (0, 927, .inl (fun _ => 0)), .inl (0, 17, .inl (fun _ => 0)), .inl (0, 6, .inl (fun _ => 0)), .inl (2, 64, .inl (fun _ => 0)), .inl (0, 4320, .inl (fun _ => 0)), .inl (0, 4320, .inl (fun _ => 0)), .inl (0, 6, .inl (fun _ => 0)), .inl (0, 20, .inl (fun _ => 0))] dX12_init_77 rfl rfl (by decide) (by decide) z_74 (tyX12_ok 16 (by decide)) (fun _ => ⟨rfl, rfl⟩) (Or.inr ⟨rfl, rfl⟩) rfl ?_
  refine g_al G dX12_init_80 rfl ?_
  refine g_ge_f (ci := 12) (C := RX12) (F := TX12) (Nf := 21) (k := 1) (v := .ref 1) G dX12_init_81 rfl rfl (by decide) z_65 rfl ?_
  refine g_bi G (nI 23) dX12_init_84 (by decide) ?_
  refine g_ic G (-nI 1) dX12_init_86 (by decide) ?_
  refine g_si_a G [.inr (12, [.int 0, .ref 1, .ref 2, .ref 3, .int 0, .int 0, .int 0, .int 0, .int 0, .int 0, .ref 4, .ref 5, .ref 6, .ref 7, .int 0, .ref 8, .ref 9, .int 0, .int 0, .int 0, .int 0]), .inl (0, 927, .inl (upd (fun _ => 0) (nI 23).toNatClampNeg (-nI 1))), .inl (0, 927, .inl (fun _ => 0)), .inl (0, 17, .inl (fun _ => 0)), .inl (0, 6, .inl (fun _ => 0)), .inl (2, 64, .inl (fun _ => 0)), .inl (0, 4320, .inl (fun _ => 0)), .inl (0, 4320, .inl (fun _ => 0)), .inl (0, 6, .inl (fun _ => 0)), .inl (0, 20, .inl (fun _ => 0))] dX12_init_87 rfl (vp_in_nI (by decide) (by decide)) rfl ?_
  refine g_ic G (nI 0) dX12_init_88 (by decide) ?_
  refine g_is (ls1 := [(1, .int (nI 0)), (0, .ref 0)]) G dX12_init_89 (by decide) rfl ?_
  refine g_il G dX12_init_90 rfl ?_
  refine g_ic G (nI 4) dX12_init_91 (by decide) ?_
  refine g_ge G 112 dX12_init_92 (by decide) (fun z => absurd z (by decide)) (fun _ => ?_)
  refine g_al G dX12_init_95 rfl ?_
  refine g_ge_f (ci := 12) (C := RX12) (F := TX12) (Nf := 21) (k := 1) (v := .ref 1) G dX12_init_96 rfl rfl (by decide) z_65 rfl ?_
  refine g_bi G (nI 13) dX12_init_99 (by decide) ?_
  refine g_il G dX12_init_101 rfl ?_
  refine g_ad G dX12_init_102 ?_
  refine g_bi G (-nI 5) dX12_init_103 (by decide) ?_
  refine g_si_a G [.inr (12, [.int 0, .ref 1, .ref 2, .ref 3, .int 0, .int 0, .int 0, .int 0, .int 0, .int 0, .ref 4, .ref 5, .ref 6, .ref 7, .int 0, .ref 8, .ref 9, .int 0, .int 0, .int 0, .int 0]), .inl (0, 927, .inl (upd (upd (fun _ => 0) (nI 23).toNatClampNeg (-nI 1)) ((nI 13) + (nI 0)).toNatClampNeg (-nI 5))), .inl (0, 927, .inl (fun _ => 0)), .inl (0, 17, .inl (fun _ => 0)), .inl (0, 6, .inl (fun _ => 0)), .inl (2, 64, .inl (fun _ => 0)), .inl (0, 4320, .inl (fun _ => 0)), .inl (0, 4320, .inl (fun _ => 0)), .inl (0, 6, .inl (fun _ => 0)), .inl (0, 20, .inl (fun _ => 0))] dX12_init_105 rfl (vp_in_nI (n := 13) (by decide) (by decide)) rfl ?_
  refine g_in (k := 0) (v := nI 1) (ls1 := [(1, .int (nI 1)), (0, .ref 0)]) G dX12_init_106 rfl (by decide) (by decide) rfl ?_
  refine g_go G 90 dX12_init_109 (by decide) ?_
  refine g_il G dX12_init_90 rfl ?_
  refine g_ic G (nI 4) dX12_init_91 (by decide) ?_
  refine g_ge G 112 dX12_init_92 (by decide) (fun z => absurd z (by decide)) (fun _ => ?_)
  refine g_al G dX12_init_95 rfl ?_
  refine g_ge_f (ci := 12) (C := RX12) (F := TX12) (Nf := 21) (k := 1) (v := .ref 1) G dX12_init_96 rfl rfl (by decide) z_65 rfl ?_
  refine g_bi G (nI 13) dX12_init_99 (by decide) ?_
  refine g_il G dX12_init_101 rfl ?_
  refine g_ad G dX12_init_102 ?_
  refine g_bi G (-nI 5) dX12_init_103 (by decide) ?_
  refine g_si_a G [.inr (12, [.int 0, .ref 1, .ref 2, .ref 3, .int 0, .int 0, .int 0, .int 0, .int 0, .int 0, .ref 4, .ref 5, .ref 6, .ref 7, .int 0, .ref 8, .ref 9, .int 0, .int 0, .int 0, .int 0]), .inl (0, 927, .inl (upd (upd (upd (fun _ => 0) (nI 23).toNatClampNeg (-nI 1)) ((nI 13) + (nI 0)).toNatClampNeg (-nI 5)) ((nI 13) + (nI 1)).toNatClampNeg (-nI 5))), .inl (0, 927, .inl (fun _ => 0)), .inl (0, 17, .inl (fun _ => 0)), .inl (0, 6, .inl (fun _ => 0)), .inl (2, 64, .inl (fun _ => 0)), .inl (0, 4320, .inl (fun _ => 0)), .inl (0, 4320, .inl (fun _ => 0)), .inl (0, 6, .inl (fun _ => 0)), .inl (0, 20, .inl (fun _ => 0))] dX12_init_105 rfl (vp_in_nI (n := 14) (by decide) (by decide)) rfl ?_
  refine g_in (k := 0) (v := nI 2) (ls1 := [(1, .int (nI 2)), (0, .ref 0)]) G dX12_init_106 rfl (by decide) (by decide) rfl ?_
  refine g_go G 90 dX12_init_109 (by decide) ?_
  refine g_il G dX12_init_90 rfl ?_
  refine g_ic G (nI 4) dX12_init_91 (by decide) ?_
  refine g_ge G 112 dX12_init_92 (by decide) (fun z => absurd z (by decide)) (fun _ => ?_)
  refine g_al G dX12_init_95 rfl ?_
  refine g_ge_f (ci := 12) (C := RX12) (F := TX12) (Nf := 21) (k := 1) (v := .ref 1) G dX12_init_96 rfl rfl (by decide) z_65 rfl ?_
  refine g_bi G (nI 13) dX12_init_99 (by decide) ?_
  refine g_il G dX12_init_101 rfl ?_
  refine g_ad G dX12_init_102 ?_
  refine g_bi G (-nI 5) dX12_init_103 (by decide) ?_
  refine g_si_a G [.inr (12, [.int 0, .ref 1, .ref 2, .ref 3, .int 0, .int 0, .int 0, .int 0, .int 0, .int 0, .ref 4, .ref 5, .ref 6, .ref 7, .int 0, .ref 8, .ref 9, .int 0, .int 0, .int 0, .int 0]), .inl (0, 927, .inl (upd (upd (upd (upd (fun _ => 0) (nI 23).toNatClampNeg (-nI 1)) ((nI 13) + (nI 0)).toNatClampNeg (-nI 5)) ((nI 13) + (nI 1)).toNatClampNeg (-nI 5)) ((nI 13) + (nI 2)).toNatClampNeg (-nI 5))), .inl (0, 927, .inl (fun _ => 0)), .inl (0, 17, .inl (fun _ => 0)), .inl (0, 6, .inl (fun _ => 0)), .inl (2, 64, .inl (fun _ => 0)), .inl (0, 4320, .inl (fun _ => 0)), .inl (0, 4320, .inl (fun _ => 0)), .inl (0, 6, .inl (fun _ => 0)), .inl (0, 20, .inl (fun _ => 0))] dX12_init_105 rfl (vp_in_nI (n := 15) (by decide) (by decide)) rfl ?_
  refine g_in (k := 0) (v := nI 3) (ls1 := [(1, .int (nI 3)), (0, .ref 0)]) G dX12_init_106 rfl (by decide) (by decide) rfl ?_
  refine g_go G 90 dX12_init_109 (by decide) ?_
  refine g_il G dX12_init_90 rfl ?_
  refine g_ic G (nI 4) dX12_init_91 (by decide) ?_
  refine g_ge G 112 dX12_init_92 (by decide) (fun z => absurd z (by decide)) (fun _ => ?_)
  refine g_al G dX12_init_95 rfl ?_
  refine g_ge_f (ci := 12) (C := RX12) (F := TX12) (Nf := 21) (k := 1) (v := .ref 1) G dX12_init_96 rfl rfl (by decide) z_65 rfl ?_
  refine g_bi G (nI 13) dX12_init_99 (by decide) ?_
  refine g_il G dX12_init_101 rfl ?_
  refine g_ad G dX12_init_102 ?_
  refine g_bi G (-nI 5) dX12_init_103 (by decide) ?_
  refine g_si_a G [.inr (12, [.int 0, .ref 1, .ref 2, .ref 3, .int 0, .int 0, .int 0, .int 0, .int 0, .int 0, .ref 4, .ref 5, .ref 6, .ref 7, .int 0, .ref 8, .ref 9, .int 0, .int 0, .int 0, .int 0]), .inl (0, 927, .inl (upd (upd (upd (upd (upd (fun _ => 0) (nI 23).toNatClampNeg (-nI 1)) ((nI 13) + (nI 0)).toNatClampNeg (-nI 5)) ((nI 13) + (nI 1)).toNatClampNeg (-nI 5)) ((nI 13) + (nI 2)).toNatClampNeg (-nI 5)) ((nI 13) + (nI 3)).toNatClampNeg (-nI 5))), .inl (0, 927, .inl (fun _ => 0)), .inl (0, 17, .inl (fun _ => 0)), .inl (0, 6, .inl (fun _ => 0)), .inl (2, 64, .inl (fun _ => 0)), .inl (0, 4320, .inl (fun _ => 0)), .inl (0, 4320, .inl (fun _ => 0)), .inl (0, 6, .inl (fun _ => 0)), .inl (0, 20, .inl (fun _ => 0))] dX12_init_105 rfl (vp_in_nI (n := 16) (by decide) (by decide)) rfl ?_
  refine g_in (k := 0) (v := nI 4) (ls1 := [(1, .int (nI 4)), (0, .ref 0)]) G dX12_init_106 rfl (by decide) (by decide) rfl ?_
  refine g_go G 90 dX12_init_109 (by decide) ?_
  refine g_il G dX12_init_90 rfl ?_
  refine g_ic G (nI 4) dX12_init_91 (by decide) ?_
  refine g_ge G 112 dX12_init_92 (by decide) (fun _ => ?_) (fun z => absurd (by decide) z)
  exact g_rt G dX12_init_112 rfl
