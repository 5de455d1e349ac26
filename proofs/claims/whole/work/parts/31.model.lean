abbrev b_SkeletonClockModel_letter : ByteArray := prog_14_method_2_code
def y_SkeletonClockModel_letter : MethodName := ⟨"SkeletonClockModel", "letter", "(II)I"⟩
theorem kd_SkeletonClockModel_letter : kd_ok y_SkeletonClockModel_letter 2 := by decide +kernel
abbrev b_SkeletonClockModel_div : ByteArray := prog_14_method_3_code
def y_SkeletonClockModel_div : MethodName := ⟨"SkeletonClockModel", "div", "(JJ)J"⟩
theorem kd_SkeletonClockModel_div : kd_ok y_SkeletonClockModel_div 2 := by decide +kernel
abbrev b_SkeletonClockModel_leaps : ByteArray := prog_14_method_4_code
def y_SkeletonClockModel_leaps : MethodName := ⟨"SkeletonClockModel", "leaps", "(J)J"⟩
theorem kd_SkeletonClockModel_leaps : kd_ok y_SkeletonClockModel_leaps 1 := by decide +kernel
abbrev b_SkeletonClockModel_newYear : ByteArray := prog_14_method_5_code
def y_SkeletonClockModel_newYear : MethodName := ⟨"SkeletonClockModel", "newYear", "(J)J"⟩
theorem kd_SkeletonClockModel_newYear : kd_ok y_SkeletonClockModel_newYear 1 := by decide +kernel
abbrev b_SkeletonClockModel_yearOf : ByteArray := prog_14_method_6_code
def y_SkeletonClockModel_yearOf : MethodName := ⟨"SkeletonClockModel", "yearOf", "(J)J"⟩
theorem kd_SkeletonClockModel_yearOf : kd_ok y_SkeletonClockModel_yearOf 1 := by decide +kernel
abbrev b_SkeletonClockModel_monthLength : ByteArray := prog_14_method_7_code
def y_SkeletonClockModel_monthLength : MethodName := ⟨"SkeletonClockModel", "monthLength", "(JI)I"⟩
theorem kd_SkeletonClockModel_monthLength : kd_ok y_SkeletonClockModel_monthLength 2 := by decide +kernel
abbrev b_SkeletonClockModel_newMonth : ByteArray := prog_14_method_8_code
def y_SkeletonClockModel_newMonth : MethodName := ⟨"SkeletonClockModel", "newMonth", "(JI)J"⟩
theorem kd_SkeletonClockModel_newMonth : kd_ok y_SkeletonClockModel_newMonth 2 := by decide +kernel
abbrev b_SkeletonClockModel_weekday : ByteArray := prog_14_method_9_code
def y_SkeletonClockModel_weekday : MethodName := ⟨"SkeletonClockModel", "weekday", "(J)I"⟩
theorem kd_SkeletonClockModel_weekday : kd_ok y_SkeletonClockModel_weekday 1 := by decide +kernel
abbrev b_SkeletonClockModel_firstMonday : ByteArray := prog_14_method_10_code
def y_SkeletonClockModel_firstMonday : MethodName := ⟨"SkeletonClockModel", "firstMonday", "(J)J"⟩
theorem kd_SkeletonClockModel_firstMonday : kd_ok y_SkeletonClockModel_firstMonday 1 := by decide +kernel
abbrev b_SkeletonClockModel_dateField : ByteArray := prog_14_method_11_code
def y_SkeletonClockModel_dateField : MethodName := ⟨"SkeletonClockModel", "dateField", "(JI)J"⟩
theorem kd_SkeletonClockModel_dateField : kd_ok y_SkeletonClockModel_dateField 2 := by decide +kernel
abbrev b_SkeletonClockModel_timeField : ByteArray := prog_14_method_12_code
def y_SkeletonClockModel_timeField : MethodName := ⟨"SkeletonClockModel", "timeField", "(II)I"⟩
theorem kd_SkeletonClockModel_timeField : kd_ok y_SkeletonClockModel_timeField 2 := by decide +kernel
abbrev b_SkeletonClockModel_present : ByteArray := prog_14_method_13_code
def y_SkeletonClockModel_present : MethodName := ⟨"SkeletonClockModel", "present", "(I)J"⟩
theorem kd_SkeletonClockModel_present : kd_ok y_SkeletonClockModel_present 1 := by decide +kernel
abbrev b_SkeletonClockModel_partOf : ByteArray := prog_14_method_14_code
def y_SkeletonClockModel_partOf : MethodName := ⟨"SkeletonClockModel", "partOf", "(I)I"⟩
theorem kd_SkeletonClockModel_partOf : kd_ok y_SkeletonClockModel_partOf 1 := by decide +kernel
abbrev b_SkeletonClockModel_fieldOf : ByteArray := prog_14_method_15_code
def y_SkeletonClockModel_fieldOf : MethodName := ⟨"SkeletonClockModel", "fieldOf", "(I)I"⟩
theorem kd_SkeletonClockModel_fieldOf : kd_ok y_SkeletonClockModel_fieldOf 1 := by decide +kernel
abbrev b_SkeletonClockModel_allowed : ByteArray := prog_14_method_16_code
def y_SkeletonClockModel_allowed : MethodName := ⟨"SkeletonClockModel", "allowed", "(II)Z"⟩
theorem kd_SkeletonClockModel_allowed : kd_ok y_SkeletonClockModel_allowed 2 := by decide +kernel
abbrev b_SkeletonClockModel_at : ByteArray := prog_14_method_17_code
def y_SkeletonClockModel_at : MethodName := ⟨"SkeletonClockModel", "at", "(I)I"⟩
theorem kd_SkeletonClockModel_at : kd_ok y_SkeletonClockModel_at 1 := by decide +kernel
abbrev b_SkeletonClockModel_isLetter : ByteArray := prog_14_method_18_code
def y_SkeletonClockModel_isLetter : MethodName := ⟨"SkeletonClockModel", "isLetter", "(I)Z"⟩
theorem kd_SkeletonClockModel_isLetter : kd_ok y_SkeletonClockModel_isLetter 1 := by decide +kernel
abbrev b_SkeletonClockModel_run : ByteArray := prog_14_method_19_code
def y_SkeletonClockModel_run : MethodName := ⟨"SkeletonClockModel", "run", "(I)I"⟩
theorem kd_SkeletonClockModel_run : kd_ok y_SkeletonClockModel_run 1 := by decide +kernel
theorem gm_4_155 : Cond.fieldLink "SkeletonClockModel" (16 : Nat) "SkeletonClockModel" "names" "[J" ∈ GW := gw_4 (i := 155) rfl rfl
theorem gm_5_88 : Cond.constantLong "SkeletonClockModel" (113 : Nat) (4 : Int64) ∈ GW := gw_5 (i := 88) rfl rfl
theorem gm_5_71 : Cond.code ({ cls := "SkeletonClockModel", name := "div", desc := "(JJ)J" } : MethodName) prog_14_method_3_code (6 : Nat) (Option.some FieldType.long) ∈ GW := gw_5 (i := 71) rfl rfl
theorem gm_5_69 : Cond.methodLink "SkeletonClockModel" (115 : Nat) ({ cls := "SkeletonClockModel", name := "div", desc := "(JJ)J" } : MethodName) ∈ GW := gw_5 (i := 69) rfl rfl
theorem gm_1_13 : Cond.initialized "SkeletonClockModel" ∈ GW := gw_1 (i := 13) rfl rfl
theorem gm_5_70 : Cond.static ({ cls := "SkeletonClockModel", name := "div", desc := "(JJ)J" } : MethodName) ∈ GW := gw_5 (i := 70) rfl rfl
theorem gm_5_89 : Cond.constantLong "SkeletonClockModel" (119 : Nat) (100 : Int64) ∈ GW := gw_5 (i := 89) rfl rfl
theorem gm_5_79 : Cond.constantLong "SkeletonClockModel" (121 : Nat) (400 : Int64) ∈ GW := gw_5 (i := 79) rfl rfl
theorem gm_5_84 : Cond.constantLong "SkeletonClockModel" (123 : Nat) (365 : Int64) ∈ GW := gw_5 (i := 84) rfl rfl
theorem gm_5_78 : Cond.constantLong "SkeletonClockModel" (125 : Nat) (1970 : Int64) ∈ GW := gw_5 (i := 78) rfl rfl
theorem gm_5_87 : Cond.code ({ cls := "SkeletonClockModel", name := "leaps", desc := "(J)J" } : MethodName) prog_14_method_4_code (2 : Nat) (Option.some FieldType.long) ∈ GW := gw_5 (i := 87) rfl rfl
theorem gm_5_85 : Cond.methodLink "SkeletonClockModel" (127 : Nat) ({ cls := "SkeletonClockModel", name := "leaps", desc := "(J)J" } : MethodName) ∈ GW := gw_5 (i := 85) rfl rfl
theorem gm_5_86 : Cond.static ({ cls := "SkeletonClockModel", name := "leaps", desc := "(J)J" } : MethodName) ∈ GW := gw_5 (i := 86) rfl rfl
theorem gm_5_80 : Cond.constantLong "SkeletonClockModel" (131 : Nat) (146097 : Int64) ∈ GW := gw_5 (i := 80) rfl rfl
theorem gm_5_83 : Cond.code ({ cls := "SkeletonClockModel", name := "newYear", desc := "(J)J" } : MethodName) prog_14_method_5_code (2 : Nat) (Option.some FieldType.long) ∈ GW := gw_5 (i := 83) rfl rfl
theorem gm_5_81 : Cond.methodLink "SkeletonClockModel" (133 : Nat) ({ cls := "SkeletonClockModel", name := "newYear", desc := "(J)J" } : MethodName) ∈ GW := gw_5 (i := 81) rfl rfl
theorem gm_5_82 : Cond.static ({ cls := "SkeletonClockModel", name := "newYear", desc := "(J)J" } : MethodName) ∈ GW := gw_5 (i := 82) rfl rfl
theorem gm_5_109 : Cond.constantLong "SkeletonClockModel" (136 : Nat) (366 : Int64) ∈ GW := gw_5 (i := 109) rfl rfl
theorem gm_5_108 : Cond.code ({ cls := "SkeletonClockModel", name := "monthLength", desc := "(JI)I" } : MethodName) prog_14_method_7_code (3 : Nat) (Option.some FieldType.int) ∈ GW := gw_5 (i := 108) rfl rfl
theorem gm_5_106 : Cond.methodLink "SkeletonClockModel" (138 : Nat) ({ cls := "SkeletonClockModel", name := "monthLength", desc := "(JI)I" } : MethodName) ∈ GW := gw_5 (i := 106) rfl rfl
theorem gm_5_107 : Cond.static ({ cls := "SkeletonClockModel", name := "monthLength", desc := "(JI)I" } : MethodName) ∈ GW := gw_5 (i := 107) rfl rfl
theorem gm_5_113 : Cond.constantLong "SkeletonClockModel" (142 : Nat) (3 : Int64) ∈ GW := gw_5 (i := 113) rfl rfl
theorem gm_5_114 : Cond.constantLong "SkeletonClockModel" (144 : Nat) (7 : Int64) ∈ GW := gw_5 (i := 114) rfl rfl
theorem gm_5_112 : Cond.code ({ cls := "SkeletonClockModel", name := "weekday", desc := "(J)I" } : MethodName) prog_14_method_9_code (2 : Nat) (Option.some FieldType.int) ∈ GW := gw_5 (i := 112) rfl rfl
theorem gm_5_110 : Cond.methodLink "SkeletonClockModel" (146 : Nat) ({ cls := "SkeletonClockModel", name := "weekday", desc := "(J)I" } : MethodName) ∈ GW := gw_5 (i := 110) rfl rfl
theorem gm_5_111 : Cond.static ({ cls := "SkeletonClockModel", name := "weekday", desc := "(J)I" } : MethodName) ∈ GW := gw_5 (i := 111) rfl rfl
theorem gm_5_77 : Cond.code ({ cls := "SkeletonClockModel", name := "yearOf", desc := "(J)J" } : MethodName) prog_14_method_6_code (4 : Nat) (Option.some FieldType.long) ∈ GW := gw_5 (i := 77) rfl rfl
theorem gm_5_75 : Cond.methodLink "SkeletonClockModel" (150 : Nat) ({ cls := "SkeletonClockModel", name := "yearOf", desc := "(J)J" } : MethodName) ∈ GW := gw_5 (i := 75) rfl rfl
theorem gm_5_76 : Cond.static ({ cls := "SkeletonClockModel", name := "yearOf", desc := "(J)J" } : MethodName) ∈ GW := gw_5 (i := 76) rfl rfl
theorem gm_5_105 : Cond.code ({ cls := "SkeletonClockModel", name := "newMonth", desc := "(JI)J" } : MethodName) prog_14_method_8_code (6 : Nat) (Option.some FieldType.long) ∈ GW := gw_5 (i := 105) rfl rfl
theorem gm_5_103 : Cond.methodLink "SkeletonClockModel" (153 : Nat) ({ cls := "SkeletonClockModel", name := "newMonth", desc := "(JI)J" } : MethodName) ∈ GW := gw_5 (i := 103) rfl rfl
theorem gm_5_104 : Cond.static ({ cls := "SkeletonClockModel", name := "newMonth", desc := "(JI)J" } : MethodName) ∈ GW := gw_5 (i := 104) rfl rfl
theorem gm_4_168 : Cond.fieldLink "SkeletonClockModel" (170 : Nat) "SkeletonClockModel" "momentSecond" "I" ∈ GW := gw_4 (i := 168) rfl rfl
theorem gm_5_117 : Cond.code ({ cls := "SkeletonClockModel", name := "timeField", desc := "(II)I" } : MethodName) prog_14_method_12_code (3 : Nat) (Option.some FieldType.int) ∈ GW := gw_5 (i := 117) rfl rfl
theorem gm_5_115 : Cond.methodLink "SkeletonClockModel" (173 : Nat) ({ cls := "SkeletonClockModel", name := "timeField", desc := "(II)I" } : MethodName) ∈ GW := gw_5 (i := 115) rfl rfl
theorem gm_5_116 : Cond.static ({ cls := "SkeletonClockModel", name := "timeField", desc := "(II)I" } : MethodName) ∈ GW := gw_5 (i := 116) rfl rfl
theorem gm_4_169 : Cond.fieldLink "SkeletonClockModel" (167 : Nat) "SkeletonClockModel" "momentNano" "I" ∈ GW := gw_4 (i := 169) rfl rfl
theorem gm_4_170 : Cond.fieldLink "SkeletonClockModel" (164 : Nat) "SkeletonClockModel" "momentOffset" "I" ∈ GW := gw_4 (i := 170) rfl rfl
theorem gm_4_167 : Cond.fieldLink "SkeletonClockModel" (157 : Nat) "SkeletonClockModel" "momentDay" "J" ∈ GW := gw_4 (i := 167) rfl rfl
theorem gm_5_102 : Cond.code ({ cls := "SkeletonClockModel", name := "dateField", desc := "(JI)J" } : MethodName) prog_14_method_11_code (10 : Nat) (Option.some FieldType.long) ∈ GW := gw_5 (i := 102) rfl rfl
theorem gm_5_100 : Cond.methodLink "SkeletonClockModel" (161 : Nat) ({ cls := "SkeletonClockModel", name := "dateField", desc := "(JI)J" } : MethodName) ∈ GW := gw_5 (i := 100) rfl rfl
theorem gm_5_101 : Cond.static ({ cls := "SkeletonClockModel", name := "dateField", desc := "(JI)J" } : MethodName) ∈ GW := gw_5 (i := 101) rfl rfl
theorem gm_5_35 : Cond.code ({ cls := "SkeletonClockModel", name := "fieldOf", desc := "(I)I" } : MethodName) prog_14_method_15_code (3 : Nat) (Option.some FieldType.int) ∈ GW := gw_5 (i := 35) rfl rfl
theorem gm_5_33 : Cond.methodLink "SkeletonClockModel" (177 : Nat) ({ cls := "SkeletonClockModel", name := "fieldOf", desc := "(I)I" } : MethodName) ∈ GW := gw_5 (i := 33) rfl rfl
theorem gm_5_34 : Cond.static ({ cls := "SkeletonClockModel", name := "fieldOf", desc := "(I)I" } : MethodName) ∈ GW := gw_5 (i := 34) rfl rfl
theorem gm_4_151 : Cond.fieldLink "SkeletonClockModel" (181 : Nat) "SkeletonClockModel" "length" "I" ∈ GW := gw_4 (i := 151) rfl rfl
theorem gm_4_152 : Cond.fieldLink "SkeletonClockModel" (7 : Nat) "SkeletonClockModel" "text" "[C" ∈ GW := gw_4 (i := 152) rfl rfl
theorem gm_5_21 : Cond.code ({ cls := "SkeletonClockModel", name := "at", desc := "(I)I" } : MethodName) prog_14_method_17_code (2 : Nat) (Option.some FieldType.int) ∈ GW := gw_5 (i := 21) rfl rfl
theorem gm_5_18 : Cond.methodLink "SkeletonClockModel" (184 : Nat) ({ cls := "SkeletonClockModel", name := "at", desc := "(I)I" } : MethodName) ∈ GW := gw_5 (i := 18) rfl rfl
theorem gm_5_20 : Cond.instanceMethod ({ cls := "SkeletonClockModel", name := "at", desc := "(I)I" } : MethodName) ∈ GW := gw_5 (i := 20) rfl rfl
theorem gm_p3_0 : Cond.selects "SkeletonClockModel" ⟨"SkeletonClockModel", "at", "(I)I"⟩ ⟨"SkeletonClockModel", "at", "(I)I"⟩ ∈ GW := gs_3 (i := 0) rfl
theorem d_SkeletonClockModel_letter_0 : decode b_SkeletonClockModel_letter 0 = .ok (.aload_n 0, 1) := by decide +kernel
theorem d_SkeletonClockModel_letter_1 : decode b_SkeletonClockModel_letter 1 = .ok (.getfield 16, 3) := by decide +kernel
theorem d_SkeletonClockModel_letter_4 : decode b_SkeletonClockModel_letter 4 = .ok (.iload_n 1, 1) := by decide +kernel
theorem d_SkeletonClockModel_letter_5 : decode b_SkeletonClockModel_letter 5 = .ok (.laload, 1) := by decide +kernel
theorem d_SkeletonClockModel_letter_6 : decode b_SkeletonClockModel_letter 6 = .ok (.iconst 5, 1) := by decide +kernel
theorem d_SkeletonClockModel_letter_7 : decode b_SkeletonClockModel_letter 7 = .ok (.iload_n 2, 1) := by decide +kernel
theorem d_SkeletonClockModel_letter_8 : decode b_SkeletonClockModel_letter 8 = .ok (.imul, 1) := by decide +kernel
theorem d_SkeletonClockModel_letter_9 : decode b_SkeletonClockModel_letter 9 = .ok (.lshr, 1) := by decide +kernel
theorem d_SkeletonClockModel_letter_10 : decode b_SkeletonClockModel_letter 10 = .ok (.l2i, 1) := by decide +kernel
theorem d_SkeletonClockModel_letter_11 : decode b_SkeletonClockModel_letter 11 = .ok (.bipush 31, 2) := by decide +kernel
theorem d_SkeletonClockModel_letter_13 : decode b_SkeletonClockModel_letter 13 = .ok (.iand, 1) := by decide +kernel
theorem d_SkeletonClockModel_letter_14 : decode b_SkeletonClockModel_letter 14 = .ok (.istore_n 3, 1) := by decide +kernel
theorem d_SkeletonClockModel_letter_15 : decode b_SkeletonClockModel_letter 15 = .ok (.iload_n 3, 1) := by decide +kernel
theorem d_SkeletonClockModel_letter_16 : decode b_SkeletonClockModel_letter 16 = .ok (.ifCond .ne 7, 3) := by decide +kernel
theorem d_SkeletonClockModel_letter_19 : decode b_SkeletonClockModel_letter 19 = .ok (.iconst 0, 1) := by decide +kernel
theorem d_SkeletonClockModel_letter_20 : decode b_SkeletonClockModel_letter 20 = .ok (.goto 24, 3) := by decide +kernel
theorem d_SkeletonClockModel_letter_23 : decode b_SkeletonClockModel_letter 23 = .ok (.iload_n 2, 1) := by decide +kernel
theorem d_SkeletonClockModel_letter_24 : decode b_SkeletonClockModel_letter 24 = .ok (.ifCond .eq 9, 3) := by decide +kernel
theorem d_SkeletonClockModel_letter_27 : decode b_SkeletonClockModel_letter 27 = .ok (.iload_n 1, 1) := by decide +kernel
theorem d_SkeletonClockModel_letter_28 : decode b_SkeletonClockModel_letter 28 = .ok (.bipush 19, 2) := by decide +kernel
theorem d_SkeletonClockModel_letter_30 : decode b_SkeletonClockModel_letter 30 = .ok (.if_icmp .lt 10, 3) := by decide +kernel
theorem d_SkeletonClockModel_letter_33 : decode b_SkeletonClockModel_letter 33 = .ok (.bipush 64, 2) := by decide +kernel
theorem d_SkeletonClockModel_letter_35 : decode b_SkeletonClockModel_letter 35 = .ok (.iload_n 3, 1) := by decide +kernel
theorem d_SkeletonClockModel_letter_36 : decode b_SkeletonClockModel_letter 36 = .ok (.iadd, 1) := by decide +kernel
theorem d_SkeletonClockModel_letter_37 : decode b_SkeletonClockModel_letter 37 = .ok (.goto 7, 3) := by decide +kernel
theorem d_SkeletonClockModel_letter_40 : decode b_SkeletonClockModel_letter 40 = .ok (.bipush 96, 2) := by decide +kernel
theorem d_SkeletonClockModel_letter_42 : decode b_SkeletonClockModel_letter 42 = .ok (.iload_n 3, 1) := by decide +kernel
theorem d_SkeletonClockModel_letter_43 : decode b_SkeletonClockModel_letter 43 = .ok (.iadd, 1) := by decide +kernel
theorem d_SkeletonClockModel_letter_44 : decode b_SkeletonClockModel_letter 44 = .ok (.ireturn, 1) := by decide +kernel
theorem d_SkeletonClockModel_div_0 : decode b_SkeletonClockModel_div 0 = .ok (.lload_n 0, 1) := by decide +kernel
theorem d_SkeletonClockModel_div_1 : decode b_SkeletonClockModel_div 1 = .ok (.lload_n 2, 1) := by decide +kernel
theorem d_SkeletonClockModel_div_2 : decode b_SkeletonClockModel_div 2 = .ok (.ldiv, 1) := by decide +kernel
theorem d_SkeletonClockModel_div_3 : decode b_SkeletonClockModel_div 3 = .ok (.lstore 4, 2) := by decide +kernel
theorem d_SkeletonClockModel_div_5 : decode b_SkeletonClockModel_div 5 = .ok (.lload_n 0, 1) := by decide +kernel
theorem d_SkeletonClockModel_div_6 : decode b_SkeletonClockModel_div 6 = .ok (.lload_n 2, 1) := by decide +kernel
theorem d_SkeletonClockModel_div_7 : decode b_SkeletonClockModel_div 7 = .ok (.lrem, 1) := by decide +kernel
theorem d_SkeletonClockModel_div_8 : decode b_SkeletonClockModel_div 8 = .ok (.lconst 0, 1) := by decide +kernel
theorem d_SkeletonClockModel_div_9 : decode b_SkeletonClockModel_div 9 = .ok (.lcmp, 1) := by decide +kernel
theorem d_SkeletonClockModel_div_10 : decode b_SkeletonClockModel_div 10 = .ok (.ifCond .ge 10, 3) := by decide +kernel
theorem d_SkeletonClockModel_div_13 : decode b_SkeletonClockModel_div 13 = .ok (.lload 4, 2) := by decide +kernel
theorem d_SkeletonClockModel_div_15 : decode b_SkeletonClockModel_div 15 = .ok (.lconst 1, 1) := by decide +kernel
theorem d_SkeletonClockModel_div_16 : decode b_SkeletonClockModel_div 16 = .ok (.lsub, 1) := by decide +kernel
theorem d_SkeletonClockModel_div_17 : decode b_SkeletonClockModel_div 17 = .ok (.goto 5, 3) := by decide +kernel
theorem d_SkeletonClockModel_div_20 : decode b_SkeletonClockModel_div 20 = .ok (.lload 4, 2) := by decide +kernel
theorem d_SkeletonClockModel_div_22 : decode b_SkeletonClockModel_div 22 = .ok (.lreturn, 1) := by decide +kernel
theorem d_SkeletonClockModel_leaps_0 : decode b_SkeletonClockModel_leaps 0 = .ok (.lload_n 0, 1) := by decide +kernel
theorem d_SkeletonClockModel_leaps_1 : decode b_SkeletonClockModel_leaps 1 = .ok (.lconst 1, 1) := by decide +kernel
theorem d_SkeletonClockModel_leaps_2 : decode b_SkeletonClockModel_leaps 2 = .ok (.lsub, 1) := by decide +kernel
theorem d_SkeletonClockModel_leaps_3 : decode b_SkeletonClockModel_leaps 3 = .ok (.ldc2_w 113, 3) := by decide +kernel
theorem d_SkeletonClockModel_leaps_6 : decode b_SkeletonClockModel_leaps 6 = .ok (.invokestatic 115, 3) := by decide +kernel
theorem d_SkeletonClockModel_leaps_9 : decode b_SkeletonClockModel_leaps 9 = .ok (.lload_n 0, 1) := by decide +kernel
theorem d_SkeletonClockModel_leaps_10 : decode b_SkeletonClockModel_leaps 10 = .ok (.lconst 1, 1) := by decide +kernel
theorem d_SkeletonClockModel_leaps_11 : decode b_SkeletonClockModel_leaps 11 = .ok (.lsub, 1) := by decide +kernel
theorem d_SkeletonClockModel_leaps_12 : decode b_SkeletonClockModel_leaps 12 = .ok (.ldc2_w 119, 3) := by decide +kernel
theorem d_SkeletonClockModel_leaps_15 : decode b_SkeletonClockModel_leaps 15 = .ok (.invokestatic 115, 3) := by decide +kernel
theorem d_SkeletonClockModel_leaps_18 : decode b_SkeletonClockModel_leaps 18 = .ok (.lsub, 1) := by decide +kernel
theorem d_SkeletonClockModel_leaps_19 : decode b_SkeletonClockModel_leaps 19 = .ok (.lload_n 0, 1) := by decide +kernel
theorem d_SkeletonClockModel_leaps_20 : decode b_SkeletonClockModel_leaps 20 = .ok (.lconst 1, 1) := by decide +kernel
theorem d_SkeletonClockModel_leaps_21 : decode b_SkeletonClockModel_leaps 21 = .ok (.lsub, 1) := by decide +kernel
theorem d_SkeletonClockModel_leaps_22 : decode b_SkeletonClockModel_leaps 22 = .ok (.ldc2_w 121, 3) := by decide +kernel
theorem d_SkeletonClockModel_leaps_25 : decode b_SkeletonClockModel_leaps 25 = .ok (.invokestatic 115, 3) := by decide +kernel
theorem d_SkeletonClockModel_leaps_28 : decode b_SkeletonClockModel_leaps 28 = .ok (.ladd, 1) := by decide +kernel
theorem d_SkeletonClockModel_leaps_29 : decode b_SkeletonClockModel_leaps 29 = .ok (.lreturn, 1) := by decide +kernel
theorem d_SkeletonClockModel_newYear_0 : decode b_SkeletonClockModel_newYear 0 = .ok (.ldc2_w 123, 3) := by decide +kernel
theorem d_SkeletonClockModel_newYear_3 : decode b_SkeletonClockModel_newYear 3 = .ok (.lload_n 0, 1) := by decide +kernel
theorem d_SkeletonClockModel_newYear_4 : decode b_SkeletonClockModel_newYear 4 = .ok (.ldc2_w 125, 3) := by decide +kernel
theorem d_SkeletonClockModel_newYear_7 : decode b_SkeletonClockModel_newYear 7 = .ok (.lsub, 1) := by decide +kernel
theorem d_SkeletonClockModel_newYear_8 : decode b_SkeletonClockModel_newYear 8 = .ok (.lmul, 1) := by decide +kernel
theorem d_SkeletonClockModel_newYear_9 : decode b_SkeletonClockModel_newYear 9 = .ok (.lload_n 0, 1) := by decide +kernel
theorem d_SkeletonClockModel_newYear_10 : decode b_SkeletonClockModel_newYear 10 = .ok (.invokestatic 127, 3) := by decide +kernel
theorem d_SkeletonClockModel_newYear_13 : decode b_SkeletonClockModel_newYear 13 = .ok (.ladd, 1) := by decide +kernel
theorem d_SkeletonClockModel_newYear_14 : decode b_SkeletonClockModel_newYear 14 = .ok (.ldc2_w 125, 3) := by decide +kernel
theorem d_SkeletonClockModel_newYear_17 : decode b_SkeletonClockModel_newYear 17 = .ok (.invokestatic 127, 3) := by decide +kernel
theorem d_SkeletonClockModel_newYear_20 : decode b_SkeletonClockModel_newYear 20 = .ok (.lsub, 1) := by decide +kernel
theorem d_SkeletonClockModel_newYear_21 : decode b_SkeletonClockModel_newYear 21 = .ok (.lreturn, 1) := by decide +kernel
theorem d_SkeletonClockModel_yearOf_0 : decode b_SkeletonClockModel_yearOf 0 = .ok (.ldc2_w 125, 3) := by decide +kernel
theorem d_SkeletonClockModel_yearOf_3 : decode b_SkeletonClockModel_yearOf 3 = .ok (.lload_n 0, 1) := by decide +kernel
theorem d_SkeletonClockModel_yearOf_4 : decode b_SkeletonClockModel_yearOf 4 = .ok (.ldc2_w 121, 3) := by decide +kernel
theorem d_SkeletonClockModel_yearOf_7 : decode b_SkeletonClockModel_yearOf 7 = .ok (.lmul, 1) := by decide +kernel
theorem d_SkeletonClockModel_yearOf_8 : decode b_SkeletonClockModel_yearOf 8 = .ok (.ldc2_w 131, 3) := by decide +kernel
theorem d_SkeletonClockModel_yearOf_11 : decode b_SkeletonClockModel_yearOf 11 = .ok (.invokestatic 115, 3) := by decide +kernel
theorem d_SkeletonClockModel_yearOf_14 : decode b_SkeletonClockModel_yearOf 14 = .ok (.ladd, 1) := by decide +kernel
theorem d_SkeletonClockModel_yearOf_15 : decode b_SkeletonClockModel_yearOf 15 = .ok (.lstore_n 2, 1) := by decide +kernel
theorem d_SkeletonClockModel_yearOf_16 : decode b_SkeletonClockModel_yearOf 16 = .ok (.lload_n 2, 1) := by decide +kernel
theorem d_SkeletonClockModel_yearOf_17 : decode b_SkeletonClockModel_yearOf 17 = .ok (.invokestatic 133, 3) := by decide +kernel
theorem d_SkeletonClockModel_yearOf_20 : decode b_SkeletonClockModel_yearOf 20 = .ok (.lload_n 0, 1) := by decide +kernel
theorem d_SkeletonClockModel_yearOf_21 : decode b_SkeletonClockModel_yearOf 21 = .ok (.lcmp, 1) := by decide +kernel
theorem d_SkeletonClockModel_yearOf_22 : decode b_SkeletonClockModel_yearOf 22 = .ok (.ifCond .le 10, 3) := by decide +kernel
theorem d_SkeletonClockModel_yearOf_25 : decode b_SkeletonClockModel_yearOf 25 = .ok (.lload_n 2, 1) := by decide +kernel
theorem d_SkeletonClockModel_yearOf_26 : decode b_SkeletonClockModel_yearOf 26 = .ok (.lconst 1, 1) := by decide +kernel
theorem d_SkeletonClockModel_yearOf_27 : decode b_SkeletonClockModel_yearOf 27 = .ok (.lsub, 1) := by decide +kernel
theorem d_SkeletonClockModel_yearOf_28 : decode b_SkeletonClockModel_yearOf 28 = .ok (.lstore_n 2, 1) := by decide +kernel
theorem d_SkeletonClockModel_yearOf_29 : decode b_SkeletonClockModel_yearOf 29 = .ok (.goto (-13), 3) := by decide +kernel
theorem d_SkeletonClockModel_yearOf_32 : decode b_SkeletonClockModel_yearOf 32 = .ok (.lload_n 2, 1) := by decide +kernel
theorem d_SkeletonClockModel_yearOf_33 : decode b_SkeletonClockModel_yearOf 33 = .ok (.lconst 1, 1) := by decide +kernel
theorem d_SkeletonClockModel_yearOf_34 : decode b_SkeletonClockModel_yearOf 34 = .ok (.ladd, 1) := by decide +kernel
theorem d_SkeletonClockModel_yearOf_35 : decode b_SkeletonClockModel_yearOf 35 = .ok (.invokestatic 133, 3) := by decide +kernel
theorem d_SkeletonClockModel_yearOf_38 : decode b_SkeletonClockModel_yearOf 38 = .ok (.lload_n 0, 1) := by decide +kernel
theorem d_SkeletonClockModel_yearOf_39 : decode b_SkeletonClockModel_yearOf 39 = .ok (.lcmp, 1) := by decide +kernel
theorem d_SkeletonClockModel_yearOf_40 : decode b_SkeletonClockModel_yearOf 40 = .ok (.ifCond .gt 10, 3) := by decide +kernel
theorem d_SkeletonClockModel_yearOf_43 : decode b_SkeletonClockModel_yearOf 43 = .ok (.lload_n 2, 1) := by decide +kernel
theorem d_SkeletonClockModel_yearOf_44 : decode b_SkeletonClockModel_yearOf 44 = .ok (.lconst 1, 1) := by decide +kernel
theorem d_SkeletonClockModel_yearOf_45 : decode b_SkeletonClockModel_yearOf 45 = .ok (.ladd, 1) := by decide +kernel
theorem d_SkeletonClockModel_yearOf_46 : decode b_SkeletonClockModel_yearOf 46 = .ok (.lstore_n 2, 1) := by decide +kernel
theorem d_SkeletonClockModel_yearOf_47 : decode b_SkeletonClockModel_yearOf 47 = .ok (.goto (-15), 3) := by decide +kernel
theorem d_SkeletonClockModel_yearOf_50 : decode b_SkeletonClockModel_yearOf 50 = .ok (.lload_n 2, 1) := by decide +kernel
theorem d_SkeletonClockModel_yearOf_51 : decode b_SkeletonClockModel_yearOf 51 = .ok (.lreturn, 1) := by decide +kernel
theorem d_SkeletonClockModel_monthLength_0 : decode b_SkeletonClockModel_monthLength 0 = .ok (.iload_n 2, 1) := by decide +kernel
theorem d_SkeletonClockModel_monthLength_1 : decode b_SkeletonClockModel_monthLength 1 = .ok (.iconst 2, 1) := by decide +kernel
theorem d_SkeletonClockModel_monthLength_2 : decode b_SkeletonClockModel_monthLength 2 = .ok (.if_icmp .ne 29, 3) := by decide +kernel
theorem d_SkeletonClockModel_monthLength_5 : decode b_SkeletonClockModel_monthLength 5 = .ok (.lload_n 0, 1) := by decide +kernel
theorem d_SkeletonClockModel_monthLength_6 : decode b_SkeletonClockModel_monthLength 6 = .ok (.lconst 1, 1) := by decide +kernel
theorem d_SkeletonClockModel_monthLength_7 : decode b_SkeletonClockModel_monthLength 7 = .ok (.ladd, 1) := by decide +kernel
theorem d_SkeletonClockModel_monthLength_8 : decode b_SkeletonClockModel_monthLength 8 = .ok (.invokestatic 133, 3) := by decide +kernel
theorem d_SkeletonClockModel_monthLength_11 : decode b_SkeletonClockModel_monthLength 11 = .ok (.lload_n 0, 1) := by decide +kernel
theorem d_SkeletonClockModel_monthLength_12 : decode b_SkeletonClockModel_monthLength 12 = .ok (.invokestatic 133, 3) := by decide +kernel
theorem d_SkeletonClockModel_monthLength_15 : decode b_SkeletonClockModel_monthLength 15 = .ok (.lsub, 1) := by decide +kernel
theorem d_SkeletonClockModel_monthLength_16 : decode b_SkeletonClockModel_monthLength 16 = .ok (.ldc2_w 136, 3) := by decide +kernel
theorem d_SkeletonClockModel_monthLength_19 : decode b_SkeletonClockModel_monthLength 19 = .ok (.lcmp, 1) := by decide +kernel
theorem d_SkeletonClockModel_monthLength_20 : decode b_SkeletonClockModel_monthLength 20 = .ok (.ifCond .ne 8, 3) := by decide +kernel
theorem d_SkeletonClockModel_monthLength_23 : decode b_SkeletonClockModel_monthLength 23 = .ok (.bipush 29, 2) := by decide +kernel
theorem d_SkeletonClockModel_monthLength_25 : decode b_SkeletonClockModel_monthLength 25 = .ok (.goto 5, 3) := by decide +kernel
theorem d_SkeletonClockModel_monthLength_28 : decode b_SkeletonClockModel_monthLength 28 = .ok (.bipush 28, 2) := by decide +kernel
theorem d_SkeletonClockModel_monthLength_30 : decode b_SkeletonClockModel_monthLength 30 = .ok (.ireturn, 1) := by decide +kernel
theorem d_SkeletonClockModel_monthLength_31 : decode b_SkeletonClockModel_monthLength 31 = .ok (.iload_n 2, 1) := by decide +kernel
theorem d_SkeletonClockModel_monthLength_32 : decode b_SkeletonClockModel_monthLength 32 = .ok (.iconst 4, 1) := by decide +kernel
theorem d_SkeletonClockModel_monthLength_33 : decode b_SkeletonClockModel_monthLength 33 = .ok (.if_icmp .eq 21, 3) := by decide +kernel
theorem d_SkeletonClockModel_monthLength_36 : decode b_SkeletonClockModel_monthLength 36 = .ok (.iload_n 2, 1) := by decide +kernel
theorem d_SkeletonClockModel_monthLength_37 : decode b_SkeletonClockModel_monthLength 37 = .ok (.bipush 6, 2) := by decide +kernel
theorem d_SkeletonClockModel_monthLength_39 : decode b_SkeletonClockModel_monthLength 39 = .ok (.if_icmp .eq 15, 3) := by decide +kernel
theorem d_SkeletonClockModel_monthLength_42 : decode b_SkeletonClockModel_monthLength 42 = .ok (.iload_n 2, 1) := by decide +kernel
theorem d_SkeletonClockModel_monthLength_43 : decode b_SkeletonClockModel_monthLength 43 = .ok (.bipush 9, 2) := by decide +kernel
theorem d_SkeletonClockModel_monthLength_45 : decode b_SkeletonClockModel_monthLength 45 = .ok (.if_icmp .eq 9, 3) := by decide +kernel
theorem d_SkeletonClockModel_monthLength_48 : decode b_SkeletonClockModel_monthLength 48 = .ok (.iload_n 2, 1) := by decide +kernel
theorem d_SkeletonClockModel_monthLength_49 : decode b_SkeletonClockModel_monthLength 49 = .ok (.bipush 11, 2) := by decide +kernel
theorem d_SkeletonClockModel_monthLength_51 : decode b_SkeletonClockModel_monthLength 51 = .ok (.if_icmp .ne 8, 3) := by decide +kernel
theorem d_SkeletonClockModel_monthLength_54 : decode b_SkeletonClockModel_monthLength 54 = .ok (.bipush 30, 2) := by decide +kernel
theorem d_SkeletonClockModel_monthLength_56 : decode b_SkeletonClockModel_monthLength 56 = .ok (.goto 5, 3) := by decide +kernel
theorem d_SkeletonClockModel_monthLength_59 : decode b_SkeletonClockModel_monthLength 59 = .ok (.bipush 31, 2) := by decide +kernel
theorem d_SkeletonClockModel_monthLength_61 : decode b_SkeletonClockModel_monthLength 61 = .ok (.ireturn, 1) := by decide +kernel
theorem d_SkeletonClockModel_newMonth_0 : decode b_SkeletonClockModel_newMonth 0 = .ok (.lload_n 0, 1) := by decide +kernel
theorem d_SkeletonClockModel_newMonth_1 : decode b_SkeletonClockModel_newMonth 1 = .ok (.invokestatic 133, 3) := by decide +kernel
theorem d_SkeletonClockModel_newMonth_4 : decode b_SkeletonClockModel_newMonth 4 = .ok (.lstore_n 3, 1) := by decide +kernel
theorem d_SkeletonClockModel_newMonth_5 : decode b_SkeletonClockModel_newMonth 5 = .ok (.iconst 1, 1) := by decide +kernel
theorem d_SkeletonClockModel_newMonth_6 : decode b_SkeletonClockModel_newMonth 6 = .ok (.istore 5, 2) := by decide +kernel
theorem d_SkeletonClockModel_newMonth_8 : decode b_SkeletonClockModel_newMonth 8 = .ok (.iload 5, 2) := by decide +kernel
theorem d_SkeletonClockModel_newMonth_10 : decode b_SkeletonClockModel_newMonth 10 = .ok (.iload_n 2, 1) := by decide +kernel
theorem d_SkeletonClockModel_newMonth_11 : decode b_SkeletonClockModel_newMonth 11 = .ok (.if_icmp .ge 19, 3) := by decide +kernel
theorem d_SkeletonClockModel_newMonth_14 : decode b_SkeletonClockModel_newMonth 14 = .ok (.lload_n 3, 1) := by decide +kernel
theorem d_SkeletonClockModel_newMonth_15 : decode b_SkeletonClockModel_newMonth 15 = .ok (.lload_n 0, 1) := by decide +kernel
theorem d_SkeletonClockModel_newMonth_16 : decode b_SkeletonClockModel_newMonth 16 = .ok (.iload 5, 2) := by decide +kernel
theorem d_SkeletonClockModel_newMonth_18 : decode b_SkeletonClockModel_newMonth 18 = .ok (.invokestatic 138, 3) := by decide +kernel
theorem d_SkeletonClockModel_newMonth_21 : decode b_SkeletonClockModel_newMonth 21 = .ok (.i2l, 1) := by decide +kernel
theorem d_SkeletonClockModel_newMonth_22 : decode b_SkeletonClockModel_newMonth 22 = .ok (.ladd, 1) := by decide +kernel
theorem d_SkeletonClockModel_newMonth_23 : decode b_SkeletonClockModel_newMonth 23 = .ok (.lstore_n 3, 1) := by decide +kernel
theorem d_SkeletonClockModel_newMonth_24 : decode b_SkeletonClockModel_newMonth 24 = .ok (.iinc 5 1, 3) := by decide +kernel
theorem d_SkeletonClockModel_newMonth_27 : decode b_SkeletonClockModel_newMonth 27 = .ok (.goto (-19), 3) := by decide +kernel
theorem d_SkeletonClockModel_newMonth_30 : decode b_SkeletonClockModel_newMonth 30 = .ok (.lload_n 3, 1) := by decide +kernel
theorem d_SkeletonClockModel_newMonth_31 : decode b_SkeletonClockModel_newMonth 31 = .ok (.lreturn, 1) := by decide +kernel
theorem d_SkeletonClockModel_weekday_0 : decode b_SkeletonClockModel_weekday 0 = .ok (.lload_n 0, 1) := by decide +kernel
theorem d_SkeletonClockModel_weekday_1 : decode b_SkeletonClockModel_weekday 1 = .ok (.ldc2_w 142, 3) := by decide +kernel
theorem d_SkeletonClockModel_weekday_4 : decode b_SkeletonClockModel_weekday 4 = .ok (.ladd, 1) := by decide +kernel
theorem d_SkeletonClockModel_weekday_5 : decode b_SkeletonClockModel_weekday 5 = .ok (.ldc2_w 144, 3) := by decide +kernel
theorem d_SkeletonClockModel_weekday_8 : decode b_SkeletonClockModel_weekday 8 = .ok (.lload_n 0, 1) := by decide +kernel
theorem d_SkeletonClockModel_weekday_9 : decode b_SkeletonClockModel_weekday 9 = .ok (.ldc2_w 142, 3) := by decide +kernel
theorem d_SkeletonClockModel_weekday_12 : decode b_SkeletonClockModel_weekday 12 = .ok (.ladd, 1) := by decide +kernel
theorem d_SkeletonClockModel_weekday_13 : decode b_SkeletonClockModel_weekday 13 = .ok (.ldc2_w 144, 3) := by decide +kernel
theorem d_SkeletonClockModel_weekday_16 : decode b_SkeletonClockModel_weekday 16 = .ok (.invokestatic 115, 3) := by decide +kernel
theorem d_SkeletonClockModel_weekday_19 : decode b_SkeletonClockModel_weekday 19 = .ok (.lmul, 1) := by decide +kernel
theorem d_SkeletonClockModel_weekday_20 : decode b_SkeletonClockModel_weekday 20 = .ok (.lsub, 1) := by decide +kernel
theorem d_SkeletonClockModel_weekday_21 : decode b_SkeletonClockModel_weekday 21 = .ok (.l2i, 1) := by decide +kernel
theorem d_SkeletonClockModel_weekday_22 : decode b_SkeletonClockModel_weekday 22 = .ok (.iconst 1, 1) := by decide +kernel
theorem d_SkeletonClockModel_weekday_23 : decode b_SkeletonClockModel_weekday 23 = .ok (.iadd, 1) := by decide +kernel
theorem d_SkeletonClockModel_weekday_24 : decode b_SkeletonClockModel_weekday 24 = .ok (.ireturn, 1) := by decide +kernel
theorem d_SkeletonClockModel_firstMonday_0 : decode b_SkeletonClockModel_firstMonday 0 = .ok (.lload_n 0, 1) := by decide +kernel
theorem d_SkeletonClockModel_firstMonday_1 : decode b_SkeletonClockModel_firstMonday 1 = .ok (.invokestatic 133, 3) := by decide +kernel
theorem d_SkeletonClockModel_firstMonday_4 : decode b_SkeletonClockModel_firstMonday 4 = .ok (.ldc2_w 142, 3) := by decide +kernel
theorem d_SkeletonClockModel_firstMonday_7 : decode b_SkeletonClockModel_firstMonday 7 = .ok (.ladd, 1) := by decide +kernel
theorem d_SkeletonClockModel_firstMonday_8 : decode b_SkeletonClockModel_firstMonday 8 = .ok (.lstore_n 2, 1) := by decide +kernel
theorem d_SkeletonClockModel_firstMonday_9 : decode b_SkeletonClockModel_firstMonday 9 = .ok (.lload_n 2, 1) := by decide +kernel
theorem d_SkeletonClockModel_firstMonday_10 : decode b_SkeletonClockModel_firstMonday 10 = .ok (.lload_n 2, 1) := by decide +kernel
theorem d_SkeletonClockModel_firstMonday_11 : decode b_SkeletonClockModel_firstMonday 11 = .ok (.invokestatic 146, 3) := by decide +kernel
theorem d_SkeletonClockModel_firstMonday_14 : decode b_SkeletonClockModel_firstMonday 14 = .ok (.i2l, 1) := by decide +kernel
theorem d_SkeletonClockModel_firstMonday_15 : decode b_SkeletonClockModel_firstMonday 15 = .ok (.lsub, 1) := by decide +kernel
theorem d_SkeletonClockModel_firstMonday_16 : decode b_SkeletonClockModel_firstMonday 16 = .ok (.lconst 1, 1) := by decide +kernel
theorem d_SkeletonClockModel_firstMonday_17 : decode b_SkeletonClockModel_firstMonday 17 = .ok (.ladd, 1) := by decide +kernel
theorem d_SkeletonClockModel_firstMonday_18 : decode b_SkeletonClockModel_firstMonday 18 = .ok (.lreturn, 1) := by decide +kernel
theorem d_SkeletonClockModel_dateField_0 : decode b_SkeletonClockModel_dateField 0 = .ok (.lload_n 0, 1) := by decide +kernel
theorem d_SkeletonClockModel_dateField_1 : decode b_SkeletonClockModel_dateField 1 = .ok (.invokestatic 150, 3) := by decide +kernel
theorem d_SkeletonClockModel_dateField_4 : decode b_SkeletonClockModel_dateField 4 = .ok (.lstore_n 3, 1) := by decide +kernel
theorem d_SkeletonClockModel_dateField_5 : decode b_SkeletonClockModel_dateField 5 = .ok (.iconst 1, 1) := by decide +kernel
theorem d_SkeletonClockModel_dateField_6 : decode b_SkeletonClockModel_dateField 6 = .ok (.istore 5, 2) := by decide +kernel
theorem d_SkeletonClockModel_dateField_8 : decode b_SkeletonClockModel_dateField 8 = .ok (.iload 5, 2) := by decide +kernel
theorem d_SkeletonClockModel_dateField_10 : decode b_SkeletonClockModel_dateField 10 = .ok (.bipush 12, 2) := by decide +kernel
theorem d_SkeletonClockModel_dateField_12 : decode b_SkeletonClockModel_dateField 12 = .ok (.if_icmp .ge 22, 3) := by decide +kernel
theorem d_SkeletonClockModel_dateField_15 : decode b_SkeletonClockModel_dateField 15 = .ok (.lload_n 3, 1) := by decide +kernel
theorem d_SkeletonClockModel_dateField_16 : decode b_SkeletonClockModel_dateField 16 = .ok (.iload 5, 2) := by decide +kernel
theorem d_SkeletonClockModel_dateField_18 : decode b_SkeletonClockModel_dateField 18 = .ok (.iconst 1, 1) := by decide +kernel
theorem d_SkeletonClockModel_dateField_19 : decode b_SkeletonClockModel_dateField 19 = .ok (.iadd, 1) := by decide +kernel
theorem d_SkeletonClockModel_dateField_20 : decode b_SkeletonClockModel_dateField 20 = .ok (.invokestatic 153, 3) := by decide +kernel
theorem d_SkeletonClockModel_dateField_23 : decode b_SkeletonClockModel_dateField 23 = .ok (.lload_n 0, 1) := by decide +kernel
theorem d_SkeletonClockModel_dateField_24 : decode b_SkeletonClockModel_dateField 24 = .ok (.lcmp, 1) := by decide +kernel
theorem d_SkeletonClockModel_dateField_25 : decode b_SkeletonClockModel_dateField 25 = .ok (.ifCond .gt 9, 3) := by decide +kernel
theorem d_SkeletonClockModel_dateField_28 : decode b_SkeletonClockModel_dateField 28 = .ok (.iinc 5 1, 3) := by decide +kernel
theorem d_SkeletonClockModel_dateField_31 : decode b_SkeletonClockModel_dateField 31 = .ok (.goto (-23), 3) := by decide +kernel
theorem d_SkeletonClockModel_dateField_34 : decode b_SkeletonClockModel_dateField 34 = .ok (.lload_n 0, 1) := by decide +kernel
theorem d_SkeletonClockModel_dateField_35 : decode b_SkeletonClockModel_dateField 35 = .ok (.lload_n 0, 1) := by decide +kernel
theorem d_SkeletonClockModel_dateField_36 : decode b_SkeletonClockModel_dateField 36 = .ok (.invokestatic 146, 3) := by decide +kernel
theorem d_SkeletonClockModel_dateField_39 : decode b_SkeletonClockModel_dateField 39 = .ok (.i2l, 1) := by decide +kernel
theorem d_SkeletonClockModel_dateField_40 : decode b_SkeletonClockModel_dateField 40 = .ok (.lsub, 1) := by decide +kernel
theorem d_SkeletonClockModel_dateField_41 : decode b_SkeletonClockModel_dateField 41 = .ok (.ldc2_w 113, 3) := by decide +kernel
theorem d_SkeletonClockModel_dateField_44 : decode b_SkeletonClockModel_dateField 44 = .ok (.ladd, 1) := by decide +kernel
theorem d_SkeletonClockModel_dateField_45 : decode b_SkeletonClockModel_dateField 45 = .ok (.lstore 6, 2) := by decide +kernel
theorem d_SkeletonClockModel_dateField_47 : decode b_SkeletonClockModel_dateField 47 = .ok (.lload 6, 2) := by decide +kernel
theorem d_SkeletonClockModel_dateField_49 : decode b_SkeletonClockModel_dateField 49 = .ok (.invokestatic 150, 3) := by decide +kernel
theorem d_SkeletonClockModel_dateField_52 : decode b_SkeletonClockModel_dateField 52 = .ok (.lstore 8, 2) := by decide +kernel
theorem d_SkeletonClockModel_dateField_54 : decode b_SkeletonClockModel_dateField 54 = .ok (.iload_n 2, 1) := by decide +kernel
theorem d_SkeletonClockModel_dateField_55 : decode b_SkeletonClockModel_dateField 55 = .ok (.ifCond .ne 5, 3) := by decide +kernel
theorem d_SkeletonClockModel_dateField_58 : decode b_SkeletonClockModel_dateField 58 = .ok (.lload_n 3, 1) := by decide +kernel
theorem d_SkeletonClockModel_dateField_59 : decode b_SkeletonClockModel_dateField 59 = .ok (.lreturn, 1) := by decide +kernel
theorem d_SkeletonClockModel_dateField_60 : decode b_SkeletonClockModel_dateField 60 = .ok (.iload_n 2, 1) := by decide +kernel
theorem d_SkeletonClockModel_dateField_61 : decode b_SkeletonClockModel_dateField 61 = .ok (.iconst 1, 1) := by decide +kernel
theorem d_SkeletonClockModel_dateField_62 : decode b_SkeletonClockModel_dateField 62 = .ok (.if_icmp .ne 7, 3) := by decide +kernel
theorem d_SkeletonClockModel_dateField_65 : decode b_SkeletonClockModel_dateField 65 = .ok (.iload 5, 2) := by decide +kernel
theorem d_SkeletonClockModel_dateField_67 : decode b_SkeletonClockModel_dateField 67 = .ok (.i2l, 1) := by decide +kernel
theorem d_SkeletonClockModel_dateField_68 : decode b_SkeletonClockModel_dateField 68 = .ok (.lreturn, 1) := by decide +kernel
theorem d_SkeletonClockModel_dateField_69 : decode b_SkeletonClockModel_dateField 69 = .ok (.iload_n 2, 1) := by decide +kernel
theorem d_SkeletonClockModel_dateField_70 : decode b_SkeletonClockModel_dateField 70 = .ok (.iconst 2, 1) := by decide +kernel
theorem d_SkeletonClockModel_dateField_71 : decode b_SkeletonClockModel_dateField 71 = .ok (.if_icmp .ne 14, 3) := by decide +kernel
theorem d_SkeletonClockModel_dateField_74 : decode b_SkeletonClockModel_dateField 74 = .ok (.lload_n 0, 1) := by decide +kernel
theorem d_SkeletonClockModel_dateField_75 : decode b_SkeletonClockModel_dateField 75 = .ok (.lload_n 3, 1) := by decide +kernel
theorem d_SkeletonClockModel_dateField_76 : decode b_SkeletonClockModel_dateField 76 = .ok (.iload 5, 2) := by decide +kernel
theorem d_SkeletonClockModel_dateField_78 : decode b_SkeletonClockModel_dateField 78 = .ok (.invokestatic 153, 3) := by decide +kernel
theorem d_SkeletonClockModel_dateField_81 : decode b_SkeletonClockModel_dateField 81 = .ok (.lsub, 1) := by decide +kernel
theorem d_SkeletonClockModel_dateField_82 : decode b_SkeletonClockModel_dateField 82 = .ok (.lconst 1, 1) := by decide +kernel
theorem d_SkeletonClockModel_dateField_83 : decode b_SkeletonClockModel_dateField 83 = .ok (.ladd, 1) := by decide +kernel
theorem d_SkeletonClockModel_dateField_84 : decode b_SkeletonClockModel_dateField 84 = .ok (.lreturn, 1) := by decide +kernel
theorem d_SkeletonClockModel_dateField_85 : decode b_SkeletonClockModel_dateField 85 = .ok (.iload_n 2, 1) := by decide +kernel
theorem d_SkeletonClockModel_dateField_86 : decode b_SkeletonClockModel_dateField 86 = .ok (.iconst 3, 1) := by decide +kernel
theorem d_SkeletonClockModel_dateField_87 : decode b_SkeletonClockModel_dateField 87 = .ok (.if_icmp .ne 12, 3) := by decide +kernel
theorem d_SkeletonClockModel_dateField_90 : decode b_SkeletonClockModel_dateField 90 = .ok (.lload_n 0, 1) := by decide +kernel
theorem d_SkeletonClockModel_dateField_91 : decode b_SkeletonClockModel_dateField 91 = .ok (.lload_n 3, 1) := by decide +kernel
theorem d_SkeletonClockModel_dateField_92 : decode b_SkeletonClockModel_dateField 92 = .ok (.invokestatic 133, 3) := by decide +kernel
theorem d_SkeletonClockModel_dateField_95 : decode b_SkeletonClockModel_dateField 95 = .ok (.lsub, 1) := by decide +kernel
theorem d_SkeletonClockModel_dateField_96 : decode b_SkeletonClockModel_dateField 96 = .ok (.lconst 1, 1) := by decide +kernel
theorem d_SkeletonClockModel_dateField_97 : decode b_SkeletonClockModel_dateField 97 = .ok (.ladd, 1) := by decide +kernel
theorem d_SkeletonClockModel_dateField_98 : decode b_SkeletonClockModel_dateField 98 = .ok (.lreturn, 1) := by decide +kernel
theorem d_SkeletonClockModel_dateField_99 : decode b_SkeletonClockModel_dateField 99 = .ok (.iload_n 2, 1) := by decide +kernel
theorem d_SkeletonClockModel_dateField_100 : decode b_SkeletonClockModel_dateField 100 = .ok (.iconst 4, 1) := by decide +kernel
theorem d_SkeletonClockModel_dateField_101 : decode b_SkeletonClockModel_dateField 101 = .ok (.if_icmp .ne 9, 3) := by decide +kernel
theorem d_SkeletonClockModel_dateField_104 : decode b_SkeletonClockModel_dateField 104 = .ok (.lload_n 0, 1) := by decide +kernel
theorem d_SkeletonClockModel_dateField_105 : decode b_SkeletonClockModel_dateField 105 = .ok (.invokestatic 146, 3) := by decide +kernel
theorem d_SkeletonClockModel_dateField_108 : decode b_SkeletonClockModel_dateField 108 = .ok (.i2l, 1) := by decide +kernel
theorem d_SkeletonClockModel_dateField_109 : decode b_SkeletonClockModel_dateField 109 = .ok (.lreturn, 1) := by decide +kernel
theorem d_SkeletonClockModel_dateField_110 : decode b_SkeletonClockModel_dateField 110 = .ok (.iload_n 2, 1) := by decide +kernel
theorem d_SkeletonClockModel_dateField_111 : decode b_SkeletonClockModel_dateField 111 = .ok (.bipush 6, 2) := by decide +kernel
theorem d_SkeletonClockModel_dateField_113 : decode b_SkeletonClockModel_dateField 113 = .ok (.if_icmp .ne 8, 3) := by decide +kernel
theorem d_SkeletonClockModel_dateField_116 : decode b_SkeletonClockModel_dateField 116 = .ok (.lload 8, 2) := by decide +kernel
theorem d_SkeletonClockModel_dateField_118 : decode b_SkeletonClockModel_dateField 118 = .ok (.goto 17, 3) := by decide +kernel
theorem d_SkeletonClockModel_dateField_121 : decode b_SkeletonClockModel_dateField 121 = .ok (.lload 6, 2) := by decide +kernel
theorem d_SkeletonClockModel_dateField_123 : decode b_SkeletonClockModel_dateField 123 = .ok (.lload 8, 2) := by decide +kernel
theorem d_SkeletonClockModel_dateField_125 : decode b_SkeletonClockModel_dateField 125 = .ok (.invokestatic 133, 3) := by decide +kernel
theorem d_SkeletonClockModel_dateField_128 : decode b_SkeletonClockModel_dateField 128 = .ok (.lsub, 1) := by decide +kernel
theorem d_SkeletonClockModel_dateField_129 : decode b_SkeletonClockModel_dateField 129 = .ok (.ldc2_w 144, 3) := by decide +kernel
theorem d_SkeletonClockModel_dateField_132 : decode b_SkeletonClockModel_dateField 132 = .ok (.ldiv, 1) := by decide +kernel
theorem d_SkeletonClockModel_dateField_133 : decode b_SkeletonClockModel_dateField 133 = .ok (.lconst 1, 1) := by decide +kernel
theorem d_SkeletonClockModel_dateField_134 : decode b_SkeletonClockModel_dateField 134 = .ok (.ladd, 1) := by decide +kernel
theorem d_SkeletonClockModel_dateField_135 : decode b_SkeletonClockModel_dateField 135 = .ok (.lreturn, 1) := by decide +kernel
theorem d_SkeletonClockModel_timeField_0 : decode b_SkeletonClockModel_timeField 0 = .ok (.iload_n 0, 1) := by decide +kernel
theorem d_SkeletonClockModel_timeField_1 : decode b_SkeletonClockModel_timeField 1 = .ok (.sipush 3600, 3) := by decide +kernel
theorem d_SkeletonClockModel_timeField_4 : decode b_SkeletonClockModel_timeField 4 = .ok (.idiv, 1) := by decide +kernel
theorem d_SkeletonClockModel_timeField_5 : decode b_SkeletonClockModel_timeField 5 = .ok (.istore_n 2, 1) := by decide +kernel
theorem d_SkeletonClockModel_timeField_6 : decode b_SkeletonClockModel_timeField 6 = .ok (.iload_n 1, 1) := by decide +kernel
theorem d_SkeletonClockModel_timeField_7 : decode b_SkeletonClockModel_timeField 7 = .ok (.bipush 7, 2) := by decide +kernel
theorem d_SkeletonClockModel_timeField_9 : decode b_SkeletonClockModel_timeField 9 = .ok (.if_icmp .ne 5, 3) := by decide +kernel
theorem d_SkeletonClockModel_timeField_12 : decode b_SkeletonClockModel_timeField 12 = .ok (.iload_n 2, 1) := by decide +kernel
theorem d_SkeletonClockModel_timeField_13 : decode b_SkeletonClockModel_timeField 13 = .ok (.ireturn, 1) := by decide +kernel
theorem d_SkeletonClockModel_timeField_14 : decode b_SkeletonClockModel_timeField 14 = .ok (.iload_n 1, 1) := by decide +kernel
theorem d_SkeletonClockModel_timeField_15 : decode b_SkeletonClockModel_timeField 15 = .ok (.bipush 8, 2) := by decide +kernel
theorem d_SkeletonClockModel_timeField_17 : decode b_SkeletonClockModel_timeField 17 = .ok (.if_icmp .ne 20, 3) := by decide +kernel
theorem d_SkeletonClockModel_timeField_20 : decode b_SkeletonClockModel_timeField 20 = .ok (.iload_n 2, 1) := by decide +kernel
theorem d_SkeletonClockModel_timeField_21 : decode b_SkeletonClockModel_timeField 21 = .ok (.bipush 12, 2) := by decide +kernel
theorem d_SkeletonClockModel_timeField_23 : decode b_SkeletonClockModel_timeField 23 = .ok (.irem, 1) := by decide +kernel
theorem d_SkeletonClockModel_timeField_24 : decode b_SkeletonClockModel_timeField 24 = .ok (.ifCond .ne 8, 3) := by decide +kernel
theorem d_SkeletonClockModel_timeField_27 : decode b_SkeletonClockModel_timeField 27 = .ok (.bipush 12, 2) := by decide +kernel
theorem d_SkeletonClockModel_timeField_29 : decode b_SkeletonClockModel_timeField 29 = .ok (.goto 7, 3) := by decide +kernel
theorem d_SkeletonClockModel_timeField_32 : decode b_SkeletonClockModel_timeField 32 = .ok (.iload_n 2, 1) := by decide +kernel
theorem d_SkeletonClockModel_timeField_33 : decode b_SkeletonClockModel_timeField 33 = .ok (.bipush 12, 2) := by decide +kernel
theorem d_SkeletonClockModel_timeField_35 : decode b_SkeletonClockModel_timeField 35 = .ok (.irem, 1) := by decide +kernel
theorem d_SkeletonClockModel_timeField_36 : decode b_SkeletonClockModel_timeField 36 = .ok (.ireturn, 1) := by decide +kernel
theorem d_SkeletonClockModel_timeField_37 : decode b_SkeletonClockModel_timeField 37 = .ok (.iload_n 1, 1) := by decide +kernel
theorem d_SkeletonClockModel_timeField_38 : decode b_SkeletonClockModel_timeField 38 = .ok (.bipush 9, 2) := by decide +kernel
theorem d_SkeletonClockModel_timeField_40 : decode b_SkeletonClockModel_timeField 40 = .ok (.if_icmp .ne 15, 3) := by decide +kernel
theorem d_SkeletonClockModel_timeField_43 : decode b_SkeletonClockModel_timeField 43 = .ok (.iload_n 2, 1) := by decide +kernel
theorem d_SkeletonClockModel_timeField_44 : decode b_SkeletonClockModel_timeField 44 = .ok (.bipush 12, 2) := by decide +kernel
theorem d_SkeletonClockModel_timeField_46 : decode b_SkeletonClockModel_timeField 46 = .ok (.if_icmp .ge 7, 3) := by decide +kernel
theorem d_SkeletonClockModel_timeField_49 : decode b_SkeletonClockModel_timeField 49 = .ok (.iconst 0, 1) := by decide +kernel
theorem d_SkeletonClockModel_timeField_50 : decode b_SkeletonClockModel_timeField 50 = .ok (.goto 4, 3) := by decide +kernel
theorem d_SkeletonClockModel_timeField_53 : decode b_SkeletonClockModel_timeField 53 = .ok (.iconst 1, 1) := by decide +kernel
theorem d_SkeletonClockModel_timeField_54 : decode b_SkeletonClockModel_timeField 54 = .ok (.ireturn, 1) := by decide +kernel
theorem d_SkeletonClockModel_timeField_55 : decode b_SkeletonClockModel_timeField 55 = .ok (.iload_n 1, 1) := by decide +kernel
theorem d_SkeletonClockModel_timeField_56 : decode b_SkeletonClockModel_timeField 56 = .ok (.bipush 10, 2) := by decide +kernel
theorem d_SkeletonClockModel_timeField_58 : decode b_SkeletonClockModel_timeField 58 = .ok (.if_icmp .ne 13, 3) := by decide +kernel
theorem d_SkeletonClockModel_timeField_61 : decode b_SkeletonClockModel_timeField 61 = .ok (.iload_n 0, 1) := by decide +kernel
theorem d_SkeletonClockModel_timeField_62 : decode b_SkeletonClockModel_timeField 62 = .ok (.bipush 60, 2) := by decide +kernel
theorem d_SkeletonClockModel_timeField_64 : decode b_SkeletonClockModel_timeField 64 = .ok (.idiv, 1) := by decide +kernel
theorem d_SkeletonClockModel_timeField_65 : decode b_SkeletonClockModel_timeField 65 = .ok (.bipush 60, 2) := by decide +kernel
theorem d_SkeletonClockModel_timeField_67 : decode b_SkeletonClockModel_timeField 67 = .ok (.irem, 1) := by decide +kernel
theorem d_SkeletonClockModel_timeField_68 : decode b_SkeletonClockModel_timeField 68 = .ok (.goto 7, 3) := by decide +kernel
theorem d_SkeletonClockModel_timeField_71 : decode b_SkeletonClockModel_timeField 71 = .ok (.iload_n 0, 1) := by decide +kernel
theorem d_SkeletonClockModel_timeField_72 : decode b_SkeletonClockModel_timeField 72 = .ok (.bipush 60, 2) := by decide +kernel
theorem d_SkeletonClockModel_timeField_74 : decode b_SkeletonClockModel_timeField 74 = .ok (.irem, 1) := by decide +kernel
theorem d_SkeletonClockModel_timeField_75 : decode b_SkeletonClockModel_timeField 75 = .ok (.ireturn, 1) := by decide +kernel
theorem d_SkeletonClockModel_present_0 : decode b_SkeletonClockModel_present 0 = .ok (.iload_n 1, 1) := by decide +kernel
theorem d_SkeletonClockModel_present_1 : decode b_SkeletonClockModel_present 1 = .ok (.bipush 6, 2) := by decide +kernel
theorem d_SkeletonClockModel_present_3 : decode b_SkeletonClockModel_present 3 = .ok (.if_icmp .gt 14, 3) := by decide +kernel
theorem d_SkeletonClockModel_present_6 : decode b_SkeletonClockModel_present 6 = .ok (.aload_n 0, 1) := by decide +kernel
theorem d_SkeletonClockModel_present_7 : decode b_SkeletonClockModel_present 7 = .ok (.getfield 157, 3) := by decide +kernel
theorem d_SkeletonClockModel_present_10 : decode b_SkeletonClockModel_present 10 = .ok (.iload_n 1, 1) := by decide +kernel
theorem d_SkeletonClockModel_present_11 : decode b_SkeletonClockModel_present 11 = .ok (.invokestatic 161, 3) := by decide +kernel
theorem d_SkeletonClockModel_present_14 : decode b_SkeletonClockModel_present 14 = .ok (.goto 40, 3) := by decide +kernel
theorem d_SkeletonClockModel_present_17 : decode b_SkeletonClockModel_present 17 = .ok (.iload_n 1, 1) := by decide +kernel
theorem d_SkeletonClockModel_present_18 : decode b_SkeletonClockModel_present 18 = .ok (.bipush 13, 2) := by decide +kernel
theorem d_SkeletonClockModel_present_20 : decode b_SkeletonClockModel_present 20 = .ok (.if_icmp .ne 11, 3) := by decide +kernel
theorem d_SkeletonClockModel_present_23 : decode b_SkeletonClockModel_present 23 = .ok (.aload_n 0, 1) := by decide +kernel
theorem d_SkeletonClockModel_present_24 : decode b_SkeletonClockModel_present 24 = .ok (.getfield 164, 3) := by decide +kernel
theorem d_SkeletonClockModel_present_27 : decode b_SkeletonClockModel_present 27 = .ok (.i2l, 1) := by decide +kernel
theorem d_SkeletonClockModel_present_28 : decode b_SkeletonClockModel_present 28 = .ok (.goto 26, 3) := by decide +kernel
theorem d_SkeletonClockModel_present_31 : decode b_SkeletonClockModel_present 31 = .ok (.iload_n 1, 1) := by decide +kernel
theorem d_SkeletonClockModel_present_32 : decode b_SkeletonClockModel_present 32 = .ok (.bipush 12, 2) := by decide +kernel
theorem d_SkeletonClockModel_present_34 : decode b_SkeletonClockModel_present 34 = .ok (.if_icmp .ne 11, 3) := by decide +kernel
theorem d_SkeletonClockModel_present_37 : decode b_SkeletonClockModel_present 37 = .ok (.aload_n 0, 1) := by decide +kernel
theorem d_SkeletonClockModel_present_38 : decode b_SkeletonClockModel_present 38 = .ok (.getfield 167, 3) := by decide +kernel
theorem d_SkeletonClockModel_present_41 : decode b_SkeletonClockModel_present 41 = .ok (.i2l, 1) := by decide +kernel
theorem d_SkeletonClockModel_present_42 : decode b_SkeletonClockModel_present 42 = .ok (.goto 12, 3) := by decide +kernel
theorem d_SkeletonClockModel_present_45 : decode b_SkeletonClockModel_present 45 = .ok (.aload_n 0, 1) := by decide +kernel
theorem d_SkeletonClockModel_present_46 : decode b_SkeletonClockModel_present 46 = .ok (.getfield 170, 3) := by decide +kernel
theorem d_SkeletonClockModel_present_49 : decode b_SkeletonClockModel_present 49 = .ok (.iload_n 1, 1) := by decide +kernel
theorem d_SkeletonClockModel_present_50 : decode b_SkeletonClockModel_present 50 = .ok (.invokestatic 173, 3) := by decide +kernel
theorem d_SkeletonClockModel_present_53 : decode b_SkeletonClockModel_present 53 = .ok (.i2l, 1) := by decide +kernel
theorem d_SkeletonClockModel_present_54 : decode b_SkeletonClockModel_present 54 = .ok (.lreturn, 1) := by decide +kernel
theorem d_SkeletonClockModel_partOf_0 : decode b_SkeletonClockModel_partOf 0 = .ok (.iload_n 0, 1) := by decide +kernel
theorem d_SkeletonClockModel_partOf_1 : decode b_SkeletonClockModel_partOf 1 = .ok (.bipush 6, 2) := by decide +kernel
theorem d_SkeletonClockModel_partOf_3 : decode b_SkeletonClockModel_partOf 3 = .ok (.if_icmp .gt 7, 3) := by decide +kernel
theorem d_SkeletonClockModel_partOf_6 : decode b_SkeletonClockModel_partOf 6 = .ok (.iconst 1, 1) := by decide +kernel
theorem d_SkeletonClockModel_partOf_7 : decode b_SkeletonClockModel_partOf 7 = .ok (.goto 14, 3) := by decide +kernel
theorem d_SkeletonClockModel_partOf_10 : decode b_SkeletonClockModel_partOf 10 = .ok (.iload_n 0, 1) := by decide +kernel
theorem d_SkeletonClockModel_partOf_11 : decode b_SkeletonClockModel_partOf 11 = .ok (.bipush 13, 2) := by decide +kernel
theorem d_SkeletonClockModel_partOf_13 : decode b_SkeletonClockModel_partOf 13 = .ok (.if_icmp .ne 7, 3) := by decide +kernel
theorem d_SkeletonClockModel_partOf_16 : decode b_SkeletonClockModel_partOf 16 = .ok (.iconst 4, 1) := by decide +kernel
theorem d_SkeletonClockModel_partOf_17 : decode b_SkeletonClockModel_partOf 17 = .ok (.goto 4, 3) := by decide +kernel
theorem d_SkeletonClockModel_partOf_20 : decode b_SkeletonClockModel_partOf 20 = .ok (.iconst 2, 1) := by decide +kernel
theorem d_SkeletonClockModel_partOf_21 : decode b_SkeletonClockModel_partOf 21 = .ok (.ireturn, 1) := by decide +kernel
theorem d_SkeletonClockModel_fieldOf_0 : decode b_SkeletonClockModel_fieldOf 0 = .ok (.iload_n 0, 1) := by decide +kernel
theorem d_SkeletonClockModel_fieldOf_1 : decode b_SkeletonClockModel_fieldOf 1 = .ok (.bipush 117, 2) := by decide +kernel
theorem d_SkeletonClockModel_fieldOf_3 : decode b_SkeletonClockModel_fieldOf 3 = .ok (.if_icmp .ne 7, 3) := by decide +kernel
theorem d_SkeletonClockModel_fieldOf_6 : decode b_SkeletonClockModel_fieldOf 6 = .ok (.iconst 0, 1) := by decide +kernel
theorem d_SkeletonClockModel_fieldOf_7 : decode b_SkeletonClockModel_fieldOf 7 = .ok (.goto 65, 3) := by decide +kernel
theorem d_SkeletonClockModel_fieldOf_10 : decode b_SkeletonClockModel_fieldOf 10 = .ok (.iload_n 0, 1) := by decide +kernel
theorem d_SkeletonClockModel_fieldOf_11 : decode b_SkeletonClockModel_fieldOf 11 = .ok (.bipush 77, 2) := by decide +kernel
theorem d_SkeletonClockModel_fieldOf_13 : decode b_SkeletonClockModel_fieldOf 13 = .ok (.if_icmp .ne 7, 3) := by decide +kernel
theorem d_SkeletonClockModel_fieldOf_16 : decode b_SkeletonClockModel_fieldOf 16 = .ok (.iconst 1, 1) := by decide +kernel
theorem d_SkeletonClockModel_fieldOf_17 : decode b_SkeletonClockModel_fieldOf 17 = .ok (.goto 55, 3) := by decide +kernel
theorem d_SkeletonClockModel_fieldOf_20 : decode b_SkeletonClockModel_fieldOf 20 = .ok (.iload_n 0, 1) := by decide +kernel
theorem d_SkeletonClockModel_fieldOf_21 : decode b_SkeletonClockModel_fieldOf 21 = .ok (.bipush 100, 2) := by decide +kernel
theorem d_SkeletonClockModel_fieldOf_23 : decode b_SkeletonClockModel_fieldOf 23 = .ok (.if_icmp .ne 7, 3) := by decide +kernel
theorem d_SkeletonClockModel_fieldOf_26 : decode b_SkeletonClockModel_fieldOf 26 = .ok (.iconst 2, 1) := by decide +kernel
theorem d_SkeletonClockModel_fieldOf_27 : decode b_SkeletonClockModel_fieldOf 27 = .ok (.goto 45, 3) := by decide +kernel
theorem d_SkeletonClockModel_fieldOf_30 : decode b_SkeletonClockModel_fieldOf 30 = .ok (.iload_n 0, 1) := by decide +kernel
theorem d_SkeletonClockModel_fieldOf_31 : decode b_SkeletonClockModel_fieldOf 31 = .ok (.bipush 68, 2) := by decide +kernel
theorem d_SkeletonClockModel_fieldOf_33 : decode b_SkeletonClockModel_fieldOf 33 = .ok (.if_icmp .ne 7, 3) := by decide +kernel
theorem d_SkeletonClockModel_fieldOf_36 : decode b_SkeletonClockModel_fieldOf 36 = .ok (.iconst 3, 1) := by decide +kernel
theorem d_SkeletonClockModel_fieldOf_37 : decode b_SkeletonClockModel_fieldOf 37 = .ok (.goto 35, 3) := by decide +kernel
theorem d_SkeletonClockModel_fieldOf_40 : decode b_SkeletonClockModel_fieldOf 40 = .ok (.iload_n 0, 1) := by decide +kernel
theorem d_SkeletonClockModel_fieldOf_41 : decode b_SkeletonClockModel_fieldOf 41 = .ok (.bipush 69, 2) := by decide +kernel
theorem d_SkeletonClockModel_fieldOf_43 : decode b_SkeletonClockModel_fieldOf 43 = .ok (.if_icmp .ne 7, 3) := by decide +kernel
theorem d_SkeletonClockModel_fieldOf_46 : decode b_SkeletonClockModel_fieldOf 46 = .ok (.iconst 4, 1) := by decide +kernel
theorem d_SkeletonClockModel_fieldOf_47 : decode b_SkeletonClockModel_fieldOf 47 = .ok (.goto 25, 3) := by decide +kernel
theorem d_SkeletonClockModel_fieldOf_50 : decode b_SkeletonClockModel_fieldOf 50 = .ok (.iload_n 0, 1) := by decide +kernel
theorem d_SkeletonClockModel_fieldOf_51 : decode b_SkeletonClockModel_fieldOf 51 = .ok (.bipush 119, 2) := by decide +kernel
theorem d_SkeletonClockModel_fieldOf_53 : decode b_SkeletonClockModel_fieldOf 53 = .ok (.if_icmp .ne 7, 3) := by decide +kernel
theorem d_SkeletonClockModel_fieldOf_56 : decode b_SkeletonClockModel_fieldOf 56 = .ok (.iconst 5, 1) := by decide +kernel
theorem d_SkeletonClockModel_fieldOf_57 : decode b_SkeletonClockModel_fieldOf 57 = .ok (.goto 15, 3) := by decide +kernel
theorem d_SkeletonClockModel_fieldOf_60 : decode b_SkeletonClockModel_fieldOf 60 = .ok (.iload_n 0, 1) := by decide +kernel
theorem d_SkeletonClockModel_fieldOf_61 : decode b_SkeletonClockModel_fieldOf 61 = .ok (.bipush 89, 2) := by decide +kernel
theorem d_SkeletonClockModel_fieldOf_63 : decode b_SkeletonClockModel_fieldOf 63 = .ok (.if_icmp .ne 8, 3) := by decide +kernel
theorem d_SkeletonClockModel_fieldOf_66 : decode b_SkeletonClockModel_fieldOf 66 = .ok (.bipush 6, 2) := by decide +kernel
theorem d_SkeletonClockModel_fieldOf_68 : decode b_SkeletonClockModel_fieldOf 68 = .ok (.goto 4, 3) := by decide +kernel
theorem d_SkeletonClockModel_fieldOf_71 : decode b_SkeletonClockModel_fieldOf 71 = .ok (.iconst (-1), 1) := by decide +kernel
theorem d_SkeletonClockModel_fieldOf_72 : decode b_SkeletonClockModel_fieldOf 72 = .ok (.istore_n 1, 1) := by decide +kernel
theorem d_SkeletonClockModel_fieldOf_73 : decode b_SkeletonClockModel_fieldOf 73 = .ok (.iload_n 0, 1) := by decide +kernel
theorem d_SkeletonClockModel_fieldOf_74 : decode b_SkeletonClockModel_fieldOf 74 = .ok (.bipush 72, 2) := by decide +kernel
theorem d_SkeletonClockModel_fieldOf_76 : decode b_SkeletonClockModel_fieldOf 76 = .ok (.if_icmp .ne 8, 3) := by decide +kernel
theorem d_SkeletonClockModel_fieldOf_79 : decode b_SkeletonClockModel_fieldOf 79 = .ok (.bipush 7, 2) := by decide +kernel
theorem d_SkeletonClockModel_fieldOf_81 : decode b_SkeletonClockModel_fieldOf 81 = .ok (.goto 76, 3) := by decide +kernel
theorem d_SkeletonClockModel_fieldOf_84 : decode b_SkeletonClockModel_fieldOf 84 = .ok (.iload_n 0, 1) := by decide +kernel
theorem d_SkeletonClockModel_fieldOf_85 : decode b_SkeletonClockModel_fieldOf 85 = .ok (.bipush 104, 2) := by decide +kernel
theorem d_SkeletonClockModel_fieldOf_87 : decode b_SkeletonClockModel_fieldOf 87 = .ok (.if_icmp .ne 8, 3) := by decide +kernel
theorem d_SkeletonClockModel_fieldOf_90 : decode b_SkeletonClockModel_fieldOf 90 = .ok (.bipush 8, 2) := by decide +kernel
theorem d_SkeletonClockModel_fieldOf_92 : decode b_SkeletonClockModel_fieldOf 92 = .ok (.goto 65, 3) := by decide +kernel
theorem d_SkeletonClockModel_fieldOf_95 : decode b_SkeletonClockModel_fieldOf 95 = .ok (.iload_n 0, 1) := by decide +kernel
theorem d_SkeletonClockModel_fieldOf_96 : decode b_SkeletonClockModel_fieldOf 96 = .ok (.bipush 97, 2) := by decide +kernel
theorem d_SkeletonClockModel_fieldOf_98 : decode b_SkeletonClockModel_fieldOf 98 = .ok (.if_icmp .ne 8, 3) := by decide +kernel
theorem d_SkeletonClockModel_fieldOf_101 : decode b_SkeletonClockModel_fieldOf 101 = .ok (.bipush 9, 2) := by decide +kernel
theorem d_SkeletonClockModel_fieldOf_103 : decode b_SkeletonClockModel_fieldOf 103 = .ok (.goto 54, 3) := by decide +kernel
theorem d_SkeletonClockModel_fieldOf_106 : decode b_SkeletonClockModel_fieldOf 106 = .ok (.iload_n 0, 1) := by decide +kernel
theorem d_SkeletonClockModel_fieldOf_107 : decode b_SkeletonClockModel_fieldOf 107 = .ok (.bipush 109, 2) := by decide +kernel
theorem d_SkeletonClockModel_fieldOf_109 : decode b_SkeletonClockModel_fieldOf 109 = .ok (.if_icmp .ne 8, 3) := by decide +kernel
theorem d_SkeletonClockModel_fieldOf_112 : decode b_SkeletonClockModel_fieldOf 112 = .ok (.bipush 10, 2) := by decide +kernel
theorem d_SkeletonClockModel_fieldOf_114 : decode b_SkeletonClockModel_fieldOf 114 = .ok (.goto 43, 3) := by decide +kernel
theorem d_SkeletonClockModel_fieldOf_117 : decode b_SkeletonClockModel_fieldOf 117 = .ok (.iload_n 0, 1) := by decide +kernel
theorem d_SkeletonClockModel_fieldOf_118 : decode b_SkeletonClockModel_fieldOf 118 = .ok (.bipush 115, 2) := by decide +kernel
theorem d_SkeletonClockModel_fieldOf_120 : decode b_SkeletonClockModel_fieldOf 120 = .ok (.if_icmp .ne 8, 3) := by decide +kernel
theorem d_SkeletonClockModel_fieldOf_123 : decode b_SkeletonClockModel_fieldOf 123 = .ok (.bipush 11, 2) := by decide +kernel
theorem d_SkeletonClockModel_fieldOf_125 : decode b_SkeletonClockModel_fieldOf 125 = .ok (.goto 32, 3) := by decide +kernel
theorem d_SkeletonClockModel_fieldOf_128 : decode b_SkeletonClockModel_fieldOf 128 = .ok (.iload_n 0, 1) := by decide +kernel
theorem d_SkeletonClockModel_fieldOf_129 : decode b_SkeletonClockModel_fieldOf 129 = .ok (.bipush 83, 2) := by decide +kernel
theorem d_SkeletonClockModel_fieldOf_131 : decode b_SkeletonClockModel_fieldOf 131 = .ok (.if_icmp .ne 8, 3) := by decide +kernel
theorem d_SkeletonClockModel_fieldOf_134 : decode b_SkeletonClockModel_fieldOf 134 = .ok (.bipush 12, 2) := by decide +kernel
theorem d_SkeletonClockModel_fieldOf_136 : decode b_SkeletonClockModel_fieldOf 136 = .ok (.goto 21, 3) := by decide +kernel
theorem d_SkeletonClockModel_fieldOf_139 : decode b_SkeletonClockModel_fieldOf 139 = .ok (.iload_n 0, 1) := by decide +kernel
theorem d_SkeletonClockModel_fieldOf_140 : decode b_SkeletonClockModel_fieldOf 140 = .ok (.bipush 88, 2) := by decide +kernel
theorem d_SkeletonClockModel_fieldOf_142 : decode b_SkeletonClockModel_fieldOf 142 = .ok (.if_icmp .eq 9, 3) := by decide +kernel
theorem d_SkeletonClockModel_fieldOf_145 : decode b_SkeletonClockModel_fieldOf 145 = .ok (.iload_n 0, 1) := by decide +kernel
theorem d_SkeletonClockModel_fieldOf_146 : decode b_SkeletonClockModel_fieldOf 146 = .ok (.bipush 120, 2) := by decide +kernel
theorem d_SkeletonClockModel_fieldOf_148 : decode b_SkeletonClockModel_fieldOf 148 = .ok (.if_icmp .ne 8, 3) := by decide +kernel
theorem d_SkeletonClockModel_fieldOf_151 : decode b_SkeletonClockModel_fieldOf 151 = .ok (.bipush 13, 2) := by decide +kernel
theorem d_SkeletonClockModel_fieldOf_153 : decode b_SkeletonClockModel_fieldOf 153 = .ok (.goto 4, 3) := by decide +kernel
theorem d_SkeletonClockModel_fieldOf_156 : decode b_SkeletonClockModel_fieldOf 156 = .ok (.iconst (-1), 1) := by decide +kernel
theorem d_SkeletonClockModel_fieldOf_157 : decode b_SkeletonClockModel_fieldOf 157 = .ok (.istore_n 2, 1) := by decide +kernel
theorem d_SkeletonClockModel_fieldOf_158 : decode b_SkeletonClockModel_fieldOf 158 = .ok (.iload_n 1, 1) := by decide +kernel
theorem d_SkeletonClockModel_fieldOf_159 : decode b_SkeletonClockModel_fieldOf 159 = .ok (.ifCond .lt 7, 3) := by decide +kernel
theorem d_SkeletonClockModel_fieldOf_162 : decode b_SkeletonClockModel_fieldOf 162 = .ok (.iload_n 1, 1) := by decide +kernel
theorem d_SkeletonClockModel_fieldOf_163 : decode b_SkeletonClockModel_fieldOf 163 = .ok (.goto 4, 3) := by decide +kernel
theorem d_SkeletonClockModel_fieldOf_166 : decode b_SkeletonClockModel_fieldOf 166 = .ok (.iload_n 2, 1) := by decide +kernel
theorem d_SkeletonClockModel_fieldOf_167 : decode b_SkeletonClockModel_fieldOf 167 = .ok (.ireturn, 1) := by decide +kernel
theorem d_SkeletonClockModel_allowed_0 : decode b_SkeletonClockModel_allowed 0 = .ok (.iload_n 0, 1) := by decide +kernel
theorem d_SkeletonClockModel_allowed_1 : decode b_SkeletonClockModel_allowed 1 = .ok (.invokestatic 177, 3) := by decide +kernel
theorem d_SkeletonClockModel_allowed_4 : decode b_SkeletonClockModel_allowed 4 = .ok (.istore_n 2, 1) := by decide +kernel
theorem d_SkeletonClockModel_allowed_5 : decode b_SkeletonClockModel_allowed 5 = .ok (.iload_n 2, 1) := by decide +kernel
theorem d_SkeletonClockModel_allowed_6 : decode b_SkeletonClockModel_allowed 6 = .ok (.ifCond .eq 9, 3) := by decide +kernel
theorem d_SkeletonClockModel_allowed_9 : decode b_SkeletonClockModel_allowed 9 = .ok (.iload_n 2, 1) := by decide +kernel
theorem d_SkeletonClockModel_allowed_10 : decode b_SkeletonClockModel_allowed 10 = .ok (.bipush 6, 2) := by decide +kernel
theorem d_SkeletonClockModel_allowed_12 : decode b_SkeletonClockModel_allowed 12 = .ok (.if_icmp .ne 24, 3) := by decide +kernel
theorem d_SkeletonClockModel_allowed_15 : decode b_SkeletonClockModel_allowed 15 = .ok (.iload_n 1, 1) := by decide +kernel
theorem d_SkeletonClockModel_allowed_16 : decode b_SkeletonClockModel_allowed 16 = .ok (.iconst 1, 1) := by decide +kernel
theorem d_SkeletonClockModel_allowed_17 : decode b_SkeletonClockModel_allowed 17 = .ok (.if_icmp .eq 13, 3) := by decide +kernel
theorem d_SkeletonClockModel_allowed_20 : decode b_SkeletonClockModel_allowed 20 = .ok (.iload_n 1, 1) := by decide +kernel
theorem d_SkeletonClockModel_allowed_21 : decode b_SkeletonClockModel_allowed 21 = .ok (.iconst 2, 1) := by decide +kernel
theorem d_SkeletonClockModel_allowed_22 : decode b_SkeletonClockModel_allowed 22 = .ok (.if_icmp .eq 8, 3) := by decide +kernel
theorem d_SkeletonClockModel_allowed_25 : decode b_SkeletonClockModel_allowed 25 = .ok (.iload_n 1, 1) := by decide +kernel
theorem d_SkeletonClockModel_allowed_26 : decode b_SkeletonClockModel_allowed 26 = .ok (.iconst 4, 1) := by decide +kernel
theorem d_SkeletonClockModel_allowed_27 : decode b_SkeletonClockModel_allowed 27 = .ok (.if_icmp .ne 7, 3) := by decide +kernel
theorem d_SkeletonClockModel_allowed_30 : decode b_SkeletonClockModel_allowed 30 = .ok (.iconst 1, 1) := by decide +kernel
theorem d_SkeletonClockModel_allowed_31 : decode b_SkeletonClockModel_allowed 31 = .ok (.goto 4, 3) := by decide +kernel
theorem d_SkeletonClockModel_allowed_34 : decode b_SkeletonClockModel_allowed 34 = .ok (.iconst 0, 1) := by decide +kernel
theorem d_SkeletonClockModel_allowed_35 : decode b_SkeletonClockModel_allowed 35 = .ok (.ireturn, 1) := by decide +kernel
theorem d_SkeletonClockModel_allowed_36 : decode b_SkeletonClockModel_allowed 36 = .ok (.iload_n 2, 1) := by decide +kernel
theorem d_SkeletonClockModel_allowed_37 : decode b_SkeletonClockModel_allowed 37 = .ok (.iconst 1, 1) := by decide +kernel
theorem d_SkeletonClockModel_allowed_38 : decode b_SkeletonClockModel_allowed 38 = .ok (.if_icmp .ne 14, 3) := by decide +kernel
theorem d_SkeletonClockModel_allowed_41 : decode b_SkeletonClockModel_allowed 41 = .ok (.iload_n 1, 1) := by decide +kernel
theorem d_SkeletonClockModel_allowed_42 : decode b_SkeletonClockModel_allowed 42 = .ok (.iconst 4, 1) := by decide +kernel
theorem d_SkeletonClockModel_allowed_43 : decode b_SkeletonClockModel_allowed 43 = .ok (.if_icmp .gt 7, 3) := by decide +kernel
theorem d_SkeletonClockModel_allowed_46 : decode b_SkeletonClockModel_allowed 46 = .ok (.iconst 1, 1) := by decide +kernel
theorem d_SkeletonClockModel_allowed_47 : decode b_SkeletonClockModel_allowed 47 = .ok (.goto 4, 3) := by decide +kernel
theorem d_SkeletonClockModel_allowed_50 : decode b_SkeletonClockModel_allowed 50 = .ok (.iconst 0, 1) := by decide +kernel
theorem d_SkeletonClockModel_allowed_51 : decode b_SkeletonClockModel_allowed 51 = .ok (.ireturn, 1) := by decide +kernel
theorem d_SkeletonClockModel_allowed_52 : decode b_SkeletonClockModel_allowed 52 = .ok (.iload_n 2, 1) := by decide +kernel
theorem d_SkeletonClockModel_allowed_53 : decode b_SkeletonClockModel_allowed 53 = .ok (.iconst 3, 1) := by decide +kernel
theorem d_SkeletonClockModel_allowed_54 : decode b_SkeletonClockModel_allowed 54 = .ok (.if_icmp .ne 19, 3) := by decide +kernel
theorem d_SkeletonClockModel_allowed_57 : decode b_SkeletonClockModel_allowed 57 = .ok (.iload_n 1, 1) := by decide +kernel
theorem d_SkeletonClockModel_allowed_58 : decode b_SkeletonClockModel_allowed 58 = .ok (.iconst 1, 1) := by decide +kernel
theorem d_SkeletonClockModel_allowed_59 : decode b_SkeletonClockModel_allowed 59 = .ok (.if_icmp .eq 8, 3) := by decide +kernel
theorem d_SkeletonClockModel_allowed_62 : decode b_SkeletonClockModel_allowed 62 = .ok (.iload_n 1, 1) := by decide +kernel
theorem d_SkeletonClockModel_allowed_63 : decode b_SkeletonClockModel_allowed 63 = .ok (.iconst 3, 1) := by decide +kernel
theorem d_SkeletonClockModel_allowed_64 : decode b_SkeletonClockModel_allowed 64 = .ok (.if_icmp .ne 7, 3) := by decide +kernel
theorem d_SkeletonClockModel_allowed_67 : decode b_SkeletonClockModel_allowed 67 = .ok (.iconst 1, 1) := by decide +kernel
theorem d_SkeletonClockModel_allowed_68 : decode b_SkeletonClockModel_allowed 68 = .ok (.goto 4, 3) := by decide +kernel
theorem d_SkeletonClockModel_allowed_71 : decode b_SkeletonClockModel_allowed 71 = .ok (.iconst 0, 1) := by decide +kernel
theorem d_SkeletonClockModel_allowed_72 : decode b_SkeletonClockModel_allowed 72 = .ok (.ireturn, 1) := by decide +kernel
theorem d_SkeletonClockModel_allowed_73 : decode b_SkeletonClockModel_allowed 73 = .ok (.iload_n 2, 1) := by decide +kernel
theorem d_SkeletonClockModel_allowed_74 : decode b_SkeletonClockModel_allowed 74 = .ok (.iconst 4, 1) := by decide +kernel
theorem d_SkeletonClockModel_allowed_75 : decode b_SkeletonClockModel_allowed 75 = .ok (.if_icmp .ne 19, 3) := by decide +kernel
theorem d_SkeletonClockModel_allowed_78 : decode b_SkeletonClockModel_allowed 78 = .ok (.iload_n 1, 1) := by decide +kernel
theorem d_SkeletonClockModel_allowed_79 : decode b_SkeletonClockModel_allowed 79 = .ok (.iconst 3, 1) := by decide +kernel
theorem d_SkeletonClockModel_allowed_80 : decode b_SkeletonClockModel_allowed 80 = .ok (.if_icmp .eq 8, 3) := by decide +kernel
theorem d_SkeletonClockModel_allowed_83 : decode b_SkeletonClockModel_allowed 83 = .ok (.iload_n 1, 1) := by decide +kernel
theorem d_SkeletonClockModel_allowed_84 : decode b_SkeletonClockModel_allowed 84 = .ok (.iconst 4, 1) := by decide +kernel
theorem d_SkeletonClockModel_allowed_85 : decode b_SkeletonClockModel_allowed 85 = .ok (.if_icmp .ne 7, 3) := by decide +kernel
theorem d_SkeletonClockModel_allowed_88 : decode b_SkeletonClockModel_allowed 88 = .ok (.iconst 1, 1) := by decide +kernel
theorem d_SkeletonClockModel_allowed_89 : decode b_SkeletonClockModel_allowed 89 = .ok (.goto 4, 3) := by decide +kernel
theorem d_SkeletonClockModel_allowed_92 : decode b_SkeletonClockModel_allowed 92 = .ok (.iconst 0, 1) := by decide +kernel
theorem d_SkeletonClockModel_allowed_93 : decode b_SkeletonClockModel_allowed 93 = .ok (.ireturn, 1) := by decide +kernel
theorem d_SkeletonClockModel_allowed_94 : decode b_SkeletonClockModel_allowed 94 = .ok (.iload_n 2, 1) := by decide +kernel
theorem d_SkeletonClockModel_allowed_95 : decode b_SkeletonClockModel_allowed 95 = .ok (.bipush 9, 2) := by decide +kernel
theorem d_SkeletonClockModel_allowed_97 : decode b_SkeletonClockModel_allowed 97 = .ok (.if_icmp .ne 14, 3) := by decide +kernel
theorem d_SkeletonClockModel_allowed_100 : decode b_SkeletonClockModel_allowed 100 = .ok (.iload_n 1, 1) := by decide +kernel
theorem d_SkeletonClockModel_allowed_101 : decode b_SkeletonClockModel_allowed 101 = .ok (.iconst 1, 1) := by decide +kernel
theorem d_SkeletonClockModel_allowed_102 : decode b_SkeletonClockModel_allowed 102 = .ok (.if_icmp .ne 7, 3) := by decide +kernel
theorem d_SkeletonClockModel_allowed_105 : decode b_SkeletonClockModel_allowed 105 = .ok (.iconst 1, 1) := by decide +kernel
theorem d_SkeletonClockModel_allowed_106 : decode b_SkeletonClockModel_allowed 106 = .ok (.goto 4, 3) := by decide +kernel
theorem d_SkeletonClockModel_allowed_109 : decode b_SkeletonClockModel_allowed 109 = .ok (.iconst 0, 1) := by decide +kernel
theorem d_SkeletonClockModel_allowed_110 : decode b_SkeletonClockModel_allowed 110 = .ok (.ireturn, 1) := by decide +kernel
theorem d_SkeletonClockModel_allowed_111 : decode b_SkeletonClockModel_allowed 111 = .ok (.iload_n 2, 1) := by decide +kernel
theorem d_SkeletonClockModel_allowed_112 : decode b_SkeletonClockModel_allowed 112 = .ok (.bipush 12, 2) := by decide +kernel
theorem d_SkeletonClockModel_allowed_114 : decode b_SkeletonClockModel_allowed 114 = .ok (.if_icmp .ne 15, 3) := by decide +kernel
theorem d_SkeletonClockModel_allowed_117 : decode b_SkeletonClockModel_allowed 117 = .ok (.iload_n 1, 1) := by decide +kernel
theorem d_SkeletonClockModel_allowed_118 : decode b_SkeletonClockModel_allowed 118 = .ok (.bipush 9, 2) := by decide +kernel
theorem d_SkeletonClockModel_allowed_120 : decode b_SkeletonClockModel_allowed 120 = .ok (.if_icmp .gt 7, 3) := by decide +kernel
theorem d_SkeletonClockModel_allowed_123 : decode b_SkeletonClockModel_allowed 123 = .ok (.iconst 1, 1) := by decide +kernel
theorem d_SkeletonClockModel_allowed_124 : decode b_SkeletonClockModel_allowed 124 = .ok (.goto 4, 3) := by decide +kernel
theorem d_SkeletonClockModel_allowed_127 : decode b_SkeletonClockModel_allowed 127 = .ok (.iconst 0, 1) := by decide +kernel
theorem d_SkeletonClockModel_allowed_128 : decode b_SkeletonClockModel_allowed 128 = .ok (.ireturn, 1) := by decide +kernel
theorem d_SkeletonClockModel_allowed_129 : decode b_SkeletonClockModel_allowed 129 = .ok (.iload_n 2, 1) := by decide +kernel
theorem d_SkeletonClockModel_allowed_130 : decode b_SkeletonClockModel_allowed 130 = .ok (.bipush 13, 2) := by decide +kernel
theorem d_SkeletonClockModel_allowed_132 : decode b_SkeletonClockModel_allowed 132 = .ok (.if_icmp .ne 14, 3) := by decide +kernel
theorem d_SkeletonClockModel_allowed_135 : decode b_SkeletonClockModel_allowed 135 = .ok (.iload_n 1, 1) := by decide +kernel
theorem d_SkeletonClockModel_allowed_136 : decode b_SkeletonClockModel_allowed 136 = .ok (.iconst 3, 1) := by decide +kernel
theorem d_SkeletonClockModel_allowed_137 : decode b_SkeletonClockModel_allowed 137 = .ok (.if_icmp .gt 7, 3) := by decide +kernel
theorem d_SkeletonClockModel_allowed_140 : decode b_SkeletonClockModel_allowed 140 = .ok (.iconst 1, 1) := by decide +kernel
theorem d_SkeletonClockModel_allowed_141 : decode b_SkeletonClockModel_allowed 141 = .ok (.goto 4, 3) := by decide +kernel
theorem d_SkeletonClockModel_allowed_144 : decode b_SkeletonClockModel_allowed 144 = .ok (.iconst 0, 1) := by decide +kernel
theorem d_SkeletonClockModel_allowed_145 : decode b_SkeletonClockModel_allowed 145 = .ok (.ireturn, 1) := by decide +kernel
theorem d_SkeletonClockModel_allowed_146 : decode b_SkeletonClockModel_allowed 146 = .ok (.iload_n 2, 1) := by decide +kernel
theorem d_SkeletonClockModel_allowed_147 : decode b_SkeletonClockModel_allowed 147 = .ok (.ifCond .lt 12, 3) := by decide +kernel
theorem d_SkeletonClockModel_allowed_150 : decode b_SkeletonClockModel_allowed 150 = .ok (.iload_n 1, 1) := by decide +kernel
theorem d_SkeletonClockModel_allowed_151 : decode b_SkeletonClockModel_allowed 151 = .ok (.iconst 2, 1) := by decide +kernel
theorem d_SkeletonClockModel_allowed_152 : decode b_SkeletonClockModel_allowed 152 = .ok (.if_icmp .gt 7, 3) := by decide +kernel
theorem d_SkeletonClockModel_allowed_155 : decode b_SkeletonClockModel_allowed 155 = .ok (.iconst 1, 1) := by decide +kernel
theorem d_SkeletonClockModel_allowed_156 : decode b_SkeletonClockModel_allowed 156 = .ok (.goto 4, 3) := by decide +kernel
theorem d_SkeletonClockModel_allowed_159 : decode b_SkeletonClockModel_allowed 159 = .ok (.iconst 0, 1) := by decide +kernel
theorem d_SkeletonClockModel_allowed_160 : decode b_SkeletonClockModel_allowed 160 = .ok (.ireturn, 1) := by decide +kernel
theorem d_SkeletonClockModel_at_0 : decode b_SkeletonClockModel_at 0 = .ok (.iload_n 1, 1) := by decide +kernel
theorem d_SkeletonClockModel_at_1 : decode b_SkeletonClockModel_at 1 = .ok (.ifCond .lt 20, 3) := by decide +kernel
theorem d_SkeletonClockModel_at_4 : decode b_SkeletonClockModel_at 4 = .ok (.iload_n 1, 1) := by decide +kernel
theorem d_SkeletonClockModel_at_5 : decode b_SkeletonClockModel_at 5 = .ok (.aload_n 0, 1) := by decide +kernel
theorem d_SkeletonClockModel_at_6 : decode b_SkeletonClockModel_at 6 = .ok (.getfield 181, 3) := by decide +kernel
theorem d_SkeletonClockModel_at_9 : decode b_SkeletonClockModel_at 9 = .ok (.if_icmp .ge 12, 3) := by decide +kernel
theorem d_SkeletonClockModel_at_12 : decode b_SkeletonClockModel_at 12 = .ok (.aload_n 0, 1) := by decide +kernel
theorem d_SkeletonClockModel_at_13 : decode b_SkeletonClockModel_at 13 = .ok (.getfield 7, 3) := by decide +kernel
theorem d_SkeletonClockModel_at_16 : decode b_SkeletonClockModel_at 16 = .ok (.iload_n 1, 1) := by decide +kernel
theorem d_SkeletonClockModel_at_17 : decode b_SkeletonClockModel_at 17 = .ok (.caload, 1) := by decide +kernel
theorem d_SkeletonClockModel_at_18 : decode b_SkeletonClockModel_at 18 = .ok (.goto 4, 3) := by decide +kernel
theorem d_SkeletonClockModel_at_21 : decode b_SkeletonClockModel_at 21 = .ok (.iconst 0, 1) := by decide +kernel
theorem d_SkeletonClockModel_at_22 : decode b_SkeletonClockModel_at 22 = .ok (.ireturn, 1) := by decide +kernel
theorem d_SkeletonClockModel_isLetter_0 : decode b_SkeletonClockModel_isLetter 0 = .ok (.aload_n 0, 1) := by decide +kernel
theorem d_SkeletonClockModel_isLetter_1 : decode b_SkeletonClockModel_isLetter 1 = .ok (.iload_n 1, 1) := by decide +kernel
theorem d_SkeletonClockModel_isLetter_2 : decode b_SkeletonClockModel_isLetter 2 = .ok (.invokevirtual 184, 3) := by decide +kernel
theorem d_SkeletonClockModel_isLetter_5 : decode b_SkeletonClockModel_isLetter 5 = .ok (.bipush 97, 2) := by decide +kernel
theorem d_SkeletonClockModel_isLetter_7 : decode b_SkeletonClockModel_isLetter 7 = .ok (.if_icmp .lt 13, 3) := by decide +kernel
theorem d_SkeletonClockModel_isLetter_10 : decode b_SkeletonClockModel_isLetter 10 = .ok (.aload_n 0, 1) := by decide +kernel
theorem d_SkeletonClockModel_isLetter_11 : decode b_SkeletonClockModel_isLetter 11 = .ok (.iload_n 1, 1) := by decide +kernel
theorem d_SkeletonClockModel_isLetter_12 : decode b_SkeletonClockModel_isLetter 12 = .ok (.invokevirtual 184, 3) := by decide +kernel
theorem d_SkeletonClockModel_isLetter_15 : decode b_SkeletonClockModel_isLetter 15 = .ok (.bipush 122, 2) := by decide +kernel
theorem d_SkeletonClockModel_isLetter_17 : decode b_SkeletonClockModel_isLetter 17 = .ok (.if_icmp .le 23, 3) := by decide +kernel
theorem d_SkeletonClockModel_isLetter_20 : decode b_SkeletonClockModel_isLetter 20 = .ok (.aload_n 0, 1) := by decide +kernel
theorem d_SkeletonClockModel_isLetter_21 : decode b_SkeletonClockModel_isLetter 21 = .ok (.iload_n 1, 1) := by decide +kernel
theorem d_SkeletonClockModel_isLetter_22 : decode b_SkeletonClockModel_isLetter 22 = .ok (.invokevirtual 184, 3) := by decide +kernel
theorem d_SkeletonClockModel_isLetter_25 : decode b_SkeletonClockModel_isLetter 25 = .ok (.bipush 65, 2) := by decide +kernel
theorem d_SkeletonClockModel_isLetter_27 : decode b_SkeletonClockModel_isLetter 27 = .ok (.if_icmp .lt 17, 3) := by decide +kernel
theorem d_SkeletonClockModel_isLetter_30 : decode b_SkeletonClockModel_isLetter 30 = .ok (.aload_n 0, 1) := by decide +kernel
theorem d_SkeletonClockModel_isLetter_31 : decode b_SkeletonClockModel_isLetter 31 = .ok (.iload_n 1, 1) := by decide +kernel
theorem d_SkeletonClockModel_isLetter_32 : decode b_SkeletonClockModel_isLetter 32 = .ok (.invokevirtual 184, 3) := by decide +kernel
theorem d_SkeletonClockModel_isLetter_35 : decode b_SkeletonClockModel_isLetter 35 = .ok (.bipush 90, 2) := by decide +kernel
theorem d_SkeletonClockModel_isLetter_37 : decode b_SkeletonClockModel_isLetter 37 = .ok (.if_icmp .gt 7, 3) := by decide +kernel
theorem d_SkeletonClockModel_isLetter_40 : decode b_SkeletonClockModel_isLetter 40 = .ok (.iconst 1, 1) := by decide +kernel
theorem d_SkeletonClockModel_isLetter_41 : decode b_SkeletonClockModel_isLetter 41 = .ok (.goto 4, 3) := by decide +kernel
theorem d_SkeletonClockModel_isLetter_44 : decode b_SkeletonClockModel_isLetter 44 = .ok (.iconst 0, 1) := by decide +kernel
theorem d_SkeletonClockModel_isLetter_45 : decode b_SkeletonClockModel_isLetter 45 = .ok (.ireturn, 1) := by decide +kernel
theorem d_SkeletonClockModel_run_0 : decode b_SkeletonClockModel_run 0 = .ok (.iconst 1, 1) := by decide +kernel
theorem d_SkeletonClockModel_run_1 : decode b_SkeletonClockModel_run 1 = .ok (.istore_n 2, 1) := by decide +kernel
theorem d_SkeletonClockModel_run_2 : decode b_SkeletonClockModel_run 2 = .ok (.aload_n 0, 1) := by decide +kernel
theorem d_SkeletonClockModel_run_3 : decode b_SkeletonClockModel_run 3 = .ok (.iload_n 1, 1) := by decide +kernel
theorem d_SkeletonClockModel_run_4 : decode b_SkeletonClockModel_run 4 = .ok (.iload_n 2, 1) := by decide +kernel
theorem d_SkeletonClockModel_run_5 : decode b_SkeletonClockModel_run 5 = .ok (.iadd, 1) := by decide +kernel
theorem d_SkeletonClockModel_run_6 : decode b_SkeletonClockModel_run 6 = .ok (.invokevirtual 184, 3) := by decide +kernel
theorem d_SkeletonClockModel_run_9 : decode b_SkeletonClockModel_run 9 = .ok (.aload_n 0, 1) := by decide +kernel
theorem d_SkeletonClockModel_run_10 : decode b_SkeletonClockModel_run 10 = .ok (.iload_n 1, 1) := by decide +kernel
theorem d_SkeletonClockModel_run_11 : decode b_SkeletonClockModel_run 11 = .ok (.invokevirtual 184, 3) := by decide +kernel
theorem d_SkeletonClockModel_run_14 : decode b_SkeletonClockModel_run 14 = .ok (.if_icmp .ne 9, 3) := by decide +kernel
theorem d_SkeletonClockModel_run_17 : decode b_SkeletonClockModel_run 17 = .ok (.iinc 2 1, 3) := by decide +kernel
theorem d_SkeletonClockModel_run_20 : decode b_SkeletonClockModel_run 20 = .ok (.goto (-18), 3) := by decide +kernel
theorem d_SkeletonClockModel_run_23 : decode b_SkeletonClockModel_run 23 = .ok (.iload_n 2, 1) := by decide +kernel
theorem d_SkeletonClockModel_run_24 : decode b_SkeletonClockModel_run 24 = .ok (.ireturn, 1) := by decide +kernel
abbrev rm_SkeletonClockModel_letter : Room := { frames := 0, cells := 0, slots := 0, locals := 0 }
set_option maxHeartbeats 4000000 in
set_option maxRecDepth 100000 in
theorem c_SkeletonClockModel_letter (l : Launch) (D : va_G) (kk : Nat → ClassId) (st : Nat → Nat) (a_t a_t_names a_t_text a_t_page a_t_sort a_t_code a_t_count a_t_around a_t_end a_t_size a_t_there a_t_wish a_t_have a_t_known a_t_value a_t_before a_t_open a_t_from : Nat) (sz : Nat) (t_length : Int32) (t_used : Int32) (t_far : Int32) (t_momentParts : Int32) (t_momentDay : Int64) (t_momentSecond : Int32) (t_momentNano : Int32) (t_momentOffset : Int32) (t_readParts : Int32) (t_readDay : Int64) (t_readSecond : Int32) (t_readNano : Int32) (t_readOffset : Int32) (t_alike : Int32) (t_names : Nat → Int64) (x1 : Int32) (x2 : Int32) (o : Int32) (he : f_SkeletonClockModel_letter t_names x1 x2 = some o) : Met l y_SkeletonClockModel_letter (Cond.code y_SkeletonClockModel_letter b_SkeletonClockModel_letter 4 (some .int) :: GW) rm_SkeletonClockModel_letter (KPc D kk st [.ref a_t, .int x1, .int x2] [(a_t, .inr (10, [.int t_length, .ref a_t_text, .int t_used, .ref a_t_page, .ref a_t_names, .ref a_t_sort, .ref a_t_code, .ref a_t_count, .ref a_t_around, .ref a_t_end, .ref a_t_size, .ref a_t_there, .ref a_t_wish, .ref a_t_have, .int t_far, .int t_momentParts, .long t_momentDay, .int t_momentSecond, .int t_momentNano, .int t_momentOffset, .int t_readParts, .long t_readDay, .int t_readSecond, .int t_readNano, .int t_readOffset, .ref a_t_known, .ref a_t_value, .ref a_t_before, .ref a_t_open, .ref a_t_from, .int t_alike])), (a_t_names, .inl (kk 3, 21, .inr (.inl t_names)))] sz) (KQi D kk o [(a_t, .inr (10, [.int t_length, .ref a_t_text, .int t_used, .ref a_t_page, .ref a_t_names, .ref a_t_sort, .ref a_t_code, .ref a_t_count, .ref a_t_around, .ref a_t_end, .ref a_t_size, .ref a_t_there, .ref a_t_wish, .ref a_t_have, .int t_far, .int t_momentParts, .long t_momentDay, .int t_momentSecond, .int t_momentNano, .int t_momentOffset, .int t_readParts, .long t_readDay, .int t_readSecond, .int t_readNano, .int t_readOffset, .ref a_t_known, .ref a_t_value, .ref a_t_before, .ref a_t_open, .ref a_t_from, .int t_alike])), (a_t_names, .inl (kk 3, 21, .inr (.inl t_names)))] (va_A [(a_t, .inr (10, [.int t_length, .ref a_t_text, .int t_used, .ref a_t_page, .ref a_t_names, .ref a_t_sort, .ref a_t_code, .ref a_t_count, .ref a_t_around, .ref a_t_end, .ref a_t_size, .ref a_t_there, .ref a_t_wish, .ref a_t_have, .int t_far, .int t_momentParts, .long t_momentDay, .int t_momentSecond, .int t_momentNano, .int t_momentOffset, .int t_readParts, .long t_readDay, .int t_readSecond, .int t_readNano, .int t_readOffset, .ref a_t_known, .ref a_t_value, .ref a_t_before, .ref a_t_open, .ref a_t_from, .int t_alike])), (a_t_names, .inl (kk 3, 21, .inr (.inl t_names)))] sz)) 0 0 (va_A [(a_t, .inr (10, [.int t_length, .ref a_t_text, .int t_used, .ref a_t_page, .ref a_t_names, .ref a_t_sort, .ref a_t_code, .ref a_t_count, .ref a_t_around, .ref a_t_end, .ref a_t_size, .ref a_t_there, .ref a_t_wish, .ref a_t_have, .int t_far, .int t_momentParts, .long t_momentDay, .int t_momentSecond, .int t_momentNano, .int t_momentOffset, .int t_readParts, .long t_readDay, .int t_readSecond, .int t_readNano, .int t_readOffset, .ref a_t_known, .ref a_t_value, .ref a_t_before, .ref a_t_open, .ref a_t_from, .int t_alike])), (a_t_names, .inl (kk 3, 21, .inr (.inl t_names)))] sz) := by
  refine k_start (Qc := fun A => KQi D kk o [(a_t, .inr (10, [.int t_length, .ref a_t_text, .int t_used, .ref a_t_page, .ref a_t_names, .ref a_t_sort, .ref a_t_code, .ref a_t_count, .ref a_t_around, .ref a_t_end, .ref a_t_size, .ref a_t_there, .ref a_t_wish, .ref a_t_have, .int t_far, .int t_momentParts, .long t_momentDay, .int t_momentSecond, .int t_momentNano, .int t_momentOffset, .int t_readParts, .long t_readDay, .int t_readSecond, .int t_readNano, .int t_readOffset, .ref a_t_known, .ref a_t_value, .ref a_t_before, .ref a_t_open, .ref a_t_from, .int t_alike])), (a_t_names, .inl (kk 3, 21, .inr (.inl t_names)))] A) (by decide) (Nat.le_of_ble_eq_true rfl) ?_
  intro p e s m below meth c A ls S hnm hr hlk hA X hP hD hS hl
  have hl : lv_has ls 4 [(0, .ref a_t), (1, .int x1), (2, .int x2)] := hl
  have hx := S.1
  have hb := S.2.1
  unfold f_SkeletonClockModel_letter at he
  refine lv_aload_n hx hb d_SkeletonClockModel_letter_0 rfl (lv_at hl 0 rfl) ?_
  refine k_get S X us_SkeletonClockModel hP 0 rfl rfl 4 (by decide) gm_4_155 rfl d_SkeletonClockModel_letter_1 ?_
  refine lv_iload_n hx hb d_SkeletonClockModel_letter_4 rfl (lv_at hl 1 rfl) ?_
  obtain ⟨hi1, he⟩ := ih_g he
  refine va_lald hx hb X.1 hP 1 3 rfl rfl hi1 d_SkeletonClockModel_letter_5 ?_
  refine lv_iconst (v := (5 : Int32)) hx hb d_SkeletonClockModel_letter_6 (by decide) ?_
  refine lv_iload_n hx hb d_SkeletonClockModel_letter_7 rfl (lv_at hl 2 rfl) ?_
  refine lv_imul hx hb d_SkeletonClockModel_letter_8 ?_
  refine lv_lshr hx hb d_SkeletonClockModel_letter_9 rfl ?_
  refine lv_l2i hx hb d_SkeletonClockModel_letter_10 rfl ?_
  refine lv_bipush (v := (31 : Int32)) hx hb d_SkeletonClockModel_letter_11 (by decide) ?_
  refine lv_iand hx hb d_SkeletonClockModel_letter_13 ?_
  refine lv_istore_n hx hb d_SkeletonClockModel_letter_14 rfl hl (by decide) rfl (fun ls hl => ?_)
  have hl : lv_has ls 4 [(3, .int ((Int64.toInt32 ((t_names (x1).toNatClampNeg) >>> ((((5 : Int32) * x2)).toInt64 &&& 63))) &&& (31 : Int32))), (0, .ref a_t), (1, .int x1), (2, .int x2)] := hl
  refine lv_iload_n hx hb d_SkeletonClockModel_letter_15 rfl (lv_at hl 0 rfl) ?_
  refine lv_if_ne (tgt := 23) hx hb d_SkeletonClockModel_letter_16 rfl (fun hc => ?_) (fun hc => ?_)
  · have he := ih_f hc he
    refine lv_iload_n hx hb d_SkeletonClockModel_letter_23 rfl (lv_at hl 3 rfl) ?_
    refine lv_if_eq (tgt := 33) hx hb d_SkeletonClockModel_letter_24 rfl (fun hc => ?_) (fun hc => ?_)
    · have he := ih_t hc he
      refine lv_bipush (v := (64 : Int32)) hx hb d_SkeletonClockModel_letter_33 (by decide) ?_
      refine lv_iload_n hx hb d_SkeletonClockModel_letter_35 rfl (lv_at hl 0 rfl) ?_
      refine lv_iadd hx hb d_SkeletonClockModel_letter_36 ?_
      refine lv_goto (tgt := 44) hx hb d_SkeletonClockModel_letter_37 rfl ?_
      cases he
      exact k_ire hx hb hr hlk X hP hD hS d_SkeletonClockModel_letter_44
    · have he := ih_f hc he
      refine lv_iload_n hx hb d_SkeletonClockModel_letter_27 rfl (lv_at hl 2 rfl) ?_
      refine lv_bipush (v := (19 : Int32)) hx hb d_SkeletonClockModel_letter_28 (by decide) ?_
      refine lv_icmp_lt (tgt := 40) hx hb d_SkeletonClockModel_letter_30 rfl (fun hc => ?_) (fun hc => ?_)
      · have he := ih_t hc he
        refine lv_bipush (v := (96 : Int32)) hx hb d_SkeletonClockModel_letter_40 (by decide) ?_
        refine lv_iload_n hx hb d_SkeletonClockModel_letter_42 rfl (lv_at hl 0 rfl) ?_
        refine lv_iadd hx hb d_SkeletonClockModel_letter_43 ?_
        cases he
        exact k_ire hx hb hr hlk X hP hD hS d_SkeletonClockModel_letter_44
      · have he := ih_f hc he
        refine lv_bipush (v := (64 : Int32)) hx hb d_SkeletonClockModel_letter_33 (by decide) ?_
        refine lv_iload_n hx hb d_SkeletonClockModel_letter_35 rfl (lv_at hl 0 rfl) ?_
        refine lv_iadd hx hb d_SkeletonClockModel_letter_36 ?_
        refine lv_goto (tgt := 44) hx hb d_SkeletonClockModel_letter_37 rfl ?_
        cases he
        exact k_ire hx hb hr hlk X hP hD hS d_SkeletonClockModel_letter_44
  · have he := ih_t hc he
    refine lv_iconst (v := (0 : Int32)) hx hb d_SkeletonClockModel_letter_19 (by decide) ?_
    refine lv_goto (tgt := 44) hx hb d_SkeletonClockModel_letter_20 rfl ?_
    cases he
    exact k_ire hx hb hr hlk X hP hD hS d_SkeletonClockModel_letter_44
abbrev rm_SkeletonClockModel_div : Room := { frames := 0, cells := 0, slots := 0, locals := 0 }
set_option maxHeartbeats 4000000 in
set_option maxRecDepth 100000 in
theorem c_SkeletonClockModel_div (l : Launch) (D : va_G) (kk : Nat → ClassId) (st : Nat → Nat) (sz : Nat) (x0 : Int64) (x2 : Int64) (o : Int64) (he : f_SkeletonClockModel_div x0 x2 = some o) : Met l y_SkeletonClockModel_div (Cond.code y_SkeletonClockModel_div b_SkeletonClockModel_div 6 (some .long) :: GW) rm_SkeletonClockModel_div (KPc D kk st [.long x0, .long x2] [] sz) (KQl D kk o [] (va_A [] sz)) 0 0 (va_A [] sz) := by
  refine k_start (Qc := fun A => KQl D kk o [] A) (by decide) (Nat.le_of_ble_eq_true rfl) ?_
  intro p e s m below meth c A ls S hnm hr hlk hA X hP hD hS hl
  have hl : lv_has ls 6 [(0, .long x0), (2, .long x2)] := hl
  have hx := S.1
  have hb := S.2.1
  unfold f_SkeletonClockModel_div at he
  refine lv_lload_n hx hb d_SkeletonClockModel_div_0 rfl (lv_at hl 0 rfl) ?_
  refine lv_lload_n hx hb d_SkeletonClockModel_div_1 rfl (lv_at hl 1 rfl) ?_
  obtain ⟨hz1, he⟩ := ih_g he
  refine lv_ldiv hx hb d_SkeletonClockModel_div_2 hz1 ?_
  refine lv_lstore hx hb d_SkeletonClockModel_div_3 hl (by decide) rfl (fun ls hl => ?_)
  have hl : lv_has ls 6 [(4, .long (x0 / x2)), (0, .long x0), (2, .long x2)] := hl
  refine lv_lload_n hx hb d_SkeletonClockModel_div_5 rfl (lv_at hl 1 rfl) ?_
  refine lv_lload_n hx hb d_SkeletonClockModel_div_6 rfl (lv_at hl 2 rfl) ?_
  obtain ⟨hz2, he⟩ := ih_g he
  refine lv_lrem hx hb d_SkeletonClockModel_div_7 hz2 ?_
  refine lv_lconst (v := (0 : Int64)) hx hb d_SkeletonClockModel_div_8 (by decide) ?_
  refine lq_ge (tgt := 20) hx hb d_SkeletonClockModel_div_9 d_SkeletonClockModel_div_10 rfl (fun hc => ?_) (fun hc => ?_)
  · have he := ih_t hc he
    refine lv_lload hx hb d_SkeletonClockModel_div_20 (lv_at hl 0 rfl) ?_
    cases he
    exact k_lre hx hb hr hlk X hP hD hS d_SkeletonClockModel_div_22
  · have he := ih_f hc he
    refine lv_lload hx hb d_SkeletonClockModel_div_13 (lv_at hl 0 rfl) ?_
    refine lv_lconst (v := (1 : Int64)) hx hb d_SkeletonClockModel_div_15 (by decide) ?_
    refine lv_lsub hx hb d_SkeletonClockModel_div_16 ?_
    refine lv_goto (tgt := 22) hx hb d_SkeletonClockModel_div_17 rfl ?_
    cases he
    exact k_lre hx hb hr hlk X hP hD hS d_SkeletonClockModel_div_22
abbrev rm_SkeletonClockModel_leaps : Room := { frames := 1, cells := 0, slots := 0, locals := 25 }
set_option maxHeartbeats 4000000 in
set_option maxRecDepth 100000 in
theorem c_SkeletonClockModel_leaps (l : Launch) (D : va_G) (kk : Nat → ClassId) (st : Nat → Nat) (sz : Nat) (x0 : Int64) (o : Int64) (he : f_SkeletonClockModel_leaps x0 = some o) : Met l y_SkeletonClockModel_leaps (Cond.code y_SkeletonClockModel_leaps b_SkeletonClockModel_leaps 2 (some .long) :: GW) rm_SkeletonClockModel_leaps (KPc D kk st [.long x0] [] sz) (KQl D kk o [] (va_A [] sz)) 0 0 (va_A [] sz) := by
  refine k_start (Qc := fun A => KQl D kk o [] A) (by decide) (Nat.le_of_ble_eq_true rfl) ?_
  intro p e s m below meth c A ls S hnm hr hlk hA X hP hD hS hl
  have hl : lv_has ls 2 [(0, .long x0)] := hl
  have hx := S.1
  have hb := S.2.1
  unfold f_SkeletonClockModel_leaps at he
  refine lv_lload_n hx hb d_SkeletonClockModel_leaps_0 rfl (lv_at hl 0 rfl) ?_
  refine lv_lconst (v := (1 : Int64)) hx hb d_SkeletonClockModel_leaps_1 (by decide) ?_
  refine lv_lsub hx hb d_SkeletonClockModel_leaps_2 ?_
  refine lv_ldc2 (v := (4 : Int64)) hx hb S.2.2.2.1 (S.2.2.2.2 _ gm_5_88) d_SkeletonClockModel_leaps_3 ?_
  obtain ⟨u1, e2, he⟩ := ih_b he
  refine k_lo (r_S (As := [.long (x0 - (1 : Int64)), .long (4 : Int64)]) S X hA hP hD hS (c_SkeletonClockModel_div l D kk st _ (x0 - (1 : Int64)) (4 : Int64) u1 e2) gm_5_71 gm_5_69 gm_5_70 gm_1_13 ⟨rfl, rfl, by decide, by decide⟩ kd_SkeletonClockModel_div [] rfl rfl rfl rfl hl.1 rfl (Nat.le_of_ble_eq_true rfl) d_SkeletonClockModel_leaps_6 ⟨Nat.zero_le _, Nat.zero_le _⟩) hA hP hD hS [] rfl (fun H locs hP hS => ?_)
  refine lv_lload_n hx hb d_SkeletonClockModel_leaps_9 rfl (lv_at hl 0 rfl) ?_
  refine lv_lconst (v := (1 : Int64)) hx hb d_SkeletonClockModel_leaps_10 (by decide) ?_
  refine lv_lsub hx hb d_SkeletonClockModel_leaps_11 ?_
  refine lv_ldc2 (v := (100 : Int64)) hx hb S.2.2.2.1 (S.2.2.2.2 _ gm_5_89) d_SkeletonClockModel_leaps_12 ?_
  obtain ⟨u3, e4, he⟩ := ih_b he
  refine k_lo (r_S (As := [.long (x0 - (1 : Int64)), .long (100 : Int64)]) S X hA hP hD hS (c_SkeletonClockModel_div l D kk st _ (x0 - (1 : Int64)) (100 : Int64) u3 e4) gm_5_71 gm_5_69 gm_5_70 gm_1_13 ⟨rfl, rfl, by decide, by decide⟩ kd_SkeletonClockModel_div [] rfl rfl rfl rfl hl.1 rfl (Nat.le_of_ble_eq_true rfl) d_SkeletonClockModel_leaps_15 ⟨Nat.zero_le _, Nat.zero_le _⟩) hA hP hD hS [] rfl (fun H locs hP hS => ?_)
  refine lv_lsub hx hb d_SkeletonClockModel_leaps_18 ?_
  refine lv_lload_n hx hb d_SkeletonClockModel_leaps_19 rfl (lv_at hl 0 rfl) ?_
  refine lv_lconst (v := (1 : Int64)) hx hb d_SkeletonClockModel_leaps_20 (by decide) ?_
  refine lv_lsub hx hb d_SkeletonClockModel_leaps_21 ?_
  refine lv_ldc2 (v := (400 : Int64)) hx hb S.2.2.2.1 (S.2.2.2.2 _ gm_5_79) d_SkeletonClockModel_leaps_22 ?_
  obtain ⟨u5, e6, he⟩ := ih_b he
  refine k_lo (r_S (As := [.long (x0 - (1 : Int64)), .long (400 : Int64)]) S X hA hP hD hS (c_SkeletonClockModel_div l D kk st _ (x0 - (1 : Int64)) (400 : Int64) u5 e6) gm_5_71 gm_5_69 gm_5_70 gm_1_13 ⟨rfl, rfl, by decide, by decide⟩ kd_SkeletonClockModel_div [] rfl rfl rfl rfl hl.1 rfl (Nat.le_of_ble_eq_true rfl) d_SkeletonClockModel_leaps_25 ⟨Nat.zero_le _, Nat.zero_le _⟩) hA hP hD hS [] rfl (fun H locs hP hS => ?_)
  refine lv_ladd hx hb d_SkeletonClockModel_leaps_28 ?_
  cases he
  exact k_lre hx hb hr hlk X hP hD hS d_SkeletonClockModel_leaps_29
abbrev rm_SkeletonClockModel_newYear : Room := { frames := 2, cells := 0, slots := 0, locals := 46 }
set_option maxHeartbeats 4000000 in
set_option maxRecDepth 100000 in
theorem c_SkeletonClockModel_newYear (l : Launch) (D : va_G) (kk : Nat → ClassId) (st : Nat → Nat) (sz : Nat) (x0 : Int64) (o : Int64) (he : f_SkeletonClockModel_newYear x0 = some o) : Met l y_SkeletonClockModel_newYear (Cond.code y_SkeletonClockModel_newYear b_SkeletonClockModel_newYear 2 (some .long) :: GW) rm_SkeletonClockModel_newYear (KPc D kk st [.long x0] [] sz) (KQl D kk o [] (va_A [] sz)) 0 0 (va_A [] sz) := by
  refine k_start (Qc := fun A => KQl D kk o [] A) (by decide) (Nat.le_of_ble_eq_true rfl) ?_
  intro p e s m below meth c A ls S hnm hr hlk hA X hP hD hS hl
  have hl : lv_has ls 2 [(0, .long x0)] := hl
  have hx := S.1
  have hb := S.2.1
  unfold f_SkeletonClockModel_newYear at he
  refine lv_ldc2 (v := (365 : Int64)) hx hb S.2.2.2.1 (S.2.2.2.2 _ gm_5_84) d_SkeletonClockModel_newYear_0 ?_
  refine lv_lload_n hx hb d_SkeletonClockModel_newYear_3 rfl (lv_at hl 0 rfl) ?_
  refine lv_ldc2 (v := (1970 : Int64)) hx hb S.2.2.2.1 (S.2.2.2.2 _ gm_5_78) d_SkeletonClockModel_newYear_4 ?_
  refine lv_lsub hx hb d_SkeletonClockModel_newYear_7 ?_
  refine lv_lmul hx hb d_SkeletonClockModel_newYear_8 ?_
  refine lv_lload_n hx hb d_SkeletonClockModel_newYear_9 rfl (lv_at hl 0 rfl) ?_
  obtain ⟨u1, e2, he⟩ := ih_b he
  refine k_lo (r_S (As := [.long x0]) S X hA hP hD hS (c_SkeletonClockModel_leaps l D kk st _ x0 u1 e2) gm_5_87 gm_5_85 gm_5_86 gm_1_13 ⟨rfl, rfl, by decide, by decide⟩ kd_SkeletonClockModel_leaps [] rfl rfl rfl rfl hl.1 rfl (Nat.le_of_ble_eq_true rfl) d_SkeletonClockModel_newYear_10 ⟨Nat.zero_le _, Nat.zero_le _⟩) hA hP hD hS [] rfl (fun H locs hP hS => ?_)
  refine lv_ladd hx hb d_SkeletonClockModel_newYear_13 ?_
  refine lv_ldc2 (v := (1970 : Int64)) hx hb S.2.2.2.1 (S.2.2.2.2 _ gm_5_78) d_SkeletonClockModel_newYear_14 ?_
  obtain ⟨u3, e4, he⟩ := ih_b he
  refine k_lo (r_S (As := [.long (1970 : Int64)]) S X hA hP hD hS (c_SkeletonClockModel_leaps l D kk st _ (1970 : Int64) u3 e4) gm_5_87 gm_5_85 gm_5_86 gm_1_13 ⟨rfl, rfl, by decide, by decide⟩ kd_SkeletonClockModel_leaps [] rfl rfl rfl rfl hl.1 rfl (Nat.le_of_ble_eq_true rfl) d_SkeletonClockModel_newYear_17 ⟨Nat.zero_le _, Nat.zero_le _⟩) hA hP hD hS [] rfl (fun H locs hP hS => ?_)
  refine lv_lsub hx hb d_SkeletonClockModel_newYear_20 ?_
  cases he
  exact k_lre hx hb hr hlk X hP hD hS d_SkeletonClockModel_newYear_21
abbrev rm_SkeletonClockModel_yearOf : Room := { frames := 3, cells := 0, slots := 0, locals := 67 }
set_option maxHeartbeats 4000000 in
set_option maxRecDepth 100000 in
theorem w_SkeletonClockModel_yearOf_16 {p : Program} {l : Launch} {e : Env} {s : State} {m : MethodId} {args : Array Value} {below : List Frame} {meth : Method} {c : Code} {Q : State → Prop} {A : Nat → Prop} {D : va_G} {kk : Nat → ClassId} {st : Nat → Nat} (x0 : Int64) (S : CallFix p m c b_SkeletonClockModel_yearOf 4 s args GW y_SkeletonClockModel_yearOf.cls) (hr : meth.sig.returnType = (some .long)) (hlk : meth.locks = false) (hA : ∀ q, s.heap.size ≤ q → A q) (X : KX D kk st A s) : ∀ (n : Nat) (x2 : Int64) (v : Int64) (H : Heap) (locs : List Loc) (ls : Array Slot), lp_SkeletonClockModel_yearOf_16 x0 n x2 = some v → lv_has ls 4 [(0, .long x0), (2, .long x2)] → va_P D classes [] H → va_D A [] → va_S A s.heap H locs → (∀ (H : Heap) (locs : List Loc) (ls : Array Slot), lv_has ls 4 [(0, .long x0), (2, .long v)] → va_P D classes [] H → va_D A [] → va_S A s.heap H locs → W p l e rm_SkeletonClockModel_yearOf s m args below meth c H locs 0 0 Q (F0 m 32 ls [])) → W p l e rm_SkeletonClockModel_yearOf s m args below meth c H locs 0 0 Q (F0 m 16 ls []) := by
  intro n
  induction n with
  | zero =>
    intro x2 v H locs ls he hl hP hD hS K
    exact ih_n he
  | succ n ih =>
    intro x2 v H locs ls he hl hP hD hS K
    have hx := S.1
    have hb := S.2.1
    have he : st_SkeletonClockModel_yearOf_16 x0 (lp_SkeletonClockModel_yearOf_16 x0 n) x2 = some v := he
    unfold st_SkeletonClockModel_yearOf_16 at he
    refine lv_lload_n hx hb d_SkeletonClockModel_yearOf_16 rfl (lv_at hl 1 rfl) ?_
    obtain ⟨u3, e4, he⟩ := ih_b he
    refine k_lo (r_S (As := [.long x2]) S X hA hP hD hS (c_SkeletonClockModel_newYear l D kk st _ x2 u3 e4) gm_5_83 gm_5_81 gm_5_82 gm_1_13 ⟨rfl, rfl, by decide, by decide⟩ kd_SkeletonClockModel_newYear [] rfl rfl rfl rfl hl.1 rfl (Nat.le_of_ble_eq_true rfl) d_SkeletonClockModel_yearOf_17 ⟨Nat.zero_le _, Nat.zero_le _⟩) hA hP hD hS [] rfl (fun H locs hP hS => ?_)
    refine lv_lload_n hx hb d_SkeletonClockModel_yearOf_20 rfl (lv_at hl 0 rfl) ?_
    refine lq_le (tgt := 32) hx hb d_SkeletonClockModel_yearOf_21 d_SkeletonClockModel_yearOf_22 rfl (fun hc => ?_) (fun hc => ?_)
    · have he := ih_t hc he
      have hl : lv_has ls 4 [(0, .long x0), (2, .long x2)] := lv_sub hl [0, 1] rfl
      cases he
      exact K _ _ _ hl hP hD hS
    · have he := ih_f hc he
      refine lv_lload_n hx hb d_SkeletonClockModel_yearOf_25 rfl (lv_at hl 1 rfl) ?_
      refine lv_lconst (v := (1 : Int64)) hx hb d_SkeletonClockModel_yearOf_26 (by decide) ?_
      refine lv_lsub hx hb d_SkeletonClockModel_yearOf_27 ?_
      refine lv_lstore_n hx hb d_SkeletonClockModel_yearOf_28 rfl hl (by decide) rfl (fun ls hl => ?_)
      have hl : lv_has ls 4 [(2, .long (x2 - (1 : Int64))), (0, .long x0)] := hl
      refine lv_goto (tgt := 16) hx hb d_SkeletonClockModel_yearOf_29 rfl ?_
      have hl : lv_has ls 4 [(0, .long x0), (2, .long (x2 - (1 : Int64)))] := lv_sub hl [1, 0] rfl
      exact ih _ _ _ _ _ he hl hP hD hS K
set_option maxHeartbeats 4000000 in
set_option maxRecDepth 100000 in
theorem w_SkeletonClockModel_yearOf_32 {p : Program} {l : Launch} {e : Env} {s : State} {m : MethodId} {args : Array Value} {below : List Frame} {meth : Method} {c : Code} {Q : State → Prop} {A : Nat → Prop} {D : va_G} {kk : Nat → ClassId} {st : Nat → Nat} (x0 : Int64) (S : CallFix p m c b_SkeletonClockModel_yearOf 4 s args GW y_SkeletonClockModel_yearOf.cls) (hr : meth.sig.returnType = (some .long)) (hlk : meth.locks = false) (hA : ∀ q, s.heap.size ≤ q → A q) (X : KX D kk st A s) : ∀ (n : Nat) (x2 : Int64) (v : Int64) (H : Heap) (locs : List Loc) (ls : Array Slot), lp_SkeletonClockModel_yearOf_32 x0 n x2 = some v → lv_has ls 4 [(0, .long x0), (2, .long x2)] → va_P D classes [] H → va_D A [] → va_S A s.heap H locs → (∀ (H : Heap) (locs : List Loc) (ls : Array Slot), lv_has ls 4 [(0, .long x0), (2, .long v)] → va_P D classes [] H → va_D A [] → va_S A s.heap H locs → W p l e rm_SkeletonClockModel_yearOf s m args below meth c H locs 0 0 Q (F0 m 50 ls [])) → W p l e rm_SkeletonClockModel_yearOf s m args below meth c H locs 0 0 Q (F0 m 32 ls []) := by
  intro n
  induction n with
  | zero =>
    intro x2 v H locs ls he hl hP hD hS K
    exact ih_n he
  | succ n ih =>
    intro x2 v H locs ls he hl hP hD hS K
    have hx := S.1
    have hb := S.2.1
    have he : st_SkeletonClockModel_yearOf_32 x0 (lp_SkeletonClockModel_yearOf_32 x0 n) x2 = some v := he
    unfold st_SkeletonClockModel_yearOf_32 at he
    refine lv_lload_n hx hb d_SkeletonClockModel_yearOf_32 rfl (lv_at hl 1 rfl) ?_
    refine lv_lconst (v := (1 : Int64)) hx hb d_SkeletonClockModel_yearOf_33 (by decide) ?_
    refine lv_ladd hx hb d_SkeletonClockModel_yearOf_34 ?_
    obtain ⟨u7, e8, he⟩ := ih_b he
    refine k_lo (r_S (As := [.long (x2 + (1 : Int64))]) S X hA hP hD hS (c_SkeletonClockModel_newYear l D kk st _ (x2 + (1 : Int64)) u7 e8) gm_5_83 gm_5_81 gm_5_82 gm_1_13 ⟨rfl, rfl, by decide, by decide⟩ kd_SkeletonClockModel_newYear [] rfl rfl rfl rfl hl.1 rfl (Nat.le_of_ble_eq_true rfl) d_SkeletonClockModel_yearOf_35 ⟨Nat.zero_le _, Nat.zero_le _⟩) hA hP hD hS [] rfl (fun H locs hP hS => ?_)
    refine lv_lload_n hx hb d_SkeletonClockModel_yearOf_38 rfl (lv_at hl 0 rfl) ?_
    refine lq_gt (tgt := 50) hx hb d_SkeletonClockModel_yearOf_39 d_SkeletonClockModel_yearOf_40 rfl (fun hc => ?_) (fun hc => ?_)
    · have he := ih_t hc he
      have hl : lv_has ls 4 [(0, .long x0), (2, .long x2)] := lv_sub hl [0, 1] rfl
      cases he
      exact K _ _ _ hl hP hD hS
    · have he := ih_f hc he
      refine lv_lload_n hx hb d_SkeletonClockModel_yearOf_43 rfl (lv_at hl 1 rfl) ?_
      refine lv_lconst (v := (1 : Int64)) hx hb d_SkeletonClockModel_yearOf_44 (by decide) ?_
      refine lv_ladd hx hb d_SkeletonClockModel_yearOf_45 ?_
      refine lv_lstore_n hx hb d_SkeletonClockModel_yearOf_46 rfl hl (by decide) rfl (fun ls hl => ?_)
      have hl : lv_has ls 4 [(2, .long (x2 + (1 : Int64))), (0, .long x0)] := hl
      refine lv_goto (tgt := 32) hx hb d_SkeletonClockModel_yearOf_47 rfl ?_
      have hl : lv_has ls 4 [(0, .long x0), (2, .long (x2 + (1 : Int64)))] := lv_sub hl [1, 0] rfl
      exact ih _ _ _ _ _ he hl hP hD hS K
set_option maxHeartbeats 4000000 in
set_option maxRecDepth 100000 in
theorem c_SkeletonClockModel_yearOf (l : Launch) (D : va_G) (kk : Nat → ClassId) (st : Nat → Nat) (sz : Nat) (x0 : Int64) (o : Int64) (he : f_SkeletonClockModel_yearOf x0 = some o) : Met l y_SkeletonClockModel_yearOf (Cond.code y_SkeletonClockModel_yearOf b_SkeletonClockModel_yearOf 4 (some .long) :: GW) rm_SkeletonClockModel_yearOf (KPc D kk st [.long x0] [] sz) (KQl D kk o [] (va_A [] sz)) 0 0 (va_A [] sz) := by
  refine k_start (Qc := fun A => KQl D kk o [] A) (by decide) (Nat.le_of_ble_eq_true rfl) ?_
  intro p e s m below meth c A ls S hnm hr hlk hA X hP hD hS hl
  have hl : lv_has ls 4 [(0, .long x0)] := hl
  have hx := S.1
  have hb := S.2.1
  unfold f_SkeletonClockModel_yearOf at he
  refine lv_ldc2 (v := (1970 : Int64)) hx hb S.2.2.2.1 (S.2.2.2.2 _ gm_5_78) d_SkeletonClockModel_yearOf_0 ?_
  refine lv_lload_n hx hb d_SkeletonClockModel_yearOf_3 rfl (lv_at hl 0 rfl) ?_
  refine lv_ldc2 (v := (400 : Int64)) hx hb S.2.2.2.1 (S.2.2.2.2 _ gm_5_79) d_SkeletonClockModel_yearOf_4 ?_
  refine lv_lmul hx hb d_SkeletonClockModel_yearOf_7 ?_
  refine lv_ldc2 (v := (146097 : Int64)) hx hb S.2.2.2.1 (S.2.2.2.2 _ gm_5_80) d_SkeletonClockModel_yearOf_8 ?_
  obtain ⟨u1, e2, he⟩ := ih_b he
  refine k_lo (r_S (As := [.long (x0 * (400 : Int64)), .long (146097 : Int64)]) S X hA hP hD hS (c_SkeletonClockModel_div l D kk st _ (x0 * (400 : Int64)) (146097 : Int64) u1 e2) gm_5_71 gm_5_69 gm_5_70 gm_1_13 ⟨rfl, rfl, by decide, by decide⟩ kd_SkeletonClockModel_div [] rfl rfl rfl rfl hl.1 rfl (Nat.le_of_ble_eq_true rfl) d_SkeletonClockModel_yearOf_11 ⟨Nat.zero_le _, Nat.zero_le _⟩) hA hP hD hS [] rfl (fun H locs hP hS => ?_)
  refine lv_ladd hx hb d_SkeletonClockModel_yearOf_14 ?_
  refine lv_lstore_n hx hb d_SkeletonClockModel_yearOf_15 rfl hl (by decide) rfl (fun ls hl => ?_)
  have hl : lv_has ls 4 [(2, .long ((1970 : Int64) + u1)), (0, .long x0)] := hl
  obtain ⟨u5, e6, he⟩ := ih_b he
  have hl : lv_has ls 4 [(0, .long x0), (2, .long ((1970 : Int64) + u1))] := lv_sub hl [1, 0] rfl
  refine w_SkeletonClockModel_yearOf_16 x0 S hr hlk hA X FU ((1970 : Int64) + u1) u5 _ _ ls e6 hl hP hD hS (fun H locs ls hl hP hD hS => ?_)
  obtain ⟨u9, e10, he⟩ := ih_b he
  have hl : lv_has ls 4 [(0, .long x0), (2, .long u5)] := lv_sub hl [0, 1] rfl
  refine w_SkeletonClockModel_yearOf_32 x0 S hr hlk hA X FU u5 u9 _ _ ls e10 hl hP hD hS (fun H locs ls hl hP hD hS => ?_)
  refine lv_lload_n hx hb d_SkeletonClockModel_yearOf_50 rfl (lv_at hl 1 rfl) ?_
  cases he
  exact k_lre hx hb hr hlk X hP hD hS d_SkeletonClockModel_yearOf_51
abbrev rm_SkeletonClockModel_monthLength : Room := { frames := 3, cells := 0, slots := 0, locals := 67 }
set_option maxHeartbeats 4000000 in
set_option maxRecDepth 100000 in
theorem c_SkeletonClockModel_monthLength (l : Launch) (D : va_G) (kk : Nat → ClassId) (st : Nat → Nat) (sz : Nat) (x0 : Int64) (x2 : Int32) (o : Int32) (he : f_SkeletonClockModel_monthLength x0 x2 = some o) : Met l y_SkeletonClockModel_monthLength (Cond.code y_SkeletonClockModel_monthLength b_SkeletonClockModel_monthLength 3 (some .int) :: GW) rm_SkeletonClockModel_monthLength (KPc D kk st [.long x0, .int x2] [] sz) (KQi D kk o [] (va_A [] sz)) 0 0 (va_A [] sz) := by
  refine k_start (Qc := fun A => KQi D kk o [] A) (by decide) (Nat.le_of_ble_eq_true rfl) ?_
  intro p e s m below meth c A ls S hnm hr hlk hA X hP hD hS hl
  have hl : lv_has ls 3 [(0, .long x0), (2, .int x2)] := hl
  have hx := S.1
  have hb := S.2.1
  unfold f_SkeletonClockModel_monthLength at he
  refine lv_iload_n hx hb d_SkeletonClockModel_monthLength_0 rfl (lv_at hl 1 rfl) ?_
  refine lv_iconst (v := (2 : Int32)) hx hb d_SkeletonClockModel_monthLength_1 (by decide) ?_
  refine lv_icmp_ne (tgt := 31) hx hb d_SkeletonClockModel_monthLength_2 rfl (fun hc => ?_) (fun hc => ?_)
  · have he := ih_f hc he
    refine lv_iload_n hx hb d_SkeletonClockModel_monthLength_31 rfl (lv_at hl 1 rfl) ?_
    refine lv_iconst (v := (4 : Int32)) hx hb d_SkeletonClockModel_monthLength_32 (by decide) ?_
    refine lv_icmp_eq (tgt := 54) hx hb d_SkeletonClockModel_monthLength_33 rfl (fun hc => ?_) (fun hc => ?_)
    · have he := ih_t hc he
      refine lv_bipush (v := (30 : Int32)) hx hb d_SkeletonClockModel_monthLength_54 (by decide) ?_
      refine lv_goto (tgt := 61) hx hb d_SkeletonClockModel_monthLength_56 rfl ?_
      cases he
      exact k_ire hx hb hr hlk X hP hD hS d_SkeletonClockModel_monthLength_61
    · have he := ih_f hc he
      refine lv_iload_n hx hb d_SkeletonClockModel_monthLength_36 rfl (lv_at hl 1 rfl) ?_
      refine lv_bipush (v := (6 : Int32)) hx hb d_SkeletonClockModel_monthLength_37 (by decide) ?_
      refine lv_icmp_eq (tgt := 54) hx hb d_SkeletonClockModel_monthLength_39 rfl (fun hc => ?_) (fun hc => ?_)
      · have he := ih_t hc he
        refine lv_bipush (v := (30 : Int32)) hx hb d_SkeletonClockModel_monthLength_54 (by decide) ?_
        refine lv_goto (tgt := 61) hx hb d_SkeletonClockModel_monthLength_56 rfl ?_
        cases he
        exact k_ire hx hb hr hlk X hP hD hS d_SkeletonClockModel_monthLength_61
      · have he := ih_f hc he
        refine lv_iload_n hx hb d_SkeletonClockModel_monthLength_42 rfl (lv_at hl 1 rfl) ?_
        refine lv_bipush (v := (9 : Int32)) hx hb d_SkeletonClockModel_monthLength_43 (by decide) ?_
        refine lv_icmp_eq (tgt := 54) hx hb d_SkeletonClockModel_monthLength_45 rfl (fun hc => ?_) (fun hc => ?_)
        · have he := ih_t hc he
          refine lv_bipush (v := (30 : Int32)) hx hb d_SkeletonClockModel_monthLength_54 (by decide) ?_
          refine lv_goto (tgt := 61) hx hb d_SkeletonClockModel_monthLength_56 rfl ?_
          cases he
          exact k_ire hx hb hr hlk X hP hD hS d_SkeletonClockModel_monthLength_61
        · have he := ih_f hc he
          refine lv_iload_n hx hb d_SkeletonClockModel_monthLength_48 rfl (lv_at hl 1 rfl) ?_
          refine lv_bipush (v := (11 : Int32)) hx hb d_SkeletonClockModel_monthLength_49 (by decide) ?_
          refine lv_icmp_ne (tgt := 59) hx hb d_SkeletonClockModel_monthLength_51 rfl (fun hc => ?_) (fun hc => ?_)
          · have he := ih_f hc he
            refine lv_bipush (v := (31 : Int32)) hx hb d_SkeletonClockModel_monthLength_59 (by decide) ?_
            cases he
            exact k_ire hx hb hr hlk X hP hD hS d_SkeletonClockModel_monthLength_61
          · have he := ih_t hc he
            refine lv_bipush (v := (30 : Int32)) hx hb d_SkeletonClockModel_monthLength_54 (by decide) ?_
            refine lv_goto (tgt := 61) hx hb d_SkeletonClockModel_monthLength_56 rfl ?_
            cases he
            exact k_ire hx hb hr hlk X hP hD hS d_SkeletonClockModel_monthLength_61
  · have he := ih_t hc he
    refine lv_lload_n hx hb d_SkeletonClockModel_monthLength_5 rfl (lv_at hl 0 rfl) ?_
    refine lv_lconst (v := (1 : Int64)) hx hb d_SkeletonClockModel_monthLength_6 (by decide) ?_
    refine lv_ladd hx hb d_SkeletonClockModel_monthLength_7 ?_
    obtain ⟨u1, e2, he⟩ := ih_b he
    refine k_lo (r_S (As := [.long (x0 + (1 : Int64))]) S X hA hP hD hS (c_SkeletonClockModel_newYear l D kk st _ (x0 + (1 : Int64)) u1 e2) gm_5_83 gm_5_81 gm_5_82 gm_1_13 ⟨rfl, rfl, by decide, by decide⟩ kd_SkeletonClockModel_newYear [] rfl rfl rfl rfl hl.1 rfl (Nat.le_of_ble_eq_true rfl) d_SkeletonClockModel_monthLength_8 ⟨Nat.zero_le _, Nat.zero_le _⟩) hA hP hD hS [] rfl (fun H locs hP hS => ?_)
    refine lv_lload_n hx hb d_SkeletonClockModel_monthLength_11 rfl (lv_at hl 0 rfl) ?_
    obtain ⟨u3, e4, he⟩ := ih_b he
    refine k_lo (r_S (As := [.long x0]) S X hA hP hD hS (c_SkeletonClockModel_newYear l D kk st _ x0 u3 e4) gm_5_83 gm_5_81 gm_5_82 gm_1_13 ⟨rfl, rfl, by decide, by decide⟩ kd_SkeletonClockModel_newYear [] rfl rfl rfl rfl hl.1 rfl (Nat.le_of_ble_eq_true rfl) d_SkeletonClockModel_monthLength_12 ⟨Nat.zero_le _, Nat.zero_le _⟩) hA hP hD hS [] rfl (fun H locs hP hS => ?_)
    refine lv_lsub hx hb d_SkeletonClockModel_monthLength_15 ?_
    refine lv_ldc2 (v := (366 : Int64)) hx hb S.2.2.2.1 (S.2.2.2.2 _ gm_5_109) d_SkeletonClockModel_monthLength_16 ?_
    refine lq_ne (tgt := 28) hx hb d_SkeletonClockModel_monthLength_19 d_SkeletonClockModel_monthLength_20 rfl (fun hc => ?_) (fun hc => ?_)
    · have he := ih_f hc he
      refine lv_bipush (v := (28 : Int32)) hx hb d_SkeletonClockModel_monthLength_28 (by decide) ?_
      cases he
      exact k_ire hx hb hr hlk X hP hD hS d_SkeletonClockModel_monthLength_30
    · have he := ih_t hc he
      refine lv_bipush (v := (29 : Int32)) hx hb d_SkeletonClockModel_monthLength_23 (by decide) ?_
      refine lv_goto (tgt := 30) hx hb d_SkeletonClockModel_monthLength_25 rfl ?_
      cases he
      exact k_ire hx hb hr hlk X hP hD hS d_SkeletonClockModel_monthLength_30
abbrev rm_SkeletonClockModel_newMonth : Room := { frames := 4, cells := 0, slots := 0, locals := 89 }
set_option maxHeartbeats 4000000 in
set_option maxRecDepth 100000 in
theorem w_SkeletonClockModel_newMonth_8 {p : Program} {l : Launch} {e : Env} {s : State} {m : MethodId} {args : Array Value} {below : List Frame} {meth : Method} {c : Code} {Q : State → Prop} {A : Nat → Prop} {D : va_G} {kk : Nat → ClassId} {st : Nat → Nat} (x0 : Int64) (x2 : Int32) (S : CallFix p m c b_SkeletonClockModel_newMonth 6 s args GW y_SkeletonClockModel_newMonth.cls) (hr : meth.sig.returnType = (some .long)) (hlk : meth.locks = false) (hA : ∀ q, s.heap.size ≤ q → A q) (X : KX D kk st A s) : ∀ (n : Nat) (x3 : Int64) (x5 : Int32) (v : Int64 × Int32) (H : Heap) (locs : List Loc) (ls : Array Slot), lp_SkeletonClockModel_newMonth_8 x0 x2 n x3 x5 = some v → lv_has ls 6 [(0, .long x0), (2, .int x2), (3, .long x3), (5, .int x5)] → va_P D classes [] H → va_D A [] → va_S A s.heap H locs → (∀ (H : Heap) (locs : List Loc) (ls : Array Slot), lv_has ls 6 [(0, .long x0), (2, .int x2), (3, .long v.1), (5, .int v.2)] → va_P D classes [] H → va_D A [] → va_S A s.heap H locs → W p l e rm_SkeletonClockModel_newMonth s m args below meth c H locs 0 0 Q (F0 m 30 ls [])) → W p l e rm_SkeletonClockModel_newMonth s m args below meth c H locs 0 0 Q (F0 m 8 ls []) := by
  intro n
  induction n with
  | zero =>
    intro x3 x5 v H locs ls he hl hP hD hS K
    exact ih_n he
  | succ n ih =>
    intro x3 x5 v H locs ls he hl hP hD hS K
    have hx := S.1
    have hb := S.2.1
    have he : st_SkeletonClockModel_newMonth_8 x0 x2 (lp_SkeletonClockModel_newMonth_8 x0 x2 n) x3 x5 = some v := he
    unfold st_SkeletonClockModel_newMonth_8 at he
    refine lv_iload hx hb d_SkeletonClockModel_newMonth_8 (lv_at hl 3 rfl) ?_
    refine lv_iload_n hx hb d_SkeletonClockModel_newMonth_10 rfl (lv_at hl 1 rfl) ?_
    refine lv_icmp_ge (tgt := 30) hx hb d_SkeletonClockModel_newMonth_11 rfl (fun hc => ?_) (fun hc => ?_)
    · have he := ih_t hc he
      have hl : lv_has ls 6 [(0, .long x0), (2, .int x2), (3, .long x3), (5, .int x5)] := lv_sub hl [0, 1, 2, 3] rfl
      cases he
      exact K _ _ _ hl hP hD hS
    · have he := ih_f hc he
      refine lv_lload_n hx hb d_SkeletonClockModel_newMonth_14 rfl (lv_at hl 2 rfl) ?_
      refine lv_lload_n hx hb d_SkeletonClockModel_newMonth_15 rfl (lv_at hl 0 rfl) ?_
      refine lv_iload hx hb d_SkeletonClockModel_newMonth_16 (lv_at hl 3 rfl) ?_
      obtain ⟨u3, e4, he⟩ := ih_b he
      refine k_io (r_S (As := [.long x0, .int x5]) S X hA hP hD hS (c_SkeletonClockModel_monthLength l D kk st _ x0 x5 u3 e4) gm_5_108 gm_5_106 gm_5_107 gm_1_13 ⟨rfl, rfl, by decide, by decide⟩ kd_SkeletonClockModel_monthLength [] rfl rfl rfl rfl hl.1 rfl (Nat.le_of_ble_eq_true rfl) d_SkeletonClockModel_newMonth_18 ⟨Nat.zero_le _, Nat.zero_le _⟩) hA hP hD hS [] rfl (fun H locs hP hS => ?_)
      refine lv_i2l hx hb d_SkeletonClockModel_newMonth_21 rfl ?_
      refine lv_ladd hx hb d_SkeletonClockModel_newMonth_22 ?_
      refine lv_lstore_n hx hb d_SkeletonClockModel_newMonth_23 rfl hl (by decide) rfl (fun ls hl => ?_)
      have hl : lv_has ls 6 [(3, .long (x3 + (Int32.toInt64 u3))), (0, .long x0), (2, .int x2), (5, .int x5)] := hl
      refine lv_iinc (k := 3) hx hb d_SkeletonClockModel_newMonth_24 hl rfl (ii_ (v := (1 : Int32)) (by decide)) (by decide) rfl (fun ls hl => ?_)
      have hl : lv_has ls 6 [(5, .int (x5 + (1 : Int32))), (3, .long (x3 + (Int32.toInt64 u3))), (0, .long x0), (2, .int x2)] := hl
      refine lv_goto (tgt := 8) hx hb d_SkeletonClockModel_newMonth_27 rfl ?_
      have hl : lv_has ls 6 [(0, .long x0), (2, .int x2), (3, .long (x3 + (Int32.toInt64 u3))), (5, .int (x5 + (1 : Int32)))] := lv_sub hl [2, 3, 1, 0] rfl
      exact ih _ _ _ _ _ _ he hl hP hD hS K
set_option maxHeartbeats 4000000 in
set_option maxRecDepth 100000 in
theorem c_SkeletonClockModel_newMonth (l : Launch) (D : va_G) (kk : Nat → ClassId) (st : Nat → Nat) (sz : Nat) (x0 : Int64) (x2 : Int32) (o : Int64) (he : f_SkeletonClockModel_newMonth x0 x2 = some o) : Met l y_SkeletonClockModel_newMonth (Cond.code y_SkeletonClockModel_newMonth b_SkeletonClockModel_newMonth 6 (some .long) :: GW) rm_SkeletonClockModel_newMonth (KPc D kk st [.long x0, .int x2] [] sz) (KQl D kk o [] (va_A [] sz)) 0 0 (va_A [] sz) := by
  refine k_start (Qc := fun A => KQl D kk o [] A) (by decide) (Nat.le_of_ble_eq_true rfl) ?_
  intro p e s m below meth c A ls S hnm hr hlk hA X hP hD hS hl
  have hl : lv_has ls 6 [(0, .long x0), (2, .int x2)] := hl
  have hx := S.1
  have hb := S.2.1
  unfold f_SkeletonClockModel_newMonth at he
  refine lv_lload_n hx hb d_SkeletonClockModel_newMonth_0 rfl (lv_at hl 0 rfl) ?_
  obtain ⟨u1, e2, he⟩ := ih_b he
  refine k_lo (r_S (As := [.long x0]) S X hA hP hD hS (c_SkeletonClockModel_newYear l D kk st _ x0 u1 e2) gm_5_83 gm_5_81 gm_5_82 gm_1_13 ⟨rfl, rfl, by decide, by decide⟩ kd_SkeletonClockModel_newYear [] rfl rfl rfl rfl hl.1 rfl (Nat.le_of_ble_eq_true rfl) d_SkeletonClockModel_newMonth_1 ⟨Nat.zero_le _, Nat.zero_le _⟩) hA hP hD hS [] rfl (fun H locs hP hS => ?_)
  refine lv_lstore_n hx hb d_SkeletonClockModel_newMonth_4 rfl hl (by decide) rfl (fun ls hl => ?_)
  have hl : lv_has ls 6 [(3, .long u1), (0, .long x0), (2, .int x2)] := hl
  refine lv_iconst (v := (1 : Int32)) hx hb d_SkeletonClockModel_newMonth_5 (by decide) ?_
  refine lv_istore hx hb d_SkeletonClockModel_newMonth_6 hl (by decide) rfl (fun ls hl => ?_)
  have hl : lv_has ls 6 [(5, .int (1 : Int32)), (3, .long u1), (0, .long x0), (2, .int x2)] := hl
  obtain ⟨u5, e6, he⟩ := ih_b he
  have hl : lv_has ls 6 [(0, .long x0), (2, .int x2), (3, .long u1), (5, .int (1 : Int32))] := lv_sub hl [2, 3, 1, 0] rfl
  refine w_SkeletonClockModel_newMonth_8 x0 x2 S hr hlk hA X FU u1 (1 : Int32) u5 _ _ ls e6 hl hP hD hS (fun H locs ls hl hP hD hS => ?_)
  refine lv_lload_n hx hb d_SkeletonClockModel_newMonth_30 rfl (lv_at hl 2 rfl) ?_
  cases he
  exact k_lre hx hb hr hlk X hP hD hS d_SkeletonClockModel_newMonth_31
abbrev rm_SkeletonClockModel_weekday : Room := { frames := 1, cells := 0, slots := 0, locals := 25 }
set_option maxHeartbeats 4000000 in
set_option maxRecDepth 100000 in
theorem c_SkeletonClockModel_weekday (l : Launch) (D : va_G) (kk : Nat → ClassId) (st : Nat → Nat) (sz : Nat) (x0 : Int64) (o : Int32) (he : f_SkeletonClockModel_weekday x0 = some o) : Met l y_SkeletonClockModel_weekday (Cond.code y_SkeletonClockModel_weekday b_SkeletonClockModel_weekday 2 (some .int) :: GW) rm_SkeletonClockModel_weekday (KPc D kk st [.long x0] [] sz) (KQi D kk o [] (va_A [] sz)) 0 0 (va_A [] sz) := by
  refine k_start (Qc := fun A => KQi D kk o [] A) (by decide) (Nat.le_of_ble_eq_true rfl) ?_
  intro p e s m below meth c A ls S hnm hr hlk hA X hP hD hS hl
  have hl : lv_has ls 2 [(0, .long x0)] := hl
  have hx := S.1
  have hb := S.2.1
  unfold f_SkeletonClockModel_weekday at he
  refine lv_lload_n hx hb d_SkeletonClockModel_weekday_0 rfl (lv_at hl 0 rfl) ?_
  refine lv_ldc2 (v := (3 : Int64)) hx hb S.2.2.2.1 (S.2.2.2.2 _ gm_5_113) d_SkeletonClockModel_weekday_1 ?_
  refine lv_ladd hx hb d_SkeletonClockModel_weekday_4 ?_
  refine lv_ldc2 (v := (7 : Int64)) hx hb S.2.2.2.1 (S.2.2.2.2 _ gm_5_114) d_SkeletonClockModel_weekday_5 ?_
  refine lv_lload_n hx hb d_SkeletonClockModel_weekday_8 rfl (lv_at hl 0 rfl) ?_
  refine lv_ldc2 (v := (3 : Int64)) hx hb S.2.2.2.1 (S.2.2.2.2 _ gm_5_113) d_SkeletonClockModel_weekday_9 ?_
  refine lv_ladd hx hb d_SkeletonClockModel_weekday_12 ?_
  refine lv_ldc2 (v := (7 : Int64)) hx hb S.2.2.2.1 (S.2.2.2.2 _ gm_5_114) d_SkeletonClockModel_weekday_13 ?_
  obtain ⟨u1, e2, he⟩ := ih_b he
  refine k_lo (r_S (As := [.long (x0 + (3 : Int64)), .long (7 : Int64)]) S X hA hP hD hS (c_SkeletonClockModel_div l D kk st _ (x0 + (3 : Int64)) (7 : Int64) u1 e2) gm_5_71 gm_5_69 gm_5_70 gm_1_13 ⟨rfl, rfl, by decide, by decide⟩ kd_SkeletonClockModel_div [] rfl rfl rfl rfl hl.1 rfl (Nat.le_of_ble_eq_true rfl) d_SkeletonClockModel_weekday_16 ⟨Nat.zero_le _, Nat.zero_le _⟩) hA hP hD hS [] rfl (fun H locs hP hS => ?_)
  refine lv_lmul hx hb d_SkeletonClockModel_weekday_19 ?_
  refine lv_lsub hx hb d_SkeletonClockModel_weekday_20 ?_
  refine lv_l2i hx hb d_SkeletonClockModel_weekday_21 rfl ?_
  refine lv_iconst (v := (1 : Int32)) hx hb d_SkeletonClockModel_weekday_22 (by decide) ?_
  refine lv_iadd hx hb d_SkeletonClockModel_weekday_23 ?_
  cases he
  exact k_ire hx hb hr hlk X hP hD hS d_SkeletonClockModel_weekday_24
abbrev rm_SkeletonClockModel_firstMonday : Room := { frames := 3, cells := 0, slots := 0, locals := 67 }
set_option maxHeartbeats 4000000 in
set_option maxRecDepth 100000 in
theorem c_SkeletonClockModel_firstMonday (l : Launch) (D : va_G) (kk : Nat → ClassId) (st : Nat → Nat) (sz : Nat) (x0 : Int64) (o : Int64) (he : f_SkeletonClockModel_firstMonday x0 = some o) : Met l y_SkeletonClockModel_firstMonday (Cond.code y_SkeletonClockModel_firstMonday b_SkeletonClockModel_firstMonday 4 (some .long) :: GW) rm_SkeletonClockModel_firstMonday (KPc D kk st [.long x0] [] sz) (KQl D kk o [] (va_A [] sz)) 0 0 (va_A [] sz) := by
  refine k_start (Qc := fun A => KQl D kk o [] A) (by decide) (Nat.le_of_ble_eq_true rfl) ?_
  intro p e s m below meth c A ls S hnm hr hlk hA X hP hD hS hl
  have hl : lv_has ls 4 [(0, .long x0)] := hl
  have hx := S.1
  have hb := S.2.1
  unfold f_SkeletonClockModel_firstMonday at he
  refine lv_lload_n hx hb d_SkeletonClockModel_firstMonday_0 rfl (lv_at hl 0 rfl) ?_
  obtain ⟨u1, e2, he⟩ := ih_b he
  refine k_lo (r_S (As := [.long x0]) S X hA hP hD hS (c_SkeletonClockModel_newYear l D kk st _ x0 u1 e2) gm_5_83 gm_5_81 gm_5_82 gm_1_13 ⟨rfl, rfl, by decide, by decide⟩ kd_SkeletonClockModel_newYear [] rfl rfl rfl rfl hl.1 rfl (Nat.le_of_ble_eq_true rfl) d_SkeletonClockModel_firstMonday_1 ⟨Nat.zero_le _, Nat.zero_le _⟩) hA hP hD hS [] rfl (fun H locs hP hS => ?_)
  refine lv_ldc2 (v := (3 : Int64)) hx hb S.2.2.2.1 (S.2.2.2.2 _ gm_5_113) d_SkeletonClockModel_firstMonday_4 ?_
  refine lv_ladd hx hb d_SkeletonClockModel_firstMonday_7 ?_
  refine lv_lstore_n hx hb d_SkeletonClockModel_firstMonday_8 rfl hl (by decide) rfl (fun ls hl => ?_)
  have hl : lv_has ls 4 [(2, .long (u1 + (3 : Int64))), (0, .long x0)] := hl
  refine lv_lload_n hx hb d_SkeletonClockModel_firstMonday_9 rfl (lv_at hl 0 rfl) ?_
  refine lv_lload_n hx hb d_SkeletonClockModel_firstMonday_10 rfl (lv_at hl 0 rfl) ?_
  obtain ⟨u3, e4, he⟩ := ih_b he
  refine k_io (r_S (As := [.long (u1 + (3 : Int64))]) S X hA hP hD hS (c_SkeletonClockModel_weekday l D kk st _ (u1 + (3 : Int64)) u3 e4) gm_5_112 gm_5_110 gm_5_111 gm_1_13 ⟨rfl, rfl, by decide, by decide⟩ kd_SkeletonClockModel_weekday [] rfl rfl rfl rfl hl.1 rfl (Nat.le_of_ble_eq_true rfl) d_SkeletonClockModel_firstMonday_11 ⟨Nat.zero_le _, Nat.zero_le _⟩) hA hP hD hS [] rfl (fun H locs hP hS => ?_)
  refine lv_i2l hx hb d_SkeletonClockModel_firstMonday_14 rfl ?_
  refine lv_lsub hx hb d_SkeletonClockModel_firstMonday_15 ?_
  refine lv_lconst (v := (1 : Int64)) hx hb d_SkeletonClockModel_firstMonday_16 (by decide) ?_
  refine lv_ladd hx hb d_SkeletonClockModel_firstMonday_17 ?_
  cases he
  exact k_lre hx hb hr hlk X hP hD hS d_SkeletonClockModel_firstMonday_18
abbrev rm_SkeletonClockModel_dateField : Room := { frames := 5, cells := 0, slots := 0, locals := 114 }
set_option maxHeartbeats 4000000 in
set_option maxRecDepth 100000 in
theorem w_SkeletonClockModel_dateField_8 {p : Program} {l : Launch} {e : Env} {s : State} {m : MethodId} {args : Array Value} {below : List Frame} {meth : Method} {c : Code} {Q : State → Prop} {A : Nat → Prop} {D : va_G} {kk : Nat → ClassId} {st : Nat → Nat} (x0 : Int64) (x2 : Int32) (x3 : Int64) (S : CallFix p m c b_SkeletonClockModel_dateField 10 s args GW y_SkeletonClockModel_dateField.cls) (hr : meth.sig.returnType = (some .long)) (hlk : meth.locks = false) (hA : ∀ q, s.heap.size ≤ q → A q) (X : KX D kk st A s) : ∀ (n : Nat) (x5 : Int32) (v : Int32) (H : Heap) (locs : List Loc) (ls : Array Slot), lp_SkeletonClockModel_dateField_8 x0 x2 x3 n x5 = some v → lv_has ls 10 [(0, .long x0), (2, .int x2), (3, .long x3), (5, .int x5)] → va_P D classes [] H → va_D A [] → va_S A s.heap H locs → (∀ (H : Heap) (locs : List Loc) (ls : Array Slot), lv_has ls 10 [(0, .long x0), (2, .int x2), (3, .long x3), (5, .int v)] → va_P D classes [] H → va_D A [] → va_S A s.heap H locs → W p l e rm_SkeletonClockModel_dateField s m args below meth c H locs 0 0 Q (F0 m 34 ls [])) → W p l e rm_SkeletonClockModel_dateField s m args below meth c H locs 0 0 Q (F0 m 8 ls []) := by
  intro n
  induction n with
  | zero =>
    intro x5 v H locs ls he hl hP hD hS K
    exact ih_n he
  | succ n ih =>
    intro x5 v H locs ls he hl hP hD hS K
    have hx := S.1
    have hb := S.2.1
    have he : st_SkeletonClockModel_dateField_8 x0 x2 x3 (lp_SkeletonClockModel_dateField_8 x0 x2 x3 n) x5 = some v := he
    unfold st_SkeletonClockModel_dateField_8 at he
    refine lv_iload hx hb d_SkeletonClockModel_dateField_8 (lv_at hl 3 rfl) ?_
    refine lv_bipush (v := (12 : Int32)) hx hb d_SkeletonClockModel_dateField_10 (by decide) ?_
    refine lv_icmp_ge (tgt := 34) hx hb d_SkeletonClockModel_dateField_12 rfl (fun hc => ?_) (fun hc => ?_)
    · have he := ih_t hc he
      have hl : lv_has ls 10 [(0, .long x0), (2, .int x2), (3, .long x3), (5, .int x5)] := lv_sub hl [0, 1, 2, 3] rfl
      cases he
      exact K _ _ _ hl hP hD hS
    · have he := ih_f hc he
      refine lv_lload_n hx hb d_SkeletonClockModel_dateField_15 rfl (lv_at hl 2 rfl) ?_
      refine lv_iload hx hb d_SkeletonClockModel_dateField_16 (lv_at hl 3 rfl) ?_
      refine lv_iconst (v := (1 : Int32)) hx hb d_SkeletonClockModel_dateField_18 (by decide) ?_
      refine lv_iadd hx hb d_SkeletonClockModel_dateField_19 ?_
      obtain ⟨u3, e4, he⟩ := ih_b he
      refine k_lo (r_S (As := [.long x3, .int (x5 + (1 : Int32))]) S X hA hP hD hS (c_SkeletonClockModel_newMonth l D kk st _ x3 (x5 + (1 : Int32)) u3 e4) gm_5_105 gm_5_103 gm_5_104 gm_1_13 ⟨rfl, rfl, by decide, by decide⟩ kd_SkeletonClockModel_newMonth [] rfl rfl rfl rfl hl.1 rfl (Nat.le_of_ble_eq_true rfl) d_SkeletonClockModel_dateField_20 ⟨Nat.zero_le _, Nat.zero_le _⟩) hA hP hD hS [] rfl (fun H locs hP hS => ?_)
      refine lv_lload_n hx hb d_SkeletonClockModel_dateField_23 rfl (lv_at hl 0 rfl) ?_
      refine lq_gt (tgt := 34) hx hb d_SkeletonClockModel_dateField_24 d_SkeletonClockModel_dateField_25 rfl (fun hc => ?_) (fun hc => ?_)
      · have he := ih_t hc he
        have hl : lv_has ls 10 [(0, .long x0), (2, .int x2), (3, .long x3), (5, .int x5)] := lv_sub hl [0, 1, 2, 3] rfl
        cases he
        exact K _ _ _ hl hP hD hS
      · have he := ih_f hc he
        refine lv_iinc (k := 3) hx hb d_SkeletonClockModel_dateField_28 hl rfl (ii_ (v := (1 : Int32)) (by decide)) (by decide) rfl (fun ls hl => ?_)
        have hl : lv_has ls 10 [(5, .int (x5 + (1 : Int32))), (0, .long x0), (2, .int x2), (3, .long x3)] := hl
        refine lv_goto (tgt := 8) hx hb d_SkeletonClockModel_dateField_31 rfl ?_
        have hl : lv_has ls 10 [(0, .long x0), (2, .int x2), (3, .long x3), (5, .int (x5 + (1 : Int32)))] := lv_sub hl [1, 2, 3, 0] rfl
        exact ih _ _ _ _ _ he hl hP hD hS K
set_option maxHeartbeats 4000000 in
set_option maxRecDepth 100000 in
theorem w_SkeletonClockModel_dateField_34 {p : Program} {l : Launch} {e : Env} {s : State} {m : MethodId} {args : Array Value} {below : List Frame} {meth : Method} {c : Code} {A : Nat → Prop} {D : va_G} {kk : Nat → ClassId} {st : Nat → Nat} (x0 : Int64) (x2 : Int32) (x3 : Int64) (x5 : Int32) (o : Int64) (S : CallFix p m c b_SkeletonClockModel_dateField 10 s args GW y_SkeletonClockModel_dateField.cls) (hr : meth.sig.returnType = (some .long)) (hlk : meth.locks = false) (hA : ∀ q, s.heap.size ≤ q → A q) (X : KX D kk st A s) (H : Heap) (locs : List Loc) (ls : Array Slot) (he : jn_SkeletonClockModel_dateField_34 x0 x2 x3 x5 = some o) (hl : lv_has ls 10 [(0, .long x0), (2, .int x2), (3, .long x3), (5, .int x5)]) (hP : va_P D classes [] H) (hD : va_D A []) (hS : va_S A s.heap H locs) : W p l e rm_SkeletonClockModel_dateField s m args below meth c H locs 0 0 (MQ below (KQl D kk o [] A) args s 0 0 A) (F0 m 34 ls []) := by
  have hx := S.1
  have hb := S.2.1
  unfold jn_SkeletonClockModel_dateField_34 at he
  refine lv_lload_n hx hb d_SkeletonClockModel_dateField_34 rfl (lv_at hl 0 rfl) ?_
  refine lv_lload_n hx hb d_SkeletonClockModel_dateField_35 rfl (lv_at hl 0 rfl) ?_
  obtain ⟨u7, e8, he⟩ := ih_b he
  refine k_io (r_S (As := [.long x0]) S X hA hP hD hS (c_SkeletonClockModel_weekday l D kk st _ x0 u7 e8) gm_5_112 gm_5_110 gm_5_111 gm_1_13 ⟨rfl, rfl, by decide, by decide⟩ kd_SkeletonClockModel_weekday [] rfl rfl rfl rfl hl.1 rfl (Nat.le_of_ble_eq_true rfl) d_SkeletonClockModel_dateField_36 ⟨Nat.zero_le _, Nat.zero_le _⟩) hA hP hD hS [] rfl (fun H locs hP hS => ?_)
  refine lv_i2l hx hb d_SkeletonClockModel_dateField_39 rfl ?_
  refine lv_lsub hx hb d_SkeletonClockModel_dateField_40 ?_
  refine lv_ldc2 (v := (4 : Int64)) hx hb S.2.2.2.1 (S.2.2.2.2 _ gm_5_88) d_SkeletonClockModel_dateField_41 ?_
  refine lv_ladd hx hb d_SkeletonClockModel_dateField_44 ?_
  refine lv_lstore hx hb d_SkeletonClockModel_dateField_45 hl (by decide) rfl (fun ls hl => ?_)
  have hl : lv_has ls 10 [(6, .long ((x0 - (Int32.toInt64 u7)) + (4 : Int64))), (0, .long x0), (2, .int x2), (3, .long x3), (5, .int x5)] := hl
  refine lv_lload hx hb d_SkeletonClockModel_dateField_47 (lv_at hl 0 rfl) ?_
  obtain ⟨u9, e10, he⟩ := ih_b he
  refine k_lo (r_S (As := [.long ((x0 - (Int32.toInt64 u7)) + (4 : Int64))]) S X hA hP hD hS (c_SkeletonClockModel_yearOf l D kk st _ ((x0 - (Int32.toInt64 u7)) + (4 : Int64)) u9 e10) gm_5_77 gm_5_75 gm_5_76 gm_1_13 ⟨rfl, rfl, by decide, by decide⟩ kd_SkeletonClockModel_yearOf [] rfl rfl rfl rfl hl.1 rfl (Nat.le_of_ble_eq_true rfl) d_SkeletonClockModel_dateField_49 ⟨Nat.zero_le _, Nat.zero_le _⟩) hA hP hD hS [] rfl (fun H locs hP hS => ?_)
  refine lv_lstore hx hb d_SkeletonClockModel_dateField_52 hl (by decide) rfl (fun ls hl => ?_)
  have hl : lv_has ls 10 [(8, .long u9), (6, .long ((x0 - (Int32.toInt64 u7)) + (4 : Int64))), (0, .long x0), (2, .int x2), (3, .long x3), (5, .int x5)] := hl
  refine lv_iload_n hx hb d_SkeletonClockModel_dateField_54 rfl (lv_at hl 3 rfl) ?_
  refine lv_if_ne (tgt := 60) hx hb d_SkeletonClockModel_dateField_55 rfl (fun hc => ?_) (fun hc => ?_)
  · have he := ih_f hc he
    refine lv_iload_n hx hb d_SkeletonClockModel_dateField_60 rfl (lv_at hl 3 rfl) ?_
    refine lv_iconst (v := (1 : Int32)) hx hb d_SkeletonClockModel_dateField_61 (by decide) ?_
    refine lv_icmp_ne (tgt := 69) hx hb d_SkeletonClockModel_dateField_62 rfl (fun hc => ?_) (fun hc => ?_)
    · have he := ih_f hc he
      refine lv_iload_n hx hb d_SkeletonClockModel_dateField_69 rfl (lv_at hl 3 rfl) ?_
      refine lv_iconst (v := (2 : Int32)) hx hb d_SkeletonClockModel_dateField_70 (by decide) ?_
      refine lv_icmp_ne (tgt := 85) hx hb d_SkeletonClockModel_dateField_71 rfl (fun hc => ?_) (fun hc => ?_)
      · have he := ih_f hc he
        refine lv_iload_n hx hb d_SkeletonClockModel_dateField_85 rfl (lv_at hl 3 rfl) ?_
        refine lv_iconst (v := (3 : Int32)) hx hb d_SkeletonClockModel_dateField_86 (by decide) ?_
        refine lv_icmp_ne (tgt := 99) hx hb d_SkeletonClockModel_dateField_87 rfl (fun hc => ?_) (fun hc => ?_)
        · have he := ih_f hc he
          refine lv_iload_n hx hb d_SkeletonClockModel_dateField_99 rfl (lv_at hl 3 rfl) ?_
          refine lv_iconst (v := (4 : Int32)) hx hb d_SkeletonClockModel_dateField_100 (by decide) ?_
          refine lv_icmp_ne (tgt := 110) hx hb d_SkeletonClockModel_dateField_101 rfl (fun hc => ?_) (fun hc => ?_)
          · have he := ih_f hc he
            refine lv_iload_n hx hb d_SkeletonClockModel_dateField_110 rfl (lv_at hl 3 rfl) ?_
            refine lv_bipush (v := (6 : Int32)) hx hb d_SkeletonClockModel_dateField_111 (by decide) ?_
            refine lv_icmp_ne (tgt := 121) hx hb d_SkeletonClockModel_dateField_113 rfl (fun hc => ?_) (fun hc => ?_)
            · have he := ih_f hc he
              refine lv_lload hx hb d_SkeletonClockModel_dateField_121 (lv_at hl 1 rfl) ?_
              refine lv_lload hx hb d_SkeletonClockModel_dateField_123 (lv_at hl 0 rfl) ?_
              obtain ⟨u11, e12, he⟩ := ih_b he
              refine k_lo (r_S (As := [.long u9]) S X hA hP hD hS (c_SkeletonClockModel_newYear l D kk st _ u9 u11 e12) gm_5_83 gm_5_81 gm_5_82 gm_1_13 ⟨rfl, rfl, by decide, by decide⟩ kd_SkeletonClockModel_newYear [] rfl rfl rfl rfl hl.1 rfl (Nat.le_of_ble_eq_true rfl) d_SkeletonClockModel_dateField_125 ⟨Nat.zero_le _, Nat.zero_le _⟩) hA hP hD hS [] rfl (fun H locs hP hS => ?_)
              refine lv_lsub hx hb d_SkeletonClockModel_dateField_128 ?_
              refine lv_ldc2 (v := (7 : Int64)) hx hb S.2.2.2.1 (S.2.2.2.2 _ gm_5_114) d_SkeletonClockModel_dateField_129 ?_
              refine lv_ldiv hx hb d_SkeletonClockModel_dateField_132 (by decide) ?_
              refine lv_lconst (v := (1 : Int64)) hx hb d_SkeletonClockModel_dateField_133 (by decide) ?_
              refine lv_ladd hx hb d_SkeletonClockModel_dateField_134 ?_
              cases he
              exact k_lre hx hb hr hlk X hP hD hS d_SkeletonClockModel_dateField_135
            · have he := ih_t hc he
              refine lv_lload hx hb d_SkeletonClockModel_dateField_116 (lv_at hl 0 rfl) ?_
              refine lv_goto (tgt := 135) hx hb d_SkeletonClockModel_dateField_118 rfl ?_
              cases he
              exact k_lre hx hb hr hlk X hP hD hS d_SkeletonClockModel_dateField_135
          · have he := ih_t hc he
            refine lv_lload_n hx hb d_SkeletonClockModel_dateField_104 rfl (lv_at hl 2 rfl) ?_
            obtain ⟨u13, e14, he⟩ := ih_b he
            refine k_io (r_S (As := [.long x0]) S X hA hP hD hS (c_SkeletonClockModel_weekday l D kk st _ x0 u13 e14) gm_5_112 gm_5_110 gm_5_111 gm_1_13 ⟨rfl, rfl, by decide, by decide⟩ kd_SkeletonClockModel_weekday [] rfl rfl rfl rfl hl.1 rfl (Nat.le_of_ble_eq_true rfl) d_SkeletonClockModel_dateField_105 ⟨Nat.zero_le _, Nat.zero_le _⟩) hA hP hD hS [] rfl (fun H locs hP hS => ?_)
            refine lv_i2l hx hb d_SkeletonClockModel_dateField_108 rfl ?_
            cases he
            exact k_lre hx hb hr hlk X hP hD hS d_SkeletonClockModel_dateField_109
        · have he := ih_t hc he
          refine lv_lload_n hx hb d_SkeletonClockModel_dateField_90 rfl (lv_at hl 2 rfl) ?_
          refine lv_lload_n hx hb d_SkeletonClockModel_dateField_91 rfl (lv_at hl 4 rfl) ?_
          obtain ⟨u15, e16, he⟩ := ih_b he
          refine k_lo (r_S (As := [.long x3]) S X hA hP hD hS (c_SkeletonClockModel_newYear l D kk st _ x3 u15 e16) gm_5_83 gm_5_81 gm_5_82 gm_1_13 ⟨rfl, rfl, by decide, by decide⟩ kd_SkeletonClockModel_newYear [] rfl rfl rfl rfl hl.1 rfl (Nat.le_of_ble_eq_true rfl) d_SkeletonClockModel_dateField_92 ⟨Nat.zero_le _, Nat.zero_le _⟩) hA hP hD hS [] rfl (fun H locs hP hS => ?_)
          refine lv_lsub hx hb d_SkeletonClockModel_dateField_95 ?_
          refine lv_lconst (v := (1 : Int64)) hx hb d_SkeletonClockModel_dateField_96 (by decide) ?_
          refine lv_ladd hx hb d_SkeletonClockModel_dateField_97 ?_
          cases he
          exact k_lre hx hb hr hlk X hP hD hS d_SkeletonClockModel_dateField_98
      · have he := ih_t hc he
        refine lv_lload_n hx hb d_SkeletonClockModel_dateField_74 rfl (lv_at hl 2 rfl) ?_
        refine lv_lload_n hx hb d_SkeletonClockModel_dateField_75 rfl (lv_at hl 4 rfl) ?_
        refine lv_iload hx hb d_SkeletonClockModel_dateField_76 (lv_at hl 5 rfl) ?_
        obtain ⟨u17, e18, he⟩ := ih_b he
        refine k_lo (r_S (As := [.long x3, .int x5]) S X hA hP hD hS (c_SkeletonClockModel_newMonth l D kk st _ x3 x5 u17 e18) gm_5_105 gm_5_103 gm_5_104 gm_1_13 ⟨rfl, rfl, by decide, by decide⟩ kd_SkeletonClockModel_newMonth [] rfl rfl rfl rfl hl.1 rfl (Nat.le_of_ble_eq_true rfl) d_SkeletonClockModel_dateField_78 ⟨Nat.zero_le _, Nat.zero_le _⟩) hA hP hD hS [] rfl (fun H locs hP hS => ?_)
        refine lv_lsub hx hb d_SkeletonClockModel_dateField_81 ?_
        refine lv_lconst (v := (1 : Int64)) hx hb d_SkeletonClockModel_dateField_82 (by decide) ?_
        refine lv_ladd hx hb d_SkeletonClockModel_dateField_83 ?_
        cases he
        exact k_lre hx hb hr hlk X hP hD hS d_SkeletonClockModel_dateField_84
    · have he := ih_t hc he
      refine lv_iload hx hb d_SkeletonClockModel_dateField_65 (lv_at hl 5 rfl) ?_
      refine lv_i2l hx hb d_SkeletonClockModel_dateField_67 rfl ?_
      cases he
      exact k_lre hx hb hr hlk X hP hD hS d_SkeletonClockModel_dateField_68
  · have he := ih_t hc he
    refine lv_lload_n hx hb d_SkeletonClockModel_dateField_58 rfl (lv_at hl 4 rfl) ?_
    cases he
    exact k_lre hx hb hr hlk X hP hD hS d_SkeletonClockModel_dateField_59
set_option maxHeartbeats 4000000 in
set_option maxRecDepth 100000 in
theorem c_SkeletonClockModel_dateField (l : Launch) (D : va_G) (kk : Nat → ClassId) (st : Nat → Nat) (sz : Nat) (x0 : Int64) (x2 : Int32) (o : Int64) (he : f_SkeletonClockModel_dateField x0 x2 = some o) : Met l y_SkeletonClockModel_dateField (Cond.code y_SkeletonClockModel_dateField b_SkeletonClockModel_dateField 10 (some .long) :: GW) rm_SkeletonClockModel_dateField (KPc D kk st [.long x0, .int x2] [] sz) (KQl D kk o [] (va_A [] sz)) 0 0 (va_A [] sz) := by
  refine k_start (Qc := fun A => KQl D kk o [] A) (by decide) (Nat.le_of_ble_eq_true rfl) ?_
  intro p e s m below meth c A ls S hnm hr hlk hA X hP hD hS hl
  have hl : lv_has ls 10 [(0, .long x0), (2, .int x2)] := hl
  have hx := S.1
  have hb := S.2.1
  unfold f_SkeletonClockModel_dateField at he
  refine lv_lload_n hx hb d_SkeletonClockModel_dateField_0 rfl (lv_at hl 0 rfl) ?_
  obtain ⟨u1, e2, he⟩ := ih_b he
  refine k_lo (r_S (As := [.long x0]) S X hA hP hD hS (c_SkeletonClockModel_yearOf l D kk st _ x0 u1 e2) gm_5_77 gm_5_75 gm_5_76 gm_1_13 ⟨rfl, rfl, by decide, by decide⟩ kd_SkeletonClockModel_yearOf [] rfl rfl rfl rfl hl.1 rfl (Nat.le_of_ble_eq_true rfl) d_SkeletonClockModel_dateField_1 ⟨Nat.zero_le _, Nat.zero_le _⟩) hA hP hD hS [] rfl (fun H locs hP hS => ?_)
  refine lv_lstore_n hx hb d_SkeletonClockModel_dateField_4 rfl hl (by decide) rfl (fun ls hl => ?_)
  have hl : lv_has ls 10 [(3, .long u1), (0, .long x0), (2, .int x2)] := hl
  refine lv_iconst (v := (1 : Int32)) hx hb d_SkeletonClockModel_dateField_5 (by decide) ?_
  refine lv_istore hx hb d_SkeletonClockModel_dateField_6 hl (by decide) rfl (fun ls hl => ?_)
  have hl : lv_has ls 10 [(5, .int (1 : Int32)), (3, .long u1), (0, .long x0), (2, .int x2)] := hl
  obtain ⟨u5, e6, he⟩ := ih_b he
  have hl : lv_has ls 10 [(0, .long x0), (2, .int x2), (3, .long u1), (5, .int (1 : Int32))] := lv_sub hl [2, 3, 1, 0] rfl
  refine w_SkeletonClockModel_dateField_8 x0 x2 u1 S hr hlk hA X FU (1 : Int32) u5 _ _ ls e6 hl hP hD hS (fun H locs ls hl hP hD hS => ?_)
  have hl : lv_has ls 10 [(0, .long x0), (2, .int x2), (3, .long u1), (5, .int u5)] := lv_sub hl [0, 1, 2, 3] rfl
  exact w_SkeletonClockModel_dateField_34 x0 x2 u1 u5 o S hr hlk hA X _ _ ls he hl hP hD hS
abbrev rm_SkeletonClockModel_timeField : Room := { frames := 0, cells := 0, slots := 0, locals := 0 }
set_option maxHeartbeats 4000000 in
set_option maxRecDepth 100000 in
theorem c_SkeletonClockModel_timeField (l : Launch) (D : va_G) (kk : Nat → ClassId) (st : Nat → Nat) (sz : Nat) (x0 : Int32) (x1 : Int32) (o : Int32) (he : f_SkeletonClockModel_timeField x0 x1 = some o) : Met l y_SkeletonClockModel_timeField (Cond.code y_SkeletonClockModel_timeField b_SkeletonClockModel_timeField 3 (some .int) :: GW) rm_SkeletonClockModel_timeField (KPc D kk st [.int x0, .int x1] [] sz) (KQi D kk o [] (va_A [] sz)) 0 0 (va_A [] sz) := by
  refine k_start (Qc := fun A => KQi D kk o [] A) (by decide) (Nat.le_of_ble_eq_true rfl) ?_
  intro p e s m below meth c A ls S hnm hr hlk hA X hP hD hS hl
  have hl : lv_has ls 3 [(0, .int x0), (1, .int x1)] := hl
  have hx := S.1
  have hb := S.2.1
  unfold f_SkeletonClockModel_timeField at he
  refine lv_iload_n hx hb d_SkeletonClockModel_timeField_0 rfl (lv_at hl 0 rfl) ?_
  refine lv_sipush (v := (3600 : Int32)) hx hb d_SkeletonClockModel_timeField_1 (by decide) ?_
  refine lv_idiv hx hb d_SkeletonClockModel_timeField_4 (by decide) ?_
  refine lv_istore_n hx hb d_SkeletonClockModel_timeField_5 rfl hl (by decide) rfl (fun ls hl => ?_)
  have hl : lv_has ls 3 [(2, .int (x0 / (3600 : Int32))), (0, .int x0), (1, .int x1)] := hl
  refine lv_iload_n hx hb d_SkeletonClockModel_timeField_6 rfl (lv_at hl 2 rfl) ?_
  refine lv_bipush (v := (7 : Int32)) hx hb d_SkeletonClockModel_timeField_7 (by decide) ?_
  refine lv_icmp_ne (tgt := 14) hx hb d_SkeletonClockModel_timeField_9 rfl (fun hc => ?_) (fun hc => ?_)
  · have he := ih_f hc he
    refine lv_iload_n hx hb d_SkeletonClockModel_timeField_14 rfl (lv_at hl 2 rfl) ?_
    refine lv_bipush (v := (8 : Int32)) hx hb d_SkeletonClockModel_timeField_15 (by decide) ?_
    refine lv_icmp_ne (tgt := 37) hx hb d_SkeletonClockModel_timeField_17 rfl (fun hc => ?_) (fun hc => ?_)
    · have he := ih_f hc he
      refine lv_iload_n hx hb d_SkeletonClockModel_timeField_37 rfl (lv_at hl 2 rfl) ?_
      refine lv_bipush (v := (9 : Int32)) hx hb d_SkeletonClockModel_timeField_38 (by decide) ?_
      refine lv_icmp_ne (tgt := 55) hx hb d_SkeletonClockModel_timeField_40 rfl (fun hc => ?_) (fun hc => ?_)
      · have he := ih_f hc he
        refine lv_iload_n hx hb d_SkeletonClockModel_timeField_55 rfl (lv_at hl 2 rfl) ?_
        refine lv_bipush (v := (10 : Int32)) hx hb d_SkeletonClockModel_timeField_56 (by decide) ?_
        refine lv_icmp_ne (tgt := 71) hx hb d_SkeletonClockModel_timeField_58 rfl (fun hc => ?_) (fun hc => ?_)
        · have he := ih_f hc he
          refine lv_iload_n hx hb d_SkeletonClockModel_timeField_71 rfl (lv_at hl 1 rfl) ?_
          refine lv_bipush (v := (60 : Int32)) hx hb d_SkeletonClockModel_timeField_72 (by decide) ?_
          refine lv_irem hx hb d_SkeletonClockModel_timeField_74 (by decide) ?_
          cases he
          exact k_ire hx hb hr hlk X hP hD hS d_SkeletonClockModel_timeField_75
        · have he := ih_t hc he
          refine lv_iload_n hx hb d_SkeletonClockModel_timeField_61 rfl (lv_at hl 1 rfl) ?_
          refine lv_bipush (v := (60 : Int32)) hx hb d_SkeletonClockModel_timeField_62 (by decide) ?_
          refine lv_idiv hx hb d_SkeletonClockModel_timeField_64 (by decide) ?_
          refine lv_bipush (v := (60 : Int32)) hx hb d_SkeletonClockModel_timeField_65 (by decide) ?_
          refine lv_irem hx hb d_SkeletonClockModel_timeField_67 (by decide) ?_
          refine lv_goto (tgt := 75) hx hb d_SkeletonClockModel_timeField_68 rfl ?_
          cases he
          exact k_ire hx hb hr hlk X hP hD hS d_SkeletonClockModel_timeField_75
      · have he := ih_t hc he
        refine lv_iload_n hx hb d_SkeletonClockModel_timeField_43 rfl (lv_at hl 0 rfl) ?_
        refine lv_bipush (v := (12 : Int32)) hx hb d_SkeletonClockModel_timeField_44 (by decide) ?_
        refine lv_icmp_ge (tgt := 53) hx hb d_SkeletonClockModel_timeField_46 rfl (fun hc => ?_) (fun hc => ?_)
        · have he := ih_t hc he
          refine lv_iconst (v := (1 : Int32)) hx hb d_SkeletonClockModel_timeField_53 (by decide) ?_
          cases he
          exact k_ire hx hb hr hlk X hP hD hS d_SkeletonClockModel_timeField_54
        · have he := ih_f hc he
          refine lv_iconst (v := (0 : Int32)) hx hb d_SkeletonClockModel_timeField_49 (by decide) ?_
          refine lv_goto (tgt := 54) hx hb d_SkeletonClockModel_timeField_50 rfl ?_
          cases he
          exact k_ire hx hb hr hlk X hP hD hS d_SkeletonClockModel_timeField_54
    · have he := ih_t hc he
      refine lv_iload_n hx hb d_SkeletonClockModel_timeField_20 rfl (lv_at hl 0 rfl) ?_
      refine lv_bipush (v := (12 : Int32)) hx hb d_SkeletonClockModel_timeField_21 (by decide) ?_
      refine lv_irem hx hb d_SkeletonClockModel_timeField_23 (by decide) ?_
      refine lv_if_ne (tgt := 32) hx hb d_SkeletonClockModel_timeField_24 rfl (fun hc => ?_) (fun hc => ?_)
      · have he := ih_f hc he
        refine lv_iload_n hx hb d_SkeletonClockModel_timeField_32 rfl (lv_at hl 0 rfl) ?_
        refine lv_bipush (v := (12 : Int32)) hx hb d_SkeletonClockModel_timeField_33 (by decide) ?_
        refine lv_irem hx hb d_SkeletonClockModel_timeField_35 (by decide) ?_
        cases he
        exact k_ire hx hb hr hlk X hP hD hS d_SkeletonClockModel_timeField_36
      · have he := ih_t hc he
        refine lv_bipush (v := (12 : Int32)) hx hb d_SkeletonClockModel_timeField_27 (by decide) ?_
        refine lv_goto (tgt := 36) hx hb d_SkeletonClockModel_timeField_29 rfl ?_
        cases he
        exact k_ire hx hb hr hlk X hP hD hS d_SkeletonClockModel_timeField_36
  · have he := ih_t hc he
    refine lv_iload_n hx hb d_SkeletonClockModel_timeField_12 rfl (lv_at hl 0 rfl) ?_
    cases he
    exact k_ire hx hb hr hlk X hP hD hS d_SkeletonClockModel_timeField_13
abbrev rm_SkeletonClockModel_present : Room := { frames := 6, cells := 0, slots := 0, locals := 143 }
set_option maxHeartbeats 4000000 in
set_option maxRecDepth 100000 in
theorem c_SkeletonClockModel_present (l : Launch) (D : va_G) (kk : Nat → ClassId) (st : Nat → Nat) (a_t a_t_text a_t_page a_t_names a_t_sort a_t_code a_t_count a_t_around a_t_end a_t_size a_t_there a_t_wish a_t_have a_t_known a_t_value a_t_before a_t_open a_t_from : Nat) (sz : Nat) (t_length : Int32) (t_used : Int32) (t_far : Int32) (t_momentParts : Int32) (t_momentDay : Int64) (t_momentSecond : Int32) (t_momentNano : Int32) (t_momentOffset : Int32) (t_readParts : Int32) (t_readDay : Int64) (t_readSecond : Int32) (t_readNano : Int32) (t_readOffset : Int32) (t_alike : Int32) (x1 : Int32) (o : Int64) (he : f_SkeletonClockModel_present t_momentDay t_momentSecond t_momentNano t_momentOffset x1 = some o) : Met l y_SkeletonClockModel_present (Cond.code y_SkeletonClockModel_present b_SkeletonClockModel_present 2 (some .long) :: GW) rm_SkeletonClockModel_present (KPc D kk st [.ref a_t, .int x1] [(a_t, .inr (10, [.int t_length, .ref a_t_text, .int t_used, .ref a_t_page, .ref a_t_names, .ref a_t_sort, .ref a_t_code, .ref a_t_count, .ref a_t_around, .ref a_t_end, .ref a_t_size, .ref a_t_there, .ref a_t_wish, .ref a_t_have, .int t_far, .int t_momentParts, .long t_momentDay, .int t_momentSecond, .int t_momentNano, .int t_momentOffset, .int t_readParts, .long t_readDay, .int t_readSecond, .int t_readNano, .int t_readOffset, .ref a_t_known, .ref a_t_value, .ref a_t_before, .ref a_t_open, .ref a_t_from, .int t_alike]))] sz) (KQl D kk o [(a_t, .inr (10, [.int t_length, .ref a_t_text, .int t_used, .ref a_t_page, .ref a_t_names, .ref a_t_sort, .ref a_t_code, .ref a_t_count, .ref a_t_around, .ref a_t_end, .ref a_t_size, .ref a_t_there, .ref a_t_wish, .ref a_t_have, .int t_far, .int t_momentParts, .long t_momentDay, .int t_momentSecond, .int t_momentNano, .int t_momentOffset, .int t_readParts, .long t_readDay, .int t_readSecond, .int t_readNano, .int t_readOffset, .ref a_t_known, .ref a_t_value, .ref a_t_before, .ref a_t_open, .ref a_t_from, .int t_alike]))] (va_A [(a_t, .inr (10, [.int t_length, .ref a_t_text, .int t_used, .ref a_t_page, .ref a_t_names, .ref a_t_sort, .ref a_t_code, .ref a_t_count, .ref a_t_around, .ref a_t_end, .ref a_t_size, .ref a_t_there, .ref a_t_wish, .ref a_t_have, .int t_far, .int t_momentParts, .long t_momentDay, .int t_momentSecond, .int t_momentNano, .int t_momentOffset, .int t_readParts, .long t_readDay, .int t_readSecond, .int t_readNano, .int t_readOffset, .ref a_t_known, .ref a_t_value, .ref a_t_before, .ref a_t_open, .ref a_t_from, .int t_alike]))] sz)) 0 0 (va_A [(a_t, .inr (10, [.int t_length, .ref a_t_text, .int t_used, .ref a_t_page, .ref a_t_names, .ref a_t_sort, .ref a_t_code, .ref a_t_count, .ref a_t_around, .ref a_t_end, .ref a_t_size, .ref a_t_there, .ref a_t_wish, .ref a_t_have, .int t_far, .int t_momentParts, .long t_momentDay, .int t_momentSecond, .int t_momentNano, .int t_momentOffset, .int t_readParts, .long t_readDay, .int t_readSecond, .int t_readNano, .int t_readOffset, .ref a_t_known, .ref a_t_value, .ref a_t_before, .ref a_t_open, .ref a_t_from, .int t_alike]))] sz) := by
  refine k_start (Qc := fun A => KQl D kk o [(a_t, .inr (10, [.int t_length, .ref a_t_text, .int t_used, .ref a_t_page, .ref a_t_names, .ref a_t_sort, .ref a_t_code, .ref a_t_count, .ref a_t_around, .ref a_t_end, .ref a_t_size, .ref a_t_there, .ref a_t_wish, .ref a_t_have, .int t_far, .int t_momentParts, .long t_momentDay, .int t_momentSecond, .int t_momentNano, .int t_momentOffset, .int t_readParts, .long t_readDay, .int t_readSecond, .int t_readNano, .int t_readOffset, .ref a_t_known, .ref a_t_value, .ref a_t_before, .ref a_t_open, .ref a_t_from, .int t_alike]))] A) (by decide) (Nat.le_of_ble_eq_true rfl) ?_
  intro p e s m below meth c A ls S hnm hr hlk hA X hP hD hS hl
  have hl : lv_has ls 2 [(0, .ref a_t), (1, .int x1)] := hl
  have hx := S.1
  have hb := S.2.1
  unfold f_SkeletonClockModel_present at he
  refine lv_iload_n hx hb d_SkeletonClockModel_present_0 rfl (lv_at hl 1 rfl) ?_
  refine lv_bipush (v := (6 : Int32)) hx hb d_SkeletonClockModel_present_1 (by decide) ?_
  refine lv_icmp_gt (tgt := 17) hx hb d_SkeletonClockModel_present_3 rfl (fun hc => ?_) (fun hc => ?_)
  · have he := ih_t hc he
    refine lv_iload_n hx hb d_SkeletonClockModel_present_17 rfl (lv_at hl 1 rfl) ?_
    refine lv_bipush (v := (13 : Int32)) hx hb d_SkeletonClockModel_present_18 (by decide) ?_
    refine lv_icmp_ne (tgt := 31) hx hb d_SkeletonClockModel_present_20 rfl (fun hc => ?_) (fun hc => ?_)
    · have he := ih_f hc he
      refine lv_iload_n hx hb d_SkeletonClockModel_present_31 rfl (lv_at hl 1 rfl) ?_
      refine lv_bipush (v := (12 : Int32)) hx hb d_SkeletonClockModel_present_32 (by decide) ?_
      refine lv_icmp_ne (tgt := 45) hx hb d_SkeletonClockModel_present_34 rfl (fun hc => ?_) (fun hc => ?_)
      · have he := ih_f hc he
        refine lv_aload_n hx hb d_SkeletonClockModel_present_45 rfl (lv_at hl 0 rfl) ?_
        refine k_get S X us_SkeletonClockModel hP 0 rfl rfl 17 (by decide) gm_4_168 rfl d_SkeletonClockModel_present_46 ?_
        refine lv_iload_n hx hb d_SkeletonClockModel_present_49 rfl (lv_at hl 1 rfl) ?_
        obtain ⟨u1, e2, he⟩ := ih_b he
        refine k_io (r_S (As := [.int t_momentSecond, .int x1]) S X hA hP hD hS (c_SkeletonClockModel_timeField l D kk st _ t_momentSecond x1 u1 e2) gm_5_117 gm_5_115 gm_5_116 gm_1_13 ⟨rfl, rfl, by decide, by decide⟩ kd_SkeletonClockModel_timeField [] rfl rfl rfl rfl hl.1 rfl (Nat.le_of_ble_eq_true rfl) d_SkeletonClockModel_present_50 ⟨Nat.zero_le _, Nat.zero_le _⟩) hA hP hD hS [] rfl (fun H locs hP hS => ?_)
        refine lv_i2l hx hb d_SkeletonClockModel_present_53 rfl ?_
        cases he
        exact k_lre hx hb hr hlk X hP hD hS d_SkeletonClockModel_present_54
      · have he := ih_t hc he
        refine lv_aload_n hx hb d_SkeletonClockModel_present_37 rfl (lv_at hl 0 rfl) ?_
        refine k_get S X us_SkeletonClockModel hP 0 rfl rfl 18 (by decide) gm_4_169 rfl d_SkeletonClockModel_present_38 ?_
        refine lv_i2l hx hb d_SkeletonClockModel_present_41 rfl ?_
        refine lv_goto (tgt := 54) hx hb d_SkeletonClockModel_present_42 rfl ?_
        cases he
        exact k_lre hx hb hr hlk X hP hD hS d_SkeletonClockModel_present_54
    · have he := ih_t hc he
      refine lv_aload_n hx hb d_SkeletonClockModel_present_23 rfl (lv_at hl 0 rfl) ?_
      refine k_get S X us_SkeletonClockModel hP 0 rfl rfl 19 (by decide) gm_4_170 rfl d_SkeletonClockModel_present_24 ?_
      refine lv_i2l hx hb d_SkeletonClockModel_present_27 rfl ?_
      refine lv_goto (tgt := 54) hx hb d_SkeletonClockModel_present_28 rfl ?_
      cases he
      exact k_lre hx hb hr hlk X hP hD hS d_SkeletonClockModel_present_54
  · have he := ih_f hc he
    refine lv_aload_n hx hb d_SkeletonClockModel_present_6 rfl (lv_at hl 0 rfl) ?_
    refine k_get S X us_SkeletonClockModel hP 0 rfl rfl 16 (by decide) gm_4_167 rfl d_SkeletonClockModel_present_7 ?_
    refine lv_iload_n hx hb d_SkeletonClockModel_present_10 rfl (lv_at hl 1 rfl) ?_
    obtain ⟨u3, e4, he⟩ := ih_b he
    refine k_lo (r_S (As := [.long t_momentDay, .int x1]) S X hA hP hD hS (c_SkeletonClockModel_dateField l D kk st _ t_momentDay x1 u3 e4) gm_5_102 gm_5_100 gm_5_101 gm_1_13 ⟨rfl, rfl, by decide, by decide⟩ kd_SkeletonClockModel_dateField [] rfl rfl rfl rfl hl.1 rfl (Nat.le_of_ble_eq_true rfl) d_SkeletonClockModel_present_11 ⟨Nat.zero_le _, Nat.zero_le _⟩) hA hP hD hS [] rfl (fun H locs hP hS => ?_)
    refine lv_goto (tgt := 54) hx hb d_SkeletonClockModel_present_14 rfl ?_
    cases he
    exact k_lre hx hb hr hlk X hP hD hS d_SkeletonClockModel_present_54
abbrev rm_SkeletonClockModel_partOf : Room := { frames := 0, cells := 0, slots := 0, locals := 0 }
set_option maxHeartbeats 4000000 in
set_option maxRecDepth 100000 in
theorem c_SkeletonClockModel_partOf (l : Launch) (D : va_G) (kk : Nat → ClassId) (st : Nat → Nat) (sz : Nat) (x0 : Int32) (o : Int32) (he : f_SkeletonClockModel_partOf x0 = some o) : Met l y_SkeletonClockModel_partOf (Cond.code y_SkeletonClockModel_partOf b_SkeletonClockModel_partOf 1 (some .int) :: GW) rm_SkeletonClockModel_partOf (KPc D kk st [.int x0] [] sz) (KQi D kk o [] (va_A [] sz)) 0 0 (va_A [] sz) := by
  refine k_start (Qc := fun A => KQi D kk o [] A) (by decide) (Nat.le_of_ble_eq_true rfl) ?_
  intro p e s m below meth c A ls S hnm hr hlk hA X hP hD hS hl
  have hl : lv_has ls 1 [(0, .int x0)] := hl
  have hx := S.1
  have hb := S.2.1
  unfold f_SkeletonClockModel_partOf at he
  refine lv_iload_n hx hb d_SkeletonClockModel_partOf_0 rfl (lv_at hl 0 rfl) ?_
  refine lv_bipush (v := (6 : Int32)) hx hb d_SkeletonClockModel_partOf_1 (by decide) ?_
  refine lv_icmp_gt (tgt := 10) hx hb d_SkeletonClockModel_partOf_3 rfl (fun hc => ?_) (fun hc => ?_)
  · have he := ih_t hc he
    refine lv_iload_n hx hb d_SkeletonClockModel_partOf_10 rfl (lv_at hl 0 rfl) ?_
    refine lv_bipush (v := (13 : Int32)) hx hb d_SkeletonClockModel_partOf_11 (by decide) ?_
    refine lv_icmp_ne (tgt := 20) hx hb d_SkeletonClockModel_partOf_13 rfl (fun hc => ?_) (fun hc => ?_)
    · have he := ih_f hc he
      refine lv_iconst (v := (2 : Int32)) hx hb d_SkeletonClockModel_partOf_20 (by decide) ?_
      cases he
      exact k_ire hx hb hr hlk X hP hD hS d_SkeletonClockModel_partOf_21
    · have he := ih_t hc he
      refine lv_iconst (v := (4 : Int32)) hx hb d_SkeletonClockModel_partOf_16 (by decide) ?_
      refine lv_goto (tgt := 21) hx hb d_SkeletonClockModel_partOf_17 rfl ?_
      cases he
      exact k_ire hx hb hr hlk X hP hD hS d_SkeletonClockModel_partOf_21
  · have he := ih_f hc he
    refine lv_iconst (v := (1 : Int32)) hx hb d_SkeletonClockModel_partOf_6 (by decide) ?_
    refine lv_goto (tgt := 21) hx hb d_SkeletonClockModel_partOf_7 rfl ?_
    cases he
    exact k_ire hx hb hr hlk X hP hD hS d_SkeletonClockModel_partOf_21
abbrev rm_SkeletonClockModel_fieldOf : Room := { frames := 0, cells := 0, slots := 0, locals := 0 }
set_option maxHeartbeats 4000000 in
set_option maxRecDepth 100000 in
theorem w_SkeletonClockModel_fieldOf_72 {p : Program} {l : Launch} {e : Env} {s : State} {m : MethodId} {args : Array Value} {below : List Frame} {meth : Method} {c : Code} {A : Nat → Prop} {D : va_G} {kk : Nat → ClassId} {st : Nat → Nat} (x0 : Int32) (s0 : Int32) (o : Int32) (S : CallFix p m c b_SkeletonClockModel_fieldOf 3 s args GW y_SkeletonClockModel_fieldOf.cls) (hr : meth.sig.returnType = (some .int)) (hlk : meth.locks = false) (hA : ∀ q, s.heap.size ≤ q → A q) (X : KX D kk st A s) (H : Heap) (locs : List Loc) (ls : Array Slot) (he : jn_SkeletonClockModel_fieldOf_72 x0 s0 = some o) (hl : lv_has ls 3 [(0, .int x0)]) (hP : va_P D classes [] H) (hD : va_D A []) (hS : va_S A s.heap H locs) : W p l e rm_SkeletonClockModel_fieldOf s m args below meth c H locs 0 0 (MQ below (KQi D kk o [] A) args s 0 0 A) (F0 m 72 ls [.int s0]) := by
  have hx := S.1
  have hb := S.2.1
  unfold jn_SkeletonClockModel_fieldOf_72 at he
  refine lv_istore_n hx hb d_SkeletonClockModel_fieldOf_72 rfl hl (by decide) rfl (fun ls hl => ?_)
  have hl : lv_has ls 3 [(1, .int s0), (0, .int x0)] := hl
  refine lv_iload_n hx hb d_SkeletonClockModel_fieldOf_73 rfl (lv_at hl 1 rfl) ?_
  refine lv_bipush (v := (72 : Int32)) hx hb d_SkeletonClockModel_fieldOf_74 (by decide) ?_
  refine lv_icmp_ne (tgt := 84) hx hb d_SkeletonClockModel_fieldOf_76 rfl (fun hc => ?_) (fun hc => ?_)
  · have he := ih_f hc he
    refine lv_iload_n hx hb d_SkeletonClockModel_fieldOf_84 rfl (lv_at hl 1 rfl) ?_
    refine lv_bipush (v := (104 : Int32)) hx hb d_SkeletonClockModel_fieldOf_85 (by decide) ?_
    refine lv_icmp_ne (tgt := 95) hx hb d_SkeletonClockModel_fieldOf_87 rfl (fun hc => ?_) (fun hc => ?_)
    · have he := ih_f hc he
      refine lv_iload_n hx hb d_SkeletonClockModel_fieldOf_95 rfl (lv_at hl 1 rfl) ?_
      refine lv_bipush (v := (97 : Int32)) hx hb d_SkeletonClockModel_fieldOf_96 (by decide) ?_
      refine lv_icmp_ne (tgt := 106) hx hb d_SkeletonClockModel_fieldOf_98 rfl (fun hc => ?_) (fun hc => ?_)
      · have he := ih_f hc he
        refine lv_iload_n hx hb d_SkeletonClockModel_fieldOf_106 rfl (lv_at hl 1 rfl) ?_
        refine lv_bipush (v := (109 : Int32)) hx hb d_SkeletonClockModel_fieldOf_107 (by decide) ?_
        refine lv_icmp_ne (tgt := 117) hx hb d_SkeletonClockModel_fieldOf_109 rfl (fun hc => ?_) (fun hc => ?_)
        · have he := ih_f hc he
          refine lv_iload_n hx hb d_SkeletonClockModel_fieldOf_117 rfl (lv_at hl 1 rfl) ?_
          refine lv_bipush (v := (115 : Int32)) hx hb d_SkeletonClockModel_fieldOf_118 (by decide) ?_
          refine lv_icmp_ne (tgt := 128) hx hb d_SkeletonClockModel_fieldOf_120 rfl (fun hc => ?_) (fun hc => ?_)
          · have he := ih_f hc he
            refine lv_iload_n hx hb d_SkeletonClockModel_fieldOf_128 rfl (lv_at hl 1 rfl) ?_
            refine lv_bipush (v := (83 : Int32)) hx hb d_SkeletonClockModel_fieldOf_129 (by decide) ?_
            refine lv_icmp_ne (tgt := 139) hx hb d_SkeletonClockModel_fieldOf_131 rfl (fun hc => ?_) (fun hc => ?_)
            · have he := ih_f hc he
              refine lv_iload_n hx hb d_SkeletonClockModel_fieldOf_139 rfl (lv_at hl 1 rfl) ?_
              refine lv_bipush (v := (88 : Int32)) hx hb d_SkeletonClockModel_fieldOf_140 (by decide) ?_
              refine lv_icmp_eq (tgt := 151) hx hb d_SkeletonClockModel_fieldOf_142 rfl (fun hc => ?_) (fun hc => ?_)
              · have he := ih_t hc he
                refine lv_bipush (v := (13 : Int32)) hx hb d_SkeletonClockModel_fieldOf_151 (by decide) ?_
                refine lv_goto (tgt := 157) hx hb d_SkeletonClockModel_fieldOf_153 rfl ?_
                refine lv_istore_n hx hb d_SkeletonClockModel_fieldOf_157 rfl hl (by decide) rfl (fun ls hl => ?_)
                have hl : lv_has ls 3 [(2, .int (13 : Int32)), (1, .int s0), (0, .int x0)] := hl
                refine lv_iload_n hx hb d_SkeletonClockModel_fieldOf_158 rfl (lv_at hl 1 rfl) ?_
                refine lv_if_lt (tgt := 166) hx hb d_SkeletonClockModel_fieldOf_159 rfl (fun hc => ?_) (fun hc => ?_)
                · have he := ih_t hc he
                  refine lv_iload_n hx hb d_SkeletonClockModel_fieldOf_166 rfl (lv_at hl 0 rfl) ?_
                  cases he
                  exact k_ire hx hb hr hlk X hP hD hS d_SkeletonClockModel_fieldOf_167
                · have he := ih_f hc he
                  refine lv_iload_n hx hb d_SkeletonClockModel_fieldOf_162 rfl (lv_at hl 1 rfl) ?_
                  refine lv_goto (tgt := 167) hx hb d_SkeletonClockModel_fieldOf_163 rfl ?_
                  cases he
                  exact k_ire hx hb hr hlk X hP hD hS d_SkeletonClockModel_fieldOf_167
              · have he := ih_f hc he
                refine lv_iload_n hx hb d_SkeletonClockModel_fieldOf_145 rfl (lv_at hl 1 rfl) ?_
                refine lv_bipush (v := (120 : Int32)) hx hb d_SkeletonClockModel_fieldOf_146 (by decide) ?_
                refine lv_icmp_ne (tgt := 156) hx hb d_SkeletonClockModel_fieldOf_148 rfl (fun hc => ?_) (fun hc => ?_)
                · have he := ih_f hc he
                  refine lv_iconst (v := (-1 : Int32)) hx hb d_SkeletonClockModel_fieldOf_156 (by decide) ?_
                  refine lv_istore_n hx hb d_SkeletonClockModel_fieldOf_157 rfl hl (by decide) rfl (fun ls hl => ?_)
                  have hl : lv_has ls 3 [(2, .int (-1 : Int32)), (1, .int s0), (0, .int x0)] := hl
                  refine lv_iload_n hx hb d_SkeletonClockModel_fieldOf_158 rfl (lv_at hl 1 rfl) ?_
                  refine lv_if_lt (tgt := 166) hx hb d_SkeletonClockModel_fieldOf_159 rfl (fun hc => ?_) (fun hc => ?_)
                  · have he := ih_t hc he
                    refine lv_iload_n hx hb d_SkeletonClockModel_fieldOf_166 rfl (lv_at hl 0 rfl) ?_
                    cases he
                    exact k_ire hx hb hr hlk X hP hD hS d_SkeletonClockModel_fieldOf_167
                  · have he := ih_f hc he
                    refine lv_iload_n hx hb d_SkeletonClockModel_fieldOf_162 rfl (lv_at hl 1 rfl) ?_
                    refine lv_goto (tgt := 167) hx hb d_SkeletonClockModel_fieldOf_163 rfl ?_
                    cases he
                    exact k_ire hx hb hr hlk X hP hD hS d_SkeletonClockModel_fieldOf_167
                · have he := ih_t hc he
                  refine lv_bipush (v := (13 : Int32)) hx hb d_SkeletonClockModel_fieldOf_151 (by decide) ?_
                  refine lv_goto (tgt := 157) hx hb d_SkeletonClockModel_fieldOf_153 rfl ?_
                  refine lv_istore_n hx hb d_SkeletonClockModel_fieldOf_157 rfl hl (by decide) rfl (fun ls hl => ?_)
                  have hl : lv_has ls 3 [(2, .int (13 : Int32)), (1, .int s0), (0, .int x0)] := hl
                  refine lv_iload_n hx hb d_SkeletonClockModel_fieldOf_158 rfl (lv_at hl 1 rfl) ?_
                  refine lv_if_lt (tgt := 166) hx hb d_SkeletonClockModel_fieldOf_159 rfl (fun hc => ?_) (fun hc => ?_)
                  · have he := ih_t hc he
                    refine lv_iload_n hx hb d_SkeletonClockModel_fieldOf_166 rfl (lv_at hl 0 rfl) ?_
                    cases he
                    exact k_ire hx hb hr hlk X hP hD hS d_SkeletonClockModel_fieldOf_167
                  · have he := ih_f hc he
                    refine lv_iload_n hx hb d_SkeletonClockModel_fieldOf_162 rfl (lv_at hl 1 rfl) ?_
                    refine lv_goto (tgt := 167) hx hb d_SkeletonClockModel_fieldOf_163 rfl ?_
                    cases he
                    exact k_ire hx hb hr hlk X hP hD hS d_SkeletonClockModel_fieldOf_167
            · have he := ih_t hc he
              refine lv_bipush (v := (12 : Int32)) hx hb d_SkeletonClockModel_fieldOf_134 (by decide) ?_
              refine lv_goto (tgt := 157) hx hb d_SkeletonClockModel_fieldOf_136 rfl ?_
              refine lv_istore_n hx hb d_SkeletonClockModel_fieldOf_157 rfl hl (by decide) rfl (fun ls hl => ?_)
              have hl : lv_has ls 3 [(2, .int (12 : Int32)), (1, .int s0), (0, .int x0)] := hl
              refine lv_iload_n hx hb d_SkeletonClockModel_fieldOf_158 rfl (lv_at hl 1 rfl) ?_
              refine lv_if_lt (tgt := 166) hx hb d_SkeletonClockModel_fieldOf_159 rfl (fun hc => ?_) (fun hc => ?_)
              · have he := ih_t hc he
                refine lv_iload_n hx hb d_SkeletonClockModel_fieldOf_166 rfl (lv_at hl 0 rfl) ?_
                cases he
                exact k_ire hx hb hr hlk X hP hD hS d_SkeletonClockModel_fieldOf_167
              · have he := ih_f hc he
                refine lv_iload_n hx hb d_SkeletonClockModel_fieldOf_162 rfl (lv_at hl 1 rfl) ?_
                refine lv_goto (tgt := 167) hx hb d_SkeletonClockModel_fieldOf_163 rfl ?_
                cases he
                exact k_ire hx hb hr hlk X hP hD hS d_SkeletonClockModel_fieldOf_167
          · have he := ih_t hc he
            refine lv_bipush (v := (11 : Int32)) hx hb d_SkeletonClockModel_fieldOf_123 (by decide) ?_
            refine lv_goto (tgt := 157) hx hb d_SkeletonClockModel_fieldOf_125 rfl ?_
            refine lv_istore_n hx hb d_SkeletonClockModel_fieldOf_157 rfl hl (by decide) rfl (fun ls hl => ?_)
            have hl : lv_has ls 3 [(2, .int (11 : Int32)), (1, .int s0), (0, .int x0)] := hl
            refine lv_iload_n hx hb d_SkeletonClockModel_fieldOf_158 rfl (lv_at hl 1 rfl) ?_
            refine lv_if_lt (tgt := 166) hx hb d_SkeletonClockModel_fieldOf_159 rfl (fun hc => ?_) (fun hc => ?_)
            · have he := ih_t hc he
              refine lv_iload_n hx hb d_SkeletonClockModel_fieldOf_166 rfl (lv_at hl 0 rfl) ?_
              cases he
              exact k_ire hx hb hr hlk X hP hD hS d_SkeletonClockModel_fieldOf_167
            · have he := ih_f hc he
              refine lv_iload_n hx hb d_SkeletonClockModel_fieldOf_162 rfl (lv_at hl 1 rfl) ?_
              refine lv_goto (tgt := 167) hx hb d_SkeletonClockModel_fieldOf_163 rfl ?_
              cases he
              exact k_ire hx hb hr hlk X hP hD hS d_SkeletonClockModel_fieldOf_167
        · have he := ih_t hc he
          refine lv_bipush (v := (10 : Int32)) hx hb d_SkeletonClockModel_fieldOf_112 (by decide) ?_
          refine lv_goto (tgt := 157) hx hb d_SkeletonClockModel_fieldOf_114 rfl ?_
          refine lv_istore_n hx hb d_SkeletonClockModel_fieldOf_157 rfl hl (by decide) rfl (fun ls hl => ?_)
          have hl : lv_has ls 3 [(2, .int (10 : Int32)), (1, .int s0), (0, .int x0)] := hl
          refine lv_iload_n hx hb d_SkeletonClockModel_fieldOf_158 rfl (lv_at hl 1 rfl) ?_
          refine lv_if_lt (tgt := 166) hx hb d_SkeletonClockModel_fieldOf_159 rfl (fun hc => ?_) (fun hc => ?_)
          · have he := ih_t hc he
            refine lv_iload_n hx hb d_SkeletonClockModel_fieldOf_166 rfl (lv_at hl 0 rfl) ?_
            cases he
            exact k_ire hx hb hr hlk X hP hD hS d_SkeletonClockModel_fieldOf_167
          · have he := ih_f hc he
            refine lv_iload_n hx hb d_SkeletonClockModel_fieldOf_162 rfl (lv_at hl 1 rfl) ?_
            refine lv_goto (tgt := 167) hx hb d_SkeletonClockModel_fieldOf_163 rfl ?_
            cases he
            exact k_ire hx hb hr hlk X hP hD hS d_SkeletonClockModel_fieldOf_167
      · have he := ih_t hc he
        refine lv_bipush (v := (9 : Int32)) hx hb d_SkeletonClockModel_fieldOf_101 (by decide) ?_
        refine lv_goto (tgt := 157) hx hb d_SkeletonClockModel_fieldOf_103 rfl ?_
        refine lv_istore_n hx hb d_SkeletonClockModel_fieldOf_157 rfl hl (by decide) rfl (fun ls hl => ?_)
        have hl : lv_has ls 3 [(2, .int (9 : Int32)), (1, .int s0), (0, .int x0)] := hl
        refine lv_iload_n hx hb d_SkeletonClockModel_fieldOf_158 rfl (lv_at hl 1 rfl) ?_
        refine lv_if_lt (tgt := 166) hx hb d_SkeletonClockModel_fieldOf_159 rfl (fun hc => ?_) (fun hc => ?_)
        · have he := ih_t hc he
          refine lv_iload_n hx hb d_SkeletonClockModel_fieldOf_166 rfl (lv_at hl 0 rfl) ?_
          cases he
          exact k_ire hx hb hr hlk X hP hD hS d_SkeletonClockModel_fieldOf_167
        · have he := ih_f hc he
          refine lv_iload_n hx hb d_SkeletonClockModel_fieldOf_162 rfl (lv_at hl 1 rfl) ?_
          refine lv_goto (tgt := 167) hx hb d_SkeletonClockModel_fieldOf_163 rfl ?_
          cases he
          exact k_ire hx hb hr hlk X hP hD hS d_SkeletonClockModel_fieldOf_167
    · have he := ih_t hc he
      refine lv_bipush (v := (8 : Int32)) hx hb d_SkeletonClockModel_fieldOf_90 (by decide) ?_
      refine lv_goto (tgt := 157) hx hb d_SkeletonClockModel_fieldOf_92 rfl ?_
      refine lv_istore_n hx hb d_SkeletonClockModel_fieldOf_157 rfl hl (by decide) rfl (fun ls hl => ?_)
      have hl : lv_has ls 3 [(2, .int (8 : Int32)), (1, .int s0), (0, .int x0)] := hl
      refine lv_iload_n hx hb d_SkeletonClockModel_fieldOf_158 rfl (lv_at hl 1 rfl) ?_
      refine lv_if_lt (tgt := 166) hx hb d_SkeletonClockModel_fieldOf_159 rfl (fun hc => ?_) (fun hc => ?_)
      · have he := ih_t hc he
        refine lv_iload_n hx hb d_SkeletonClockModel_fieldOf_166 rfl (lv_at hl 0 rfl) ?_
        cases he
        exact k_ire hx hb hr hlk X hP hD hS d_SkeletonClockModel_fieldOf_167
      · have he := ih_f hc he
        refine lv_iload_n hx hb d_SkeletonClockModel_fieldOf_162 rfl (lv_at hl 1 rfl) ?_
        refine lv_goto (tgt := 167) hx hb d_SkeletonClockModel_fieldOf_163 rfl ?_
        cases he
        exact k_ire hx hb hr hlk X hP hD hS d_SkeletonClockModel_fieldOf_167
  · have he := ih_t hc he
    refine lv_bipush (v := (7 : Int32)) hx hb d_SkeletonClockModel_fieldOf_79 (by decide) ?_
    refine lv_goto (tgt := 157) hx hb d_SkeletonClockModel_fieldOf_81 rfl ?_
    refine lv_istore_n hx hb d_SkeletonClockModel_fieldOf_157 rfl hl (by decide) rfl (fun ls hl => ?_)
    have hl : lv_has ls 3 [(2, .int (7 : Int32)), (1, .int s0), (0, .int x0)] := hl
    refine lv_iload_n hx hb d_SkeletonClockModel_fieldOf_158 rfl (lv_at hl 1 rfl) ?_
    refine lv_if_lt (tgt := 166) hx hb d_SkeletonClockModel_fieldOf_159 rfl (fun hc => ?_) (fun hc => ?_)
    · have he := ih_t hc he
      refine lv_iload_n hx hb d_SkeletonClockModel_fieldOf_166 rfl (lv_at hl 0 rfl) ?_
      cases he
      exact k_ire hx hb hr hlk X hP hD hS d_SkeletonClockModel_fieldOf_167
    · have he := ih_f hc he
      refine lv_iload_n hx hb d_SkeletonClockModel_fieldOf_162 rfl (lv_at hl 1 rfl) ?_
      refine lv_goto (tgt := 167) hx hb d_SkeletonClockModel_fieldOf_163 rfl ?_
      cases he
      exact k_ire hx hb hr hlk X hP hD hS d_SkeletonClockModel_fieldOf_167
set_option maxHeartbeats 4000000 in
set_option maxRecDepth 100000 in
theorem c_SkeletonClockModel_fieldOf (l : Launch) (D : va_G) (kk : Nat → ClassId) (st : Nat → Nat) (sz : Nat) (x0 : Int32) (o : Int32) (he : f_SkeletonClockModel_fieldOf x0 = some o) : Met l y_SkeletonClockModel_fieldOf (Cond.code y_SkeletonClockModel_fieldOf b_SkeletonClockModel_fieldOf 3 (some .int) :: GW) rm_SkeletonClockModel_fieldOf (KPc D kk st [.int x0] [] sz) (KQi D kk o [] (va_A [] sz)) 0 0 (va_A [] sz) := by
  refine k_start (Qc := fun A => KQi D kk o [] A) (by decide) (Nat.le_of_ble_eq_true rfl) ?_
  intro p e s m below meth c A ls S hnm hr hlk hA X hP hD hS hl
  have hl : lv_has ls 3 [(0, .int x0)] := hl
  have hx := S.1
  have hb := S.2.1
  unfold f_SkeletonClockModel_fieldOf at he
  refine lv_iload_n hx hb d_SkeletonClockModel_fieldOf_0 rfl (lv_at hl 0 rfl) ?_
  refine lv_bipush (v := (117 : Int32)) hx hb d_SkeletonClockModel_fieldOf_1 (by decide) ?_
  refine lv_icmp_ne (tgt := 10) hx hb d_SkeletonClockModel_fieldOf_3 rfl (fun hc => ?_) (fun hc => ?_)
  · have he := ih_f hc he
    refine lv_iload_n hx hb d_SkeletonClockModel_fieldOf_10 rfl (lv_at hl 0 rfl) ?_
    refine lv_bipush (v := (77 : Int32)) hx hb d_SkeletonClockModel_fieldOf_11 (by decide) ?_
    refine lv_icmp_ne (tgt := 20) hx hb d_SkeletonClockModel_fieldOf_13 rfl (fun hc => ?_) (fun hc => ?_)
    · have he := ih_f hc he
      refine lv_iload_n hx hb d_SkeletonClockModel_fieldOf_20 rfl (lv_at hl 0 rfl) ?_
      refine lv_bipush (v := (100 : Int32)) hx hb d_SkeletonClockModel_fieldOf_21 (by decide) ?_
      refine lv_icmp_ne (tgt := 30) hx hb d_SkeletonClockModel_fieldOf_23 rfl (fun hc => ?_) (fun hc => ?_)
      · have he := ih_f hc he
        refine lv_iload_n hx hb d_SkeletonClockModel_fieldOf_30 rfl (lv_at hl 0 rfl) ?_
        refine lv_bipush (v := (68 : Int32)) hx hb d_SkeletonClockModel_fieldOf_31 (by decide) ?_
        refine lv_icmp_ne (tgt := 40) hx hb d_SkeletonClockModel_fieldOf_33 rfl (fun hc => ?_) (fun hc => ?_)
        · have he := ih_f hc he
          refine lv_iload_n hx hb d_SkeletonClockModel_fieldOf_40 rfl (lv_at hl 0 rfl) ?_
          refine lv_bipush (v := (69 : Int32)) hx hb d_SkeletonClockModel_fieldOf_41 (by decide) ?_
          refine lv_icmp_ne (tgt := 50) hx hb d_SkeletonClockModel_fieldOf_43 rfl (fun hc => ?_) (fun hc => ?_)
          · have he := ih_f hc he
            refine lv_iload_n hx hb d_SkeletonClockModel_fieldOf_50 rfl (lv_at hl 0 rfl) ?_
            refine lv_bipush (v := (119 : Int32)) hx hb d_SkeletonClockModel_fieldOf_51 (by decide) ?_
            refine lv_icmp_ne (tgt := 60) hx hb d_SkeletonClockModel_fieldOf_53 rfl (fun hc => ?_) (fun hc => ?_)
            · have he := ih_f hc he
              refine lv_iload_n hx hb d_SkeletonClockModel_fieldOf_60 rfl (lv_at hl 0 rfl) ?_
              refine lv_bipush (v := (89 : Int32)) hx hb d_SkeletonClockModel_fieldOf_61 (by decide) ?_
              refine lv_icmp_ne (tgt := 71) hx hb d_SkeletonClockModel_fieldOf_63 rfl (fun hc => ?_) (fun hc => ?_)
              · have he := ih_f hc he
                refine lv_iconst (v := (-1 : Int32)) hx hb d_SkeletonClockModel_fieldOf_71 (by decide) ?_
                have hl : lv_has ls 3 [(0, .int x0)] := lv_sub hl [0] rfl
                exact w_SkeletonClockModel_fieldOf_72 x0 (-1 : Int32) o S hr hlk hA X _ _ ls he hl hP hD hS
              · have he := ih_t hc he
                refine lv_bipush (v := (6 : Int32)) hx hb d_SkeletonClockModel_fieldOf_66 (by decide) ?_
                refine lv_goto (tgt := 72) hx hb d_SkeletonClockModel_fieldOf_68 rfl ?_
                have hl : lv_has ls 3 [(0, .int x0)] := lv_sub hl [0] rfl
                exact w_SkeletonClockModel_fieldOf_72 x0 (6 : Int32) o S hr hlk hA X _ _ ls he hl hP hD hS
            · have he := ih_t hc he
              refine lv_iconst (v := (5 : Int32)) hx hb d_SkeletonClockModel_fieldOf_56 (by decide) ?_
              refine lv_goto (tgt := 72) hx hb d_SkeletonClockModel_fieldOf_57 rfl ?_
              have hl : lv_has ls 3 [(0, .int x0)] := lv_sub hl [0] rfl
              exact w_SkeletonClockModel_fieldOf_72 x0 (5 : Int32) o S hr hlk hA X _ _ ls he hl hP hD hS
          · have he := ih_t hc he
            refine lv_iconst (v := (4 : Int32)) hx hb d_SkeletonClockModel_fieldOf_46 (by decide) ?_
            refine lv_goto (tgt := 72) hx hb d_SkeletonClockModel_fieldOf_47 rfl ?_
            have hl : lv_has ls 3 [(0, .int x0)] := lv_sub hl [0] rfl
            exact w_SkeletonClockModel_fieldOf_72 x0 (4 : Int32) o S hr hlk hA X _ _ ls he hl hP hD hS
        · have he := ih_t hc he
          refine lv_iconst (v := (3 : Int32)) hx hb d_SkeletonClockModel_fieldOf_36 (by decide) ?_
          refine lv_goto (tgt := 72) hx hb d_SkeletonClockModel_fieldOf_37 rfl ?_
          have hl : lv_has ls 3 [(0, .int x0)] := lv_sub hl [0] rfl
          exact w_SkeletonClockModel_fieldOf_72 x0 (3 : Int32) o S hr hlk hA X _ _ ls he hl hP hD hS
      · have he := ih_t hc he
        refine lv_iconst (v := (2 : Int32)) hx hb d_SkeletonClockModel_fieldOf_26 (by decide) ?_
        refine lv_goto (tgt := 72) hx hb d_SkeletonClockModel_fieldOf_27 rfl ?_
        have hl : lv_has ls 3 [(0, .int x0)] := lv_sub hl [0] rfl
        exact w_SkeletonClockModel_fieldOf_72 x0 (2 : Int32) o S hr hlk hA X _ _ ls he hl hP hD hS
    · have he := ih_t hc he
      refine lv_iconst (v := (1 : Int32)) hx hb d_SkeletonClockModel_fieldOf_16 (by decide) ?_
      refine lv_goto (tgt := 72) hx hb d_SkeletonClockModel_fieldOf_17 rfl ?_
      have hl : lv_has ls 3 [(0, .int x0)] := lv_sub hl [0] rfl
      exact w_SkeletonClockModel_fieldOf_72 x0 (1 : Int32) o S hr hlk hA X _ _ ls he hl hP hD hS
  · have he := ih_t hc he
    refine lv_iconst (v := (0 : Int32)) hx hb d_SkeletonClockModel_fieldOf_6 (by decide) ?_
    refine lv_goto (tgt := 72) hx hb d_SkeletonClockModel_fieldOf_7 rfl ?_
    have hl : lv_has ls 3 [(0, .int x0)] := lv_sub hl [0] rfl
    exact w_SkeletonClockModel_fieldOf_72 x0 (0 : Int32) o S hr hlk hA X _ _ ls he hl hP hD hS
abbrev rm_SkeletonClockModel_allowed : Room := { frames := 1, cells := 0, slots := 0, locals := 22 }
set_option maxHeartbeats 4000000 in
set_option maxRecDepth 100000 in
theorem c_SkeletonClockModel_allowed (l : Launch) (D : va_G) (kk : Nat → ClassId) (st : Nat → Nat) (sz : Nat) (x0 : Int32) (x1 : Int32) (o : Int32) (he : f_SkeletonClockModel_allowed x0 x1 = some o) : Met l y_SkeletonClockModel_allowed (Cond.code y_SkeletonClockModel_allowed b_SkeletonClockModel_allowed 3 (some .boolean) :: GW) rm_SkeletonClockModel_allowed (KPc D kk st [.int x0, .int x1] [] sz) (KQi D kk o [] (va_A [] sz)) 0 0 (va_A [] sz) := by
  refine k_start (Qc := fun A => KQi D kk o [] A) (by decide) (Nat.le_of_ble_eq_true rfl) ?_
  intro p e s m below meth c A ls S hnm hr hlk hA X hP hD hS hl
  have hl : lv_has ls 3 [(0, .int x0), (1, .int x1)] := hl
  have hx := S.1
  have hb := S.2.1
  unfold f_SkeletonClockModel_allowed at he
  refine lv_iload_n hx hb d_SkeletonClockModel_allowed_0 rfl (lv_at hl 0 rfl) ?_
  obtain ⟨u1, e2, he⟩ := ih_b he
  refine k_io (r_S (As := [.int x0]) S X hA hP hD hS (c_SkeletonClockModel_fieldOf l D kk st _ x0 u1 e2) gm_5_35 gm_5_33 gm_5_34 gm_1_13 ⟨rfl, rfl, by decide, by decide⟩ kd_SkeletonClockModel_fieldOf [] rfl rfl rfl rfl hl.1 rfl (Nat.le_of_ble_eq_true rfl) d_SkeletonClockModel_allowed_1 ⟨Nat.zero_le _, Nat.zero_le _⟩) hA hP hD hS [] rfl (fun H locs hP hS => ?_)
  refine lv_istore_n hx hb d_SkeletonClockModel_allowed_4 rfl hl (by decide) rfl (fun ls hl => ?_)
  have hl : lv_has ls 3 [(2, .int u1), (0, .int x0), (1, .int x1)] := hl
  refine lv_iload_n hx hb d_SkeletonClockModel_allowed_5 rfl (lv_at hl 0 rfl) ?_
  refine lv_if_eq (tgt := 15) hx hb d_SkeletonClockModel_allowed_6 rfl (fun hc => ?_) (fun hc => ?_)
  · have he := ih_t hc he
    refine lv_iload_n hx hb d_SkeletonClockModel_allowed_15 rfl (lv_at hl 2 rfl) ?_
    refine lv_iconst (v := (1 : Int32)) hx hb d_SkeletonClockModel_allowed_16 (by decide) ?_
    refine lv_icmp_eq (tgt := 30) hx hb d_SkeletonClockModel_allowed_17 rfl (fun hc => ?_) (fun hc => ?_)
    · have he := ih_t hc he
      refine lv_iconst (v := (1 : Int32)) hx hb d_SkeletonClockModel_allowed_30 (by decide) ?_
      refine lv_goto (tgt := 35) hx hb d_SkeletonClockModel_allowed_31 rfl ?_
      cases he
      exact k_zre hx hb hr hlk X hP hD hS (Or.inr rfl) d_SkeletonClockModel_allowed_35
    · have he := ih_f hc he
      refine lv_iload_n hx hb d_SkeletonClockModel_allowed_20 rfl (lv_at hl 2 rfl) ?_
      refine lv_iconst (v := (2 : Int32)) hx hb d_SkeletonClockModel_allowed_21 (by decide) ?_
      refine lv_icmp_eq (tgt := 30) hx hb d_SkeletonClockModel_allowed_22 rfl (fun hc => ?_) (fun hc => ?_)
      · have he := ih_t hc he
        refine lv_iconst (v := (1 : Int32)) hx hb d_SkeletonClockModel_allowed_30 (by decide) ?_
        refine lv_goto (tgt := 35) hx hb d_SkeletonClockModel_allowed_31 rfl ?_
        cases he
        exact k_zre hx hb hr hlk X hP hD hS (Or.inr rfl) d_SkeletonClockModel_allowed_35
      · have he := ih_f hc he
        refine lv_iload_n hx hb d_SkeletonClockModel_allowed_25 rfl (lv_at hl 2 rfl) ?_
        refine lv_iconst (v := (4 : Int32)) hx hb d_SkeletonClockModel_allowed_26 (by decide) ?_
        refine lv_icmp_ne (tgt := 34) hx hb d_SkeletonClockModel_allowed_27 rfl (fun hc => ?_) (fun hc => ?_)
        · have he := ih_f hc he
          refine lv_iconst (v := (0 : Int32)) hx hb d_SkeletonClockModel_allowed_34 (by decide) ?_
          cases he
          exact k_zre hx hb hr hlk X hP hD hS (Or.inl rfl) d_SkeletonClockModel_allowed_35
        · have he := ih_t hc he
          refine lv_iconst (v := (1 : Int32)) hx hb d_SkeletonClockModel_allowed_30 (by decide) ?_
          refine lv_goto (tgt := 35) hx hb d_SkeletonClockModel_allowed_31 rfl ?_
          cases he
          exact k_zre hx hb hr hlk X hP hD hS (Or.inr rfl) d_SkeletonClockModel_allowed_35
  · have he := ih_f hc he
    refine lv_iload_n hx hb d_SkeletonClockModel_allowed_9 rfl (lv_at hl 0 rfl) ?_
    refine lv_bipush (v := (6 : Int32)) hx hb d_SkeletonClockModel_allowed_10 (by decide) ?_
    refine lv_icmp_ne (tgt := 36) hx hb d_SkeletonClockModel_allowed_12 rfl (fun hc => ?_) (fun hc => ?_)
    · have he := ih_f hc he
      refine lv_iload_n hx hb d_SkeletonClockModel_allowed_36 rfl (lv_at hl 0 rfl) ?_
      refine lv_iconst (v := (1 : Int32)) hx hb d_SkeletonClockModel_allowed_37 (by decide) ?_
      refine lv_icmp_ne (tgt := 52) hx hb d_SkeletonClockModel_allowed_38 rfl (fun hc => ?_) (fun hc => ?_)
      · have he := ih_f hc he
        refine lv_iload_n hx hb d_SkeletonClockModel_allowed_52 rfl (lv_at hl 0 rfl) ?_
        refine lv_iconst (v := (3 : Int32)) hx hb d_SkeletonClockModel_allowed_53 (by decide) ?_
        refine lv_icmp_ne (tgt := 73) hx hb d_SkeletonClockModel_allowed_54 rfl (fun hc => ?_) (fun hc => ?_)
        · have he := ih_f hc he
          refine lv_iload_n hx hb d_SkeletonClockModel_allowed_73 rfl (lv_at hl 0 rfl) ?_
          refine lv_iconst (v := (4 : Int32)) hx hb d_SkeletonClockModel_allowed_74 (by decide) ?_
          refine lv_icmp_ne (tgt := 94) hx hb d_SkeletonClockModel_allowed_75 rfl (fun hc => ?_) (fun hc => ?_)
          · have he := ih_f hc he
            refine lv_iload_n hx hb d_SkeletonClockModel_allowed_94 rfl (lv_at hl 0 rfl) ?_
            refine lv_bipush (v := (9 : Int32)) hx hb d_SkeletonClockModel_allowed_95 (by decide) ?_
            refine lv_icmp_ne (tgt := 111) hx hb d_SkeletonClockModel_allowed_97 rfl (fun hc => ?_) (fun hc => ?_)
            · have he := ih_f hc he
              refine lv_iload_n hx hb d_SkeletonClockModel_allowed_111 rfl (lv_at hl 0 rfl) ?_
              refine lv_bipush (v := (12 : Int32)) hx hb d_SkeletonClockModel_allowed_112 (by decide) ?_
              refine lv_icmp_ne (tgt := 129) hx hb d_SkeletonClockModel_allowed_114 rfl (fun hc => ?_) (fun hc => ?_)
              · have he := ih_f hc he
                refine lv_iload_n hx hb d_SkeletonClockModel_allowed_129 rfl (lv_at hl 0 rfl) ?_
                refine lv_bipush (v := (13 : Int32)) hx hb d_SkeletonClockModel_allowed_130 (by decide) ?_
                refine lv_icmp_ne (tgt := 146) hx hb d_SkeletonClockModel_allowed_132 rfl (fun hc => ?_) (fun hc => ?_)
                · have he := ih_f hc he
                  refine lv_iload_n hx hb d_SkeletonClockModel_allowed_146 rfl (lv_at hl 0 rfl) ?_
                  refine lv_if_lt (tgt := 159) hx hb d_SkeletonClockModel_allowed_147 rfl (fun hc => ?_) (fun hc => ?_)
                  · have he := ih_t hc he
                    refine lv_iconst (v := (0 : Int32)) hx hb d_SkeletonClockModel_allowed_159 (by decide) ?_
                    cases he
                    exact k_zre hx hb hr hlk X hP hD hS (Or.inl rfl) d_SkeletonClockModel_allowed_160
                  · have he := ih_f hc he
                    refine lv_iload_n hx hb d_SkeletonClockModel_allowed_150 rfl (lv_at hl 2 rfl) ?_
                    refine lv_iconst (v := (2 : Int32)) hx hb d_SkeletonClockModel_allowed_151 (by decide) ?_
                    refine lv_icmp_gt (tgt := 159) hx hb d_SkeletonClockModel_allowed_152 rfl (fun hc => ?_) (fun hc => ?_)
                    · have he := ih_t hc he
                      refine lv_iconst (v := (0 : Int32)) hx hb d_SkeletonClockModel_allowed_159 (by decide) ?_
                      cases he
                      exact k_zre hx hb hr hlk X hP hD hS (Or.inl rfl) d_SkeletonClockModel_allowed_160
                    · have he := ih_f hc he
                      refine lv_iconst (v := (1 : Int32)) hx hb d_SkeletonClockModel_allowed_155 (by decide) ?_
                      refine lv_goto (tgt := 160) hx hb d_SkeletonClockModel_allowed_156 rfl ?_
                      cases he
                      exact k_zre hx hb hr hlk X hP hD hS (Or.inr rfl) d_SkeletonClockModel_allowed_160
                · have he := ih_t hc he
                  refine lv_iload_n hx hb d_SkeletonClockModel_allowed_135 rfl (lv_at hl 2 rfl) ?_
                  refine lv_iconst (v := (3 : Int32)) hx hb d_SkeletonClockModel_allowed_136 (by decide) ?_
                  refine lv_icmp_gt (tgt := 144) hx hb d_SkeletonClockModel_allowed_137 rfl (fun hc => ?_) (fun hc => ?_)
                  · have he := ih_t hc he
                    refine lv_iconst (v := (0 : Int32)) hx hb d_SkeletonClockModel_allowed_144 (by decide) ?_
                    cases he
                    exact k_zre hx hb hr hlk X hP hD hS (Or.inl rfl) d_SkeletonClockModel_allowed_145
                  · have he := ih_f hc he
                    refine lv_iconst (v := (1 : Int32)) hx hb d_SkeletonClockModel_allowed_140 (by decide) ?_
                    refine lv_goto (tgt := 145) hx hb d_SkeletonClockModel_allowed_141 rfl ?_
                    cases he
                    exact k_zre hx hb hr hlk X hP hD hS (Or.inr rfl) d_SkeletonClockModel_allowed_145
              · have he := ih_t hc he
                refine lv_iload_n hx hb d_SkeletonClockModel_allowed_117 rfl (lv_at hl 2 rfl) ?_
                refine lv_bipush (v := (9 : Int32)) hx hb d_SkeletonClockModel_allowed_118 (by decide) ?_
                refine lv_icmp_gt (tgt := 127) hx hb d_SkeletonClockModel_allowed_120 rfl (fun hc => ?_) (fun hc => ?_)
                · have he := ih_t hc he
                  refine lv_iconst (v := (0 : Int32)) hx hb d_SkeletonClockModel_allowed_127 (by decide) ?_
                  cases he
                  exact k_zre hx hb hr hlk X hP hD hS (Or.inl rfl) d_SkeletonClockModel_allowed_128
                · have he := ih_f hc he
                  refine lv_iconst (v := (1 : Int32)) hx hb d_SkeletonClockModel_allowed_123 (by decide) ?_
                  refine lv_goto (tgt := 128) hx hb d_SkeletonClockModel_allowed_124 rfl ?_
                  cases he
                  exact k_zre hx hb hr hlk X hP hD hS (Or.inr rfl) d_SkeletonClockModel_allowed_128
            · have he := ih_t hc he
              refine lv_iload_n hx hb d_SkeletonClockModel_allowed_100 rfl (lv_at hl 2 rfl) ?_
              refine lv_iconst (v := (1 : Int32)) hx hb d_SkeletonClockModel_allowed_101 (by decide) ?_
              refine lv_icmp_ne (tgt := 109) hx hb d_SkeletonClockModel_allowed_102 rfl (fun hc => ?_) (fun hc => ?_)
              · have he := ih_f hc he
                refine lv_iconst (v := (0 : Int32)) hx hb d_SkeletonClockModel_allowed_109 (by decide) ?_
                cases he
                exact k_zre hx hb hr hlk X hP hD hS (Or.inl rfl) d_SkeletonClockModel_allowed_110
              · have he := ih_t hc he
                refine lv_iconst (v := (1 : Int32)) hx hb d_SkeletonClockModel_allowed_105 (by decide) ?_
                refine lv_goto (tgt := 110) hx hb d_SkeletonClockModel_allowed_106 rfl ?_
                cases he
                exact k_zre hx hb hr hlk X hP hD hS (Or.inr rfl) d_SkeletonClockModel_allowed_110
          · have he := ih_t hc he
            refine lv_iload_n hx hb d_SkeletonClockModel_allowed_78 rfl (lv_at hl 2 rfl) ?_
            refine lv_iconst (v := (3 : Int32)) hx hb d_SkeletonClockModel_allowed_79 (by decide) ?_
            refine lv_icmp_eq (tgt := 88) hx hb d_SkeletonClockModel_allowed_80 rfl (fun hc => ?_) (fun hc => ?_)
            · have he := ih_t hc he
              refine lv_iconst (v := (1 : Int32)) hx hb d_SkeletonClockModel_allowed_88 (by decide) ?_
              refine lv_goto (tgt := 93) hx hb d_SkeletonClockModel_allowed_89 rfl ?_
              cases he
              exact k_zre hx hb hr hlk X hP hD hS (Or.inr rfl) d_SkeletonClockModel_allowed_93
            · have he := ih_f hc he
              refine lv_iload_n hx hb d_SkeletonClockModel_allowed_83 rfl (lv_at hl 2 rfl) ?_
              refine lv_iconst (v := (4 : Int32)) hx hb d_SkeletonClockModel_allowed_84 (by decide) ?_
              refine lv_icmp_ne (tgt := 92) hx hb d_SkeletonClockModel_allowed_85 rfl (fun hc => ?_) (fun hc => ?_)
              · have he := ih_f hc he
                refine lv_iconst (v := (0 : Int32)) hx hb d_SkeletonClockModel_allowed_92 (by decide) ?_
                cases he
                exact k_zre hx hb hr hlk X hP hD hS (Or.inl rfl) d_SkeletonClockModel_allowed_93
              · have he := ih_t hc he
                refine lv_iconst (v := (1 : Int32)) hx hb d_SkeletonClockModel_allowed_88 (by decide) ?_
                refine lv_goto (tgt := 93) hx hb d_SkeletonClockModel_allowed_89 rfl ?_
                cases he
                exact k_zre hx hb hr hlk X hP hD hS (Or.inr rfl) d_SkeletonClockModel_allowed_93
        · have he := ih_t hc he
          refine lv_iload_n hx hb d_SkeletonClockModel_allowed_57 rfl (lv_at hl 2 rfl) ?_
          refine lv_iconst (v := (1 : Int32)) hx hb d_SkeletonClockModel_allowed_58 (by decide) ?_
          refine lv_icmp_eq (tgt := 67) hx hb d_SkeletonClockModel_allowed_59 rfl (fun hc => ?_) (fun hc => ?_)
          · have he := ih_t hc he
            refine lv_iconst (v := (1 : Int32)) hx hb d_SkeletonClockModel_allowed_67 (by decide) ?_
            refine lv_goto (tgt := 72) hx hb d_SkeletonClockModel_allowed_68 rfl ?_
            cases he
            exact k_zre hx hb hr hlk X hP hD hS (Or.inr rfl) d_SkeletonClockModel_allowed_72
          · have he := ih_f hc he
            refine lv_iload_n hx hb d_SkeletonClockModel_allowed_62 rfl (lv_at hl 2 rfl) ?_
            refine lv_iconst (v := (3 : Int32)) hx hb d_SkeletonClockModel_allowed_63 (by decide) ?_
            refine lv_icmp_ne (tgt := 71) hx hb d_SkeletonClockModel_allowed_64 rfl (fun hc => ?_) (fun hc => ?_)
            · have he := ih_f hc he
              refine lv_iconst (v := (0 : Int32)) hx hb d_SkeletonClockModel_allowed_71 (by decide) ?_
              cases he
              exact k_zre hx hb hr hlk X hP hD hS (Or.inl rfl) d_SkeletonClockModel_allowed_72
            · have he := ih_t hc he
              refine lv_iconst (v := (1 : Int32)) hx hb d_SkeletonClockModel_allowed_67 (by decide) ?_
              refine lv_goto (tgt := 72) hx hb d_SkeletonClockModel_allowed_68 rfl ?_
              cases he
              exact k_zre hx hb hr hlk X hP hD hS (Or.inr rfl) d_SkeletonClockModel_allowed_72
      · have he := ih_t hc he
        refine lv_iload_n hx hb d_SkeletonClockModel_allowed_41 rfl (lv_at hl 2 rfl) ?_
        refine lv_iconst (v := (4 : Int32)) hx hb d_SkeletonClockModel_allowed_42 (by decide) ?_
        refine lv_icmp_gt (tgt := 50) hx hb d_SkeletonClockModel_allowed_43 rfl (fun hc => ?_) (fun hc => ?_)
        · have he := ih_t hc he
          refine lv_iconst (v := (0 : Int32)) hx hb d_SkeletonClockModel_allowed_50 (by decide) ?_
          cases he
          exact k_zre hx hb hr hlk X hP hD hS (Or.inl rfl) d_SkeletonClockModel_allowed_51
        · have he := ih_f hc he
          refine lv_iconst (v := (1 : Int32)) hx hb d_SkeletonClockModel_allowed_46 (by decide) ?_
          refine lv_goto (tgt := 51) hx hb d_SkeletonClockModel_allowed_47 rfl ?_
          cases he
          exact k_zre hx hb hr hlk X hP hD hS (Or.inr rfl) d_SkeletonClockModel_allowed_51
    · have he := ih_t hc he
      refine lv_iload_n hx hb d_SkeletonClockModel_allowed_15 rfl (lv_at hl 2 rfl) ?_
      refine lv_iconst (v := (1 : Int32)) hx hb d_SkeletonClockModel_allowed_16 (by decide) ?_
      refine lv_icmp_eq (tgt := 30) hx hb d_SkeletonClockModel_allowed_17 rfl (fun hc => ?_) (fun hc => ?_)
      · have he := ih_t hc he
        refine lv_iconst (v := (1 : Int32)) hx hb d_SkeletonClockModel_allowed_30 (by decide) ?_
        refine lv_goto (tgt := 35) hx hb d_SkeletonClockModel_allowed_31 rfl ?_
        cases he
        exact k_zre hx hb hr hlk X hP hD hS (Or.inr rfl) d_SkeletonClockModel_allowed_35
      · have he := ih_f hc he
        refine lv_iload_n hx hb d_SkeletonClockModel_allowed_20 rfl (lv_at hl 2 rfl) ?_
        refine lv_iconst (v := (2 : Int32)) hx hb d_SkeletonClockModel_allowed_21 (by decide) ?_
        refine lv_icmp_eq (tgt := 30) hx hb d_SkeletonClockModel_allowed_22 rfl (fun hc => ?_) (fun hc => ?_)
        · have he := ih_t hc he
          refine lv_iconst (v := (1 : Int32)) hx hb d_SkeletonClockModel_allowed_30 (by decide) ?_
          refine lv_goto (tgt := 35) hx hb d_SkeletonClockModel_allowed_31 rfl ?_
          cases he
          exact k_zre hx hb hr hlk X hP hD hS (Or.inr rfl) d_SkeletonClockModel_allowed_35
        · have he := ih_f hc he
          refine lv_iload_n hx hb d_SkeletonClockModel_allowed_25 rfl (lv_at hl 2 rfl) ?_
          refine lv_iconst (v := (4 : Int32)) hx hb d_SkeletonClockModel_allowed_26 (by decide) ?_
          refine lv_icmp_ne (tgt := 34) hx hb d_SkeletonClockModel_allowed_27 rfl (fun hc => ?_) (fun hc => ?_)
          · have he := ih_f hc he
            refine lv_iconst (v := (0 : Int32)) hx hb d_SkeletonClockModel_allowed_34 (by decide) ?_
            cases he
            exact k_zre hx hb hr hlk X hP hD hS (Or.inl rfl) d_SkeletonClockModel_allowed_35
          · have he := ih_t hc he
            refine lv_iconst (v := (1 : Int32)) hx hb d_SkeletonClockModel_allowed_30 (by decide) ?_
            refine lv_goto (tgt := 35) hx hb d_SkeletonClockModel_allowed_31 rfl ?_
            cases he
            exact k_zre hx hb hr hlk X hP hD hS (Or.inr rfl) d_SkeletonClockModel_allowed_35
abbrev rm_SkeletonClockModel_at : Room := { frames := 0, cells := 0, slots := 0, locals := 0 }
set_option maxHeartbeats 4000000 in
set_option maxRecDepth 100000 in
theorem c_SkeletonClockModel_at (l : Launch) (D : va_G) (kk : Nat → ClassId) (st : Nat → Nat) (a_t a_t_text a_t_page a_t_names a_t_sort a_t_code a_t_count a_t_around a_t_end a_t_size a_t_there a_t_wish a_t_have a_t_known a_t_value a_t_before a_t_open a_t_from : Nat) (sz : Nat) (t_length : Int32) (t_used : Int32) (t_far : Int32) (t_momentParts : Int32) (t_momentDay : Int64) (t_momentSecond : Int32) (t_momentNano : Int32) (t_momentOffset : Int32) (t_readParts : Int32) (t_readDay : Int64) (t_readSecond : Int32) (t_readNano : Int32) (t_readOffset : Int32) (t_alike : Int32) (t_text : Nat → Int32) (x1 : Int32) (o : Int32) (he : f_SkeletonClockModel_at t_length t_text x1 = some o) : Met l y_SkeletonClockModel_at (Cond.code y_SkeletonClockModel_at b_SkeletonClockModel_at 2 (some .int) :: GW) rm_SkeletonClockModel_at (KPc D kk st [.ref a_t, .int x1] [(a_t, .inr (10, [.int t_length, .ref a_t_text, .int t_used, .ref a_t_page, .ref a_t_names, .ref a_t_sort, .ref a_t_code, .ref a_t_count, .ref a_t_around, .ref a_t_end, .ref a_t_size, .ref a_t_there, .ref a_t_wish, .ref a_t_have, .int t_far, .int t_momentParts, .long t_momentDay, .int t_momentSecond, .int t_momentNano, .int t_momentOffset, .int t_readParts, .long t_readDay, .int t_readSecond, .int t_readNano, .int t_readOffset, .ref a_t_known, .ref a_t_value, .ref a_t_before, .ref a_t_open, .ref a_t_from, .int t_alike])), (a_t_text, .inl (kk 1, 60, .inl t_text))] sz) (KQi D kk o [(a_t, .inr (10, [.int t_length, .ref a_t_text, .int t_used, .ref a_t_page, .ref a_t_names, .ref a_t_sort, .ref a_t_code, .ref a_t_count, .ref a_t_around, .ref a_t_end, .ref a_t_size, .ref a_t_there, .ref a_t_wish, .ref a_t_have, .int t_far, .int t_momentParts, .long t_momentDay, .int t_momentSecond, .int t_momentNano, .int t_momentOffset, .int t_readParts, .long t_readDay, .int t_readSecond, .int t_readNano, .int t_readOffset, .ref a_t_known, .ref a_t_value, .ref a_t_before, .ref a_t_open, .ref a_t_from, .int t_alike])), (a_t_text, .inl (kk 1, 60, .inl t_text))] (va_A [(a_t, .inr (10, [.int t_length, .ref a_t_text, .int t_used, .ref a_t_page, .ref a_t_names, .ref a_t_sort, .ref a_t_code, .ref a_t_count, .ref a_t_around, .ref a_t_end, .ref a_t_size, .ref a_t_there, .ref a_t_wish, .ref a_t_have, .int t_far, .int t_momentParts, .long t_momentDay, .int t_momentSecond, .int t_momentNano, .int t_momentOffset, .int t_readParts, .long t_readDay, .int t_readSecond, .int t_readNano, .int t_readOffset, .ref a_t_known, .ref a_t_value, .ref a_t_before, .ref a_t_open, .ref a_t_from, .int t_alike])), (a_t_text, .inl (kk 1, 60, .inl t_text))] sz)) 0 0 (va_A [(a_t, .inr (10, [.int t_length, .ref a_t_text, .int t_used, .ref a_t_page, .ref a_t_names, .ref a_t_sort, .ref a_t_code, .ref a_t_count, .ref a_t_around, .ref a_t_end, .ref a_t_size, .ref a_t_there, .ref a_t_wish, .ref a_t_have, .int t_far, .int t_momentParts, .long t_momentDay, .int t_momentSecond, .int t_momentNano, .int t_momentOffset, .int t_readParts, .long t_readDay, .int t_readSecond, .int t_readNano, .int t_readOffset, .ref a_t_known, .ref a_t_value, .ref a_t_before, .ref a_t_open, .ref a_t_from, .int t_alike])), (a_t_text, .inl (kk 1, 60, .inl t_text))] sz) := by
  refine k_start (Qc := fun A => KQi D kk o [(a_t, .inr (10, [.int t_length, .ref a_t_text, .int t_used, .ref a_t_page, .ref a_t_names, .ref a_t_sort, .ref a_t_code, .ref a_t_count, .ref a_t_around, .ref a_t_end, .ref a_t_size, .ref a_t_there, .ref a_t_wish, .ref a_t_have, .int t_far, .int t_momentParts, .long t_momentDay, .int t_momentSecond, .int t_momentNano, .int t_momentOffset, .int t_readParts, .long t_readDay, .int t_readSecond, .int t_readNano, .int t_readOffset, .ref a_t_known, .ref a_t_value, .ref a_t_before, .ref a_t_open, .ref a_t_from, .int t_alike])), (a_t_text, .inl (kk 1, 60, .inl t_text))] A) (by decide) (Nat.le_of_ble_eq_true rfl) ?_
  intro p e s m below meth c A ls S hnm hr hlk hA X hP hD hS hl
  have hl : lv_has ls 2 [(0, .ref a_t), (1, .int x1)] := hl
  have hx := S.1
  have hb := S.2.1
  unfold f_SkeletonClockModel_at at he
  refine lv_iload_n hx hb d_SkeletonClockModel_at_0 rfl (lv_at hl 1 rfl) ?_
  refine lv_if_lt (tgt := 21) hx hb d_SkeletonClockModel_at_1 rfl (fun hc => ?_) (fun hc => ?_)
  · have he := ih_t hc he
    refine lv_iconst (v := (0 : Int32)) hx hb d_SkeletonClockModel_at_21 (by decide) ?_
    cases he
    exact k_ire hx hb hr hlk X hP hD hS d_SkeletonClockModel_at_22
  · have he := ih_f hc he
    refine lv_iload_n hx hb d_SkeletonClockModel_at_4 rfl (lv_at hl 1 rfl) ?_
    refine lv_aload_n hx hb d_SkeletonClockModel_at_5 rfl (lv_at hl 0 rfl) ?_
    refine k_get S X us_SkeletonClockModel hP 0 rfl rfl 0 (by decide) gm_4_151 rfl d_SkeletonClockModel_at_6 ?_
    refine lv_icmp_ge (tgt := 21) hx hb d_SkeletonClockModel_at_9 rfl (fun hc => ?_) (fun hc => ?_)
    · have he := ih_t hc he
      refine lv_iconst (v := (0 : Int32)) hx hb d_SkeletonClockModel_at_21 (by decide) ?_
      cases he
      exact k_ire hx hb hr hlk X hP hD hS d_SkeletonClockModel_at_22
    · have he := ih_f hc he
      refine lv_aload_n hx hb d_SkeletonClockModel_at_12 rfl (lv_at hl 0 rfl) ?_
      refine k_get S X us_SkeletonClockModel hP 0 rfl rfl 1 (by decide) gm_4_152 rfl d_SkeletonClockModel_at_13 ?_
      refine lv_iload_n hx hb d_SkeletonClockModel_at_16 rfl (lv_at hl 1 rfl) ?_
      obtain ⟨hi1, he⟩ := ih_g he
      refine va_cald hx hb X.1 hP 1 1 rfl rfl hi1 d_SkeletonClockModel_at_17 ?_
      refine lv_goto (tgt := 22) hx hb d_SkeletonClockModel_at_18 rfl ?_
      cases he
      exact k_ire hx hb hr hlk X hP hD hS d_SkeletonClockModel_at_22
abbrev rm_SkeletonClockModel_isLetter : Room := { frames := 1, cells := 0, slots := 0, locals := 21 }
set_option maxHeartbeats 4000000 in
set_option maxRecDepth 100000 in
theorem c_SkeletonClockModel_isLetter (l : Launch) (D : va_G) (kk : Nat → ClassId) (st : Nat → Nat) (a_t a_t_text a_t_page a_t_names a_t_sort a_t_code a_t_count a_t_around a_t_end a_t_size a_t_there a_t_wish a_t_have a_t_known a_t_value a_t_before a_t_open a_t_from : Nat) (sz : Nat) (t_length : Int32) (t_used : Int32) (t_far : Int32) (t_momentParts : Int32) (t_momentDay : Int64) (t_momentSecond : Int32) (t_momentNano : Int32) (t_momentOffset : Int32) (t_readParts : Int32) (t_readDay : Int64) (t_readSecond : Int32) (t_readNano : Int32) (t_readOffset : Int32) (t_alike : Int32) (t_text : Nat → Int32) (x1 : Int32) (o : Int32) (he : f_SkeletonClockModel_isLetter t_length t_text x1 = some o) : Met l y_SkeletonClockModel_isLetter (Cond.code y_SkeletonClockModel_isLetter b_SkeletonClockModel_isLetter 2 (some .boolean) :: GW) rm_SkeletonClockModel_isLetter (KPc D kk st [.ref a_t, .int x1] [(a_t, .inr (10, [.int t_length, .ref a_t_text, .int t_used, .ref a_t_page, .ref a_t_names, .ref a_t_sort, .ref a_t_code, .ref a_t_count, .ref a_t_around, .ref a_t_end, .ref a_t_size, .ref a_t_there, .ref a_t_wish, .ref a_t_have, .int t_far, .int t_momentParts, .long t_momentDay, .int t_momentSecond, .int t_momentNano, .int t_momentOffset, .int t_readParts, .long t_readDay, .int t_readSecond, .int t_readNano, .int t_readOffset, .ref a_t_known, .ref a_t_value, .ref a_t_before, .ref a_t_open, .ref a_t_from, .int t_alike])), (a_t_text, .inl (kk 1, 60, .inl t_text))] sz) (KQi D kk o [(a_t, .inr (10, [.int t_length, .ref a_t_text, .int t_used, .ref a_t_page, .ref a_t_names, .ref a_t_sort, .ref a_t_code, .ref a_t_count, .ref a_t_around, .ref a_t_end, .ref a_t_size, .ref a_t_there, .ref a_t_wish, .ref a_t_have, .int t_far, .int t_momentParts, .long t_momentDay, .int t_momentSecond, .int t_momentNano, .int t_momentOffset, .int t_readParts, .long t_readDay, .int t_readSecond, .int t_readNano, .int t_readOffset, .ref a_t_known, .ref a_t_value, .ref a_t_before, .ref a_t_open, .ref a_t_from, .int t_alike])), (a_t_text, .inl (kk 1, 60, .inl t_text))] (va_A [(a_t, .inr (10, [.int t_length, .ref a_t_text, .int t_used, .ref a_t_page, .ref a_t_names, .ref a_t_sort, .ref a_t_code, .ref a_t_count, .ref a_t_around, .ref a_t_end, .ref a_t_size, .ref a_t_there, .ref a_t_wish, .ref a_t_have, .int t_far, .int t_momentParts, .long t_momentDay, .int t_momentSecond, .int t_momentNano, .int t_momentOffset, .int t_readParts, .long t_readDay, .int t_readSecond, .int t_readNano, .int t_readOffset, .ref a_t_known, .ref a_t_value, .ref a_t_before, .ref a_t_open, .ref a_t_from, .int t_alike])), (a_t_text, .inl (kk 1, 60, .inl t_text))] sz)) 0 0 (va_A [(a_t, .inr (10, [.int t_length, .ref a_t_text, .int t_used, .ref a_t_page, .ref a_t_names, .ref a_t_sort, .ref a_t_code, .ref a_t_count, .ref a_t_around, .ref a_t_end, .ref a_t_size, .ref a_t_there, .ref a_t_wish, .ref a_t_have, .int t_far, .int t_momentParts, .long t_momentDay, .int t_momentSecond, .int t_momentNano, .int t_momentOffset, .int t_readParts, .long t_readDay, .int t_readSecond, .int t_readNano, .int t_readOffset, .ref a_t_known, .ref a_t_value, .ref a_t_before, .ref a_t_open, .ref a_t_from, .int t_alike])), (a_t_text, .inl (kk 1, 60, .inl t_text))] sz) := by
  refine k_start (Qc := fun A => KQi D kk o [(a_t, .inr (10, [.int t_length, .ref a_t_text, .int t_used, .ref a_t_page, .ref a_t_names, .ref a_t_sort, .ref a_t_code, .ref a_t_count, .ref a_t_around, .ref a_t_end, .ref a_t_size, .ref a_t_there, .ref a_t_wish, .ref a_t_have, .int t_far, .int t_momentParts, .long t_momentDay, .int t_momentSecond, .int t_momentNano, .int t_momentOffset, .int t_readParts, .long t_readDay, .int t_readSecond, .int t_readNano, .int t_readOffset, .ref a_t_known, .ref a_t_value, .ref a_t_before, .ref a_t_open, .ref a_t_from, .int t_alike])), (a_t_text, .inl (kk 1, 60, .inl t_text))] A) (by decide) (Nat.le_of_ble_eq_true rfl) ?_
  intro p e s m below meth c A ls S hnm hr hlk hA X hP hD hS hl
  have hl : lv_has ls 2 [(0, .ref a_t), (1, .int x1)] := hl
  have hx := S.1
  have hb := S.2.1
  unfold f_SkeletonClockModel_isLetter at he
  refine lv_aload_n hx hb d_SkeletonClockModel_isLetter_0 rfl (lv_at hl 0 rfl) ?_
  refine lv_iload_n hx hb d_SkeletonClockModel_isLetter_1 rfl (lv_at hl 1 rfl) ?_
  obtain ⟨u1, e2, he⟩ := ih_b he
  refine k_io (r_V (As := [.int x1]) S X hA hP hD hS (c_SkeletonClockModel_at l D kk st a_t a_t_text a_t_page a_t_names a_t_sort a_t_code a_t_count a_t_around a_t_end a_t_size a_t_there a_t_wish a_t_have a_t_known a_t_value a_t_before a_t_open a_t_from _ t_length t_used t_far t_momentParts t_momentDay t_momentSecond t_momentNano t_momentOffset t_readParts t_readDay t_readSecond t_readNano t_readOffset t_alike t_text x1 u1 e2) gm_5_21 gm_5_18 gm_5_20 gm_p3_0 gm_1_13 ⟨rfl, rfl, by decide, by decide⟩ kd_SkeletonClockModel_at [0, 1] rfl rfl rfl 0 10 rfl rfl rfl rfl hl.1 rfl (Nat.le_of_ble_eq_true rfl) d_SkeletonClockModel_isLetter_2 ⟨Nat.zero_le _, Nat.zero_le _⟩) hA hP hD hS [0, 1] rfl (fun H locs hP hS => ?_)
  refine lv_bipush (v := (97 : Int32)) hx hb d_SkeletonClockModel_isLetter_5 (by decide) ?_
  refine lv_icmp_lt (tgt := 20) hx hb d_SkeletonClockModel_isLetter_7 rfl (fun hc => ?_) (fun hc => ?_)
  · have he := ih_t hc he
    refine lv_aload_n hx hb d_SkeletonClockModel_isLetter_20 rfl (lv_at hl 0 rfl) ?_
    refine lv_iload_n hx hb d_SkeletonClockModel_isLetter_21 rfl (lv_at hl 1 rfl) ?_
    obtain ⟨u3, e4, he⟩ := ih_b he
    refine k_io (r_V (As := [.int x1]) S X hA hP hD hS (c_SkeletonClockModel_at l D kk st a_t a_t_text a_t_page a_t_names a_t_sort a_t_code a_t_count a_t_around a_t_end a_t_size a_t_there a_t_wish a_t_have a_t_known a_t_value a_t_before a_t_open a_t_from _ t_length t_used t_far t_momentParts t_momentDay t_momentSecond t_momentNano t_momentOffset t_readParts t_readDay t_readSecond t_readNano t_readOffset t_alike t_text x1 u3 e4) gm_5_21 gm_5_18 gm_5_20 gm_p3_0 gm_1_13 ⟨rfl, rfl, by decide, by decide⟩ kd_SkeletonClockModel_at [0, 1] rfl rfl rfl 0 10 rfl rfl rfl rfl hl.1 rfl (Nat.le_of_ble_eq_true rfl) d_SkeletonClockModel_isLetter_22 ⟨Nat.zero_le _, Nat.zero_le _⟩) hA hP hD hS [0, 1] rfl (fun H locs hP hS => ?_)
    refine lv_bipush (v := (65 : Int32)) hx hb d_SkeletonClockModel_isLetter_25 (by decide) ?_
    refine lv_icmp_lt (tgt := 44) hx hb d_SkeletonClockModel_isLetter_27 rfl (fun hc => ?_) (fun hc => ?_)
    · have he := ih_t hc he
      refine lv_iconst (v := (0 : Int32)) hx hb d_SkeletonClockModel_isLetter_44 (by decide) ?_
      cases he
      exact k_zre hx hb hr hlk X hP hD hS (Or.inl rfl) d_SkeletonClockModel_isLetter_45
    · have he := ih_f hc he
      refine lv_aload_n hx hb d_SkeletonClockModel_isLetter_30 rfl (lv_at hl 0 rfl) ?_
      refine lv_iload_n hx hb d_SkeletonClockModel_isLetter_31 rfl (lv_at hl 1 rfl) ?_
      obtain ⟨u5, e6, he⟩ := ih_b he
      refine k_io (r_V (As := [.int x1]) S X hA hP hD hS (c_SkeletonClockModel_at l D kk st a_t a_t_text a_t_page a_t_names a_t_sort a_t_code a_t_count a_t_around a_t_end a_t_size a_t_there a_t_wish a_t_have a_t_known a_t_value a_t_before a_t_open a_t_from _ t_length t_used t_far t_momentParts t_momentDay t_momentSecond t_momentNano t_momentOffset t_readParts t_readDay t_readSecond t_readNano t_readOffset t_alike t_text x1 u5 e6) gm_5_21 gm_5_18 gm_5_20 gm_p3_0 gm_1_13 ⟨rfl, rfl, by decide, by decide⟩ kd_SkeletonClockModel_at [0, 1] rfl rfl rfl 0 10 rfl rfl rfl rfl hl.1 rfl (Nat.le_of_ble_eq_true rfl) d_SkeletonClockModel_isLetter_32 ⟨Nat.zero_le _, Nat.zero_le _⟩) hA hP hD hS [0, 1] rfl (fun H locs hP hS => ?_)
      refine lv_bipush (v := (90 : Int32)) hx hb d_SkeletonClockModel_isLetter_35 (by decide) ?_
      refine lv_icmp_gt (tgt := 44) hx hb d_SkeletonClockModel_isLetter_37 rfl (fun hc => ?_) (fun hc => ?_)
      · have he := ih_t hc he
        refine lv_iconst (v := (0 : Int32)) hx hb d_SkeletonClockModel_isLetter_44 (by decide) ?_
        cases he
        exact k_zre hx hb hr hlk X hP hD hS (Or.inl rfl) d_SkeletonClockModel_isLetter_45
      · have he := ih_f hc he
        refine lv_iconst (v := (1 : Int32)) hx hb d_SkeletonClockModel_isLetter_40 (by decide) ?_
        refine lv_goto (tgt := 45) hx hb d_SkeletonClockModel_isLetter_41 rfl ?_
        cases he
        exact k_zre hx hb hr hlk X hP hD hS (Or.inr rfl) d_SkeletonClockModel_isLetter_45
  · have he := ih_f hc he
    refine lv_aload_n hx hb d_SkeletonClockModel_isLetter_10 rfl (lv_at hl 0 rfl) ?_
    refine lv_iload_n hx hb d_SkeletonClockModel_isLetter_11 rfl (lv_at hl 1 rfl) ?_
    obtain ⟨u7, e8, he⟩ := ih_b he
    refine k_io (r_V (As := [.int x1]) S X hA hP hD hS (c_SkeletonClockModel_at l D kk st a_t a_t_text a_t_page a_t_names a_t_sort a_t_code a_t_count a_t_around a_t_end a_t_size a_t_there a_t_wish a_t_have a_t_known a_t_value a_t_before a_t_open a_t_from _ t_length t_used t_far t_momentParts t_momentDay t_momentSecond t_momentNano t_momentOffset t_readParts t_readDay t_readSecond t_readNano t_readOffset t_alike t_text x1 u7 e8) gm_5_21 gm_5_18 gm_5_20 gm_p3_0 gm_1_13 ⟨rfl, rfl, by decide, by decide⟩ kd_SkeletonClockModel_at [0, 1] rfl rfl rfl 0 10 rfl rfl rfl rfl hl.1 rfl (Nat.le_of_ble_eq_true rfl) d_SkeletonClockModel_isLetter_12 ⟨Nat.zero_le _, Nat.zero_le _⟩) hA hP hD hS [0, 1] rfl (fun H locs hP hS => ?_)
    refine lv_bipush (v := (122 : Int32)) hx hb d_SkeletonClockModel_isLetter_15 (by decide) ?_
    refine lv_icmp_le (tgt := 40) hx hb d_SkeletonClockModel_isLetter_17 rfl (fun hc => ?_) (fun hc => ?_)
    · have he := ih_t hc he
      refine lv_iconst (v := (1 : Int32)) hx hb d_SkeletonClockModel_isLetter_40 (by decide) ?_
      refine lv_goto (tgt := 45) hx hb d_SkeletonClockModel_isLetter_41 rfl ?_
      cases he
      exact k_zre hx hb hr hlk X hP hD hS (Or.inr rfl) d_SkeletonClockModel_isLetter_45
    · have he := ih_f hc he
      refine lv_aload_n hx hb d_SkeletonClockModel_isLetter_20 rfl (lv_at hl 0 rfl) ?_
      refine lv_iload_n hx hb d_SkeletonClockModel_isLetter_21 rfl (lv_at hl 1 rfl) ?_
      obtain ⟨u9, e10, he⟩ := ih_b he
      refine k_io (r_V (As := [.int x1]) S X hA hP hD hS (c_SkeletonClockModel_at l D kk st a_t a_t_text a_t_page a_t_names a_t_sort a_t_code a_t_count a_t_around a_t_end a_t_size a_t_there a_t_wish a_t_have a_t_known a_t_value a_t_before a_t_open a_t_from _ t_length t_used t_far t_momentParts t_momentDay t_momentSecond t_momentNano t_momentOffset t_readParts t_readDay t_readSecond t_readNano t_readOffset t_alike t_text x1 u9 e10) gm_5_21 gm_5_18 gm_5_20 gm_p3_0 gm_1_13 ⟨rfl, rfl, by decide, by decide⟩ kd_SkeletonClockModel_at [0, 1] rfl rfl rfl 0 10 rfl rfl rfl rfl hl.1 rfl (Nat.le_of_ble_eq_true rfl) d_SkeletonClockModel_isLetter_22 ⟨Nat.zero_le _, Nat.zero_le _⟩) hA hP hD hS [0, 1] rfl (fun H locs hP hS => ?_)
      refine lv_bipush (v := (65 : Int32)) hx hb d_SkeletonClockModel_isLetter_25 (by decide) ?_
      refine lv_icmp_lt (tgt := 44) hx hb d_SkeletonClockModel_isLetter_27 rfl (fun hc => ?_) (fun hc => ?_)
      · have he := ih_t hc he
        refine lv_iconst (v := (0 : Int32)) hx hb d_SkeletonClockModel_isLetter_44 (by decide) ?_
        cases he
        exact k_zre hx hb hr hlk X hP hD hS (Or.inl rfl) d_SkeletonClockModel_isLetter_45
      · have he := ih_f hc he
        refine lv_aload_n hx hb d_SkeletonClockModel_isLetter_30 rfl (lv_at hl 0 rfl) ?_
        refine lv_iload_n hx hb d_SkeletonClockModel_isLetter_31 rfl (lv_at hl 1 rfl) ?_
        obtain ⟨u11, e12, he⟩ := ih_b he
        refine k_io (r_V (As := [.int x1]) S X hA hP hD hS (c_SkeletonClockModel_at l D kk st a_t a_t_text a_t_page a_t_names a_t_sort a_t_code a_t_count a_t_around a_t_end a_t_size a_t_there a_t_wish a_t_have a_t_known a_t_value a_t_before a_t_open a_t_from _ t_length t_used t_far t_momentParts t_momentDay t_momentSecond t_momentNano t_momentOffset t_readParts t_readDay t_readSecond t_readNano t_readOffset t_alike t_text x1 u11 e12) gm_5_21 gm_5_18 gm_5_20 gm_p3_0 gm_1_13 ⟨rfl, rfl, by decide, by decide⟩ kd_SkeletonClockModel_at [0, 1] rfl rfl rfl 0 10 rfl rfl rfl rfl hl.1 rfl (Nat.le_of_ble_eq_true rfl) d_SkeletonClockModel_isLetter_32 ⟨Nat.zero_le _, Nat.zero_le _⟩) hA hP hD hS [0, 1] rfl (fun H locs hP hS => ?_)
        refine lv_bipush (v := (90 : Int32)) hx hb d_SkeletonClockModel_isLetter_35 (by decide) ?_
        refine lv_icmp_gt (tgt := 44) hx hb d_SkeletonClockModel_isLetter_37 rfl (fun hc => ?_) (fun hc => ?_)
        · have he := ih_t hc he
          refine lv_iconst (v := (0 : Int32)) hx hb d_SkeletonClockModel_isLetter_44 (by decide) ?_
          cases he
          exact k_zre hx hb hr hlk X hP hD hS (Or.inl rfl) d_SkeletonClockModel_isLetter_45
        · have he := ih_f hc he
          refine lv_iconst (v := (1 : Int32)) hx hb d_SkeletonClockModel_isLetter_40 (by decide) ?_
          refine lv_goto (tgt := 45) hx hb d_SkeletonClockModel_isLetter_41 rfl ?_
          cases he
          exact k_zre hx hb hr hlk X hP hD hS (Or.inr rfl) d_SkeletonClockModel_isLetter_45
abbrev rm_SkeletonClockModel_run : Room := { frames := 1, cells := 0, slots := 0, locals := 21 }
set_option maxHeartbeats 4000000 in
set_option maxRecDepth 100000 in
theorem w_SkeletonClockModel_run_2 {p : Program} {l : Launch} {e : Env} {s : State} {m : MethodId} {args : Array Value} {below : List Frame} {meth : Method} {c : Code} {Q : State → Prop} {A : Nat → Prop} {D : va_G} {kk : Nat → ClassId} {st : Nat → Nat} (a_t a_t_text a_t_page a_t_names a_t_sort a_t_code a_t_count a_t_around a_t_end a_t_size a_t_there a_t_wish a_t_have a_t_known a_t_value a_t_before a_t_open a_t_from : Nat) (t_length : Int32) (t_used : Int32) (t_far : Int32) (t_momentParts : Int32) (t_momentDay : Int64) (t_momentSecond : Int32) (t_momentNano : Int32) (t_momentOffset : Int32) (t_readParts : Int32) (t_readDay : Int64) (t_readSecond : Int32) (t_readNano : Int32) (t_readOffset : Int32) (t_alike : Int32) (t_text : Nat → Int32) (x1 : Int32) (S : CallFix p m c b_SkeletonClockModel_run 3 s args GW y_SkeletonClockModel_run.cls) (hr : meth.sig.returnType = (some .int)) (hlk : meth.locks = false) (hA : ∀ q, s.heap.size ≤ q → A q) (X : KX D kk st A s) : ∀ (n : Nat) (x2 : Int32) (v : Int32) (H : Heap) (locs : List Loc) (ls : Array Slot), lp_SkeletonClockModel_run_2 t_length t_text x1 n x2 = some v → lv_has ls 3 [(0, .ref a_t), (1, .int x1), (2, .int x2)] → va_P D classes [(a_t, .inr (10, [.int t_length, .ref a_t_text, .int t_used, .ref a_t_page, .ref a_t_names, .ref a_t_sort, .ref a_t_code, .ref a_t_count, .ref a_t_around, .ref a_t_end, .ref a_t_size, .ref a_t_there, .ref a_t_wish, .ref a_t_have, .int t_far, .int t_momentParts, .long t_momentDay, .int t_momentSecond, .int t_momentNano, .int t_momentOffset, .int t_readParts, .long t_readDay, .int t_readSecond, .int t_readNano, .int t_readOffset, .ref a_t_known, .ref a_t_value, .ref a_t_before, .ref a_t_open, .ref a_t_from, .int t_alike])), (a_t_text, .inl (kk 1, 60, .inl t_text))] H → va_D A [(a_t, .inr (10, [.int t_length, .ref a_t_text, .int t_used, .ref a_t_page, .ref a_t_names, .ref a_t_sort, .ref a_t_code, .ref a_t_count, .ref a_t_around, .ref a_t_end, .ref a_t_size, .ref a_t_there, .ref a_t_wish, .ref a_t_have, .int t_far, .int t_momentParts, .long t_momentDay, .int t_momentSecond, .int t_momentNano, .int t_momentOffset, .int t_readParts, .long t_readDay, .int t_readSecond, .int t_readNano, .int t_readOffset, .ref a_t_known, .ref a_t_value, .ref a_t_before, .ref a_t_open, .ref a_t_from, .int t_alike])), (a_t_text, .inl (kk 1, 60, .inl t_text))] → va_S A s.heap H locs → (∀ (H : Heap) (locs : List Loc) (ls : Array Slot), lv_has ls 3 [(0, .ref a_t), (1, .int x1), (2, .int v)] → va_P D classes [(a_t, .inr (10, [.int t_length, .ref a_t_text, .int t_used, .ref a_t_page, .ref a_t_names, .ref a_t_sort, .ref a_t_code, .ref a_t_count, .ref a_t_around, .ref a_t_end, .ref a_t_size, .ref a_t_there, .ref a_t_wish, .ref a_t_have, .int t_far, .int t_momentParts, .long t_momentDay, .int t_momentSecond, .int t_momentNano, .int t_momentOffset, .int t_readParts, .long t_readDay, .int t_readSecond, .int t_readNano, .int t_readOffset, .ref a_t_known, .ref a_t_value, .ref a_t_before, .ref a_t_open, .ref a_t_from, .int t_alike])), (a_t_text, .inl (kk 1, 60, .inl t_text))] H → va_D A [(a_t, .inr (10, [.int t_length, .ref a_t_text, .int t_used, .ref a_t_page, .ref a_t_names, .ref a_t_sort, .ref a_t_code, .ref a_t_count, .ref a_t_around, .ref a_t_end, .ref a_t_size, .ref a_t_there, .ref a_t_wish, .ref a_t_have, .int t_far, .int t_momentParts, .long t_momentDay, .int t_momentSecond, .int t_momentNano, .int t_momentOffset, .int t_readParts, .long t_readDay, .int t_readSecond, .int t_readNano, .int t_readOffset, .ref a_t_known, .ref a_t_value, .ref a_t_before, .ref a_t_open, .ref a_t_from, .int t_alike])), (a_t_text, .inl (kk 1, 60, .inl t_text))] → va_S A s.heap H locs → W p l e rm_SkeletonClockModel_run s m args below meth c H locs 0 0 Q (F0 m 23 ls [])) → W p l e rm_SkeletonClockModel_run s m args below meth c H locs 0 0 Q (F0 m 2 ls []) := by
  intro n
  induction n with
  | zero =>
    intro x2 v H locs ls he hl hP hD hS K
    exact ih_n he
  | succ n ih =>
    intro x2 v H locs ls he hl hP hD hS K
    have hx := S.1
    have hb := S.2.1
    have he : st_SkeletonClockModel_run_2 t_length t_text x1 (lp_SkeletonClockModel_run_2 t_length t_text x1 n) x2 = some v := he
    unfold st_SkeletonClockModel_run_2 at he
    refine lv_aload_n hx hb d_SkeletonClockModel_run_2 rfl (lv_at hl 0 rfl) ?_
    refine lv_iload_n hx hb d_SkeletonClockModel_run_3 rfl (lv_at hl 1 rfl) ?_
    refine lv_iload_n hx hb d_SkeletonClockModel_run_4 rfl (lv_at hl 2 rfl) ?_
    refine lv_iadd hx hb d_SkeletonClockModel_run_5 ?_
    obtain ⟨u1, e2, he⟩ := ih_b he
    refine k_io (r_V (As := [.int (x1 + x2)]) S X hA hP hD hS (c_SkeletonClockModel_at l D kk st a_t a_t_text a_t_page a_t_names a_t_sort a_t_code a_t_count a_t_around a_t_end a_t_size a_t_there a_t_wish a_t_have a_t_known a_t_value a_t_before a_t_open a_t_from _ t_length t_used t_far t_momentParts t_momentDay t_momentSecond t_momentNano t_momentOffset t_readParts t_readDay t_readSecond t_readNano t_readOffset t_alike t_text (x1 + x2) u1 e2) gm_5_21 gm_5_18 gm_5_20 gm_p3_0 gm_1_13 ⟨rfl, rfl, by decide, by decide⟩ kd_SkeletonClockModel_at [0, 1] rfl rfl rfl 0 10 rfl rfl rfl rfl hl.1 rfl (Nat.le_of_ble_eq_true rfl) d_SkeletonClockModel_run_6 ⟨Nat.zero_le _, Nat.zero_le _⟩) hA hP hD hS [0, 1] rfl (fun H locs hP hS => ?_)
    refine lv_aload_n hx hb d_SkeletonClockModel_run_9 rfl (lv_at hl 0 rfl) ?_
    refine lv_iload_n hx hb d_SkeletonClockModel_run_10 rfl (lv_at hl 1 rfl) ?_
    obtain ⟨u3, e4, he⟩ := ih_b he
    refine k_io (r_V (As := [.int x1]) S X hA hP hD hS (c_SkeletonClockModel_at l D kk st a_t a_t_text a_t_page a_t_names a_t_sort a_t_code a_t_count a_t_around a_t_end a_t_size a_t_there a_t_wish a_t_have a_t_known a_t_value a_t_before a_t_open a_t_from _ t_length t_used t_far t_momentParts t_momentDay t_momentSecond t_momentNano t_momentOffset t_readParts t_readDay t_readSecond t_readNano t_readOffset t_alike t_text x1 u3 e4) gm_5_21 gm_5_18 gm_5_20 gm_p3_0 gm_1_13 ⟨rfl, rfl, by decide, by decide⟩ kd_SkeletonClockModel_at [0, 1] rfl rfl rfl 0 10 rfl rfl rfl rfl hl.1 rfl (Nat.le_of_ble_eq_true rfl) d_SkeletonClockModel_run_11 ⟨Nat.zero_le _, Nat.zero_le _⟩) hA hP hD hS [0, 1] rfl (fun H locs hP hS => ?_)
    refine lv_icmp_ne (tgt := 23) hx hb d_SkeletonClockModel_run_14 rfl (fun hc => ?_) (fun hc => ?_)
    · have he := ih_f hc he
      have hl : lv_has ls 3 [(0, .ref a_t), (1, .int x1), (2, .int x2)] := lv_sub hl [0, 1, 2] rfl
      cases he
      exact K _ _ _ hl hP hD hS
    · have he := ih_t hc he
      refine lv_iinc (k := 2) hx hb d_SkeletonClockModel_run_17 hl rfl (ii_ (v := (1 : Int32)) (by decide)) (by decide) rfl (fun ls hl => ?_)
      have hl : lv_has ls 3 [(2, .int (x2 + (1 : Int32))), (0, .ref a_t), (1, .int x1)] := hl
      refine lv_goto (tgt := 2) hx hb d_SkeletonClockModel_run_20 rfl ?_
      have hl : lv_has ls 3 [(0, .ref a_t), (1, .int x1), (2, .int (x2 + (1 : Int32)))] := lv_sub hl [1, 2, 0] rfl
      exact ih _ _ _ _ _ he hl hP hD hS K
set_option maxHeartbeats 4000000 in
set_option maxRecDepth 100000 in
theorem c_SkeletonClockModel_run (l : Launch) (D : va_G) (kk : Nat → ClassId) (st : Nat → Nat) (a_t a_t_text a_t_page a_t_names a_t_sort a_t_code a_t_count a_t_around a_t_end a_t_size a_t_there a_t_wish a_t_have a_t_known a_t_value a_t_before a_t_open a_t_from : Nat) (sz : Nat) (t_length : Int32) (t_used : Int32) (t_far : Int32) (t_momentParts : Int32) (t_momentDay : Int64) (t_momentSecond : Int32) (t_momentNano : Int32) (t_momentOffset : Int32) (t_readParts : Int32) (t_readDay : Int64) (t_readSecond : Int32) (t_readNano : Int32) (t_readOffset : Int32) (t_alike : Int32) (t_text : Nat → Int32) (x1 : Int32) (o : Int32) (he : f_SkeletonClockModel_run t_length t_text x1 = some o) : Met l y_SkeletonClockModel_run (Cond.code y_SkeletonClockModel_run b_SkeletonClockModel_run 3 (some .int) :: GW) rm_SkeletonClockModel_run (KPc D kk st [.ref a_t, .int x1] [(a_t, .inr (10, [.int t_length, .ref a_t_text, .int t_used, .ref a_t_page, .ref a_t_names, .ref a_t_sort, .ref a_t_code, .ref a_t_count, .ref a_t_around, .ref a_t_end, .ref a_t_size, .ref a_t_there, .ref a_t_wish, .ref a_t_have, .int t_far, .int t_momentParts, .long t_momentDay, .int t_momentSecond, .int t_momentNano, .int t_momentOffset, .int t_readParts, .long t_readDay, .int t_readSecond, .int t_readNano, .int t_readOffset, .ref a_t_known, .ref a_t_value, .ref a_t_before, .ref a_t_open, .ref a_t_from, .int t_alike])), (a_t_text, .inl (kk 1, 60, .inl t_text))] sz) (KQi D kk o [(a_t, .inr (10, [.int t_length, .ref a_t_text, .int t_used, .ref a_t_page, .ref a_t_names, .ref a_t_sort, .ref a_t_code, .ref a_t_count, .ref a_t_around, .ref a_t_end, .ref a_t_size, .ref a_t_there, .ref a_t_wish, .ref a_t_have, .int t_far, .int t_momentParts, .long t_momentDay, .int t_momentSecond, .int t_momentNano, .int t_momentOffset, .int t_readParts, .long t_readDay, .int t_readSecond, .int t_readNano, .int t_readOffset, .ref a_t_known, .ref a_t_value, .ref a_t_before, .ref a_t_open, .ref a_t_from, .int t_alike])), (a_t_text, .inl (kk 1, 60, .inl t_text))] (va_A [(a_t, .inr (10, [.int t_length, .ref a_t_text, .int t_used, .ref a_t_page, .ref a_t_names, .ref a_t_sort, .ref a_t_code, .ref a_t_count, .ref a_t_around, .ref a_t_end, .ref a_t_size, .ref a_t_there, .ref a_t_wish, .ref a_t_have, .int t_far, .int t_momentParts, .long t_momentDay, .int t_momentSecond, .int t_momentNano, .int t_momentOffset, .int t_readParts, .long t_readDay, .int t_readSecond, .int t_readNano, .int t_readOffset, .ref a_t_known, .ref a_t_value, .ref a_t_before, .ref a_t_open, .ref a_t_from, .int t_alike])), (a_t_text, .inl (kk 1, 60, .inl t_text))] sz)) 0 0 (va_A [(a_t, .inr (10, [.int t_length, .ref a_t_text, .int t_used, .ref a_t_page, .ref a_t_names, .ref a_t_sort, .ref a_t_code, .ref a_t_count, .ref a_t_around, .ref a_t_end, .ref a_t_size, .ref a_t_there, .ref a_t_wish, .ref a_t_have, .int t_far, .int t_momentParts, .long t_momentDay, .int t_momentSecond, .int t_momentNano, .int t_momentOffset, .int t_readParts, .long t_readDay, .int t_readSecond, .int t_readNano, .int t_readOffset, .ref a_t_known, .ref a_t_value, .ref a_t_before, .ref a_t_open, .ref a_t_from, .int t_alike])), (a_t_text, .inl (kk 1, 60, .inl t_text))] sz) := by
  refine k_start (Qc := fun A => KQi D kk o [(a_t, .inr (10, [.int t_length, .ref a_t_text, .int t_used, .ref a_t_page, .ref a_t_names, .ref a_t_sort, .ref a_t_code, .ref a_t_count, .ref a_t_around, .ref a_t_end, .ref a_t_size, .ref a_t_there, .ref a_t_wish, .ref a_t_have, .int t_far, .int t_momentParts, .long t_momentDay, .int t_momentSecond, .int t_momentNano, .int t_momentOffset, .int t_readParts, .long t_readDay, .int t_readSecond, .int t_readNano, .int t_readOffset, .ref a_t_known, .ref a_t_value, .ref a_t_before, .ref a_t_open, .ref a_t_from, .int t_alike])), (a_t_text, .inl (kk 1, 60, .inl t_text))] A) (by decide) (Nat.le_of_ble_eq_true rfl) ?_
  intro p e s m below meth c A ls S hnm hr hlk hA X hP hD hS hl
  have hl : lv_has ls 3 [(0, .ref a_t), (1, .int x1)] := hl
  have hx := S.1
  have hb := S.2.1
  unfold f_SkeletonClockModel_run at he
  refine lv_iconst (v := (1 : Int32)) hx hb d_SkeletonClockModel_run_0 (by decide) ?_
  refine lv_istore_n hx hb d_SkeletonClockModel_run_1 rfl hl (by decide) rfl (fun ls hl => ?_)
  have hl : lv_has ls 3 [(2, .int (1 : Int32)), (0, .ref a_t), (1, .int x1)] := hl
  obtain ⟨u5, e6, he⟩ := ih_b he
  have hl : lv_has ls 3 [(0, .ref a_t), (1, .int x1), (2, .int (1 : Int32))] := lv_sub hl [1, 2, 0] rfl
  refine w_SkeletonClockModel_run_2 a_t a_t_text a_t_page a_t_names a_t_sort a_t_code a_t_count a_t_around a_t_end a_t_size a_t_there a_t_wish a_t_have a_t_known a_t_value a_t_before a_t_open a_t_from t_length t_used t_far t_momentParts t_momentDay t_momentSecond t_momentNano t_momentOffset t_readParts t_readDay t_readSecond t_readNano t_readOffset t_alike t_text x1 S hr hlk hA X FU (1 : Int32) u5 _ _ ls e6 hl hP hD hS (fun H locs ls hl hP hD hS => ?_)
  refine lv_iload_n hx hb d_SkeletonClockModel_run_23 rfl (lv_at hl 2 rfl) ?_
  cases he
  exact k_ire hx hb hr hlk X hP hD hS d_SkeletonClockModel_run_24
