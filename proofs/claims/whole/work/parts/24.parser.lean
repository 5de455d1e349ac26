abbrev b_Names_all : ByteArray := prog_5_method_2_code
def y_Names_all : MethodName := ⟨"SkeletonClock$Names", "all", "(I)Ljava/lang/String;"⟩
theorem kd_Names_all : kd_ok y_Names_all 1 := by decide +kernel
abbrev b_Names_room : ByteArray := prog_5_method_3_code
def y_Names_room : MethodName := ⟨"SkeletonClock$Names", "room", "(I)I"⟩
theorem kd_Names_room : kd_ok y_Names_room 1 := by decide +kernel
abbrev b_Names_first : ByteArray := prog_5_method_4_code
def y_Names_first : MethodName := ⟨"SkeletonClock$Names", "first", "(I)I"⟩
theorem kd_Names_first : kd_ok y_Names_first 1 := by decide +kernel
abbrev b_Names_last : ByteArray := prog_5_method_5_code
def y_Names_last : MethodName := ⟨"SkeletonClock$Names", "last", "(I)I"⟩
theorem kd_Names_last : kd_ok y_Names_last 1 := by decide +kernel
abbrev b_Names_letter : ByteArray := prog_5_method_6_code
def y_Names_letter : MethodName := ⟨"SkeletonClock$Names", "letter", "(IIII)I"⟩
theorem kd_Names_letter : kd_ok y_Names_letter 4 := by decide +kernel
abbrev b_PatternParser_added : ByteArray := prog_8_method_9_code
def y_PatternParser_added : MethodName := ⟨"SkeletonClock$PatternParser", "added", "(III)I"⟩
theorem kd_PatternParser_added : kd_ok y_PatternParser_added 3 := by decide +kernel
abbrev b_PatternParser_quoteEnds : ByteArray := prog_8_method_5_code
def y_PatternParser_quoteEnds : MethodName := ⟨"SkeletonClock$PatternParser", "quoteEnds", "(LSkeletonClock$Row;I)Z"⟩
theorem kd_PatternParser_quoteEnds : kd_ok y_PatternParser_quoteEnds 2 := by decide +kernel
abbrev b_PatternParser_stepMark : ByteArray := prog_8_method_4_code
def y_PatternParser_stepMark : MethodName := ⟨"SkeletonClock$PatternParser", "stepMark", "(LSkeletonClock$Row;I)I"⟩
theorem kd_PatternParser_stepMark : kd_ok y_PatternParser_stepMark 2 := by decide +kernel
abbrev b_PatternParser_stepRun : ByteArray := prog_8_method_6_code
def y_PatternParser_stepRun : MethodName := ⟨"SkeletonClock$PatternParser", "stepRun", "(LSkeletonClock$Row;I)I"⟩
theorem kd_PatternParser_stepRun : kd_ok y_PatternParser_stepRun 2 := by decide +kernel
abbrev b_PatternParser_stepOpen : ByteArray := prog_8_method_7_code
def y_PatternParser_stepOpen : MethodName := ⟨"SkeletonClock$PatternParser", "stepOpen", "()I"⟩
theorem kd_PatternParser_stepOpen : kd_ok y_PatternParser_stepOpen 0 := by decide +kernel
abbrev b_PatternParser_stepClose : ByteArray := prog_8_method_8_code
def y_PatternParser_stepClose : MethodName := ⟨"SkeletonClock$PatternParser", "stepClose", "()I"⟩
theorem kd_PatternParser_stepClose : kd_ok y_PatternParser_stepClose 0 := by decide +kernel
abbrev b_PatternParser_step : ByteArray := prog_8_method_3_code
def y_PatternParser_step : MethodName := ⟨"SkeletonClock$PatternParser", "step", "(LSkeletonClock$Row;I)I"⟩
theorem kd_PatternParser_step : kd_ok y_PatternParser_step 2 := by decide +kernel
abbrev b_PatternParser_parse : ByteArray := prog_8_method_2_code
def y_PatternParser_parse : MethodName := ⟨"SkeletonClock$PatternParser", "parse", "(LSkeletonClock$Row;)I"⟩
theorem kd_PatternParser_parse : kd_ok y_PatternParser_parse 1 := by decide +kernel
theorem gm_3_91 : Cond.code ({ cls := "SkeletonClock$Names", name := "room", desc := "(I)I" } : MethodName) prog_5_method_3_code (1 : Nat) (Option.some FieldType.int) ∈ GW := gw_3 (i := 91) rfl rfl
theorem gm_3_89 : Cond.methodLink "SkeletonClock$Names" (17 : Nat) ({ cls := "SkeletonClock$Names", name := "room", desc := "(I)I" } : MethodName) ∈ GW := gw_3 (i := 89) rfl rfl
theorem gm_1_19 : Cond.initialized "SkeletonClock$Names" ∈ GW := gw_1 (i := 19) rfl rfl
theorem gm_3_90 : Cond.static ({ cls := "SkeletonClock$Names", name := "room", desc := "(I)I" } : MethodName) ∈ GW := gw_3 (i := 90) rfl rfl
theorem gm_3_94 : Cond.code ({ cls := "SkeletonClock$Names", name := "first", desc := "(I)I" } : MethodName) prog_5_method_4_code (1 : Nat) (Option.some FieldType.int) ∈ GW := gw_3 (i := 94) rfl rfl
theorem gm_3_92 : Cond.methodLink "SkeletonClock$Names" (21 : Nat) ({ cls := "SkeletonClock$Names", name := "first", desc := "(I)I" } : MethodName) ∈ GW := gw_3 (i := 92) rfl rfl
theorem gm_3_93 : Cond.static ({ cls := "SkeletonClock$Names", name := "first", desc := "(I)I" } : MethodName) ∈ GW := gw_3 (i := 93) rfl rfl
theorem gm_3_97 : Cond.code ({ cls := "SkeletonClock$Names", name := "all", desc := "(I)Ljava/lang/String;" } : MethodName) prog_5_method_2_code (1 : Nat) (Option.some (FieldType.object "java/lang/String")) ∈ GW := gw_3 (i := 97) rfl rfl
theorem gm_3_95 : Cond.methodLink "SkeletonClock$Names" (24 : Nat) ({ cls := "SkeletonClock$Names", name := "all", desc := "(I)Ljava/lang/String;" } : MethodName) ∈ GW := gw_3 (i := 95) rfl rfl
theorem gm_3_96 : Cond.static ({ cls := "SkeletonClock$Names", name := "all", desc := "(I)Ljava/lang/String;" } : MethodName) ∈ GW := gw_3 (i := 96) rfl rfl
theorem gm_3_101 : Cond.methodLink "SkeletonClock$Names" (28 : Nat) ({ cls := "java/lang/String", name := "length", desc := "()I" } : MethodName) ∈ GW := gw_3 (i := 101) rfl rfl
theorem gm_3_105 : Cond.code ({ cls := "java/lang/String", name := "charAt", desc := "(I)C" } : MethodName) prog_17_method_56_code (2 : Nat) (Option.some FieldType.char) ∈ GW := gw_3 (i := 105) rfl rfl
theorem gm_3_102 : Cond.methodLink "SkeletonClock$Names" (34 : Nat) ({ cls := "java/lang/String", name := "charAt", desc := "(I)C" } : MethodName) ∈ GW := gw_3 (i := 102) rfl rfl
theorem gm_3_103 : Cond.instanceMethod ({ cls := "java/lang/String", name := "charAt", desc := "(I)C" } : MethodName) ∈ GW := gw_3 (i := 103) rfl rfl
theorem gm_3_104 : Cond.selects "java/lang/String" ({ cls := "java/lang/String", name := "charAt", desc := "(I)C" } : MethodName) ({ cls := "java/lang/String", name := "charAt", desc := "(I)C" } : MethodName) ∈ GW := gw_3 (i := 104) rfl rfl
theorem gm_1_74 : Cond.fieldLink "SkeletonClock$PatternParser" (12 : Nat) "SkeletonClock$PatternParser" "pattern" "LSkeletonClock$Pattern;" ∈ GW := gw_1 (i := 74) rfl rfl
theorem gm_2_85 : Cond.methodLink "SkeletonClock$PatternParser" (79 : Nat) ({ cls := "SkeletonClock$Pattern", name := "add", desc := "(II)Z" } : MethodName) ∈ GW := gw_2 (i := 85) rfl rfl
theorem gm_1_36 : Cond.fieldLink "SkeletonClock$PatternParser" (33 : Nat) "SkeletonClock$Row" "size" "I" ∈ GW := gw_1 (i := 36) rfl rfl
theorem gm_2_73 : Cond.methodLink "SkeletonClock$PatternParser" (40 : Nat) ({ cls := "SkeletonClock$Row", name := "codeAt", desc := "(I)I" } : MethodName) ∈ GW := gw_2 (i := 73) rfl rfl
theorem gm_1_78 : Cond.fieldLink "SkeletonClock$PatternParser" (26 : Nat) "SkeletonClock$PatternParser" "quoted" "Z" ∈ GW := gw_1 (i := 78) rfl rfl
theorem gm_2_91 : Cond.code ({ cls := "SkeletonClock$PatternParser", name := "quoteEnds", desc := "(LSkeletonClock$Row;I)Z" } : MethodName) prog_8_method_5_code (3 : Nat) (Option.some FieldType.boolean) ∈ GW := gw_2 (i := 91) rfl rfl
theorem gm_2_89 : Cond.methodLink "SkeletonClock$PatternParser" (61 : Nat) ({ cls := "SkeletonClock$PatternParser", name := "quoteEnds", desc := "(LSkeletonClock$Row;I)Z" } : MethodName) ∈ GW := gw_2 (i := 89) rfl rfl
theorem gm_1_3 : Cond.initialized "SkeletonClock$PatternParser" ∈ GW := gw_1 (i := 3) rfl rfl
theorem gm_2_90 : Cond.static ({ cls := "SkeletonClock$PatternParser", name := "quoteEnds", desc := "(LSkeletonClock$Row;I)Z" } : MethodName) ∈ GW := gw_2 (i := 90) rfl rfl
theorem gm_2_84 : Cond.code ({ cls := "SkeletonClock$PatternParser", name := "added", desc := "(III)I" } : MethodName) prog_8_method_9_code (4 : Nat) (Option.some FieldType.int) ∈ GW := gw_2 (i := 84) rfl rfl
theorem gm_2_81 : Cond.methodLink "SkeletonClock$PatternParser" (47 : Nat) ({ cls := "SkeletonClock$PatternParser", name := "added", desc := "(III)I" } : MethodName) ∈ GW := gw_2 (i := 81) rfl rfl
theorem gm_2_83 : Cond.instanceMethod ({ cls := "SkeletonClock$PatternParser", name := "added", desc := "(III)I" } : MethodName) ∈ GW := gw_2 (i := 83) rfl rfl
theorem gm_p1_4 : Cond.selects "SkeletonClock$PatternParser" ⟨"SkeletonClock$PatternParser", "added", "(III)I"⟩ ⟨"SkeletonClock$PatternParser", "added", "(III)I"⟩ ∈ GW := gs_1 (i := 4) rfl
theorem gm_2_100 : Cond.code ({ cls := "java/lang/String", name := "indexOf", desc := "(I)I" } : MethodName) prog_17_method_79_code (2 : Nat) (Option.some FieldType.int) ∈ GW := gw_2 (i := 100) rfl rfl
theorem gm_2_97 : Cond.methodLink "SkeletonClock$PatternParser" (67 : Nat) ({ cls := "java/lang/String", name := "indexOf", desc := "(I)I" } : MethodName) ∈ GW := gw_2 (i := 97) rfl rfl
theorem gm_2_98 : Cond.instanceMethod ({ cls := "java/lang/String", name := "indexOf", desc := "(I)I" } : MethodName) ∈ GW := gw_2 (i := 98) rfl rfl
theorem gm_2_99 : Cond.selects "java/lang/String" ({ cls := "java/lang/String", name := "indexOf", desc := "(I)I" } : MethodName) ({ cls := "java/lang/String", name := "indexOf", desc := "(I)I" } : MethodName) ∈ GW := gw_2 (i := 99) rfl rfl
theorem gm_2_186 : Cond.code ({ cls := "SkeletonClock$Row", name := "runLength", desc := "(I)I" } : MethodName) prog_11_method_7_code (3 : Nat) (Option.some FieldType.int) ∈ GW := gw_2 (i := 186) rfl rfl
theorem gm_2_183 : Cond.methodLink "SkeletonClock$PatternParser" (72 : Nat) ({ cls := "SkeletonClock$Row", name := "runLength", desc := "(I)I" } : MethodName) ∈ GW := gw_2 (i := 183) rfl rfl
theorem gm_2_184 : Cond.instanceMethod ({ cls := "SkeletonClock$Row", name := "runLength", desc := "(I)I" } : MethodName) ∈ GW := gw_2 (i := 184) rfl rfl
theorem gm_2_185 : Cond.selects "SkeletonClock$Row" ({ cls := "SkeletonClock$Row", name := "runLength", desc := "(I)I" } : MethodName) ({ cls := "SkeletonClock$Row", name := "runLength", desc := "(I)I" } : MethodName) ∈ GW := gw_2 (i := 185) rfl rfl
theorem gm_2_190 : Cond.code ({ cls := "SkeletonClock$Pattern", name := "isAllowed", desc := "(II)Z" } : MethodName) prog_7_method_2_code (2 : Nat) (Option.some FieldType.boolean) ∈ GW := gw_2 (i := 190) rfl rfl
theorem gm_2_188 : Cond.methodLink "SkeletonClock$PatternParser" (75 : Nat) ({ cls := "SkeletonClock$Pattern", name := "isAllowed", desc := "(II)Z" } : MethodName) ∈ GW := gw_2 (i := 188) rfl rfl
theorem gm_2_189 : Cond.static ({ cls := "SkeletonClock$Pattern", name := "isAllowed", desc := "(II)Z" } : MethodName) ∈ GW := gw_2 (i := 189) rfl rfl
theorem gm_1_63 : Cond.fieldLink "SkeletonClock$PatternParser" (30 : Nat) "SkeletonClock$Pattern" "size" "I" ∈ GW := gw_1 (i := 63) rfl rfl
theorem gm_1_77 : Cond.fieldLink "SkeletonClock$PatternParser" (22 : Nat) "SkeletonClock$PatternParser" "depth" "I" ∈ GW := gw_1 (i := 77) rfl rfl
theorem gm_1_76 : Cond.fieldLink "SkeletonClock$PatternParser" (18 : Nat) "SkeletonClock$PatternParser" "open" "[I" ∈ GW := gw_1 (i := 76) rfl rfl
theorem gm_2_204 : Cond.code ({ cls := "SkeletonClock$Pattern", name := "endSection", desc := "(I)V" } : MethodName) prog_7_method_5_code (2 : Nat) (Option.none : Option FieldType) ∈ GW := gw_2 (i := 204) rfl rfl
theorem gm_2_201 : Cond.methodLink "SkeletonClock$PatternParser" (82 : Nat) ({ cls := "SkeletonClock$Pattern", name := "endSection", desc := "(I)V" } : MethodName) ∈ GW := gw_2 (i := 201) rfl rfl
theorem gm_2_202 : Cond.instanceMethod ({ cls := "SkeletonClock$Pattern", name := "endSection", desc := "(I)V" } : MethodName) ∈ GW := gw_2 (i := 202) rfl rfl
theorem gm_2_203 : Cond.selects "SkeletonClock$Pattern" ({ cls := "SkeletonClock$Pattern", name := "endSection", desc := "(I)V" } : MethodName) ({ cls := "SkeletonClock$Pattern", name := "endSection", desc := "(I)V" } : MethodName) ∈ GW := gw_2 (i := 203) rfl rfl
theorem gm_2_200 : Cond.code ({ cls := "SkeletonClock$PatternParser", name := "stepClose", desc := "()I" } : MethodName) prog_8_method_8_code (1 : Nat) (Option.some FieldType.int) ∈ GW := gw_2 (i := 200) rfl rfl
theorem gm_2_197 : Cond.methodLink "SkeletonClock$PatternParser" (58 : Nat) ({ cls := "SkeletonClock$PatternParser", name := "stepClose", desc := "()I" } : MethodName) ∈ GW := gw_2 (i := 197) rfl rfl
theorem gm_2_199 : Cond.instanceMethod ({ cls := "SkeletonClock$PatternParser", name := "stepClose", desc := "()I" } : MethodName) ∈ GW := gw_2 (i := 199) rfl rfl
theorem gm_p1_7 : Cond.selects "SkeletonClock$PatternParser" ⟨"SkeletonClock$PatternParser", "stepClose", "()I"⟩ ⟨"SkeletonClock$PatternParser", "stepClose", "()I"⟩ ∈ GW := gs_1 (i := 7) rfl
theorem gm_2_196 : Cond.code ({ cls := "SkeletonClock$PatternParser", name := "stepOpen", desc := "()I" } : MethodName) prog_8_method_7_code (2 : Nat) (Option.some FieldType.int) ∈ GW := gw_2 (i := 196) rfl rfl
theorem gm_2_193 : Cond.methodLink "SkeletonClock$PatternParser" (54 : Nat) ({ cls := "SkeletonClock$PatternParser", name := "stepOpen", desc := "()I" } : MethodName) ∈ GW := gw_2 (i := 193) rfl rfl
theorem gm_2_195 : Cond.instanceMethod ({ cls := "SkeletonClock$PatternParser", name := "stepOpen", desc := "()I" } : MethodName) ∈ GW := gw_2 (i := 195) rfl rfl
theorem gm_p1_6 : Cond.selects "SkeletonClock$PatternParser" ⟨"SkeletonClock$PatternParser", "stepOpen", "()I"⟩ ⟨"SkeletonClock$PatternParser", "stepOpen", "()I"⟩ ∈ GW := gs_1 (i := 6) rfl
theorem gm_2_95 : Cond.code ({ cls := "SkeletonClock$PatternParser", name := "stepRun", desc := "(LSkeletonClock$Row;I)I" } : MethodName) prog_8_method_6_code (5 : Nat) (Option.some FieldType.int) ∈ GW := gw_2 (i := 95) rfl rfl
theorem gm_2_92 : Cond.methodLink "SkeletonClock$PatternParser" (51 : Nat) ({ cls := "SkeletonClock$PatternParser", name := "stepRun", desc := "(LSkeletonClock$Row;I)I" } : MethodName) ∈ GW := gw_2 (i := 92) rfl rfl
theorem gm_2_94 : Cond.instanceMethod ({ cls := "SkeletonClock$PatternParser", name := "stepRun", desc := "(LSkeletonClock$Row;I)I" } : MethodName) ∈ GW := gw_2 (i := 94) rfl rfl
theorem gm_p1_5 : Cond.selects "SkeletonClock$PatternParser" ⟨"SkeletonClock$PatternParser", "stepRun", "(LSkeletonClock$Row;I)I"⟩ ⟨"SkeletonClock$PatternParser", "stepRun", "(LSkeletonClock$Row;I)I"⟩ ∈ GW := gs_1 (i := 5) rfl
theorem gm_2_80 : Cond.code ({ cls := "SkeletonClock$PatternParser", name := "stepMark", desc := "(LSkeletonClock$Row;I)I" } : MethodName) prog_8_method_4_code (3 : Nat) (Option.some FieldType.int) ∈ GW := gw_2 (i := 80) rfl rfl
theorem gm_2_77 : Cond.methodLink "SkeletonClock$PatternParser" (44 : Nat) ({ cls := "SkeletonClock$PatternParser", name := "stepMark", desc := "(LSkeletonClock$Row;I)I" } : MethodName) ∈ GW := gw_2 (i := 77) rfl rfl
theorem gm_2_79 : Cond.instanceMethod ({ cls := "SkeletonClock$PatternParser", name := "stepMark", desc := "(LSkeletonClock$Row;I)I" } : MethodName) ∈ GW := gw_2 (i := 79) rfl rfl
theorem gm_p1_3 : Cond.selects "SkeletonClock$PatternParser" ⟨"SkeletonClock$PatternParser", "stepMark", "(LSkeletonClock$Row;I)I"⟩ ⟨"SkeletonClock$PatternParser", "stepMark", "(LSkeletonClock$Row;I)I"⟩ ∈ GW := gs_1 (i := 3) rfl
theorem gm_2_72 : Cond.code ({ cls := "SkeletonClock$PatternParser", name := "step", desc := "(LSkeletonClock$Row;I)I" } : MethodName) prog_8_method_3_code (4 : Nat) (Option.some FieldType.int) ∈ GW := gw_2 (i := 72) rfl rfl
theorem gm_2_69 : Cond.methodLink "SkeletonClock$PatternParser" (36 : Nat) ({ cls := "SkeletonClock$PatternParser", name := "step", desc := "(LSkeletonClock$Row;I)I" } : MethodName) ∈ GW := gw_2 (i := 69) rfl rfl
theorem gm_2_71 : Cond.instanceMethod ({ cls := "SkeletonClock$PatternParser", name := "step", desc := "(LSkeletonClock$Row;I)I" } : MethodName) ∈ GW := gw_2 (i := 71) rfl rfl
theorem gm_p1_2 : Cond.selects "SkeletonClock$PatternParser" ⟨"SkeletonClock$PatternParser", "step", "(LSkeletonClock$Row;I)I"⟩ ⟨"SkeletonClock$PatternParser", "step", "(LSkeletonClock$Row;I)I"⟩ ∈ GW := gs_1 (i := 2) rfl
theorem d_Names_all_0 : decode b_Names_all 0 = .ok (.iload_n 0, 1) := by decide +kernel
theorem d_Names_all_1 : decode b_Names_all 1 = .ok (.iconst 2, 1) := by decide +kernel
theorem d_Names_all_2 : decode b_Names_all 2 = .ok (.if_icmp .ne 6, 3) := by decide +kernel
theorem d_Names_all_5 : decode b_Names_all 5 = .ok (.ldc 11, 2) := by decide +kernel
theorem d_Names_all_7 : decode b_Names_all 7 = .ok (.areturn, 1) := by decide +kernel
theorem d_Names_all_8 : decode b_Names_all 8 = .ok (.iload_n 0, 1) := by decide +kernel
theorem d_Names_all_9 : decode b_Names_all 9 = .ok (.iconst 5, 1) := by decide +kernel
theorem d_Names_all_10 : decode b_Names_all 10 = .ok (.if_icmp .ne 8, 3) := by decide +kernel
theorem d_Names_all_13 : decode b_Names_all 13 = .ok (.ldc 13, 2) := by decide +kernel
theorem d_Names_all_15 : decode b_Names_all 15 = .ok (.goto 5, 3) := by decide +kernel
theorem d_Names_all_18 : decode b_Names_all 18 = .ok (.ldc 15, 2) := by decide +kernel
theorem d_Names_all_20 : decode b_Names_all 20 = .ok (.areturn, 1) := by decide +kernel
theorem d_Names_room_0 : decode b_Names_room 0 = .ok (.iload_n 0, 1) := by decide +kernel
theorem d_Names_room_1 : decode b_Names_room 1 = .ok (.bipush 9, 2) := by decide +kernel
theorem d_Names_room_3 : decode b_Names_room 3 = .ok (.if_icmp .ne 7, 3) := by decide +kernel
theorem d_Names_room_6 : decode b_Names_room 6 = .ok (.iconst 2, 1) := by decide +kernel
theorem d_Names_room_7 : decode b_Names_room 7 = .ok (.goto 5, 3) := by decide +kernel
theorem d_Names_room_10 : decode b_Names_room 10 = .ok (.bipush 9, 2) := by decide +kernel
theorem d_Names_room_12 : decode b_Names_room 12 = .ok (.ireturn, 1) := by decide +kernel
theorem d_Names_first_0 : decode b_Names_first 0 = .ok (.iload_n 0, 1) := by decide +kernel
theorem d_Names_first_1 : decode b_Names_first 1 = .ok (.bipush 9, 2) := by decide +kernel
theorem d_Names_first_3 : decode b_Names_first 3 = .ok (.if_icmp .ne 7, 3) := by decide +kernel
theorem d_Names_first_6 : decode b_Names_first 6 = .ok (.iconst 0, 1) := by decide +kernel
theorem d_Names_first_7 : decode b_Names_first 7 = .ok (.goto 4, 3) := by decide +kernel
theorem d_Names_first_10 : decode b_Names_first 10 = .ok (.iconst 1, 1) := by decide +kernel
theorem d_Names_first_11 : decode b_Names_first 11 = .ok (.ireturn, 1) := by decide +kernel
theorem d_Names_last_0 : decode b_Names_last 0 = .ok (.iload_n 0, 1) := by decide +kernel
theorem d_Names_last_1 : decode b_Names_last 1 = .ok (.iconst 2, 1) := by decide +kernel
theorem d_Names_last_2 : decode b_Names_last 2 = .ok (.if_icmp .ne 8, 3) := by decide +kernel
theorem d_Names_last_5 : decode b_Names_last 5 = .ok (.bipush 12, 2) := by decide +kernel
theorem d_Names_last_7 : decode b_Names_last 7 = .ok (.goto 14, 3) := by decide +kernel
theorem d_Names_last_10 : decode b_Names_last 10 = .ok (.iload_n 0, 1) := by decide +kernel
theorem d_Names_last_11 : decode b_Names_last 11 = .ok (.iconst 5, 1) := by decide +kernel
theorem d_Names_last_12 : decode b_Names_last 12 = .ok (.if_icmp .ne 8, 3) := by decide +kernel
theorem d_Names_last_15 : decode b_Names_last 15 = .ok (.bipush 7, 2) := by decide +kernel
theorem d_Names_last_17 : decode b_Names_last 17 = .ok (.goto 4, 3) := by decide +kernel
theorem d_Names_last_20 : decode b_Names_last 20 = .ok (.iconst 1, 1) := by decide +kernel
theorem d_Names_last_21 : decode b_Names_last 21 = .ok (.ireturn, 1) := by decide +kernel
theorem d_Names_letter_0 : decode b_Names_letter 0 = .ok (.iload_n 1, 1) := by decide +kernel
theorem d_Names_letter_1 : decode b_Names_letter 1 = .ok (.iconst 3, 1) := by decide +kernel
theorem d_Names_letter_2 : decode b_Names_letter 2 = .ok (.if_icmp .ne 7, 3) := by decide +kernel
theorem d_Names_letter_5 : decode b_Names_letter 5 = .ok (.iconst 3, 1) := by decide +kernel
theorem d_Names_letter_6 : decode b_Names_letter 6 = .ok (.goto 7, 3) := by decide +kernel
theorem d_Names_letter_9 : decode b_Names_letter 9 = .ok (.iload_n 0, 1) := by decide +kernel
theorem d_Names_letter_10 : decode b_Names_letter 10 = .ok (.invokestatic 17, 3) := by decide +kernel
theorem d_Names_letter_13 : decode b_Names_letter 13 = .ok (.istore 4, 2) := by decide +kernel
theorem d_Names_letter_15 : decode b_Names_letter 15 = .ok (.iload_n 2, 1) := by decide +kernel
theorem d_Names_letter_16 : decode b_Names_letter 16 = .ok (.iload_n 0, 1) := by decide +kernel
theorem d_Names_letter_17 : decode b_Names_letter 17 = .ok (.invokestatic 21, 3) := by decide +kernel
theorem d_Names_letter_20 : decode b_Names_letter 20 = .ok (.isub, 1) := by decide +kernel
theorem d_Names_letter_21 : decode b_Names_letter 21 = .ok (.iload_n 0, 1) := by decide +kernel
theorem d_Names_letter_22 : decode b_Names_letter 22 = .ok (.invokestatic 17, 3) := by decide +kernel
theorem d_Names_letter_25 : decode b_Names_letter 25 = .ok (.imul, 1) := by decide +kernel
theorem d_Names_letter_26 : decode b_Names_letter 26 = .ok (.iload_n 3, 1) := by decide +kernel
theorem d_Names_letter_27 : decode b_Names_letter 27 = .ok (.iadd, 1) := by decide +kernel
theorem d_Names_letter_28 : decode b_Names_letter 28 = .ok (.istore 5, 2) := by decide +kernel
theorem d_Names_letter_30 : decode b_Names_letter 30 = .ok (.iload_n 3, 1) := by decide +kernel
theorem d_Names_letter_31 : decode b_Names_letter 31 = .ok (.ifCond .lt 26, 3) := by decide +kernel
theorem d_Names_letter_34 : decode b_Names_letter 34 = .ok (.iload_n 3, 1) := by decide +kernel
theorem d_Names_letter_35 : decode b_Names_letter 35 = .ok (.iload 4, 2) := by decide +kernel
theorem d_Names_letter_37 : decode b_Names_letter 37 = .ok (.if_icmp .ge 20, 3) := by decide +kernel
theorem d_Names_letter_40 : decode b_Names_letter 40 = .ok (.iload 5, 2) := by decide +kernel
theorem d_Names_letter_42 : decode b_Names_letter 42 = .ok (.ifCond .lt 15, 3) := by decide +kernel
theorem d_Names_letter_45 : decode b_Names_letter 45 = .ok (.iload 5, 2) := by decide +kernel
theorem d_Names_letter_47 : decode b_Names_letter 47 = .ok (.iload_n 0, 1) := by decide +kernel
theorem d_Names_letter_48 : decode b_Names_letter 48 = .ok (.invokestatic 24, 3) := by decide +kernel
theorem d_Names_letter_51 : decode b_Names_letter 51 = .ok (.invokevirtual 28, 3) := by decide +kernel
theorem d_Names_letter_54 : decode b_Names_letter 54 = .ok (.if_icmp .lt 5, 3) := by decide +kernel
theorem d_Names_letter_57 : decode b_Names_letter 57 = .ok (.iconst (-1), 1) := by decide +kernel
theorem d_Names_letter_58 : decode b_Names_letter 58 = .ok (.ireturn, 1) := by decide +kernel
theorem d_Names_letter_59 : decode b_Names_letter 59 = .ok (.iload_n 0, 1) := by decide +kernel
theorem d_Names_letter_60 : decode b_Names_letter 60 = .ok (.invokestatic 24, 3) := by decide +kernel
theorem d_Names_letter_63 : decode b_Names_letter 63 = .ok (.iload 5, 2) := by decide +kernel
theorem d_Names_letter_65 : decode b_Names_letter 65 = .ok (.invokevirtual 34, 3) := by decide +kernel
theorem d_Names_letter_68 : decode b_Names_letter 68 = .ok (.istore 6, 2) := by decide +kernel
theorem d_Names_letter_70 : decode b_Names_letter 70 = .ok (.iload 6, 2) := by decide +kernel
theorem d_Names_letter_72 : decode b_Names_letter 72 = .ok (.bipush 32, 2) := by decide +kernel
theorem d_Names_letter_74 : decode b_Names_letter 74 = .ok (.if_icmp .ne 7, 3) := by decide +kernel
theorem d_Names_letter_77 : decode b_Names_letter 77 = .ok (.iconst (-1), 1) := by decide +kernel
theorem d_Names_letter_78 : decode b_Names_letter 78 = .ok (.goto 5, 3) := by decide +kernel
theorem d_Names_letter_81 : decode b_Names_letter 81 = .ok (.iload 6, 2) := by decide +kernel
theorem d_Names_letter_83 : decode b_Names_letter 83 = .ok (.ireturn, 1) := by decide +kernel
theorem d_PatternParser_added_0 : decode b_PatternParser_added 0 = .ok (.aload_n 0, 1) := by decide +kernel
theorem d_PatternParser_added_1 : decode b_PatternParser_added 1 = .ok (.getfield 12, 3) := by decide +kernel
theorem d_PatternParser_added_4 : decode b_PatternParser_added 4 = .ok (.iload_n 1, 1) := by decide +kernel
theorem d_PatternParser_added_5 : decode b_PatternParser_added 5 = .ok (.iload_n 2, 1) := by decide +kernel
theorem d_PatternParser_added_6 : decode b_PatternParser_added 6 = .ok (.invokevirtual 79, 3) := by decide +kernel
theorem d_PatternParser_added_9 : decode b_PatternParser_added 9 = .ok (.ifCond .eq 7, 3) := by decide +kernel
theorem d_PatternParser_added_12 : decode b_PatternParser_added 12 = .ok (.iload_n 3, 1) := by decide +kernel
theorem d_PatternParser_added_13 : decode b_PatternParser_added 13 = .ok (.goto 4, 3) := by decide +kernel
theorem d_PatternParser_added_16 : decode b_PatternParser_added 16 = .ok (.iconst 0, 1) := by decide +kernel
theorem d_PatternParser_added_17 : decode b_PatternParser_added 17 = .ok (.ireturn, 1) := by decide +kernel
theorem d_PatternParser_quoteEnds_0 : decode b_PatternParser_quoteEnds 0 = .ok (.iload_n 1, 1) := by decide +kernel
theorem d_PatternParser_quoteEnds_1 : decode b_PatternParser_quoteEnds 1 = .ok (.iconst 1, 1) := by decide +kernel
theorem d_PatternParser_quoteEnds_2 : decode b_PatternParser_quoteEnds 2 = .ok (.iadd, 1) := by decide +kernel
theorem d_PatternParser_quoteEnds_3 : decode b_PatternParser_quoteEnds 3 = .ok (.istore_n 2, 1) := by decide +kernel
theorem d_PatternParser_quoteEnds_4 : decode b_PatternParser_quoteEnds 4 = .ok (.iload_n 2, 1) := by decide +kernel
theorem d_PatternParser_quoteEnds_5 : decode b_PatternParser_quoteEnds 5 = .ok (.aload_n 0, 1) := by decide +kernel
theorem d_PatternParser_quoteEnds_6 : decode b_PatternParser_quoteEnds 6 = .ok (.getfield 33, 3) := by decide +kernel
theorem d_PatternParser_quoteEnds_9 : decode b_PatternParser_quoteEnds 9 = .ok (.if_icmp .ge 39, 3) := by decide +kernel
theorem d_PatternParser_quoteEnds_12 : decode b_PatternParser_quoteEnds 12 = .ok (.aload_n 0, 1) := by decide +kernel
theorem d_PatternParser_quoteEnds_13 : decode b_PatternParser_quoteEnds 13 = .ok (.iload_n 2, 1) := by decide +kernel
theorem d_PatternParser_quoteEnds_14 : decode b_PatternParser_quoteEnds 14 = .ok (.invokevirtual 40, 3) := by decide +kernel
theorem d_PatternParser_quoteEnds_17 : decode b_PatternParser_quoteEnds 17 = .ok (.bipush 39, 2) := by decide +kernel
theorem d_PatternParser_quoteEnds_19 : decode b_PatternParser_quoteEnds 19 = .ok (.if_icmp .eq 9, 3) := by decide +kernel
theorem d_PatternParser_quoteEnds_22 : decode b_PatternParser_quoteEnds 22 = .ok (.iinc 2 1, 3) := by decide +kernel
theorem d_PatternParser_quoteEnds_25 : decode b_PatternParser_quoteEnds 25 = .ok (.goto (-21), 3) := by decide +kernel
theorem d_PatternParser_quoteEnds_28 : decode b_PatternParser_quoteEnds 28 = .ok (.aload_n 0, 1) := by decide +kernel
theorem d_PatternParser_quoteEnds_29 : decode b_PatternParser_quoteEnds 29 = .ok (.iload_n 2, 1) := by decide +kernel
theorem d_PatternParser_quoteEnds_30 : decode b_PatternParser_quoteEnds 30 = .ok (.iconst 1, 1) := by decide +kernel
theorem d_PatternParser_quoteEnds_31 : decode b_PatternParser_quoteEnds 31 = .ok (.iadd, 1) := by decide +kernel
theorem d_PatternParser_quoteEnds_32 : decode b_PatternParser_quoteEnds 32 = .ok (.invokevirtual 40, 3) := by decide +kernel
theorem d_PatternParser_quoteEnds_35 : decode b_PatternParser_quoteEnds 35 = .ok (.bipush 39, 2) := by decide +kernel
theorem d_PatternParser_quoteEnds_37 : decode b_PatternParser_quoteEnds 37 = .ok (.if_icmp .ne 9, 3) := by decide +kernel
theorem d_PatternParser_quoteEnds_40 : decode b_PatternParser_quoteEnds 40 = .ok (.iinc 2 2, 3) := by decide +kernel
theorem d_PatternParser_quoteEnds_43 : decode b_PatternParser_quoteEnds 43 = .ok (.goto (-39), 3) := by decide +kernel
theorem d_PatternParser_quoteEnds_46 : decode b_PatternParser_quoteEnds 46 = .ok (.iconst 1, 1) := by decide +kernel
theorem d_PatternParser_quoteEnds_47 : decode b_PatternParser_quoteEnds 47 = .ok (.ireturn, 1) := by decide +kernel
theorem d_PatternParser_quoteEnds_48 : decode b_PatternParser_quoteEnds 48 = .ok (.iconst 0, 1) := by decide +kernel
theorem d_PatternParser_quoteEnds_49 : decode b_PatternParser_quoteEnds 49 = .ok (.ireturn, 1) := by decide +kernel
theorem d_PatternParser_stepMark_0 : decode b_PatternParser_stepMark 0 = .ok (.aload_n 1, 1) := by decide +kernel
theorem d_PatternParser_stepMark_1 : decode b_PatternParser_stepMark 1 = .ok (.iload_n 2, 1) := by decide +kernel
theorem d_PatternParser_stepMark_2 : decode b_PatternParser_stepMark 2 = .ok (.iconst 1, 1) := by decide +kernel
theorem d_PatternParser_stepMark_3 : decode b_PatternParser_stepMark 3 = .ok (.iadd, 1) := by decide +kernel
theorem d_PatternParser_stepMark_4 : decode b_PatternParser_stepMark 4 = .ok (.invokevirtual 40, 3) := by decide +kernel
theorem d_PatternParser_stepMark_7 : decode b_PatternParser_stepMark 7 = .ok (.bipush 39, 2) := by decide +kernel
theorem d_PatternParser_stepMark_9 : decode b_PatternParser_stepMark 9 = .ok (.if_icmp .ne 13, 3) := by decide +kernel
theorem d_PatternParser_stepMark_12 : decode b_PatternParser_stepMark 12 = .ok (.aload_n 0, 1) := by decide +kernel
theorem d_PatternParser_stepMark_13 : decode b_PatternParser_stepMark 13 = .ok (.bipush 15, 2) := by decide +kernel
theorem d_PatternParser_stepMark_15 : decode b_PatternParser_stepMark 15 = .ok (.bipush 39, 2) := by decide +kernel
theorem d_PatternParser_stepMark_17 : decode b_PatternParser_stepMark 17 = .ok (.iconst 2, 1) := by decide +kernel
theorem d_PatternParser_stepMark_18 : decode b_PatternParser_stepMark 18 = .ok (.invokevirtual 47, 3) := by decide +kernel
theorem d_PatternParser_stepMark_21 : decode b_PatternParser_stepMark 21 = .ok (.ireturn, 1) := by decide +kernel
theorem d_PatternParser_stepMark_22 : decode b_PatternParser_stepMark 22 = .ok (.aload_n 0, 1) := by decide +kernel
theorem d_PatternParser_stepMark_23 : decode b_PatternParser_stepMark 23 = .ok (.getfield 26, 3) := by decide +kernel
theorem d_PatternParser_stepMark_26 : decode b_PatternParser_stepMark 26 = .ok (.ifCond .ne 13, 3) := by decide +kernel
theorem d_PatternParser_stepMark_29 : decode b_PatternParser_stepMark 29 = .ok (.aload_n 1, 1) := by decide +kernel
theorem d_PatternParser_stepMark_30 : decode b_PatternParser_stepMark 30 = .ok (.iload_n 2, 1) := by decide +kernel
theorem d_PatternParser_stepMark_31 : decode b_PatternParser_stepMark 31 = .ok (.invokestatic 61, 3) := by decide +kernel
theorem d_PatternParser_stepMark_34 : decode b_PatternParser_stepMark 34 = .ok (.ifCond .ne 5, 3) := by decide +kernel
theorem d_PatternParser_stepMark_37 : decode b_PatternParser_stepMark 37 = .ok (.iconst 0, 1) := by decide +kernel
theorem d_PatternParser_stepMark_38 : decode b_PatternParser_stepMark 38 = .ok (.ireturn, 1) := by decide +kernel
theorem d_PatternParser_stepMark_39 : decode b_PatternParser_stepMark 39 = .ok (.aload_n 0, 1) := by decide +kernel
theorem d_PatternParser_stepMark_40 : decode b_PatternParser_stepMark 40 = .ok (.aload_n 0, 1) := by decide +kernel
theorem d_PatternParser_stepMark_41 : decode b_PatternParser_stepMark 41 = .ok (.getfield 26, 3) := by decide +kernel
theorem d_PatternParser_stepMark_44 : decode b_PatternParser_stepMark 44 = .ok (.ifCond .ne 7, 3) := by decide +kernel
theorem d_PatternParser_stepMark_47 : decode b_PatternParser_stepMark 47 = .ok (.iconst 1, 1) := by decide +kernel
theorem d_PatternParser_stepMark_48 : decode b_PatternParser_stepMark 48 = .ok (.goto 4, 3) := by decide +kernel
theorem d_PatternParser_stepMark_51 : decode b_PatternParser_stepMark 51 = .ok (.iconst 0, 1) := by decide +kernel
theorem d_PatternParser_stepMark_52 : decode b_PatternParser_stepMark 52 = .ok (.putfield 26, 3) := by decide +kernel
theorem d_PatternParser_stepMark_55 : decode b_PatternParser_stepMark 55 = .ok (.iconst 1, 1) := by decide +kernel
theorem d_PatternParser_stepMark_56 : decode b_PatternParser_stepMark 56 = .ok (.ireturn, 1) := by decide +kernel
theorem d_PatternParser_stepRun_0 : decode b_PatternParser_stepRun 0 = .ok (.ldc 65, 2) := by decide +kernel
theorem d_PatternParser_stepRun_2 : decode b_PatternParser_stepRun 2 = .ok (.aload_n 1, 1) := by decide +kernel
theorem d_PatternParser_stepRun_3 : decode b_PatternParser_stepRun 3 = .ok (.iload_n 2, 1) := by decide +kernel
theorem d_PatternParser_stepRun_4 : decode b_PatternParser_stepRun 4 = .ok (.invokevirtual 40, 3) := by decide +kernel
theorem d_PatternParser_stepRun_7 : decode b_PatternParser_stepRun 7 = .ok (.i2c, 1) := by decide +kernel
theorem d_PatternParser_stepRun_8 : decode b_PatternParser_stepRun 8 = .ok (.invokevirtual 67, 3) := by decide +kernel
theorem d_PatternParser_stepRun_11 : decode b_PatternParser_stepRun 11 = .ok (.istore_n 3, 1) := by decide +kernel
theorem d_PatternParser_stepRun_12 : decode b_PatternParser_stepRun 12 = .ok (.aload_n 1, 1) := by decide +kernel
theorem d_PatternParser_stepRun_13 : decode b_PatternParser_stepRun 13 = .ok (.iload_n 2, 1) := by decide +kernel
theorem d_PatternParser_stepRun_14 : decode b_PatternParser_stepRun 14 = .ok (.invokevirtual 72, 3) := by decide +kernel
theorem d_PatternParser_stepRun_17 : decode b_PatternParser_stepRun 17 = .ok (.istore 4, 2) := by decide +kernel
theorem d_PatternParser_stepRun_19 : decode b_PatternParser_stepRun 19 = .ok (.iload_n 3, 1) := by decide +kernel
theorem d_PatternParser_stepRun_20 : decode b_PatternParser_stepRun 20 = .ok (.iload 4, 2) := by decide +kernel
theorem d_PatternParser_stepRun_22 : decode b_PatternParser_stepRun 22 = .ok (.invokestatic 75, 3) := by decide +kernel
theorem d_PatternParser_stepRun_25 : decode b_PatternParser_stepRun 25 = .ok (.ifCond .eq 15, 3) := by decide +kernel
theorem d_PatternParser_stepRun_28 : decode b_PatternParser_stepRun 28 = .ok (.aload_n 0, 1) := by decide +kernel
theorem d_PatternParser_stepRun_29 : decode b_PatternParser_stepRun 29 = .ok (.iload_n 3, 1) := by decide +kernel
theorem d_PatternParser_stepRun_30 : decode b_PatternParser_stepRun 30 = .ok (.iload 4, 2) := by decide +kernel
theorem d_PatternParser_stepRun_32 : decode b_PatternParser_stepRun 32 = .ok (.iload 4, 2) := by decide +kernel
theorem d_PatternParser_stepRun_34 : decode b_PatternParser_stepRun 34 = .ok (.invokevirtual 47, 3) := by decide +kernel
theorem d_PatternParser_stepRun_37 : decode b_PatternParser_stepRun 37 = .ok (.goto 4, 3) := by decide +kernel
theorem d_PatternParser_stepRun_40 : decode b_PatternParser_stepRun 40 = .ok (.iconst 0, 1) := by decide +kernel
theorem d_PatternParser_stepRun_41 : decode b_PatternParser_stepRun 41 = .ok (.ireturn, 1) := by decide +kernel
theorem d_PatternParser_stepOpen_0 : decode b_PatternParser_stepOpen 0 = .ok (.aload_n 0, 1) := by decide +kernel
theorem d_PatternParser_stepOpen_1 : decode b_PatternParser_stepOpen 1 = .ok (.getfield 12, 3) := by decide +kernel
theorem d_PatternParser_stepOpen_4 : decode b_PatternParser_stepOpen 4 = .ok (.getfield 30, 3) := by decide +kernel
theorem d_PatternParser_stepOpen_7 : decode b_PatternParser_stepOpen 7 = .ok (.istore_n 1, 1) := by decide +kernel
theorem d_PatternParser_stepOpen_8 : decode b_PatternParser_stepOpen 8 = .ok (.aload_n 0, 1) := by decide +kernel
theorem d_PatternParser_stepOpen_9 : decode b_PatternParser_stepOpen 9 = .ok (.getfield 22, 3) := by decide +kernel
theorem d_PatternParser_stepOpen_12 : decode b_PatternParser_stepOpen 12 = .ok (.aload_n 0, 1) := by decide +kernel
theorem d_PatternParser_stepOpen_13 : decode b_PatternParser_stepOpen 13 = .ok (.getfield 18, 3) := by decide +kernel
theorem d_PatternParser_stepOpen_16 : decode b_PatternParser_stepOpen 16 = .ok (.arraylength, 1) := by decide +kernel
theorem d_PatternParser_stepOpen_17 : decode b_PatternParser_stepOpen 17 = .ok (.if_icmp .ge 16, 3) := by decide +kernel
theorem d_PatternParser_stepOpen_20 : decode b_PatternParser_stepOpen 20 = .ok (.aload_n 0, 1) := by decide +kernel
theorem d_PatternParser_stepOpen_21 : decode b_PatternParser_stepOpen 21 = .ok (.getfield 12, 3) := by decide +kernel
theorem d_PatternParser_stepOpen_24 : decode b_PatternParser_stepOpen 24 = .ok (.bipush 16, 2) := by decide +kernel
theorem d_PatternParser_stepOpen_26 : decode b_PatternParser_stepOpen 26 = .ok (.iconst 0, 1) := by decide +kernel
theorem d_PatternParser_stepOpen_27 : decode b_PatternParser_stepOpen 27 = .ok (.invokevirtual 79, 3) := by decide +kernel
theorem d_PatternParser_stepOpen_30 : decode b_PatternParser_stepOpen 30 = .ok (.ifCond .ne 5, 3) := by decide +kernel
theorem d_PatternParser_stepOpen_33 : decode b_PatternParser_stepOpen 33 = .ok (.iconst 0, 1) := by decide +kernel
theorem d_PatternParser_stepOpen_34 : decode b_PatternParser_stepOpen 34 = .ok (.ireturn, 1) := by decide +kernel
theorem d_PatternParser_stepOpen_35 : decode b_PatternParser_stepOpen 35 = .ok (.aload_n 0, 1) := by decide +kernel
theorem d_PatternParser_stepOpen_36 : decode b_PatternParser_stepOpen 36 = .ok (.getfield 18, 3) := by decide +kernel
theorem d_PatternParser_stepOpen_39 : decode b_PatternParser_stepOpen 39 = .ok (.aload_n 0, 1) := by decide +kernel
theorem d_PatternParser_stepOpen_40 : decode b_PatternParser_stepOpen 40 = .ok (.getfield 22, 3) := by decide +kernel
theorem d_PatternParser_stepOpen_43 : decode b_PatternParser_stepOpen 43 = .ok (.iload_n 1, 1) := by decide +kernel
theorem d_PatternParser_stepOpen_44 : decode b_PatternParser_stepOpen 44 = .ok (.iastore, 1) := by decide +kernel
theorem d_PatternParser_stepOpen_45 : decode b_PatternParser_stepOpen 45 = .ok (.aload_n 0, 1) := by decide +kernel
theorem d_PatternParser_stepOpen_46 : decode b_PatternParser_stepOpen 46 = .ok (.dup, 1) := by decide +kernel
theorem d_PatternParser_stepOpen_47 : decode b_PatternParser_stepOpen 47 = .ok (.getfield 22, 3) := by decide +kernel
theorem d_PatternParser_stepOpen_50 : decode b_PatternParser_stepOpen 50 = .ok (.iconst 1, 1) := by decide +kernel
theorem d_PatternParser_stepOpen_51 : decode b_PatternParser_stepOpen 51 = .ok (.iadd, 1) := by decide +kernel
theorem d_PatternParser_stepOpen_52 : decode b_PatternParser_stepOpen 52 = .ok (.putfield 22, 3) := by decide +kernel
theorem d_PatternParser_stepOpen_55 : decode b_PatternParser_stepOpen 55 = .ok (.iconst 1, 1) := by decide +kernel
theorem d_PatternParser_stepOpen_56 : decode b_PatternParser_stepOpen 56 = .ok (.ireturn, 1) := by decide +kernel
theorem d_PatternParser_stepClose_0 : decode b_PatternParser_stepClose 0 = .ok (.aload_n 0, 1) := by decide +kernel
theorem d_PatternParser_stepClose_1 : decode b_PatternParser_stepClose 1 = .ok (.getfield 22, 3) := by decide +kernel
theorem d_PatternParser_stepClose_4 : decode b_PatternParser_stepClose 4 = .ok (.ifCond .gt 5, 3) := by decide +kernel
theorem d_PatternParser_stepClose_7 : decode b_PatternParser_stepClose 7 = .ok (.iconst 0, 1) := by decide +kernel
theorem d_PatternParser_stepClose_8 : decode b_PatternParser_stepClose 8 = .ok (.ireturn, 1) := by decide +kernel
theorem d_PatternParser_stepClose_9 : decode b_PatternParser_stepClose 9 = .ok (.aload_n 0, 1) := by decide +kernel
theorem d_PatternParser_stepClose_10 : decode b_PatternParser_stepClose 10 = .ok (.dup, 1) := by decide +kernel
theorem d_PatternParser_stepClose_11 : decode b_PatternParser_stepClose 11 = .ok (.getfield 22, 3) := by decide +kernel
theorem d_PatternParser_stepClose_14 : decode b_PatternParser_stepClose 14 = .ok (.iconst 1, 1) := by decide +kernel
theorem d_PatternParser_stepClose_15 : decode b_PatternParser_stepClose 15 = .ok (.isub, 1) := by decide +kernel
theorem d_PatternParser_stepClose_16 : decode b_PatternParser_stepClose 16 = .ok (.putfield 22, 3) := by decide +kernel
theorem d_PatternParser_stepClose_19 : decode b_PatternParser_stepClose 19 = .ok (.aload_n 0, 1) := by decide +kernel
theorem d_PatternParser_stepClose_20 : decode b_PatternParser_stepClose 20 = .ok (.getfield 12, 3) := by decide +kernel
theorem d_PatternParser_stepClose_23 : decode b_PatternParser_stepClose 23 = .ok (.aload_n 0, 1) := by decide +kernel
theorem d_PatternParser_stepClose_24 : decode b_PatternParser_stepClose 24 = .ok (.getfield 18, 3) := by decide +kernel
theorem d_PatternParser_stepClose_27 : decode b_PatternParser_stepClose 27 = .ok (.aload_n 0, 1) := by decide +kernel
theorem d_PatternParser_stepClose_28 : decode b_PatternParser_stepClose 28 = .ok (.getfield 22, 3) := by decide +kernel
theorem d_PatternParser_stepClose_31 : decode b_PatternParser_stepClose 31 = .ok (.iaload, 1) := by decide +kernel
theorem d_PatternParser_stepClose_32 : decode b_PatternParser_stepClose 32 = .ok (.invokevirtual 82, 3) := by decide +kernel
theorem d_PatternParser_stepClose_35 : decode b_PatternParser_stepClose 35 = .ok (.iconst 1, 1) := by decide +kernel
theorem d_PatternParser_stepClose_36 : decode b_PatternParser_stepClose 36 = .ok (.ireturn, 1) := by decide +kernel
theorem d_PatternParser_step_0 : decode b_PatternParser_step 0 = .ok (.aload_n 1, 1) := by decide +kernel
theorem d_PatternParser_step_1 : decode b_PatternParser_step 1 = .ok (.iload_n 2, 1) := by decide +kernel
theorem d_PatternParser_step_2 : decode b_PatternParser_step 2 = .ok (.invokevirtual 40, 3) := by decide +kernel
theorem d_PatternParser_step_5 : decode b_PatternParser_step 5 = .ok (.istore_n 3, 1) := by decide +kernel
theorem d_PatternParser_step_6 : decode b_PatternParser_step 6 = .ok (.iload_n 3, 1) := by decide +kernel
theorem d_PatternParser_step_7 : decode b_PatternParser_step 7 = .ok (.bipush 39, 2) := by decide +kernel
theorem d_PatternParser_step_9 : decode b_PatternParser_step 9 = .ok (.if_icmp .ne 10, 3) := by decide +kernel
theorem d_PatternParser_step_12 : decode b_PatternParser_step 12 = .ok (.aload_n 0, 1) := by decide +kernel
theorem d_PatternParser_step_13 : decode b_PatternParser_step 13 = .ok (.aload_n 1, 1) := by decide +kernel
theorem d_PatternParser_step_14 : decode b_PatternParser_step 14 = .ok (.iload_n 2, 1) := by decide +kernel
theorem d_PatternParser_step_15 : decode b_PatternParser_step 15 = .ok (.invokevirtual 44, 3) := by decide +kernel
theorem d_PatternParser_step_18 : decode b_PatternParser_step 18 = .ok (.ireturn, 1) := by decide +kernel
theorem d_PatternParser_step_19 : decode b_PatternParser_step 19 = .ok (.aload_n 0, 1) := by decide +kernel
theorem d_PatternParser_step_20 : decode b_PatternParser_step 20 = .ok (.getfield 26, 3) := by decide +kernel
theorem d_PatternParser_step_23 : decode b_PatternParser_step 23 = .ok (.ifCond .eq 12, 3) := by decide +kernel
theorem d_PatternParser_step_26 : decode b_PatternParser_step 26 = .ok (.aload_n 0, 1) := by decide +kernel
theorem d_PatternParser_step_27 : decode b_PatternParser_step 27 = .ok (.bipush 15, 2) := by decide +kernel
theorem d_PatternParser_step_29 : decode b_PatternParser_step 29 = .ok (.iload_n 3, 1) := by decide +kernel
theorem d_PatternParser_step_30 : decode b_PatternParser_step 30 = .ok (.iconst 1, 1) := by decide +kernel
theorem d_PatternParser_step_31 : decode b_PatternParser_step 31 = .ok (.invokevirtual 47, 3) := by decide +kernel
theorem d_PatternParser_step_34 : decode b_PatternParser_step 34 = .ok (.ireturn, 1) := by decide +kernel
theorem d_PatternParser_step_35 : decode b_PatternParser_step 35 = .ok (.iload_n 3, 1) := by decide +kernel
theorem d_PatternParser_step_36 : decode b_PatternParser_step 36 = .ok (.bipush 97, 2) := by decide +kernel
theorem d_PatternParser_step_38 : decode b_PatternParser_step 38 = .ok (.if_icmp .lt 9, 3) := by decide +kernel
theorem d_PatternParser_step_41 : decode b_PatternParser_step 41 = .ok (.iload_n 3, 1) := by decide +kernel
theorem d_PatternParser_step_42 : decode b_PatternParser_step 42 = .ok (.bipush 122, 2) := by decide +kernel
theorem d_PatternParser_step_44 : decode b_PatternParser_step 44 = .ok (.if_icmp .le 15, 3) := by decide +kernel
theorem d_PatternParser_step_47 : decode b_PatternParser_step 47 = .ok (.iload_n 3, 1) := by decide +kernel
theorem d_PatternParser_step_48 : decode b_PatternParser_step 48 = .ok (.bipush 65, 2) := by decide +kernel
theorem d_PatternParser_step_50 : decode b_PatternParser_step 50 = .ok (.if_icmp .lt 16, 3) := by decide +kernel
theorem d_PatternParser_step_53 : decode b_PatternParser_step 53 = .ok (.iload_n 3, 1) := by decide +kernel
theorem d_PatternParser_step_54 : decode b_PatternParser_step 54 = .ok (.bipush 90, 2) := by decide +kernel
theorem d_PatternParser_step_56 : decode b_PatternParser_step 56 = .ok (.if_icmp .gt 10, 3) := by decide +kernel
theorem d_PatternParser_step_59 : decode b_PatternParser_step 59 = .ok (.aload_n 0, 1) := by decide +kernel
theorem d_PatternParser_step_60 : decode b_PatternParser_step 60 = .ok (.aload_n 1, 1) := by decide +kernel
theorem d_PatternParser_step_61 : decode b_PatternParser_step 61 = .ok (.iload_n 2, 1) := by decide +kernel
theorem d_PatternParser_step_62 : decode b_PatternParser_step 62 = .ok (.invokevirtual 51, 3) := by decide +kernel
theorem d_PatternParser_step_65 : decode b_PatternParser_step 65 = .ok (.ireturn, 1) := by decide +kernel
theorem d_PatternParser_step_66 : decode b_PatternParser_step 66 = .ok (.iload_n 3, 1) := by decide +kernel
theorem d_PatternParser_step_67 : decode b_PatternParser_step 67 = .ok (.bipush 91, 2) := by decide +kernel
theorem d_PatternParser_step_69 : decode b_PatternParser_step 69 = .ok (.if_icmp .ne 8, 3) := by decide +kernel
theorem d_PatternParser_step_72 : decode b_PatternParser_step 72 = .ok (.aload_n 0, 1) := by decide +kernel
theorem d_PatternParser_step_73 : decode b_PatternParser_step 73 = .ok (.invokevirtual 54, 3) := by decide +kernel
theorem d_PatternParser_step_76 : decode b_PatternParser_step 76 = .ok (.ireturn, 1) := by decide +kernel
theorem d_PatternParser_step_77 : decode b_PatternParser_step 77 = .ok (.iload_n 3, 1) := by decide +kernel
theorem d_PatternParser_step_78 : decode b_PatternParser_step 78 = .ok (.bipush 93, 2) := by decide +kernel
theorem d_PatternParser_step_80 : decode b_PatternParser_step 80 = .ok (.if_icmp .ne 10, 3) := by decide +kernel
theorem d_PatternParser_step_83 : decode b_PatternParser_step 83 = .ok (.aload_n 0, 1) := by decide +kernel
theorem d_PatternParser_step_84 : decode b_PatternParser_step 84 = .ok (.invokevirtual 58, 3) := by decide +kernel
theorem d_PatternParser_step_87 : decode b_PatternParser_step 87 = .ok (.goto 11, 3) := by decide +kernel
theorem d_PatternParser_step_90 : decode b_PatternParser_step 90 = .ok (.aload_n 0, 1) := by decide +kernel
theorem d_PatternParser_step_91 : decode b_PatternParser_step 91 = .ok (.bipush 15, 2) := by decide +kernel
theorem d_PatternParser_step_93 : decode b_PatternParser_step 93 = .ok (.iload_n 3, 1) := by decide +kernel
theorem d_PatternParser_step_94 : decode b_PatternParser_step 94 = .ok (.iconst 1, 1) := by decide +kernel
theorem d_PatternParser_step_95 : decode b_PatternParser_step 95 = .ok (.invokevirtual 47, 3) := by decide +kernel
theorem d_PatternParser_step_98 : decode b_PatternParser_step 98 = .ok (.ireturn, 1) := by decide +kernel
theorem d_PatternParser_parse_0 : decode b_PatternParser_parse 0 = .ok (.aload_n 0, 1) := by decide +kernel
theorem d_PatternParser_parse_1 : decode b_PatternParser_parse 1 = .ok (.getfield 12, 3) := by decide +kernel
theorem d_PatternParser_parse_4 : decode b_PatternParser_parse 4 = .ok (.iconst 0, 1) := by decide +kernel
theorem d_PatternParser_parse_5 : decode b_PatternParser_parse 5 = .ok (.putfield 30, 3) := by decide +kernel
theorem d_PatternParser_parse_8 : decode b_PatternParser_parse 8 = .ok (.aload_n 0, 1) := by decide +kernel
theorem d_PatternParser_parse_9 : decode b_PatternParser_parse 9 = .ok (.iconst 0, 1) := by decide +kernel
theorem d_PatternParser_parse_10 : decode b_PatternParser_parse 10 = .ok (.putfield 22, 3) := by decide +kernel
theorem d_PatternParser_parse_13 : decode b_PatternParser_parse 13 = .ok (.aload_n 0, 1) := by decide +kernel
theorem d_PatternParser_parse_14 : decode b_PatternParser_parse 14 = .ok (.iconst 0, 1) := by decide +kernel
theorem d_PatternParser_parse_15 : decode b_PatternParser_parse 15 = .ok (.putfield 26, 3) := by decide +kernel
theorem d_PatternParser_parse_18 : decode b_PatternParser_parse 18 = .ok (.iconst 0, 1) := by decide +kernel
theorem d_PatternParser_parse_19 : decode b_PatternParser_parse 19 = .ok (.istore_n 2, 1) := by decide +kernel
theorem d_PatternParser_parse_20 : decode b_PatternParser_parse 20 = .ok (.iload_n 2, 1) := by decide +kernel
theorem d_PatternParser_parse_21 : decode b_PatternParser_parse 21 = .ok (.aload_n 1, 1) := by decide +kernel
theorem d_PatternParser_parse_22 : decode b_PatternParser_parse 22 = .ok (.getfield 33, 3) := by decide +kernel
theorem d_PatternParser_parse_25 : decode b_PatternParser_parse 25 = .ok (.if_icmp .ge 23, 3) := by decide +kernel
theorem d_PatternParser_parse_28 : decode b_PatternParser_parse 28 = .ok (.aload_n 0, 1) := by decide +kernel
theorem d_PatternParser_parse_29 : decode b_PatternParser_parse 29 = .ok (.aload_n 1, 1) := by decide +kernel
theorem d_PatternParser_parse_30 : decode b_PatternParser_parse 30 = .ok (.iload_n 2, 1) := by decide +kernel
theorem d_PatternParser_parse_31 : decode b_PatternParser_parse 31 = .ok (.invokevirtual 36, 3) := by decide +kernel
theorem d_PatternParser_parse_34 : decode b_PatternParser_parse 34 = .ok (.istore_n 3, 1) := by decide +kernel
theorem d_PatternParser_parse_35 : decode b_PatternParser_parse 35 = .ok (.iload_n 3, 1) := by decide +kernel
theorem d_PatternParser_parse_36 : decode b_PatternParser_parse 36 = .ok (.ifCond .gt 5, 3) := by decide +kernel
theorem d_PatternParser_parse_39 : decode b_PatternParser_parse 39 = .ok (.iload_n 2, 1) := by decide +kernel
theorem d_PatternParser_parse_40 : decode b_PatternParser_parse 40 = .ok (.ireturn, 1) := by decide +kernel
theorem d_PatternParser_parse_41 : decode b_PatternParser_parse 41 = .ok (.iload_n 2, 1) := by decide +kernel
theorem d_PatternParser_parse_42 : decode b_PatternParser_parse 42 = .ok (.iload_n 3, 1) := by decide +kernel
theorem d_PatternParser_parse_43 : decode b_PatternParser_parse 43 = .ok (.iadd, 1) := by decide +kernel
theorem d_PatternParser_parse_44 : decode b_PatternParser_parse 44 = .ok (.istore_n 2, 1) := by decide +kernel
theorem d_PatternParser_parse_45 : decode b_PatternParser_parse 45 = .ok (.goto (-25), 3) := by decide +kernel
theorem d_PatternParser_parse_48 : decode b_PatternParser_parse 48 = .ok (.aload_n 0, 1) := by decide +kernel
theorem d_PatternParser_parse_49 : decode b_PatternParser_parse 49 = .ok (.getfield 22, 3) := by decide +kernel
theorem d_PatternParser_parse_52 : decode b_PatternParser_parse 52 = .ok (.ifCond .le 10, 3) := by decide +kernel
theorem d_PatternParser_parse_55 : decode b_PatternParser_parse 55 = .ok (.aload_n 1, 1) := by decide +kernel
theorem d_PatternParser_parse_56 : decode b_PatternParser_parse 56 = .ok (.getfield 33, 3) := by decide +kernel
theorem d_PatternParser_parse_59 : decode b_PatternParser_parse 59 = .ok (.goto 4, 3) := by decide +kernel
theorem d_PatternParser_parse_62 : decode b_PatternParser_parse 62 = .ok (.iconst (-1), 1) := by decide +kernel
theorem d_PatternParser_parse_63 : decode b_PatternParser_parse 63 = .ok (.ireturn, 1) := by decide +kernel
abbrev rm_Names_all : Room := { frames := 0, cells := 0, slots := 0, locals := 0 }
set_option maxHeartbeats 4000000 in
set_option maxRecDepth 100000 in
theorem c_Names_all (l : Launch) (D : va_G) (kk : Nat → ClassId) (st : Nat → Nat) (sz : Nat) (x0 : Int32) (o : Nat) (he : f_Names_all x0 = some o) : Met l y_Names_all (Cond.code y_Names_all b_Names_all 1 (some (.object "java/lang/String")) :: GW) rm_Names_all (KPc D kk st [.int x0] [] sz) (KQr D kk (st (10 + o)) [] (va_A [] sz)) 0 0 (va_A [] sz) := by
  refine k_start (Qc := fun A => KQr D kk (st (10 + o)) [] A) (by decide) (Nat.le_of_ble_eq_true rfl) ?_
  intro p e s m below meth c A ls S hnm hr hlk hA X hP hD hS hl
  have hl : lv_has ls 1 [(0, .int x0)] := hl
  have hx := S.1
  have hb := S.2.1
  unfold f_Names_all at he
  refine lv_iload_n hx hb d_Names_all_0 rfl (lv_at hl 0 rfl) ?_
  refine lv_iconst (v := (2 : Int32)) hx hb d_Names_all_1 (by decide) ?_
  refine lv_icmp_ne (tgt := 8) hx hb d_Names_all_2 rfl (fun hc => ?_) (fun hc => ?_)
  · have he := ih_f hc he
    refine lv_iload_n hx hb d_Names_all_8 rfl (lv_at hl 0 rfl) ?_
    refine lv_iconst (v := (5 : Int32)) hx hb d_Names_all_9 (by decide) ?_
    refine lv_icmp_ne (tgt := 18) hx hb d_Names_all_10 rfl (fun hc => ?_) (fun hc => ?_)
    · have he := ih_f hc he
      refine va_ldcS hx hb S.2.2.2.1 X.2.1.2.2.2.2.2 d_Names_all_18 ?_
      cases he
      exact k_are hx hb hr hlk X hP hD hS d_Names_all_20
    · have he := ih_t hc he
      refine va_ldcS hx hb S.2.2.2.1 X.2.1.2.2.2.2.1 d_Names_all_13 ?_
      refine lv_goto (tgt := 20) hx hb d_Names_all_15 rfl ?_
      cases he
      exact k_are hx hb hr hlk X hP hD hS d_Names_all_20
  · have he := ih_t hc he
    refine va_ldcS hx hb S.2.2.2.1 X.2.1.2.2.2.1 d_Names_all_5 ?_
    cases he
    exact k_are hx hb hr hlk X hP hD hS d_Names_all_7
abbrev rm_Names_room : Room := { frames := 0, cells := 0, slots := 0, locals := 0 }
set_option maxHeartbeats 4000000 in
set_option maxRecDepth 100000 in
theorem c_Names_room (l : Launch) (D : va_G) (kk : Nat → ClassId) (st : Nat → Nat) (sz : Nat) (x0 : Int32) (o : Int32) (he : f_Names_room x0 = some o) : Met l y_Names_room (Cond.code y_Names_room b_Names_room 1 (some .int) :: GW) rm_Names_room (KPc D kk st [.int x0] [] sz) (KQi D kk o [] (va_A [] sz)) 0 0 (va_A [] sz) := by
  refine k_start (Qc := fun A => KQi D kk o [] A) (by decide) (Nat.le_of_ble_eq_true rfl) ?_
  intro p e s m below meth c A ls S hnm hr hlk hA X hP hD hS hl
  have hl : lv_has ls 1 [(0, .int x0)] := hl
  have hx := S.1
  have hb := S.2.1
  unfold f_Names_room at he
  refine lv_iload_n hx hb d_Names_room_0 rfl (lv_at hl 0 rfl) ?_
  refine lv_bipush (v := (9 : Int32)) hx hb d_Names_room_1 (by decide) ?_
  refine lv_icmp_ne (tgt := 10) hx hb d_Names_room_3 rfl (fun hc => ?_) (fun hc => ?_)
  · have he := ih_f hc he
    refine lv_bipush (v := (9 : Int32)) hx hb d_Names_room_10 (by decide) ?_
    cases he
    exact k_ire hx hb hr hlk X hP hD hS d_Names_room_12
  · have he := ih_t hc he
    refine lv_iconst (v := (2 : Int32)) hx hb d_Names_room_6 (by decide) ?_
    refine lv_goto (tgt := 12) hx hb d_Names_room_7 rfl ?_
    cases he
    exact k_ire hx hb hr hlk X hP hD hS d_Names_room_12
abbrev rm_Names_first : Room := { frames := 0, cells := 0, slots := 0, locals := 0 }
set_option maxHeartbeats 4000000 in
set_option maxRecDepth 100000 in
theorem c_Names_first (l : Launch) (D : va_G) (kk : Nat → ClassId) (st : Nat → Nat) (sz : Nat) (x0 : Int32) (o : Int32) (he : f_Names_first x0 = some o) : Met l y_Names_first (Cond.code y_Names_first b_Names_first 1 (some .int) :: GW) rm_Names_first (KPc D kk st [.int x0] [] sz) (KQi D kk o [] (va_A [] sz)) 0 0 (va_A [] sz) := by
  refine k_start (Qc := fun A => KQi D kk o [] A) (by decide) (Nat.le_of_ble_eq_true rfl) ?_
  intro p e s m below meth c A ls S hnm hr hlk hA X hP hD hS hl
  have hl : lv_has ls 1 [(0, .int x0)] := hl
  have hx := S.1
  have hb := S.2.1
  unfold f_Names_first at he
  refine lv_iload_n hx hb d_Names_first_0 rfl (lv_at hl 0 rfl) ?_
  refine lv_bipush (v := (9 : Int32)) hx hb d_Names_first_1 (by decide) ?_
  refine lv_icmp_ne (tgt := 10) hx hb d_Names_first_3 rfl (fun hc => ?_) (fun hc => ?_)
  · have he := ih_f hc he
    refine lv_iconst (v := (1 : Int32)) hx hb d_Names_first_10 (by decide) ?_
    cases he
    exact k_ire hx hb hr hlk X hP hD hS d_Names_first_11
  · have he := ih_t hc he
    refine lv_iconst (v := (0 : Int32)) hx hb d_Names_first_6 (by decide) ?_
    refine lv_goto (tgt := 11) hx hb d_Names_first_7 rfl ?_
    cases he
    exact k_ire hx hb hr hlk X hP hD hS d_Names_first_11
abbrev rm_Names_last : Room := { frames := 0, cells := 0, slots := 0, locals := 0 }
set_option maxHeartbeats 4000000 in
set_option maxRecDepth 100000 in
theorem c_Names_last (l : Launch) (D : va_G) (kk : Nat → ClassId) (st : Nat → Nat) (sz : Nat) (x0 : Int32) (o : Int32) (he : f_Names_last x0 = some o) : Met l y_Names_last (Cond.code y_Names_last b_Names_last 1 (some .int) :: GW) rm_Names_last (KPc D kk st [.int x0] [] sz) (KQi D kk o [] (va_A [] sz)) 0 0 (va_A [] sz) := by
  refine k_start (Qc := fun A => KQi D kk o [] A) (by decide) (Nat.le_of_ble_eq_true rfl) ?_
  intro p e s m below meth c A ls S hnm hr hlk hA X hP hD hS hl
  have hl : lv_has ls 1 [(0, .int x0)] := hl
  have hx := S.1
  have hb := S.2.1
  unfold f_Names_last at he
  refine lv_iload_n hx hb d_Names_last_0 rfl (lv_at hl 0 rfl) ?_
  refine lv_iconst (v := (2 : Int32)) hx hb d_Names_last_1 (by decide) ?_
  refine lv_icmp_ne (tgt := 10) hx hb d_Names_last_2 rfl (fun hc => ?_) (fun hc => ?_)
  · have he := ih_f hc he
    refine lv_iload_n hx hb d_Names_last_10 rfl (lv_at hl 0 rfl) ?_
    refine lv_iconst (v := (5 : Int32)) hx hb d_Names_last_11 (by decide) ?_
    refine lv_icmp_ne (tgt := 20) hx hb d_Names_last_12 rfl (fun hc => ?_) (fun hc => ?_)
    · have he := ih_f hc he
      refine lv_iconst (v := (1 : Int32)) hx hb d_Names_last_20 (by decide) ?_
      cases he
      exact k_ire hx hb hr hlk X hP hD hS d_Names_last_21
    · have he := ih_t hc he
      refine lv_bipush (v := (7 : Int32)) hx hb d_Names_last_15 (by decide) ?_
      refine lv_goto (tgt := 21) hx hb d_Names_last_17 rfl ?_
      cases he
      exact k_ire hx hb hr hlk X hP hD hS d_Names_last_21
  · have he := ih_t hc he
    refine lv_bipush (v := (12 : Int32)) hx hb d_Names_last_5 (by decide) ?_
    refine lv_goto (tgt := 21) hx hb d_Names_last_7 rfl ?_
    cases he
    exact k_ire hx hb hr hlk X hP hD hS d_Names_last_21
abbrev rm_Names_letter : Room := { frames := 4, cells := 0, slots := 0, locals := 85 }
set_option maxHeartbeats 4000000 in
set_option maxRecDepth 100000 in
theorem w_Names_letter_13 {p : Program} {l : Launch} {e : Env} {s : State} {m : MethodId} {args : Array Value} {below : List Frame} {meth : Method} {c : Code} {A : Nat → Prop} {D : va_G} {kk : Nat → ClassId} {st : Nat → Nat} (x0 : Int32) (x2 : Int32) (x3 : Int32) (s0 : Int32) (o : Int32) (S : CallFix p m c b_Names_letter 7 s args GW y_Names_letter.cls) (hr : meth.sig.returnType = (some .int)) (hlk : meth.locks = false) (hA : ∀ q, s.heap.size ≤ q → A q) (X : KX D kk st A s) (H : Heap) (locs : List Loc) (ls : Array Slot) (he : jn_Names_letter_13 x0 x2 x3 s0 = some o) (hl : lv_has ls 7 [(0, .int x0), (2, .int x2), (3, .int x3)]) (hP : va_P D classes [] H) (hD : va_D A []) (hS : va_S A s.heap H locs) : W p l e rm_Names_letter s m args below meth c H locs 0 0 (MQ below (KQi D kk o [] A) args s 0 0 A) (F0 m 13 ls [.int s0]) := by
  have hx := S.1
  have hb := S.2.1
  unfold jn_Names_letter_13 at he
  refine lv_istore hx hb d_Names_letter_13 hl (by decide) rfl (fun ls hl => ?_)
  have hl : lv_has ls 7 [(4, .int s0), (0, .int x0), (2, .int x2), (3, .int x3)] := hl
  refine lv_iload_n hx hb d_Names_letter_15 rfl (lv_at hl 2 rfl) ?_
  refine lv_iload_n hx hb d_Names_letter_16 rfl (lv_at hl 1 rfl) ?_
  obtain ⟨u3, e4, he⟩ := ih_b he
  refine k_io (r_S (As := [.int x0]) S X hA hP hD hS (c_Names_first l D kk st _ x0 u3 e4) gm_3_94 gm_3_92 gm_3_93 gm_1_19 ⟨rfl, rfl, by decide, by decide⟩ kd_Names_first [] rfl rfl rfl rfl hl.1 rfl (Nat.le_of_ble_eq_true rfl) d_Names_letter_17 ⟨Nat.zero_le _, Nat.zero_le _⟩) hA hP hD hS [] rfl (fun H locs hP hS => ?_)
  refine lv_isub hx hb d_Names_letter_20 ?_
  refine lv_iload_n hx hb d_Names_letter_21 rfl (lv_at hl 1 rfl) ?_
  obtain ⟨u5, e6, he⟩ := ih_b he
  refine k_io (r_S (As := [.int x0]) S X hA hP hD hS (c_Names_room l D kk st _ x0 u5 e6) gm_3_91 gm_3_89 gm_3_90 gm_1_19 ⟨rfl, rfl, by decide, by decide⟩ kd_Names_room [] rfl rfl rfl rfl hl.1 rfl (Nat.le_of_ble_eq_true rfl) d_Names_letter_22 ⟨Nat.zero_le _, Nat.zero_le _⟩) hA hP hD hS [] rfl (fun H locs hP hS => ?_)
  refine lv_imul hx hb d_Names_letter_25 ?_
  refine lv_iload_n hx hb d_Names_letter_26 rfl (lv_at hl 3 rfl) ?_
  refine lv_iadd hx hb d_Names_letter_27 ?_
  refine lv_istore hx hb d_Names_letter_28 hl (by decide) rfl (fun ls hl => ?_)
  have hl : lv_has ls 7 [(5, .int (((x2 - u3) * u5) + x3)), (4, .int s0), (0, .int x0), (2, .int x2), (3, .int x3)] := hl
  refine lv_iload_n hx hb d_Names_letter_30 rfl (lv_at hl 4 rfl) ?_
  refine lv_if_lt (tgt := 57) hx hb d_Names_letter_31 rfl (fun hc => ?_) (fun hc => ?_)
  · have he := ih_t hc he
    refine lv_iconst (v := (-1 : Int32)) hx hb d_Names_letter_57 (by decide) ?_
    cases he
    exact k_ire hx hb hr hlk X hP hD hS d_Names_letter_58
  · have he := ih_f hc he
    refine lv_iload_n hx hb d_Names_letter_34 rfl (lv_at hl 4 rfl) ?_
    refine lv_iload hx hb d_Names_letter_35 (lv_at hl 1 rfl) ?_
    refine lv_icmp_ge (tgt := 57) hx hb d_Names_letter_37 rfl (fun hc => ?_) (fun hc => ?_)
    · have he := ih_t hc he
      refine lv_iconst (v := (-1 : Int32)) hx hb d_Names_letter_57 (by decide) ?_
      cases he
      exact k_ire hx hb hr hlk X hP hD hS d_Names_letter_58
    · have he := ih_f hc he
      refine lv_iload hx hb d_Names_letter_40 (lv_at hl 0 rfl) ?_
      refine lv_if_lt (tgt := 57) hx hb d_Names_letter_42 rfl (fun hc => ?_) (fun hc => ?_)
      · have he := ih_t hc he
        refine lv_iconst (v := (-1 : Int32)) hx hb d_Names_letter_57 (by decide) ?_
        cases he
        exact k_ire hx hb hr hlk X hP hD hS d_Names_letter_58
      · have he := ih_f hc he
        refine lv_iload hx hb d_Names_letter_45 (lv_at hl 0 rfl) ?_
        refine lv_iload_n hx hb d_Names_letter_47 rfl (lv_at hl 2 rfl) ?_
        obtain ⟨u7, e8, he⟩ := ih_b he
        refine k_ao (r_S (As := [.int x0]) S X hA hP hD hS (c_Names_all l D kk st _ x0 u7 e8) gm_3_97 gm_3_95 gm_3_96 gm_1_19 ⟨rfl, rfl, by decide, by decide⟩ kd_Names_all [] rfl rfl rfl rfl hl.1 rfl (Nat.le_of_ble_eq_true rfl) d_Names_letter_48 ⟨Nat.zero_le _, Nat.zero_le _⟩) hA hP hD hS [] rfl (fun H locs hP hS => ?_)
        obtain ⟨hs9, he⟩ := ih_g he
        obtain ⟨u10, e11, he⟩ := ih_b he
        refine k_io (r_VH (As := []) S X hA hP hD hS (c_String_length l D kk st _ u7 hs9 u10 e11) gm_2_114 gm_3_101 gm_2_112 gm_2_113 gm_1_14 ⟨rfl, rfl, by decide, by decide⟩ kd_String_length [] rfl rfl rfl (SW.rv X.2.2 u7 hs9 hS) rfl hl.1 rfl (Nat.le_of_ble_eq_true rfl) d_Names_letter_51 ⟨Nat.zero_le _, Nat.zero_le _⟩) hA hP hD hS [] rfl (fun H locs hP hS => ?_)
        refine lv_icmp_lt (tgt := 59) hx hb d_Names_letter_54 rfl (fun hc => ?_) (fun hc => ?_)
        · have he := ih_t hc he
          refine lv_iload_n hx hb d_Names_letter_59 rfl (lv_at hl 2 rfl) ?_
          obtain ⟨u12, e13, he⟩ := ih_b he
          refine k_ao (r_S (As := [.int x0]) S X hA hP hD hS (c_Names_all l D kk st _ x0 u12 e13) gm_3_97 gm_3_95 gm_3_96 gm_1_19 ⟨rfl, rfl, by decide, by decide⟩ kd_Names_all [] rfl rfl rfl rfl hl.1 rfl (Nat.le_of_ble_eq_true rfl) d_Names_letter_60 ⟨Nat.zero_le _, Nat.zero_le _⟩) hA hP hD hS [] rfl (fun H locs hP hS => ?_)
          obtain ⟨hs14, he⟩ := ih_g he
          refine lv_iload hx hb d_Names_letter_63 (lv_at hl 0 rfl) ?_
          obtain ⟨u15, e16, he⟩ := ih_b he
          refine k_io (r_VH (As := [.int (((x2 - u3) * u5) + x3)]) S X hA hP hD hS (c_String_charAt l D kk st _ u12 hs14 (((x2 - u3) * u5) + x3) u15 e16) gm_3_105 gm_3_102 gm_3_103 gm_3_104 gm_1_14 ⟨rfl, rfl, by decide, by decide⟩ kd_String_charAt [] rfl rfl rfl (SW.rv X.2.2 u12 hs14 hS) rfl hl.1 rfl (Nat.le_of_ble_eq_true rfl) d_Names_letter_65 ⟨Nat.zero_le _, Nat.zero_le _⟩) hA hP hD hS [] rfl (fun H locs hP hS => ?_)
          refine lv_istore hx hb d_Names_letter_68 hl (by decide) rfl (fun ls hl => ?_)
          have hl : lv_has ls 7 [(6, .int u15), (5, .int (((x2 - u3) * u5) + x3)), (4, .int s0), (0, .int x0), (2, .int x2), (3, .int x3)] := hl
          refine lv_iload hx hb d_Names_letter_70 (lv_at hl 0 rfl) ?_
          refine lv_bipush (v := (32 : Int32)) hx hb d_Names_letter_72 (by decide) ?_
          refine lv_icmp_ne (tgt := 81) hx hb d_Names_letter_74 rfl (fun hc => ?_) (fun hc => ?_)
          · have he := ih_f hc he
            refine lv_iload hx hb d_Names_letter_81 (lv_at hl 0 rfl) ?_
            cases he
            exact k_ire hx hb hr hlk X hP hD hS d_Names_letter_83
          · have he := ih_t hc he
            refine lv_iconst (v := (-1 : Int32)) hx hb d_Names_letter_77 (by decide) ?_
            refine lv_goto (tgt := 83) hx hb d_Names_letter_78 rfl ?_
            cases he
            exact k_ire hx hb hr hlk X hP hD hS d_Names_letter_83
        · have he := ih_f hc he
          refine lv_iconst (v := (-1 : Int32)) hx hb d_Names_letter_57 (by decide) ?_
          cases he
          exact k_ire hx hb hr hlk X hP hD hS d_Names_letter_58
set_option maxHeartbeats 4000000 in
set_option maxRecDepth 100000 in
theorem c_Names_letter (l : Launch) (D : va_G) (kk : Nat → ClassId) (st : Nat → Nat) (sz : Nat) (x0 : Int32) (x1 : Int32) (x2 : Int32) (x3 : Int32) (o : Int32) (he : f_Names_letter x0 x1 x2 x3 = some o) : Met l y_Names_letter (Cond.code y_Names_letter b_Names_letter 7 (some .int) :: GW) rm_Names_letter (KPc D kk st [.int x0, .int x1, .int x2, .int x3] [] sz) (KQi D kk o [] (va_A [] sz)) 0 0 (va_A [] sz) := by
  refine k_start (Qc := fun A => KQi D kk o [] A) (by decide) (Nat.le_of_ble_eq_true rfl) ?_
  intro p e s m below meth c A ls S hnm hr hlk hA X hP hD hS hl
  have hl : lv_has ls 7 [(0, .int x0), (1, .int x1), (2, .int x2), (3, .int x3)] := hl
  have hx := S.1
  have hb := S.2.1
  unfold f_Names_letter at he
  refine lv_iload_n hx hb d_Names_letter_0 rfl (lv_at hl 1 rfl) ?_
  refine lv_iconst (v := (3 : Int32)) hx hb d_Names_letter_1 (by decide) ?_
  refine lv_icmp_ne (tgt := 9) hx hb d_Names_letter_2 rfl (fun hc => ?_) (fun hc => ?_)
  · have he := ih_f hc he
    refine lv_iload_n hx hb d_Names_letter_9 rfl (lv_at hl 0 rfl) ?_
    obtain ⟨u1, e2, he⟩ := ih_b he
    refine k_io (r_S (As := [.int x0]) S X hA hP hD hS (c_Names_room l D kk st _ x0 u1 e2) gm_3_91 gm_3_89 gm_3_90 gm_1_19 ⟨rfl, rfl, by decide, by decide⟩ kd_Names_room [] rfl rfl rfl rfl hl.1 rfl (Nat.le_of_ble_eq_true rfl) d_Names_letter_10 ⟨Nat.zero_le _, Nat.zero_le _⟩) hA hP hD hS [] rfl (fun H locs hP hS => ?_)
    have hl : lv_has ls 7 [(0, .int x0), (2, .int x2), (3, .int x3)] := lv_sub hl [0, 2, 3] rfl
    exact w_Names_letter_13 x0 x2 x3 u1 o S hr hlk hA X _ _ ls he hl hP hD hS
  · have he := ih_t hc he
    refine lv_iconst (v := (3 : Int32)) hx hb d_Names_letter_5 (by decide) ?_
    refine lv_goto (tgt := 13) hx hb d_Names_letter_6 rfl ?_
    have hl : lv_has ls 7 [(0, .int x0), (2, .int x2), (3, .int x3)] := lv_sub hl [0, 2, 3] rfl
    exact w_Names_letter_13 x0 x2 x3 (3 : Int32) o S hr hlk hA X _ _ ls he hl hP hD hS
abbrev rm_PatternParser_added : Room := { frames := 1, cells := 0, slots := 0, locals := 22 }
set_option maxHeartbeats 4000000 in
set_option maxRecDepth 100000 in
theorem c_PatternParser_added (l : Launch) (D : va_G) (kk : Nat → ClassId) (st : Nat → Nat) (a_t a_t_pattern a_t_pattern_kinds a_t_pattern_numbers a_t_open : Nat) (sz : Nat) (t_depth : Int32) (t_quoted : Int32) (t_pattern_size : Int32) (t_pattern_kinds : Nat → Int32) (t_pattern_numbers : Nat → Int32) (x1 : Int32) (x2 : Int32) (x3 : Int32) (o : Int32 × Int32 × (Nat → Int32) × (Nat → Int32)) (he : f_PatternParser_added t_pattern_size t_pattern_kinds t_pattern_numbers x1 x2 x3 = some o) : Met l y_PatternParser_added (Cond.code y_PatternParser_added b_PatternParser_added 4 (some .int) :: GW) rm_PatternParser_added (KPc D kk st [.ref a_t, .int x1, .int x2, .int x3] [(a_t, .inr (3, [.ref a_t_pattern, .ref a_t_open, .int t_depth, .int t_quoted])), (a_t_pattern, .inr (2, [.ref a_t_pattern_kinds, .ref a_t_pattern_numbers, .int t_pattern_size])), (a_t_pattern_kinds, .inl (kk 0, 20, .inl t_pattern_kinds)), (a_t_pattern_numbers, .inl (kk 0, 20, .inl t_pattern_numbers))] sz) (KQi D kk o.1 [(a_t, .inr (3, [.ref a_t_pattern, .ref a_t_open, .int t_depth, .int t_quoted])), (a_t_pattern, .inr (2, [.ref a_t_pattern_kinds, .ref a_t_pattern_numbers, .int o.2.1])), (a_t_pattern_kinds, .inl (kk 0, 20, .inl o.2.2.1)), (a_t_pattern_numbers, .inl (kk 0, 20, .inl o.2.2.2))] (va_A [(a_t, .inr (3, [.ref a_t_pattern, .ref a_t_open, .int t_depth, .int t_quoted])), (a_t_pattern, .inr (2, [.ref a_t_pattern_kinds, .ref a_t_pattern_numbers, .int t_pattern_size])), (a_t_pattern_kinds, .inl (kk 0, 20, .inl t_pattern_kinds)), (a_t_pattern_numbers, .inl (kk 0, 20, .inl t_pattern_numbers))] sz)) 0 0 (va_A [(a_t, .inr (3, [.ref a_t_pattern, .ref a_t_open, .int t_depth, .int t_quoted])), (a_t_pattern, .inr (2, [.ref a_t_pattern_kinds, .ref a_t_pattern_numbers, .int t_pattern_size])), (a_t_pattern_kinds, .inl (kk 0, 20, .inl t_pattern_kinds)), (a_t_pattern_numbers, .inl (kk 0, 20, .inl t_pattern_numbers))] sz) := by
  refine k_start (Qc := fun A => KQi D kk o.1 [(a_t, .inr (3, [.ref a_t_pattern, .ref a_t_open, .int t_depth, .int t_quoted])), (a_t_pattern, .inr (2, [.ref a_t_pattern_kinds, .ref a_t_pattern_numbers, .int o.2.1])), (a_t_pattern_kinds, .inl (kk 0, 20, .inl o.2.2.1)), (a_t_pattern_numbers, .inl (kk 0, 20, .inl o.2.2.2))] A) (by decide) (Nat.le_of_ble_eq_true rfl) ?_
  intro p e s m below meth c A ls S hnm hr hlk hA X hP hD hS hl
  have hl : lv_has ls 4 [(0, .ref a_t), (1, .int x1), (2, .int x2), (3, .int x3)] := hl
  have hx := S.1
  have hb := S.2.1
  unfold f_PatternParser_added at he
  refine lv_aload_n hx hb d_PatternParser_added_0 rfl (lv_at hl 0 rfl) ?_
  refine k_get S X us_PatternParser hP 0 rfl rfl 0 (by decide) gm_1_74 rfl d_PatternParser_added_1 ?_
  refine lv_iload_n hx hb d_PatternParser_added_4 rfl (lv_at hl 1 rfl) ?_
  refine lv_iload_n hx hb d_PatternParser_added_5 rfl (lv_at hl 2 rfl) ?_
  obtain ⟨u1, e2, he⟩ := ih_b he
  refine k_i (wr := [(a_t, .inr (3, [.ref a_t_pattern, .ref a_t_open, .int t_depth, .int t_quoted]))]) (w1 := [(a_t_pattern, .inr (2, [.ref a_t_pattern_kinds, .ref a_t_pattern_numbers, .int u1.2.1])), (a_t_pattern_kinds, .inl (kk 0, 20, .inl u1.2.2.1)), (a_t_pattern_numbers, .inl (kk 0, 20, .inl u1.2.2.2))]) (w2 := [(a_t, .inr (3, [.ref a_t_pattern, .ref a_t_open, .int t_depth, .int t_quoted])), (a_t_pattern, .inr (2, [.ref a_t_pattern_kinds, .ref a_t_pattern_numbers, .int u1.2.1])), (a_t_pattern_kinds, .inl (kk 0, 20, .inl u1.2.2.1)), (a_t_pattern_numbers, .inl (kk 0, 20, .inl u1.2.2.2))]) (r_V (As := [.int x1, .int x2]) S X hA hP hD hS (c_Pattern_add l D kk st a_t_pattern a_t_pattern_kinds a_t_pattern_numbers _ t_pattern_size t_pattern_kinds t_pattern_numbers x1 x2 u1 e2) gm_2_88 gm_2_85 gm_2_86 gm_2_87 gm_1_4 ⟨rfl, rfl, by decide, by decide⟩ kd_Pattern_add [1, 2, 3] rfl rfl rfl 1 2 rfl rfl rfl rfl hl.1 rfl (Nat.le_of_ble_eq_true rfl) d_PatternParser_added_6 ⟨Nat.zero_le _, Nat.zero_le _⟩) hA hP hD hS [1, 2, 3] [0] [0, 1, 2, 3] rfl rfl rfl (by decide) rfl rfl rfl (fun H locs hP hD hS => ?_)
  refine lv_if_eq (tgt := 16) hx hb d_PatternParser_added_9 rfl (fun hc => ?_) (fun hc => ?_)
  · have he := ih_t hc he
    refine lv_iconst (v := (0 : Int32)) hx hb d_PatternParser_added_16 (by decide) ?_
    cases he
    exact k_ire hx hb hr hlk X hP hD hS d_PatternParser_added_17
  · have he := ih_f hc he
    refine lv_iload_n hx hb d_PatternParser_added_12 rfl (lv_at hl 3 rfl) ?_
    refine lv_goto (tgt := 17) hx hb d_PatternParser_added_13 rfl ?_
    cases he
    exact k_ire hx hb hr hlk X hP hD hS d_PatternParser_added_17
abbrev rm_PatternParser_quoteEnds : Room := { frames := 1, cells := 0, slots := 0, locals := 21 }
set_option maxHeartbeats 4000000 in
set_option maxRecDepth 100000 in
theorem w_PatternParser_quoteEnds_4 {p : Program} {l : Launch} {e : Env} {s : State} {m : MethodId} {args : Array Value} {below : List Frame} {meth : Method} {c : Code} {Q : State → Prop} {A : Nat → Prop} {D : va_G} {kk : Nat → ClassId} {st : Nat → Nat} (a_q0 a_q0_cells : Nat) (n_q0_cells : Nat) (q0_size : Int32) (q0_cells : Nat → Int32) (S : CallFix p m c b_PatternParser_quoteEnds 3 s args GW y_PatternParser_quoteEnds.cls) (hr : meth.sig.returnType = (some .boolean)) (hlk : meth.locks = false) (hA : ∀ q, s.heap.size ≤ q → A q) (X : KX D kk st A s) : ∀ (n : Nat) (x2 : Int32) (v : (Int32) ⊕ (Int32)) (H : Heap) (locs : List Loc) (ls : Array Slot), lp_PatternParser_quoteEnds_4 n_q0_cells q0_size q0_cells n x2 = some v → lv_has ls 3 [(0, .ref a_q0), (2, .int x2)] → va_P D classes [(a_q0, .inr (1, [.ref a_q0_cells, .int q0_size])), (a_q0_cells, .inl (kk 1, n_q0_cells, .inl q0_cells))] H → va_D A [(a_q0, .inr (1, [.ref a_q0_cells, .int q0_size])), (a_q0_cells, .inl (kk 1, n_q0_cells, .inl q0_cells))] → va_S A s.heap H locs → (∀ o : Int32, v = .inl o → Q = MQ below (KQi D kk o [(a_q0, .inr (1, [.ref a_q0_cells, .int q0_size])), (a_q0_cells, .inl (kk 1, n_q0_cells, .inl q0_cells))] A) args s 0 0 A) → (∀ v' : Int32, v = .inr v' → ∀ (H : Heap) (locs : List Loc) (ls : Array Slot), lv_has ls 3 [(0, .ref a_q0), (2, .int v')] → va_P D classes [(a_q0, .inr (1, [.ref a_q0_cells, .int q0_size])), (a_q0_cells, .inl (kk 1, n_q0_cells, .inl q0_cells))] H → va_D A [(a_q0, .inr (1, [.ref a_q0_cells, .int q0_size])), (a_q0_cells, .inl (kk 1, n_q0_cells, .inl q0_cells))] → va_S A s.heap H locs → W p l e rm_PatternParser_quoteEnds s m args below meth c H locs 0 0 Q (F0 m 46 ls [])) → W p l e rm_PatternParser_quoteEnds s m args below meth c H locs 0 0 Q (F0 m 4 ls []) := by
  intro n
  induction n with
  | zero =>
    intro x2 v H locs ls he hl hP hD hS hret K
    exact ih_n he
  | succ n ih =>
    intro x2 v H locs ls he hl hP hD hS hret K
    have hx := S.1
    have hb := S.2.1
    have he : st_PatternParser_quoteEnds_4 n_q0_cells q0_size q0_cells (lp_PatternParser_quoteEnds_4 n_q0_cells q0_size q0_cells n) x2 = some v := he
    unfold st_PatternParser_quoteEnds_4 at he
    refine lv_iload_n hx hb d_PatternParser_quoteEnds_4 rfl (lv_at hl 1 rfl) ?_
    refine lv_aload_n hx hb d_PatternParser_quoteEnds_5 rfl (lv_at hl 0 rfl) ?_
    refine k_get S X us_Row hP 0 rfl rfl 1 (by decide) gm_1_36 rfl d_PatternParser_quoteEnds_6 ?_
    refine lv_icmp_ge (tgt := 48) hx hb d_PatternParser_quoteEnds_9 rfl (fun hc => ?_) (fun hc => ?_)
    · have he := ih_t hc he
      refine lv_iconst (v := (0 : Int32)) hx hb d_PatternParser_quoteEnds_48 (by decide) ?_
      cases he
      have hq := hret _ rfl
      subst hq
      exact k_zre hx hb hr hlk X hP hD hS (Or.inl rfl) d_PatternParser_quoteEnds_49
    · have he := ih_f hc he
      refine lv_aload_n hx hb d_PatternParser_quoteEnds_12 rfl (lv_at hl 0 rfl) ?_
      refine lv_iload_n hx hb d_PatternParser_quoteEnds_13 rfl (lv_at hl 1 rfl) ?_
      obtain ⟨u1, e2, he⟩ := ih_b he
      refine k_io (r_V (As := [.int x2]) S X hA hP hD hS (c_Row_codeAt l D kk st a_q0 a_q0_cells _ n_q0_cells q0_size q0_cells x2 u1 e2) gm_2_76 gm_2_73 gm_2_74 gm_2_75 gm_1_2 ⟨rfl, rfl, by decide, by decide⟩ kd_Row_codeAt [0, 1] rfl rfl rfl 0 1 rfl rfl rfl rfl hl.1 rfl (Nat.le_of_ble_eq_true rfl) d_PatternParser_quoteEnds_14 ⟨Nat.zero_le _, Nat.zero_le _⟩) hA hP hD hS [0, 1] rfl (fun H locs hP hS => ?_)
      refine lv_bipush (v := (39 : Int32)) hx hb d_PatternParser_quoteEnds_17 (by decide) ?_
      refine lv_icmp_eq (tgt := 28) hx hb d_PatternParser_quoteEnds_19 rfl (fun hc => ?_) (fun hc => ?_)
      · have he := ih_t hc he
        refine lv_aload_n hx hb d_PatternParser_quoteEnds_28 rfl (lv_at hl 0 rfl) ?_
        refine lv_iload_n hx hb d_PatternParser_quoteEnds_29 rfl (lv_at hl 1 rfl) ?_
        refine lv_iconst (v := (1 : Int32)) hx hb d_PatternParser_quoteEnds_30 (by decide) ?_
        refine lv_iadd hx hb d_PatternParser_quoteEnds_31 ?_
        obtain ⟨u3, e4, he⟩ := ih_b he
        refine k_io (r_V (As := [.int (x2 + (1 : Int32))]) S X hA hP hD hS (c_Row_codeAt l D kk st a_q0 a_q0_cells _ n_q0_cells q0_size q0_cells (x2 + (1 : Int32)) u3 e4) gm_2_76 gm_2_73 gm_2_74 gm_2_75 gm_1_2 ⟨rfl, rfl, by decide, by decide⟩ kd_Row_codeAt [0, 1] rfl rfl rfl 0 1 rfl rfl rfl rfl hl.1 rfl (Nat.le_of_ble_eq_true rfl) d_PatternParser_quoteEnds_32 ⟨Nat.zero_le _, Nat.zero_le _⟩) hA hP hD hS [0, 1] rfl (fun H locs hP hS => ?_)
        refine lv_bipush (v := (39 : Int32)) hx hb d_PatternParser_quoteEnds_35 (by decide) ?_
        refine lv_icmp_ne (tgt := 46) hx hb d_PatternParser_quoteEnds_37 rfl (fun hc => ?_) (fun hc => ?_)
        · have he := ih_f hc he
          have hl : lv_has ls 3 [(0, .ref a_q0), (2, .int x2)] := lv_sub hl [0, 1] rfl
          cases he
          exact K _ rfl _ _ _ hl hP hD hS
        · have he := ih_t hc he
          refine lv_iinc (k := 1) hx hb d_PatternParser_quoteEnds_40 hl rfl (ii_ (v := (2 : Int32)) (by decide)) (by decide) rfl (fun ls hl => ?_)
          have hl : lv_has ls 3 [(2, .int (x2 + (2 : Int32))), (0, .ref a_q0)] := hl
          refine lv_goto (tgt := 4) hx hb d_PatternParser_quoteEnds_43 rfl ?_
          have hl : lv_has ls 3 [(0, .ref a_q0), (2, .int (x2 + (2 : Int32)))] := lv_sub hl [1, 0] rfl
          exact ih _ _ _ _ _ he hl hP hD hS hret K
      · have he := ih_f hc he
        refine lv_iinc (k := 1) hx hb d_PatternParser_quoteEnds_22 hl rfl (ii_ (v := (1 : Int32)) (by decide)) (by decide) rfl (fun ls hl => ?_)
        have hl : lv_has ls 3 [(2, .int (x2 + (1 : Int32))), (0, .ref a_q0)] := hl
        refine lv_goto (tgt := 4) hx hb d_PatternParser_quoteEnds_25 rfl ?_
        have hl : lv_has ls 3 [(0, .ref a_q0), (2, .int (x2 + (1 : Int32)))] := lv_sub hl [1, 0] rfl
        exact ih _ _ _ _ _ he hl hP hD hS hret K
set_option maxHeartbeats 4000000 in
set_option maxRecDepth 100000 in
theorem c_PatternParser_quoteEnds (l : Launch) (D : va_G) (kk : Nat → ClassId) (st : Nat → Nat) (a_q0 a_q0_cells : Nat) (sz : Nat) (n_q0_cells : Nat) (q0_size : Int32) (q0_cells : Nat → Int32) (x1 : Int32) (o : Int32) (he : f_PatternParser_quoteEnds n_q0_cells q0_size q0_cells x1 = some o) : Met l y_PatternParser_quoteEnds (Cond.code y_PatternParser_quoteEnds b_PatternParser_quoteEnds 3 (some .boolean) :: GW) rm_PatternParser_quoteEnds (KPc D kk st [.ref a_q0, .int x1] [(a_q0, .inr (1, [.ref a_q0_cells, .int q0_size])), (a_q0_cells, .inl (kk 1, n_q0_cells, .inl q0_cells))] sz) (KQi D kk o [(a_q0, .inr (1, [.ref a_q0_cells, .int q0_size])), (a_q0_cells, .inl (kk 1, n_q0_cells, .inl q0_cells))] (va_A [(a_q0, .inr (1, [.ref a_q0_cells, .int q0_size])), (a_q0_cells, .inl (kk 1, n_q0_cells, .inl q0_cells))] sz)) 0 0 (va_A [(a_q0, .inr (1, [.ref a_q0_cells, .int q0_size])), (a_q0_cells, .inl (kk 1, n_q0_cells, .inl q0_cells))] sz) := by
  refine k_start (Qc := fun A => KQi D kk o [(a_q0, .inr (1, [.ref a_q0_cells, .int q0_size])), (a_q0_cells, .inl (kk 1, n_q0_cells, .inl q0_cells))] A) (by decide) (Nat.le_of_ble_eq_true rfl) ?_
  intro p e s m below meth c A ls S hnm hr hlk hA X hP hD hS hl
  have hl : lv_has ls 3 [(0, .ref a_q0), (1, .int x1)] := hl
  have hx := S.1
  have hb := S.2.1
  unfold f_PatternParser_quoteEnds at he
  refine lv_iload_n hx hb d_PatternParser_quoteEnds_0 rfl (lv_at hl 1 rfl) ?_
  refine lv_iconst (v := (1 : Int32)) hx hb d_PatternParser_quoteEnds_1 (by decide) ?_
  refine lv_iadd hx hb d_PatternParser_quoteEnds_2 ?_
  refine lv_istore_n hx hb d_PatternParser_quoteEnds_3 rfl hl (by decide) rfl (fun ls hl => ?_)
  have hl : lv_has ls 3 [(2, .int (x1 + (1 : Int32))), (0, .ref a_q0), (1, .int x1)] := hl
  obtain ⟨u5, e6, he⟩ := ih_b he
  have hl : lv_has ls 3 [(0, .ref a_q0), (2, .int (x1 + (1 : Int32)))] := lv_sub hl [1, 0] rfl
  rcases u5 with o7 | v8
  · have he := sel_l he
    cases he
    exact w_PatternParser_quoteEnds_4 a_q0 a_q0_cells n_q0_cells q0_size q0_cells S hr hlk hA X FU (x1 + (1 : Int32)) _ _ _ ls e6 hl hP hD hS (fun o h => by cases h; rfl) (fun v h => by cases h)
  · have he := sel_r he
    refine w_PatternParser_quoteEnds_4 a_q0 a_q0_cells n_q0_cells q0_size q0_cells S hr hlk hA X FU (x1 + (1 : Int32)) _ _ _ ls e6 hl hP hD hS (fun o h => by cases h) (fun v h H locs ls hl hP hD hS => ?_)
    have h := Sum.inr.inj h
    subst h
    refine lv_iconst (v := (1 : Int32)) hx hb d_PatternParser_quoteEnds_46 (by decide) ?_
    cases he
    exact k_zre hx hb hr hlk X hP hD hS (Or.inr rfl) d_PatternParser_quoteEnds_47
abbrev rm_PatternParser_stepMark : Room := { frames := 2, cells := 0, slots := 0, locals := 45 }
set_option maxHeartbeats 4000000 in
set_option maxRecDepth 100000 in
theorem c_PatternParser_stepMark (l : Launch) (D : va_G) (kk : Nat → ClassId) (st : Nat → Nat) (a_t a_t_pattern a_t_pattern_kinds a_t_pattern_numbers a_q1 a_q1_cells a_t_open : Nat) (sz : Nat) (n_q1_cells : Nat) (t_depth : Int32) (t_quoted : Int32) (t_pattern_size : Int32) (t_pattern_kinds : Nat → Int32) (t_pattern_numbers : Nat → Int32) (q1_size : Int32) (q1_cells : Nat → Int32) (x2 : Int32) (o : Int32 × Int32 × Int32 × (Nat → Int32) × (Nat → Int32)) (he : f_PatternParser_stepMark n_q1_cells t_quoted t_pattern_size t_pattern_kinds t_pattern_numbers q1_size q1_cells x2 = some o) : Met l y_PatternParser_stepMark (Cond.code y_PatternParser_stepMark b_PatternParser_stepMark 3 (some .int) :: GW) rm_PatternParser_stepMark (KPc D kk st [.ref a_t, .ref a_q1, .int x2] [(a_t, .inr (3, [.ref a_t_pattern, .ref a_t_open, .int t_depth, .int t_quoted])), (a_t_pattern, .inr (2, [.ref a_t_pattern_kinds, .ref a_t_pattern_numbers, .int t_pattern_size])), (a_t_pattern_kinds, .inl (kk 0, 20, .inl t_pattern_kinds)), (a_t_pattern_numbers, .inl (kk 0, 20, .inl t_pattern_numbers)), (a_q1, .inr (1, [.ref a_q1_cells, .int q1_size])), (a_q1_cells, .inl (kk 1, n_q1_cells, .inl q1_cells))] sz) (KQi D kk o.1 [(a_t, .inr (3, [.ref a_t_pattern, .ref a_t_open, .int t_depth, .int o.2.1])), (a_t_pattern, .inr (2, [.ref a_t_pattern_kinds, .ref a_t_pattern_numbers, .int o.2.2.1])), (a_t_pattern_kinds, .inl (kk 0, 20, .inl o.2.2.2.1)), (a_t_pattern_numbers, .inl (kk 0, 20, .inl o.2.2.2.2)), (a_q1, .inr (1, [.ref a_q1_cells, .int q1_size])), (a_q1_cells, .inl (kk 1, n_q1_cells, .inl q1_cells))] (va_A [(a_t, .inr (3, [.ref a_t_pattern, .ref a_t_open, .int t_depth, .int t_quoted])), (a_t_pattern, .inr (2, [.ref a_t_pattern_kinds, .ref a_t_pattern_numbers, .int t_pattern_size])), (a_t_pattern_kinds, .inl (kk 0, 20, .inl t_pattern_kinds)), (a_t_pattern_numbers, .inl (kk 0, 20, .inl t_pattern_numbers)), (a_q1, .inr (1, [.ref a_q1_cells, .int q1_size])), (a_q1_cells, .inl (kk 1, n_q1_cells, .inl q1_cells))] sz)) 0 0 (va_A [(a_t, .inr (3, [.ref a_t_pattern, .ref a_t_open, .int t_depth, .int t_quoted])), (a_t_pattern, .inr (2, [.ref a_t_pattern_kinds, .ref a_t_pattern_numbers, .int t_pattern_size])), (a_t_pattern_kinds, .inl (kk 0, 20, .inl t_pattern_kinds)), (a_t_pattern_numbers, .inl (kk 0, 20, .inl t_pattern_numbers)), (a_q1, .inr (1, [.ref a_q1_cells, .int q1_size])), (a_q1_cells, .inl (kk 1, n_q1_cells, .inl q1_cells))] sz) := by
  refine k_start (Qc := fun A => KQi D kk o.1 [(a_t, .inr (3, [.ref a_t_pattern, .ref a_t_open, .int t_depth, .int o.2.1])), (a_t_pattern, .inr (2, [.ref a_t_pattern_kinds, .ref a_t_pattern_numbers, .int o.2.2.1])), (a_t_pattern_kinds, .inl (kk 0, 20, .inl o.2.2.2.1)), (a_t_pattern_numbers, .inl (kk 0, 20, .inl o.2.2.2.2)), (a_q1, .inr (1, [.ref a_q1_cells, .int q1_size])), (a_q1_cells, .inl (kk 1, n_q1_cells, .inl q1_cells))] A) (by decide) (Nat.le_of_ble_eq_true rfl) ?_
  intro p e s m below meth c A ls S hnm hr hlk hA X hP hD hS hl
  have hl : lv_has ls 3 [(0, .ref a_t), (1, .ref a_q1), (2, .int x2)] := hl
  have hx := S.1
  have hb := S.2.1
  unfold f_PatternParser_stepMark at he
  refine lv_aload_n hx hb d_PatternParser_stepMark_0 rfl (lv_at hl 1 rfl) ?_
  refine lv_iload_n hx hb d_PatternParser_stepMark_1 rfl (lv_at hl 2 rfl) ?_
  refine lv_iconst (v := (1 : Int32)) hx hb d_PatternParser_stepMark_2 (by decide) ?_
  refine lv_iadd hx hb d_PatternParser_stepMark_3 ?_
  obtain ⟨u1, e2, he⟩ := ih_b he
  refine k_io (r_V (As := [.int (x2 + (1 : Int32))]) S X hA hP hD hS (c_Row_codeAt l D kk st a_q1 a_q1_cells _ n_q1_cells q1_size q1_cells (x2 + (1 : Int32)) u1 e2) gm_2_76 gm_2_73 gm_2_74 gm_2_75 gm_1_2 ⟨rfl, rfl, by decide, by decide⟩ kd_Row_codeAt [4, 5] rfl rfl rfl 4 1 rfl rfl rfl rfl hl.1 rfl (Nat.le_of_ble_eq_true rfl) d_PatternParser_stepMark_4 ⟨Nat.zero_le _, Nat.zero_le _⟩) hA hP hD hS [4, 5] rfl (fun H locs hP hS => ?_)
  refine lv_bipush (v := (39 : Int32)) hx hb d_PatternParser_stepMark_7 (by decide) ?_
  refine lv_icmp_ne (tgt := 22) hx hb d_PatternParser_stepMark_9 rfl (fun hc => ?_) (fun hc => ?_)
  · have he := ih_f hc he
    refine lv_aload_n hx hb d_PatternParser_stepMark_22 rfl (lv_at hl 0 rfl) ?_
    refine k_get S X us_PatternParser hP 0 rfl rfl 3 (by decide) gm_1_78 rfl d_PatternParser_stepMark_23 ?_
    refine lv_if_ne (tgt := 39) hx hb d_PatternParser_stepMark_26 rfl (fun hc => ?_) (fun hc => ?_)
    · have he := ih_f hc he
      refine lv_aload_n hx hb d_PatternParser_stepMark_39 rfl (lv_at hl 0 rfl) ?_
      refine lv_aload_n hx hb d_PatternParser_stepMark_40 rfl (lv_at hl 0 rfl) ?_
      refine k_get S X us_PatternParser hP 0 rfl rfl 3 (by decide) gm_1_78 rfl d_PatternParser_stepMark_41 ?_
      refine lv_if_ne (tgt := 51) hx hb d_PatternParser_stepMark_44 rfl (fun hc => ?_) (fun hc => ?_)
      · have he := ih_f hc he
        refine lv_iconst (v := (0 : Int32)) hx hb d_PatternParser_stepMark_51 (by decide) ?_
        refine k_put S X us_PatternParser t_PatternParser t_PatternParser_ok n_PatternParser hP hD hS 0 rfl rfl 3 (by decide) gm_1_78 rfl (bo_n (Or.inl rfl)) (bo_f (Or.inl rfl)) (Nat.le_of_ble_eq_true rfl) d_PatternParser_stepMark_52 (fun H locs hP hD hS => ?_)
        have hP : va_P D classes [(a_t, .inr (3, [.ref a_t_pattern, .ref a_t_open, .int t_depth, .int (0 : Int32)])), (a_t_pattern, .inr (2, [.ref a_t_pattern_kinds, .ref a_t_pattern_numbers, .int t_pattern_size])), (a_t_pattern_kinds, .inl (kk 0, 20, .inl t_pattern_kinds)), (a_t_pattern_numbers, .inl (kk 0, 20, .inl t_pattern_numbers)), (a_q1, .inr (1, [.ref a_q1_cells, .int q1_size])), (a_q1_cells, .inl (kk 1, n_q1_cells, .inl q1_cells))] H := hP
        have hD : va_D A [(a_t, .inr (3, [.ref a_t_pattern, .ref a_t_open, .int t_depth, .int (0 : Int32)])), (a_t_pattern, .inr (2, [.ref a_t_pattern_kinds, .ref a_t_pattern_numbers, .int t_pattern_size])), (a_t_pattern_kinds, .inl (kk 0, 20, .inl t_pattern_kinds)), (a_t_pattern_numbers, .inl (kk 0, 20, .inl t_pattern_numbers)), (a_q1, .inr (1, [.ref a_q1_cells, .int q1_size])), (a_q1_cells, .inl (kk 1, n_q1_cells, .inl q1_cells))] := hD
        refine lv_iconst (v := (1 : Int32)) hx hb d_PatternParser_stepMark_55 (by decide) ?_
        cases he
        exact k_ire hx hb hr hlk X hP hD hS d_PatternParser_stepMark_56
      · have he := ih_t hc he
        refine lv_iconst (v := (1 : Int32)) hx hb d_PatternParser_stepMark_47 (by decide) ?_
        refine lv_goto (tgt := 52) hx hb d_PatternParser_stepMark_48 rfl ?_
        refine k_put S X us_PatternParser t_PatternParser t_PatternParser_ok n_PatternParser hP hD hS 0 rfl rfl 3 (by decide) gm_1_78 rfl (bo_n (Or.inr rfl)) (bo_f (Or.inr rfl)) (Nat.le_of_ble_eq_true rfl) d_PatternParser_stepMark_52 (fun H locs hP hD hS => ?_)
        have hP : va_P D classes [(a_t, .inr (3, [.ref a_t_pattern, .ref a_t_open, .int t_depth, .int (1 : Int32)])), (a_t_pattern, .inr (2, [.ref a_t_pattern_kinds, .ref a_t_pattern_numbers, .int t_pattern_size])), (a_t_pattern_kinds, .inl (kk 0, 20, .inl t_pattern_kinds)), (a_t_pattern_numbers, .inl (kk 0, 20, .inl t_pattern_numbers)), (a_q1, .inr (1, [.ref a_q1_cells, .int q1_size])), (a_q1_cells, .inl (kk 1, n_q1_cells, .inl q1_cells))] H := hP
        have hD : va_D A [(a_t, .inr (3, [.ref a_t_pattern, .ref a_t_open, .int t_depth, .int (1 : Int32)])), (a_t_pattern, .inr (2, [.ref a_t_pattern_kinds, .ref a_t_pattern_numbers, .int t_pattern_size])), (a_t_pattern_kinds, .inl (kk 0, 20, .inl t_pattern_kinds)), (a_t_pattern_numbers, .inl (kk 0, 20, .inl t_pattern_numbers)), (a_q1, .inr (1, [.ref a_q1_cells, .int q1_size])), (a_q1_cells, .inl (kk 1, n_q1_cells, .inl q1_cells))] := hD
        refine lv_iconst (v := (1 : Int32)) hx hb d_PatternParser_stepMark_55 (by decide) ?_
        cases he
        exact k_ire hx hb hr hlk X hP hD hS d_PatternParser_stepMark_56
    · have he := ih_t hc he
      refine lv_aload_n hx hb d_PatternParser_stepMark_29 rfl (lv_at hl 1 rfl) ?_
      refine lv_iload_n hx hb d_PatternParser_stepMark_30 rfl (lv_at hl 2 rfl) ?_
      obtain ⟨u3, e4, he⟩ := ih_b he
      refine k_io (r_S (As := [.ref a_q1, .int x2]) S X hA hP hD hS (c_PatternParser_quoteEnds l D kk st a_q1 a_q1_cells _ n_q1_cells q1_size q1_cells x2 u3 e4) gm_2_91 gm_2_89 gm_2_90 gm_1_3 ⟨rfl, rfl, by decide, by decide⟩ kd_PatternParser_quoteEnds [4, 5] rfl rfl rfl rfl hl.1 rfl (Nat.le_of_ble_eq_true rfl) d_PatternParser_stepMark_31 ⟨Nat.zero_le _, Nat.zero_le _⟩) hA hP hD hS [4, 5] rfl (fun H locs hP hS => ?_)
      refine lv_if_ne (tgt := 39) hx hb d_PatternParser_stepMark_34 rfl (fun hc => ?_) (fun hc => ?_)
      · have he := ih_f hc he
        refine lv_aload_n hx hb d_PatternParser_stepMark_39 rfl (lv_at hl 0 rfl) ?_
        refine lv_aload_n hx hb d_PatternParser_stepMark_40 rfl (lv_at hl 0 rfl) ?_
        refine k_get S X us_PatternParser hP 0 rfl rfl 3 (by decide) gm_1_78 rfl d_PatternParser_stepMark_41 ?_
        refine lv_if_ne (tgt := 51) hx hb d_PatternParser_stepMark_44 rfl (fun hc => ?_) (fun hc => ?_)
        · have he := ih_f hc he
          refine lv_iconst (v := (0 : Int32)) hx hb d_PatternParser_stepMark_51 (by decide) ?_
          refine k_put S X us_PatternParser t_PatternParser t_PatternParser_ok n_PatternParser hP hD hS 0 rfl rfl 3 (by decide) gm_1_78 rfl (bo_n (Or.inl rfl)) (bo_f (Or.inl rfl)) (Nat.le_of_ble_eq_true rfl) d_PatternParser_stepMark_52 (fun H locs hP hD hS => ?_)
          have hP : va_P D classes [(a_t, .inr (3, [.ref a_t_pattern, .ref a_t_open, .int t_depth, .int (0 : Int32)])), (a_t_pattern, .inr (2, [.ref a_t_pattern_kinds, .ref a_t_pattern_numbers, .int t_pattern_size])), (a_t_pattern_kinds, .inl (kk 0, 20, .inl t_pattern_kinds)), (a_t_pattern_numbers, .inl (kk 0, 20, .inl t_pattern_numbers)), (a_q1, .inr (1, [.ref a_q1_cells, .int q1_size])), (a_q1_cells, .inl (kk 1, n_q1_cells, .inl q1_cells))] H := hP
          have hD : va_D A [(a_t, .inr (3, [.ref a_t_pattern, .ref a_t_open, .int t_depth, .int (0 : Int32)])), (a_t_pattern, .inr (2, [.ref a_t_pattern_kinds, .ref a_t_pattern_numbers, .int t_pattern_size])), (a_t_pattern_kinds, .inl (kk 0, 20, .inl t_pattern_kinds)), (a_t_pattern_numbers, .inl (kk 0, 20, .inl t_pattern_numbers)), (a_q1, .inr (1, [.ref a_q1_cells, .int q1_size])), (a_q1_cells, .inl (kk 1, n_q1_cells, .inl q1_cells))] := hD
          refine lv_iconst (v := (1 : Int32)) hx hb d_PatternParser_stepMark_55 (by decide) ?_
          cases he
          exact k_ire hx hb hr hlk X hP hD hS d_PatternParser_stepMark_56
        · have he := ih_t hc he
          refine lv_iconst (v := (1 : Int32)) hx hb d_PatternParser_stepMark_47 (by decide) ?_
          refine lv_goto (tgt := 52) hx hb d_PatternParser_stepMark_48 rfl ?_
          refine k_put S X us_PatternParser t_PatternParser t_PatternParser_ok n_PatternParser hP hD hS 0 rfl rfl 3 (by decide) gm_1_78 rfl (bo_n (Or.inr rfl)) (bo_f (Or.inr rfl)) (Nat.le_of_ble_eq_true rfl) d_PatternParser_stepMark_52 (fun H locs hP hD hS => ?_)
          have hP : va_P D classes [(a_t, .inr (3, [.ref a_t_pattern, .ref a_t_open, .int t_depth, .int (1 : Int32)])), (a_t_pattern, .inr (2, [.ref a_t_pattern_kinds, .ref a_t_pattern_numbers, .int t_pattern_size])), (a_t_pattern_kinds, .inl (kk 0, 20, .inl t_pattern_kinds)), (a_t_pattern_numbers, .inl (kk 0, 20, .inl t_pattern_numbers)), (a_q1, .inr (1, [.ref a_q1_cells, .int q1_size])), (a_q1_cells, .inl (kk 1, n_q1_cells, .inl q1_cells))] H := hP
          have hD : va_D A [(a_t, .inr (3, [.ref a_t_pattern, .ref a_t_open, .int t_depth, .int (1 : Int32)])), (a_t_pattern, .inr (2, [.ref a_t_pattern_kinds, .ref a_t_pattern_numbers, .int t_pattern_size])), (a_t_pattern_kinds, .inl (kk 0, 20, .inl t_pattern_kinds)), (a_t_pattern_numbers, .inl (kk 0, 20, .inl t_pattern_numbers)), (a_q1, .inr (1, [.ref a_q1_cells, .int q1_size])), (a_q1_cells, .inl (kk 1, n_q1_cells, .inl q1_cells))] := hD
          refine lv_iconst (v := (1 : Int32)) hx hb d_PatternParser_stepMark_55 (by decide) ?_
          cases he
          exact k_ire hx hb hr hlk X hP hD hS d_PatternParser_stepMark_56
      · have he := ih_t hc he
        refine lv_iconst (v := (0 : Int32)) hx hb d_PatternParser_stepMark_37 (by decide) ?_
        cases he
        exact k_ire hx hb hr hlk X hP hD hS d_PatternParser_stepMark_38
  · have he := ih_t hc he
    refine lv_aload_n hx hb d_PatternParser_stepMark_12 rfl (lv_at hl 0 rfl) ?_
    refine lv_bipush (v := (15 : Int32)) hx hb d_PatternParser_stepMark_13 (by decide) ?_
    refine lv_bipush (v := (39 : Int32)) hx hb d_PatternParser_stepMark_15 (by decide) ?_
    refine lv_iconst (v := (2 : Int32)) hx hb d_PatternParser_stepMark_17 (by decide) ?_
    obtain ⟨u5, e6, he⟩ := ih_b he
    refine k_i (wr := [(a_q1, .inr (1, [.ref a_q1_cells, .int q1_size])), (a_q1_cells, .inl (kk 1, n_q1_cells, .inl q1_cells))]) (w1 := [(a_t, .inr (3, [.ref a_t_pattern, .ref a_t_open, .int t_depth, .int t_quoted])), (a_t_pattern, .inr (2, [.ref a_t_pattern_kinds, .ref a_t_pattern_numbers, .int u5.2.1])), (a_t_pattern_kinds, .inl (kk 0, 20, .inl u5.2.2.1)), (a_t_pattern_numbers, .inl (kk 0, 20, .inl u5.2.2.2))]) (w2 := [(a_t, .inr (3, [.ref a_t_pattern, .ref a_t_open, .int t_depth, .int t_quoted])), (a_t_pattern, .inr (2, [.ref a_t_pattern_kinds, .ref a_t_pattern_numbers, .int u5.2.1])), (a_t_pattern_kinds, .inl (kk 0, 20, .inl u5.2.2.1)), (a_t_pattern_numbers, .inl (kk 0, 20, .inl u5.2.2.2)), (a_q1, .inr (1, [.ref a_q1_cells, .int q1_size])), (a_q1_cells, .inl (kk 1, n_q1_cells, .inl q1_cells))]) (r_V (As := [.int (15 : Int32), .int (39 : Int32), .int (2 : Int32)]) S X hA hP hD hS (c_PatternParser_added l D kk st a_t a_t_pattern a_t_pattern_kinds a_t_pattern_numbers a_t_open _ t_depth t_quoted t_pattern_size t_pattern_kinds t_pattern_numbers (15 : Int32) (39 : Int32) (2 : Int32) u5 e6) gm_2_84 gm_2_81 gm_2_83 gm_p1_4 gm_1_3 ⟨rfl, rfl, by decide, by decide⟩ kd_PatternParser_added [0, 1, 2, 3] rfl rfl rfl 0 3 rfl rfl rfl rfl hl.1 rfl (Nat.le_of_ble_eq_true rfl) d_PatternParser_stepMark_18 ⟨Nat.zero_le _, Nat.zero_le _⟩) hA hP hD hS [0, 1, 2, 3] [4, 5] [2, 3, 4, 5, 0, 1] rfl rfl rfl (by decide) rfl rfl rfl (fun H locs hP hD hS => ?_)
    cases he
    exact k_ire hx hb hr hlk X hP hD hS d_PatternParser_stepMark_21
abbrev rm_PatternParser_stepRun : Room := { frames := 4, cells := 0, slots := 0, locals := 91 }
set_option maxHeartbeats 4000000 in
set_option maxRecDepth 100000 in
theorem c_PatternParser_stepRun (l : Launch) (D : va_G) (kk : Nat → ClassId) (st : Nat → Nat) (a_t a_t_pattern a_t_pattern_kinds a_t_pattern_numbers a_q1 a_q1_cells a_t_open : Nat) (sz : Nat) (n_q1_cells : Nat) (t_depth : Int32) (t_quoted : Int32) (t_pattern_size : Int32) (t_pattern_kinds : Nat → Int32) (t_pattern_numbers : Nat → Int32) (q1_size : Int32) (q1_cells : Nat → Int32) (x2 : Int32) (o : Int32 × Int32 × (Nat → Int32) × (Nat → Int32)) (he : f_PatternParser_stepRun n_q1_cells t_pattern_size t_pattern_kinds t_pattern_numbers q1_size q1_cells x2 = some o) : Met l y_PatternParser_stepRun (Cond.code y_PatternParser_stepRun b_PatternParser_stepRun 5 (some .int) :: GW) rm_PatternParser_stepRun (KPc D kk st [.ref a_t, .ref a_q1, .int x2] [(a_t, .inr (3, [.ref a_t_pattern, .ref a_t_open, .int t_depth, .int t_quoted])), (a_t_pattern, .inr (2, [.ref a_t_pattern_kinds, .ref a_t_pattern_numbers, .int t_pattern_size])), (a_t_pattern_kinds, .inl (kk 0, 20, .inl t_pattern_kinds)), (a_t_pattern_numbers, .inl (kk 0, 20, .inl t_pattern_numbers)), (a_q1, .inr (1, [.ref a_q1_cells, .int q1_size])), (a_q1_cells, .inl (kk 1, n_q1_cells, .inl q1_cells))] sz) (KQi D kk o.1 [(a_t, .inr (3, [.ref a_t_pattern, .ref a_t_open, .int t_depth, .int t_quoted])), (a_t_pattern, .inr (2, [.ref a_t_pattern_kinds, .ref a_t_pattern_numbers, .int o.2.1])), (a_t_pattern_kinds, .inl (kk 0, 20, .inl o.2.2.1)), (a_t_pattern_numbers, .inl (kk 0, 20, .inl o.2.2.2)), (a_q1, .inr (1, [.ref a_q1_cells, .int q1_size])), (a_q1_cells, .inl (kk 1, n_q1_cells, .inl q1_cells))] (va_A [(a_t, .inr (3, [.ref a_t_pattern, .ref a_t_open, .int t_depth, .int t_quoted])), (a_t_pattern, .inr (2, [.ref a_t_pattern_kinds, .ref a_t_pattern_numbers, .int t_pattern_size])), (a_t_pattern_kinds, .inl (kk 0, 20, .inl t_pattern_kinds)), (a_t_pattern_numbers, .inl (kk 0, 20, .inl t_pattern_numbers)), (a_q1, .inr (1, [.ref a_q1_cells, .int q1_size])), (a_q1_cells, .inl (kk 1, n_q1_cells, .inl q1_cells))] sz)) 0 0 (va_A [(a_t, .inr (3, [.ref a_t_pattern, .ref a_t_open, .int t_depth, .int t_quoted])), (a_t_pattern, .inr (2, [.ref a_t_pattern_kinds, .ref a_t_pattern_numbers, .int t_pattern_size])), (a_t_pattern_kinds, .inl (kk 0, 20, .inl t_pattern_kinds)), (a_t_pattern_numbers, .inl (kk 0, 20, .inl t_pattern_numbers)), (a_q1, .inr (1, [.ref a_q1_cells, .int q1_size])), (a_q1_cells, .inl (kk 1, n_q1_cells, .inl q1_cells))] sz) := by
  refine k_start (Qc := fun A => KQi D kk o.1 [(a_t, .inr (3, [.ref a_t_pattern, .ref a_t_open, .int t_depth, .int t_quoted])), (a_t_pattern, .inr (2, [.ref a_t_pattern_kinds, .ref a_t_pattern_numbers, .int o.2.1])), (a_t_pattern_kinds, .inl (kk 0, 20, .inl o.2.2.1)), (a_t_pattern_numbers, .inl (kk 0, 20, .inl o.2.2.2)), (a_q1, .inr (1, [.ref a_q1_cells, .int q1_size])), (a_q1_cells, .inl (kk 1, n_q1_cells, .inl q1_cells))] A) (by decide) (Nat.le_of_ble_eq_true rfl) ?_
  intro p e s m below meth c A ls S hnm hr hlk hA X hP hD hS hl
  have hl : lv_has ls 5 [(0, .ref a_t), (1, .ref a_q1), (2, .int x2)] := hl
  have hx := S.1
  have hb := S.2.1
  unfold f_PatternParser_stepRun at he
  refine va_ldcS hx hb S.2.2.2.1 X.2.1.2.1 d_PatternParser_stepRun_0 ?_
  refine lv_aload_n hx hb d_PatternParser_stepRun_2 rfl (lv_at hl 1 rfl) ?_
  refine lv_iload_n hx hb d_PatternParser_stepRun_3 rfl (lv_at hl 2 rfl) ?_
  obtain ⟨u1, e2, he⟩ := ih_b he
  refine k_io (r_V (As := [.int x2]) S X hA hP hD hS (c_Row_codeAt l D kk st a_q1 a_q1_cells _ n_q1_cells q1_size q1_cells x2 u1 e2) gm_2_76 gm_2_73 gm_2_74 gm_2_75 gm_1_2 ⟨rfl, rfl, by decide, by decide⟩ kd_Row_codeAt [4, 5] rfl rfl rfl 4 1 rfl rfl rfl rfl hl.1 rfl (Nat.le_of_ble_eq_true rfl) d_PatternParser_stepRun_4 ⟨Nat.zero_le _, Nat.zero_le _⟩) hA hP hD hS [4, 5] rfl (fun H locs hP hS => ?_)
  refine lv_i2c hx hb d_PatternParser_stepRun_7 rfl ?_
  obtain ⟨u3, e4, he⟩ := ih_b he
  refine k_io (r_VH (As := [.int (((Int32.toUInt32 u1) % 65536).toInt32)]) S X hA hP hD hS (c_String_indexOf_I l D kk st _ 0 (by decide) (((Int32.toUInt32 u1) % 65536).toInt32) u3 e4) gm_2_100 gm_2_97 gm_2_98 gm_2_99 gm_1_14 ⟨rfl, rfl, by decide, by decide⟩ kd_String_indexOf_I [] rfl rfl rfl (SW.rv X.2.2 0 (by decide) hS) rfl hl.1 rfl (Nat.le_of_ble_eq_true rfl) d_PatternParser_stepRun_8 ⟨Nat.zero_le _, Nat.zero_le _⟩) hA hP hD hS [] rfl (fun H locs hP hS => ?_)
  refine lv_istore_n hx hb d_PatternParser_stepRun_11 rfl hl (by decide) rfl (fun ls hl => ?_)
  have hl : lv_has ls 5 [(3, .int u3), (0, .ref a_t), (1, .ref a_q1), (2, .int x2)] := hl
  refine lv_aload_n hx hb d_PatternParser_stepRun_12 rfl (lv_at hl 2 rfl) ?_
  refine lv_iload_n hx hb d_PatternParser_stepRun_13 rfl (lv_at hl 3 rfl) ?_
  obtain ⟨u5, e6, he⟩ := ih_b he
  refine k_io (r_V (As := [.int x2]) S X hA hP hD hS (c_Row_runLength l D kk st a_q1 a_q1_cells _ n_q1_cells q1_size q1_cells x2 u5 e6) gm_2_186 gm_2_183 gm_2_184 gm_2_185 gm_1_2 ⟨rfl, rfl, by decide, by decide⟩ kd_Row_runLength [4, 5] rfl rfl rfl 4 1 rfl rfl rfl rfl hl.1 rfl (Nat.le_of_ble_eq_true rfl) d_PatternParser_stepRun_14 ⟨Nat.zero_le _, Nat.zero_le _⟩) hA hP hD hS [4, 5] rfl (fun H locs hP hS => ?_)
  refine lv_istore hx hb d_PatternParser_stepRun_17 hl (by decide) rfl (fun ls hl => ?_)
  have hl : lv_has ls 5 [(4, .int u5), (3, .int u3), (0, .ref a_t), (1, .ref a_q1), (2, .int x2)] := hl
  refine lv_iload_n hx hb d_PatternParser_stepRun_19 rfl (lv_at hl 1 rfl) ?_
  refine lv_iload hx hb d_PatternParser_stepRun_20 (lv_at hl 0 rfl) ?_
  obtain ⟨u7, e8, he⟩ := ih_b he
  refine k_io (r_S (As := [.int u3, .int u5]) S X hA hP hD hS (c_Pattern_isAllowed l D kk st _ u3 u5 u7 e8) gm_2_190 gm_2_188 gm_2_189 gm_1_4 ⟨rfl, rfl, by decide, by decide⟩ kd_Pattern_isAllowed [] rfl rfl rfl rfl hl.1 rfl (Nat.le_of_ble_eq_true rfl) d_PatternParser_stepRun_22 ⟨Nat.zero_le _, Nat.zero_le _⟩) hA hP hD hS [] rfl (fun H locs hP hS => ?_)
  refine lv_if_eq (tgt := 40) hx hb d_PatternParser_stepRun_25 rfl (fun hc => ?_) (fun hc => ?_)
  · have he := ih_t hc he
    refine lv_iconst (v := (0 : Int32)) hx hb d_PatternParser_stepRun_40 (by decide) ?_
    cases he
    exact k_ire hx hb hr hlk X hP hD hS d_PatternParser_stepRun_41
  · have he := ih_f hc he
    refine lv_aload_n hx hb d_PatternParser_stepRun_28 rfl (lv_at hl 2 rfl) ?_
    refine lv_iload_n hx hb d_PatternParser_stepRun_29 rfl (lv_at hl 1 rfl) ?_
    refine lv_iload hx hb d_PatternParser_stepRun_30 (lv_at hl 0 rfl) ?_
    refine lv_iload hx hb d_PatternParser_stepRun_32 (lv_at hl 0 rfl) ?_
    obtain ⟨u9, e10, he⟩ := ih_b he
    refine k_i (wr := [(a_q1, .inr (1, [.ref a_q1_cells, .int q1_size])), (a_q1_cells, .inl (kk 1, n_q1_cells, .inl q1_cells))]) (w1 := [(a_t, .inr (3, [.ref a_t_pattern, .ref a_t_open, .int t_depth, .int t_quoted])), (a_t_pattern, .inr (2, [.ref a_t_pattern_kinds, .ref a_t_pattern_numbers, .int u9.2.1])), (a_t_pattern_kinds, .inl (kk 0, 20, .inl u9.2.2.1)), (a_t_pattern_numbers, .inl (kk 0, 20, .inl u9.2.2.2))]) (w2 := [(a_t, .inr (3, [.ref a_t_pattern, .ref a_t_open, .int t_depth, .int t_quoted])), (a_t_pattern, .inr (2, [.ref a_t_pattern_kinds, .ref a_t_pattern_numbers, .int u9.2.1])), (a_t_pattern_kinds, .inl (kk 0, 20, .inl u9.2.2.1)), (a_t_pattern_numbers, .inl (kk 0, 20, .inl u9.2.2.2)), (a_q1, .inr (1, [.ref a_q1_cells, .int q1_size])), (a_q1_cells, .inl (kk 1, n_q1_cells, .inl q1_cells))]) (r_V (As := [.int u3, .int u5, .int u5]) S X hA hP hD hS (c_PatternParser_added l D kk st a_t a_t_pattern a_t_pattern_kinds a_t_pattern_numbers a_t_open _ t_depth t_quoted t_pattern_size t_pattern_kinds t_pattern_numbers u3 u5 u5 u9 e10) gm_2_84 gm_2_81 gm_2_83 gm_p1_4 gm_1_3 ⟨rfl, rfl, by decide, by decide⟩ kd_PatternParser_added [0, 1, 2, 3] rfl rfl rfl 0 3 rfl rfl rfl rfl hl.1 rfl (Nat.le_of_ble_eq_true rfl) d_PatternParser_stepRun_34 ⟨Nat.zero_le _, Nat.zero_le _⟩) hA hP hD hS [0, 1, 2, 3] [4, 5] [2, 3, 4, 5, 0, 1] rfl rfl rfl (by decide) rfl rfl rfl (fun H locs hP hD hS => ?_)
    refine lv_goto (tgt := 41) hx hb d_PatternParser_stepRun_37 rfl ?_
    cases he
    exact k_ire hx hb hr hlk X hP hD hS d_PatternParser_stepRun_41
abbrev rm_PatternParser_stepOpen : Room := { frames := 1, cells := 0, slots := 0, locals := 22 }
set_option maxHeartbeats 4000000 in
set_option maxRecDepth 100000 in
theorem c_PatternParser_stepOpen (l : Launch) (D : va_G) (kk : Nat → ClassId) (st : Nat → Nat) (a_t a_t_pattern a_t_pattern_kinds a_t_pattern_numbers a_t_open : Nat) (sz : Nat) (t_depth : Int32) (t_quoted : Int32) (t_pattern_size : Int32) (t_pattern_kinds : Nat → Int32) (t_pattern_numbers : Nat → Int32) (t_open : Nat → Int32) (o : Int32 × Int32 × Int32 × (Nat → Int32) × (Nat → Int32) × (Nat → Int32)) (he : f_PatternParser_stepOpen t_depth t_pattern_size t_pattern_kinds t_pattern_numbers t_open = some o) : Met l y_PatternParser_stepOpen (Cond.code y_PatternParser_stepOpen b_PatternParser_stepOpen 2 (some .int) :: GW) rm_PatternParser_stepOpen (KPc D kk st [.ref a_t] [(a_t, .inr (3, [.ref a_t_pattern, .ref a_t_open, .int t_depth, .int t_quoted])), (a_t_pattern, .inr (2, [.ref a_t_pattern_kinds, .ref a_t_pattern_numbers, .int t_pattern_size])), (a_t_pattern_kinds, .inl (kk 0, 20, .inl t_pattern_kinds)), (a_t_pattern_numbers, .inl (kk 0, 20, .inl t_pattern_numbers)), (a_t_open, .inl (kk 0, 20, .inl t_open))] sz) (KQi D kk o.1 [(a_t, .inr (3, [.ref a_t_pattern, .ref a_t_open, .int o.2.1, .int t_quoted])), (a_t_pattern, .inr (2, [.ref a_t_pattern_kinds, .ref a_t_pattern_numbers, .int o.2.2.1])), (a_t_pattern_kinds, .inl (kk 0, 20, .inl o.2.2.2.1)), (a_t_pattern_numbers, .inl (kk 0, 20, .inl o.2.2.2.2.1)), (a_t_open, .inl (kk 0, 20, .inl o.2.2.2.2.2))] (va_A [(a_t, .inr (3, [.ref a_t_pattern, .ref a_t_open, .int t_depth, .int t_quoted])), (a_t_pattern, .inr (2, [.ref a_t_pattern_kinds, .ref a_t_pattern_numbers, .int t_pattern_size])), (a_t_pattern_kinds, .inl (kk 0, 20, .inl t_pattern_kinds)), (a_t_pattern_numbers, .inl (kk 0, 20, .inl t_pattern_numbers)), (a_t_open, .inl (kk 0, 20, .inl t_open))] sz)) 0 0 (va_A [(a_t, .inr (3, [.ref a_t_pattern, .ref a_t_open, .int t_depth, .int t_quoted])), (a_t_pattern, .inr (2, [.ref a_t_pattern_kinds, .ref a_t_pattern_numbers, .int t_pattern_size])), (a_t_pattern_kinds, .inl (kk 0, 20, .inl t_pattern_kinds)), (a_t_pattern_numbers, .inl (kk 0, 20, .inl t_pattern_numbers)), (a_t_open, .inl (kk 0, 20, .inl t_open))] sz) := by
  refine k_start (Qc := fun A => KQi D kk o.1 [(a_t, .inr (3, [.ref a_t_pattern, .ref a_t_open, .int o.2.1, .int t_quoted])), (a_t_pattern, .inr (2, [.ref a_t_pattern_kinds, .ref a_t_pattern_numbers, .int o.2.2.1])), (a_t_pattern_kinds, .inl (kk 0, 20, .inl o.2.2.2.1)), (a_t_pattern_numbers, .inl (kk 0, 20, .inl o.2.2.2.2.1)), (a_t_open, .inl (kk 0, 20, .inl o.2.2.2.2.2))] A) (by decide) (Nat.le_of_ble_eq_true rfl) ?_
  intro p e s m below meth c A ls S hnm hr hlk hA X hP hD hS hl
  have hl : lv_has ls 2 [(0, .ref a_t)] := hl
  have hx := S.1
  have hb := S.2.1
  unfold f_PatternParser_stepOpen at he
  refine lv_aload_n hx hb d_PatternParser_stepOpen_0 rfl (lv_at hl 0 rfl) ?_
  refine k_get S X us_PatternParser hP 0 rfl rfl 0 (by decide) gm_1_74 rfl d_PatternParser_stepOpen_1 ?_
  refine k_get S X us_Pattern hP 1 rfl rfl 2 (by decide) gm_1_63 rfl d_PatternParser_stepOpen_4 ?_
  refine lv_istore_n hx hb d_PatternParser_stepOpen_7 rfl hl (by decide) rfl (fun ls hl => ?_)
  have hl : lv_has ls 2 [(1, .int t_pattern_size), (0, .ref a_t)] := hl
  refine lv_aload_n hx hb d_PatternParser_stepOpen_8 rfl (lv_at hl 1 rfl) ?_
  refine k_get S X us_PatternParser hP 0 rfl rfl 2 (by decide) gm_1_77 rfl d_PatternParser_stepOpen_9 ?_
  refine lv_aload_n hx hb d_PatternParser_stepOpen_12 rfl (lv_at hl 1 rfl) ?_
  refine k_get S X us_PatternParser hP 0 rfl rfl 1 (by decide) gm_1_76 rfl d_PatternParser_stepOpen_13 ?_
  refine va_alen (v := (20 : Int32)) hx hb X.1 hP 4 0 rfl rfl rfl d_PatternParser_stepOpen_16 ?_
  refine lv_icmp_ge (tgt := 33) hx hb d_PatternParser_stepOpen_17 rfl (fun hc => ?_) (fun hc => ?_)
  · have he := ih_t hc he
    refine lv_iconst (v := (0 : Int32)) hx hb d_PatternParser_stepOpen_33 (by decide) ?_
    cases he
    exact k_ire hx hb hr hlk X hP hD hS d_PatternParser_stepOpen_34
  · have he := ih_f hc he
    refine lv_aload_n hx hb d_PatternParser_stepOpen_20 rfl (lv_at hl 1 rfl) ?_
    refine k_get S X us_PatternParser hP 0 rfl rfl 0 (by decide) gm_1_74 rfl d_PatternParser_stepOpen_21 ?_
    refine lv_bipush (v := (16 : Int32)) hx hb d_PatternParser_stepOpen_24 (by decide) ?_
    refine lv_iconst (v := (0 : Int32)) hx hb d_PatternParser_stepOpen_26 (by decide) ?_
    obtain ⟨u1, e2, he⟩ := ih_b he
    refine k_i (wr := [(a_t, .inr (3, [.ref a_t_pattern, .ref a_t_open, .int t_depth, .int t_quoted])), (a_t_open, .inl (kk 0, 20, .inl t_open))]) (w1 := [(a_t_pattern, .inr (2, [.ref a_t_pattern_kinds, .ref a_t_pattern_numbers, .int u1.2.1])), (a_t_pattern_kinds, .inl (kk 0, 20, .inl u1.2.2.1)), (a_t_pattern_numbers, .inl (kk 0, 20, .inl u1.2.2.2))]) (w2 := [(a_t, .inr (3, [.ref a_t_pattern, .ref a_t_open, .int t_depth, .int t_quoted])), (a_t_pattern, .inr (2, [.ref a_t_pattern_kinds, .ref a_t_pattern_numbers, .int u1.2.1])), (a_t_pattern_kinds, .inl (kk 0, 20, .inl u1.2.2.1)), (a_t_pattern_numbers, .inl (kk 0, 20, .inl u1.2.2.2)), (a_t_open, .inl (kk 0, 20, .inl t_open))]) (r_V (As := [.int (16 : Int32), .int (0 : Int32)]) S X hA hP hD hS (c_Pattern_add l D kk st a_t_pattern a_t_pattern_kinds a_t_pattern_numbers _ t_pattern_size t_pattern_kinds t_pattern_numbers (16 : Int32) (0 : Int32) u1 e2) gm_2_88 gm_2_85 gm_2_86 gm_2_87 gm_1_4 ⟨rfl, rfl, by decide, by decide⟩ kd_Pattern_add [1, 2, 3] rfl rfl rfl 1 2 rfl rfl rfl rfl hl.1 rfl (Nat.le_of_ble_eq_true rfl) d_PatternParser_stepOpen_27 ⟨Nat.zero_le _, Nat.zero_le _⟩) hA hP hD hS [1, 2, 3] [0, 4] [0, 2, 3, 4, 1] rfl rfl rfl (by decide) rfl rfl rfl (fun H locs hP hD hS => ?_)
    refine lv_if_ne (tgt := 35) hx hb d_PatternParser_stepOpen_30 rfl (fun hc => ?_) (fun hc => ?_)
    · have he := ih_f hc he
      refine lv_aload_n hx hb d_PatternParser_stepOpen_35 rfl (lv_at hl 1 rfl) ?_
      refine k_get S X us_PatternParser hP 0 rfl rfl 1 (by decide) gm_1_76 rfl d_PatternParser_stepOpen_36 ?_
      refine lv_aload_n hx hb d_PatternParser_stepOpen_39 rfl (lv_at hl 1 rfl) ?_
      refine k_get S X us_PatternParser hP 0 rfl rfl 2 (by decide) gm_1_77 rfl d_PatternParser_stepOpen_40 ?_
      refine lv_iload_n hx hb d_PatternParser_stepOpen_43 rfl (lv_at hl 0 rfl) ?_
      obtain ⟨hi3, he⟩ := ih_g he
      refine va_iast hx hb X.1 hP hD hS 4 0 rfl rfl hi3 d_PatternParser_stepOpen_44 (fun H locs hP hD hS => ?_)
      have hP : va_P D classes [(a_t, .inr (3, [.ref a_t_pattern, .ref a_t_open, .int t_depth, .int t_quoted])), (a_t_pattern, .inr (2, [.ref a_t_pattern_kinds, .ref a_t_pattern_numbers, .int u1.2.1])), (a_t_pattern_kinds, .inl (kk 0, 20, .inl u1.2.2.1)), (a_t_pattern_numbers, .inl (kk 0, 20, .inl u1.2.2.2)), (a_t_open, .inl (kk 0, 20, .inl (upd t_open (t_depth).toNatClampNeg t_pattern_size)))] H := hP
      have hD : va_D A [(a_t, .inr (3, [.ref a_t_pattern, .ref a_t_open, .int t_depth, .int t_quoted])), (a_t_pattern, .inr (2, [.ref a_t_pattern_kinds, .ref a_t_pattern_numbers, .int u1.2.1])), (a_t_pattern_kinds, .inl (kk 0, 20, .inl u1.2.2.1)), (a_t_pattern_numbers, .inl (kk 0, 20, .inl u1.2.2.2)), (a_t_open, .inl (kk 0, 20, .inl (upd t_open (t_depth).toNatClampNeg t_pattern_size)))] := hD
      refine lv_aload_n hx hb d_PatternParser_stepOpen_45 rfl (lv_at hl 1 rfl) ?_
      refine lv_dup hx hb d_PatternParser_stepOpen_46 rfl ?_
      refine k_get S X us_PatternParser hP 0 rfl rfl 2 (by decide) gm_1_77 rfl d_PatternParser_stepOpen_47 ?_
      refine lv_iconst (v := (1 : Int32)) hx hb d_PatternParser_stepOpen_50 (by decide) ?_
      refine lv_iadd hx hb d_PatternParser_stepOpen_51 ?_
      refine k_put S X us_PatternParser t_PatternParser t_PatternParser_ok n_PatternParser hP hD hS 0 rfl rfl 2 (by decide) gm_1_77 rfl rfl rfl (Nat.le_of_ble_eq_true rfl) d_PatternParser_stepOpen_52 (fun H locs hP hD hS => ?_)
      have hP : va_P D classes [(a_t, .inr (3, [.ref a_t_pattern, .ref a_t_open, .int (t_depth + (1 : Int32)), .int t_quoted])), (a_t_pattern, .inr (2, [.ref a_t_pattern_kinds, .ref a_t_pattern_numbers, .int u1.2.1])), (a_t_pattern_kinds, .inl (kk 0, 20, .inl u1.2.2.1)), (a_t_pattern_numbers, .inl (kk 0, 20, .inl u1.2.2.2)), (a_t_open, .inl (kk 0, 20, .inl (upd t_open (t_depth).toNatClampNeg t_pattern_size)))] H := hP
      have hD : va_D A [(a_t, .inr (3, [.ref a_t_pattern, .ref a_t_open, .int (t_depth + (1 : Int32)), .int t_quoted])), (a_t_pattern, .inr (2, [.ref a_t_pattern_kinds, .ref a_t_pattern_numbers, .int u1.2.1])), (a_t_pattern_kinds, .inl (kk 0, 20, .inl u1.2.2.1)), (a_t_pattern_numbers, .inl (kk 0, 20, .inl u1.2.2.2)), (a_t_open, .inl (kk 0, 20, .inl (upd t_open (t_depth).toNatClampNeg t_pattern_size)))] := hD
      refine lv_iconst (v := (1 : Int32)) hx hb d_PatternParser_stepOpen_55 (by decide) ?_
      cases he
      exact k_ire hx hb hr hlk X hP hD hS d_PatternParser_stepOpen_56
    · have he := ih_t hc he
      refine lv_iconst (v := (0 : Int32)) hx hb d_PatternParser_stepOpen_33 (by decide) ?_
      cases he
      exact k_ire hx hb hr hlk X hP hD hS d_PatternParser_stepOpen_34
abbrev rm_PatternParser_stepClose : Room := { frames := 1, cells := 0, slots := 0, locals := 21 }
set_option maxHeartbeats 4000000 in
set_option maxRecDepth 100000 in
theorem c_PatternParser_stepClose (l : Launch) (D : va_G) (kk : Nat → ClassId) (st : Nat → Nat) (a_t a_t_pattern a_t_pattern_numbers a_t_open a_t_pattern_kinds : Nat) (sz : Nat) (t_depth : Int32) (t_quoted : Int32) (t_pattern_size : Int32) (t_pattern_numbers : Nat → Int32) (t_open : Nat → Int32) (o : Int32 × Int32 × (Nat → Int32)) (he : f_PatternParser_stepClose t_depth t_pattern_size t_pattern_numbers t_open = some o) : Met l y_PatternParser_stepClose (Cond.code y_PatternParser_stepClose b_PatternParser_stepClose 1 (some .int) :: GW) rm_PatternParser_stepClose (KPc D kk st [.ref a_t] [(a_t, .inr (3, [.ref a_t_pattern, .ref a_t_open, .int t_depth, .int t_quoted])), (a_t_pattern, .inr (2, [.ref a_t_pattern_kinds, .ref a_t_pattern_numbers, .int t_pattern_size])), (a_t_pattern_numbers, .inl (kk 0, 20, .inl t_pattern_numbers)), (a_t_open, .inl (kk 0, 20, .inl t_open))] sz) (KQi D kk o.1 [(a_t, .inr (3, [.ref a_t_pattern, .ref a_t_open, .int o.2.1, .int t_quoted])), (a_t_pattern, .inr (2, [.ref a_t_pattern_kinds, .ref a_t_pattern_numbers, .int t_pattern_size])), (a_t_pattern_numbers, .inl (kk 0, 20, .inl o.2.2)), (a_t_open, .inl (kk 0, 20, .inl t_open))] (va_A [(a_t, .inr (3, [.ref a_t_pattern, .ref a_t_open, .int t_depth, .int t_quoted])), (a_t_pattern, .inr (2, [.ref a_t_pattern_kinds, .ref a_t_pattern_numbers, .int t_pattern_size])), (a_t_pattern_numbers, .inl (kk 0, 20, .inl t_pattern_numbers)), (a_t_open, .inl (kk 0, 20, .inl t_open))] sz)) 0 0 (va_A [(a_t, .inr (3, [.ref a_t_pattern, .ref a_t_open, .int t_depth, .int t_quoted])), (a_t_pattern, .inr (2, [.ref a_t_pattern_kinds, .ref a_t_pattern_numbers, .int t_pattern_size])), (a_t_pattern_numbers, .inl (kk 0, 20, .inl t_pattern_numbers)), (a_t_open, .inl (kk 0, 20, .inl t_open))] sz) := by
  refine k_start (Qc := fun A => KQi D kk o.1 [(a_t, .inr (3, [.ref a_t_pattern, .ref a_t_open, .int o.2.1, .int t_quoted])), (a_t_pattern, .inr (2, [.ref a_t_pattern_kinds, .ref a_t_pattern_numbers, .int t_pattern_size])), (a_t_pattern_numbers, .inl (kk 0, 20, .inl o.2.2)), (a_t_open, .inl (kk 0, 20, .inl t_open))] A) (by decide) (Nat.le_of_ble_eq_true rfl) ?_
  intro p e s m below meth c A ls S hnm hr hlk hA X hP hD hS hl
  have hl : lv_has ls 1 [(0, .ref a_t)] := hl
  have hx := S.1
  have hb := S.2.1
  unfold f_PatternParser_stepClose at he
  refine lv_aload_n hx hb d_PatternParser_stepClose_0 rfl (lv_at hl 0 rfl) ?_
  refine k_get S X us_PatternParser hP 0 rfl rfl 2 (by decide) gm_1_77 rfl d_PatternParser_stepClose_1 ?_
  refine lv_if_gt (tgt := 9) hx hb d_PatternParser_stepClose_4 rfl (fun hc => ?_) (fun hc => ?_)
  · have he := ih_t hc he
    refine lv_aload_n hx hb d_PatternParser_stepClose_9 rfl (lv_at hl 0 rfl) ?_
    refine lv_dup hx hb d_PatternParser_stepClose_10 rfl ?_
    refine k_get S X us_PatternParser hP 0 rfl rfl 2 (by decide) gm_1_77 rfl d_PatternParser_stepClose_11 ?_
    refine lv_iconst (v := (1 : Int32)) hx hb d_PatternParser_stepClose_14 (by decide) ?_
    refine lv_isub hx hb d_PatternParser_stepClose_15 ?_
    refine k_put S X us_PatternParser t_PatternParser t_PatternParser_ok n_PatternParser hP hD hS 0 rfl rfl 2 (by decide) gm_1_77 rfl rfl rfl (Nat.le_of_ble_eq_true rfl) d_PatternParser_stepClose_16 (fun H locs hP hD hS => ?_)
    have hP : va_P D classes [(a_t, .inr (3, [.ref a_t_pattern, .ref a_t_open, .int (t_depth - (1 : Int32)), .int t_quoted])), (a_t_pattern, .inr (2, [.ref a_t_pattern_kinds, .ref a_t_pattern_numbers, .int t_pattern_size])), (a_t_pattern_numbers, .inl (kk 0, 20, .inl t_pattern_numbers)), (a_t_open, .inl (kk 0, 20, .inl t_open))] H := hP
    have hD : va_D A [(a_t, .inr (3, [.ref a_t_pattern, .ref a_t_open, .int (t_depth - (1 : Int32)), .int t_quoted])), (a_t_pattern, .inr (2, [.ref a_t_pattern_kinds, .ref a_t_pattern_numbers, .int t_pattern_size])), (a_t_pattern_numbers, .inl (kk 0, 20, .inl t_pattern_numbers)), (a_t_open, .inl (kk 0, 20, .inl t_open))] := hD
    refine lv_aload_n hx hb d_PatternParser_stepClose_19 rfl (lv_at hl 0 rfl) ?_
    refine k_get S X us_PatternParser hP 0 rfl rfl 0 (by decide) gm_1_74 rfl d_PatternParser_stepClose_20 ?_
    refine lv_aload_n hx hb d_PatternParser_stepClose_23 rfl (lv_at hl 0 rfl) ?_
    refine k_get S X us_PatternParser hP 0 rfl rfl 1 (by decide) gm_1_76 rfl d_PatternParser_stepClose_24 ?_
    refine lv_aload_n hx hb d_PatternParser_stepClose_27 rfl (lv_at hl 0 rfl) ?_
    refine k_get S X us_PatternParser hP 0 rfl rfl 2 (by decide) gm_1_77 rfl d_PatternParser_stepClose_28 ?_
    obtain ⟨hi1, he⟩ := ih_g he
    refine va_iald hx hb X.1 hP 3 0 rfl rfl hi1 d_PatternParser_stepClose_31 ?_
    obtain ⟨u2, e3, he⟩ := ih_b he
    refine k_v (wr := [(a_t, .inr (3, [.ref a_t_pattern, .ref a_t_open, .int (t_depth - (1 : Int32)), .int t_quoted])), (a_t_open, .inl (kk 0, 20, .inl t_open))]) (w1 := [(a_t_pattern, .inr (2, [.ref a_t_pattern_kinds, .ref a_t_pattern_numbers, .int t_pattern_size])), (a_t_pattern_numbers, .inl (kk 0, 20, .inl u2))]) (w2 := [(a_t, .inr (3, [.ref a_t_pattern, .ref a_t_open, .int (t_depth - (1 : Int32)), .int t_quoted])), (a_t_pattern, .inr (2, [.ref a_t_pattern_kinds, .ref a_t_pattern_numbers, .int t_pattern_size])), (a_t_pattern_numbers, .inl (kk 0, 20, .inl u2)), (a_t_open, .inl (kk 0, 20, .inl t_open))]) (r_V (As := [.int (t_open ((t_depth - (1 : Int32))).toNatClampNeg)]) S X hA hP hD hS (c_Pattern_endSection l D kk st a_t_pattern a_t_pattern_numbers a_t_pattern_kinds _ t_pattern_size t_pattern_numbers (t_open ((t_depth - (1 : Int32))).toNatClampNeg) u2 e3) gm_2_204 gm_2_201 gm_2_202 gm_2_203 gm_1_4 ⟨rfl, rfl, by decide, by decide⟩ kd_Pattern_endSection [1, 2] rfl rfl rfl 1 2 rfl rfl rfl rfl hl.1 rfl (Nat.le_of_ble_eq_true rfl) d_PatternParser_stepClose_32 ⟨Nat.zero_le _, Nat.zero_le _⟩) hA hP hD hS [1, 2] [0, 3] [0, 2, 3, 1] rfl rfl rfl (by decide) rfl rfl rfl (fun H locs hP hD hS => ?_)
    refine lv_iconst (v := (1 : Int32)) hx hb d_PatternParser_stepClose_35 (by decide) ?_
    cases he
    exact k_ire hx hb hr hlk X hP hD hS d_PatternParser_stepClose_36
  · have he := ih_f hc he
    refine lv_iconst (v := (0 : Int32)) hx hb d_PatternParser_stepClose_7 (by decide) ?_
    cases he
    exact k_ire hx hb hr hlk X hP hD hS d_PatternParser_stepClose_8
abbrev rm_PatternParser_step : Room := { frames := 5, cells := 0, slots := 0, locals := 115 }
set_option maxHeartbeats 4000000 in
set_option maxRecDepth 100000 in
theorem w_PatternParser_step_66 {p : Program} {l : Launch} {e : Env} {s : State} {m : MethodId} {args : Array Value} {below : List Frame} {meth : Method} {c : Code} {A : Nat → Prop} {D : va_G} {kk : Nat → ClassId} {st : Nat → Nat} (a_t a_t_pattern a_t_pattern_kinds a_t_pattern_numbers a_t_open a_q1 a_q1_cells : Nat) (n_q1_cells : Nat) (t_depth : Int32) (t_quoted : Int32) (t_pattern_size : Int32) (t_pattern_kinds : Nat → Int32) (t_pattern_numbers : Nat → Int32) (t_open : Nat → Int32) (q1_size : Int32) (q1_cells : Nat → Int32) (x3 : Int32) (o : Int32 × Int32 × Int32 × Int32 × (Nat → Int32) × (Nat → Int32) × (Nat → Int32)) (S : CallFix p m c b_PatternParser_step 4 s args GW y_PatternParser_step.cls) (hr : meth.sig.returnType = (some .int)) (hlk : meth.locks = false) (hA : ∀ q, s.heap.size ≤ q → A q) (X : KX D kk st A s) (H : Heap) (locs : List Loc) (ls : Array Slot) (he : jn_PatternParser_step_66 n_q1_cells t_depth t_quoted t_pattern_size t_pattern_kinds t_pattern_numbers t_open q1_size q1_cells x3 = some o) (hl : lv_has ls 4 [(0, .ref a_t), (3, .int x3)]) (hP : va_P D classes [(a_t, .inr (3, [.ref a_t_pattern, .ref a_t_open, .int t_depth, .int t_quoted])), (a_t_pattern, .inr (2, [.ref a_t_pattern_kinds, .ref a_t_pattern_numbers, .int t_pattern_size])), (a_t_pattern_kinds, .inl (kk 0, 20, .inl t_pattern_kinds)), (a_t_pattern_numbers, .inl (kk 0, 20, .inl t_pattern_numbers)), (a_t_open, .inl (kk 0, 20, .inl t_open)), (a_q1, .inr (1, [.ref a_q1_cells, .int q1_size])), (a_q1_cells, .inl (kk 1, n_q1_cells, .inl q1_cells))] H) (hD : va_D A [(a_t, .inr (3, [.ref a_t_pattern, .ref a_t_open, .int t_depth, .int t_quoted])), (a_t_pattern, .inr (2, [.ref a_t_pattern_kinds, .ref a_t_pattern_numbers, .int t_pattern_size])), (a_t_pattern_kinds, .inl (kk 0, 20, .inl t_pattern_kinds)), (a_t_pattern_numbers, .inl (kk 0, 20, .inl t_pattern_numbers)), (a_t_open, .inl (kk 0, 20, .inl t_open)), (a_q1, .inr (1, [.ref a_q1_cells, .int q1_size])), (a_q1_cells, .inl (kk 1, n_q1_cells, .inl q1_cells))]) (hS : va_S A s.heap H locs) : W p l e rm_PatternParser_step s m args below meth c H locs 0 0 (MQ below (KQi D kk o.1 [(a_t, .inr (3, [.ref a_t_pattern, .ref a_t_open, .int o.2.1, .int o.2.2.1])), (a_t_pattern, .inr (2, [.ref a_t_pattern_kinds, .ref a_t_pattern_numbers, .int o.2.2.2.1])), (a_t_pattern_kinds, .inl (kk 0, 20, .inl o.2.2.2.2.1)), (a_t_pattern_numbers, .inl (kk 0, 20, .inl o.2.2.2.2.2.1)), (a_t_open, .inl (kk 0, 20, .inl o.2.2.2.2.2.2)), (a_q1, .inr (1, [.ref a_q1_cells, .int q1_size])), (a_q1_cells, .inl (kk 1, n_q1_cells, .inl q1_cells))] A) args s 0 0 A) (F0 m 66 ls []) := by
  have hx := S.1
  have hb := S.2.1
  unfold jn_PatternParser_step_66 at he
  refine lv_iload_n hx hb d_PatternParser_step_66 rfl (lv_at hl 1 rfl) ?_
  refine lv_bipush (v := (91 : Int32)) hx hb d_PatternParser_step_67 (by decide) ?_
  refine lv_icmp_ne (tgt := 77) hx hb d_PatternParser_step_69 rfl (fun hc => ?_) (fun hc => ?_)
  · have he := ih_f hc he
    refine lv_iload_n hx hb d_PatternParser_step_77 rfl (lv_at hl 1 rfl) ?_
    refine lv_bipush (v := (93 : Int32)) hx hb d_PatternParser_step_78 (by decide) ?_
    refine lv_icmp_ne (tgt := 90) hx hb d_PatternParser_step_80 rfl (fun hc => ?_) (fun hc => ?_)
    · have he := ih_f hc he
      refine lv_aload_n hx hb d_PatternParser_step_90 rfl (lv_at hl 0 rfl) ?_
      refine lv_bipush (v := (15 : Int32)) hx hb d_PatternParser_step_91 (by decide) ?_
      refine lv_iload_n hx hb d_PatternParser_step_93 rfl (lv_at hl 1 rfl) ?_
      refine lv_iconst (v := (1 : Int32)) hx hb d_PatternParser_step_94 (by decide) ?_
      obtain ⟨u3, e4, he⟩ := ih_b he
      refine k_i (wr := [(a_t_open, .inl (kk 0, 20, .inl t_open)), (a_q1, .inr (1, [.ref a_q1_cells, .int q1_size])), (a_q1_cells, .inl (kk 1, n_q1_cells, .inl q1_cells))]) (w1 := [(a_t, .inr (3, [.ref a_t_pattern, .ref a_t_open, .int t_depth, .int t_quoted])), (a_t_pattern, .inr (2, [.ref a_t_pattern_kinds, .ref a_t_pattern_numbers, .int u3.2.1])), (a_t_pattern_kinds, .inl (kk 0, 20, .inl u3.2.2.1)), (a_t_pattern_numbers, .inl (kk 0, 20, .inl u3.2.2.2))]) (w2 := [(a_t, .inr (3, [.ref a_t_pattern, .ref a_t_open, .int t_depth, .int t_quoted])), (a_t_pattern, .inr (2, [.ref a_t_pattern_kinds, .ref a_t_pattern_numbers, .int u3.2.1])), (a_t_pattern_kinds, .inl (kk 0, 20, .inl u3.2.2.1)), (a_t_pattern_numbers, .inl (kk 0, 20, .inl u3.2.2.2)), (a_t_open, .inl (kk 0, 20, .inl t_open)), (a_q1, .inr (1, [.ref a_q1_cells, .int q1_size])), (a_q1_cells, .inl (kk 1, n_q1_cells, .inl q1_cells))]) (r_V (As := [.int (15 : Int32), .int x3, .int (1 : Int32)]) S X hA hP hD hS (c_PatternParser_added l D kk st a_t a_t_pattern a_t_pattern_kinds a_t_pattern_numbers a_t_open _ t_depth t_quoted t_pattern_size t_pattern_kinds t_pattern_numbers (15 : Int32) x3 (1 : Int32) u3 e4) gm_2_84 gm_2_81 gm_2_83 gm_p1_4 gm_1_3 ⟨rfl, rfl, by decide, by decide⟩ kd_PatternParser_added [0, 1, 2, 3] rfl rfl rfl 0 3 rfl rfl rfl rfl hl.1 rfl (Nat.le_of_ble_eq_true rfl) d_PatternParser_step_95 ⟨Nat.zero_le _, Nat.zero_le _⟩) hA hP hD hS [0, 1, 2, 3] [4, 5, 6] [3, 4, 5, 6, 0, 1, 2] rfl rfl rfl (by decide) rfl rfl rfl (fun H locs hP hD hS => ?_)
      cases he
      exact k_ire hx hb hr hlk X hP hD hS d_PatternParser_step_98
    · have he := ih_t hc he
      refine lv_aload_n hx hb d_PatternParser_step_83 rfl (lv_at hl 0 rfl) ?_
      obtain ⟨u5, e6, he⟩ := ih_b he
      refine k_i (wr := [(a_t_pattern_kinds, .inl (kk 0, 20, .inl t_pattern_kinds)), (a_q1, .inr (1, [.ref a_q1_cells, .int q1_size])), (a_q1_cells, .inl (kk 1, n_q1_cells, .inl q1_cells))]) (w1 := [(a_t, .inr (3, [.ref a_t_pattern, .ref a_t_open, .int u5.2.1, .int t_quoted])), (a_t_pattern, .inr (2, [.ref a_t_pattern_kinds, .ref a_t_pattern_numbers, .int t_pattern_size])), (a_t_pattern_numbers, .inl (kk 0, 20, .inl u5.2.2)), (a_t_open, .inl (kk 0, 20, .inl t_open))]) (w2 := [(a_t, .inr (3, [.ref a_t_pattern, .ref a_t_open, .int u5.2.1, .int t_quoted])), (a_t_pattern, .inr (2, [.ref a_t_pattern_kinds, .ref a_t_pattern_numbers, .int t_pattern_size])), (a_t_pattern_kinds, .inl (kk 0, 20, .inl t_pattern_kinds)), (a_t_pattern_numbers, .inl (kk 0, 20, .inl u5.2.2)), (a_t_open, .inl (kk 0, 20, .inl t_open)), (a_q1, .inr (1, [.ref a_q1_cells, .int q1_size])), (a_q1_cells, .inl (kk 1, n_q1_cells, .inl q1_cells))]) (r_V (As := []) S X hA hP hD hS (c_PatternParser_stepClose l D kk st a_t a_t_pattern a_t_pattern_numbers a_t_open a_t_pattern_kinds _ t_depth t_quoted t_pattern_size t_pattern_numbers t_open u5 e6) gm_2_200 gm_2_197 gm_2_199 gm_p1_7 gm_1_3 ⟨rfl, rfl, by decide, by decide⟩ kd_PatternParser_stepClose [0, 1, 3, 4] rfl rfl rfl 0 3 rfl rfl rfl rfl hl.1 rfl (Nat.le_of_ble_eq_true rfl) d_PatternParser_step_84 ⟨Nat.zero_le _, Nat.zero_le _⟩) hA hP hD hS [0, 1, 3, 4] [2, 5, 6] [3, 4, 0, 5, 6, 1, 2] rfl rfl rfl (by decide) rfl rfl rfl (fun H locs hP hD hS => ?_)
      refine lv_goto (tgt := 98) hx hb d_PatternParser_step_87 rfl ?_
      cases he
      exact k_ire hx hb hr hlk X hP hD hS d_PatternParser_step_98
  · have he := ih_t hc he
    refine lv_aload_n hx hb d_PatternParser_step_72 rfl (lv_at hl 0 rfl) ?_
    obtain ⟨u7, e8, he⟩ := ih_b he
    refine k_i (wr := [(a_q1, .inr (1, [.ref a_q1_cells, .int q1_size])), (a_q1_cells, .inl (kk 1, n_q1_cells, .inl q1_cells))]) (w1 := [(a_t, .inr (3, [.ref a_t_pattern, .ref a_t_open, .int u7.2.1, .int t_quoted])), (a_t_pattern, .inr (2, [.ref a_t_pattern_kinds, .ref a_t_pattern_numbers, .int u7.2.2.1])), (a_t_pattern_kinds, .inl (kk 0, 20, .inl u7.2.2.2.1)), (a_t_pattern_numbers, .inl (kk 0, 20, .inl u7.2.2.2.2.1)), (a_t_open, .inl (kk 0, 20, .inl u7.2.2.2.2.2))]) (w2 := [(a_t, .inr (3, [.ref a_t_pattern, .ref a_t_open, .int u7.2.1, .int t_quoted])), (a_t_pattern, .inr (2, [.ref a_t_pattern_kinds, .ref a_t_pattern_numbers, .int u7.2.2.1])), (a_t_pattern_kinds, .inl (kk 0, 20, .inl u7.2.2.2.1)), (a_t_pattern_numbers, .inl (kk 0, 20, .inl u7.2.2.2.2.1)), (a_t_open, .inl (kk 0, 20, .inl u7.2.2.2.2.2)), (a_q1, .inr (1, [.ref a_q1_cells, .int q1_size])), (a_q1_cells, .inl (kk 1, n_q1_cells, .inl q1_cells))]) (r_V (As := []) S X hA hP hD hS (c_PatternParser_stepOpen l D kk st a_t a_t_pattern a_t_pattern_kinds a_t_pattern_numbers a_t_open _ t_depth t_quoted t_pattern_size t_pattern_kinds t_pattern_numbers t_open u7 e8) gm_2_196 gm_2_193 gm_2_195 gm_p1_6 gm_1_3 ⟨rfl, rfl, by decide, by decide⟩ kd_PatternParser_stepOpen [0, 1, 2, 3, 4] rfl rfl rfl 0 3 rfl rfl rfl rfl hl.1 rfl (Nat.le_of_ble_eq_true rfl) d_PatternParser_step_73 ⟨Nat.zero_le _, Nat.zero_le _⟩) hA hP hD hS [0, 1, 2, 3, 4] [5, 6] [2, 3, 4, 5, 6, 0, 1] rfl rfl rfl (by decide) rfl rfl rfl (fun H locs hP hD hS => ?_)
    cases he
    exact k_ire hx hb hr hlk X hP hD hS d_PatternParser_step_76
set_option maxHeartbeats 4000000 in
set_option maxRecDepth 100000 in
theorem w_PatternParser_step_47 {p : Program} {l : Launch} {e : Env} {s : State} {m : MethodId} {args : Array Value} {below : List Frame} {meth : Method} {c : Code} {A : Nat → Prop} {D : va_G} {kk : Nat → ClassId} {st : Nat → Nat} (a_t a_t_pattern a_t_pattern_kinds a_t_pattern_numbers a_t_open a_q1 a_q1_cells : Nat) (n_q1_cells : Nat) (t_depth : Int32) (t_quoted : Int32) (t_pattern_size : Int32) (t_pattern_kinds : Nat → Int32) (t_pattern_numbers : Nat → Int32) (t_open : Nat → Int32) (q1_size : Int32) (q1_cells : Nat → Int32) (x2 : Int32) (x3 : Int32) (o : Int32 × Int32 × Int32 × Int32 × (Nat → Int32) × (Nat → Int32) × (Nat → Int32)) (S : CallFix p m c b_PatternParser_step 4 s args GW y_PatternParser_step.cls) (hr : meth.sig.returnType = (some .int)) (hlk : meth.locks = false) (hA : ∀ q, s.heap.size ≤ q → A q) (X : KX D kk st A s) (H : Heap) (locs : List Loc) (ls : Array Slot) (he : jn_PatternParser_step_47 n_q1_cells t_depth t_quoted t_pattern_size t_pattern_kinds t_pattern_numbers t_open q1_size q1_cells x2 x3 = some o) (hl : lv_has ls 4 [(0, .ref a_t), (1, .ref a_q1), (2, .int x2), (3, .int x3)]) (hP : va_P D classes [(a_t, .inr (3, [.ref a_t_pattern, .ref a_t_open, .int t_depth, .int t_quoted])), (a_t_pattern, .inr (2, [.ref a_t_pattern_kinds, .ref a_t_pattern_numbers, .int t_pattern_size])), (a_t_pattern_kinds, .inl (kk 0, 20, .inl t_pattern_kinds)), (a_t_pattern_numbers, .inl (kk 0, 20, .inl t_pattern_numbers)), (a_t_open, .inl (kk 0, 20, .inl t_open)), (a_q1, .inr (1, [.ref a_q1_cells, .int q1_size])), (a_q1_cells, .inl (kk 1, n_q1_cells, .inl q1_cells))] H) (hD : va_D A [(a_t, .inr (3, [.ref a_t_pattern, .ref a_t_open, .int t_depth, .int t_quoted])), (a_t_pattern, .inr (2, [.ref a_t_pattern_kinds, .ref a_t_pattern_numbers, .int t_pattern_size])), (a_t_pattern_kinds, .inl (kk 0, 20, .inl t_pattern_kinds)), (a_t_pattern_numbers, .inl (kk 0, 20, .inl t_pattern_numbers)), (a_t_open, .inl (kk 0, 20, .inl t_open)), (a_q1, .inr (1, [.ref a_q1_cells, .int q1_size])), (a_q1_cells, .inl (kk 1, n_q1_cells, .inl q1_cells))]) (hS : va_S A s.heap H locs) : W p l e rm_PatternParser_step s m args below meth c H locs 0 0 (MQ below (KQi D kk o.1 [(a_t, .inr (3, [.ref a_t_pattern, .ref a_t_open, .int o.2.1, .int o.2.2.1])), (a_t_pattern, .inr (2, [.ref a_t_pattern_kinds, .ref a_t_pattern_numbers, .int o.2.2.2.1])), (a_t_pattern_kinds, .inl (kk 0, 20, .inl o.2.2.2.2.1)), (a_t_pattern_numbers, .inl (kk 0, 20, .inl o.2.2.2.2.2.1)), (a_t_open, .inl (kk 0, 20, .inl o.2.2.2.2.2.2)), (a_q1, .inr (1, [.ref a_q1_cells, .int q1_size])), (a_q1_cells, .inl (kk 1, n_q1_cells, .inl q1_cells))] A) args s 0 0 A) (F0 m 47 ls []) := by
  have hx := S.1
  have hb := S.2.1
  unfold jn_PatternParser_step_47 at he
  refine lv_iload_n hx hb d_PatternParser_step_47 rfl (lv_at hl 3 rfl) ?_
  refine lv_bipush (v := (65 : Int32)) hx hb d_PatternParser_step_48 (by decide) ?_
  refine lv_icmp_lt (tgt := 66) hx hb d_PatternParser_step_50 rfl (fun hc => ?_) (fun hc => ?_)
  · have he := ih_t hc he
    have hl : lv_has ls 4 [(0, .ref a_t), (3, .int x3)] := lv_sub hl [0, 3] rfl
    exact w_PatternParser_step_66 a_t a_t_pattern a_t_pattern_kinds a_t_pattern_numbers a_t_open a_q1 a_q1_cells n_q1_cells t_depth t_quoted t_pattern_size t_pattern_kinds t_pattern_numbers t_open q1_size q1_cells x3 o S hr hlk hA X _ _ ls he hl hP hD hS
  · have he := ih_f hc he
    refine lv_iload_n hx hb d_PatternParser_step_53 rfl (lv_at hl 3 rfl) ?_
    refine lv_bipush (v := (90 : Int32)) hx hb d_PatternParser_step_54 (by decide) ?_
    refine lv_icmp_gt (tgt := 66) hx hb d_PatternParser_step_56 rfl (fun hc => ?_) (fun hc => ?_)
    · have he := ih_t hc he
      have hl : lv_has ls 4 [(0, .ref a_t), (3, .int x3)] := lv_sub hl [0, 3] rfl
      exact w_PatternParser_step_66 a_t a_t_pattern a_t_pattern_kinds a_t_pattern_numbers a_t_open a_q1 a_q1_cells n_q1_cells t_depth t_quoted t_pattern_size t_pattern_kinds t_pattern_numbers t_open q1_size q1_cells x3 o S hr hlk hA X _ _ ls he hl hP hD hS
    · have he := ih_f hc he
      refine lv_aload_n hx hb d_PatternParser_step_59 rfl (lv_at hl 0 rfl) ?_
      refine lv_aload_n hx hb d_PatternParser_step_60 rfl (lv_at hl 1 rfl) ?_
      refine lv_iload_n hx hb d_PatternParser_step_61 rfl (lv_at hl 2 rfl) ?_
      obtain ⟨u9, e10, he⟩ := ih_b he
      refine k_i (wr := [(a_t_open, .inl (kk 0, 20, .inl t_open))]) (w1 := [(a_t, .inr (3, [.ref a_t_pattern, .ref a_t_open, .int t_depth, .int t_quoted])), (a_t_pattern, .inr (2, [.ref a_t_pattern_kinds, .ref a_t_pattern_numbers, .int u9.2.1])), (a_t_pattern_kinds, .inl (kk 0, 20, .inl u9.2.2.1)), (a_t_pattern_numbers, .inl (kk 0, 20, .inl u9.2.2.2)), (a_q1, .inr (1, [.ref a_q1_cells, .int q1_size])), (a_q1_cells, .inl (kk 1, n_q1_cells, .inl q1_cells))]) (w2 := [(a_t, .inr (3, [.ref a_t_pattern, .ref a_t_open, .int t_depth, .int t_quoted])), (a_t_pattern, .inr (2, [.ref a_t_pattern_kinds, .ref a_t_pattern_numbers, .int u9.2.1])), (a_t_pattern_kinds, .inl (kk 0, 20, .inl u9.2.2.1)), (a_t_pattern_numbers, .inl (kk 0, 20, .inl u9.2.2.2)), (a_t_open, .inl (kk 0, 20, .inl t_open)), (a_q1, .inr (1, [.ref a_q1_cells, .int q1_size])), (a_q1_cells, .inl (kk 1, n_q1_cells, .inl q1_cells))]) (r_V (As := [.ref a_q1, .int x2]) S X hA hP hD hS (c_PatternParser_stepRun l D kk st a_t a_t_pattern a_t_pattern_kinds a_t_pattern_numbers a_q1 a_q1_cells a_t_open _ n_q1_cells t_depth t_quoted t_pattern_size t_pattern_kinds t_pattern_numbers q1_size q1_cells x2 u9 e10) gm_2_95 gm_2_92 gm_2_94 gm_p1_5 gm_1_3 ⟨rfl, rfl, by decide, by decide⟩ kd_PatternParser_stepRun [0, 1, 2, 3, 5, 6] rfl rfl rfl 0 3 rfl rfl rfl rfl hl.1 rfl (Nat.le_of_ble_eq_true rfl) d_PatternParser_step_62 ⟨Nat.zero_le _, Nat.zero_le _⟩) hA hP hD hS [0, 1, 2, 3, 5, 6] [4] [1, 2, 3, 4, 0, 5, 6] rfl rfl rfl (by decide) rfl rfl rfl (fun H locs hP hD hS => ?_)
      cases he
      exact k_ire hx hb hr hlk X hP hD hS d_PatternParser_step_65
set_option maxHeartbeats 4000000 in
set_option maxRecDepth 100000 in
theorem c_PatternParser_step (l : Launch) (D : va_G) (kk : Nat → ClassId) (st : Nat → Nat) (a_t a_t_pattern a_t_pattern_kinds a_t_pattern_numbers a_t_open a_q1 a_q1_cells : Nat) (sz : Nat) (n_q1_cells : Nat) (t_depth : Int32) (t_quoted : Int32) (t_pattern_size : Int32) (t_pattern_kinds : Nat → Int32) (t_pattern_numbers : Nat → Int32) (t_open : Nat → Int32) (q1_size : Int32) (q1_cells : Nat → Int32) (x2 : Int32) (o : Int32 × Int32 × Int32 × Int32 × (Nat → Int32) × (Nat → Int32) × (Nat → Int32)) (he : f_PatternParser_step n_q1_cells t_depth t_quoted t_pattern_size t_pattern_kinds t_pattern_numbers t_open q1_size q1_cells x2 = some o) : Met l y_PatternParser_step (Cond.code y_PatternParser_step b_PatternParser_step 4 (some .int) :: GW) rm_PatternParser_step (KPc D kk st [.ref a_t, .ref a_q1, .int x2] [(a_t, .inr (3, [.ref a_t_pattern, .ref a_t_open, .int t_depth, .int t_quoted])), (a_t_pattern, .inr (2, [.ref a_t_pattern_kinds, .ref a_t_pattern_numbers, .int t_pattern_size])), (a_t_pattern_kinds, .inl (kk 0, 20, .inl t_pattern_kinds)), (a_t_pattern_numbers, .inl (kk 0, 20, .inl t_pattern_numbers)), (a_t_open, .inl (kk 0, 20, .inl t_open)), (a_q1, .inr (1, [.ref a_q1_cells, .int q1_size])), (a_q1_cells, .inl (kk 1, n_q1_cells, .inl q1_cells))] sz) (KQi D kk o.1 [(a_t, .inr (3, [.ref a_t_pattern, .ref a_t_open, .int o.2.1, .int o.2.2.1])), (a_t_pattern, .inr (2, [.ref a_t_pattern_kinds, .ref a_t_pattern_numbers, .int o.2.2.2.1])), (a_t_pattern_kinds, .inl (kk 0, 20, .inl o.2.2.2.2.1)), (a_t_pattern_numbers, .inl (kk 0, 20, .inl o.2.2.2.2.2.1)), (a_t_open, .inl (kk 0, 20, .inl o.2.2.2.2.2.2)), (a_q1, .inr (1, [.ref a_q1_cells, .int q1_size])), (a_q1_cells, .inl (kk 1, n_q1_cells, .inl q1_cells))] (va_A [(a_t, .inr (3, [.ref a_t_pattern, .ref a_t_open, .int t_depth, .int t_quoted])), (a_t_pattern, .inr (2, [.ref a_t_pattern_kinds, .ref a_t_pattern_numbers, .int t_pattern_size])), (a_t_pattern_kinds, .inl (kk 0, 20, .inl t_pattern_kinds)), (a_t_pattern_numbers, .inl (kk 0, 20, .inl t_pattern_numbers)), (a_t_open, .inl (kk 0, 20, .inl t_open)), (a_q1, .inr (1, [.ref a_q1_cells, .int q1_size])), (a_q1_cells, .inl (kk 1, n_q1_cells, .inl q1_cells))] sz)) 0 0 (va_A [(a_t, .inr (3, [.ref a_t_pattern, .ref a_t_open, .int t_depth, .int t_quoted])), (a_t_pattern, .inr (2, [.ref a_t_pattern_kinds, .ref a_t_pattern_numbers, .int t_pattern_size])), (a_t_pattern_kinds, .inl (kk 0, 20, .inl t_pattern_kinds)), (a_t_pattern_numbers, .inl (kk 0, 20, .inl t_pattern_numbers)), (a_t_open, .inl (kk 0, 20, .inl t_open)), (a_q1, .inr (1, [.ref a_q1_cells, .int q1_size])), (a_q1_cells, .inl (kk 1, n_q1_cells, .inl q1_cells))] sz) := by
  refine k_start (Qc := fun A => KQi D kk o.1 [(a_t, .inr (3, [.ref a_t_pattern, .ref a_t_open, .int o.2.1, .int o.2.2.1])), (a_t_pattern, .inr (2, [.ref a_t_pattern_kinds, .ref a_t_pattern_numbers, .int o.2.2.2.1])), (a_t_pattern_kinds, .inl (kk 0, 20, .inl o.2.2.2.2.1)), (a_t_pattern_numbers, .inl (kk 0, 20, .inl o.2.2.2.2.2.1)), (a_t_open, .inl (kk 0, 20, .inl o.2.2.2.2.2.2)), (a_q1, .inr (1, [.ref a_q1_cells, .int q1_size])), (a_q1_cells, .inl (kk 1, n_q1_cells, .inl q1_cells))] A) (by decide) (Nat.le_of_ble_eq_true rfl) ?_
  intro p e s m below meth c A ls S hnm hr hlk hA X hP hD hS hl
  have hl : lv_has ls 4 [(0, .ref a_t), (1, .ref a_q1), (2, .int x2)] := hl
  have hx := S.1
  have hb := S.2.1
  unfold f_PatternParser_step at he
  refine lv_aload_n hx hb d_PatternParser_step_0 rfl (lv_at hl 1 rfl) ?_
  refine lv_iload_n hx hb d_PatternParser_step_1 rfl (lv_at hl 2 rfl) ?_
  obtain ⟨u1, e2, he⟩ := ih_b he
  refine k_io (r_V (As := [.int x2]) S X hA hP hD hS (c_Row_codeAt l D kk st a_q1 a_q1_cells _ n_q1_cells q1_size q1_cells x2 u1 e2) gm_2_76 gm_2_73 gm_2_74 gm_2_75 gm_1_2 ⟨rfl, rfl, by decide, by decide⟩ kd_Row_codeAt [5, 6] rfl rfl rfl 5 1 rfl rfl rfl rfl hl.1 rfl (Nat.le_of_ble_eq_true rfl) d_PatternParser_step_2 ⟨Nat.zero_le _, Nat.zero_le _⟩) hA hP hD hS [5, 6] rfl (fun H locs hP hS => ?_)
  refine lv_istore_n hx hb d_PatternParser_step_5 rfl hl (by decide) rfl (fun ls hl => ?_)
  have hl : lv_has ls 4 [(3, .int u1), (0, .ref a_t), (1, .ref a_q1), (2, .int x2)] := hl
  refine lv_iload_n hx hb d_PatternParser_step_6 rfl (lv_at hl 0 rfl) ?_
  refine lv_bipush (v := (39 : Int32)) hx hb d_PatternParser_step_7 (by decide) ?_
  refine lv_icmp_ne (tgt := 19) hx hb d_PatternParser_step_9 rfl (fun hc => ?_) (fun hc => ?_)
  · have he := ih_f hc he
    refine lv_aload_n hx hb d_PatternParser_step_19 rfl (lv_at hl 1 rfl) ?_
    refine k_get S X us_PatternParser hP 0 rfl rfl 3 (by decide) gm_1_78 rfl d_PatternParser_step_20 ?_
    refine lv_if_eq (tgt := 35) hx hb d_PatternParser_step_23 rfl (fun hc => ?_) (fun hc => ?_)
    · have he := ih_t hc he
      refine lv_iload_n hx hb d_PatternParser_step_35 rfl (lv_at hl 0 rfl) ?_
      refine lv_bipush (v := (97 : Int32)) hx hb d_PatternParser_step_36 (by decide) ?_
      refine lv_icmp_lt (tgt := 47) hx hb d_PatternParser_step_38 rfl (fun hc => ?_) (fun hc => ?_)
      · have he := ih_t hc he
        have hl : lv_has ls 4 [(0, .ref a_t), (1, .ref a_q1), (2, .int x2), (3, .int u1)] := lv_sub hl [1, 2, 3, 0] rfl
        exact w_PatternParser_step_47 a_t a_t_pattern a_t_pattern_kinds a_t_pattern_numbers a_t_open a_q1 a_q1_cells n_q1_cells t_depth t_quoted t_pattern_size t_pattern_kinds t_pattern_numbers t_open q1_size q1_cells x2 u1 o S hr hlk hA X _ _ ls he hl hP hD hS
      · have he := ih_f hc he
        refine lv_iload_n hx hb d_PatternParser_step_41 rfl (lv_at hl 0 rfl) ?_
        refine lv_bipush (v := (122 : Int32)) hx hb d_PatternParser_step_42 (by decide) ?_
        refine lv_icmp_le (tgt := 59) hx hb d_PatternParser_step_44 rfl (fun hc => ?_) (fun hc => ?_)
        · have he := ih_t hc he
          refine lv_aload_n hx hb d_PatternParser_step_59 rfl (lv_at hl 1 rfl) ?_
          refine lv_aload_n hx hb d_PatternParser_step_60 rfl (lv_at hl 2 rfl) ?_
          refine lv_iload_n hx hb d_PatternParser_step_61 rfl (lv_at hl 3 rfl) ?_
          obtain ⟨u11, e12, he⟩ := ih_b he
          refine k_i (wr := [(a_t_open, .inl (kk 0, 20, .inl t_open))]) (w1 := [(a_t, .inr (3, [.ref a_t_pattern, .ref a_t_open, .int t_depth, .int t_quoted])), (a_t_pattern, .inr (2, [.ref a_t_pattern_kinds, .ref a_t_pattern_numbers, .int u11.2.1])), (a_t_pattern_kinds, .inl (kk 0, 20, .inl u11.2.2.1)), (a_t_pattern_numbers, .inl (kk 0, 20, .inl u11.2.2.2)), (a_q1, .inr (1, [.ref a_q1_cells, .int q1_size])), (a_q1_cells, .inl (kk 1, n_q1_cells, .inl q1_cells))]) (w2 := [(a_t, .inr (3, [.ref a_t_pattern, .ref a_t_open, .int t_depth, .int t_quoted])), (a_t_pattern, .inr (2, [.ref a_t_pattern_kinds, .ref a_t_pattern_numbers, .int u11.2.1])), (a_t_pattern_kinds, .inl (kk 0, 20, .inl u11.2.2.1)), (a_t_pattern_numbers, .inl (kk 0, 20, .inl u11.2.2.2)), (a_t_open, .inl (kk 0, 20, .inl t_open)), (a_q1, .inr (1, [.ref a_q1_cells, .int q1_size])), (a_q1_cells, .inl (kk 1, n_q1_cells, .inl q1_cells))]) (r_V (As := [.ref a_q1, .int x2]) S X hA hP hD hS (c_PatternParser_stepRun l D kk st a_t a_t_pattern a_t_pattern_kinds a_t_pattern_numbers a_q1 a_q1_cells a_t_open _ n_q1_cells t_depth t_quoted t_pattern_size t_pattern_kinds t_pattern_numbers q1_size q1_cells x2 u11 e12) gm_2_95 gm_2_92 gm_2_94 gm_p1_5 gm_1_3 ⟨rfl, rfl, by decide, by decide⟩ kd_PatternParser_stepRun [0, 1, 2, 3, 5, 6] rfl rfl rfl 0 3 rfl rfl rfl rfl hl.1 rfl (Nat.le_of_ble_eq_true rfl) d_PatternParser_step_62 ⟨Nat.zero_le _, Nat.zero_le _⟩) hA hP hD hS [0, 1, 2, 3, 5, 6] [4] [1, 2, 3, 4, 0, 5, 6] rfl rfl rfl (by decide) rfl rfl rfl (fun H locs hP hD hS => ?_)
          cases he
          exact k_ire hx hb hr hlk X hP hD hS d_PatternParser_step_65
        · have he := ih_f hc he
          have hl : lv_has ls 4 [(0, .ref a_t), (1, .ref a_q1), (2, .int x2), (3, .int u1)] := lv_sub hl [1, 2, 3, 0] rfl
          exact w_PatternParser_step_47 a_t a_t_pattern a_t_pattern_kinds a_t_pattern_numbers a_t_open a_q1 a_q1_cells n_q1_cells t_depth t_quoted t_pattern_size t_pattern_kinds t_pattern_numbers t_open q1_size q1_cells x2 u1 o S hr hlk hA X _ _ ls he hl hP hD hS
    · have he := ih_f hc he
      refine lv_aload_n hx hb d_PatternParser_step_26 rfl (lv_at hl 1 rfl) ?_
      refine lv_bipush (v := (15 : Int32)) hx hb d_PatternParser_step_27 (by decide) ?_
      refine lv_iload_n hx hb d_PatternParser_step_29 rfl (lv_at hl 0 rfl) ?_
      refine lv_iconst (v := (1 : Int32)) hx hb d_PatternParser_step_30 (by decide) ?_
      obtain ⟨u13, e14, he⟩ := ih_b he
      refine k_i (wr := [(a_t_open, .inl (kk 0, 20, .inl t_open)), (a_q1, .inr (1, [.ref a_q1_cells, .int q1_size])), (a_q1_cells, .inl (kk 1, n_q1_cells, .inl q1_cells))]) (w1 := [(a_t, .inr (3, [.ref a_t_pattern, .ref a_t_open, .int t_depth, .int t_quoted])), (a_t_pattern, .inr (2, [.ref a_t_pattern_kinds, .ref a_t_pattern_numbers, .int u13.2.1])), (a_t_pattern_kinds, .inl (kk 0, 20, .inl u13.2.2.1)), (a_t_pattern_numbers, .inl (kk 0, 20, .inl u13.2.2.2))]) (w2 := [(a_t, .inr (3, [.ref a_t_pattern, .ref a_t_open, .int t_depth, .int t_quoted])), (a_t_pattern, .inr (2, [.ref a_t_pattern_kinds, .ref a_t_pattern_numbers, .int u13.2.1])), (a_t_pattern_kinds, .inl (kk 0, 20, .inl u13.2.2.1)), (a_t_pattern_numbers, .inl (kk 0, 20, .inl u13.2.2.2)), (a_t_open, .inl (kk 0, 20, .inl t_open)), (a_q1, .inr (1, [.ref a_q1_cells, .int q1_size])), (a_q1_cells, .inl (kk 1, n_q1_cells, .inl q1_cells))]) (r_V (As := [.int (15 : Int32), .int u1, .int (1 : Int32)]) S X hA hP hD hS (c_PatternParser_added l D kk st a_t a_t_pattern a_t_pattern_kinds a_t_pattern_numbers a_t_open _ t_depth t_quoted t_pattern_size t_pattern_kinds t_pattern_numbers (15 : Int32) u1 (1 : Int32) u13 e14) gm_2_84 gm_2_81 gm_2_83 gm_p1_4 gm_1_3 ⟨rfl, rfl, by decide, by decide⟩ kd_PatternParser_added [0, 1, 2, 3] rfl rfl rfl 0 3 rfl rfl rfl rfl hl.1 rfl (Nat.le_of_ble_eq_true rfl) d_PatternParser_step_31 ⟨Nat.zero_le _, Nat.zero_le _⟩) hA hP hD hS [0, 1, 2, 3] [4, 5, 6] [3, 4, 5, 6, 0, 1, 2] rfl rfl rfl (by decide) rfl rfl rfl (fun H locs hP hD hS => ?_)
      cases he
      exact k_ire hx hb hr hlk X hP hD hS d_PatternParser_step_34
  · have he := ih_t hc he
    refine lv_aload_n hx hb d_PatternParser_step_12 rfl (lv_at hl 1 rfl) ?_
    refine lv_aload_n hx hb d_PatternParser_step_13 rfl (lv_at hl 2 rfl) ?_
    refine lv_iload_n hx hb d_PatternParser_step_14 rfl (lv_at hl 3 rfl) ?_
    obtain ⟨u15, e16, he⟩ := ih_b he
    refine k_i (wr := [(a_t_open, .inl (kk 0, 20, .inl t_open))]) (w1 := [(a_t, .inr (3, [.ref a_t_pattern, .ref a_t_open, .int t_depth, .int u15.2.1])), (a_t_pattern, .inr (2, [.ref a_t_pattern_kinds, .ref a_t_pattern_numbers, .int u15.2.2.1])), (a_t_pattern_kinds, .inl (kk 0, 20, .inl u15.2.2.2.1)), (a_t_pattern_numbers, .inl (kk 0, 20, .inl u15.2.2.2.2)), (a_q1, .inr (1, [.ref a_q1_cells, .int q1_size])), (a_q1_cells, .inl (kk 1, n_q1_cells, .inl q1_cells))]) (w2 := [(a_t, .inr (3, [.ref a_t_pattern, .ref a_t_open, .int t_depth, .int u15.2.1])), (a_t_pattern, .inr (2, [.ref a_t_pattern_kinds, .ref a_t_pattern_numbers, .int u15.2.2.1])), (a_t_pattern_kinds, .inl (kk 0, 20, .inl u15.2.2.2.1)), (a_t_pattern_numbers, .inl (kk 0, 20, .inl u15.2.2.2.2)), (a_t_open, .inl (kk 0, 20, .inl t_open)), (a_q1, .inr (1, [.ref a_q1_cells, .int q1_size])), (a_q1_cells, .inl (kk 1, n_q1_cells, .inl q1_cells))]) (r_V (As := [.ref a_q1, .int x2]) S X hA hP hD hS (c_PatternParser_stepMark l D kk st a_t a_t_pattern a_t_pattern_kinds a_t_pattern_numbers a_q1 a_q1_cells a_t_open _ n_q1_cells t_depth t_quoted t_pattern_size t_pattern_kinds t_pattern_numbers q1_size q1_cells x2 u15 e16) gm_2_80 gm_2_77 gm_2_79 gm_p1_3 gm_1_3 ⟨rfl, rfl, by decide, by decide⟩ kd_PatternParser_stepMark [0, 1, 2, 3, 5, 6] rfl rfl rfl 0 3 rfl rfl rfl rfl hl.1 rfl (Nat.le_of_ble_eq_true rfl) d_PatternParser_step_15 ⟨Nat.zero_le _, Nat.zero_le _⟩) hA hP hD hS [0, 1, 2, 3, 5, 6] [4] [1, 2, 3, 4, 0, 5, 6] rfl rfl rfl (by decide) rfl rfl rfl (fun H locs hP hD hS => ?_)
    cases he
    exact k_ire hx hb hr hlk X hP hD hS d_PatternParser_step_18
abbrev rm_PatternParser_parse : Room := { frames := 6, cells := 0, slots := 0, locals := 138 }
set_option maxHeartbeats 4000000 in
set_option maxRecDepth 100000 in
theorem w_PatternParser_parse_20 {p : Program} {l : Launch} {e : Env} {s : State} {m : MethodId} {args : Array Value} {below : List Frame} {meth : Method} {c : Code} {Q : State → Prop} {A : Nat → Prop} {D : va_G} {kk : Nat → ClassId} {st : Nat → Nat} (a_t a_t_pattern a_t_pattern_kinds a_t_pattern_numbers a_t_open a_q1 a_q1_cells : Nat) (n_q1_cells : Nat) (q1_size : Int32) (q1_cells : Nat → Int32) (S : CallFix p m c b_PatternParser_parse 4 s args GW y_PatternParser_parse.cls) (hr : meth.sig.returnType = (some .int)) (hlk : meth.locks = false) (hA : ∀ q, s.heap.size ≤ q → A q) (X : KX D kk st A s) : ∀ (n : Nat) (x2 : Int32) (t_depth : Int32) (t_quoted : Int32) (t_pattern_size : Int32) (t_pattern_kinds : Nat → Int32) (t_pattern_numbers : Nat → Int32) (t_open : Nat → Int32) (v : (Int32 × Int32 × Int32 × Int32 × (Nat → Int32) × (Nat → Int32) × (Nat → Int32)) ⊕ (Int32 × Int32 × Int32 × Int32 × (Nat → Int32) × (Nat → Int32) × (Nat → Int32))) (H : Heap) (locs : List Loc) (ls : Array Slot), lp_PatternParser_parse_20 n_q1_cells q1_size q1_cells n x2 t_depth t_quoted t_pattern_size t_pattern_kinds t_pattern_numbers t_open = some v → lv_has ls 4 [(0, .ref a_t), (1, .ref a_q1), (2, .int x2)] → va_P D classes [(a_t, .inr (3, [.ref a_t_pattern, .ref a_t_open, .int t_depth, .int t_quoted])), (a_t_pattern, .inr (2, [.ref a_t_pattern_kinds, .ref a_t_pattern_numbers, .int t_pattern_size])), (a_t_pattern_kinds, .inl (kk 0, 20, .inl t_pattern_kinds)), (a_t_pattern_numbers, .inl (kk 0, 20, .inl t_pattern_numbers)), (a_t_open, .inl (kk 0, 20, .inl t_open)), (a_q1, .inr (1, [.ref a_q1_cells, .int q1_size])), (a_q1_cells, .inl (kk 1, n_q1_cells, .inl q1_cells))] H → va_D A [(a_t, .inr (3, [.ref a_t_pattern, .ref a_t_open, .int t_depth, .int t_quoted])), (a_t_pattern, .inr (2, [.ref a_t_pattern_kinds, .ref a_t_pattern_numbers, .int t_pattern_size])), (a_t_pattern_kinds, .inl (kk 0, 20, .inl t_pattern_kinds)), (a_t_pattern_numbers, .inl (kk 0, 20, .inl t_pattern_numbers)), (a_t_open, .inl (kk 0, 20, .inl t_open)), (a_q1, .inr (1, [.ref a_q1_cells, .int q1_size])), (a_q1_cells, .inl (kk 1, n_q1_cells, .inl q1_cells))] → va_S A s.heap H locs → (∀ o : Int32 × Int32 × Int32 × Int32 × (Nat → Int32) × (Nat → Int32) × (Nat → Int32), v = .inl o → Q = MQ below (KQi D kk o.1 [(a_t, .inr (3, [.ref a_t_pattern, .ref a_t_open, .int o.2.1, .int o.2.2.1])), (a_t_pattern, .inr (2, [.ref a_t_pattern_kinds, .ref a_t_pattern_numbers, .int o.2.2.2.1])), (a_t_pattern_kinds, .inl (kk 0, 20, .inl o.2.2.2.2.1)), (a_t_pattern_numbers, .inl (kk 0, 20, .inl o.2.2.2.2.2.1)), (a_t_open, .inl (kk 0, 20, .inl o.2.2.2.2.2.2)), (a_q1, .inr (1, [.ref a_q1_cells, .int q1_size])), (a_q1_cells, .inl (kk 1, n_q1_cells, .inl q1_cells))] A) args s 0 0 A) → (∀ v' : Int32 × Int32 × Int32 × Int32 × (Nat → Int32) × (Nat → Int32) × (Nat → Int32), v = .inr v' → ∀ (H : Heap) (locs : List Loc) (ls : Array Slot), lv_has ls 4 [(0, .ref a_t), (1, .ref a_q1), (2, .int v'.1)] → va_P D classes [(a_t, .inr (3, [.ref a_t_pattern, .ref a_t_open, .int v'.2.1, .int v'.2.2.1])), (a_t_pattern, .inr (2, [.ref a_t_pattern_kinds, .ref a_t_pattern_numbers, .int v'.2.2.2.1])), (a_t_pattern_kinds, .inl (kk 0, 20, .inl v'.2.2.2.2.1)), (a_t_pattern_numbers, .inl (kk 0, 20, .inl v'.2.2.2.2.2.1)), (a_t_open, .inl (kk 0, 20, .inl v'.2.2.2.2.2.2)), (a_q1, .inr (1, [.ref a_q1_cells, .int q1_size])), (a_q1_cells, .inl (kk 1, n_q1_cells, .inl q1_cells))] H → va_D A [(a_t, .inr (3, [.ref a_t_pattern, .ref a_t_open, .int v'.2.1, .int v'.2.2.1])), (a_t_pattern, .inr (2, [.ref a_t_pattern_kinds, .ref a_t_pattern_numbers, .int v'.2.2.2.1])), (a_t_pattern_kinds, .inl (kk 0, 20, .inl v'.2.2.2.2.1)), (a_t_pattern_numbers, .inl (kk 0, 20, .inl v'.2.2.2.2.2.1)), (a_t_open, .inl (kk 0, 20, .inl v'.2.2.2.2.2.2)), (a_q1, .inr (1, [.ref a_q1_cells, .int q1_size])), (a_q1_cells, .inl (kk 1, n_q1_cells, .inl q1_cells))] → va_S A s.heap H locs → W p l e rm_PatternParser_parse s m args below meth c H locs 0 0 Q (F0 m 48 ls [])) → W p l e rm_PatternParser_parse s m args below meth c H locs 0 0 Q (F0 m 20 ls []) := by
  intro n
  induction n with
  | zero =>
    intro x2 t_depth t_quoted t_pattern_size t_pattern_kinds t_pattern_numbers t_open v H locs ls he hl hP hD hS hret K
    exact ih_n he
  | succ n ih =>
    intro x2 t_depth t_quoted t_pattern_size t_pattern_kinds t_pattern_numbers t_open v H locs ls he hl hP hD hS hret K
    have hx := S.1
    have hb := S.2.1
    have he : st_PatternParser_parse_20 n_q1_cells q1_size q1_cells (lp_PatternParser_parse_20 n_q1_cells q1_size q1_cells n) x2 t_depth t_quoted t_pattern_size t_pattern_kinds t_pattern_numbers t_open = some v := he
    unfold st_PatternParser_parse_20 at he
    refine lv_iload_n hx hb d_PatternParser_parse_20 rfl (lv_at hl 2 rfl) ?_
    refine lv_aload_n hx hb d_PatternParser_parse_21 rfl (lv_at hl 1 rfl) ?_
    refine k_get S X us_Row hP 5 rfl rfl 1 (by decide) gm_1_36 rfl d_PatternParser_parse_22 ?_
    refine lv_icmp_ge (tgt := 48) hx hb d_PatternParser_parse_25 rfl (fun hc => ?_) (fun hc => ?_)
    · have he := ih_t hc he
      have hl : lv_has ls 4 [(0, .ref a_t), (1, .ref a_q1), (2, .int x2)] := lv_sub hl [0, 1, 2] rfl
      cases he
      exact K _ rfl _ _ _ hl hP hD hS
    · have he := ih_f hc he
      refine lv_aload_n hx hb d_PatternParser_parse_28 rfl (lv_at hl 0 rfl) ?_
      refine lv_aload_n hx hb d_PatternParser_parse_29 rfl (lv_at hl 1 rfl) ?_
      refine lv_iload_n hx hb d_PatternParser_parse_30 rfl (lv_at hl 2 rfl) ?_
      obtain ⟨u1, e2, he⟩ := ih_b he
      refine k_i (wr := []) (w1 := [(a_t, .inr (3, [.ref a_t_pattern, .ref a_t_open, .int u1.2.1, .int u1.2.2.1])), (a_t_pattern, .inr (2, [.ref a_t_pattern_kinds, .ref a_t_pattern_numbers, .int u1.2.2.2.1])), (a_t_pattern_kinds, .inl (kk 0, 20, .inl u1.2.2.2.2.1)), (a_t_pattern_numbers, .inl (kk 0, 20, .inl u1.2.2.2.2.2.1)), (a_t_open, .inl (kk 0, 20, .inl u1.2.2.2.2.2.2)), (a_q1, .inr (1, [.ref a_q1_cells, .int q1_size])), (a_q1_cells, .inl (kk 1, n_q1_cells, .inl q1_cells))]) (w2 := [(a_t, .inr (3, [.ref a_t_pattern, .ref a_t_open, .int u1.2.1, .int u1.2.2.1])), (a_t_pattern, .inr (2, [.ref a_t_pattern_kinds, .ref a_t_pattern_numbers, .int u1.2.2.2.1])), (a_t_pattern_kinds, .inl (kk 0, 20, .inl u1.2.2.2.2.1)), (a_t_pattern_numbers, .inl (kk 0, 20, .inl u1.2.2.2.2.2.1)), (a_t_open, .inl (kk 0, 20, .inl u1.2.2.2.2.2.2)), (a_q1, .inr (1, [.ref a_q1_cells, .int q1_size])), (a_q1_cells, .inl (kk 1, n_q1_cells, .inl q1_cells))]) (r_V (As := [.ref a_q1, .int x2]) S X hA hP hD hS (c_PatternParser_step l D kk st a_t a_t_pattern a_t_pattern_kinds a_t_pattern_numbers a_t_open a_q1 a_q1_cells _ n_q1_cells t_depth t_quoted t_pattern_size t_pattern_kinds t_pattern_numbers t_open q1_size q1_cells x2 u1 e2) gm_2_72 gm_2_69 gm_2_71 gm_p1_2 gm_1_3 ⟨rfl, rfl, by decide, by decide⟩ kd_PatternParser_step [0, 1, 2, 3, 4, 5, 6] rfl rfl rfl 0 3 rfl rfl rfl rfl hl.1 rfl (Nat.le_of_ble_eq_true rfl) d_PatternParser_parse_31 ⟨Nat.zero_le _, Nat.zero_le _⟩) hA hP hD hS [0, 1, 2, 3, 4, 5, 6] [] [0, 1, 2, 3, 4, 5, 6] rfl rfl rfl (by decide) rfl rfl rfl (fun H locs hP hD hS => ?_)
      refine lv_istore_n hx hb d_PatternParser_parse_34 rfl hl (by decide) rfl (fun ls hl => ?_)
      have hl : lv_has ls 4 [(3, .int u1.1), (0, .ref a_t), (1, .ref a_q1), (2, .int x2)] := hl
      refine lv_iload_n hx hb d_PatternParser_parse_35 rfl (lv_at hl 0 rfl) ?_
      refine lv_if_gt (tgt := 41) hx hb d_PatternParser_parse_36 rfl (fun hc => ?_) (fun hc => ?_)
      · have he := ih_t hc he
        refine lv_iload_n hx hb d_PatternParser_parse_41 rfl (lv_at hl 3 rfl) ?_
        refine lv_iload_n hx hb d_PatternParser_parse_42 rfl (lv_at hl 0 rfl) ?_
        refine lv_iadd hx hb d_PatternParser_parse_43 ?_
        refine lv_istore_n hx hb d_PatternParser_parse_44 rfl hl (by decide) rfl (fun ls hl => ?_)
        have hl : lv_has ls 4 [(2, .int (x2 + u1.1)), (3, .int u1.1), (0, .ref a_t), (1, .ref a_q1)] := hl
        refine lv_goto (tgt := 20) hx hb d_PatternParser_parse_45 rfl ?_
        have hl : lv_has ls 4 [(0, .ref a_t), (1, .ref a_q1), (2, .int (x2 + u1.1))] := lv_sub hl [2, 3, 0] rfl
        exact ih _ _ _ _ _ _ _ _ _ _ _ he hl hP hD hS hret K
      · have he := ih_f hc he
        refine lv_iload_n hx hb d_PatternParser_parse_39 rfl (lv_at hl 3 rfl) ?_
        cases he
        have hq := hret _ rfl
        subst hq
        exact k_ire hx hb hr hlk X hP hD hS d_PatternParser_parse_40
set_option maxHeartbeats 4000000 in
set_option maxRecDepth 100000 in
theorem c_PatternParser_parse (l : Launch) (D : va_G) (kk : Nat → ClassId) (st : Nat → Nat) (a_t a_t_pattern a_t_pattern_kinds a_t_pattern_numbers a_t_open a_q1 a_q1_cells : Nat) (sz : Nat) (n_q1_cells : Nat) (t_depth : Int32) (t_quoted : Int32) (t_pattern_size : Int32) (t_pattern_kinds : Nat → Int32) (t_pattern_numbers : Nat → Int32) (t_open : Nat → Int32) (q1_size : Int32) (q1_cells : Nat → Int32) (o : Int32 × Int32 × Int32 × Int32 × (Nat → Int32) × (Nat → Int32) × (Nat → Int32)) (he : f_PatternParser_parse n_q1_cells t_depth t_quoted t_pattern_size t_pattern_kinds t_pattern_numbers t_open q1_size q1_cells = some o) : Met l y_PatternParser_parse (Cond.code y_PatternParser_parse b_PatternParser_parse 4 (some .int) :: GW) rm_PatternParser_parse (KPc D kk st [.ref a_t, .ref a_q1] [(a_t, .inr (3, [.ref a_t_pattern, .ref a_t_open, .int t_depth, .int t_quoted])), (a_t_pattern, .inr (2, [.ref a_t_pattern_kinds, .ref a_t_pattern_numbers, .int t_pattern_size])), (a_t_pattern_kinds, .inl (kk 0, 20, .inl t_pattern_kinds)), (a_t_pattern_numbers, .inl (kk 0, 20, .inl t_pattern_numbers)), (a_t_open, .inl (kk 0, 20, .inl t_open)), (a_q1, .inr (1, [.ref a_q1_cells, .int q1_size])), (a_q1_cells, .inl (kk 1, n_q1_cells, .inl q1_cells))] sz) (KQi D kk o.1 [(a_t, .inr (3, [.ref a_t_pattern, .ref a_t_open, .int o.2.1, .int o.2.2.1])), (a_t_pattern, .inr (2, [.ref a_t_pattern_kinds, .ref a_t_pattern_numbers, .int o.2.2.2.1])), (a_t_pattern_kinds, .inl (kk 0, 20, .inl o.2.2.2.2.1)), (a_t_pattern_numbers, .inl (kk 0, 20, .inl o.2.2.2.2.2.1)), (a_t_open, .inl (kk 0, 20, .inl o.2.2.2.2.2.2)), (a_q1, .inr (1, [.ref a_q1_cells, .int q1_size])), (a_q1_cells, .inl (kk 1, n_q1_cells, .inl q1_cells))] (va_A [(a_t, .inr (3, [.ref a_t_pattern, .ref a_t_open, .int t_depth, .int t_quoted])), (a_t_pattern, .inr (2, [.ref a_t_pattern_kinds, .ref a_t_pattern_numbers, .int t_pattern_size])), (a_t_pattern_kinds, .inl (kk 0, 20, .inl t_pattern_kinds)), (a_t_pattern_numbers, .inl (kk 0, 20, .inl t_pattern_numbers)), (a_t_open, .inl (kk 0, 20, .inl t_open)), (a_q1, .inr (1, [.ref a_q1_cells, .int q1_size])), (a_q1_cells, .inl (kk 1, n_q1_cells, .inl q1_cells))] sz)) 0 0 (va_A [(a_t, .inr (3, [.ref a_t_pattern, .ref a_t_open, .int t_depth, .int t_quoted])), (a_t_pattern, .inr (2, [.ref a_t_pattern_kinds, .ref a_t_pattern_numbers, .int t_pattern_size])), (a_t_pattern_kinds, .inl (kk 0, 20, .inl t_pattern_kinds)), (a_t_pattern_numbers, .inl (kk 0, 20, .inl t_pattern_numbers)), (a_t_open, .inl (kk 0, 20, .inl t_open)), (a_q1, .inr (1, [.ref a_q1_cells, .int q1_size])), (a_q1_cells, .inl (kk 1, n_q1_cells, .inl q1_cells))] sz) := by
  refine k_start (Qc := fun A => KQi D kk o.1 [(a_t, .inr (3, [.ref a_t_pattern, .ref a_t_open, .int o.2.1, .int o.2.2.1])), (a_t_pattern, .inr (2, [.ref a_t_pattern_kinds, .ref a_t_pattern_numbers, .int o.2.2.2.1])), (a_t_pattern_kinds, .inl (kk 0, 20, .inl o.2.2.2.2.1)), (a_t_pattern_numbers, .inl (kk 0, 20, .inl o.2.2.2.2.2.1)), (a_t_open, .inl (kk 0, 20, .inl o.2.2.2.2.2.2)), (a_q1, .inr (1, [.ref a_q1_cells, .int q1_size])), (a_q1_cells, .inl (kk 1, n_q1_cells, .inl q1_cells))] A) (by decide) (Nat.le_of_ble_eq_true rfl) ?_
  intro p e s m below meth c A ls S hnm hr hlk hA X hP hD hS hl
  have hl : lv_has ls 4 [(0, .ref a_t), (1, .ref a_q1)] := hl
  have hx := S.1
  have hb := S.2.1
  unfold f_PatternParser_parse at he
  refine lv_aload_n hx hb d_PatternParser_parse_0 rfl (lv_at hl 0 rfl) ?_
  refine k_get S X us_PatternParser hP 0 rfl rfl 0 (by decide) gm_1_74 rfl d_PatternParser_parse_1 ?_
  refine lv_iconst (v := (0 : Int32)) hx hb d_PatternParser_parse_4 (by decide) ?_
  refine k_put S X us_Pattern t_Pattern t_Pattern_ok n_Pattern hP hD hS 1 rfl rfl 2 (by decide) gm_1_63 rfl rfl rfl (Nat.le_of_ble_eq_true rfl) d_PatternParser_parse_5 (fun H locs hP hD hS => ?_)
  have hP : va_P D classes [(a_t, .inr (3, [.ref a_t_pattern, .ref a_t_open, .int t_depth, .int t_quoted])), (a_t_pattern, .inr (2, [.ref a_t_pattern_kinds, .ref a_t_pattern_numbers, .int (0 : Int32)])), (a_t_pattern_kinds, .inl (kk 0, 20, .inl t_pattern_kinds)), (a_t_pattern_numbers, .inl (kk 0, 20, .inl t_pattern_numbers)), (a_t_open, .inl (kk 0, 20, .inl t_open)), (a_q1, .inr (1, [.ref a_q1_cells, .int q1_size])), (a_q1_cells, .inl (kk 1, n_q1_cells, .inl q1_cells))] H := hP
  have hD : va_D A [(a_t, .inr (3, [.ref a_t_pattern, .ref a_t_open, .int t_depth, .int t_quoted])), (a_t_pattern, .inr (2, [.ref a_t_pattern_kinds, .ref a_t_pattern_numbers, .int (0 : Int32)])), (a_t_pattern_kinds, .inl (kk 0, 20, .inl t_pattern_kinds)), (a_t_pattern_numbers, .inl (kk 0, 20, .inl t_pattern_numbers)), (a_t_open, .inl (kk 0, 20, .inl t_open)), (a_q1, .inr (1, [.ref a_q1_cells, .int q1_size])), (a_q1_cells, .inl (kk 1, n_q1_cells, .inl q1_cells))] := hD
  refine lv_aload_n hx hb d_PatternParser_parse_8 rfl (lv_at hl 0 rfl) ?_
  refine lv_iconst (v := (0 : Int32)) hx hb d_PatternParser_parse_9 (by decide) ?_
  refine k_put S X us_PatternParser t_PatternParser t_PatternParser_ok n_PatternParser hP hD hS 0 rfl rfl 2 (by decide) gm_1_77 rfl rfl rfl (Nat.le_of_ble_eq_true rfl) d_PatternParser_parse_10 (fun H locs hP hD hS => ?_)
  have hP : va_P D classes [(a_t, .inr (3, [.ref a_t_pattern, .ref a_t_open, .int (0 : Int32), .int t_quoted])), (a_t_pattern, .inr (2, [.ref a_t_pattern_kinds, .ref a_t_pattern_numbers, .int (0 : Int32)])), (a_t_pattern_kinds, .inl (kk 0, 20, .inl t_pattern_kinds)), (a_t_pattern_numbers, .inl (kk 0, 20, .inl t_pattern_numbers)), (a_t_open, .inl (kk 0, 20, .inl t_open)), (a_q1, .inr (1, [.ref a_q1_cells, .int q1_size])), (a_q1_cells, .inl (kk 1, n_q1_cells, .inl q1_cells))] H := hP
  have hD : va_D A [(a_t, .inr (3, [.ref a_t_pattern, .ref a_t_open, .int (0 : Int32), .int t_quoted])), (a_t_pattern, .inr (2, [.ref a_t_pattern_kinds, .ref a_t_pattern_numbers, .int (0 : Int32)])), (a_t_pattern_kinds, .inl (kk 0, 20, .inl t_pattern_kinds)), (a_t_pattern_numbers, .inl (kk 0, 20, .inl t_pattern_numbers)), (a_t_open, .inl (kk 0, 20, .inl t_open)), (a_q1, .inr (1, [.ref a_q1_cells, .int q1_size])), (a_q1_cells, .inl (kk 1, n_q1_cells, .inl q1_cells))] := hD
  refine lv_aload_n hx hb d_PatternParser_parse_13 rfl (lv_at hl 0 rfl) ?_
  refine lv_iconst (v := (0 : Int32)) hx hb d_PatternParser_parse_14 (by decide) ?_
  refine k_put S X us_PatternParser t_PatternParser t_PatternParser_ok n_PatternParser hP hD hS 0 rfl rfl 3 (by decide) gm_1_78 rfl (bo_n (Or.inl rfl)) (bo_f (Or.inl rfl)) (Nat.le_of_ble_eq_true rfl) d_PatternParser_parse_15 (fun H locs hP hD hS => ?_)
  have hP : va_P D classes [(a_t, .inr (3, [.ref a_t_pattern, .ref a_t_open, .int (0 : Int32), .int (0 : Int32)])), (a_t_pattern, .inr (2, [.ref a_t_pattern_kinds, .ref a_t_pattern_numbers, .int (0 : Int32)])), (a_t_pattern_kinds, .inl (kk 0, 20, .inl t_pattern_kinds)), (a_t_pattern_numbers, .inl (kk 0, 20, .inl t_pattern_numbers)), (a_t_open, .inl (kk 0, 20, .inl t_open)), (a_q1, .inr (1, [.ref a_q1_cells, .int q1_size])), (a_q1_cells, .inl (kk 1, n_q1_cells, .inl q1_cells))] H := hP
  have hD : va_D A [(a_t, .inr (3, [.ref a_t_pattern, .ref a_t_open, .int (0 : Int32), .int (0 : Int32)])), (a_t_pattern, .inr (2, [.ref a_t_pattern_kinds, .ref a_t_pattern_numbers, .int (0 : Int32)])), (a_t_pattern_kinds, .inl (kk 0, 20, .inl t_pattern_kinds)), (a_t_pattern_numbers, .inl (kk 0, 20, .inl t_pattern_numbers)), (a_t_open, .inl (kk 0, 20, .inl t_open)), (a_q1, .inr (1, [.ref a_q1_cells, .int q1_size])), (a_q1_cells, .inl (kk 1, n_q1_cells, .inl q1_cells))] := hD
  refine lv_iconst (v := (0 : Int32)) hx hb d_PatternParser_parse_18 (by decide) ?_
  refine lv_istore_n hx hb d_PatternParser_parse_19 rfl hl (by decide) rfl (fun ls hl => ?_)
  have hl : lv_has ls 4 [(2, .int (0 : Int32)), (0, .ref a_t), (1, .ref a_q1)] := hl
  obtain ⟨u3, e4, he⟩ := ih_b he
  have hl : lv_has ls 4 [(0, .ref a_t), (1, .ref a_q1), (2, .int (0 : Int32))] := lv_sub hl [1, 2, 0] rfl
  rcases u3 with o5 | v6
  · have he := sel_l he
    cases he
    exact w_PatternParser_parse_20 a_t a_t_pattern a_t_pattern_kinds a_t_pattern_numbers a_t_open a_q1 a_q1_cells n_q1_cells q1_size q1_cells S hr hlk hA X FU (0 : Int32) (0 : Int32) (0 : Int32) (0 : Int32) t_pattern_kinds t_pattern_numbers t_open _ _ _ ls e4 hl hP hD hS (fun o h => by cases h; rfl) (fun v h => by cases h)
  · have he := sel_r he
    refine w_PatternParser_parse_20 a_t a_t_pattern a_t_pattern_kinds a_t_pattern_numbers a_t_open a_q1 a_q1_cells n_q1_cells q1_size q1_cells S hr hlk hA X FU (0 : Int32) (0 : Int32) (0 : Int32) (0 : Int32) t_pattern_kinds t_pattern_numbers t_open _ _ _ ls e4 hl hP hD hS (fun o h => by cases h) (fun v h H locs ls hl hP hD hS => ?_)
    have h := Sum.inr.inj h
    subst h
    refine lv_aload_n hx hb d_PatternParser_parse_48 rfl (lv_at hl 0 rfl) ?_
    refine k_get S X us_PatternParser hP 0 rfl rfl 2 (by decide) gm_1_77 rfl d_PatternParser_parse_49 ?_
    refine lv_if_le (tgt := 62) hx hb d_PatternParser_parse_52 rfl (fun hc => ?_) (fun hc => ?_)
    · have he := ih_t hc he
      refine lv_iconst (v := (-1 : Int32)) hx hb d_PatternParser_parse_62 (by decide) ?_
      cases he
      exact k_ire hx hb hr hlk X hP hD hS d_PatternParser_parse_63
    · have he := ih_f hc he
      refine lv_aload_n hx hb d_PatternParser_parse_55 rfl (lv_at hl 1 rfl) ?_
      refine k_get S X us_Row hP 5 rfl rfl 1 (by decide) gm_1_36 rfl d_PatternParser_parse_56 ?_
      refine lv_goto (tgt := 63) hx hb d_PatternParser_parse_59 rfl ?_
      cases he
      exact k_ire hx hb hr hlk X hP hD hS d_PatternParser_parse_63
