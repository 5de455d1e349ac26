abbrev b_Pattern_isAllowed : ByteArray := prog_7_method_2_code
def y_Pattern_isAllowed : MethodName := ⟨"SkeletonClock$Pattern", "isAllowed", "(II)Z"⟩
theorem kd_Pattern_isAllowed : kd_ok y_Pattern_isAllowed 2 := by decide +kernel
abbrev b_Pattern_kind : ByteArray := prog_7_method_6_code
def y_Pattern_kind : MethodName := ⟨"SkeletonClock$Pattern", "kind", "(I)I"⟩
theorem kd_Pattern_kind : kd_ok y_Pattern_kind 1 := by decide +kernel
abbrev b_Pattern_number : ByteArray := prog_7_method_7_code
def y_Pattern_number : MethodName := ⟨"SkeletonClock$Pattern", "number", "(I)I"⟩
theorem kd_Pattern_number : kd_ok y_Pattern_number 1 := by decide +kernel
abbrev b_Pattern_add : ByteArray := prog_7_method_4_code
def y_Pattern_add : MethodName := ⟨"SkeletonClock$Pattern", "add", "(II)Z"⟩
theorem kd_Pattern_add : kd_ok y_Pattern_add 2 := by decide +kernel
abbrev b_Pattern_become : ByteArray := prog_7_method_3_code
def y_Pattern_become : MethodName := ⟨"SkeletonClock$Pattern", "become", "(LSkeletonClock$Pattern;)V"⟩
theorem kd_Pattern_become : kd_ok y_Pattern_become 1 := by decide +kernel
abbrev b_Pattern_endSection : ByteArray := prog_7_method_5_code
def y_Pattern_endSection : MethodName := ⟨"SkeletonClock$Pattern", "endSection", "(I)V"⟩
theorem kd_Pattern_endSection : kd_ok y_Pattern_endSection 1 := by decide +kernel
abbrev b_Pattern_isName : ByteArray := prog_7_method_8_code
def y_Pattern_isName : MethodName := ⟨"SkeletonClock$Pattern", "isName", "(I)Z"⟩
theorem kd_Pattern_isName : kd_ok y_Pattern_isName 1 := by decide +kernel
abbrev b_Pattern_isFixed : ByteArray := prog_7_method_9_code
def y_Pattern_isFixed : MethodName := ⟨"SkeletonClock$Pattern", "isFixed", "(I)Z"⟩
theorem kd_Pattern_isFixed : kd_ok y_Pattern_isFixed 1 := by decide +kernel
abbrev b_Pattern_fixedBehind : ByteArray := prog_7_method_10_code
def y_Pattern_fixedBehind : MethodName := ⟨"SkeletonClock$Pattern", "fixedBehind", "(II)I"⟩
theorem kd_Pattern_fixedBehind : kd_ok y_Pattern_fixedBehind 2 := by decide +kernel
abbrev b_Pattern_firstCount : ByteArray := prog_7_method_11_code
def y_Pattern_firstCount : MethodName := ⟨"SkeletonClock$Pattern", "firstCount", "(I)I"⟩
theorem kd_Pattern_firstCount : kd_ok y_Pattern_firstCount 1 := by decide +kernel
abbrev b_Pattern_isWish : ByteArray := prog_7_method_12_code
def y_Pattern_isWish : MethodName := ⟨"SkeletonClock$Pattern", "isWish", "()Z"⟩
theorem kd_Pattern_isWish : kd_ok y_Pattern_isWish 0 := by decide +kernel
abbrev b_Pattern_letterDistance : ByteArray := prog_7_method_14_code
def y_Pattern_letterDistance : MethodName := ⟨"SkeletonClock$Pattern", "letterDistance", "(III)I"⟩
theorem kd_Pattern_letterDistance : kd_ok y_Pattern_letterDistance 3 := by decide +kernel
abbrev b_Pattern_distanceTo : ByteArray := prog_7_method_13_code
def y_Pattern_distanceTo : MethodName := ⟨"SkeletonClock$Pattern", "distanceTo", "(LSkeletonClock$Pattern;)I"⟩
theorem kd_Pattern_distanceTo : kd_ok y_Pattern_distanceTo 1 := by decide +kernel
abbrev b_Nest_clear : ByteArray := prog_6_method_2_code
def y_Nest_clear : MethodName := ⟨"SkeletonClock$Nest", "clear", "()V"⟩
theorem kd_Nest_clear : kd_ok y_Nest_clear 0 := by decide +kernel
abbrev b_Nest_open : ByteArray := prog_6_method_3_code
def y_Nest_open : MethodName := ⟨"SkeletonClock$Nest", "open", "(III)V"⟩
theorem kd_Nest_open : kd_ok y_Nest_open 3 := by decide +kernel
abbrev b_Nest_closeBefore : ByteArray := prog_6_method_4_code
def y_Nest_closeBefore : MethodName := ⟨"SkeletonClock$Nest", "closeBefore", "(I)V"⟩
theorem kd_Nest_closeBefore : kd_ok y_Nest_closeBefore 1 := by decide +kernel
abbrev b_Nest_isEmpty : ByteArray := prog_6_method_5_code
def y_Nest_isEmpty : MethodName := ⟨"SkeletonClock$Nest", "isEmpty", "()Z"⟩
theorem kd_Nest_isEmpty : kd_ok y_Nest_isEmpty 0 := by decide +kernel
abbrev b_Nest_limit : ByteArray := prog_6_method_6_code
def y_Nest_limit : MethodName := ⟨"SkeletonClock$Nest", "limit", "(I)I"⟩
theorem kd_Nest_limit : kd_ok y_Nest_limit 1 := by decide +kernel
abbrev b_Nest_place : ByteArray := prog_6_method_7_code
def y_Nest_place : MethodName := ⟨"SkeletonClock$Nest", "place", "()I"⟩
theorem kd_Nest_place : kd_ok y_Nest_place 0 := by decide +kernel
abbrev b_Nest_mark : ByteArray := prog_6_method_8_code
def y_Nest_mark : MethodName := ⟨"SkeletonClock$Nest", "mark", "()I"⟩
theorem kd_Nest_mark : kd_ok y_Nest_mark 0 := by decide +kernel
abbrev b_Known_learn : ByteArray := prog_3_method_2_code
def y_Known_learn : MethodName := ⟨"SkeletonClock$Known", "learn", "(II)Z"⟩
theorem kd_Known_learn : kd_ok y_Known_learn 2 := by decide +kernel
abbrev b_Known_forget : ByteArray := prog_3_method_3_code
def y_Known_forget : MethodName := ⟨"SkeletonClock$Known", "forget", "(I)V"⟩
theorem kd_Known_forget : kd_ok y_Known_forget 1 := by decide +kernel
abbrev b_Known_has : ByteArray := prog_3_method_4_code
def y_Known_has : MethodName := ⟨"SkeletonClock$Known", "has", "(I)Z"⟩
theorem kd_Known_has : kd_ok y_Known_has 1 := by decide +kernel
abbrev b_Known_hasOneOf : ByteArray := prog_3_method_5_code
def y_Known_hasOneOf : MethodName := ⟨"SkeletonClock$Known", "hasOneOf", "(II)Z"⟩
theorem kd_Known_hasOneOf : kd_ok y_Known_hasOneOf 2 := by decide +kernel
abbrev b_Known_value : ByteArray := prog_3_method_6_code
def y_Known_value : MethodName := ⟨"SkeletonClock$Known", "value", "(I)I"⟩
theorem kd_Known_value : kd_ok y_Known_value 1 := by decide +kernel
theorem gm_2_191 : Cond.fieldLink "SkeletonClock$Pattern" (22 : Nat) "SkeletonClock$Pattern" "ALLOWED" "[I" ∈ GW := gw_2 (i := 191) rfl rfl
theorem gm_1_62 : Cond.fieldLink "SkeletonClock$Pattern" (18 : Nat) "SkeletonClock$Pattern" "size" "I" ∈ GW := gw_1 (i := 62) rfl rfl
theorem gm_1_60 : Cond.fieldLink "SkeletonClock$Pattern" (9 : Nat) "SkeletonClock$Pattern" "kinds" "[I" ∈ GW := gw_1 (i := 60) rfl rfl
theorem gm_1_61 : Cond.fieldLink "SkeletonClock$Pattern" (15 : Nat) "SkeletonClock$Pattern" "numbers" "[I" ∈ GW := gw_1 (i := 61) rfl rfl
theorem gm_2_219 : Cond.code ({ cls := "SkeletonClock$Pattern", name := "kind", desc := "(I)I" } : MethodName) prog_7_method_6_code (2 : Nat) (Option.some FieldType.int) ∈ GW := gw_2 (i := 219) rfl rfl
theorem gm_2_216 : Cond.methodLink "SkeletonClock$Pattern" (25 : Nat) ({ cls := "SkeletonClock$Pattern", name := "kind", desc := "(I)I" } : MethodName) ∈ GW := gw_2 (i := 216) rfl rfl
theorem gm_1_4 : Cond.initialized "SkeletonClock$Pattern" ∈ GW := gw_1 (i := 4) rfl rfl
theorem gm_2_217 : Cond.instanceMethod ({ cls := "SkeletonClock$Pattern", name := "kind", desc := "(I)I" } : MethodName) ∈ GW := gw_2 (i := 217) rfl rfl
theorem gm_2_218 : Cond.selects "SkeletonClock$Pattern" ({ cls := "SkeletonClock$Pattern", name := "kind", desc := "(I)I" } : MethodName) ({ cls := "SkeletonClock$Pattern", name := "kind", desc := "(I)I" } : MethodName) ∈ GW := gw_2 (i := 218) rfl rfl
theorem gm_2_223 : Cond.code ({ cls := "SkeletonClock$Pattern", name := "number", desc := "(I)I" } : MethodName) prog_7_method_7_code (2 : Nat) (Option.some FieldType.int) ∈ GW := gw_2 (i := 223) rfl rfl
theorem gm_2_220 : Cond.methodLink "SkeletonClock$Pattern" (29 : Nat) ({ cls := "SkeletonClock$Pattern", name := "number", desc := "(I)I" } : MethodName) ∈ GW := gw_2 (i := 220) rfl rfl
theorem gm_2_221 : Cond.instanceMethod ({ cls := "SkeletonClock$Pattern", name := "number", desc := "(I)I" } : MethodName) ∈ GW := gw_2 (i := 221) rfl rfl
theorem gm_2_222 : Cond.selects "SkeletonClock$Pattern" ({ cls := "SkeletonClock$Pattern", name := "number", desc := "(I)I" } : MethodName) ({ cls := "SkeletonClock$Pattern", name := "number", desc := "(I)I" } : MethodName) ∈ GW := gw_2 (i := 222) rfl rfl
theorem gm_2_88 : Cond.code ({ cls := "SkeletonClock$Pattern", name := "add", desc := "(II)Z" } : MethodName) prog_7_method_4_code (3 : Nat) (Option.some FieldType.boolean) ∈ GW := gw_2 (i := 88) rfl rfl
theorem gm_2_224 : Cond.methodLink "SkeletonClock$Pattern" (32 : Nat) ({ cls := "SkeletonClock$Pattern", name := "add", desc := "(II)Z" } : MethodName) ∈ GW := gw_2 (i := 224) rfl rfl
theorem gm_2_86 : Cond.instanceMethod ({ cls := "SkeletonClock$Pattern", name := "add", desc := "(II)Z" } : MethodName) ∈ GW := gw_2 (i := 86) rfl rfl
theorem gm_2_87 : Cond.selects "SkeletonClock$Pattern" ({ cls := "SkeletonClock$Pattern", name := "add", desc := "(II)Z" } : MethodName) ({ cls := "SkeletonClock$Pattern", name := "add", desc := "(II)Z" } : MethodName) ∈ GW := gw_2 (i := 87) rfl rfl
theorem gm_3_238 : Cond.code ({ cls := "SkeletonClock$Pattern", name := "isFixed", desc := "(I)Z" } : MethodName) prog_7_method_9_code (3 : Nat) (Option.some FieldType.boolean) ∈ GW := gw_3 (i := 238) rfl rfl
theorem gm_4_17 : Cond.methodLink "SkeletonClock$Pattern" (36 : Nat) ({ cls := "SkeletonClock$Pattern", name := "isFixed", desc := "(I)Z" } : MethodName) ∈ GW := gw_4 (i := 17) rfl rfl
theorem gm_3_236 : Cond.instanceMethod ({ cls := "SkeletonClock$Pattern", name := "isFixed", desc := "(I)Z" } : MethodName) ∈ GW := gw_3 (i := 236) rfl rfl
theorem gm_3_237 : Cond.selects "SkeletonClock$Pattern" ({ cls := "SkeletonClock$Pattern", name := "isFixed", desc := "(I)Z" } : MethodName) ({ cls := "SkeletonClock$Pattern", name := "isFixed", desc := "(I)Z" } : MethodName) ∈ GW := gw_3 (i := 237) rfl rfl
theorem gm_3_5 : Cond.methodLink "SkeletonClock$Pattern" (47 : Nat) ({ cls := "java/lang/Math", name := "abs", desc := "(I)I" } : MethodName) ∈ GW := gw_3 (i := 5) rfl rfl
theorem gm_3_6 : Cond.static ({ cls := "java/lang/Math", name := "abs", desc := "(I)I" } : MethodName) ∈ GW := gw_3 (i := 6) rfl rfl
theorem gm_3_7 : Cond.code ({ cls := "java/lang/Math", name := "abs", desc := "(I)I" } : MethodName) prog_16_method_59_code (1 : Nat) (Option.some FieldType.int) ∈ GW := gw_3 (i := 7) rfl rfl
theorem gm_3_1 : Cond.code ({ cls := "SkeletonClock$Pattern", name := "firstCount", desc := "(I)I" } : MethodName) prog_7_method_11_code (3 : Nat) (Option.some FieldType.int) ∈ GW := gw_3 (i := 1) rfl rfl
theorem gm_2_238 : Cond.methodLink "SkeletonClock$Pattern" (40 : Nat) ({ cls := "SkeletonClock$Pattern", name := "firstCount", desc := "(I)I" } : MethodName) ∈ GW := gw_2 (i := 238) rfl rfl
theorem gm_3_0 : Cond.instanceMethod ({ cls := "SkeletonClock$Pattern", name := "firstCount", desc := "(I)I" } : MethodName) ∈ GW := gw_3 (i := 0) rfl rfl
theorem gm_p1_8 : Cond.selects "SkeletonClock$Pattern" ⟨"SkeletonClock$Pattern", "firstCount", "(I)I"⟩ ⟨"SkeletonClock$Pattern", "firstCount", "(I)I"⟩ ∈ GW := gs_1 (i := 8) rfl
theorem gm_3_4 : Cond.code ({ cls := "SkeletonClock$Pattern", name := "letterDistance", desc := "(III)I" } : MethodName) prog_7_method_14_code (4 : Nat) (Option.some FieldType.int) ∈ GW := gw_3 (i := 4) rfl rfl
theorem gm_3_2 : Cond.methodLink "SkeletonClock$Pattern" (43 : Nat) ({ cls := "SkeletonClock$Pattern", name := "letterDistance", desc := "(III)I" } : MethodName) ∈ GW := gw_3 (i := 2) rfl rfl
theorem gm_3_3 : Cond.static ({ cls := "SkeletonClock$Pattern", name := "letterDistance", desc := "(III)I" } : MethodName) ∈ GW := gw_3 (i := 3) rfl rfl
theorem gm_1_105 : Cond.fieldLink "SkeletonClock$Nest" (21 : Nat) "SkeletonClock$Nest" "depth" "I" ∈ GW := gw_1 (i := 105) rfl rfl
theorem gm_1_102 : Cond.fieldLink "SkeletonClock$Nest" (9 : Nat) "SkeletonClock$Nest" "ends" "[I" ∈ GW := gw_1 (i := 102) rfl rfl
theorem gm_1_103 : Cond.fieldLink "SkeletonClock$Nest" (15 : Nat) "SkeletonClock$Nest" "places" "[I" ∈ GW := gw_1 (i := 103) rfl rfl
theorem gm_1_104 : Cond.fieldLink "SkeletonClock$Nest" (18 : Nat) "SkeletonClock$Nest" "marks" "[I" ∈ GW := gw_1 (i := 104) rfl rfl
theorem gm_1_136 : Cond.fieldLink "SkeletonClock$Known" (15 : Nat) "SkeletonClock$Known" "flags" "[Z" ∈ GW := gw_1 (i := 136) rfl rfl
theorem gm_1_138 : Cond.fieldLink "SkeletonClock$Known" (22 : Nat) "SkeletonClock$Known" "size" "I" ∈ GW := gw_1 (i := 138) rfl rfl
theorem gm_1_135 : Cond.fieldLink "SkeletonClock$Known" (9 : Nat) "SkeletonClock$Known" "values" "[I" ∈ GW := gw_1 (i := 135) rfl rfl
theorem gm_1_137 : Cond.fieldLink "SkeletonClock$Known" (19 : Nat) "SkeletonClock$Known" "order" "[I" ∈ GW := gw_1 (i := 137) rfl rfl
theorem gm_4_39 : Cond.code ({ cls := "SkeletonClock$Known", name := "has", desc := "(I)Z" } : MethodName) prog_3_method_4_code (2 : Nat) (Option.some FieldType.boolean) ∈ GW := gw_4 (i := 39) rfl rfl
theorem gm_4_36 : Cond.methodLink "SkeletonClock$Known" (26 : Nat) ({ cls := "SkeletonClock$Known", name := "has", desc := "(I)Z" } : MethodName) ∈ GW := gw_4 (i := 36) rfl rfl
theorem gm_1_8 : Cond.initialized "SkeletonClock$Known" ∈ GW := gw_1 (i := 8) rfl rfl
theorem gm_4_37 : Cond.instanceMethod ({ cls := "SkeletonClock$Known", name := "has", desc := "(I)Z" } : MethodName) ∈ GW := gw_4 (i := 37) rfl rfl
theorem gm_4_38 : Cond.selects "SkeletonClock$Known" ({ cls := "SkeletonClock$Known", name := "has", desc := "(I)Z" } : MethodName) ({ cls := "SkeletonClock$Known", name := "has", desc := "(I)Z" } : MethodName) ∈ GW := gw_4 (i := 38) rfl rfl
theorem d_Pattern_isAllowed_0 : decode b_Pattern_isAllowed 0 = .ok (.iload_n 0, 1) := by decide +kernel
theorem d_Pattern_isAllowed_1 : decode b_Pattern_isAllowed 1 = .ok (.ifCond .lt 39, 3) := by decide +kernel
theorem d_Pattern_isAllowed_4 : decode b_Pattern_isAllowed 4 = .ok (.iload_n 0, 1) := by decide +kernel
theorem d_Pattern_isAllowed_5 : decode b_Pattern_isAllowed 5 = .ok (.getstatic 22, 3) := by decide +kernel
theorem d_Pattern_isAllowed_8 : decode b_Pattern_isAllowed 8 = .ok (.arraylength, 1) := by decide +kernel
theorem d_Pattern_isAllowed_9 : decode b_Pattern_isAllowed 9 = .ok (.if_icmp .ge 31, 3) := by decide +kernel
theorem d_Pattern_isAllowed_12 : decode b_Pattern_isAllowed 12 = .ok (.iload_n 1, 1) := by decide +kernel
theorem d_Pattern_isAllowed_13 : decode b_Pattern_isAllowed 13 = .ok (.iconst 1, 1) := by decide +kernel
theorem d_Pattern_isAllowed_14 : decode b_Pattern_isAllowed 14 = .ok (.if_icmp .lt 26, 3) := by decide +kernel
theorem d_Pattern_isAllowed_17 : decode b_Pattern_isAllowed 17 = .ok (.iload_n 1, 1) := by decide +kernel
theorem d_Pattern_isAllowed_18 : decode b_Pattern_isAllowed 18 = .ok (.bipush 9, 2) := by decide +kernel
theorem d_Pattern_isAllowed_20 : decode b_Pattern_isAllowed 20 = .ok (.if_icmp .gt 20, 3) := by decide +kernel
theorem d_Pattern_isAllowed_23 : decode b_Pattern_isAllowed 23 = .ok (.getstatic 22, 3) := by decide +kernel
theorem d_Pattern_isAllowed_26 : decode b_Pattern_isAllowed 26 = .ok (.iload_n 0, 1) := by decide +kernel
theorem d_Pattern_isAllowed_27 : decode b_Pattern_isAllowed 27 = .ok (.iaload, 1) := by decide +kernel
theorem d_Pattern_isAllowed_28 : decode b_Pattern_isAllowed 28 = .ok (.iload_n 1, 1) := by decide +kernel
theorem d_Pattern_isAllowed_29 : decode b_Pattern_isAllowed 29 = .ok (.ishr, 1) := by decide +kernel
theorem d_Pattern_isAllowed_30 : decode b_Pattern_isAllowed 30 = .ok (.iconst 1, 1) := by decide +kernel
theorem d_Pattern_isAllowed_31 : decode b_Pattern_isAllowed 31 = .ok (.iand, 1) := by decide +kernel
theorem d_Pattern_isAllowed_32 : decode b_Pattern_isAllowed 32 = .ok (.iconst 1, 1) := by decide +kernel
theorem d_Pattern_isAllowed_33 : decode b_Pattern_isAllowed 33 = .ok (.if_icmp .ne 7, 3) := by decide +kernel
theorem d_Pattern_isAllowed_36 : decode b_Pattern_isAllowed 36 = .ok (.iconst 1, 1) := by decide +kernel
theorem d_Pattern_isAllowed_37 : decode b_Pattern_isAllowed 37 = .ok (.goto 4, 3) := by decide +kernel
theorem d_Pattern_isAllowed_40 : decode b_Pattern_isAllowed 40 = .ok (.iconst 0, 1) := by decide +kernel
theorem d_Pattern_isAllowed_41 : decode b_Pattern_isAllowed 41 = .ok (.ireturn, 1) := by decide +kernel
theorem d_Pattern_kind_0 : decode b_Pattern_kind 0 = .ok (.iload_n 1, 1) := by decide +kernel
theorem d_Pattern_kind_1 : decode b_Pattern_kind 1 = .ok (.ifCond .lt 20, 3) := by decide +kernel
theorem d_Pattern_kind_4 : decode b_Pattern_kind 4 = .ok (.iload_n 1, 1) := by decide +kernel
theorem d_Pattern_kind_5 : decode b_Pattern_kind 5 = .ok (.aload_n 0, 1) := by decide +kernel
theorem d_Pattern_kind_6 : decode b_Pattern_kind 6 = .ok (.getfield 18, 3) := by decide +kernel
theorem d_Pattern_kind_9 : decode b_Pattern_kind 9 = .ok (.if_icmp .ge 12, 3) := by decide +kernel
theorem d_Pattern_kind_12 : decode b_Pattern_kind 12 = .ok (.aload_n 0, 1) := by decide +kernel
theorem d_Pattern_kind_13 : decode b_Pattern_kind 13 = .ok (.getfield 9, 3) := by decide +kernel
theorem d_Pattern_kind_16 : decode b_Pattern_kind 16 = .ok (.iload_n 1, 1) := by decide +kernel
theorem d_Pattern_kind_17 : decode b_Pattern_kind 17 = .ok (.iaload, 1) := by decide +kernel
theorem d_Pattern_kind_18 : decode b_Pattern_kind 18 = .ok (.goto 4, 3) := by decide +kernel
theorem d_Pattern_kind_21 : decode b_Pattern_kind 21 = .ok (.iconst (-1), 1) := by decide +kernel
theorem d_Pattern_kind_22 : decode b_Pattern_kind 22 = .ok (.ireturn, 1) := by decide +kernel
theorem d_Pattern_number_0 : decode b_Pattern_number 0 = .ok (.iload_n 1, 1) := by decide +kernel
theorem d_Pattern_number_1 : decode b_Pattern_number 1 = .ok (.ifCond .lt 20, 3) := by decide +kernel
theorem d_Pattern_number_4 : decode b_Pattern_number 4 = .ok (.iload_n 1, 1) := by decide +kernel
theorem d_Pattern_number_5 : decode b_Pattern_number 5 = .ok (.aload_n 0, 1) := by decide +kernel
theorem d_Pattern_number_6 : decode b_Pattern_number 6 = .ok (.getfield 18, 3) := by decide +kernel
theorem d_Pattern_number_9 : decode b_Pattern_number 9 = .ok (.if_icmp .ge 12, 3) := by decide +kernel
theorem d_Pattern_number_12 : decode b_Pattern_number 12 = .ok (.aload_n 0, 1) := by decide +kernel
theorem d_Pattern_number_13 : decode b_Pattern_number 13 = .ok (.getfield 15, 3) := by decide +kernel
theorem d_Pattern_number_16 : decode b_Pattern_number 16 = .ok (.iload_n 1, 1) := by decide +kernel
theorem d_Pattern_number_17 : decode b_Pattern_number 17 = .ok (.iaload, 1) := by decide +kernel
theorem d_Pattern_number_18 : decode b_Pattern_number 18 = .ok (.goto 4, 3) := by decide +kernel
theorem d_Pattern_number_21 : decode b_Pattern_number 21 = .ok (.iconst 0, 1) := by decide +kernel
theorem d_Pattern_number_22 : decode b_Pattern_number 22 = .ok (.ireturn, 1) := by decide +kernel
theorem d_Pattern_add_0 : decode b_Pattern_add 0 = .ok (.aload_n 0, 1) := by decide +kernel
theorem d_Pattern_add_1 : decode b_Pattern_add 1 = .ok (.getfield 18, 3) := by decide +kernel
theorem d_Pattern_add_4 : decode b_Pattern_add 4 = .ok (.bipush 20, 2) := by decide +kernel
theorem d_Pattern_add_6 : decode b_Pattern_add 6 = .ok (.if_icmp .lt 5, 3) := by decide +kernel
theorem d_Pattern_add_9 : decode b_Pattern_add 9 = .ok (.iconst 0, 1) := by decide +kernel
theorem d_Pattern_add_10 : decode b_Pattern_add 10 = .ok (.ireturn, 1) := by decide +kernel
theorem d_Pattern_add_11 : decode b_Pattern_add 11 = .ok (.aload_n 0, 1) := by decide +kernel
theorem d_Pattern_add_12 : decode b_Pattern_add 12 = .ok (.getfield 9, 3) := by decide +kernel
theorem d_Pattern_add_15 : decode b_Pattern_add 15 = .ok (.aload_n 0, 1) := by decide +kernel
theorem d_Pattern_add_16 : decode b_Pattern_add 16 = .ok (.getfield 18, 3) := by decide +kernel
theorem d_Pattern_add_19 : decode b_Pattern_add 19 = .ok (.iload_n 1, 1) := by decide +kernel
theorem d_Pattern_add_20 : decode b_Pattern_add 20 = .ok (.iastore, 1) := by decide +kernel
theorem d_Pattern_add_21 : decode b_Pattern_add 21 = .ok (.aload_n 0, 1) := by decide +kernel
theorem d_Pattern_add_22 : decode b_Pattern_add 22 = .ok (.getfield 15, 3) := by decide +kernel
theorem d_Pattern_add_25 : decode b_Pattern_add 25 = .ok (.aload_n 0, 1) := by decide +kernel
theorem d_Pattern_add_26 : decode b_Pattern_add 26 = .ok (.getfield 18, 3) := by decide +kernel
theorem d_Pattern_add_29 : decode b_Pattern_add 29 = .ok (.iload_n 2, 1) := by decide +kernel
theorem d_Pattern_add_30 : decode b_Pattern_add 30 = .ok (.iastore, 1) := by decide +kernel
theorem d_Pattern_add_31 : decode b_Pattern_add 31 = .ok (.aload_n 0, 1) := by decide +kernel
theorem d_Pattern_add_32 : decode b_Pattern_add 32 = .ok (.dup, 1) := by decide +kernel
theorem d_Pattern_add_33 : decode b_Pattern_add 33 = .ok (.getfield 18, 3) := by decide +kernel
theorem d_Pattern_add_36 : decode b_Pattern_add 36 = .ok (.iconst 1, 1) := by decide +kernel
theorem d_Pattern_add_37 : decode b_Pattern_add 37 = .ok (.iadd, 1) := by decide +kernel
theorem d_Pattern_add_38 : decode b_Pattern_add 38 = .ok (.putfield 18, 3) := by decide +kernel
theorem d_Pattern_add_41 : decode b_Pattern_add 41 = .ok (.iconst 1, 1) := by decide +kernel
theorem d_Pattern_add_42 : decode b_Pattern_add 42 = .ok (.ireturn, 1) := by decide +kernel
theorem d_Pattern_become_0 : decode b_Pattern_become 0 = .ok (.aload_n 0, 1) := by decide +kernel
theorem d_Pattern_become_1 : decode b_Pattern_become 1 = .ok (.iconst 0, 1) := by decide +kernel
theorem d_Pattern_become_2 : decode b_Pattern_become 2 = .ok (.putfield 18, 3) := by decide +kernel
theorem d_Pattern_become_5 : decode b_Pattern_become 5 = .ok (.iconst 0, 1) := by decide +kernel
theorem d_Pattern_become_6 : decode b_Pattern_become 6 = .ok (.istore_n 2, 1) := by decide +kernel
theorem d_Pattern_become_7 : decode b_Pattern_become 7 = .ok (.iload_n 2, 1) := by decide +kernel
theorem d_Pattern_become_8 : decode b_Pattern_become 8 = .ok (.aload_n 1, 1) := by decide +kernel
theorem d_Pattern_become_9 : decode b_Pattern_become 9 = .ok (.getfield 18, 3) := by decide +kernel
theorem d_Pattern_become_12 : decode b_Pattern_become 12 = .ok (.if_icmp .ge 24, 3) := by decide +kernel
theorem d_Pattern_become_15 : decode b_Pattern_become 15 = .ok (.aload_n 0, 1) := by decide +kernel
theorem d_Pattern_become_16 : decode b_Pattern_become 16 = .ok (.aload_n 1, 1) := by decide +kernel
theorem d_Pattern_become_17 : decode b_Pattern_become 17 = .ok (.iload_n 2, 1) := by decide +kernel
theorem d_Pattern_become_18 : decode b_Pattern_become 18 = .ok (.invokevirtual 25, 3) := by decide +kernel
theorem d_Pattern_become_21 : decode b_Pattern_become 21 = .ok (.aload_n 1, 1) := by decide +kernel
theorem d_Pattern_become_22 : decode b_Pattern_become 22 = .ok (.iload_n 2, 1) := by decide +kernel
theorem d_Pattern_become_23 : decode b_Pattern_become 23 = .ok (.invokevirtual 29, 3) := by decide +kernel
theorem d_Pattern_become_26 : decode b_Pattern_become 26 = .ok (.invokevirtual 32, 3) := by decide +kernel
theorem d_Pattern_become_29 : decode b_Pattern_become 29 = .ok (.pop, 1) := by decide +kernel
theorem d_Pattern_become_30 : decode b_Pattern_become 30 = .ok (.iinc 2 1, 3) := by decide +kernel
theorem d_Pattern_become_33 : decode b_Pattern_become 33 = .ok (.goto (-26), 3) := by decide +kernel
theorem d_Pattern_become_36 : decode b_Pattern_become 36 = .ok (.return_, 1) := by decide +kernel
theorem d_Pattern_endSection_0 : decode b_Pattern_endSection 0 = .ok (.iload_n 1, 1) := by decide +kernel
theorem d_Pattern_endSection_1 : decode b_Pattern_endSection 1 = .ok (.ifCond .lt 21, 3) := by decide +kernel
theorem d_Pattern_endSection_4 : decode b_Pattern_endSection 4 = .ok (.iload_n 1, 1) := by decide +kernel
theorem d_Pattern_endSection_5 : decode b_Pattern_endSection 5 = .ok (.aload_n 0, 1) := by decide +kernel
theorem d_Pattern_endSection_6 : decode b_Pattern_endSection 6 = .ok (.getfield 18, 3) := by decide +kernel
theorem d_Pattern_endSection_9 : decode b_Pattern_endSection 9 = .ok (.if_icmp .ge 13, 3) := by decide +kernel
theorem d_Pattern_endSection_12 : decode b_Pattern_endSection 12 = .ok (.aload_n 0, 1) := by decide +kernel
theorem d_Pattern_endSection_13 : decode b_Pattern_endSection 13 = .ok (.getfield 15, 3) := by decide +kernel
theorem d_Pattern_endSection_16 : decode b_Pattern_endSection 16 = .ok (.iload_n 1, 1) := by decide +kernel
theorem d_Pattern_endSection_17 : decode b_Pattern_endSection 17 = .ok (.aload_n 0, 1) := by decide +kernel
theorem d_Pattern_endSection_18 : decode b_Pattern_endSection 18 = .ok (.getfield 18, 3) := by decide +kernel
theorem d_Pattern_endSection_21 : decode b_Pattern_endSection 21 = .ok (.iastore, 1) := by decide +kernel
theorem d_Pattern_endSection_22 : decode b_Pattern_endSection 22 = .ok (.return_, 1) := by decide +kernel
theorem d_Pattern_isName_0 : decode b_Pattern_isName 0 = .ok (.aload_n 0, 1) := by decide +kernel
theorem d_Pattern_isName_1 : decode b_Pattern_isName 1 = .ok (.iload_n 1, 1) := by decide +kernel
theorem d_Pattern_isName_2 : decode b_Pattern_isName 2 = .ok (.invokevirtual 25, 3) := by decide +kernel
theorem d_Pattern_isName_5 : decode b_Pattern_isName 5 = .ok (.istore_n 2, 1) := by decide +kernel
theorem d_Pattern_isName_6 : decode b_Pattern_isName 6 = .ok (.iload_n 2, 1) := by decide +kernel
theorem d_Pattern_isName_7 : decode b_Pattern_isName 7 = .ok (.iconst 5, 1) := by decide +kernel
theorem d_Pattern_isName_8 : decode b_Pattern_isName 8 = .ok (.if_icmp .eq 23, 3) := by decide +kernel
theorem d_Pattern_isName_11 : decode b_Pattern_isName 11 = .ok (.iload_n 2, 1) := by decide +kernel
theorem d_Pattern_isName_12 : decode b_Pattern_isName 12 = .ok (.bipush 9, 2) := by decide +kernel
theorem d_Pattern_isName_14 : decode b_Pattern_isName 14 = .ok (.if_icmp .eq 17, 3) := by decide +kernel
theorem d_Pattern_isName_17 : decode b_Pattern_isName 17 = .ok (.iload_n 2, 1) := by decide +kernel
theorem d_Pattern_isName_18 : decode b_Pattern_isName 18 = .ok (.iconst 2, 1) := by decide +kernel
theorem d_Pattern_isName_19 : decode b_Pattern_isName 19 = .ok (.if_icmp .ne 16, 3) := by decide +kernel
theorem d_Pattern_isName_22 : decode b_Pattern_isName 22 = .ok (.aload_n 0, 1) := by decide +kernel
theorem d_Pattern_isName_23 : decode b_Pattern_isName 23 = .ok (.iload_n 1, 1) := by decide +kernel
theorem d_Pattern_isName_24 : decode b_Pattern_isName 24 = .ok (.invokevirtual 29, 3) := by decide +kernel
theorem d_Pattern_isName_27 : decode b_Pattern_isName 27 = .ok (.iconst 2, 1) := by decide +kernel
theorem d_Pattern_isName_28 : decode b_Pattern_isName 28 = .ok (.if_icmp .le 7, 3) := by decide +kernel
theorem d_Pattern_isName_31 : decode b_Pattern_isName 31 = .ok (.iconst 1, 1) := by decide +kernel
theorem d_Pattern_isName_32 : decode b_Pattern_isName 32 = .ok (.goto 4, 3) := by decide +kernel
theorem d_Pattern_isName_35 : decode b_Pattern_isName 35 = .ok (.iconst 0, 1) := by decide +kernel
theorem d_Pattern_isName_36 : decode b_Pattern_isName 36 = .ok (.ireturn, 1) := by decide +kernel
theorem d_Pattern_isFixed_0 : decode b_Pattern_isFixed 0 = .ok (.aload_n 0, 1) := by decide +kernel
theorem d_Pattern_isFixed_1 : decode b_Pattern_isFixed 1 = .ok (.iload_n 1, 1) := by decide +kernel
theorem d_Pattern_isFixed_2 : decode b_Pattern_isFixed 2 = .ok (.invokevirtual 25, 3) := by decide +kernel
theorem d_Pattern_isFixed_5 : decode b_Pattern_isFixed 5 = .ok (.istore_n 2, 1) := by decide +kernel
theorem d_Pattern_isFixed_6 : decode b_Pattern_isFixed 6 = .ok (.iload_n 2, 1) := by decide +kernel
theorem d_Pattern_isFixed_7 : decode b_Pattern_isFixed 7 = .ok (.bipush 12, 2) := by decide +kernel
theorem d_Pattern_isFixed_9 : decode b_Pattern_isFixed 9 = .ok (.if_icmp .ne 5, 3) := by decide +kernel
theorem d_Pattern_isFixed_12 : decode b_Pattern_isFixed 12 = .ok (.iconst 1, 1) := by decide +kernel
theorem d_Pattern_isFixed_13 : decode b_Pattern_isFixed 13 = .ok (.ireturn, 1) := by decide +kernel
theorem d_Pattern_isFixed_14 : decode b_Pattern_isFixed 14 = .ok (.iload_n 2, 1) := by decide +kernel
theorem d_Pattern_isFixed_15 : decode b_Pattern_isFixed 15 = .ok (.ifCond .lt 31, 3) := by decide +kernel
theorem d_Pattern_isFixed_18 : decode b_Pattern_isFixed 18 = .ok (.iload_n 2, 1) := by decide +kernel
theorem d_Pattern_isFixed_19 : decode b_Pattern_isFixed 19 = .ok (.bipush 12, 2) := by decide +kernel
theorem d_Pattern_isFixed_21 : decode b_Pattern_isFixed 21 = .ok (.if_icmp .ge 25, 3) := by decide +kernel
theorem d_Pattern_isFixed_24 : decode b_Pattern_isFixed 24 = .ok (.aload_n 0, 1) := by decide +kernel
theorem d_Pattern_isFixed_25 : decode b_Pattern_isFixed 25 = .ok (.iload_n 1, 1) := by decide +kernel
theorem d_Pattern_isFixed_26 : decode b_Pattern_isFixed 26 = .ok (.invokevirtual 29, 3) := by decide +kernel
theorem d_Pattern_isFixed_29 : decode b_Pattern_isFixed 29 = .ok (.iload_n 2, 1) := by decide +kernel
theorem d_Pattern_isFixed_30 : decode b_Pattern_isFixed 30 = .ok (.iconst 4, 1) := by decide +kernel
theorem d_Pattern_isFixed_31 : decode b_Pattern_isFixed 31 = .ok (.if_icmp .ne 7, 3) := by decide +kernel
theorem d_Pattern_isFixed_34 : decode b_Pattern_isFixed 34 = .ok (.iconst 3, 1) := by decide +kernel
theorem d_Pattern_isFixed_35 : decode b_Pattern_isFixed 35 = .ok (.goto 4, 3) := by decide +kernel
theorem d_Pattern_isFixed_38 : decode b_Pattern_isFixed 38 = .ok (.iconst 2, 1) := by decide +kernel
theorem d_Pattern_isFixed_39 : decode b_Pattern_isFixed 39 = .ok (.if_icmp .ne 7, 3) := by decide +kernel
theorem d_Pattern_isFixed_42 : decode b_Pattern_isFixed 42 = .ok (.iconst 1, 1) := by decide +kernel
theorem d_Pattern_isFixed_43 : decode b_Pattern_isFixed 43 = .ok (.goto 4, 3) := by decide +kernel
theorem d_Pattern_isFixed_46 : decode b_Pattern_isFixed 46 = .ok (.iconst 0, 1) := by decide +kernel
theorem d_Pattern_isFixed_47 : decode b_Pattern_isFixed 47 = .ok (.ireturn, 1) := by decide +kernel
theorem d_Pattern_fixedBehind_0 : decode b_Pattern_fixedBehind 0 = .ok (.iconst 0, 1) := by decide +kernel
theorem d_Pattern_fixedBehind_1 : decode b_Pattern_fixedBehind 1 = .ok (.istore_n 3, 1) := by decide +kernel
theorem d_Pattern_fixedBehind_2 : decode b_Pattern_fixedBehind 2 = .ok (.iload_n 1, 1) := by decide +kernel
theorem d_Pattern_fixedBehind_3 : decode b_Pattern_fixedBehind 3 = .ok (.iconst 1, 1) := by decide +kernel
theorem d_Pattern_fixedBehind_4 : decode b_Pattern_fixedBehind 4 = .ok (.iadd, 1) := by decide +kernel
theorem d_Pattern_fixedBehind_5 : decode b_Pattern_fixedBehind 5 = .ok (.istore 4, 2) := by decide +kernel
theorem d_Pattern_fixedBehind_7 : decode b_Pattern_fixedBehind 7 = .ok (.iload 4, 2) := by decide +kernel
theorem d_Pattern_fixedBehind_9 : decode b_Pattern_fixedBehind 9 = .ok (.iload_n 2, 1) := by decide +kernel
theorem d_Pattern_fixedBehind_10 : decode b_Pattern_fixedBehind 10 = .ok (.if_icmp .ge 27, 3) := by decide +kernel
theorem d_Pattern_fixedBehind_13 : decode b_Pattern_fixedBehind 13 = .ok (.aload_n 0, 1) := by decide +kernel
theorem d_Pattern_fixedBehind_14 : decode b_Pattern_fixedBehind 14 = .ok (.iload 4, 2) := by decide +kernel
theorem d_Pattern_fixedBehind_16 : decode b_Pattern_fixedBehind 16 = .ok (.invokevirtual 36, 3) := by decide +kernel
theorem d_Pattern_fixedBehind_19 : decode b_Pattern_fixedBehind 19 = .ok (.ifCond .eq 18, 3) := by decide +kernel
theorem d_Pattern_fixedBehind_22 : decode b_Pattern_fixedBehind 22 = .ok (.iload_n 3, 1) := by decide +kernel
theorem d_Pattern_fixedBehind_23 : decode b_Pattern_fixedBehind 23 = .ok (.aload_n 0, 1) := by decide +kernel
theorem d_Pattern_fixedBehind_24 : decode b_Pattern_fixedBehind 24 = .ok (.iload 4, 2) := by decide +kernel
theorem d_Pattern_fixedBehind_26 : decode b_Pattern_fixedBehind 26 = .ok (.invokevirtual 29, 3) := by decide +kernel
theorem d_Pattern_fixedBehind_29 : decode b_Pattern_fixedBehind 29 = .ok (.iadd, 1) := by decide +kernel
theorem d_Pattern_fixedBehind_30 : decode b_Pattern_fixedBehind 30 = .ok (.istore_n 3, 1) := by decide +kernel
theorem d_Pattern_fixedBehind_31 : decode b_Pattern_fixedBehind 31 = .ok (.iinc 4 1, 3) := by decide +kernel
theorem d_Pattern_fixedBehind_34 : decode b_Pattern_fixedBehind 34 = .ok (.goto (-27), 3) := by decide +kernel
theorem d_Pattern_fixedBehind_37 : decode b_Pattern_fixedBehind 37 = .ok (.iload_n 3, 1) := by decide +kernel
theorem d_Pattern_fixedBehind_38 : decode b_Pattern_fixedBehind 38 = .ok (.ireturn, 1) := by decide +kernel
theorem d_Pattern_firstCount_0 : decode b_Pattern_firstCount 0 = .ok (.iconst 0, 1) := by decide +kernel
theorem d_Pattern_firstCount_1 : decode b_Pattern_firstCount 1 = .ok (.istore_n 2, 1) := by decide +kernel
theorem d_Pattern_firstCount_2 : decode b_Pattern_firstCount 2 = .ok (.iload_n 2, 1) := by decide +kernel
theorem d_Pattern_firstCount_3 : decode b_Pattern_firstCount 3 = .ok (.aload_n 0, 1) := by decide +kernel
theorem d_Pattern_firstCount_4 : decode b_Pattern_firstCount 4 = .ok (.getfield 18, 3) := by decide +kernel
theorem d_Pattern_firstCount_7 : decode b_Pattern_firstCount 7 = .ok (.if_icmp .ge 24, 3) := by decide +kernel
theorem d_Pattern_firstCount_10 : decode b_Pattern_firstCount 10 = .ok (.aload_n 0, 1) := by decide +kernel
theorem d_Pattern_firstCount_11 : decode b_Pattern_firstCount 11 = .ok (.iload_n 2, 1) := by decide +kernel
theorem d_Pattern_firstCount_12 : decode b_Pattern_firstCount 12 = .ok (.invokevirtual 25, 3) := by decide +kernel
theorem d_Pattern_firstCount_15 : decode b_Pattern_firstCount 15 = .ok (.iload_n 1, 1) := by decide +kernel
theorem d_Pattern_firstCount_16 : decode b_Pattern_firstCount 16 = .ok (.if_icmp .ne 9, 3) := by decide +kernel
theorem d_Pattern_firstCount_19 : decode b_Pattern_firstCount 19 = .ok (.aload_n 0, 1) := by decide +kernel
theorem d_Pattern_firstCount_20 : decode b_Pattern_firstCount 20 = .ok (.iload_n 2, 1) := by decide +kernel
theorem d_Pattern_firstCount_21 : decode b_Pattern_firstCount 21 = .ok (.invokevirtual 29, 3) := by decide +kernel
theorem d_Pattern_firstCount_24 : decode b_Pattern_firstCount 24 = .ok (.ireturn, 1) := by decide +kernel
theorem d_Pattern_firstCount_25 : decode b_Pattern_firstCount 25 = .ok (.iinc 2 1, 3) := by decide +kernel
theorem d_Pattern_firstCount_28 : decode b_Pattern_firstCount 28 = .ok (.goto (-26), 3) := by decide +kernel
theorem d_Pattern_firstCount_31 : decode b_Pattern_firstCount 31 = .ok (.iconst 0, 1) := by decide +kernel
theorem d_Pattern_firstCount_32 : decode b_Pattern_firstCount 32 = .ok (.ireturn, 1) := by decide +kernel
theorem d_Pattern_isWish_0 : decode b_Pattern_isWish 0 = .ok (.iconst 0, 1) := by decide +kernel
theorem d_Pattern_isWish_1 : decode b_Pattern_isWish 1 = .ok (.istore_n 1, 1) := by decide +kernel
theorem d_Pattern_isWish_2 : decode b_Pattern_isWish 2 = .ok (.iconst 0, 1) := by decide +kernel
theorem d_Pattern_isWish_3 : decode b_Pattern_isWish 3 = .ok (.istore_n 2, 1) := by decide +kernel
theorem d_Pattern_isWish_4 : decode b_Pattern_isWish 4 = .ok (.iload_n 2, 1) := by decide +kernel
theorem d_Pattern_isWish_5 : decode b_Pattern_isWish 5 = .ok (.aload_n 0, 1) := by decide +kernel
theorem d_Pattern_isWish_6 : decode b_Pattern_isWish 6 = .ok (.getfield 18, 3) := by decide +kernel
theorem d_Pattern_isWish_9 : decode b_Pattern_isWish 9 = .ok (.if_icmp .ge 39, 3) := by decide +kernel
theorem d_Pattern_isWish_12 : decode b_Pattern_isWish 12 = .ok (.iconst 1, 1) := by decide +kernel
theorem d_Pattern_isWish_13 : decode b_Pattern_isWish 13 = .ok (.aload_n 0, 1) := by decide +kernel
theorem d_Pattern_isWish_14 : decode b_Pattern_isWish 14 = .ok (.iload_n 2, 1) := by decide +kernel
theorem d_Pattern_isWish_15 : decode b_Pattern_isWish 15 = .ok (.invokevirtual 25, 3) := by decide +kernel
theorem d_Pattern_isWish_18 : decode b_Pattern_isWish 18 = .ok (.ishl, 1) := by decide +kernel
theorem d_Pattern_isWish_19 : decode b_Pattern_isWish 19 = .ok (.istore_n 3, 1) := by decide +kernel
theorem d_Pattern_isWish_20 : decode b_Pattern_isWish 20 = .ok (.aload_n 0, 1) := by decide +kernel
theorem d_Pattern_isWish_21 : decode b_Pattern_isWish 21 = .ok (.iload_n 2, 1) := by decide +kernel
theorem d_Pattern_isWish_22 : decode b_Pattern_isWish 22 = .ok (.invokevirtual 25, 3) := by decide +kernel
theorem d_Pattern_isWish_25 : decode b_Pattern_isWish 25 = .ok (.bipush 14, 2) := by decide +kernel
theorem d_Pattern_isWish_27 : decode b_Pattern_isWish 27 = .ok (.if_icmp .gt 9, 3) := by decide +kernel
theorem d_Pattern_isWish_30 : decode b_Pattern_isWish 30 = .ok (.iload_n 1, 1) := by decide +kernel
theorem d_Pattern_isWish_31 : decode b_Pattern_isWish 31 = .ok (.iload_n 3, 1) := by decide +kernel
theorem d_Pattern_isWish_32 : decode b_Pattern_isWish 32 = .ok (.iand, 1) := by decide +kernel
theorem d_Pattern_isWish_33 : decode b_Pattern_isWish 33 = .ok (.ifCond .eq 5, 3) := by decide +kernel
theorem d_Pattern_isWish_36 : decode b_Pattern_isWish 36 = .ok (.iconst 0, 1) := by decide +kernel
theorem d_Pattern_isWish_37 : decode b_Pattern_isWish 37 = .ok (.ireturn, 1) := by decide +kernel
theorem d_Pattern_isWish_38 : decode b_Pattern_isWish 38 = .ok (.iload_n 1, 1) := by decide +kernel
theorem d_Pattern_isWish_39 : decode b_Pattern_isWish 39 = .ok (.iload_n 3, 1) := by decide +kernel
theorem d_Pattern_isWish_40 : decode b_Pattern_isWish 40 = .ok (.ior, 1) := by decide +kernel
theorem d_Pattern_isWish_41 : decode b_Pattern_isWish 41 = .ok (.istore_n 1, 1) := by decide +kernel
theorem d_Pattern_isWish_42 : decode b_Pattern_isWish 42 = .ok (.iinc 2 1, 3) := by decide +kernel
theorem d_Pattern_isWish_45 : decode b_Pattern_isWish 45 = .ok (.goto (-41), 3) := by decide +kernel
theorem d_Pattern_isWish_48 : decode b_Pattern_isWish 48 = .ok (.iconst 1, 1) := by decide +kernel
theorem d_Pattern_isWish_49 : decode b_Pattern_isWish 49 = .ok (.ireturn, 1) := by decide +kernel
theorem d_Pattern_letterDistance_0 : decode b_Pattern_letterDistance 0 = .ok (.iload_n 1, 1) := by decide +kernel
theorem d_Pattern_letterDistance_1 : decode b_Pattern_letterDistance 1 = .ok (.ifCond .eq 7, 3) := by decide +kernel
theorem d_Pattern_letterDistance_4 : decode b_Pattern_letterDistance 4 = .ok (.iload_n 2, 1) := by decide +kernel
theorem d_Pattern_letterDistance_5 : decode b_Pattern_letterDistance 5 = .ok (.ifCond .ne 16, 3) := by decide +kernel
theorem d_Pattern_letterDistance_8 : decode b_Pattern_letterDistance 8 = .ok (.iload_n 1, 1) := by decide +kernel
theorem d_Pattern_letterDistance_9 : decode b_Pattern_letterDistance 9 = .ok (.iload_n 2, 1) := by decide +kernel
theorem d_Pattern_letterDistance_10 : decode b_Pattern_letterDistance 10 = .ok (.if_icmp .ne 7, 3) := by decide +kernel
theorem d_Pattern_letterDistance_13 : decode b_Pattern_letterDistance 13 = .ok (.iconst 0, 1) := by decide +kernel
theorem d_Pattern_letterDistance_14 : decode b_Pattern_letterDistance 14 = .ok (.goto 6, 3) := by decide +kernel
theorem d_Pattern_letterDistance_17 : decode b_Pattern_letterDistance 17 = .ok (.sipush 1000, 3) := by decide +kernel
theorem d_Pattern_letterDistance_20 : decode b_Pattern_letterDistance 20 = .ok (.ireturn, 1) := by decide +kernel
theorem d_Pattern_letterDistance_21 : decode b_Pattern_letterDistance 21 = .ok (.iload_n 0, 1) := by decide +kernel
theorem d_Pattern_letterDistance_22 : decode b_Pattern_letterDistance 22 = .ok (.iconst 2, 1) := by decide +kernel
theorem d_Pattern_letterDistance_23 : decode b_Pattern_letterDistance 23 = .ok (.if_icmp .ne 30, 3) := by decide +kernel
theorem d_Pattern_letterDistance_26 : decode b_Pattern_letterDistance 26 = .ok (.iload_n 1, 1) := by decide +kernel
theorem d_Pattern_letterDistance_27 : decode b_Pattern_letterDistance 27 = .ok (.iconst 2, 1) := by decide +kernel
theorem d_Pattern_letterDistance_28 : decode b_Pattern_letterDistance 28 = .ok (.if_icmp .le 7, 3) := by decide +kernel
theorem d_Pattern_letterDistance_31 : decode b_Pattern_letterDistance 31 = .ok (.iconst 1, 1) := by decide +kernel
theorem d_Pattern_letterDistance_32 : decode b_Pattern_letterDistance 32 = .ok (.goto 4, 3) := by decide +kernel
theorem d_Pattern_letterDistance_35 : decode b_Pattern_letterDistance 35 = .ok (.iconst 0, 1) := by decide +kernel
theorem d_Pattern_letterDistance_36 : decode b_Pattern_letterDistance 36 = .ok (.iload_n 2, 1) := by decide +kernel
theorem d_Pattern_letterDistance_37 : decode b_Pattern_letterDistance 37 = .ok (.iconst 2, 1) := by decide +kernel
theorem d_Pattern_letterDistance_38 : decode b_Pattern_letterDistance 38 = .ok (.if_icmp .le 7, 3) := by decide +kernel
theorem d_Pattern_letterDistance_41 : decode b_Pattern_letterDistance 41 = .ok (.iconst 1, 1) := by decide +kernel
theorem d_Pattern_letterDistance_42 : decode b_Pattern_letterDistance 42 = .ok (.goto 4, 3) := by decide +kernel
theorem d_Pattern_letterDistance_45 : decode b_Pattern_letterDistance 45 = .ok (.iconst 0, 1) := by decide +kernel
theorem d_Pattern_letterDistance_46 : decode b_Pattern_letterDistance 46 = .ok (.if_icmp .eq 7, 3) := by decide +kernel
theorem d_Pattern_letterDistance_49 : decode b_Pattern_letterDistance 49 = .ok (.iconst 1, 1) := by decide +kernel
theorem d_Pattern_letterDistance_50 : decode b_Pattern_letterDistance 50 = .ok (.goto 4, 3) := by decide +kernel
theorem d_Pattern_letterDistance_53 : decode b_Pattern_letterDistance 53 = .ok (.iconst 0, 1) := by decide +kernel
theorem d_Pattern_letterDistance_54 : decode b_Pattern_letterDistance 54 = .ok (.istore_n 3, 1) := by decide +kernel
theorem d_Pattern_letterDistance_55 : decode b_Pattern_letterDistance 55 = .ok (.iload_n 1, 1) := by decide +kernel
theorem d_Pattern_letterDistance_56 : decode b_Pattern_letterDistance 56 = .ok (.iload_n 2, 1) := by decide +kernel
theorem d_Pattern_letterDistance_57 : decode b_Pattern_letterDistance 57 = .ok (.isub, 1) := by decide +kernel
theorem d_Pattern_letterDistance_58 : decode b_Pattern_letterDistance 58 = .ok (.invokestatic 47, 3) := by decide +kernel
theorem d_Pattern_letterDistance_61 : decode b_Pattern_letterDistance 61 = .ok (.iload_n 3, 1) := by decide +kernel
theorem d_Pattern_letterDistance_62 : decode b_Pattern_letterDistance 62 = .ok (.ifCond .eq 8, 3) := by decide +kernel
theorem d_Pattern_letterDistance_65 : decode b_Pattern_letterDistance 65 = .ok (.bipush 100, 2) := by decide +kernel
theorem d_Pattern_letterDistance_67 : decode b_Pattern_letterDistance 67 = .ok (.goto 4, 3) := by decide +kernel
theorem d_Pattern_letterDistance_70 : decode b_Pattern_letterDistance 70 = .ok (.iconst 0, 1) := by decide +kernel
theorem d_Pattern_letterDistance_71 : decode b_Pattern_letterDistance 71 = .ok (.iadd, 1) := by decide +kernel
theorem d_Pattern_letterDistance_72 : decode b_Pattern_letterDistance 72 = .ok (.ireturn, 1) := by decide +kernel
theorem d_Pattern_distanceTo_0 : decode b_Pattern_distanceTo 0 = .ok (.iconst 0, 1) := by decide +kernel
theorem d_Pattern_distanceTo_1 : decode b_Pattern_distanceTo 1 = .ok (.istore_n 2, 1) := by decide +kernel
theorem d_Pattern_distanceTo_2 : decode b_Pattern_distanceTo 2 = .ok (.iconst 0, 1) := by decide +kernel
theorem d_Pattern_distanceTo_3 : decode b_Pattern_distanceTo 3 = .ok (.istore_n 3, 1) := by decide +kernel
theorem d_Pattern_distanceTo_4 : decode b_Pattern_distanceTo 4 = .ok (.iload_n 3, 1) := by decide +kernel
theorem d_Pattern_distanceTo_5 : decode b_Pattern_distanceTo 5 = .ok (.bipush 14, 2) := by decide +kernel
theorem d_Pattern_distanceTo_7 : decode b_Pattern_distanceTo 7 = .ok (.if_icmp .gt 26, 3) := by decide +kernel
theorem d_Pattern_distanceTo_10 : decode b_Pattern_distanceTo 10 = .ok (.iload_n 2, 1) := by decide +kernel
theorem d_Pattern_distanceTo_11 : decode b_Pattern_distanceTo 11 = .ok (.iload_n 3, 1) := by decide +kernel
theorem d_Pattern_distanceTo_12 : decode b_Pattern_distanceTo 12 = .ok (.aload_n 0, 1) := by decide +kernel
theorem d_Pattern_distanceTo_13 : decode b_Pattern_distanceTo 13 = .ok (.iload_n 3, 1) := by decide +kernel
theorem d_Pattern_distanceTo_14 : decode b_Pattern_distanceTo 14 = .ok (.invokevirtual 40, 3) := by decide +kernel
theorem d_Pattern_distanceTo_17 : decode b_Pattern_distanceTo 17 = .ok (.aload_n 1, 1) := by decide +kernel
theorem d_Pattern_distanceTo_18 : decode b_Pattern_distanceTo 18 = .ok (.iload_n 3, 1) := by decide +kernel
theorem d_Pattern_distanceTo_19 : decode b_Pattern_distanceTo 19 = .ok (.invokevirtual 40, 3) := by decide +kernel
theorem d_Pattern_distanceTo_22 : decode b_Pattern_distanceTo 22 = .ok (.invokestatic 43, 3) := by decide +kernel
theorem d_Pattern_distanceTo_25 : decode b_Pattern_distanceTo 25 = .ok (.iadd, 1) := by decide +kernel
theorem d_Pattern_distanceTo_26 : decode b_Pattern_distanceTo 26 = .ok (.istore_n 2, 1) := by decide +kernel
theorem d_Pattern_distanceTo_27 : decode b_Pattern_distanceTo 27 = .ok (.iinc 3 1, 3) := by decide +kernel
theorem d_Pattern_distanceTo_30 : decode b_Pattern_distanceTo 30 = .ok (.goto (-26), 3) := by decide +kernel
theorem d_Pattern_distanceTo_33 : decode b_Pattern_distanceTo 33 = .ok (.iload_n 2, 1) := by decide +kernel
theorem d_Pattern_distanceTo_34 : decode b_Pattern_distanceTo 34 = .ok (.ireturn, 1) := by decide +kernel
theorem d_Nest_clear_0 : decode b_Nest_clear 0 = .ok (.aload_n 0, 1) := by decide +kernel
theorem d_Nest_clear_1 : decode b_Nest_clear 1 = .ok (.iconst 0, 1) := by decide +kernel
theorem d_Nest_clear_2 : decode b_Nest_clear 2 = .ok (.putfield 21, 3) := by decide +kernel
theorem d_Nest_clear_5 : decode b_Nest_clear 5 = .ok (.return_, 1) := by decide +kernel
theorem d_Nest_open_0 : decode b_Nest_open 0 = .ok (.aload_n 0, 1) := by decide +kernel
theorem d_Nest_open_1 : decode b_Nest_open 1 = .ok (.getfield 21, 3) := by decide +kernel
theorem d_Nest_open_4 : decode b_Nest_open 4 = .ok (.bipush 20, 2) := by decide +kernel
theorem d_Nest_open_6 : decode b_Nest_open 6 = .ok (.if_icmp .ge 43, 3) := by decide +kernel
theorem d_Nest_open_9 : decode b_Nest_open 9 = .ok (.aload_n 0, 1) := by decide +kernel
theorem d_Nest_open_10 : decode b_Nest_open 10 = .ok (.getfield 9, 3) := by decide +kernel
theorem d_Nest_open_13 : decode b_Nest_open 13 = .ok (.aload_n 0, 1) := by decide +kernel
theorem d_Nest_open_14 : decode b_Nest_open 14 = .ok (.getfield 21, 3) := by decide +kernel
theorem d_Nest_open_17 : decode b_Nest_open 17 = .ok (.iload_n 1, 1) := by decide +kernel
theorem d_Nest_open_18 : decode b_Nest_open 18 = .ok (.iastore, 1) := by decide +kernel
theorem d_Nest_open_19 : decode b_Nest_open 19 = .ok (.aload_n 0, 1) := by decide +kernel
theorem d_Nest_open_20 : decode b_Nest_open 20 = .ok (.getfield 15, 3) := by decide +kernel
theorem d_Nest_open_23 : decode b_Nest_open 23 = .ok (.aload_n 0, 1) := by decide +kernel
theorem d_Nest_open_24 : decode b_Nest_open 24 = .ok (.getfield 21, 3) := by decide +kernel
theorem d_Nest_open_27 : decode b_Nest_open 27 = .ok (.iload_n 2, 1) := by decide +kernel
theorem d_Nest_open_28 : decode b_Nest_open 28 = .ok (.iastore, 1) := by decide +kernel
theorem d_Nest_open_29 : decode b_Nest_open 29 = .ok (.aload_n 0, 1) := by decide +kernel
theorem d_Nest_open_30 : decode b_Nest_open 30 = .ok (.getfield 18, 3) := by decide +kernel
theorem d_Nest_open_33 : decode b_Nest_open 33 = .ok (.aload_n 0, 1) := by decide +kernel
theorem d_Nest_open_34 : decode b_Nest_open 34 = .ok (.getfield 21, 3) := by decide +kernel
theorem d_Nest_open_37 : decode b_Nest_open 37 = .ok (.iload_n 3, 1) := by decide +kernel
theorem d_Nest_open_38 : decode b_Nest_open 38 = .ok (.iastore, 1) := by decide +kernel
theorem d_Nest_open_39 : decode b_Nest_open 39 = .ok (.aload_n 0, 1) := by decide +kernel
theorem d_Nest_open_40 : decode b_Nest_open 40 = .ok (.dup, 1) := by decide +kernel
theorem d_Nest_open_41 : decode b_Nest_open 41 = .ok (.getfield 21, 3) := by decide +kernel
theorem d_Nest_open_44 : decode b_Nest_open 44 = .ok (.iconst 1, 1) := by decide +kernel
theorem d_Nest_open_45 : decode b_Nest_open 45 = .ok (.iadd, 1) := by decide +kernel
theorem d_Nest_open_46 : decode b_Nest_open 46 = .ok (.putfield 21, 3) := by decide +kernel
theorem d_Nest_open_49 : decode b_Nest_open 49 = .ok (.return_, 1) := by decide +kernel
theorem d_Nest_closeBefore_0 : decode b_Nest_closeBefore 0 = .ok (.aload_n 0, 1) := by decide +kernel
theorem d_Nest_closeBefore_1 : decode b_Nest_closeBefore 1 = .ok (.getfield 21, 3) := by decide +kernel
theorem d_Nest_closeBefore_4 : decode b_Nest_closeBefore 4 = .ok (.ifCond .le 31, 3) := by decide +kernel
theorem d_Nest_closeBefore_7 : decode b_Nest_closeBefore 7 = .ok (.aload_n 0, 1) := by decide +kernel
theorem d_Nest_closeBefore_8 : decode b_Nest_closeBefore 8 = .ok (.getfield 9, 3) := by decide +kernel
theorem d_Nest_closeBefore_11 : decode b_Nest_closeBefore 11 = .ok (.aload_n 0, 1) := by decide +kernel
theorem d_Nest_closeBefore_12 : decode b_Nest_closeBefore 12 = .ok (.getfield 21, 3) := by decide +kernel
theorem d_Nest_closeBefore_15 : decode b_Nest_closeBefore 15 = .ok (.iconst 1, 1) := by decide +kernel
theorem d_Nest_closeBefore_16 : decode b_Nest_closeBefore 16 = .ok (.isub, 1) := by decide +kernel
theorem d_Nest_closeBefore_17 : decode b_Nest_closeBefore 17 = .ok (.iaload, 1) := by decide +kernel
theorem d_Nest_closeBefore_18 : decode b_Nest_closeBefore 18 = .ok (.iload_n 1, 1) := by decide +kernel
theorem d_Nest_closeBefore_19 : decode b_Nest_closeBefore 19 = .ok (.if_icmp .gt 16, 3) := by decide +kernel
theorem d_Nest_closeBefore_22 : decode b_Nest_closeBefore 22 = .ok (.aload_n 0, 1) := by decide +kernel
theorem d_Nest_closeBefore_23 : decode b_Nest_closeBefore 23 = .ok (.dup, 1) := by decide +kernel
theorem d_Nest_closeBefore_24 : decode b_Nest_closeBefore 24 = .ok (.getfield 21, 3) := by decide +kernel
theorem d_Nest_closeBefore_27 : decode b_Nest_closeBefore 27 = .ok (.iconst 1, 1) := by decide +kernel
theorem d_Nest_closeBefore_28 : decode b_Nest_closeBefore 28 = .ok (.isub, 1) := by decide +kernel
theorem d_Nest_closeBefore_29 : decode b_Nest_closeBefore 29 = .ok (.putfield 21, 3) := by decide +kernel
theorem d_Nest_closeBefore_32 : decode b_Nest_closeBefore 32 = .ok (.goto (-32), 3) := by decide +kernel
theorem d_Nest_closeBefore_35 : decode b_Nest_closeBefore 35 = .ok (.return_, 1) := by decide +kernel
theorem d_Nest_isEmpty_0 : decode b_Nest_isEmpty 0 = .ok (.aload_n 0, 1) := by decide +kernel
theorem d_Nest_isEmpty_1 : decode b_Nest_isEmpty 1 = .ok (.getfield 21, 3) := by decide +kernel
theorem d_Nest_isEmpty_4 : decode b_Nest_isEmpty 4 = .ok (.ifCond .ne 7, 3) := by decide +kernel
theorem d_Nest_isEmpty_7 : decode b_Nest_isEmpty 7 = .ok (.iconst 1, 1) := by decide +kernel
theorem d_Nest_isEmpty_8 : decode b_Nest_isEmpty 8 = .ok (.goto 4, 3) := by decide +kernel
theorem d_Nest_isEmpty_11 : decode b_Nest_isEmpty 11 = .ok (.iconst 0, 1) := by decide +kernel
theorem d_Nest_isEmpty_12 : decode b_Nest_isEmpty 12 = .ok (.ireturn, 1) := by decide +kernel
theorem d_Nest_limit_0 : decode b_Nest_limit 0 = .ok (.aload_n 0, 1) := by decide +kernel
theorem d_Nest_limit_1 : decode b_Nest_limit 1 = .ok (.getfield 21, 3) := by decide +kernel
theorem d_Nest_limit_4 : decode b_Nest_limit 4 = .ok (.ifCond .le 17, 3) := by decide +kernel
theorem d_Nest_limit_7 : decode b_Nest_limit 7 = .ok (.aload_n 0, 1) := by decide +kernel
theorem d_Nest_limit_8 : decode b_Nest_limit 8 = .ok (.getfield 9, 3) := by decide +kernel
theorem d_Nest_limit_11 : decode b_Nest_limit 11 = .ok (.aload_n 0, 1) := by decide +kernel
theorem d_Nest_limit_12 : decode b_Nest_limit 12 = .ok (.getfield 21, 3) := by decide +kernel
theorem d_Nest_limit_15 : decode b_Nest_limit 15 = .ok (.iconst 1, 1) := by decide +kernel
theorem d_Nest_limit_16 : decode b_Nest_limit 16 = .ok (.isub, 1) := by decide +kernel
theorem d_Nest_limit_17 : decode b_Nest_limit 17 = .ok (.iaload, 1) := by decide +kernel
theorem d_Nest_limit_18 : decode b_Nest_limit 18 = .ok (.goto 4, 3) := by decide +kernel
theorem d_Nest_limit_21 : decode b_Nest_limit 21 = .ok (.iload_n 1, 1) := by decide +kernel
theorem d_Nest_limit_22 : decode b_Nest_limit 22 = .ok (.ireturn, 1) := by decide +kernel
theorem d_Nest_place_0 : decode b_Nest_place 0 = .ok (.aload_n 0, 1) := by decide +kernel
theorem d_Nest_place_1 : decode b_Nest_place 1 = .ok (.getfield 21, 3) := by decide +kernel
theorem d_Nest_place_4 : decode b_Nest_place 4 = .ok (.ifCond .le 17, 3) := by decide +kernel
theorem d_Nest_place_7 : decode b_Nest_place 7 = .ok (.aload_n 0, 1) := by decide +kernel
theorem d_Nest_place_8 : decode b_Nest_place 8 = .ok (.getfield 15, 3) := by decide +kernel
theorem d_Nest_place_11 : decode b_Nest_place 11 = .ok (.aload_n 0, 1) := by decide +kernel
theorem d_Nest_place_12 : decode b_Nest_place 12 = .ok (.getfield 21, 3) := by decide +kernel
theorem d_Nest_place_15 : decode b_Nest_place 15 = .ok (.iconst 1, 1) := by decide +kernel
theorem d_Nest_place_16 : decode b_Nest_place 16 = .ok (.isub, 1) := by decide +kernel
theorem d_Nest_place_17 : decode b_Nest_place 17 = .ok (.iaload, 1) := by decide +kernel
theorem d_Nest_place_18 : decode b_Nest_place 18 = .ok (.goto 4, 3) := by decide +kernel
theorem d_Nest_place_21 : decode b_Nest_place 21 = .ok (.iconst 0, 1) := by decide +kernel
theorem d_Nest_place_22 : decode b_Nest_place 22 = .ok (.ireturn, 1) := by decide +kernel
theorem d_Nest_mark_0 : decode b_Nest_mark 0 = .ok (.aload_n 0, 1) := by decide +kernel
theorem d_Nest_mark_1 : decode b_Nest_mark 1 = .ok (.getfield 21, 3) := by decide +kernel
theorem d_Nest_mark_4 : decode b_Nest_mark 4 = .ok (.ifCond .le 17, 3) := by decide +kernel
theorem d_Nest_mark_7 : decode b_Nest_mark 7 = .ok (.aload_n 0, 1) := by decide +kernel
theorem d_Nest_mark_8 : decode b_Nest_mark 8 = .ok (.getfield 18, 3) := by decide +kernel
theorem d_Nest_mark_11 : decode b_Nest_mark 11 = .ok (.aload_n 0, 1) := by decide +kernel
theorem d_Nest_mark_12 : decode b_Nest_mark 12 = .ok (.getfield 21, 3) := by decide +kernel
theorem d_Nest_mark_15 : decode b_Nest_mark 15 = .ok (.iconst 1, 1) := by decide +kernel
theorem d_Nest_mark_16 : decode b_Nest_mark 16 = .ok (.isub, 1) := by decide +kernel
theorem d_Nest_mark_17 : decode b_Nest_mark 17 = .ok (.iaload, 1) := by decide +kernel
theorem d_Nest_mark_18 : decode b_Nest_mark 18 = .ok (.goto 4, 3) := by decide +kernel
theorem d_Nest_mark_21 : decode b_Nest_mark 21 = .ok (.iconst 0, 1) := by decide +kernel
theorem d_Nest_mark_22 : decode b_Nest_mark 22 = .ok (.ireturn, 1) := by decide +kernel
theorem d_Known_learn_0 : decode b_Known_learn 0 = .ok (.iload_n 1, 1) := by decide +kernel
theorem d_Known_learn_1 : decode b_Known_learn 1 = .ok (.ifCond .lt 9, 3) := by decide +kernel
theorem d_Known_learn_4 : decode b_Known_learn 4 = .ok (.iload_n 1, 1) := by decide +kernel
theorem d_Known_learn_5 : decode b_Known_learn 5 = .ok (.bipush 14, 2) := by decide +kernel
theorem d_Known_learn_7 : decode b_Known_learn 7 = .ok (.if_icmp .lt 5, 3) := by decide +kernel
theorem d_Known_learn_10 : decode b_Known_learn 10 = .ok (.iconst 0, 1) := by decide +kernel
theorem d_Known_learn_11 : decode b_Known_learn 11 = .ok (.ireturn, 1) := by decide +kernel
theorem d_Known_learn_12 : decode b_Known_learn 12 = .ok (.aload_n 0, 1) := by decide +kernel
theorem d_Known_learn_13 : decode b_Known_learn 13 = .ok (.getfield 15, 3) := by decide +kernel
theorem d_Known_learn_16 : decode b_Known_learn 16 = .ok (.iload_n 1, 1) := by decide +kernel
theorem d_Known_learn_17 : decode b_Known_learn 17 = .ok (.baload, 1) := by decide +kernel
theorem d_Known_learn_18 : decode b_Known_learn 18 = .ok (.ifCond .eq 19, 3) := by decide +kernel
theorem d_Known_learn_21 : decode b_Known_learn 21 = .ok (.aload_n 0, 1) := by decide +kernel
theorem d_Known_learn_22 : decode b_Known_learn 22 = .ok (.getfield 9, 3) := by decide +kernel
theorem d_Known_learn_25 : decode b_Known_learn 25 = .ok (.iload_n 1, 1) := by decide +kernel
theorem d_Known_learn_26 : decode b_Known_learn 26 = .ok (.iaload, 1) := by decide +kernel
theorem d_Known_learn_27 : decode b_Known_learn 27 = .ok (.iload_n 2, 1) := by decide +kernel
theorem d_Known_learn_28 : decode b_Known_learn 28 = .ok (.if_icmp .ne 7, 3) := by decide +kernel
theorem d_Known_learn_31 : decode b_Known_learn 31 = .ok (.iconst 1, 1) := by decide +kernel
theorem d_Known_learn_32 : decode b_Known_learn 32 = .ok (.goto 4, 3) := by decide +kernel
theorem d_Known_learn_35 : decode b_Known_learn 35 = .ok (.iconst 0, 1) := by decide +kernel
theorem d_Known_learn_36 : decode b_Known_learn 36 = .ok (.ireturn, 1) := by decide +kernel
theorem d_Known_learn_37 : decode b_Known_learn 37 = .ok (.aload_n 0, 1) := by decide +kernel
theorem d_Known_learn_38 : decode b_Known_learn 38 = .ok (.getfield 22, 3) := by decide +kernel
theorem d_Known_learn_41 : decode b_Known_learn 41 = .ok (.bipush 14, 2) := by decide +kernel
theorem d_Known_learn_43 : decode b_Known_learn 43 = .ok (.if_icmp .lt 5, 3) := by decide +kernel
theorem d_Known_learn_46 : decode b_Known_learn 46 = .ok (.iconst 0, 1) := by decide +kernel
theorem d_Known_learn_47 : decode b_Known_learn 47 = .ok (.ireturn, 1) := by decide +kernel
theorem d_Known_learn_48 : decode b_Known_learn 48 = .ok (.aload_n 0, 1) := by decide +kernel
theorem d_Known_learn_49 : decode b_Known_learn 49 = .ok (.getfield 9, 3) := by decide +kernel
theorem d_Known_learn_52 : decode b_Known_learn 52 = .ok (.iload_n 1, 1) := by decide +kernel
theorem d_Known_learn_53 : decode b_Known_learn 53 = .ok (.iload_n 2, 1) := by decide +kernel
theorem d_Known_learn_54 : decode b_Known_learn 54 = .ok (.iastore, 1) := by decide +kernel
theorem d_Known_learn_55 : decode b_Known_learn 55 = .ok (.aload_n 0, 1) := by decide +kernel
theorem d_Known_learn_56 : decode b_Known_learn 56 = .ok (.getfield 15, 3) := by decide +kernel
theorem d_Known_learn_59 : decode b_Known_learn 59 = .ok (.iload_n 1, 1) := by decide +kernel
theorem d_Known_learn_60 : decode b_Known_learn 60 = .ok (.iconst 1, 1) := by decide +kernel
theorem d_Known_learn_61 : decode b_Known_learn 61 = .ok (.bastore, 1) := by decide +kernel
theorem d_Known_learn_62 : decode b_Known_learn 62 = .ok (.aload_n 0, 1) := by decide +kernel
theorem d_Known_learn_63 : decode b_Known_learn 63 = .ok (.getfield 19, 3) := by decide +kernel
theorem d_Known_learn_66 : decode b_Known_learn 66 = .ok (.aload_n 0, 1) := by decide +kernel
theorem d_Known_learn_67 : decode b_Known_learn 67 = .ok (.getfield 22, 3) := by decide +kernel
theorem d_Known_learn_70 : decode b_Known_learn 70 = .ok (.iload_n 1, 1) := by decide +kernel
theorem d_Known_learn_71 : decode b_Known_learn 71 = .ok (.iastore, 1) := by decide +kernel
theorem d_Known_learn_72 : decode b_Known_learn 72 = .ok (.aload_n 0, 1) := by decide +kernel
theorem d_Known_learn_73 : decode b_Known_learn 73 = .ok (.dup, 1) := by decide +kernel
theorem d_Known_learn_74 : decode b_Known_learn 74 = .ok (.getfield 22, 3) := by decide +kernel
theorem d_Known_learn_77 : decode b_Known_learn 77 = .ok (.iconst 1, 1) := by decide +kernel
theorem d_Known_learn_78 : decode b_Known_learn 78 = .ok (.iadd, 1) := by decide +kernel
theorem d_Known_learn_79 : decode b_Known_learn 79 = .ok (.putfield 22, 3) := by decide +kernel
theorem d_Known_learn_82 : decode b_Known_learn 82 = .ok (.iconst 1, 1) := by decide +kernel
theorem d_Known_learn_83 : decode b_Known_learn 83 = .ok (.ireturn, 1) := by decide +kernel
theorem d_Known_forget_0 : decode b_Known_forget 0 = .ok (.aload_n 0, 1) := by decide +kernel
theorem d_Known_forget_1 : decode b_Known_forget 1 = .ok (.getfield 22, 3) := by decide +kernel
theorem d_Known_forget_4 : decode b_Known_forget 4 = .ok (.ifCond .le 39, 3) := by decide +kernel
theorem d_Known_forget_7 : decode b_Known_forget 7 = .ok (.aload_n 0, 1) := by decide +kernel
theorem d_Known_forget_8 : decode b_Known_forget 8 = .ok (.getfield 22, 3) := by decide +kernel
theorem d_Known_forget_11 : decode b_Known_forget 11 = .ok (.iload_n 1, 1) := by decide +kernel
theorem d_Known_forget_12 : decode b_Known_forget 12 = .ok (.if_icmp .le 31, 3) := by decide +kernel
theorem d_Known_forget_15 : decode b_Known_forget 15 = .ok (.aload_n 0, 1) := by decide +kernel
theorem d_Known_forget_16 : decode b_Known_forget 16 = .ok (.dup, 1) := by decide +kernel
theorem d_Known_forget_17 : decode b_Known_forget 17 = .ok (.getfield 22, 3) := by decide +kernel
theorem d_Known_forget_20 : decode b_Known_forget 20 = .ok (.iconst 1, 1) := by decide +kernel
theorem d_Known_forget_21 : decode b_Known_forget 21 = .ok (.isub, 1) := by decide +kernel
theorem d_Known_forget_22 : decode b_Known_forget 22 = .ok (.putfield 22, 3) := by decide +kernel
theorem d_Known_forget_25 : decode b_Known_forget 25 = .ok (.aload_n 0, 1) := by decide +kernel
theorem d_Known_forget_26 : decode b_Known_forget 26 = .ok (.getfield 15, 3) := by decide +kernel
theorem d_Known_forget_29 : decode b_Known_forget 29 = .ok (.aload_n 0, 1) := by decide +kernel
theorem d_Known_forget_30 : decode b_Known_forget 30 = .ok (.getfield 19, 3) := by decide +kernel
theorem d_Known_forget_33 : decode b_Known_forget 33 = .ok (.aload_n 0, 1) := by decide +kernel
theorem d_Known_forget_34 : decode b_Known_forget 34 = .ok (.getfield 22, 3) := by decide +kernel
theorem d_Known_forget_37 : decode b_Known_forget 37 = .ok (.iaload, 1) := by decide +kernel
theorem d_Known_forget_38 : decode b_Known_forget 38 = .ok (.iconst 0, 1) := by decide +kernel
theorem d_Known_forget_39 : decode b_Known_forget 39 = .ok (.bastore, 1) := by decide +kernel
theorem d_Known_forget_40 : decode b_Known_forget 40 = .ok (.goto (-40), 3) := by decide +kernel
theorem d_Known_forget_43 : decode b_Known_forget 43 = .ok (.return_, 1) := by decide +kernel
theorem d_Known_has_0 : decode b_Known_has 0 = .ok (.iload_n 1, 1) := by decide +kernel
theorem d_Known_has_1 : decode b_Known_has 1 = .ok (.ifCond .lt 22, 3) := by decide +kernel
theorem d_Known_has_4 : decode b_Known_has 4 = .ok (.iload_n 1, 1) := by decide +kernel
theorem d_Known_has_5 : decode b_Known_has 5 = .ok (.bipush 14, 2) := by decide +kernel
theorem d_Known_has_7 : decode b_Known_has 7 = .ok (.if_icmp .ge 16, 3) := by decide +kernel
theorem d_Known_has_10 : decode b_Known_has 10 = .ok (.aload_n 0, 1) := by decide +kernel
theorem d_Known_has_11 : decode b_Known_has 11 = .ok (.getfield 15, 3) := by decide +kernel
theorem d_Known_has_14 : decode b_Known_has 14 = .ok (.iload_n 1, 1) := by decide +kernel
theorem d_Known_has_15 : decode b_Known_has 15 = .ok (.baload, 1) := by decide +kernel
theorem d_Known_has_16 : decode b_Known_has 16 = .ok (.ifCond .eq 7, 3) := by decide +kernel
theorem d_Known_has_19 : decode b_Known_has 19 = .ok (.iconst 1, 1) := by decide +kernel
theorem d_Known_has_20 : decode b_Known_has 20 = .ok (.goto 4, 3) := by decide +kernel
theorem d_Known_has_23 : decode b_Known_has 23 = .ok (.iconst 0, 1) := by decide +kernel
theorem d_Known_has_24 : decode b_Known_has 24 = .ok (.ireturn, 1) := by decide +kernel
theorem d_Known_hasOneOf_0 : decode b_Known_hasOneOf 0 = .ok (.iload_n 1, 1) := by decide +kernel
theorem d_Known_hasOneOf_1 : decode b_Known_hasOneOf 1 = .ok (.istore_n 3, 1) := by decide +kernel
theorem d_Known_hasOneOf_2 : decode b_Known_hasOneOf 2 = .ok (.iload_n 3, 1) := by decide +kernel
theorem d_Known_hasOneOf_3 : decode b_Known_hasOneOf 3 = .ok (.iload_n 2, 1) := by decide +kernel
theorem d_Known_hasOneOf_4 : decode b_Known_hasOneOf 4 = .ok (.if_icmp .gt 19, 3) := by decide +kernel
theorem d_Known_hasOneOf_7 : decode b_Known_hasOneOf 7 = .ok (.aload_n 0, 1) := by decide +kernel
theorem d_Known_hasOneOf_8 : decode b_Known_hasOneOf 8 = .ok (.iload_n 3, 1) := by decide +kernel
theorem d_Known_hasOneOf_9 : decode b_Known_hasOneOf 9 = .ok (.invokevirtual 26, 3) := by decide +kernel
theorem d_Known_hasOneOf_12 : decode b_Known_hasOneOf 12 = .ok (.ifCond .eq 5, 3) := by decide +kernel
theorem d_Known_hasOneOf_15 : decode b_Known_hasOneOf 15 = .ok (.iconst 1, 1) := by decide +kernel
theorem d_Known_hasOneOf_16 : decode b_Known_hasOneOf 16 = .ok (.ireturn, 1) := by decide +kernel
theorem d_Known_hasOneOf_17 : decode b_Known_hasOneOf 17 = .ok (.iinc 3 1, 3) := by decide +kernel
theorem d_Known_hasOneOf_20 : decode b_Known_hasOneOf 20 = .ok (.goto (-18), 3) := by decide +kernel
theorem d_Known_hasOneOf_23 : decode b_Known_hasOneOf 23 = .ok (.iconst 0, 1) := by decide +kernel
theorem d_Known_hasOneOf_24 : decode b_Known_hasOneOf 24 = .ok (.ireturn, 1) := by decide +kernel
theorem d_Known_value_0 : decode b_Known_value 0 = .ok (.aload_n 0, 1) := by decide +kernel
theorem d_Known_value_1 : decode b_Known_value 1 = .ok (.iload_n 1, 1) := by decide +kernel
theorem d_Known_value_2 : decode b_Known_value 2 = .ok (.invokevirtual 26, 3) := by decide +kernel
theorem d_Known_value_5 : decode b_Known_value 5 = .ok (.ifCond .eq 12, 3) := by decide +kernel
theorem d_Known_value_8 : decode b_Known_value 8 = .ok (.aload_n 0, 1) := by decide +kernel
theorem d_Known_value_9 : decode b_Known_value 9 = .ok (.getfield 9, 3) := by decide +kernel
theorem d_Known_value_12 : decode b_Known_value 12 = .ok (.iload_n 1, 1) := by decide +kernel
theorem d_Known_value_13 : decode b_Known_value 13 = .ok (.iaload, 1) := by decide +kernel
theorem d_Known_value_14 : decode b_Known_value 14 = .ok (.goto 4, 3) := by decide +kernel
theorem d_Known_value_17 : decode b_Known_value 17 = .ok (.iconst 0, 1) := by decide +kernel
theorem d_Known_value_18 : decode b_Known_value 18 = .ok (.ireturn, 1) := by decide +kernel
abbrev rm_Pattern_isAllowed : Room := { frames := 0, cells := 0, slots := 0, locals := 0 }
set_option maxHeartbeats 4000000 in
set_option maxRecDepth 100000 in
theorem c_Pattern_isAllowed (l : Launch) (D : va_G) (kk : Nat → ClassId) (st : Nat → Nat) (sz : Nat) (x0 : Int32) (x1 : Int32) (o : Int32) (he : f_Pattern_isAllowed x0 x1 = some o) : Met l y_Pattern_isAllowed (Cond.code y_Pattern_isAllowed b_Pattern_isAllowed 2 (some .boolean) :: GW) rm_Pattern_isAllowed (KPc D kk st [.int x0, .int x1] [] sz) (KQi D kk o [] (va_A [] sz)) 0 0 (va_A [] sz) := by
  refine k_start (Qc := fun A => KQi D kk o [] A) (by decide) (Nat.le_of_ble_eq_true rfl) ?_
  intro p e s m below meth c A ls S hnm hr hlk hA X hP hD hS hl
  have hl : lv_has ls 2 [(0, .int x0), (1, .int x1)] := hl
  have hx := S.1
  have hb := S.2.1
  unfold f_Pattern_isAllowed at he
  refine lv_iload_n hx hb d_Pattern_isAllowed_0 rfl (lv_at hl 0 rfl) ?_
  refine lv_if_lt (tgt := 40) hx hb d_Pattern_isAllowed_1 rfl (fun hc => ?_) (fun hc => ?_)
  · have he := ih_t hc he
    refine lv_iconst (v := (0 : Int32)) hx hb d_Pattern_isAllowed_40 (by decide) ?_
    cases he
    exact k_zre hx hb hr hlk X hP hD hS (Or.inl rfl) d_Pattern_isAllowed_41
  · have he := ih_f hc he
    refine lv_iload_n hx hb d_Pattern_isAllowed_4 rfl (lv_at hl 0 rfl) ?_
    refine va_gets hx hb (SW.z1 X.2.2) hS S.2.2.2.1 (S.2.2.2.2 _ gm_2_191) (fun _ h => h) d_Pattern_isAllowed_5 ?_
    refine va_tlen (v := (15 : Int32)) hx hb (SW.t1 X.2.2) hS rfl d_Pattern_isAllowed_8 ?_
    refine lv_icmp_ge (tgt := 40) hx hb d_Pattern_isAllowed_9 rfl (fun hc => ?_) (fun hc => ?_)
    · have he := ih_t hc he
      refine lv_iconst (v := (0 : Int32)) hx hb d_Pattern_isAllowed_40 (by decide) ?_
      cases he
      exact k_zre hx hb hr hlk X hP hD hS (Or.inl rfl) d_Pattern_isAllowed_41
    · have he := ih_f hc he
      refine lv_iload_n hx hb d_Pattern_isAllowed_12 rfl (lv_at hl 1 rfl) ?_
      refine lv_iconst (v := (1 : Int32)) hx hb d_Pattern_isAllowed_13 (by decide) ?_
      refine lv_icmp_lt (tgt := 40) hx hb d_Pattern_isAllowed_14 rfl (fun hc => ?_) (fun hc => ?_)
      · have he := ih_t hc he
        refine lv_iconst (v := (0 : Int32)) hx hb d_Pattern_isAllowed_40 (by decide) ?_
        cases he
        exact k_zre hx hb hr hlk X hP hD hS (Or.inl rfl) d_Pattern_isAllowed_41
      · have he := ih_f hc he
        refine lv_iload_n hx hb d_Pattern_isAllowed_17 rfl (lv_at hl 1 rfl) ?_
        refine lv_bipush (v := (9 : Int32)) hx hb d_Pattern_isAllowed_18 (by decide) ?_
        refine lv_icmp_gt (tgt := 40) hx hb d_Pattern_isAllowed_20 rfl (fun hc => ?_) (fun hc => ?_)
        · have he := ih_t hc he
          refine lv_iconst (v := (0 : Int32)) hx hb d_Pattern_isAllowed_40 (by decide) ?_
          cases he
          exact k_zre hx hb hr hlk X hP hD hS (Or.inl rfl) d_Pattern_isAllowed_41
        · have he := ih_f hc he
          refine va_gets hx hb (SW.z1 X.2.2) hS S.2.2.2.1 (S.2.2.2.2 _ gm_2_191) (fun _ h => h) d_Pattern_isAllowed_23 ?_
          refine lv_iload_n hx hb d_Pattern_isAllowed_26 rfl (lv_at hl 0 rfl) ?_
          obtain ⟨hi1, he⟩ := ih_g he
          refine va_ti hx hb (SW.t1 X.2.2) hS hi1 rfl d_Pattern_isAllowed_27 ?_
          refine lv_iload_n hx hb d_Pattern_isAllowed_28 rfl (lv_at hl 1 rfl) ?_
          refine lv_ishr hx hb d_Pattern_isAllowed_29 ?_
          refine lv_iconst (v := (1 : Int32)) hx hb d_Pattern_isAllowed_30 (by decide) ?_
          refine lv_iand hx hb d_Pattern_isAllowed_31 ?_
          refine lv_iconst (v := (1 : Int32)) hx hb d_Pattern_isAllowed_32 (by decide) ?_
          refine lv_icmp_ne (tgt := 40) hx hb d_Pattern_isAllowed_33 rfl (fun hc => ?_) (fun hc => ?_)
          · have he := ih_f hc he
            refine lv_iconst (v := (0 : Int32)) hx hb d_Pattern_isAllowed_40 (by decide) ?_
            cases he
            exact k_zre hx hb hr hlk X hP hD hS (Or.inl rfl) d_Pattern_isAllowed_41
          · have he := ih_t hc he
            refine lv_iconst (v := (1 : Int32)) hx hb d_Pattern_isAllowed_36 (by decide) ?_
            refine lv_goto (tgt := 41) hx hb d_Pattern_isAllowed_37 rfl ?_
            cases he
            exact k_zre hx hb hr hlk X hP hD hS (Or.inr rfl) d_Pattern_isAllowed_41
abbrev rm_Pattern_kind : Room := { frames := 0, cells := 0, slots := 0, locals := 0 }
set_option maxHeartbeats 4000000 in
set_option maxRecDepth 100000 in
theorem c_Pattern_kind (l : Launch) (D : va_G) (kk : Nat → ClassId) (st : Nat → Nat) (a_t a_t_kinds a_t_numbers : Nat) (sz : Nat) (t_size : Int32) (t_kinds : Nat → Int32) (x1 : Int32) (o : Int32) (he : f_Pattern_kind t_size t_kinds x1 = some o) : Met l y_Pattern_kind (Cond.code y_Pattern_kind b_Pattern_kind 2 (some .int) :: GW) rm_Pattern_kind (KPc D kk st [.ref a_t, .int x1] [(a_t, .inr (2, [.ref a_t_kinds, .ref a_t_numbers, .int t_size])), (a_t_kinds, .inl (kk 0, 20, .inl t_kinds))] sz) (KQi D kk o [(a_t, .inr (2, [.ref a_t_kinds, .ref a_t_numbers, .int t_size])), (a_t_kinds, .inl (kk 0, 20, .inl t_kinds))] (va_A [(a_t, .inr (2, [.ref a_t_kinds, .ref a_t_numbers, .int t_size])), (a_t_kinds, .inl (kk 0, 20, .inl t_kinds))] sz)) 0 0 (va_A [(a_t, .inr (2, [.ref a_t_kinds, .ref a_t_numbers, .int t_size])), (a_t_kinds, .inl (kk 0, 20, .inl t_kinds))] sz) := by
  refine k_start (Qc := fun A => KQi D kk o [(a_t, .inr (2, [.ref a_t_kinds, .ref a_t_numbers, .int t_size])), (a_t_kinds, .inl (kk 0, 20, .inl t_kinds))] A) (by decide) (Nat.le_of_ble_eq_true rfl) ?_
  intro p e s m below meth c A ls S hnm hr hlk hA X hP hD hS hl
  have hl : lv_has ls 2 [(0, .ref a_t), (1, .int x1)] := hl
  have hx := S.1
  have hb := S.2.1
  unfold f_Pattern_kind at he
  refine lv_iload_n hx hb d_Pattern_kind_0 rfl (lv_at hl 1 rfl) ?_
  refine lv_if_lt (tgt := 21) hx hb d_Pattern_kind_1 rfl (fun hc => ?_) (fun hc => ?_)
  · have he := ih_t hc he
    refine lv_iconst (v := (-1 : Int32)) hx hb d_Pattern_kind_21 (by decide) ?_
    cases he
    exact k_ire hx hb hr hlk X hP hD hS d_Pattern_kind_22
  · have he := ih_f hc he
    refine lv_iload_n hx hb d_Pattern_kind_4 rfl (lv_at hl 1 rfl) ?_
    refine lv_aload_n hx hb d_Pattern_kind_5 rfl (lv_at hl 0 rfl) ?_
    refine k_get S X us_Pattern hP 0 rfl rfl 2 (by decide) gm_1_62 rfl d_Pattern_kind_6 ?_
    refine lv_icmp_ge (tgt := 21) hx hb d_Pattern_kind_9 rfl (fun hc => ?_) (fun hc => ?_)
    · have he := ih_t hc he
      refine lv_iconst (v := (-1 : Int32)) hx hb d_Pattern_kind_21 (by decide) ?_
      cases he
      exact k_ire hx hb hr hlk X hP hD hS d_Pattern_kind_22
    · have he := ih_f hc he
      refine lv_aload_n hx hb d_Pattern_kind_12 rfl (lv_at hl 0 rfl) ?_
      refine k_get S X us_Pattern hP 0 rfl rfl 0 (by decide) gm_1_60 rfl d_Pattern_kind_13 ?_
      refine lv_iload_n hx hb d_Pattern_kind_16 rfl (lv_at hl 1 rfl) ?_
      obtain ⟨hi1, he⟩ := ih_g he
      refine va_iald hx hb X.1 hP 1 0 rfl rfl hi1 d_Pattern_kind_17 ?_
      refine lv_goto (tgt := 22) hx hb d_Pattern_kind_18 rfl ?_
      cases he
      exact k_ire hx hb hr hlk X hP hD hS d_Pattern_kind_22
abbrev rm_Pattern_number : Room := { frames := 0, cells := 0, slots := 0, locals := 0 }
set_option maxHeartbeats 4000000 in
set_option maxRecDepth 100000 in
theorem c_Pattern_number (l : Launch) (D : va_G) (kk : Nat → ClassId) (st : Nat → Nat) (a_t a_t_numbers a_t_kinds : Nat) (sz : Nat) (t_size : Int32) (t_numbers : Nat → Int32) (x1 : Int32) (o : Int32) (he : f_Pattern_number t_size t_numbers x1 = some o) : Met l y_Pattern_number (Cond.code y_Pattern_number b_Pattern_number 2 (some .int) :: GW) rm_Pattern_number (KPc D kk st [.ref a_t, .int x1] [(a_t, .inr (2, [.ref a_t_kinds, .ref a_t_numbers, .int t_size])), (a_t_numbers, .inl (kk 0, 20, .inl t_numbers))] sz) (KQi D kk o [(a_t, .inr (2, [.ref a_t_kinds, .ref a_t_numbers, .int t_size])), (a_t_numbers, .inl (kk 0, 20, .inl t_numbers))] (va_A [(a_t, .inr (2, [.ref a_t_kinds, .ref a_t_numbers, .int t_size])), (a_t_numbers, .inl (kk 0, 20, .inl t_numbers))] sz)) 0 0 (va_A [(a_t, .inr (2, [.ref a_t_kinds, .ref a_t_numbers, .int t_size])), (a_t_numbers, .inl (kk 0, 20, .inl t_numbers))] sz) := by
  refine k_start (Qc := fun A => KQi D kk o [(a_t, .inr (2, [.ref a_t_kinds, .ref a_t_numbers, .int t_size])), (a_t_numbers, .inl (kk 0, 20, .inl t_numbers))] A) (by decide) (Nat.le_of_ble_eq_true rfl) ?_
  intro p e s m below meth c A ls S hnm hr hlk hA X hP hD hS hl
  have hl : lv_has ls 2 [(0, .ref a_t), (1, .int x1)] := hl
  have hx := S.1
  have hb := S.2.1
  unfold f_Pattern_number at he
  refine lv_iload_n hx hb d_Pattern_number_0 rfl (lv_at hl 1 rfl) ?_
  refine lv_if_lt (tgt := 21) hx hb d_Pattern_number_1 rfl (fun hc => ?_) (fun hc => ?_)
  · have he := ih_t hc he
    refine lv_iconst (v := (0 : Int32)) hx hb d_Pattern_number_21 (by decide) ?_
    cases he
    exact k_ire hx hb hr hlk X hP hD hS d_Pattern_number_22
  · have he := ih_f hc he
    refine lv_iload_n hx hb d_Pattern_number_4 rfl (lv_at hl 1 rfl) ?_
    refine lv_aload_n hx hb d_Pattern_number_5 rfl (lv_at hl 0 rfl) ?_
    refine k_get S X us_Pattern hP 0 rfl rfl 2 (by decide) gm_1_62 rfl d_Pattern_number_6 ?_
    refine lv_icmp_ge (tgt := 21) hx hb d_Pattern_number_9 rfl (fun hc => ?_) (fun hc => ?_)
    · have he := ih_t hc he
      refine lv_iconst (v := (0 : Int32)) hx hb d_Pattern_number_21 (by decide) ?_
      cases he
      exact k_ire hx hb hr hlk X hP hD hS d_Pattern_number_22
    · have he := ih_f hc he
      refine lv_aload_n hx hb d_Pattern_number_12 rfl (lv_at hl 0 rfl) ?_
      refine k_get S X us_Pattern hP 0 rfl rfl 1 (by decide) gm_1_61 rfl d_Pattern_number_13 ?_
      refine lv_iload_n hx hb d_Pattern_number_16 rfl (lv_at hl 1 rfl) ?_
      obtain ⟨hi1, he⟩ := ih_g he
      refine va_iald hx hb X.1 hP 1 0 rfl rfl hi1 d_Pattern_number_17 ?_
      refine lv_goto (tgt := 22) hx hb d_Pattern_number_18 rfl ?_
      cases he
      exact k_ire hx hb hr hlk X hP hD hS d_Pattern_number_22
abbrev rm_Pattern_add : Room := { frames := 0, cells := 0, slots := 0, locals := 0 }
set_option maxHeartbeats 4000000 in
set_option maxRecDepth 100000 in
theorem c_Pattern_add (l : Launch) (D : va_G) (kk : Nat → ClassId) (st : Nat → Nat) (a_t a_t_kinds a_t_numbers : Nat) (sz : Nat) (t_size : Int32) (t_kinds : Nat → Int32) (t_numbers : Nat → Int32) (x1 : Int32) (x2 : Int32) (o : Int32 × Int32 × (Nat → Int32) × (Nat → Int32)) (he : f_Pattern_add t_size t_kinds t_numbers x1 x2 = some o) : Met l y_Pattern_add (Cond.code y_Pattern_add b_Pattern_add 3 (some .boolean) :: GW) rm_Pattern_add (KPc D kk st [.ref a_t, .int x1, .int x2] [(a_t, .inr (2, [.ref a_t_kinds, .ref a_t_numbers, .int t_size])), (a_t_kinds, .inl (kk 0, 20, .inl t_kinds)), (a_t_numbers, .inl (kk 0, 20, .inl t_numbers))] sz) (KQi D kk o.1 [(a_t, .inr (2, [.ref a_t_kinds, .ref a_t_numbers, .int o.2.1])), (a_t_kinds, .inl (kk 0, 20, .inl o.2.2.1)), (a_t_numbers, .inl (kk 0, 20, .inl o.2.2.2))] (va_A [(a_t, .inr (2, [.ref a_t_kinds, .ref a_t_numbers, .int t_size])), (a_t_kinds, .inl (kk 0, 20, .inl t_kinds)), (a_t_numbers, .inl (kk 0, 20, .inl t_numbers))] sz)) 0 0 (va_A [(a_t, .inr (2, [.ref a_t_kinds, .ref a_t_numbers, .int t_size])), (a_t_kinds, .inl (kk 0, 20, .inl t_kinds)), (a_t_numbers, .inl (kk 0, 20, .inl t_numbers))] sz) := by
  refine k_start (Qc := fun A => KQi D kk o.1 [(a_t, .inr (2, [.ref a_t_kinds, .ref a_t_numbers, .int o.2.1])), (a_t_kinds, .inl (kk 0, 20, .inl o.2.2.1)), (a_t_numbers, .inl (kk 0, 20, .inl o.2.2.2))] A) (by decide) (Nat.le_of_ble_eq_true rfl) ?_
  intro p e s m below meth c A ls S hnm hr hlk hA X hP hD hS hl
  have hl : lv_has ls 3 [(0, .ref a_t), (1, .int x1), (2, .int x2)] := hl
  have hx := S.1
  have hb := S.2.1
  unfold f_Pattern_add at he
  refine lv_aload_n hx hb d_Pattern_add_0 rfl (lv_at hl 0 rfl) ?_
  refine k_get S X us_Pattern hP 0 rfl rfl 2 (by decide) gm_1_62 rfl d_Pattern_add_1 ?_
  refine lv_bipush (v := (20 : Int32)) hx hb d_Pattern_add_4 (by decide) ?_
  refine lv_icmp_lt (tgt := 11) hx hb d_Pattern_add_6 rfl (fun hc => ?_) (fun hc => ?_)
  · have he := ih_t hc he
    refine lv_aload_n hx hb d_Pattern_add_11 rfl (lv_at hl 0 rfl) ?_
    refine k_get S X us_Pattern hP 0 rfl rfl 0 (by decide) gm_1_60 rfl d_Pattern_add_12 ?_
    refine lv_aload_n hx hb d_Pattern_add_15 rfl (lv_at hl 0 rfl) ?_
    refine k_get S X us_Pattern hP 0 rfl rfl 2 (by decide) gm_1_62 rfl d_Pattern_add_16 ?_
    refine lv_iload_n hx hb d_Pattern_add_19 rfl (lv_at hl 1 rfl) ?_
    obtain ⟨hi1, he⟩ := ih_g he
    refine va_iast hx hb X.1 hP hD hS 1 0 rfl rfl hi1 d_Pattern_add_20 (fun H locs hP hD hS => ?_)
    have hP : va_P D classes [(a_t, .inr (2, [.ref a_t_kinds, .ref a_t_numbers, .int t_size])), (a_t_kinds, .inl (kk 0, 20, .inl (upd t_kinds (t_size).toNatClampNeg x1))), (a_t_numbers, .inl (kk 0, 20, .inl t_numbers))] H := hP
    have hD : va_D A [(a_t, .inr (2, [.ref a_t_kinds, .ref a_t_numbers, .int t_size])), (a_t_kinds, .inl (kk 0, 20, .inl (upd t_kinds (t_size).toNatClampNeg x1))), (a_t_numbers, .inl (kk 0, 20, .inl t_numbers))] := hD
    refine lv_aload_n hx hb d_Pattern_add_21 rfl (lv_at hl 0 rfl) ?_
    refine k_get S X us_Pattern hP 0 rfl rfl 1 (by decide) gm_1_61 rfl d_Pattern_add_22 ?_
    refine lv_aload_n hx hb d_Pattern_add_25 rfl (lv_at hl 0 rfl) ?_
    refine k_get S X us_Pattern hP 0 rfl rfl 2 (by decide) gm_1_62 rfl d_Pattern_add_26 ?_
    refine lv_iload_n hx hb d_Pattern_add_29 rfl (lv_at hl 2 rfl) ?_
    obtain ⟨hi2, he⟩ := ih_g he
    refine va_iast hx hb X.1 hP hD hS 2 0 rfl rfl hi2 d_Pattern_add_30 (fun H locs hP hD hS => ?_)
    have hP : va_P D classes [(a_t, .inr (2, [.ref a_t_kinds, .ref a_t_numbers, .int t_size])), (a_t_kinds, .inl (kk 0, 20, .inl (upd t_kinds (t_size).toNatClampNeg x1))), (a_t_numbers, .inl (kk 0, 20, .inl (upd t_numbers (t_size).toNatClampNeg x2)))] H := hP
    have hD : va_D A [(a_t, .inr (2, [.ref a_t_kinds, .ref a_t_numbers, .int t_size])), (a_t_kinds, .inl (kk 0, 20, .inl (upd t_kinds (t_size).toNatClampNeg x1))), (a_t_numbers, .inl (kk 0, 20, .inl (upd t_numbers (t_size).toNatClampNeg x2)))] := hD
    refine lv_aload_n hx hb d_Pattern_add_31 rfl (lv_at hl 0 rfl) ?_
    refine lv_dup hx hb d_Pattern_add_32 rfl ?_
    refine k_get S X us_Pattern hP 0 rfl rfl 2 (by decide) gm_1_62 rfl d_Pattern_add_33 ?_
    refine lv_iconst (v := (1 : Int32)) hx hb d_Pattern_add_36 (by decide) ?_
    refine lv_iadd hx hb d_Pattern_add_37 ?_
    refine k_put S X us_Pattern t_Pattern t_Pattern_ok n_Pattern hP hD hS 0 rfl rfl 2 (by decide) gm_1_62 rfl rfl rfl (Nat.le_of_ble_eq_true rfl) d_Pattern_add_38 (fun H locs hP hD hS => ?_)
    have hP : va_P D classes [(a_t, .inr (2, [.ref a_t_kinds, .ref a_t_numbers, .int (t_size + (1 : Int32))])), (a_t_kinds, .inl (kk 0, 20, .inl (upd t_kinds (t_size).toNatClampNeg x1))), (a_t_numbers, .inl (kk 0, 20, .inl (upd t_numbers (t_size).toNatClampNeg x2)))] H := hP
    have hD : va_D A [(a_t, .inr (2, [.ref a_t_kinds, .ref a_t_numbers, .int (t_size + (1 : Int32))])), (a_t_kinds, .inl (kk 0, 20, .inl (upd t_kinds (t_size).toNatClampNeg x1))), (a_t_numbers, .inl (kk 0, 20, .inl (upd t_numbers (t_size).toNatClampNeg x2)))] := hD
    refine lv_iconst (v := (1 : Int32)) hx hb d_Pattern_add_41 (by decide) ?_
    cases he
    exact k_zre hx hb hr hlk X hP hD hS (Or.inr rfl) d_Pattern_add_42
  · have he := ih_f hc he
    refine lv_iconst (v := (0 : Int32)) hx hb d_Pattern_add_9 (by decide) ?_
    cases he
    exact k_zre hx hb hr hlk X hP hD hS (Or.inl rfl) d_Pattern_add_10
abbrev rm_Pattern_become : Room := { frames := 1, cells := 0, slots := 0, locals := 22 }
set_option maxHeartbeats 4000000 in
set_option maxRecDepth 100000 in
theorem w_Pattern_become_7 {p : Program} {l : Launch} {e : Env} {s : State} {m : MethodId} {args : Array Value} {below : List Frame} {meth : Method} {c : Code} {Q : State → Prop} {A : Nat → Prop} {D : va_G} {kk : Nat → ClassId} {st : Nat → Nat} (a_t a_t_kinds a_t_numbers a_q1 a_q1_kinds a_q1_numbers : Nat) (q1_size : Int32) (q1_kinds : Nat → Int32) (q1_numbers : Nat → Int32) (S : CallFix p m c b_Pattern_become 3 s args GW y_Pattern_become.cls) (hr : meth.sig.returnType = none) (hlk : meth.locks = false) (hA : ∀ q, s.heap.size ≤ q → A q) (X : KX D kk st A s) : ∀ (n : Nat) (x2 : Int32) (t_size : Int32) (t_kinds : Nat → Int32) (t_numbers : Nat → Int32) (v : Int32 × Int32 × (Nat → Int32) × (Nat → Int32)) (H : Heap) (locs : List Loc) (ls : Array Slot), lp_Pattern_become_7 q1_size q1_kinds q1_numbers n x2 t_size t_kinds t_numbers = some v → lv_has ls 3 [(0, .ref a_t), (1, .ref a_q1), (2, .int x2)] → va_P D classes [(a_t, .inr (2, [.ref a_t_kinds, .ref a_t_numbers, .int t_size])), (a_t_kinds, .inl (kk 0, 20, .inl t_kinds)), (a_t_numbers, .inl (kk 0, 20, .inl t_numbers)), (a_q1, .inr (2, [.ref a_q1_kinds, .ref a_q1_numbers, .int q1_size])), (a_q1_kinds, .inl (kk 0, 20, .inl q1_kinds)), (a_q1_numbers, .inl (kk 0, 20, .inl q1_numbers))] H → va_D A [(a_t, .inr (2, [.ref a_t_kinds, .ref a_t_numbers, .int t_size])), (a_t_kinds, .inl (kk 0, 20, .inl t_kinds)), (a_t_numbers, .inl (kk 0, 20, .inl t_numbers)), (a_q1, .inr (2, [.ref a_q1_kinds, .ref a_q1_numbers, .int q1_size])), (a_q1_kinds, .inl (kk 0, 20, .inl q1_kinds)), (a_q1_numbers, .inl (kk 0, 20, .inl q1_numbers))] → va_S A s.heap H locs → (∀ (H : Heap) (locs : List Loc) (ls : Array Slot), lv_has ls 3 [(0, .ref a_t), (1, .ref a_q1), (2, .int v.1)] → va_P D classes [(a_t, .inr (2, [.ref a_t_kinds, .ref a_t_numbers, .int v.2.1])), (a_t_kinds, .inl (kk 0, 20, .inl v.2.2.1)), (a_t_numbers, .inl (kk 0, 20, .inl v.2.2.2)), (a_q1, .inr (2, [.ref a_q1_kinds, .ref a_q1_numbers, .int q1_size])), (a_q1_kinds, .inl (kk 0, 20, .inl q1_kinds)), (a_q1_numbers, .inl (kk 0, 20, .inl q1_numbers))] H → va_D A [(a_t, .inr (2, [.ref a_t_kinds, .ref a_t_numbers, .int v.2.1])), (a_t_kinds, .inl (kk 0, 20, .inl v.2.2.1)), (a_t_numbers, .inl (kk 0, 20, .inl v.2.2.2)), (a_q1, .inr (2, [.ref a_q1_kinds, .ref a_q1_numbers, .int q1_size])), (a_q1_kinds, .inl (kk 0, 20, .inl q1_kinds)), (a_q1_numbers, .inl (kk 0, 20, .inl q1_numbers))] → va_S A s.heap H locs → W p l e rm_Pattern_become s m args below meth c H locs 0 0 Q (F0 m 36 ls [])) → W p l e rm_Pattern_become s m args below meth c H locs 0 0 Q (F0 m 7 ls []) := by
  intro n
  induction n with
  | zero =>
    intro x2 t_size t_kinds t_numbers v H locs ls he hl hP hD hS K
    exact ih_n he
  | succ n ih =>
    intro x2 t_size t_kinds t_numbers v H locs ls he hl hP hD hS K
    have hx := S.1
    have hb := S.2.1
    have he : st_Pattern_become_7 q1_size q1_kinds q1_numbers (lp_Pattern_become_7 q1_size q1_kinds q1_numbers n) x2 t_size t_kinds t_numbers = some v := he
    unfold st_Pattern_become_7 at he
    refine lv_iload_n hx hb d_Pattern_become_7 rfl (lv_at hl 2 rfl) ?_
    refine lv_aload_n hx hb d_Pattern_become_8 rfl (lv_at hl 1 rfl) ?_
    refine k_get S X us_Pattern hP 3 rfl rfl 2 (by decide) gm_1_62 rfl d_Pattern_become_9 ?_
    refine lv_icmp_ge (tgt := 36) hx hb d_Pattern_become_12 rfl (fun hc => ?_) (fun hc => ?_)
    · have he := ih_t hc he
      have hl : lv_has ls 3 [(0, .ref a_t), (1, .ref a_q1), (2, .int x2)] := lv_sub hl [0, 1, 2] rfl
      cases he
      exact K _ _ _ hl hP hD hS
    · have he := ih_f hc he
      refine lv_aload_n hx hb d_Pattern_become_15 rfl (lv_at hl 0 rfl) ?_
      refine lv_aload_n hx hb d_Pattern_become_16 rfl (lv_at hl 1 rfl) ?_
      refine lv_iload_n hx hb d_Pattern_become_17 rfl (lv_at hl 2 rfl) ?_
      obtain ⟨u1, e2, he⟩ := ih_b he
      refine k_io (r_V (As := [.int x2]) S X hA hP hD hS (c_Pattern_kind l D kk st a_q1 a_q1_kinds a_q1_numbers _ q1_size q1_kinds x2 u1 e2) gm_2_219 gm_2_216 gm_2_217 gm_2_218 gm_1_4 ⟨rfl, rfl, by decide, by decide⟩ kd_Pattern_kind [3, 4] rfl rfl rfl 3 2 rfl rfl rfl rfl hl.1 rfl (Nat.le_of_ble_eq_true rfl) d_Pattern_become_18 ⟨Nat.zero_le _, Nat.zero_le _⟩) hA hP hD hS [3, 4] rfl (fun H locs hP hS => ?_)
      refine lv_aload_n hx hb d_Pattern_become_21 rfl (lv_at hl 1 rfl) ?_
      refine lv_iload_n hx hb d_Pattern_become_22 rfl (lv_at hl 2 rfl) ?_
      obtain ⟨u3, e4, he⟩ := ih_b he
      refine k_io (r_V (As := [.int x2]) S X hA hP hD hS (c_Pattern_number l D kk st a_q1 a_q1_numbers a_q1_kinds _ q1_size q1_numbers x2 u3 e4) gm_2_223 gm_2_220 gm_2_221 gm_2_222 gm_1_4 ⟨rfl, rfl, by decide, by decide⟩ kd_Pattern_number [3, 5] rfl rfl rfl 3 2 rfl rfl rfl rfl hl.1 rfl (Nat.le_of_ble_eq_true rfl) d_Pattern_become_23 ⟨Nat.zero_le _, Nat.zero_le _⟩) hA hP hD hS [3, 5] rfl (fun H locs hP hS => ?_)
      obtain ⟨u5, e6, he⟩ := ih_b he
      refine k_i (wr := [(a_q1, .inr (2, [.ref a_q1_kinds, .ref a_q1_numbers, .int q1_size])), (a_q1_kinds, .inl (kk 0, 20, .inl q1_kinds)), (a_q1_numbers, .inl (kk 0, 20, .inl q1_numbers))]) (w1 := [(a_t, .inr (2, [.ref a_t_kinds, .ref a_t_numbers, .int u5.2.1])), (a_t_kinds, .inl (kk 0, 20, .inl u5.2.2.1)), (a_t_numbers, .inl (kk 0, 20, .inl u5.2.2.2))]) (w2 := [(a_t, .inr (2, [.ref a_t_kinds, .ref a_t_numbers, .int u5.2.1])), (a_t_kinds, .inl (kk 0, 20, .inl u5.2.2.1)), (a_t_numbers, .inl (kk 0, 20, .inl u5.2.2.2)), (a_q1, .inr (2, [.ref a_q1_kinds, .ref a_q1_numbers, .int q1_size])), (a_q1_kinds, .inl (kk 0, 20, .inl q1_kinds)), (a_q1_numbers, .inl (kk 0, 20, .inl q1_numbers))]) (r_V (As := [.int u1, .int u3]) S X hA hP hD hS (c_Pattern_add l D kk st a_t a_t_kinds a_t_numbers _ t_size t_kinds t_numbers u1 u3 u5 e6) gm_2_88 gm_2_224 gm_2_86 gm_2_87 gm_1_4 ⟨rfl, rfl, by decide, by decide⟩ kd_Pattern_add [0, 1, 2] rfl rfl rfl 0 2 rfl rfl rfl rfl hl.1 rfl (Nat.le_of_ble_eq_true rfl) d_Pattern_become_26 ⟨Nat.zero_le _, Nat.zero_le _⟩) hA hP hD hS [0, 1, 2] [3, 4, 5] [3, 4, 5, 0, 1, 2] rfl rfl rfl (by decide) rfl rfl rfl (fun H locs hP hD hS => ?_)
      refine lv_pop hx hb d_Pattern_become_29 rfl ?_
      refine lv_iinc (k := 2) hx hb d_Pattern_become_30 hl rfl (ii_ (v := (1 : Int32)) (by decide)) (by decide) rfl (fun ls hl => ?_)
      have hl : lv_has ls 3 [(2, .int (x2 + (1 : Int32))), (0, .ref a_t), (1, .ref a_q1)] := hl
      refine lv_goto (tgt := 7) hx hb d_Pattern_become_33 rfl ?_
      have hl : lv_has ls 3 [(0, .ref a_t), (1, .ref a_q1), (2, .int (x2 + (1 : Int32)))] := lv_sub hl [1, 2, 0] rfl
      exact ih _ _ _ _ _ _ _ _ he hl hP hD hS K
set_option maxHeartbeats 4000000 in
set_option maxRecDepth 100000 in
theorem c_Pattern_become (l : Launch) (D : va_G) (kk : Nat → ClassId) (st : Nat → Nat) (a_t a_t_kinds a_t_numbers a_q1 a_q1_kinds a_q1_numbers : Nat) (sz : Nat) (t_size : Int32) (t_kinds : Nat → Int32) (t_numbers : Nat → Int32) (q1_size : Int32) (q1_kinds : Nat → Int32) (q1_numbers : Nat → Int32) (o : Int32 × (Nat → Int32) × (Nat → Int32)) (he : f_Pattern_become t_size t_kinds t_numbers q1_size q1_kinds q1_numbers = some o) : Met l y_Pattern_become (Cond.code y_Pattern_become b_Pattern_become 3 none :: GW) rm_Pattern_become (KPc D kk st [.ref a_t, .ref a_q1] [(a_t, .inr (2, [.ref a_t_kinds, .ref a_t_numbers, .int t_size])), (a_t_kinds, .inl (kk 0, 20, .inl t_kinds)), (a_t_numbers, .inl (kk 0, 20, .inl t_numbers)), (a_q1, .inr (2, [.ref a_q1_kinds, .ref a_q1_numbers, .int q1_size])), (a_q1_kinds, .inl (kk 0, 20, .inl q1_kinds)), (a_q1_numbers, .inl (kk 0, 20, .inl q1_numbers))] sz) (KQv D kk [(a_t, .inr (2, [.ref a_t_kinds, .ref a_t_numbers, .int o.1])), (a_t_kinds, .inl (kk 0, 20, .inl o.2.1)), (a_t_numbers, .inl (kk 0, 20, .inl o.2.2)), (a_q1, .inr (2, [.ref a_q1_kinds, .ref a_q1_numbers, .int q1_size])), (a_q1_kinds, .inl (kk 0, 20, .inl q1_kinds)), (a_q1_numbers, .inl (kk 0, 20, .inl q1_numbers))] (va_A [(a_t, .inr (2, [.ref a_t_kinds, .ref a_t_numbers, .int t_size])), (a_t_kinds, .inl (kk 0, 20, .inl t_kinds)), (a_t_numbers, .inl (kk 0, 20, .inl t_numbers)), (a_q1, .inr (2, [.ref a_q1_kinds, .ref a_q1_numbers, .int q1_size])), (a_q1_kinds, .inl (kk 0, 20, .inl q1_kinds)), (a_q1_numbers, .inl (kk 0, 20, .inl q1_numbers))] sz)) 0 0 (va_A [(a_t, .inr (2, [.ref a_t_kinds, .ref a_t_numbers, .int t_size])), (a_t_kinds, .inl (kk 0, 20, .inl t_kinds)), (a_t_numbers, .inl (kk 0, 20, .inl t_numbers)), (a_q1, .inr (2, [.ref a_q1_kinds, .ref a_q1_numbers, .int q1_size])), (a_q1_kinds, .inl (kk 0, 20, .inl q1_kinds)), (a_q1_numbers, .inl (kk 0, 20, .inl q1_numbers))] sz) := by
  refine k_start (Qc := fun A => KQv D kk [(a_t, .inr (2, [.ref a_t_kinds, .ref a_t_numbers, .int o.1])), (a_t_kinds, .inl (kk 0, 20, .inl o.2.1)), (a_t_numbers, .inl (kk 0, 20, .inl o.2.2)), (a_q1, .inr (2, [.ref a_q1_kinds, .ref a_q1_numbers, .int q1_size])), (a_q1_kinds, .inl (kk 0, 20, .inl q1_kinds)), (a_q1_numbers, .inl (kk 0, 20, .inl q1_numbers))] A) (by decide) (Nat.le_of_ble_eq_true rfl) ?_
  intro p e s m below meth c A ls S hnm hr hlk hA X hP hD hS hl
  have hl : lv_has ls 3 [(0, .ref a_t), (1, .ref a_q1)] := hl
  have hx := S.1
  have hb := S.2.1
  unfold f_Pattern_become at he
  refine lv_aload_n hx hb d_Pattern_become_0 rfl (lv_at hl 0 rfl) ?_
  refine lv_iconst (v := (0 : Int32)) hx hb d_Pattern_become_1 (by decide) ?_
  refine k_put S X us_Pattern t_Pattern t_Pattern_ok n_Pattern hP hD hS 0 rfl rfl 2 (by decide) gm_1_62 rfl rfl rfl (Nat.le_of_ble_eq_true rfl) d_Pattern_become_2 (fun H locs hP hD hS => ?_)
  have hP : va_P D classes [(a_t, .inr (2, [.ref a_t_kinds, .ref a_t_numbers, .int (0 : Int32)])), (a_t_kinds, .inl (kk 0, 20, .inl t_kinds)), (a_t_numbers, .inl (kk 0, 20, .inl t_numbers)), (a_q1, .inr (2, [.ref a_q1_kinds, .ref a_q1_numbers, .int q1_size])), (a_q1_kinds, .inl (kk 0, 20, .inl q1_kinds)), (a_q1_numbers, .inl (kk 0, 20, .inl q1_numbers))] H := hP
  have hD : va_D A [(a_t, .inr (2, [.ref a_t_kinds, .ref a_t_numbers, .int (0 : Int32)])), (a_t_kinds, .inl (kk 0, 20, .inl t_kinds)), (a_t_numbers, .inl (kk 0, 20, .inl t_numbers)), (a_q1, .inr (2, [.ref a_q1_kinds, .ref a_q1_numbers, .int q1_size])), (a_q1_kinds, .inl (kk 0, 20, .inl q1_kinds)), (a_q1_numbers, .inl (kk 0, 20, .inl q1_numbers))] := hD
  refine lv_iconst (v := (0 : Int32)) hx hb d_Pattern_become_5 (by decide) ?_
  refine lv_istore_n hx hb d_Pattern_become_6 rfl hl (by decide) rfl (fun ls hl => ?_)
  have hl : lv_has ls 3 [(2, .int (0 : Int32)), (0, .ref a_t), (1, .ref a_q1)] := hl
  obtain ⟨u7, e8, he⟩ := ih_b he
  have hl : lv_has ls 3 [(0, .ref a_t), (1, .ref a_q1), (2, .int (0 : Int32))] := lv_sub hl [1, 2, 0] rfl
  refine w_Pattern_become_7 a_t a_t_kinds a_t_numbers a_q1 a_q1_kinds a_q1_numbers q1_size q1_kinds q1_numbers S hr hlk hA X FU (0 : Int32) (0 : Int32) t_kinds t_numbers u7 _ _ ls e8 hl hP hD hS (fun H locs ls hl hP hD hS => ?_)
  cases he
  exact k_vre hx hb hr hlk X hP hD hS d_Pattern_become_36
abbrev rm_Pattern_endSection : Room := { frames := 0, cells := 0, slots := 0, locals := 0 }
set_option maxHeartbeats 4000000 in
set_option maxRecDepth 100000 in
theorem c_Pattern_endSection (l : Launch) (D : va_G) (kk : Nat → ClassId) (st : Nat → Nat) (a_t a_t_numbers a_t_kinds : Nat) (sz : Nat) (t_size : Int32) (t_numbers : Nat → Int32) (x1 : Int32) (o : (Nat → Int32)) (he : f_Pattern_endSection t_size t_numbers x1 = some o) : Met l y_Pattern_endSection (Cond.code y_Pattern_endSection b_Pattern_endSection 2 none :: GW) rm_Pattern_endSection (KPc D kk st [.ref a_t, .int x1] [(a_t, .inr (2, [.ref a_t_kinds, .ref a_t_numbers, .int t_size])), (a_t_numbers, .inl (kk 0, 20, .inl t_numbers))] sz) (KQv D kk [(a_t, .inr (2, [.ref a_t_kinds, .ref a_t_numbers, .int t_size])), (a_t_numbers, .inl (kk 0, 20, .inl o))] (va_A [(a_t, .inr (2, [.ref a_t_kinds, .ref a_t_numbers, .int t_size])), (a_t_numbers, .inl (kk 0, 20, .inl t_numbers))] sz)) 0 0 (va_A [(a_t, .inr (2, [.ref a_t_kinds, .ref a_t_numbers, .int t_size])), (a_t_numbers, .inl (kk 0, 20, .inl t_numbers))] sz) := by
  refine k_start (Qc := fun A => KQv D kk [(a_t, .inr (2, [.ref a_t_kinds, .ref a_t_numbers, .int t_size])), (a_t_numbers, .inl (kk 0, 20, .inl o))] A) (by decide) (Nat.le_of_ble_eq_true rfl) ?_
  intro p e s m below meth c A ls S hnm hr hlk hA X hP hD hS hl
  have hl : lv_has ls 2 [(0, .ref a_t), (1, .int x1)] := hl
  have hx := S.1
  have hb := S.2.1
  unfold f_Pattern_endSection at he
  refine lv_iload_n hx hb d_Pattern_endSection_0 rfl (lv_at hl 1 rfl) ?_
  refine lv_if_lt (tgt := 22) hx hb d_Pattern_endSection_1 rfl (fun hc => ?_) (fun hc => ?_)
  · have he := ih_t hc he
    cases he
    exact k_vre hx hb hr hlk X hP hD hS d_Pattern_endSection_22
  · have he := ih_f hc he
    refine lv_iload_n hx hb d_Pattern_endSection_4 rfl (lv_at hl 1 rfl) ?_
    refine lv_aload_n hx hb d_Pattern_endSection_5 rfl (lv_at hl 0 rfl) ?_
    refine k_get S X us_Pattern hP 0 rfl rfl 2 (by decide) gm_1_62 rfl d_Pattern_endSection_6 ?_
    refine lv_icmp_ge (tgt := 22) hx hb d_Pattern_endSection_9 rfl (fun hc => ?_) (fun hc => ?_)
    · have he := ih_t hc he
      cases he
      exact k_vre hx hb hr hlk X hP hD hS d_Pattern_endSection_22
    · have he := ih_f hc he
      refine lv_aload_n hx hb d_Pattern_endSection_12 rfl (lv_at hl 0 rfl) ?_
      refine k_get S X us_Pattern hP 0 rfl rfl 1 (by decide) gm_1_61 rfl d_Pattern_endSection_13 ?_
      refine lv_iload_n hx hb d_Pattern_endSection_16 rfl (lv_at hl 1 rfl) ?_
      refine lv_aload_n hx hb d_Pattern_endSection_17 rfl (lv_at hl 0 rfl) ?_
      refine k_get S X us_Pattern hP 0 rfl rfl 2 (by decide) gm_1_62 rfl d_Pattern_endSection_18 ?_
      obtain ⟨hi1, he⟩ := ih_g he
      refine va_iast hx hb X.1 hP hD hS 1 0 rfl rfl hi1 d_Pattern_endSection_21 (fun H locs hP hD hS => ?_)
      have hP : va_P D classes [(a_t, .inr (2, [.ref a_t_kinds, .ref a_t_numbers, .int t_size])), (a_t_numbers, .inl (kk 0, 20, .inl (upd t_numbers (x1).toNatClampNeg t_size)))] H := hP
      have hD : va_D A [(a_t, .inr (2, [.ref a_t_kinds, .ref a_t_numbers, .int t_size])), (a_t_numbers, .inl (kk 0, 20, .inl (upd t_numbers (x1).toNatClampNeg t_size)))] := hD
      cases he
      exact k_vre hx hb hr hlk X hP hD hS d_Pattern_endSection_22
abbrev rm_Pattern_isName : Room := { frames := 1, cells := 0, slots := 0, locals := 21 }
set_option maxHeartbeats 4000000 in
set_option maxRecDepth 100000 in
theorem c_Pattern_isName (l : Launch) (D : va_G) (kk : Nat → ClassId) (st : Nat → Nat) (a_t a_t_kinds a_t_numbers : Nat) (sz : Nat) (t_size : Int32) (t_kinds : Nat → Int32) (t_numbers : Nat → Int32) (x1 : Int32) (o : Int32) (he : f_Pattern_isName t_size t_kinds t_numbers x1 = some o) : Met l y_Pattern_isName (Cond.code y_Pattern_isName b_Pattern_isName 3 (some .boolean) :: GW) rm_Pattern_isName (KPc D kk st [.ref a_t, .int x1] [(a_t, .inr (2, [.ref a_t_kinds, .ref a_t_numbers, .int t_size])), (a_t_kinds, .inl (kk 0, 20, .inl t_kinds)), (a_t_numbers, .inl (kk 0, 20, .inl t_numbers))] sz) (KQi D kk o [(a_t, .inr (2, [.ref a_t_kinds, .ref a_t_numbers, .int t_size])), (a_t_kinds, .inl (kk 0, 20, .inl t_kinds)), (a_t_numbers, .inl (kk 0, 20, .inl t_numbers))] (va_A [(a_t, .inr (2, [.ref a_t_kinds, .ref a_t_numbers, .int t_size])), (a_t_kinds, .inl (kk 0, 20, .inl t_kinds)), (a_t_numbers, .inl (kk 0, 20, .inl t_numbers))] sz)) 0 0 (va_A [(a_t, .inr (2, [.ref a_t_kinds, .ref a_t_numbers, .int t_size])), (a_t_kinds, .inl (kk 0, 20, .inl t_kinds)), (a_t_numbers, .inl (kk 0, 20, .inl t_numbers))] sz) := by
  refine k_start (Qc := fun A => KQi D kk o [(a_t, .inr (2, [.ref a_t_kinds, .ref a_t_numbers, .int t_size])), (a_t_kinds, .inl (kk 0, 20, .inl t_kinds)), (a_t_numbers, .inl (kk 0, 20, .inl t_numbers))] A) (by decide) (Nat.le_of_ble_eq_true rfl) ?_
  intro p e s m below meth c A ls S hnm hr hlk hA X hP hD hS hl
  have hl : lv_has ls 3 [(0, .ref a_t), (1, .int x1)] := hl
  have hx := S.1
  have hb := S.2.1
  unfold f_Pattern_isName at he
  refine lv_aload_n hx hb d_Pattern_isName_0 rfl (lv_at hl 0 rfl) ?_
  refine lv_iload_n hx hb d_Pattern_isName_1 rfl (lv_at hl 1 rfl) ?_
  obtain ⟨u1, e2, he⟩ := ih_b he
  refine k_io (r_V (As := [.int x1]) S X hA hP hD hS (c_Pattern_kind l D kk st a_t a_t_kinds a_t_numbers _ t_size t_kinds x1 u1 e2) gm_2_219 gm_2_216 gm_2_217 gm_2_218 gm_1_4 ⟨rfl, rfl, by decide, by decide⟩ kd_Pattern_kind [0, 1] rfl rfl rfl 0 2 rfl rfl rfl rfl hl.1 rfl (Nat.le_of_ble_eq_true rfl) d_Pattern_isName_2 ⟨Nat.zero_le _, Nat.zero_le _⟩) hA hP hD hS [0, 1] rfl (fun H locs hP hS => ?_)
  refine lv_istore_n hx hb d_Pattern_isName_5 rfl hl (by decide) rfl (fun ls hl => ?_)
  have hl : lv_has ls 3 [(2, .int u1), (0, .ref a_t), (1, .int x1)] := hl
  refine lv_iload_n hx hb d_Pattern_isName_6 rfl (lv_at hl 0 rfl) ?_
  refine lv_iconst (v := (5 : Int32)) hx hb d_Pattern_isName_7 (by decide) ?_
  refine lv_icmp_eq (tgt := 31) hx hb d_Pattern_isName_8 rfl (fun hc => ?_) (fun hc => ?_)
  · have he := ih_t hc he
    refine lv_iconst (v := (1 : Int32)) hx hb d_Pattern_isName_31 (by decide) ?_
    refine lv_goto (tgt := 36) hx hb d_Pattern_isName_32 rfl ?_
    cases he
    exact k_zre hx hb hr hlk X hP hD hS (Or.inr rfl) d_Pattern_isName_36
  · have he := ih_f hc he
    refine lv_iload_n hx hb d_Pattern_isName_11 rfl (lv_at hl 0 rfl) ?_
    refine lv_bipush (v := (9 : Int32)) hx hb d_Pattern_isName_12 (by decide) ?_
    refine lv_icmp_eq (tgt := 31) hx hb d_Pattern_isName_14 rfl (fun hc => ?_) (fun hc => ?_)
    · have he := ih_t hc he
      refine lv_iconst (v := (1 : Int32)) hx hb d_Pattern_isName_31 (by decide) ?_
      refine lv_goto (tgt := 36) hx hb d_Pattern_isName_32 rfl ?_
      cases he
      exact k_zre hx hb hr hlk X hP hD hS (Or.inr rfl) d_Pattern_isName_36
    · have he := ih_f hc he
      refine lv_iload_n hx hb d_Pattern_isName_17 rfl (lv_at hl 0 rfl) ?_
      refine lv_iconst (v := (2 : Int32)) hx hb d_Pattern_isName_18 (by decide) ?_
      refine lv_icmp_ne (tgt := 35) hx hb d_Pattern_isName_19 rfl (fun hc => ?_) (fun hc => ?_)
      · have he := ih_f hc he
        refine lv_iconst (v := (0 : Int32)) hx hb d_Pattern_isName_35 (by decide) ?_
        cases he
        exact k_zre hx hb hr hlk X hP hD hS (Or.inl rfl) d_Pattern_isName_36
      · have he := ih_t hc he
        refine lv_aload_n hx hb d_Pattern_isName_22 rfl (lv_at hl 1 rfl) ?_
        refine lv_iload_n hx hb d_Pattern_isName_23 rfl (lv_at hl 2 rfl) ?_
        obtain ⟨u3, e4, he⟩ := ih_b he
        refine k_io (r_V (As := [.int x1]) S X hA hP hD hS (c_Pattern_number l D kk st a_t a_t_numbers a_t_kinds _ t_size t_numbers x1 u3 e4) gm_2_223 gm_2_220 gm_2_221 gm_2_222 gm_1_4 ⟨rfl, rfl, by decide, by decide⟩ kd_Pattern_number [0, 2] rfl rfl rfl 0 2 rfl rfl rfl rfl hl.1 rfl (Nat.le_of_ble_eq_true rfl) d_Pattern_isName_24 ⟨Nat.zero_le _, Nat.zero_le _⟩) hA hP hD hS [0, 2] rfl (fun H locs hP hS => ?_)
        refine lv_iconst (v := (2 : Int32)) hx hb d_Pattern_isName_27 (by decide) ?_
        refine lv_icmp_le (tgt := 35) hx hb d_Pattern_isName_28 rfl (fun hc => ?_) (fun hc => ?_)
        · have he := ih_t hc he
          refine lv_iconst (v := (0 : Int32)) hx hb d_Pattern_isName_35 (by decide) ?_
          cases he
          exact k_zre hx hb hr hlk X hP hD hS (Or.inl rfl) d_Pattern_isName_36
        · have he := ih_f hc he
          refine lv_iconst (v := (1 : Int32)) hx hb d_Pattern_isName_31 (by decide) ?_
          refine lv_goto (tgt := 36) hx hb d_Pattern_isName_32 rfl ?_
          cases he
          exact k_zre hx hb hr hlk X hP hD hS (Or.inr rfl) d_Pattern_isName_36
abbrev rm_Pattern_isFixed : Room := { frames := 1, cells := 0, slots := 0, locals := 21 }
set_option maxHeartbeats 4000000 in
set_option maxRecDepth 100000 in
theorem c_Pattern_isFixed (l : Launch) (D : va_G) (kk : Nat → ClassId) (st : Nat → Nat) (a_t a_t_kinds a_t_numbers : Nat) (sz : Nat) (t_size : Int32) (t_kinds : Nat → Int32) (t_numbers : Nat → Int32) (x1 : Int32) (o : Int32) (he : f_Pattern_isFixed t_size t_kinds t_numbers x1 = some o) : Met l y_Pattern_isFixed (Cond.code y_Pattern_isFixed b_Pattern_isFixed 3 (some .boolean) :: GW) rm_Pattern_isFixed (KPc D kk st [.ref a_t, .int x1] [(a_t, .inr (2, [.ref a_t_kinds, .ref a_t_numbers, .int t_size])), (a_t_kinds, .inl (kk 0, 20, .inl t_kinds)), (a_t_numbers, .inl (kk 0, 20, .inl t_numbers))] sz) (KQi D kk o [(a_t, .inr (2, [.ref a_t_kinds, .ref a_t_numbers, .int t_size])), (a_t_kinds, .inl (kk 0, 20, .inl t_kinds)), (a_t_numbers, .inl (kk 0, 20, .inl t_numbers))] (va_A [(a_t, .inr (2, [.ref a_t_kinds, .ref a_t_numbers, .int t_size])), (a_t_kinds, .inl (kk 0, 20, .inl t_kinds)), (a_t_numbers, .inl (kk 0, 20, .inl t_numbers))] sz)) 0 0 (va_A [(a_t, .inr (2, [.ref a_t_kinds, .ref a_t_numbers, .int t_size])), (a_t_kinds, .inl (kk 0, 20, .inl t_kinds)), (a_t_numbers, .inl (kk 0, 20, .inl t_numbers))] sz) := by
  refine k_start (Qc := fun A => KQi D kk o [(a_t, .inr (2, [.ref a_t_kinds, .ref a_t_numbers, .int t_size])), (a_t_kinds, .inl (kk 0, 20, .inl t_kinds)), (a_t_numbers, .inl (kk 0, 20, .inl t_numbers))] A) (by decide) (Nat.le_of_ble_eq_true rfl) ?_
  intro p e s m below meth c A ls S hnm hr hlk hA X hP hD hS hl
  have hl : lv_has ls 3 [(0, .ref a_t), (1, .int x1)] := hl
  have hx := S.1
  have hb := S.2.1
  unfold f_Pattern_isFixed at he
  refine lv_aload_n hx hb d_Pattern_isFixed_0 rfl (lv_at hl 0 rfl) ?_
  refine lv_iload_n hx hb d_Pattern_isFixed_1 rfl (lv_at hl 1 rfl) ?_
  obtain ⟨u1, e2, he⟩ := ih_b he
  refine k_io (r_V (As := [.int x1]) S X hA hP hD hS (c_Pattern_kind l D kk st a_t a_t_kinds a_t_numbers _ t_size t_kinds x1 u1 e2) gm_2_219 gm_2_216 gm_2_217 gm_2_218 gm_1_4 ⟨rfl, rfl, by decide, by decide⟩ kd_Pattern_kind [0, 1] rfl rfl rfl 0 2 rfl rfl rfl rfl hl.1 rfl (Nat.le_of_ble_eq_true rfl) d_Pattern_isFixed_2 ⟨Nat.zero_le _, Nat.zero_le _⟩) hA hP hD hS [0, 1] rfl (fun H locs hP hS => ?_)
  refine lv_istore_n hx hb d_Pattern_isFixed_5 rfl hl (by decide) rfl (fun ls hl => ?_)
  have hl : lv_has ls 3 [(2, .int u1), (0, .ref a_t), (1, .int x1)] := hl
  refine lv_iload_n hx hb d_Pattern_isFixed_6 rfl (lv_at hl 0 rfl) ?_
  refine lv_bipush (v := (12 : Int32)) hx hb d_Pattern_isFixed_7 (by decide) ?_
  refine lv_icmp_ne (tgt := 14) hx hb d_Pattern_isFixed_9 rfl (fun hc => ?_) (fun hc => ?_)
  · have he := ih_f hc he
    refine lv_iload_n hx hb d_Pattern_isFixed_14 rfl (lv_at hl 0 rfl) ?_
    refine lv_if_lt (tgt := 46) hx hb d_Pattern_isFixed_15 rfl (fun hc => ?_) (fun hc => ?_)
    · have he := ih_t hc he
      refine lv_iconst (v := (0 : Int32)) hx hb d_Pattern_isFixed_46 (by decide) ?_
      cases he
      exact k_zre hx hb hr hlk X hP hD hS (Or.inl rfl) d_Pattern_isFixed_47
    · have he := ih_f hc he
      refine lv_iload_n hx hb d_Pattern_isFixed_18 rfl (lv_at hl 0 rfl) ?_
      refine lv_bipush (v := (12 : Int32)) hx hb d_Pattern_isFixed_19 (by decide) ?_
      refine lv_icmp_ge (tgt := 46) hx hb d_Pattern_isFixed_21 rfl (fun hc => ?_) (fun hc => ?_)
      · have he := ih_t hc he
        refine lv_iconst (v := (0 : Int32)) hx hb d_Pattern_isFixed_46 (by decide) ?_
        cases he
        exact k_zre hx hb hr hlk X hP hD hS (Or.inl rfl) d_Pattern_isFixed_47
      · have he := ih_f hc he
        refine lv_aload_n hx hb d_Pattern_isFixed_24 rfl (lv_at hl 1 rfl) ?_
        refine lv_iload_n hx hb d_Pattern_isFixed_25 rfl (lv_at hl 2 rfl) ?_
        obtain ⟨u3, e4, he⟩ := ih_b he
        refine k_io (r_V (As := [.int x1]) S X hA hP hD hS (c_Pattern_number l D kk st a_t a_t_numbers a_t_kinds _ t_size t_numbers x1 u3 e4) gm_2_223 gm_2_220 gm_2_221 gm_2_222 gm_1_4 ⟨rfl, rfl, by decide, by decide⟩ kd_Pattern_number [0, 2] rfl rfl rfl 0 2 rfl rfl rfl rfl hl.1 rfl (Nat.le_of_ble_eq_true rfl) d_Pattern_isFixed_26 ⟨Nat.zero_le _, Nat.zero_le _⟩) hA hP hD hS [0, 2] rfl (fun H locs hP hS => ?_)
        refine lv_iload_n hx hb d_Pattern_isFixed_29 rfl (lv_at hl 0 rfl) ?_
        refine lv_iconst (v := (4 : Int32)) hx hb d_Pattern_isFixed_30 (by decide) ?_
        refine lv_icmp_ne (tgt := 38) hx hb d_Pattern_isFixed_31 rfl (fun hc => ?_) (fun hc => ?_)
        · have he := ih_f hc he
          refine lv_iconst (v := (2 : Int32)) hx hb d_Pattern_isFixed_38 (by decide) ?_
          refine lv_icmp_ne (tgt := 46) hx hb d_Pattern_isFixed_39 rfl (fun hc => ?_) (fun hc => ?_)
          · have he := ih_f hc he
            refine lv_iconst (v := (0 : Int32)) hx hb d_Pattern_isFixed_46 (by decide) ?_
            cases he
            exact k_zre hx hb hr hlk X hP hD hS (Or.inl rfl) d_Pattern_isFixed_47
          · have he := ih_t hc he
            refine lv_iconst (v := (1 : Int32)) hx hb d_Pattern_isFixed_42 (by decide) ?_
            refine lv_goto (tgt := 47) hx hb d_Pattern_isFixed_43 rfl ?_
            cases he
            exact k_zre hx hb hr hlk X hP hD hS (Or.inr rfl) d_Pattern_isFixed_47
        · have he := ih_t hc he
          refine lv_iconst (v := (3 : Int32)) hx hb d_Pattern_isFixed_34 (by decide) ?_
          refine lv_goto (tgt := 39) hx hb d_Pattern_isFixed_35 rfl ?_
          refine lv_icmp_ne (tgt := 46) hx hb d_Pattern_isFixed_39 rfl (fun hc => ?_) (fun hc => ?_)
          · have he := ih_f hc he
            refine lv_iconst (v := (0 : Int32)) hx hb d_Pattern_isFixed_46 (by decide) ?_
            cases he
            exact k_zre hx hb hr hlk X hP hD hS (Or.inl rfl) d_Pattern_isFixed_47
          · have he := ih_t hc he
            refine lv_iconst (v := (1 : Int32)) hx hb d_Pattern_isFixed_42 (by decide) ?_
            refine lv_goto (tgt := 47) hx hb d_Pattern_isFixed_43 rfl ?_
            cases he
            exact k_zre hx hb hr hlk X hP hD hS (Or.inr rfl) d_Pattern_isFixed_47
  · have he := ih_t hc he
    refine lv_iconst (v := (1 : Int32)) hx hb d_Pattern_isFixed_12 (by decide) ?_
    cases he
    exact k_zre hx hb hr hlk X hP hD hS (Or.inr rfl) d_Pattern_isFixed_13
abbrev rm_Pattern_fixedBehind : Room := { frames := 2, cells := 0, slots := 0, locals := 43 }
set_option maxHeartbeats 4000000 in
set_option maxRecDepth 100000 in
theorem w_Pattern_fixedBehind_7 {p : Program} {l : Launch} {e : Env} {s : State} {m : MethodId} {args : Array Value} {below : List Frame} {meth : Method} {c : Code} {Q : State → Prop} {A : Nat → Prop} {D : va_G} {kk : Nat → ClassId} {st : Nat → Nat} (a_t a_t_kinds a_t_numbers : Nat) (t_size : Int32) (t_kinds : Nat → Int32) (t_numbers : Nat → Int32) (x2 : Int32) (S : CallFix p m c b_Pattern_fixedBehind 5 s args GW y_Pattern_fixedBehind.cls) (hr : meth.sig.returnType = (some .int)) (hlk : meth.locks = false) (hA : ∀ q, s.heap.size ≤ q → A q) (X : KX D kk st A s) : ∀ (n : Nat) (x3 : Int32) (x4 : Int32) (v : Int32 × Int32) (H : Heap) (locs : List Loc) (ls : Array Slot), lp_Pattern_fixedBehind_7 t_size t_kinds t_numbers x2 n x3 x4 = some v → lv_has ls 5 [(0, .ref a_t), (2, .int x2), (3, .int x3), (4, .int x4)] → va_P D classes [(a_t, .inr (2, [.ref a_t_kinds, .ref a_t_numbers, .int t_size])), (a_t_kinds, .inl (kk 0, 20, .inl t_kinds)), (a_t_numbers, .inl (kk 0, 20, .inl t_numbers))] H → va_D A [(a_t, .inr (2, [.ref a_t_kinds, .ref a_t_numbers, .int t_size])), (a_t_kinds, .inl (kk 0, 20, .inl t_kinds)), (a_t_numbers, .inl (kk 0, 20, .inl t_numbers))] → va_S A s.heap H locs → (∀ (H : Heap) (locs : List Loc) (ls : Array Slot), lv_has ls 5 [(0, .ref a_t), (2, .int x2), (3, .int v.1), (4, .int v.2)] → va_P D classes [(a_t, .inr (2, [.ref a_t_kinds, .ref a_t_numbers, .int t_size])), (a_t_kinds, .inl (kk 0, 20, .inl t_kinds)), (a_t_numbers, .inl (kk 0, 20, .inl t_numbers))] H → va_D A [(a_t, .inr (2, [.ref a_t_kinds, .ref a_t_numbers, .int t_size])), (a_t_kinds, .inl (kk 0, 20, .inl t_kinds)), (a_t_numbers, .inl (kk 0, 20, .inl t_numbers))] → va_S A s.heap H locs → W p l e rm_Pattern_fixedBehind s m args below meth c H locs 0 0 Q (F0 m 37 ls [])) → W p l e rm_Pattern_fixedBehind s m args below meth c H locs 0 0 Q (F0 m 7 ls []) := by
  intro n
  induction n with
  | zero =>
    intro x3 x4 v H locs ls he hl hP hD hS K
    exact ih_n he
  | succ n ih =>
    intro x3 x4 v H locs ls he hl hP hD hS K
    have hx := S.1
    have hb := S.2.1
    have he : st_Pattern_fixedBehind_7 t_size t_kinds t_numbers x2 (lp_Pattern_fixedBehind_7 t_size t_kinds t_numbers x2 n) x3 x4 = some v := he
    unfold st_Pattern_fixedBehind_7 at he
    refine lv_iload hx hb d_Pattern_fixedBehind_7 (lv_at hl 3 rfl) ?_
    refine lv_iload_n hx hb d_Pattern_fixedBehind_9 rfl (lv_at hl 1 rfl) ?_
    refine lv_icmp_ge (tgt := 37) hx hb d_Pattern_fixedBehind_10 rfl (fun hc => ?_) (fun hc => ?_)
    · have he := ih_t hc he
      have hl : lv_has ls 5 [(0, .ref a_t), (2, .int x2), (3, .int x3), (4, .int x4)] := lv_sub hl [0, 1, 2, 3] rfl
      cases he
      exact K _ _ _ hl hP hD hS
    · have he := ih_f hc he
      refine lv_aload_n hx hb d_Pattern_fixedBehind_13 rfl (lv_at hl 0 rfl) ?_
      refine lv_iload hx hb d_Pattern_fixedBehind_14 (lv_at hl 3 rfl) ?_
      obtain ⟨u1, e2, he⟩ := ih_b he
      refine k_io (r_V (As := [.int x4]) S X hA hP hD hS (c_Pattern_isFixed l D kk st a_t a_t_kinds a_t_numbers _ t_size t_kinds t_numbers x4 u1 e2) gm_3_238 gm_4_17 gm_3_236 gm_3_237 gm_1_4 ⟨rfl, rfl, by decide, by decide⟩ kd_Pattern_isFixed [0, 1, 2] rfl rfl rfl 0 2 rfl rfl rfl rfl hl.1 rfl (Nat.le_of_ble_eq_true rfl) d_Pattern_fixedBehind_16 ⟨Nat.zero_le _, Nat.zero_le _⟩) hA hP hD hS [0, 1, 2] rfl (fun H locs hP hS => ?_)
      refine lv_if_eq (tgt := 37) hx hb d_Pattern_fixedBehind_19 rfl (fun hc => ?_) (fun hc => ?_)
      · have he := ih_t hc he
        have hl : lv_has ls 5 [(0, .ref a_t), (2, .int x2), (3, .int x3), (4, .int x4)] := lv_sub hl [0, 1, 2, 3] rfl
        cases he
        exact K _ _ _ hl hP hD hS
      · have he := ih_f hc he
        refine lv_iload_n hx hb d_Pattern_fixedBehind_22 rfl (lv_at hl 2 rfl) ?_
        refine lv_aload_n hx hb d_Pattern_fixedBehind_23 rfl (lv_at hl 0 rfl) ?_
        refine lv_iload hx hb d_Pattern_fixedBehind_24 (lv_at hl 3 rfl) ?_
        obtain ⟨u3, e4, he⟩ := ih_b he
        refine k_io (r_V (As := [.int x4]) S X hA hP hD hS (c_Pattern_number l D kk st a_t a_t_numbers a_t_kinds _ t_size t_numbers x4 u3 e4) gm_2_223 gm_2_220 gm_2_221 gm_2_222 gm_1_4 ⟨rfl, rfl, by decide, by decide⟩ kd_Pattern_number [0, 2] rfl rfl rfl 0 2 rfl rfl rfl rfl hl.1 rfl (Nat.le_of_ble_eq_true rfl) d_Pattern_fixedBehind_26 ⟨Nat.zero_le _, Nat.zero_le _⟩) hA hP hD hS [0, 2] rfl (fun H locs hP hS => ?_)
        refine lv_iadd hx hb d_Pattern_fixedBehind_29 ?_
        refine lv_istore_n hx hb d_Pattern_fixedBehind_30 rfl hl (by decide) rfl (fun ls hl => ?_)
        have hl : lv_has ls 5 [(3, .int (x3 + u3)), (0, .ref a_t), (2, .int x2), (4, .int x4)] := hl
        refine lv_iinc (k := 3) hx hb d_Pattern_fixedBehind_31 hl rfl (ii_ (v := (1 : Int32)) (by decide)) (by decide) rfl (fun ls hl => ?_)
        have hl : lv_has ls 5 [(4, .int (x4 + (1 : Int32))), (3, .int (x3 + u3)), (0, .ref a_t), (2, .int x2)] := hl
        refine lv_goto (tgt := 7) hx hb d_Pattern_fixedBehind_34 rfl ?_
        have hl : lv_has ls 5 [(0, .ref a_t), (2, .int x2), (3, .int (x3 + u3)), (4, .int (x4 + (1 : Int32)))] := lv_sub hl [2, 3, 1, 0] rfl
        exact ih _ _ _ _ _ _ he hl hP hD hS K
set_option maxHeartbeats 4000000 in
set_option maxRecDepth 100000 in
theorem c_Pattern_fixedBehind (l : Launch) (D : va_G) (kk : Nat → ClassId) (st : Nat → Nat) (a_t a_t_kinds a_t_numbers : Nat) (sz : Nat) (t_size : Int32) (t_kinds : Nat → Int32) (t_numbers : Nat → Int32) (x1 : Int32) (x2 : Int32) (o : Int32) (he : f_Pattern_fixedBehind t_size t_kinds t_numbers x1 x2 = some o) : Met l y_Pattern_fixedBehind (Cond.code y_Pattern_fixedBehind b_Pattern_fixedBehind 5 (some .int) :: GW) rm_Pattern_fixedBehind (KPc D kk st [.ref a_t, .int x1, .int x2] [(a_t, .inr (2, [.ref a_t_kinds, .ref a_t_numbers, .int t_size])), (a_t_kinds, .inl (kk 0, 20, .inl t_kinds)), (a_t_numbers, .inl (kk 0, 20, .inl t_numbers))] sz) (KQi D kk o [(a_t, .inr (2, [.ref a_t_kinds, .ref a_t_numbers, .int t_size])), (a_t_kinds, .inl (kk 0, 20, .inl t_kinds)), (a_t_numbers, .inl (kk 0, 20, .inl t_numbers))] (va_A [(a_t, .inr (2, [.ref a_t_kinds, .ref a_t_numbers, .int t_size])), (a_t_kinds, .inl (kk 0, 20, .inl t_kinds)), (a_t_numbers, .inl (kk 0, 20, .inl t_numbers))] sz)) 0 0 (va_A [(a_t, .inr (2, [.ref a_t_kinds, .ref a_t_numbers, .int t_size])), (a_t_kinds, .inl (kk 0, 20, .inl t_kinds)), (a_t_numbers, .inl (kk 0, 20, .inl t_numbers))] sz) := by
  refine k_start (Qc := fun A => KQi D kk o [(a_t, .inr (2, [.ref a_t_kinds, .ref a_t_numbers, .int t_size])), (a_t_kinds, .inl (kk 0, 20, .inl t_kinds)), (a_t_numbers, .inl (kk 0, 20, .inl t_numbers))] A) (by decide) (Nat.le_of_ble_eq_true rfl) ?_
  intro p e s m below meth c A ls S hnm hr hlk hA X hP hD hS hl
  have hl : lv_has ls 5 [(0, .ref a_t), (1, .int x1), (2, .int x2)] := hl
  have hx := S.1
  have hb := S.2.1
  unfold f_Pattern_fixedBehind at he
  refine lv_iconst (v := (0 : Int32)) hx hb d_Pattern_fixedBehind_0 (by decide) ?_
  refine lv_istore_n hx hb d_Pattern_fixedBehind_1 rfl hl (by decide) rfl (fun ls hl => ?_)
  have hl : lv_has ls 5 [(3, .int (0 : Int32)), (0, .ref a_t), (1, .int x1), (2, .int x2)] := hl
  refine lv_iload_n hx hb d_Pattern_fixedBehind_2 rfl (lv_at hl 2 rfl) ?_
  refine lv_iconst (v := (1 : Int32)) hx hb d_Pattern_fixedBehind_3 (by decide) ?_
  refine lv_iadd hx hb d_Pattern_fixedBehind_4 ?_
  refine lv_istore hx hb d_Pattern_fixedBehind_5 hl (by decide) rfl (fun ls hl => ?_)
  have hl : lv_has ls 5 [(4, .int (x1 + (1 : Int32))), (3, .int (0 : Int32)), (0, .ref a_t), (1, .int x1), (2, .int x2)] := hl
  obtain ⟨u5, e6, he⟩ := ih_b he
  have hl : lv_has ls 5 [(0, .ref a_t), (2, .int x2), (3, .int (0 : Int32)), (4, .int (x1 + (1 : Int32)))] := lv_sub hl [2, 4, 1, 0] rfl
  refine w_Pattern_fixedBehind_7 a_t a_t_kinds a_t_numbers t_size t_kinds t_numbers x2 S hr hlk hA X FU (0 : Int32) (x1 + (1 : Int32)) u5 _ _ ls e6 hl hP hD hS (fun H locs ls hl hP hD hS => ?_)
  refine lv_iload_n hx hb d_Pattern_fixedBehind_37 rfl (lv_at hl 2 rfl) ?_
  cases he
  exact k_ire hx hb hr hlk X hP hD hS d_Pattern_fixedBehind_38
abbrev rm_Pattern_firstCount : Room := { frames := 1, cells := 0, slots := 0, locals := 21 }
set_option maxHeartbeats 4000000 in
set_option maxRecDepth 100000 in
theorem w_Pattern_firstCount_2 {p : Program} {l : Launch} {e : Env} {s : State} {m : MethodId} {args : Array Value} {below : List Frame} {meth : Method} {c : Code} {Q : State → Prop} {A : Nat → Prop} {D : va_G} {kk : Nat → ClassId} {st : Nat → Nat} (a_t a_t_kinds a_t_numbers : Nat) (t_size : Int32) (t_kinds : Nat → Int32) (t_numbers : Nat → Int32) (x1 : Int32) (S : CallFix p m c b_Pattern_firstCount 3 s args GW y_Pattern_firstCount.cls) (hr : meth.sig.returnType = (some .int)) (hlk : meth.locks = false) (hA : ∀ q, s.heap.size ≤ q → A q) (X : KX D kk st A s) : ∀ (n : Nat) (x2 : Int32) (v : (Int32) ⊕ (Int32)) (H : Heap) (locs : List Loc) (ls : Array Slot), lp_Pattern_firstCount_2 t_size t_kinds t_numbers x1 n x2 = some v → lv_has ls 3 [(0, .ref a_t), (1, .int x1), (2, .int x2)] → va_P D classes [(a_t, .inr (2, [.ref a_t_kinds, .ref a_t_numbers, .int t_size])), (a_t_kinds, .inl (kk 0, 20, .inl t_kinds)), (a_t_numbers, .inl (kk 0, 20, .inl t_numbers))] H → va_D A [(a_t, .inr (2, [.ref a_t_kinds, .ref a_t_numbers, .int t_size])), (a_t_kinds, .inl (kk 0, 20, .inl t_kinds)), (a_t_numbers, .inl (kk 0, 20, .inl t_numbers))] → va_S A s.heap H locs → (∀ o : Int32, v = .inl o → Q = MQ below (KQi D kk o [(a_t, .inr (2, [.ref a_t_kinds, .ref a_t_numbers, .int t_size])), (a_t_kinds, .inl (kk 0, 20, .inl t_kinds)), (a_t_numbers, .inl (kk 0, 20, .inl t_numbers))] A) args s 0 0 A) → (∀ v' : Int32, v = .inr v' → ∀ (H : Heap) (locs : List Loc) (ls : Array Slot), lv_has ls 3 [(0, .ref a_t), (1, .int x1), (2, .int v')] → va_P D classes [(a_t, .inr (2, [.ref a_t_kinds, .ref a_t_numbers, .int t_size])), (a_t_kinds, .inl (kk 0, 20, .inl t_kinds)), (a_t_numbers, .inl (kk 0, 20, .inl t_numbers))] H → va_D A [(a_t, .inr (2, [.ref a_t_kinds, .ref a_t_numbers, .int t_size])), (a_t_kinds, .inl (kk 0, 20, .inl t_kinds)), (a_t_numbers, .inl (kk 0, 20, .inl t_numbers))] → va_S A s.heap H locs → W p l e rm_Pattern_firstCount s m args below meth c H locs 0 0 Q (F0 m 31 ls [])) → W p l e rm_Pattern_firstCount s m args below meth c H locs 0 0 Q (F0 m 2 ls []) := by
  intro n
  induction n with
  | zero =>
    intro x2 v H locs ls he hl hP hD hS hret K
    exact ih_n he
  | succ n ih =>
    intro x2 v H locs ls he hl hP hD hS hret K
    have hx := S.1
    have hb := S.2.1
    have he : st_Pattern_firstCount_2 t_size t_kinds t_numbers x1 (lp_Pattern_firstCount_2 t_size t_kinds t_numbers x1 n) x2 = some v := he
    unfold st_Pattern_firstCount_2 at he
    refine lv_iload_n hx hb d_Pattern_firstCount_2 rfl (lv_at hl 2 rfl) ?_
    refine lv_aload_n hx hb d_Pattern_firstCount_3 rfl (lv_at hl 0 rfl) ?_
    refine k_get S X us_Pattern hP 0 rfl rfl 2 (by decide) gm_1_62 rfl d_Pattern_firstCount_4 ?_
    refine lv_icmp_ge (tgt := 31) hx hb d_Pattern_firstCount_7 rfl (fun hc => ?_) (fun hc => ?_)
    · have he := ih_t hc he
      have hl : lv_has ls 3 [(0, .ref a_t), (1, .int x1), (2, .int x2)] := lv_sub hl [0, 1, 2] rfl
      cases he
      exact K _ rfl _ _ _ hl hP hD hS
    · have he := ih_f hc he
      refine lv_aload_n hx hb d_Pattern_firstCount_10 rfl (lv_at hl 0 rfl) ?_
      refine lv_iload_n hx hb d_Pattern_firstCount_11 rfl (lv_at hl 2 rfl) ?_
      obtain ⟨u1, e2, he⟩ := ih_b he
      refine k_io (r_V (As := [.int x2]) S X hA hP hD hS (c_Pattern_kind l D kk st a_t a_t_kinds a_t_numbers _ t_size t_kinds x2 u1 e2) gm_2_219 gm_2_216 gm_2_217 gm_2_218 gm_1_4 ⟨rfl, rfl, by decide, by decide⟩ kd_Pattern_kind [0, 1] rfl rfl rfl 0 2 rfl rfl rfl rfl hl.1 rfl (Nat.le_of_ble_eq_true rfl) d_Pattern_firstCount_12 ⟨Nat.zero_le _, Nat.zero_le _⟩) hA hP hD hS [0, 1] rfl (fun H locs hP hS => ?_)
      refine lv_iload_n hx hb d_Pattern_firstCount_15 rfl (lv_at hl 1 rfl) ?_
      refine lv_icmp_ne (tgt := 25) hx hb d_Pattern_firstCount_16 rfl (fun hc => ?_) (fun hc => ?_)
      · have he := ih_f hc he
        refine lv_iinc (k := 2) hx hb d_Pattern_firstCount_25 hl rfl (ii_ (v := (1 : Int32)) (by decide)) (by decide) rfl (fun ls hl => ?_)
        have hl : lv_has ls 3 [(2, .int (x2 + (1 : Int32))), (0, .ref a_t), (1, .int x1)] := hl
        refine lv_goto (tgt := 2) hx hb d_Pattern_firstCount_28 rfl ?_
        have hl : lv_has ls 3 [(0, .ref a_t), (1, .int x1), (2, .int (x2 + (1 : Int32)))] := lv_sub hl [1, 2, 0] rfl
        exact ih _ _ _ _ _ he hl hP hD hS hret K
      · have he := ih_t hc he
        refine lv_aload_n hx hb d_Pattern_firstCount_19 rfl (lv_at hl 0 rfl) ?_
        refine lv_iload_n hx hb d_Pattern_firstCount_20 rfl (lv_at hl 2 rfl) ?_
        obtain ⟨u3, e4, he⟩ := ih_b he
        refine k_io (r_V (As := [.int x2]) S X hA hP hD hS (c_Pattern_number l D kk st a_t a_t_numbers a_t_kinds _ t_size t_numbers x2 u3 e4) gm_2_223 gm_2_220 gm_2_221 gm_2_222 gm_1_4 ⟨rfl, rfl, by decide, by decide⟩ kd_Pattern_number [0, 2] rfl rfl rfl 0 2 rfl rfl rfl rfl hl.1 rfl (Nat.le_of_ble_eq_true rfl) d_Pattern_firstCount_21 ⟨Nat.zero_le _, Nat.zero_le _⟩) hA hP hD hS [0, 2] rfl (fun H locs hP hS => ?_)
        cases he
        have hq := hret _ rfl
        subst hq
        exact k_ire hx hb hr hlk X hP hD hS d_Pattern_firstCount_24
set_option maxHeartbeats 4000000 in
set_option maxRecDepth 100000 in
theorem c_Pattern_firstCount (l : Launch) (D : va_G) (kk : Nat → ClassId) (st : Nat → Nat) (a_t a_t_kinds a_t_numbers : Nat) (sz : Nat) (t_size : Int32) (t_kinds : Nat → Int32) (t_numbers : Nat → Int32) (x1 : Int32) (o : Int32) (he : f_Pattern_firstCount t_size t_kinds t_numbers x1 = some o) : Met l y_Pattern_firstCount (Cond.code y_Pattern_firstCount b_Pattern_firstCount 3 (some .int) :: GW) rm_Pattern_firstCount (KPc D kk st [.ref a_t, .int x1] [(a_t, .inr (2, [.ref a_t_kinds, .ref a_t_numbers, .int t_size])), (a_t_kinds, .inl (kk 0, 20, .inl t_kinds)), (a_t_numbers, .inl (kk 0, 20, .inl t_numbers))] sz) (KQi D kk o [(a_t, .inr (2, [.ref a_t_kinds, .ref a_t_numbers, .int t_size])), (a_t_kinds, .inl (kk 0, 20, .inl t_kinds)), (a_t_numbers, .inl (kk 0, 20, .inl t_numbers))] (va_A [(a_t, .inr (2, [.ref a_t_kinds, .ref a_t_numbers, .int t_size])), (a_t_kinds, .inl (kk 0, 20, .inl t_kinds)), (a_t_numbers, .inl (kk 0, 20, .inl t_numbers))] sz)) 0 0 (va_A [(a_t, .inr (2, [.ref a_t_kinds, .ref a_t_numbers, .int t_size])), (a_t_kinds, .inl (kk 0, 20, .inl t_kinds)), (a_t_numbers, .inl (kk 0, 20, .inl t_numbers))] sz) := by
  refine k_start (Qc := fun A => KQi D kk o [(a_t, .inr (2, [.ref a_t_kinds, .ref a_t_numbers, .int t_size])), (a_t_kinds, .inl (kk 0, 20, .inl t_kinds)), (a_t_numbers, .inl (kk 0, 20, .inl t_numbers))] A) (by decide) (Nat.le_of_ble_eq_true rfl) ?_
  intro p e s m below meth c A ls S hnm hr hlk hA X hP hD hS hl
  have hl : lv_has ls 3 [(0, .ref a_t), (1, .int x1)] := hl
  have hx := S.1
  have hb := S.2.1
  unfold f_Pattern_firstCount at he
  refine lv_iconst (v := (0 : Int32)) hx hb d_Pattern_firstCount_0 (by decide) ?_
  refine lv_istore_n hx hb d_Pattern_firstCount_1 rfl hl (by decide) rfl (fun ls hl => ?_)
  have hl : lv_has ls 3 [(2, .int (0 : Int32)), (0, .ref a_t), (1, .int x1)] := hl
  obtain ⟨u5, e6, he⟩ := ih_b he
  have hl : lv_has ls 3 [(0, .ref a_t), (1, .int x1), (2, .int (0 : Int32))] := lv_sub hl [1, 2, 0] rfl
  rcases u5 with o7 | v8
  · have he := sel_l he
    cases he
    exact w_Pattern_firstCount_2 a_t a_t_kinds a_t_numbers t_size t_kinds t_numbers x1 S hr hlk hA X FU (0 : Int32) _ _ _ ls e6 hl hP hD hS (fun o h => by cases h; rfl) (fun v h => by cases h)
  · have he := sel_r he
    refine w_Pattern_firstCount_2 a_t a_t_kinds a_t_numbers t_size t_kinds t_numbers x1 S hr hlk hA X FU (0 : Int32) _ _ _ ls e6 hl hP hD hS (fun o h => by cases h) (fun v h H locs ls hl hP hD hS => ?_)
    have h := Sum.inr.inj h
    subst h
    refine lv_iconst (v := (0 : Int32)) hx hb d_Pattern_firstCount_31 (by decide) ?_
    cases he
    exact k_ire hx hb hr hlk X hP hD hS d_Pattern_firstCount_32
abbrev rm_Pattern_isWish : Room := { frames := 1, cells := 0, slots := 0, locals := 21 }
set_option maxHeartbeats 4000000 in
set_option maxRecDepth 100000 in
theorem w_Pattern_isWish_4 {p : Program} {l : Launch} {e : Env} {s : State} {m : MethodId} {args : Array Value} {below : List Frame} {meth : Method} {c : Code} {Q : State → Prop} {A : Nat → Prop} {D : va_G} {kk : Nat → ClassId} {st : Nat → Nat} (a_t a_t_kinds a_t_numbers : Nat) (t_size : Int32) (t_kinds : Nat → Int32) (S : CallFix p m c b_Pattern_isWish 4 s args GW y_Pattern_isWish.cls) (hr : meth.sig.returnType = (some .boolean)) (hlk : meth.locks = false) (hA : ∀ q, s.heap.size ≤ q → A q) (X : KX D kk st A s) : ∀ (n : Nat) (x1 : Int32) (x2 : Int32) (v : (Int32) ⊕ (Int32 × Int32)) (H : Heap) (locs : List Loc) (ls : Array Slot), lp_Pattern_isWish_4 t_size t_kinds n x1 x2 = some v → lv_has ls 4 [(0, .ref a_t), (1, .int x1), (2, .int x2)] → va_P D classes [(a_t, .inr (2, [.ref a_t_kinds, .ref a_t_numbers, .int t_size])), (a_t_kinds, .inl (kk 0, 20, .inl t_kinds))] H → va_D A [(a_t, .inr (2, [.ref a_t_kinds, .ref a_t_numbers, .int t_size])), (a_t_kinds, .inl (kk 0, 20, .inl t_kinds))] → va_S A s.heap H locs → (∀ o : Int32, v = .inl o → Q = MQ below (KQi D kk o [(a_t, .inr (2, [.ref a_t_kinds, .ref a_t_numbers, .int t_size])), (a_t_kinds, .inl (kk 0, 20, .inl t_kinds))] A) args s 0 0 A) → (∀ v' : Int32 × Int32, v = .inr v' → ∀ (H : Heap) (locs : List Loc) (ls : Array Slot), lv_has ls 4 [(0, .ref a_t), (1, .int v'.1), (2, .int v'.2)] → va_P D classes [(a_t, .inr (2, [.ref a_t_kinds, .ref a_t_numbers, .int t_size])), (a_t_kinds, .inl (kk 0, 20, .inl t_kinds))] H → va_D A [(a_t, .inr (2, [.ref a_t_kinds, .ref a_t_numbers, .int t_size])), (a_t_kinds, .inl (kk 0, 20, .inl t_kinds))] → va_S A s.heap H locs → W p l e rm_Pattern_isWish s m args below meth c H locs 0 0 Q (F0 m 48 ls [])) → W p l e rm_Pattern_isWish s m args below meth c H locs 0 0 Q (F0 m 4 ls []) := by
  intro n
  induction n with
  | zero =>
    intro x1 x2 v H locs ls he hl hP hD hS hret K
    exact ih_n he
  | succ n ih =>
    intro x1 x2 v H locs ls he hl hP hD hS hret K
    have hx := S.1
    have hb := S.2.1
    have he : st_Pattern_isWish_4 t_size t_kinds (lp_Pattern_isWish_4 t_size t_kinds n) x1 x2 = some v := he
    unfold st_Pattern_isWish_4 at he
    refine lv_iload_n hx hb d_Pattern_isWish_4 rfl (lv_at hl 2 rfl) ?_
    refine lv_aload_n hx hb d_Pattern_isWish_5 rfl (lv_at hl 0 rfl) ?_
    refine k_get S X us_Pattern hP 0 rfl rfl 2 (by decide) gm_1_62 rfl d_Pattern_isWish_6 ?_
    refine lv_icmp_ge (tgt := 48) hx hb d_Pattern_isWish_9 rfl (fun hc => ?_) (fun hc => ?_)
    · have he := ih_t hc he
      have hl : lv_has ls 4 [(0, .ref a_t), (1, .int x1), (2, .int x2)] := lv_sub hl [0, 1, 2] rfl
      cases he
      exact K _ rfl _ _ _ hl hP hD hS
    · have he := ih_f hc he
      refine lv_iconst (v := (1 : Int32)) hx hb d_Pattern_isWish_12 (by decide) ?_
      refine lv_aload_n hx hb d_Pattern_isWish_13 rfl (lv_at hl 0 rfl) ?_
      refine lv_iload_n hx hb d_Pattern_isWish_14 rfl (lv_at hl 2 rfl) ?_
      obtain ⟨u1, e2, he⟩ := ih_b he
      refine k_io (r_V (As := [.int x2]) S X hA hP hD hS (c_Pattern_kind l D kk st a_t a_t_kinds a_t_numbers _ t_size t_kinds x2 u1 e2) gm_2_219 gm_2_216 gm_2_217 gm_2_218 gm_1_4 ⟨rfl, rfl, by decide, by decide⟩ kd_Pattern_kind [0, 1] rfl rfl rfl 0 2 rfl rfl rfl rfl hl.1 rfl (Nat.le_of_ble_eq_true rfl) d_Pattern_isWish_15 ⟨Nat.zero_le _, Nat.zero_le _⟩) hA hP hD hS [0, 1] rfl (fun H locs hP hS => ?_)
      refine lv_ishl hx hb d_Pattern_isWish_18 ?_
      refine lv_istore_n hx hb d_Pattern_isWish_19 rfl hl (by decide) rfl (fun ls hl => ?_)
      have hl : lv_has ls 4 [(3, .int ((1 : Int32) <<< (u1 &&& 31))), (0, .ref a_t), (1, .int x1), (2, .int x2)] := hl
      refine lv_aload_n hx hb d_Pattern_isWish_20 rfl (lv_at hl 1 rfl) ?_
      refine lv_iload_n hx hb d_Pattern_isWish_21 rfl (lv_at hl 3 rfl) ?_
      obtain ⟨u3, e4, he⟩ := ih_b he
      refine k_io (r_V (As := [.int x2]) S X hA hP hD hS (c_Pattern_kind l D kk st a_t a_t_kinds a_t_numbers _ t_size t_kinds x2 u3 e4) gm_2_219 gm_2_216 gm_2_217 gm_2_218 gm_1_4 ⟨rfl, rfl, by decide, by decide⟩ kd_Pattern_kind [0, 1] rfl rfl rfl 0 2 rfl rfl rfl rfl hl.1 rfl (Nat.le_of_ble_eq_true rfl) d_Pattern_isWish_22 ⟨Nat.zero_le _, Nat.zero_le _⟩) hA hP hD hS [0, 1] rfl (fun H locs hP hS => ?_)
      refine lv_bipush (v := (14 : Int32)) hx hb d_Pattern_isWish_25 (by decide) ?_
      refine lv_icmp_gt (tgt := 36) hx hb d_Pattern_isWish_27 rfl (fun hc => ?_) (fun hc => ?_)
      · have he := ih_t hc he
        refine lv_iconst (v := (0 : Int32)) hx hb d_Pattern_isWish_36 (by decide) ?_
        cases he
        have hq := hret _ rfl
        subst hq
        exact k_zre hx hb hr hlk X hP hD hS (Or.inl rfl) d_Pattern_isWish_37
      · have he := ih_f hc he
        refine lv_iload_n hx hb d_Pattern_isWish_30 rfl (lv_at hl 2 rfl) ?_
        refine lv_iload_n hx hb d_Pattern_isWish_31 rfl (lv_at hl 0 rfl) ?_
        refine lv_iand hx hb d_Pattern_isWish_32 ?_
        refine lv_if_eq (tgt := 38) hx hb d_Pattern_isWish_33 rfl (fun hc => ?_) (fun hc => ?_)
        · have he := ih_t hc he
          refine lv_iload_n hx hb d_Pattern_isWish_38 rfl (lv_at hl 2 rfl) ?_
          refine lv_iload_n hx hb d_Pattern_isWish_39 rfl (lv_at hl 0 rfl) ?_
          refine lv_ior hx hb d_Pattern_isWish_40 ?_
          refine lv_istore_n hx hb d_Pattern_isWish_41 rfl hl (by decide) rfl (fun ls hl => ?_)
          have hl : lv_has ls 4 [(1, .int (x1 ||| ((1 : Int32) <<< (u1 &&& 31)))), (3, .int ((1 : Int32) <<< (u1 &&& 31))), (0, .ref a_t), (2, .int x2)] := hl
          refine lv_iinc (k := 3) hx hb d_Pattern_isWish_42 hl rfl (ii_ (v := (1 : Int32)) (by decide)) (by decide) rfl (fun ls hl => ?_)
          have hl : lv_has ls 4 [(2, .int (x2 + (1 : Int32))), (1, .int (x1 ||| ((1 : Int32) <<< (u1 &&& 31)))), (3, .int ((1 : Int32) <<< (u1 &&& 31))), (0, .ref a_t)] := hl
          refine lv_goto (tgt := 4) hx hb d_Pattern_isWish_45 rfl ?_
          have hl : lv_has ls 4 [(0, .ref a_t), (1, .int (x1 ||| ((1 : Int32) <<< (u1 &&& 31)))), (2, .int (x2 + (1 : Int32)))] := lv_sub hl [3, 1, 0] rfl
          exact ih _ _ _ _ _ _ he hl hP hD hS hret K
        · have he := ih_f hc he
          refine lv_iconst (v := (0 : Int32)) hx hb d_Pattern_isWish_36 (by decide) ?_
          cases he
          have hq := hret _ rfl
          subst hq
          exact k_zre hx hb hr hlk X hP hD hS (Or.inl rfl) d_Pattern_isWish_37
set_option maxHeartbeats 4000000 in
set_option maxRecDepth 100000 in
theorem c_Pattern_isWish (l : Launch) (D : va_G) (kk : Nat → ClassId) (st : Nat → Nat) (a_t a_t_kinds a_t_numbers : Nat) (sz : Nat) (t_size : Int32) (t_kinds : Nat → Int32) (o : Int32) (he : f_Pattern_isWish t_size t_kinds = some o) : Met l y_Pattern_isWish (Cond.code y_Pattern_isWish b_Pattern_isWish 4 (some .boolean) :: GW) rm_Pattern_isWish (KPc D kk st [.ref a_t] [(a_t, .inr (2, [.ref a_t_kinds, .ref a_t_numbers, .int t_size])), (a_t_kinds, .inl (kk 0, 20, .inl t_kinds))] sz) (KQi D kk o [(a_t, .inr (2, [.ref a_t_kinds, .ref a_t_numbers, .int t_size])), (a_t_kinds, .inl (kk 0, 20, .inl t_kinds))] (va_A [(a_t, .inr (2, [.ref a_t_kinds, .ref a_t_numbers, .int t_size])), (a_t_kinds, .inl (kk 0, 20, .inl t_kinds))] sz)) 0 0 (va_A [(a_t, .inr (2, [.ref a_t_kinds, .ref a_t_numbers, .int t_size])), (a_t_kinds, .inl (kk 0, 20, .inl t_kinds))] sz) := by
  refine k_start (Qc := fun A => KQi D kk o [(a_t, .inr (2, [.ref a_t_kinds, .ref a_t_numbers, .int t_size])), (a_t_kinds, .inl (kk 0, 20, .inl t_kinds))] A) (by decide) (Nat.le_of_ble_eq_true rfl) ?_
  intro p e s m below meth c A ls S hnm hr hlk hA X hP hD hS hl
  have hl : lv_has ls 4 [(0, .ref a_t)] := hl
  have hx := S.1
  have hb := S.2.1
  unfold f_Pattern_isWish at he
  refine lv_iconst (v := (0 : Int32)) hx hb d_Pattern_isWish_0 (by decide) ?_
  refine lv_istore_n hx hb d_Pattern_isWish_1 rfl hl (by decide) rfl (fun ls hl => ?_)
  have hl : lv_has ls 4 [(1, .int (0 : Int32)), (0, .ref a_t)] := hl
  refine lv_iconst (v := (0 : Int32)) hx hb d_Pattern_isWish_2 (by decide) ?_
  refine lv_istore_n hx hb d_Pattern_isWish_3 rfl hl (by decide) rfl (fun ls hl => ?_)
  have hl : lv_has ls 4 [(2, .int (0 : Int32)), (1, .int (0 : Int32)), (0, .ref a_t)] := hl
  obtain ⟨u5, e6, he⟩ := ih_b he
  have hl : lv_has ls 4 [(0, .ref a_t), (1, .int (0 : Int32)), (2, .int (0 : Int32))] := lv_sub hl [2, 1, 0] rfl
  rcases u5 with o7 | v8
  · have he := sel_l he
    cases he
    exact w_Pattern_isWish_4 a_t a_t_kinds a_t_numbers t_size t_kinds S hr hlk hA X FU (0 : Int32) (0 : Int32) _ _ _ ls e6 hl hP hD hS (fun o h => by cases h; rfl) (fun v h => by cases h)
  · have he := sel_r he
    refine w_Pattern_isWish_4 a_t a_t_kinds a_t_numbers t_size t_kinds S hr hlk hA X FU (0 : Int32) (0 : Int32) _ _ _ ls e6 hl hP hD hS (fun o h => by cases h) (fun v h H locs ls hl hP hD hS => ?_)
    have h := Sum.inr.inj h
    subst h
    refine lv_iconst (v := (1 : Int32)) hx hb d_Pattern_isWish_48 (by decide) ?_
    cases he
    exact k_zre hx hb hr hlk X hP hD hS (Or.inr rfl) d_Pattern_isWish_49
abbrev rm_Pattern_letterDistance : Room := { frames := 1, cells := 0, slots := 0, locals := 21 }
set_option maxHeartbeats 4000000 in
set_option maxRecDepth 100000 in
theorem w_Pattern_letterDistance_46 {p : Program} {l : Launch} {e : Env} {s : State} {m : MethodId} {args : Array Value} {below : List Frame} {meth : Method} {c : Code} {A : Nat → Prop} {D : va_G} {kk : Nat → ClassId} {st : Nat → Nat} (x1 : Int32) (x2 : Int32) (s0 : Int32) (s1 : Int32) (o : Int32) (S : CallFix p m c b_Pattern_letterDistance 4 s args GW y_Pattern_letterDistance.cls) (hr : meth.sig.returnType = (some .int)) (hlk : meth.locks = false) (hA : ∀ q, s.heap.size ≤ q → A q) (X : KX D kk st A s) (H : Heap) (locs : List Loc) (ls : Array Slot) (he : jn_Pattern_letterDistance_46 x1 x2 s0 s1 = some o) (hl : lv_has ls 4 [(1, .int x1), (2, .int x2)]) (hP : va_P D classes [] H) (hD : va_D A []) (hS : va_S A s.heap H locs) : W p l e rm_Pattern_letterDistance s m args below meth c H locs 0 0 (MQ below (KQi D kk o [] A) args s 0 0 A) (F0 m 46 ls [.int s1, .int s0]) := by
  have hx := S.1
  have hb := S.2.1
  unfold jn_Pattern_letterDistance_46 at he
  refine lv_icmp_eq (tgt := 53) hx hb d_Pattern_letterDistance_46 rfl (fun hc => ?_) (fun hc => ?_)
  · have he := ih_t hc he
    refine lv_iconst (v := (0 : Int32)) hx hb d_Pattern_letterDistance_53 (by decide) ?_
    refine lv_istore_n hx hb d_Pattern_letterDistance_54 rfl hl (by decide) rfl (fun ls hl => ?_)
    have hl : lv_has ls 4 [(3, .int (0 : Int32)), (1, .int x1), (2, .int x2)] := hl
    refine lv_iload_n hx hb d_Pattern_letterDistance_55 rfl (lv_at hl 1 rfl) ?_
    refine lv_iload_n hx hb d_Pattern_letterDistance_56 rfl (lv_at hl 2 rfl) ?_
    refine lv_isub hx hb d_Pattern_letterDistance_57 ?_
    refine va_mabs hx hb (by rw [S.2.2.1]; exact hl.1.symm) S.2.2.2.1 (S.2.2.2.2 _ gm_3_5) (S.2.2.2.2 _ gm_3_6) (S.2.2.2.2 _ gm_1_11) (S.2.2.2.2 _ gm_3_7) (by decide) (Nat.le_of_ble_eq_true rfl) (Nat.zero_le _) (Nat.zero_le _) d_Pattern_letterDistance_58 ?_
    refine lv_iload_n hx hb d_Pattern_letterDistance_61 rfl (lv_at hl 0 rfl) ?_
    refine lv_if_eq (tgt := 70) hx hb d_Pattern_letterDistance_62 rfl (fun hc => ?_) (fun hc => ?_)
    · refine lv_iconst (v := (0 : Int32)) hx hb d_Pattern_letterDistance_70 (by decide) ?_
      refine lv_iadd hx hb d_Pattern_letterDistance_71 ?_
      cases he
      exact k_ire hx hb hr hlk X hP hD hS d_Pattern_letterDistance_72
    · exact absurd (by decide) hc
  · have he := ih_f hc he
    refine lv_iconst (v := (1 : Int32)) hx hb d_Pattern_letterDistance_49 (by decide) ?_
    refine lv_goto (tgt := 54) hx hb d_Pattern_letterDistance_50 rfl ?_
    refine lv_istore_n hx hb d_Pattern_letterDistance_54 rfl hl (by decide) rfl (fun ls hl => ?_)
    have hl : lv_has ls 4 [(3, .int (1 : Int32)), (1, .int x1), (2, .int x2)] := hl
    refine lv_iload_n hx hb d_Pattern_letterDistance_55 rfl (lv_at hl 1 rfl) ?_
    refine lv_iload_n hx hb d_Pattern_letterDistance_56 rfl (lv_at hl 2 rfl) ?_
    refine lv_isub hx hb d_Pattern_letterDistance_57 ?_
    refine va_mabs hx hb (by rw [S.2.2.1]; exact hl.1.symm) S.2.2.2.1 (S.2.2.2.2 _ gm_3_5) (S.2.2.2.2 _ gm_3_6) (S.2.2.2.2 _ gm_1_11) (S.2.2.2.2 _ gm_3_7) (by decide) (Nat.le_of_ble_eq_true rfl) (Nat.zero_le _) (Nat.zero_le _) d_Pattern_letterDistance_58 ?_
    refine lv_iload_n hx hb d_Pattern_letterDistance_61 rfl (lv_at hl 0 rfl) ?_
    refine lv_if_eq (tgt := 70) hx hb d_Pattern_letterDistance_62 rfl (fun hc => ?_) (fun hc => ?_)
    · exact absurd hc (by decide)
    · refine lv_bipush (v := (100 : Int32)) hx hb d_Pattern_letterDistance_65 (by decide) ?_
      refine lv_goto (tgt := 71) hx hb d_Pattern_letterDistance_67 rfl ?_
      refine lv_iadd hx hb d_Pattern_letterDistance_71 ?_
      cases he
      exact k_ire hx hb hr hlk X hP hD hS d_Pattern_letterDistance_72
set_option maxHeartbeats 4000000 in
set_option maxRecDepth 100000 in
theorem w_Pattern_letterDistance_36 {p : Program} {l : Launch} {e : Env} {s : State} {m : MethodId} {args : Array Value} {below : List Frame} {meth : Method} {c : Code} {A : Nat → Prop} {D : va_G} {kk : Nat → ClassId} {st : Nat → Nat} (x1 : Int32) (x2 : Int32) (s0 : Int32) (o : Int32) (S : CallFix p m c b_Pattern_letterDistance 4 s args GW y_Pattern_letterDistance.cls) (hr : meth.sig.returnType = (some .int)) (hlk : meth.locks = false) (hA : ∀ q, s.heap.size ≤ q → A q) (X : KX D kk st A s) (H : Heap) (locs : List Loc) (ls : Array Slot) (he : jn_Pattern_letterDistance_36 x1 x2 s0 = some o) (hl : lv_has ls 4 [(1, .int x1), (2, .int x2)]) (hP : va_P D classes [] H) (hD : va_D A []) (hS : va_S A s.heap H locs) : W p l e rm_Pattern_letterDistance s m args below meth c H locs 0 0 (MQ below (KQi D kk o [] A) args s 0 0 A) (F0 m 36 ls [.int s0]) := by
  have hx := S.1
  have hb := S.2.1
  unfold jn_Pattern_letterDistance_36 at he
  refine lv_iload_n hx hb d_Pattern_letterDistance_36 rfl (lv_at hl 1 rfl) ?_
  refine lv_iconst (v := (2 : Int32)) hx hb d_Pattern_letterDistance_37 (by decide) ?_
  refine lv_icmp_le (tgt := 45) hx hb d_Pattern_letterDistance_38 rfl (fun hc => ?_) (fun hc => ?_)
  · have he := ih_t hc he
    refine lv_iconst (v := (0 : Int32)) hx hb d_Pattern_letterDistance_45 (by decide) ?_
    have hl : lv_has ls 4 [(1, .int x1), (2, .int x2)] := lv_sub hl [0, 1] rfl
    exact w_Pattern_letterDistance_46 x1 x2 s0 (0 : Int32) o S hr hlk hA X _ _ ls he hl hP hD hS
  · have he := ih_f hc he
    refine lv_iconst (v := (1 : Int32)) hx hb d_Pattern_letterDistance_41 (by decide) ?_
    refine lv_goto (tgt := 46) hx hb d_Pattern_letterDistance_42 rfl ?_
    have hl : lv_has ls 4 [(1, .int x1), (2, .int x2)] := lv_sub hl [0, 1] rfl
    exact w_Pattern_letterDistance_46 x1 x2 s0 (1 : Int32) o S hr hlk hA X _ _ ls he hl hP hD hS
set_option maxHeartbeats 4000000 in
set_option maxRecDepth 100000 in
theorem c_Pattern_letterDistance (l : Launch) (D : va_G) (kk : Nat → ClassId) (st : Nat → Nat) (sz : Nat) (x0 : Int32) (x1 : Int32) (x2 : Int32) (o : Int32) (he : f_Pattern_letterDistance x0 x1 x2 = some o) : Met l y_Pattern_letterDistance (Cond.code y_Pattern_letterDistance b_Pattern_letterDistance 4 (some .int) :: GW) rm_Pattern_letterDistance (KPc D kk st [.int x0, .int x1, .int x2] [] sz) (KQi D kk o [] (va_A [] sz)) 0 0 (va_A [] sz) := by
  refine k_start (Qc := fun A => KQi D kk o [] A) (by decide) (Nat.le_of_ble_eq_true rfl) ?_
  intro p e s m below meth c A ls S hnm hr hlk hA X hP hD hS hl
  have hl : lv_has ls 4 [(0, .int x0), (1, .int x1), (2, .int x2)] := hl
  have hx := S.1
  have hb := S.2.1
  unfold f_Pattern_letterDistance at he
  refine lv_iload_n hx hb d_Pattern_letterDistance_0 rfl (lv_at hl 1 rfl) ?_
  refine lv_if_eq (tgt := 8) hx hb d_Pattern_letterDistance_1 rfl (fun hc => ?_) (fun hc => ?_)
  · have he := ih_t hc he
    refine lv_iload_n hx hb d_Pattern_letterDistance_8 rfl (lv_at hl 1 rfl) ?_
    refine lv_iload_n hx hb d_Pattern_letterDistance_9 rfl (lv_at hl 2 rfl) ?_
    refine lv_icmp_ne (tgt := 17) hx hb d_Pattern_letterDistance_10 rfl (fun hc => ?_) (fun hc => ?_)
    · have he := ih_f hc he
      refine lv_sipush (v := (1000 : Int32)) hx hb d_Pattern_letterDistance_17 (by decide) ?_
      cases he
      exact k_ire hx hb hr hlk X hP hD hS d_Pattern_letterDistance_20
    · have he := ih_t hc he
      refine lv_iconst (v := (0 : Int32)) hx hb d_Pattern_letterDistance_13 (by decide) ?_
      refine lv_goto (tgt := 20) hx hb d_Pattern_letterDistance_14 rfl ?_
      cases he
      exact k_ire hx hb hr hlk X hP hD hS d_Pattern_letterDistance_20
  · have he := ih_f hc he
    refine lv_iload_n hx hb d_Pattern_letterDistance_4 rfl (lv_at hl 2 rfl) ?_
    refine lv_if_ne (tgt := 21) hx hb d_Pattern_letterDistance_5 rfl (fun hc => ?_) (fun hc => ?_)
    · have he := ih_f hc he
      refine lv_iload_n hx hb d_Pattern_letterDistance_21 rfl (lv_at hl 0 rfl) ?_
      refine lv_iconst (v := (2 : Int32)) hx hb d_Pattern_letterDistance_22 (by decide) ?_
      refine lv_icmp_ne (tgt := 53) hx hb d_Pattern_letterDistance_23 rfl (fun hc => ?_) (fun hc => ?_)
      · have he := ih_f hc he
        refine lv_iconst (v := (0 : Int32)) hx hb d_Pattern_letterDistance_53 (by decide) ?_
        refine lv_istore_n hx hb d_Pattern_letterDistance_54 rfl hl (by decide) rfl (fun ls hl => ?_)
        have hl : lv_has ls 4 [(3, .int (0 : Int32)), (0, .int x0), (1, .int x1), (2, .int x2)] := hl
        refine lv_iload_n hx hb d_Pattern_letterDistance_55 rfl (lv_at hl 2 rfl) ?_
        refine lv_iload_n hx hb d_Pattern_letterDistance_56 rfl (lv_at hl 3 rfl) ?_
        refine lv_isub hx hb d_Pattern_letterDistance_57 ?_
        refine va_mabs hx hb (by rw [S.2.2.1]; exact hl.1.symm) S.2.2.2.1 (S.2.2.2.2 _ gm_3_5) (S.2.2.2.2 _ gm_3_6) (S.2.2.2.2 _ gm_1_11) (S.2.2.2.2 _ gm_3_7) (by decide) (Nat.le_of_ble_eq_true rfl) (Nat.zero_le _) (Nat.zero_le _) d_Pattern_letterDistance_58 ?_
        refine lv_iload_n hx hb d_Pattern_letterDistance_61 rfl (lv_at hl 0 rfl) ?_
        refine lv_if_eq (tgt := 70) hx hb d_Pattern_letterDistance_62 rfl (fun hc => ?_) (fun hc => ?_)
        · refine lv_iconst (v := (0 : Int32)) hx hb d_Pattern_letterDistance_70 (by decide) ?_
          refine lv_iadd hx hb d_Pattern_letterDistance_71 ?_
          cases he
          exact k_ire hx hb hr hlk X hP hD hS d_Pattern_letterDistance_72
        · exact absurd (by decide) hc
      · have he := ih_t hc he
        refine lv_iload_n hx hb d_Pattern_letterDistance_26 rfl (lv_at hl 1 rfl) ?_
        refine lv_iconst (v := (2 : Int32)) hx hb d_Pattern_letterDistance_27 (by decide) ?_
        refine lv_icmp_le (tgt := 35) hx hb d_Pattern_letterDistance_28 rfl (fun hc => ?_) (fun hc => ?_)
        · have he := ih_t hc he
          refine lv_iconst (v := (0 : Int32)) hx hb d_Pattern_letterDistance_35 (by decide) ?_
          have hl : lv_has ls 4 [(1, .int x1), (2, .int x2)] := lv_sub hl [1, 2] rfl
          exact w_Pattern_letterDistance_36 x1 x2 (0 : Int32) o S hr hlk hA X _ _ ls he hl hP hD hS
        · have he := ih_f hc he
          refine lv_iconst (v := (1 : Int32)) hx hb d_Pattern_letterDistance_31 (by decide) ?_
          refine lv_goto (tgt := 36) hx hb d_Pattern_letterDistance_32 rfl ?_
          have hl : lv_has ls 4 [(1, .int x1), (2, .int x2)] := lv_sub hl [1, 2] rfl
          exact w_Pattern_letterDistance_36 x1 x2 (1 : Int32) o S hr hlk hA X _ _ ls he hl hP hD hS
    · have he := ih_t hc he
      refine lv_iload_n hx hb d_Pattern_letterDistance_8 rfl (lv_at hl 1 rfl) ?_
      refine lv_iload_n hx hb d_Pattern_letterDistance_9 rfl (lv_at hl 2 rfl) ?_
      refine lv_icmp_ne (tgt := 17) hx hb d_Pattern_letterDistance_10 rfl (fun hc => ?_) (fun hc => ?_)
      · have he := ih_f hc he
        refine lv_sipush (v := (1000 : Int32)) hx hb d_Pattern_letterDistance_17 (by decide) ?_
        cases he
        exact k_ire hx hb hr hlk X hP hD hS d_Pattern_letterDistance_20
      · have he := ih_t hc he
        refine lv_iconst (v := (0 : Int32)) hx hb d_Pattern_letterDistance_13 (by decide) ?_
        refine lv_goto (tgt := 20) hx hb d_Pattern_letterDistance_14 rfl ?_
        cases he
        exact k_ire hx hb hr hlk X hP hD hS d_Pattern_letterDistance_20
abbrev rm_Pattern_distanceTo : Room := { frames := 2, cells := 0, slots := 0, locals := 44 }
set_option maxHeartbeats 4000000 in
set_option maxRecDepth 100000 in
theorem w_Pattern_distanceTo_4 {p : Program} {l : Launch} {e : Env} {s : State} {m : MethodId} {args : Array Value} {below : List Frame} {meth : Method} {c : Code} {Q : State → Prop} {A : Nat → Prop} {D : va_G} {kk : Nat → ClassId} {st : Nat → Nat} (a_t a_t_kinds a_t_numbers a_q1 a_q1_kinds a_q1_numbers : Nat) (t_size : Int32) (t_kinds : Nat → Int32) (t_numbers : Nat → Int32) (q1_size : Int32) (q1_kinds : Nat → Int32) (q1_numbers : Nat → Int32) (S : CallFix p m c b_Pattern_distanceTo 4 s args GW y_Pattern_distanceTo.cls) (hr : meth.sig.returnType = (some .int)) (hlk : meth.locks = false) (hA : ∀ q, s.heap.size ≤ q → A q) (X : KX D kk st A s) : ∀ (n : Nat) (x2 : Int32) (x3 : Int32) (v : Int32 × Int32) (H : Heap) (locs : List Loc) (ls : Array Slot), lp_Pattern_distanceTo_4 t_size t_kinds t_numbers q1_size q1_kinds q1_numbers n x2 x3 = some v → lv_has ls 4 [(0, .ref a_t), (1, .ref a_q1), (2, .int x2), (3, .int x3)] → va_P D classes [(a_t, .inr (2, [.ref a_t_kinds, .ref a_t_numbers, .int t_size])), (a_t_kinds, .inl (kk 0, 20, .inl t_kinds)), (a_t_numbers, .inl (kk 0, 20, .inl t_numbers)), (a_q1, .inr (2, [.ref a_q1_kinds, .ref a_q1_numbers, .int q1_size])), (a_q1_kinds, .inl (kk 0, 20, .inl q1_kinds)), (a_q1_numbers, .inl (kk 0, 20, .inl q1_numbers))] H → va_D A [(a_t, .inr (2, [.ref a_t_kinds, .ref a_t_numbers, .int t_size])), (a_t_kinds, .inl (kk 0, 20, .inl t_kinds)), (a_t_numbers, .inl (kk 0, 20, .inl t_numbers)), (a_q1, .inr (2, [.ref a_q1_kinds, .ref a_q1_numbers, .int q1_size])), (a_q1_kinds, .inl (kk 0, 20, .inl q1_kinds)), (a_q1_numbers, .inl (kk 0, 20, .inl q1_numbers))] → va_S A s.heap H locs → (∀ (H : Heap) (locs : List Loc) (ls : Array Slot), lv_has ls 4 [(0, .ref a_t), (1, .ref a_q1), (2, .int v.1), (3, .int v.2)] → va_P D classes [(a_t, .inr (2, [.ref a_t_kinds, .ref a_t_numbers, .int t_size])), (a_t_kinds, .inl (kk 0, 20, .inl t_kinds)), (a_t_numbers, .inl (kk 0, 20, .inl t_numbers)), (a_q1, .inr (2, [.ref a_q1_kinds, .ref a_q1_numbers, .int q1_size])), (a_q1_kinds, .inl (kk 0, 20, .inl q1_kinds)), (a_q1_numbers, .inl (kk 0, 20, .inl q1_numbers))] H → va_D A [(a_t, .inr (2, [.ref a_t_kinds, .ref a_t_numbers, .int t_size])), (a_t_kinds, .inl (kk 0, 20, .inl t_kinds)), (a_t_numbers, .inl (kk 0, 20, .inl t_numbers)), (a_q1, .inr (2, [.ref a_q1_kinds, .ref a_q1_numbers, .int q1_size])), (a_q1_kinds, .inl (kk 0, 20, .inl q1_kinds)), (a_q1_numbers, .inl (kk 0, 20, .inl q1_numbers))] → va_S A s.heap H locs → W p l e rm_Pattern_distanceTo s m args below meth c H locs 0 0 Q (F0 m 33 ls [])) → W p l e rm_Pattern_distanceTo s m args below meth c H locs 0 0 Q (F0 m 4 ls []) := by
  intro n
  induction n with
  | zero =>
    intro x2 x3 v H locs ls he hl hP hD hS K
    exact ih_n he
  | succ n ih =>
    intro x2 x3 v H locs ls he hl hP hD hS K
    have hx := S.1
    have hb := S.2.1
    have he : st_Pattern_distanceTo_4 t_size t_kinds t_numbers q1_size q1_kinds q1_numbers (lp_Pattern_distanceTo_4 t_size t_kinds t_numbers q1_size q1_kinds q1_numbers n) x2 x3 = some v := he
    unfold st_Pattern_distanceTo_4 at he
    refine lv_iload_n hx hb d_Pattern_distanceTo_4 rfl (lv_at hl 3 rfl) ?_
    refine lv_bipush (v := (14 : Int32)) hx hb d_Pattern_distanceTo_5 (by decide) ?_
    refine lv_icmp_gt (tgt := 33) hx hb d_Pattern_distanceTo_7 rfl (fun hc => ?_) (fun hc => ?_)
    · have he := ih_t hc he
      have hl : lv_has ls 4 [(0, .ref a_t), (1, .ref a_q1), (2, .int x2), (3, .int x3)] := lv_sub hl [0, 1, 2, 3] rfl
      cases he
      exact K _ _ _ hl hP hD hS
    · have he := ih_f hc he
      refine lv_iload_n hx hb d_Pattern_distanceTo_10 rfl (lv_at hl 2 rfl) ?_
      refine lv_iload_n hx hb d_Pattern_distanceTo_11 rfl (lv_at hl 3 rfl) ?_
      refine lv_aload_n hx hb d_Pattern_distanceTo_12 rfl (lv_at hl 0 rfl) ?_
      refine lv_iload_n hx hb d_Pattern_distanceTo_13 rfl (lv_at hl 3 rfl) ?_
      obtain ⟨u1, e2, he⟩ := ih_b he
      refine k_io (r_V (As := [.int x3]) S X hA hP hD hS (c_Pattern_firstCount l D kk st a_t a_t_kinds a_t_numbers _ t_size t_kinds t_numbers x3 u1 e2) gm_3_1 gm_2_238 gm_3_0 gm_p1_8 gm_1_4 ⟨rfl, rfl, by decide, by decide⟩ kd_Pattern_firstCount [0, 1, 2] rfl rfl rfl 0 2 rfl rfl rfl rfl hl.1 rfl (Nat.le_of_ble_eq_true rfl) d_Pattern_distanceTo_14 ⟨Nat.zero_le _, Nat.zero_le _⟩) hA hP hD hS [0, 1, 2] rfl (fun H locs hP hS => ?_)
      refine lv_aload_n hx hb d_Pattern_distanceTo_17 rfl (lv_at hl 1 rfl) ?_
      refine lv_iload_n hx hb d_Pattern_distanceTo_18 rfl (lv_at hl 3 rfl) ?_
      obtain ⟨u3, e4, he⟩ := ih_b he
      refine k_io (r_V (As := [.int x3]) S X hA hP hD hS (c_Pattern_firstCount l D kk st a_q1 a_q1_kinds a_q1_numbers _ q1_size q1_kinds q1_numbers x3 u3 e4) gm_3_1 gm_2_238 gm_3_0 gm_p1_8 gm_1_4 ⟨rfl, rfl, by decide, by decide⟩ kd_Pattern_firstCount [3, 4, 5] rfl rfl rfl 3 2 rfl rfl rfl rfl hl.1 rfl (Nat.le_of_ble_eq_true rfl) d_Pattern_distanceTo_19 ⟨Nat.zero_le _, Nat.zero_le _⟩) hA hP hD hS [3, 4, 5] rfl (fun H locs hP hS => ?_)
      obtain ⟨u5, e6, he⟩ := ih_b he
      refine k_io (r_S (As := [.int x3, .int u1, .int u3]) S X hA hP hD hS (c_Pattern_letterDistance l D kk st _ x3 u1 u3 u5 e6) gm_3_4 gm_3_2 gm_3_3 gm_1_4 ⟨rfl, rfl, by decide, by decide⟩ kd_Pattern_letterDistance [] rfl rfl rfl rfl hl.1 rfl (Nat.le_of_ble_eq_true rfl) d_Pattern_distanceTo_22 ⟨Nat.zero_le _, Nat.zero_le _⟩) hA hP hD hS [] rfl (fun H locs hP hS => ?_)
      refine lv_iadd hx hb d_Pattern_distanceTo_25 ?_
      refine lv_istore_n hx hb d_Pattern_distanceTo_26 rfl hl (by decide) rfl (fun ls hl => ?_)
      have hl : lv_has ls 4 [(2, .int (x2 + u5)), (0, .ref a_t), (1, .ref a_q1), (3, .int x3)] := hl
      refine lv_iinc (k := 3) hx hb d_Pattern_distanceTo_27 hl rfl (ii_ (v := (1 : Int32)) (by decide)) (by decide) rfl (fun ls hl => ?_)
      have hl : lv_has ls 4 [(3, .int (x3 + (1 : Int32))), (2, .int (x2 + u5)), (0, .ref a_t), (1, .ref a_q1)] := hl
      refine lv_goto (tgt := 4) hx hb d_Pattern_distanceTo_30 rfl ?_
      have hl : lv_has ls 4 [(0, .ref a_t), (1, .ref a_q1), (2, .int (x2 + u5)), (3, .int (x3 + (1 : Int32)))] := lv_sub hl [2, 3, 1, 0] rfl
      exact ih _ _ _ _ _ _ he hl hP hD hS K
set_option maxHeartbeats 4000000 in
set_option maxRecDepth 100000 in
theorem c_Pattern_distanceTo (l : Launch) (D : va_G) (kk : Nat → ClassId) (st : Nat → Nat) (a_t a_t_kinds a_t_numbers a_q1 a_q1_kinds a_q1_numbers : Nat) (sz : Nat) (t_size : Int32) (t_kinds : Nat → Int32) (t_numbers : Nat → Int32) (q1_size : Int32) (q1_kinds : Nat → Int32) (q1_numbers : Nat → Int32) (o : Int32) (he : f_Pattern_distanceTo t_size t_kinds t_numbers q1_size q1_kinds q1_numbers = some o) : Met l y_Pattern_distanceTo (Cond.code y_Pattern_distanceTo b_Pattern_distanceTo 4 (some .int) :: GW) rm_Pattern_distanceTo (KPc D kk st [.ref a_t, .ref a_q1] [(a_t, .inr (2, [.ref a_t_kinds, .ref a_t_numbers, .int t_size])), (a_t_kinds, .inl (kk 0, 20, .inl t_kinds)), (a_t_numbers, .inl (kk 0, 20, .inl t_numbers)), (a_q1, .inr (2, [.ref a_q1_kinds, .ref a_q1_numbers, .int q1_size])), (a_q1_kinds, .inl (kk 0, 20, .inl q1_kinds)), (a_q1_numbers, .inl (kk 0, 20, .inl q1_numbers))] sz) (KQi D kk o [(a_t, .inr (2, [.ref a_t_kinds, .ref a_t_numbers, .int t_size])), (a_t_kinds, .inl (kk 0, 20, .inl t_kinds)), (a_t_numbers, .inl (kk 0, 20, .inl t_numbers)), (a_q1, .inr (2, [.ref a_q1_kinds, .ref a_q1_numbers, .int q1_size])), (a_q1_kinds, .inl (kk 0, 20, .inl q1_kinds)), (a_q1_numbers, .inl (kk 0, 20, .inl q1_numbers))] (va_A [(a_t, .inr (2, [.ref a_t_kinds, .ref a_t_numbers, .int t_size])), (a_t_kinds, .inl (kk 0, 20, .inl t_kinds)), (a_t_numbers, .inl (kk 0, 20, .inl t_numbers)), (a_q1, .inr (2, [.ref a_q1_kinds, .ref a_q1_numbers, .int q1_size])), (a_q1_kinds, .inl (kk 0, 20, .inl q1_kinds)), (a_q1_numbers, .inl (kk 0, 20, .inl q1_numbers))] sz)) 0 0 (va_A [(a_t, .inr (2, [.ref a_t_kinds, .ref a_t_numbers, .int t_size])), (a_t_kinds, .inl (kk 0, 20, .inl t_kinds)), (a_t_numbers, .inl (kk 0, 20, .inl t_numbers)), (a_q1, .inr (2, [.ref a_q1_kinds, .ref a_q1_numbers, .int q1_size])), (a_q1_kinds, .inl (kk 0, 20, .inl q1_kinds)), (a_q1_numbers, .inl (kk 0, 20, .inl q1_numbers))] sz) := by
  refine k_start (Qc := fun A => KQi D kk o [(a_t, .inr (2, [.ref a_t_kinds, .ref a_t_numbers, .int t_size])), (a_t_kinds, .inl (kk 0, 20, .inl t_kinds)), (a_t_numbers, .inl (kk 0, 20, .inl t_numbers)), (a_q1, .inr (2, [.ref a_q1_kinds, .ref a_q1_numbers, .int q1_size])), (a_q1_kinds, .inl (kk 0, 20, .inl q1_kinds)), (a_q1_numbers, .inl (kk 0, 20, .inl q1_numbers))] A) (by decide) (Nat.le_of_ble_eq_true rfl) ?_
  intro p e s m below meth c A ls S hnm hr hlk hA X hP hD hS hl
  have hl : lv_has ls 4 [(0, .ref a_t), (1, .ref a_q1)] := hl
  have hx := S.1
  have hb := S.2.1
  unfold f_Pattern_distanceTo at he
  refine lv_iconst (v := (0 : Int32)) hx hb d_Pattern_distanceTo_0 (by decide) ?_
  refine lv_istore_n hx hb d_Pattern_distanceTo_1 rfl hl (by decide) rfl (fun ls hl => ?_)
  have hl : lv_has ls 4 [(2, .int (0 : Int32)), (0, .ref a_t), (1, .ref a_q1)] := hl
  refine lv_iconst (v := (0 : Int32)) hx hb d_Pattern_distanceTo_2 (by decide) ?_
  refine lv_istore_n hx hb d_Pattern_distanceTo_3 rfl hl (by decide) rfl (fun ls hl => ?_)
  have hl : lv_has ls 4 [(3, .int (0 : Int32)), (2, .int (0 : Int32)), (0, .ref a_t), (1, .ref a_q1)] := hl
  obtain ⟨u7, e8, he⟩ := ih_b he
  have hl : lv_has ls 4 [(0, .ref a_t), (1, .ref a_q1), (2, .int (0 : Int32)), (3, .int (0 : Int32))] := lv_sub hl [2, 3, 1, 0] rfl
  refine w_Pattern_distanceTo_4 a_t a_t_kinds a_t_numbers a_q1 a_q1_kinds a_q1_numbers t_size t_kinds t_numbers q1_size q1_kinds q1_numbers S hr hlk hA X FU (0 : Int32) (0 : Int32) u7 _ _ ls e8 hl hP hD hS (fun H locs ls hl hP hD hS => ?_)
  refine lv_iload_n hx hb d_Pattern_distanceTo_33 rfl (lv_at hl 2 rfl) ?_
  cases he
  exact k_ire hx hb hr hlk X hP hD hS d_Pattern_distanceTo_34
abbrev rm_Nest_clear : Room := { frames := 0, cells := 0, slots := 0, locals := 0 }
set_option maxHeartbeats 4000000 in
set_option maxRecDepth 100000 in
theorem c_Nest_clear (l : Launch) (D : va_G) (kk : Nat → ClassId) (st : Nat → Nat) (a_t a_t_ends a_t_places a_t_marks : Nat) (sz : Nat) (t_depth : Int32) (o : Int32) (he : f_Nest_clear t_depth = some o) : Met l y_Nest_clear (Cond.code y_Nest_clear b_Nest_clear 1 none :: GW) rm_Nest_clear (KPc D kk st [.ref a_t] [(a_t, .inr (4, [.ref a_t_ends, .ref a_t_places, .ref a_t_marks, .int t_depth]))] sz) (KQv D kk [(a_t, .inr (4, [.ref a_t_ends, .ref a_t_places, .ref a_t_marks, .int o]))] (va_A [(a_t, .inr (4, [.ref a_t_ends, .ref a_t_places, .ref a_t_marks, .int t_depth]))] sz)) 0 0 (va_A [(a_t, .inr (4, [.ref a_t_ends, .ref a_t_places, .ref a_t_marks, .int t_depth]))] sz) := by
  refine k_start (Qc := fun A => KQv D kk [(a_t, .inr (4, [.ref a_t_ends, .ref a_t_places, .ref a_t_marks, .int o]))] A) (by decide) (Nat.le_of_ble_eq_true rfl) ?_
  intro p e s m below meth c A ls S hnm hr hlk hA X hP hD hS hl
  have hl : lv_has ls 1 [(0, .ref a_t)] := hl
  have hx := S.1
  have hb := S.2.1
  unfold f_Nest_clear at he
  refine lv_aload_n hx hb d_Nest_clear_0 rfl (lv_at hl 0 rfl) ?_
  refine lv_iconst (v := (0 : Int32)) hx hb d_Nest_clear_1 (by decide) ?_
  refine k_put S X us_Nest t_Nest t_Nest_ok n_Nest hP hD hS 0 rfl rfl 3 (by decide) gm_1_105 rfl rfl rfl (Nat.le_of_ble_eq_true rfl) d_Nest_clear_2 (fun H locs hP hD hS => ?_)
  have hP : va_P D classes [(a_t, .inr (4, [.ref a_t_ends, .ref a_t_places, .ref a_t_marks, .int (0 : Int32)]))] H := hP
  have hD : va_D A [(a_t, .inr (4, [.ref a_t_ends, .ref a_t_places, .ref a_t_marks, .int (0 : Int32)]))] := hD
  cases he
  exact k_vre hx hb hr hlk X hP hD hS d_Nest_clear_5
abbrev rm_Nest_open : Room := { frames := 0, cells := 0, slots := 0, locals := 0 }
set_option maxHeartbeats 4000000 in
set_option maxRecDepth 100000 in
theorem c_Nest_open (l : Launch) (D : va_G) (kk : Nat → ClassId) (st : Nat → Nat) (a_t a_t_ends a_t_places a_t_marks : Nat) (sz : Nat) (t_depth : Int32) (t_ends : Nat → Int32) (t_places : Nat → Int32) (t_marks : Nat → Int32) (x1 : Int32) (x2 : Int32) (x3 : Int32) (o : Int32 × (Nat → Int32) × (Nat → Int32) × (Nat → Int32)) (he : f_Nest_open t_depth t_ends t_places t_marks x1 x2 x3 = some o) : Met l y_Nest_open (Cond.code y_Nest_open b_Nest_open 4 none :: GW) rm_Nest_open (KPc D kk st [.ref a_t, .int x1, .int x2, .int x3] [(a_t, .inr (4, [.ref a_t_ends, .ref a_t_places, .ref a_t_marks, .int t_depth])), (a_t_ends, .inl (kk 0, 20, .inl t_ends)), (a_t_places, .inl (kk 0, 20, .inl t_places)), (a_t_marks, .inl (kk 0, 20, .inl t_marks))] sz) (KQv D kk [(a_t, .inr (4, [.ref a_t_ends, .ref a_t_places, .ref a_t_marks, .int o.1])), (a_t_ends, .inl (kk 0, 20, .inl o.2.1)), (a_t_places, .inl (kk 0, 20, .inl o.2.2.1)), (a_t_marks, .inl (kk 0, 20, .inl o.2.2.2))] (va_A [(a_t, .inr (4, [.ref a_t_ends, .ref a_t_places, .ref a_t_marks, .int t_depth])), (a_t_ends, .inl (kk 0, 20, .inl t_ends)), (a_t_places, .inl (kk 0, 20, .inl t_places)), (a_t_marks, .inl (kk 0, 20, .inl t_marks))] sz)) 0 0 (va_A [(a_t, .inr (4, [.ref a_t_ends, .ref a_t_places, .ref a_t_marks, .int t_depth])), (a_t_ends, .inl (kk 0, 20, .inl t_ends)), (a_t_places, .inl (kk 0, 20, .inl t_places)), (a_t_marks, .inl (kk 0, 20, .inl t_marks))] sz) := by
  refine k_start (Qc := fun A => KQv D kk [(a_t, .inr (4, [.ref a_t_ends, .ref a_t_places, .ref a_t_marks, .int o.1])), (a_t_ends, .inl (kk 0, 20, .inl o.2.1)), (a_t_places, .inl (kk 0, 20, .inl o.2.2.1)), (a_t_marks, .inl (kk 0, 20, .inl o.2.2.2))] A) (by decide) (Nat.le_of_ble_eq_true rfl) ?_
  intro p e s m below meth c A ls S hnm hr hlk hA X hP hD hS hl
  have hl : lv_has ls 4 [(0, .ref a_t), (1, .int x1), (2, .int x2), (3, .int x3)] := hl
  have hx := S.1
  have hb := S.2.1
  unfold f_Nest_open at he
  refine lv_aload_n hx hb d_Nest_open_0 rfl (lv_at hl 0 rfl) ?_
  refine k_get S X us_Nest hP 0 rfl rfl 3 (by decide) gm_1_105 rfl d_Nest_open_1 ?_
  refine lv_bipush (v := (20 : Int32)) hx hb d_Nest_open_4 (by decide) ?_
  refine lv_icmp_ge (tgt := 49) hx hb d_Nest_open_6 rfl (fun hc => ?_) (fun hc => ?_)
  · have he := ih_t hc he
    cases he
    exact k_vre hx hb hr hlk X hP hD hS d_Nest_open_49
  · have he := ih_f hc he
    refine lv_aload_n hx hb d_Nest_open_9 rfl (lv_at hl 0 rfl) ?_
    refine k_get S X us_Nest hP 0 rfl rfl 0 (by decide) gm_1_102 rfl d_Nest_open_10 ?_
    refine lv_aload_n hx hb d_Nest_open_13 rfl (lv_at hl 0 rfl) ?_
    refine k_get S X us_Nest hP 0 rfl rfl 3 (by decide) gm_1_105 rfl d_Nest_open_14 ?_
    refine lv_iload_n hx hb d_Nest_open_17 rfl (lv_at hl 1 rfl) ?_
    obtain ⟨hi1, he⟩ := ih_g he
    refine va_iast hx hb X.1 hP hD hS 1 0 rfl rfl hi1 d_Nest_open_18 (fun H locs hP hD hS => ?_)
    have hP : va_P D classes [(a_t, .inr (4, [.ref a_t_ends, .ref a_t_places, .ref a_t_marks, .int t_depth])), (a_t_ends, .inl (kk 0, 20, .inl (upd t_ends (t_depth).toNatClampNeg x1))), (a_t_places, .inl (kk 0, 20, .inl t_places)), (a_t_marks, .inl (kk 0, 20, .inl t_marks))] H := hP
    have hD : va_D A [(a_t, .inr (4, [.ref a_t_ends, .ref a_t_places, .ref a_t_marks, .int t_depth])), (a_t_ends, .inl (kk 0, 20, .inl (upd t_ends (t_depth).toNatClampNeg x1))), (a_t_places, .inl (kk 0, 20, .inl t_places)), (a_t_marks, .inl (kk 0, 20, .inl t_marks))] := hD
    refine lv_aload_n hx hb d_Nest_open_19 rfl (lv_at hl 0 rfl) ?_
    refine k_get S X us_Nest hP 0 rfl rfl 1 (by decide) gm_1_103 rfl d_Nest_open_20 ?_
    refine lv_aload_n hx hb d_Nest_open_23 rfl (lv_at hl 0 rfl) ?_
    refine k_get S X us_Nest hP 0 rfl rfl 3 (by decide) gm_1_105 rfl d_Nest_open_24 ?_
    refine lv_iload_n hx hb d_Nest_open_27 rfl (lv_at hl 2 rfl) ?_
    obtain ⟨hi2, he⟩ := ih_g he
    refine va_iast hx hb X.1 hP hD hS 2 0 rfl rfl hi2 d_Nest_open_28 (fun H locs hP hD hS => ?_)
    have hP : va_P D classes [(a_t, .inr (4, [.ref a_t_ends, .ref a_t_places, .ref a_t_marks, .int t_depth])), (a_t_ends, .inl (kk 0, 20, .inl (upd t_ends (t_depth).toNatClampNeg x1))), (a_t_places, .inl (kk 0, 20, .inl (upd t_places (t_depth).toNatClampNeg x2))), (a_t_marks, .inl (kk 0, 20, .inl t_marks))] H := hP
    have hD : va_D A [(a_t, .inr (4, [.ref a_t_ends, .ref a_t_places, .ref a_t_marks, .int t_depth])), (a_t_ends, .inl (kk 0, 20, .inl (upd t_ends (t_depth).toNatClampNeg x1))), (a_t_places, .inl (kk 0, 20, .inl (upd t_places (t_depth).toNatClampNeg x2))), (a_t_marks, .inl (kk 0, 20, .inl t_marks))] := hD
    refine lv_aload_n hx hb d_Nest_open_29 rfl (lv_at hl 0 rfl) ?_
    refine k_get S X us_Nest hP 0 rfl rfl 2 (by decide) gm_1_104 rfl d_Nest_open_30 ?_
    refine lv_aload_n hx hb d_Nest_open_33 rfl (lv_at hl 0 rfl) ?_
    refine k_get S X us_Nest hP 0 rfl rfl 3 (by decide) gm_1_105 rfl d_Nest_open_34 ?_
    refine lv_iload_n hx hb d_Nest_open_37 rfl (lv_at hl 3 rfl) ?_
    obtain ⟨hi3, he⟩ := ih_g he
    refine va_iast hx hb X.1 hP hD hS 3 0 rfl rfl hi3 d_Nest_open_38 (fun H locs hP hD hS => ?_)
    have hP : va_P D classes [(a_t, .inr (4, [.ref a_t_ends, .ref a_t_places, .ref a_t_marks, .int t_depth])), (a_t_ends, .inl (kk 0, 20, .inl (upd t_ends (t_depth).toNatClampNeg x1))), (a_t_places, .inl (kk 0, 20, .inl (upd t_places (t_depth).toNatClampNeg x2))), (a_t_marks, .inl (kk 0, 20, .inl (upd t_marks (t_depth).toNatClampNeg x3)))] H := hP
    have hD : va_D A [(a_t, .inr (4, [.ref a_t_ends, .ref a_t_places, .ref a_t_marks, .int t_depth])), (a_t_ends, .inl (kk 0, 20, .inl (upd t_ends (t_depth).toNatClampNeg x1))), (a_t_places, .inl (kk 0, 20, .inl (upd t_places (t_depth).toNatClampNeg x2))), (a_t_marks, .inl (kk 0, 20, .inl (upd t_marks (t_depth).toNatClampNeg x3)))] := hD
    refine lv_aload_n hx hb d_Nest_open_39 rfl (lv_at hl 0 rfl) ?_
    refine lv_dup hx hb d_Nest_open_40 rfl ?_
    refine k_get S X us_Nest hP 0 rfl rfl 3 (by decide) gm_1_105 rfl d_Nest_open_41 ?_
    refine lv_iconst (v := (1 : Int32)) hx hb d_Nest_open_44 (by decide) ?_
    refine lv_iadd hx hb d_Nest_open_45 ?_
    refine k_put S X us_Nest t_Nest t_Nest_ok n_Nest hP hD hS 0 rfl rfl 3 (by decide) gm_1_105 rfl rfl rfl (Nat.le_of_ble_eq_true rfl) d_Nest_open_46 (fun H locs hP hD hS => ?_)
    have hP : va_P D classes [(a_t, .inr (4, [.ref a_t_ends, .ref a_t_places, .ref a_t_marks, .int (t_depth + (1 : Int32))])), (a_t_ends, .inl (kk 0, 20, .inl (upd t_ends (t_depth).toNatClampNeg x1))), (a_t_places, .inl (kk 0, 20, .inl (upd t_places (t_depth).toNatClampNeg x2))), (a_t_marks, .inl (kk 0, 20, .inl (upd t_marks (t_depth).toNatClampNeg x3)))] H := hP
    have hD : va_D A [(a_t, .inr (4, [.ref a_t_ends, .ref a_t_places, .ref a_t_marks, .int (t_depth + (1 : Int32))])), (a_t_ends, .inl (kk 0, 20, .inl (upd t_ends (t_depth).toNatClampNeg x1))), (a_t_places, .inl (kk 0, 20, .inl (upd t_places (t_depth).toNatClampNeg x2))), (a_t_marks, .inl (kk 0, 20, .inl (upd t_marks (t_depth).toNatClampNeg x3)))] := hD
    cases he
    exact k_vre hx hb hr hlk X hP hD hS d_Nest_open_49
abbrev rm_Nest_closeBefore : Room := { frames := 0, cells := 0, slots := 0, locals := 0 }
set_option maxHeartbeats 4000000 in
set_option maxRecDepth 100000 in
theorem w_Nest_closeBefore_0 {p : Program} {l : Launch} {e : Env} {s : State} {m : MethodId} {args : Array Value} {below : List Frame} {meth : Method} {c : Code} {Q : State → Prop} {A : Nat → Prop} {D : va_G} {kk : Nat → ClassId} {st : Nat → Nat} (a_t a_t_ends a_t_places a_t_marks : Nat) (t_ends : Nat → Int32) (x1 : Int32) (S : CallFix p m c b_Nest_closeBefore 2 s args GW y_Nest_closeBefore.cls) (hr : meth.sig.returnType = none) (hlk : meth.locks = false) (hA : ∀ q, s.heap.size ≤ q → A q) (X : KX D kk st A s) : ∀ (n : Nat) (t_depth : Int32) (v : Int32) (H : Heap) (locs : List Loc) (ls : Array Slot), lp_Nest_closeBefore_0 t_ends x1 n t_depth = some v → lv_has ls 2 [(0, .ref a_t), (1, .int x1)] → va_P D classes [(a_t, .inr (4, [.ref a_t_ends, .ref a_t_places, .ref a_t_marks, .int t_depth])), (a_t_ends, .inl (kk 0, 20, .inl t_ends))] H → va_D A [(a_t, .inr (4, [.ref a_t_ends, .ref a_t_places, .ref a_t_marks, .int t_depth])), (a_t_ends, .inl (kk 0, 20, .inl t_ends))] → va_S A s.heap H locs → (∀ (H : Heap) (locs : List Loc) (ls : Array Slot), lv_has ls 2 [(0, .ref a_t), (1, .int x1)] → va_P D classes [(a_t, .inr (4, [.ref a_t_ends, .ref a_t_places, .ref a_t_marks, .int v])), (a_t_ends, .inl (kk 0, 20, .inl t_ends))] H → va_D A [(a_t, .inr (4, [.ref a_t_ends, .ref a_t_places, .ref a_t_marks, .int v])), (a_t_ends, .inl (kk 0, 20, .inl t_ends))] → va_S A s.heap H locs → W p l e rm_Nest_closeBefore s m args below meth c H locs 0 0 Q (F0 m 35 ls [])) → W p l e rm_Nest_closeBefore s m args below meth c H locs 0 0 Q (F0 m 0 ls []) := by
  intro n
  induction n with
  | zero =>
    intro t_depth v H locs ls he hl hP hD hS K
    exact ih_n he
  | succ n ih =>
    intro t_depth v H locs ls he hl hP hD hS K
    have hx := S.1
    have hb := S.2.1
    have he : st_Nest_closeBefore_0 t_ends x1 (lp_Nest_closeBefore_0 t_ends x1 n) t_depth = some v := he
    unfold st_Nest_closeBefore_0 at he
    refine lv_aload_n hx hb d_Nest_closeBefore_0 rfl (lv_at hl 0 rfl) ?_
    refine k_get S X us_Nest hP 0 rfl rfl 3 (by decide) gm_1_105 rfl d_Nest_closeBefore_1 ?_
    refine lv_if_le (tgt := 35) hx hb d_Nest_closeBefore_4 rfl (fun hc => ?_) (fun hc => ?_)
    · have he := ih_t hc he
      have hl : lv_has ls 2 [(0, .ref a_t), (1, .int x1)] := lv_sub hl [0, 1] rfl
      cases he
      exact K _ _ _ hl hP hD hS
    · have he := ih_f hc he
      refine lv_aload_n hx hb d_Nest_closeBefore_7 rfl (lv_at hl 0 rfl) ?_
      refine k_get S X us_Nest hP 0 rfl rfl 0 (by decide) gm_1_102 rfl d_Nest_closeBefore_8 ?_
      refine lv_aload_n hx hb d_Nest_closeBefore_11 rfl (lv_at hl 0 rfl) ?_
      refine k_get S X us_Nest hP 0 rfl rfl 3 (by decide) gm_1_105 rfl d_Nest_closeBefore_12 ?_
      refine lv_iconst (v := (1 : Int32)) hx hb d_Nest_closeBefore_15 (by decide) ?_
      refine lv_isub hx hb d_Nest_closeBefore_16 ?_
      obtain ⟨hi1, he⟩ := ih_g he
      refine va_iald hx hb X.1 hP 1 0 rfl rfl hi1 d_Nest_closeBefore_17 ?_
      refine lv_iload_n hx hb d_Nest_closeBefore_18 rfl (lv_at hl 1 rfl) ?_
      refine lv_icmp_gt (tgt := 35) hx hb d_Nest_closeBefore_19 rfl (fun hc => ?_) (fun hc => ?_)
      · have he := ih_t hc he
        have hl : lv_has ls 2 [(0, .ref a_t), (1, .int x1)] := lv_sub hl [0, 1] rfl
        cases he
        exact K _ _ _ hl hP hD hS
      · have he := ih_f hc he
        refine lv_aload_n hx hb d_Nest_closeBefore_22 rfl (lv_at hl 0 rfl) ?_
        refine lv_dup hx hb d_Nest_closeBefore_23 rfl ?_
        refine k_get S X us_Nest hP 0 rfl rfl 3 (by decide) gm_1_105 rfl d_Nest_closeBefore_24 ?_
        refine lv_iconst (v := (1 : Int32)) hx hb d_Nest_closeBefore_27 (by decide) ?_
        refine lv_isub hx hb d_Nest_closeBefore_28 ?_
        refine k_put S X us_Nest t_Nest t_Nest_ok n_Nest hP hD hS 0 rfl rfl 3 (by decide) gm_1_105 rfl rfl rfl (Nat.le_of_ble_eq_true rfl) d_Nest_closeBefore_29 (fun H locs hP hD hS => ?_)
        have hP : va_P D classes [(a_t, .inr (4, [.ref a_t_ends, .ref a_t_places, .ref a_t_marks, .int (t_depth - (1 : Int32))])), (a_t_ends, .inl (kk 0, 20, .inl t_ends))] H := hP
        have hD : va_D A [(a_t, .inr (4, [.ref a_t_ends, .ref a_t_places, .ref a_t_marks, .int (t_depth - (1 : Int32))])), (a_t_ends, .inl (kk 0, 20, .inl t_ends))] := hD
        refine lv_goto (tgt := 0) hx hb d_Nest_closeBefore_32 rfl ?_
        have hl : lv_has ls 2 [(0, .ref a_t), (1, .int x1)] := lv_sub hl [0, 1] rfl
        exact ih _ _ _ _ _ he hl hP hD hS K
set_option maxHeartbeats 4000000 in
set_option maxRecDepth 100000 in
theorem c_Nest_closeBefore (l : Launch) (D : va_G) (kk : Nat → ClassId) (st : Nat → Nat) (a_t a_t_ends a_t_places a_t_marks : Nat) (sz : Nat) (t_depth : Int32) (t_ends : Nat → Int32) (x1 : Int32) (o : Int32) (he : f_Nest_closeBefore t_depth t_ends x1 = some o) : Met l y_Nest_closeBefore (Cond.code y_Nest_closeBefore b_Nest_closeBefore 2 none :: GW) rm_Nest_closeBefore (KPc D kk st [.ref a_t, .int x1] [(a_t, .inr (4, [.ref a_t_ends, .ref a_t_places, .ref a_t_marks, .int t_depth])), (a_t_ends, .inl (kk 0, 20, .inl t_ends))] sz) (KQv D kk [(a_t, .inr (4, [.ref a_t_ends, .ref a_t_places, .ref a_t_marks, .int o])), (a_t_ends, .inl (kk 0, 20, .inl t_ends))] (va_A [(a_t, .inr (4, [.ref a_t_ends, .ref a_t_places, .ref a_t_marks, .int t_depth])), (a_t_ends, .inl (kk 0, 20, .inl t_ends))] sz)) 0 0 (va_A [(a_t, .inr (4, [.ref a_t_ends, .ref a_t_places, .ref a_t_marks, .int t_depth])), (a_t_ends, .inl (kk 0, 20, .inl t_ends))] sz) := by
  refine k_start (Qc := fun A => KQv D kk [(a_t, .inr (4, [.ref a_t_ends, .ref a_t_places, .ref a_t_marks, .int o])), (a_t_ends, .inl (kk 0, 20, .inl t_ends))] A) (by decide) (Nat.le_of_ble_eq_true rfl) ?_
  intro p e s m below meth c A ls S hnm hr hlk hA X hP hD hS hl
  have hl : lv_has ls 2 [(0, .ref a_t), (1, .int x1)] := hl
  have hx := S.1
  have hb := S.2.1
  unfold f_Nest_closeBefore at he
  obtain ⟨u2, e3, he⟩ := ih_b he
  have hl : lv_has ls 2 [(0, .ref a_t), (1, .int x1)] := lv_sub hl [0, 1] rfl
  refine w_Nest_closeBefore_0 a_t a_t_ends a_t_places a_t_marks t_ends x1 S hr hlk hA X FU t_depth u2 _ _ ls e3 hl hP hD hS (fun H locs ls hl hP hD hS => ?_)
  cases he
  exact k_vre hx hb hr hlk X hP hD hS d_Nest_closeBefore_35
abbrev rm_Nest_isEmpty : Room := { frames := 0, cells := 0, slots := 0, locals := 0 }
set_option maxHeartbeats 4000000 in
set_option maxRecDepth 100000 in
theorem c_Nest_isEmpty (l : Launch) (D : va_G) (kk : Nat → ClassId) (st : Nat → Nat) (a_t a_t_ends a_t_places a_t_marks : Nat) (sz : Nat) (t_depth : Int32) (o : Int32) (he : f_Nest_isEmpty t_depth = some o) : Met l y_Nest_isEmpty (Cond.code y_Nest_isEmpty b_Nest_isEmpty 1 (some .boolean) :: GW) rm_Nest_isEmpty (KPc D kk st [.ref a_t] [(a_t, .inr (4, [.ref a_t_ends, .ref a_t_places, .ref a_t_marks, .int t_depth]))] sz) (KQi D kk o [(a_t, .inr (4, [.ref a_t_ends, .ref a_t_places, .ref a_t_marks, .int t_depth]))] (va_A [(a_t, .inr (4, [.ref a_t_ends, .ref a_t_places, .ref a_t_marks, .int t_depth]))] sz)) 0 0 (va_A [(a_t, .inr (4, [.ref a_t_ends, .ref a_t_places, .ref a_t_marks, .int t_depth]))] sz) := by
  refine k_start (Qc := fun A => KQi D kk o [(a_t, .inr (4, [.ref a_t_ends, .ref a_t_places, .ref a_t_marks, .int t_depth]))] A) (by decide) (Nat.le_of_ble_eq_true rfl) ?_
  intro p e s m below meth c A ls S hnm hr hlk hA X hP hD hS hl
  have hl : lv_has ls 1 [(0, .ref a_t)] := hl
  have hx := S.1
  have hb := S.2.1
  unfold f_Nest_isEmpty at he
  refine lv_aload_n hx hb d_Nest_isEmpty_0 rfl (lv_at hl 0 rfl) ?_
  refine k_get S X us_Nest hP 0 rfl rfl 3 (by decide) gm_1_105 rfl d_Nest_isEmpty_1 ?_
  refine lv_if_ne (tgt := 11) hx hb d_Nest_isEmpty_4 rfl (fun hc => ?_) (fun hc => ?_)
  · have he := ih_f hc he
    refine lv_iconst (v := (0 : Int32)) hx hb d_Nest_isEmpty_11 (by decide) ?_
    cases he
    exact k_zre hx hb hr hlk X hP hD hS (Or.inl rfl) d_Nest_isEmpty_12
  · have he := ih_t hc he
    refine lv_iconst (v := (1 : Int32)) hx hb d_Nest_isEmpty_7 (by decide) ?_
    refine lv_goto (tgt := 12) hx hb d_Nest_isEmpty_8 rfl ?_
    cases he
    exact k_zre hx hb hr hlk X hP hD hS (Or.inr rfl) d_Nest_isEmpty_12
abbrev rm_Nest_limit : Room := { frames := 0, cells := 0, slots := 0, locals := 0 }
set_option maxHeartbeats 4000000 in
set_option maxRecDepth 100000 in
theorem c_Nest_limit (l : Launch) (D : va_G) (kk : Nat → ClassId) (st : Nat → Nat) (a_t a_t_ends a_t_places a_t_marks : Nat) (sz : Nat) (t_depth : Int32) (t_ends : Nat → Int32) (x1 : Int32) (o : Int32) (he : f_Nest_limit t_depth t_ends x1 = some o) : Met l y_Nest_limit (Cond.code y_Nest_limit b_Nest_limit 2 (some .int) :: GW) rm_Nest_limit (KPc D kk st [.ref a_t, .int x1] [(a_t, .inr (4, [.ref a_t_ends, .ref a_t_places, .ref a_t_marks, .int t_depth])), (a_t_ends, .inl (kk 0, 20, .inl t_ends))] sz) (KQi D kk o [(a_t, .inr (4, [.ref a_t_ends, .ref a_t_places, .ref a_t_marks, .int t_depth])), (a_t_ends, .inl (kk 0, 20, .inl t_ends))] (va_A [(a_t, .inr (4, [.ref a_t_ends, .ref a_t_places, .ref a_t_marks, .int t_depth])), (a_t_ends, .inl (kk 0, 20, .inl t_ends))] sz)) 0 0 (va_A [(a_t, .inr (4, [.ref a_t_ends, .ref a_t_places, .ref a_t_marks, .int t_depth])), (a_t_ends, .inl (kk 0, 20, .inl t_ends))] sz) := by
  refine k_start (Qc := fun A => KQi D kk o [(a_t, .inr (4, [.ref a_t_ends, .ref a_t_places, .ref a_t_marks, .int t_depth])), (a_t_ends, .inl (kk 0, 20, .inl t_ends))] A) (by decide) (Nat.le_of_ble_eq_true rfl) ?_
  intro p e s m below meth c A ls S hnm hr hlk hA X hP hD hS hl
  have hl : lv_has ls 2 [(0, .ref a_t), (1, .int x1)] := hl
  have hx := S.1
  have hb := S.2.1
  unfold f_Nest_limit at he
  refine lv_aload_n hx hb d_Nest_limit_0 rfl (lv_at hl 0 rfl) ?_
  refine k_get S X us_Nest hP 0 rfl rfl 3 (by decide) gm_1_105 rfl d_Nest_limit_1 ?_
  refine lv_if_le (tgt := 21) hx hb d_Nest_limit_4 rfl (fun hc => ?_) (fun hc => ?_)
  · have he := ih_t hc he
    refine lv_iload_n hx hb d_Nest_limit_21 rfl (lv_at hl 1 rfl) ?_
    cases he
    exact k_ire hx hb hr hlk X hP hD hS d_Nest_limit_22
  · have he := ih_f hc he
    refine lv_aload_n hx hb d_Nest_limit_7 rfl (lv_at hl 0 rfl) ?_
    refine k_get S X us_Nest hP 0 rfl rfl 0 (by decide) gm_1_102 rfl d_Nest_limit_8 ?_
    refine lv_aload_n hx hb d_Nest_limit_11 rfl (lv_at hl 0 rfl) ?_
    refine k_get S X us_Nest hP 0 rfl rfl 3 (by decide) gm_1_105 rfl d_Nest_limit_12 ?_
    refine lv_iconst (v := (1 : Int32)) hx hb d_Nest_limit_15 (by decide) ?_
    refine lv_isub hx hb d_Nest_limit_16 ?_
    obtain ⟨hi1, he⟩ := ih_g he
    refine va_iald hx hb X.1 hP 1 0 rfl rfl hi1 d_Nest_limit_17 ?_
    refine lv_goto (tgt := 22) hx hb d_Nest_limit_18 rfl ?_
    cases he
    exact k_ire hx hb hr hlk X hP hD hS d_Nest_limit_22
abbrev rm_Nest_place : Room := { frames := 0, cells := 0, slots := 0, locals := 0 }
set_option maxHeartbeats 4000000 in
set_option maxRecDepth 100000 in
theorem c_Nest_place (l : Launch) (D : va_G) (kk : Nat → ClassId) (st : Nat → Nat) (a_t a_t_places a_t_ends a_t_marks : Nat) (sz : Nat) (t_depth : Int32) (t_places : Nat → Int32) (o : Int32) (he : f_Nest_place t_depth t_places = some o) : Met l y_Nest_place (Cond.code y_Nest_place b_Nest_place 1 (some .int) :: GW) rm_Nest_place (KPc D kk st [.ref a_t] [(a_t, .inr (4, [.ref a_t_ends, .ref a_t_places, .ref a_t_marks, .int t_depth])), (a_t_places, .inl (kk 0, 20, .inl t_places))] sz) (KQi D kk o [(a_t, .inr (4, [.ref a_t_ends, .ref a_t_places, .ref a_t_marks, .int t_depth])), (a_t_places, .inl (kk 0, 20, .inl t_places))] (va_A [(a_t, .inr (4, [.ref a_t_ends, .ref a_t_places, .ref a_t_marks, .int t_depth])), (a_t_places, .inl (kk 0, 20, .inl t_places))] sz)) 0 0 (va_A [(a_t, .inr (4, [.ref a_t_ends, .ref a_t_places, .ref a_t_marks, .int t_depth])), (a_t_places, .inl (kk 0, 20, .inl t_places))] sz) := by
  refine k_start (Qc := fun A => KQi D kk o [(a_t, .inr (4, [.ref a_t_ends, .ref a_t_places, .ref a_t_marks, .int t_depth])), (a_t_places, .inl (kk 0, 20, .inl t_places))] A) (by decide) (Nat.le_of_ble_eq_true rfl) ?_
  intro p e s m below meth c A ls S hnm hr hlk hA X hP hD hS hl
  have hl : lv_has ls 1 [(0, .ref a_t)] := hl
  have hx := S.1
  have hb := S.2.1
  unfold f_Nest_place at he
  refine lv_aload_n hx hb d_Nest_place_0 rfl (lv_at hl 0 rfl) ?_
  refine k_get S X us_Nest hP 0 rfl rfl 3 (by decide) gm_1_105 rfl d_Nest_place_1 ?_
  refine lv_if_le (tgt := 21) hx hb d_Nest_place_4 rfl (fun hc => ?_) (fun hc => ?_)
  · have he := ih_t hc he
    refine lv_iconst (v := (0 : Int32)) hx hb d_Nest_place_21 (by decide) ?_
    cases he
    exact k_ire hx hb hr hlk X hP hD hS d_Nest_place_22
  · have he := ih_f hc he
    refine lv_aload_n hx hb d_Nest_place_7 rfl (lv_at hl 0 rfl) ?_
    refine k_get S X us_Nest hP 0 rfl rfl 1 (by decide) gm_1_103 rfl d_Nest_place_8 ?_
    refine lv_aload_n hx hb d_Nest_place_11 rfl (lv_at hl 0 rfl) ?_
    refine k_get S X us_Nest hP 0 rfl rfl 3 (by decide) gm_1_105 rfl d_Nest_place_12 ?_
    refine lv_iconst (v := (1 : Int32)) hx hb d_Nest_place_15 (by decide) ?_
    refine lv_isub hx hb d_Nest_place_16 ?_
    obtain ⟨hi1, he⟩ := ih_g he
    refine va_iald hx hb X.1 hP 1 0 rfl rfl hi1 d_Nest_place_17 ?_
    refine lv_goto (tgt := 22) hx hb d_Nest_place_18 rfl ?_
    cases he
    exact k_ire hx hb hr hlk X hP hD hS d_Nest_place_22
abbrev rm_Nest_mark : Room := { frames := 0, cells := 0, slots := 0, locals := 0 }
set_option maxHeartbeats 4000000 in
set_option maxRecDepth 100000 in
theorem c_Nest_mark (l : Launch) (D : va_G) (kk : Nat → ClassId) (st : Nat → Nat) (a_t a_t_marks a_t_ends a_t_places : Nat) (sz : Nat) (t_depth : Int32) (t_marks : Nat → Int32) (o : Int32) (he : f_Nest_mark t_depth t_marks = some o) : Met l y_Nest_mark (Cond.code y_Nest_mark b_Nest_mark 1 (some .int) :: GW) rm_Nest_mark (KPc D kk st [.ref a_t] [(a_t, .inr (4, [.ref a_t_ends, .ref a_t_places, .ref a_t_marks, .int t_depth])), (a_t_marks, .inl (kk 0, 20, .inl t_marks))] sz) (KQi D kk o [(a_t, .inr (4, [.ref a_t_ends, .ref a_t_places, .ref a_t_marks, .int t_depth])), (a_t_marks, .inl (kk 0, 20, .inl t_marks))] (va_A [(a_t, .inr (4, [.ref a_t_ends, .ref a_t_places, .ref a_t_marks, .int t_depth])), (a_t_marks, .inl (kk 0, 20, .inl t_marks))] sz)) 0 0 (va_A [(a_t, .inr (4, [.ref a_t_ends, .ref a_t_places, .ref a_t_marks, .int t_depth])), (a_t_marks, .inl (kk 0, 20, .inl t_marks))] sz) := by
  refine k_start (Qc := fun A => KQi D kk o [(a_t, .inr (4, [.ref a_t_ends, .ref a_t_places, .ref a_t_marks, .int t_depth])), (a_t_marks, .inl (kk 0, 20, .inl t_marks))] A) (by decide) (Nat.le_of_ble_eq_true rfl) ?_
  intro p e s m below meth c A ls S hnm hr hlk hA X hP hD hS hl
  have hl : lv_has ls 1 [(0, .ref a_t)] := hl
  have hx := S.1
  have hb := S.2.1
  unfold f_Nest_mark at he
  refine lv_aload_n hx hb d_Nest_mark_0 rfl (lv_at hl 0 rfl) ?_
  refine k_get S X us_Nest hP 0 rfl rfl 3 (by decide) gm_1_105 rfl d_Nest_mark_1 ?_
  refine lv_if_le (tgt := 21) hx hb d_Nest_mark_4 rfl (fun hc => ?_) (fun hc => ?_)
  · have he := ih_t hc he
    refine lv_iconst (v := (0 : Int32)) hx hb d_Nest_mark_21 (by decide) ?_
    cases he
    exact k_ire hx hb hr hlk X hP hD hS d_Nest_mark_22
  · have he := ih_f hc he
    refine lv_aload_n hx hb d_Nest_mark_7 rfl (lv_at hl 0 rfl) ?_
    refine k_get S X us_Nest hP 0 rfl rfl 2 (by decide) gm_1_104 rfl d_Nest_mark_8 ?_
    refine lv_aload_n hx hb d_Nest_mark_11 rfl (lv_at hl 0 rfl) ?_
    refine k_get S X us_Nest hP 0 rfl rfl 3 (by decide) gm_1_105 rfl d_Nest_mark_12 ?_
    refine lv_iconst (v := (1 : Int32)) hx hb d_Nest_mark_15 (by decide) ?_
    refine lv_isub hx hb d_Nest_mark_16 ?_
    obtain ⟨hi1, he⟩ := ih_g he
    refine va_iald hx hb X.1 hP 1 0 rfl rfl hi1 d_Nest_mark_17 ?_
    refine lv_goto (tgt := 22) hx hb d_Nest_mark_18 rfl ?_
    cases he
    exact k_ire hx hb hr hlk X hP hD hS d_Nest_mark_22
abbrev rm_Known_learn : Room := { frames := 0, cells := 0, slots := 0, locals := 0 }
set_option maxHeartbeats 4000000 in
set_option maxRecDepth 100000 in
theorem c_Known_learn (l : Launch) (D : va_G) (kk : Nat → ClassId) (st : Nat → Nat) (a_t a_t_values a_t_flags a_t_order : Nat) (sz : Nat) (t_size : Int32) (t_values : Nat → Int32) (t_flags : Nat → Int32) (t_order : Nat → Int32) (x1 : Int32) (x2 : Int32) (o : Int32 × Int32 × (Nat → Int32) × (Nat → Int32) × (Nat → Int32)) (he : f_Known_learn t_size t_values t_flags t_order x1 x2 = some o) : Met l y_Known_learn (Cond.code y_Known_learn b_Known_learn 3 (some .boolean) :: GW) rm_Known_learn (KPc D kk st [.ref a_t, .int x1, .int x2] [(a_t, .inr (7, [.ref a_t_values, .ref a_t_flags, .ref a_t_order, .int t_size])), (a_t_values, .inl (kk 0, 14, .inl t_values)), (a_t_flags, .inl (kk 2, 14, .inl t_flags)), (a_t_order, .inl (kk 0, 14, .inl t_order))] sz) (KQi D kk o.1 [(a_t, .inr (7, [.ref a_t_values, .ref a_t_flags, .ref a_t_order, .int o.2.1])), (a_t_values, .inl (kk 0, 14, .inl o.2.2.1)), (a_t_flags, .inl (kk 2, 14, .inl o.2.2.2.1)), (a_t_order, .inl (kk 0, 14, .inl o.2.2.2.2))] (va_A [(a_t, .inr (7, [.ref a_t_values, .ref a_t_flags, .ref a_t_order, .int t_size])), (a_t_values, .inl (kk 0, 14, .inl t_values)), (a_t_flags, .inl (kk 2, 14, .inl t_flags)), (a_t_order, .inl (kk 0, 14, .inl t_order))] sz)) 0 0 (va_A [(a_t, .inr (7, [.ref a_t_values, .ref a_t_flags, .ref a_t_order, .int t_size])), (a_t_values, .inl (kk 0, 14, .inl t_values)), (a_t_flags, .inl (kk 2, 14, .inl t_flags)), (a_t_order, .inl (kk 0, 14, .inl t_order))] sz) := by
  refine k_start (Qc := fun A => KQi D kk o.1 [(a_t, .inr (7, [.ref a_t_values, .ref a_t_flags, .ref a_t_order, .int o.2.1])), (a_t_values, .inl (kk 0, 14, .inl o.2.2.1)), (a_t_flags, .inl (kk 2, 14, .inl o.2.2.2.1)), (a_t_order, .inl (kk 0, 14, .inl o.2.2.2.2))] A) (by decide) (Nat.le_of_ble_eq_true rfl) ?_
  intro p e s m below meth c A ls S hnm hr hlk hA X hP hD hS hl
  have hl : lv_has ls 3 [(0, .ref a_t), (1, .int x1), (2, .int x2)] := hl
  have hx := S.1
  have hb := S.2.1
  unfold f_Known_learn at he
  refine lv_iload_n hx hb d_Known_learn_0 rfl (lv_at hl 1 rfl) ?_
  refine lv_if_lt (tgt := 10) hx hb d_Known_learn_1 rfl (fun hc => ?_) (fun hc => ?_)
  · have he := ih_t hc he
    refine lv_iconst (v := (0 : Int32)) hx hb d_Known_learn_10 (by decide) ?_
    cases he
    exact k_zre hx hb hr hlk X hP hD hS (Or.inl rfl) d_Known_learn_11
  · have he := ih_f hc he
    refine lv_iload_n hx hb d_Known_learn_4 rfl (lv_at hl 1 rfl) ?_
    refine lv_bipush (v := (14 : Int32)) hx hb d_Known_learn_5 (by decide) ?_
    refine lv_icmp_lt (tgt := 12) hx hb d_Known_learn_7 rfl (fun hc => ?_) (fun hc => ?_)
    · have he := ih_t hc he
      refine lv_aload_n hx hb d_Known_learn_12 rfl (lv_at hl 0 rfl) ?_
      refine k_get S X us_Known hP 0 rfl rfl 1 (by decide) gm_1_136 rfl d_Known_learn_13 ?_
      refine lv_iload_n hx hb d_Known_learn_16 rfl (lv_at hl 1 rfl) ?_
      obtain ⟨hi1, he⟩ := ih_g he
      refine va_zald hx hb X.1 hP 2 2 rfl rfl hi1 d_Known_learn_17 ?_
      refine lv_if_eq (tgt := 37) hx hb d_Known_learn_18 rfl (fun hc => ?_) (fun hc => ?_)
      · have he := ih_t hc he
        refine lv_aload_n hx hb d_Known_learn_37 rfl (lv_at hl 0 rfl) ?_
        refine k_get S X us_Known hP 0 rfl rfl 3 (by decide) gm_1_138 rfl d_Known_learn_38 ?_
        refine lv_bipush (v := (14 : Int32)) hx hb d_Known_learn_41 (by decide) ?_
        refine lv_icmp_lt (tgt := 48) hx hb d_Known_learn_43 rfl (fun hc => ?_) (fun hc => ?_)
        · have he := ih_t hc he
          refine lv_aload_n hx hb d_Known_learn_48 rfl (lv_at hl 0 rfl) ?_
          refine k_get S X us_Known hP 0 rfl rfl 0 (by decide) gm_1_135 rfl d_Known_learn_49 ?_
          refine lv_iload_n hx hb d_Known_learn_52 rfl (lv_at hl 1 rfl) ?_
          refine lv_iload_n hx hb d_Known_learn_53 rfl (lv_at hl 2 rfl) ?_
          obtain ⟨hi2, he⟩ := ih_g he
          refine va_iast hx hb X.1 hP hD hS 1 0 rfl rfl hi2 d_Known_learn_54 (fun H locs hP hD hS => ?_)
          have hP : va_P D classes [(a_t, .inr (7, [.ref a_t_values, .ref a_t_flags, .ref a_t_order, .int t_size])), (a_t_values, .inl (kk 0, 14, .inl (upd t_values (x1).toNatClampNeg x2))), (a_t_flags, .inl (kk 2, 14, .inl t_flags)), (a_t_order, .inl (kk 0, 14, .inl t_order))] H := hP
          have hD : va_D A [(a_t, .inr (7, [.ref a_t_values, .ref a_t_flags, .ref a_t_order, .int t_size])), (a_t_values, .inl (kk 0, 14, .inl (upd t_values (x1).toNatClampNeg x2))), (a_t_flags, .inl (kk 2, 14, .inl t_flags)), (a_t_order, .inl (kk 0, 14, .inl t_order))] := hD
          refine lv_aload_n hx hb d_Known_learn_55 rfl (lv_at hl 0 rfl) ?_
          refine k_get S X us_Known hP 0 rfl rfl 1 (by decide) gm_1_136 rfl d_Known_learn_56 ?_
          refine lv_iload_n hx hb d_Known_learn_59 rfl (lv_at hl 1 rfl) ?_
          refine lv_iconst (v := (1 : Int32)) hx hb d_Known_learn_60 (by decide) ?_
          obtain ⟨hi3, he⟩ := ih_g he
          refine va_zast hx hb X.1 hP hD hS 2 2 rfl rfl hi3 d_Known_learn_61 (fun H locs hP hD hS => ?_)
          have hP : va_P D classes [(a_t, .inr (7, [.ref a_t_values, .ref a_t_flags, .ref a_t_order, .int t_size])), (a_t_values, .inl (kk 0, 14, .inl (upd t_values (x1).toNatClampNeg x2))), (a_t_flags, .inl (kk 2, 14, .inl (upd t_flags (x1).toNatClampNeg (vp_nar .boolean (1 : Int32))))), (a_t_order, .inl (kk 0, 14, .inl t_order))] H := hP
          have hD : va_D A [(a_t, .inr (7, [.ref a_t_values, .ref a_t_flags, .ref a_t_order, .int t_size])), (a_t_values, .inl (kk 0, 14, .inl (upd t_values (x1).toNatClampNeg x2))), (a_t_flags, .inl (kk 2, 14, .inl (upd t_flags (x1).toNatClampNeg (vp_nar .boolean (1 : Int32))))), (a_t_order, .inl (kk 0, 14, .inl t_order))] := hD
          refine lv_aload_n hx hb d_Known_learn_62 rfl (lv_at hl 0 rfl) ?_
          refine k_get S X us_Known hP 0 rfl rfl 2 (by decide) gm_1_137 rfl d_Known_learn_63 ?_
          refine lv_aload_n hx hb d_Known_learn_66 rfl (lv_at hl 0 rfl) ?_
          refine k_get S X us_Known hP 0 rfl rfl 3 (by decide) gm_1_138 rfl d_Known_learn_67 ?_
          refine lv_iload_n hx hb d_Known_learn_70 rfl (lv_at hl 1 rfl) ?_
          obtain ⟨hi4, he⟩ := ih_g he
          refine va_iast hx hb X.1 hP hD hS 3 0 rfl rfl hi4 d_Known_learn_71 (fun H locs hP hD hS => ?_)
          have hP : va_P D classes [(a_t, .inr (7, [.ref a_t_values, .ref a_t_flags, .ref a_t_order, .int t_size])), (a_t_values, .inl (kk 0, 14, .inl (upd t_values (x1).toNatClampNeg x2))), (a_t_flags, .inl (kk 2, 14, .inl (upd t_flags (x1).toNatClampNeg (vp_nar .boolean (1 : Int32))))), (a_t_order, .inl (kk 0, 14, .inl (upd t_order (t_size).toNatClampNeg x1)))] H := hP
          have hD : va_D A [(a_t, .inr (7, [.ref a_t_values, .ref a_t_flags, .ref a_t_order, .int t_size])), (a_t_values, .inl (kk 0, 14, .inl (upd t_values (x1).toNatClampNeg x2))), (a_t_flags, .inl (kk 2, 14, .inl (upd t_flags (x1).toNatClampNeg (vp_nar .boolean (1 : Int32))))), (a_t_order, .inl (kk 0, 14, .inl (upd t_order (t_size).toNatClampNeg x1)))] := hD
          refine lv_aload_n hx hb d_Known_learn_72 rfl (lv_at hl 0 rfl) ?_
          refine lv_dup hx hb d_Known_learn_73 rfl ?_
          refine k_get S X us_Known hP 0 rfl rfl 3 (by decide) gm_1_138 rfl d_Known_learn_74 ?_
          refine lv_iconst (v := (1 : Int32)) hx hb d_Known_learn_77 (by decide) ?_
          refine lv_iadd hx hb d_Known_learn_78 ?_
          refine k_put S X us_Known t_Known t_Known_ok n_Known hP hD hS 0 rfl rfl 3 (by decide) gm_1_138 rfl rfl rfl (Nat.le_of_ble_eq_true rfl) d_Known_learn_79 (fun H locs hP hD hS => ?_)
          have hP : va_P D classes [(a_t, .inr (7, [.ref a_t_values, .ref a_t_flags, .ref a_t_order, .int (t_size + (1 : Int32))])), (a_t_values, .inl (kk 0, 14, .inl (upd t_values (x1).toNatClampNeg x2))), (a_t_flags, .inl (kk 2, 14, .inl (upd t_flags (x1).toNatClampNeg (vp_nar .boolean (1 : Int32))))), (a_t_order, .inl (kk 0, 14, .inl (upd t_order (t_size).toNatClampNeg x1)))] H := hP
          have hD : va_D A [(a_t, .inr (7, [.ref a_t_values, .ref a_t_flags, .ref a_t_order, .int (t_size + (1 : Int32))])), (a_t_values, .inl (kk 0, 14, .inl (upd t_values (x1).toNatClampNeg x2))), (a_t_flags, .inl (kk 2, 14, .inl (upd t_flags (x1).toNatClampNeg (vp_nar .boolean (1 : Int32))))), (a_t_order, .inl (kk 0, 14, .inl (upd t_order (t_size).toNatClampNeg x1)))] := hD
          refine lv_iconst (v := (1 : Int32)) hx hb d_Known_learn_82 (by decide) ?_
          cases he
          exact k_zre hx hb hr hlk X hP hD hS (Or.inr rfl) d_Known_learn_83
        · have he := ih_f hc he
          refine lv_iconst (v := (0 : Int32)) hx hb d_Known_learn_46 (by decide) ?_
          cases he
          exact k_zre hx hb hr hlk X hP hD hS (Or.inl rfl) d_Known_learn_47
      · have he := ih_f hc he
        refine lv_aload_n hx hb d_Known_learn_21 rfl (lv_at hl 0 rfl) ?_
        refine k_get S X us_Known hP 0 rfl rfl 0 (by decide) gm_1_135 rfl d_Known_learn_22 ?_
        refine lv_iload_n hx hb d_Known_learn_25 rfl (lv_at hl 1 rfl) ?_
        obtain ⟨hi5, he⟩ := ih_g he
        refine va_iald hx hb X.1 hP 1 0 rfl rfl hi5 d_Known_learn_26 ?_
        refine lv_iload_n hx hb d_Known_learn_27 rfl (lv_at hl 2 rfl) ?_
        refine lv_icmp_ne (tgt := 35) hx hb d_Known_learn_28 rfl (fun hc => ?_) (fun hc => ?_)
        · have he := ih_f hc he
          refine lv_iconst (v := (0 : Int32)) hx hb d_Known_learn_35 (by decide) ?_
          cases he
          exact k_zre hx hb hr hlk X hP hD hS (Or.inl rfl) d_Known_learn_36
        · have he := ih_t hc he
          refine lv_iconst (v := (1 : Int32)) hx hb d_Known_learn_31 (by decide) ?_
          refine lv_goto (tgt := 36) hx hb d_Known_learn_32 rfl ?_
          cases he
          exact k_zre hx hb hr hlk X hP hD hS (Or.inr rfl) d_Known_learn_36
    · have he := ih_f hc he
      refine lv_iconst (v := (0 : Int32)) hx hb d_Known_learn_10 (by decide) ?_
      cases he
      exact k_zre hx hb hr hlk X hP hD hS (Or.inl rfl) d_Known_learn_11
abbrev rm_Known_forget : Room := { frames := 0, cells := 0, slots := 0, locals := 0 }
set_option maxHeartbeats 4000000 in
set_option maxRecDepth 100000 in
theorem w_Known_forget_0 {p : Program} {l : Launch} {e : Env} {s : State} {m : MethodId} {args : Array Value} {below : List Frame} {meth : Method} {c : Code} {Q : State → Prop} {A : Nat → Prop} {D : va_G} {kk : Nat → ClassId} {st : Nat → Nat} (a_t a_t_flags a_t_order a_t_values : Nat) (t_order : Nat → Int32) (x1 : Int32) (S : CallFix p m c b_Known_forget 2 s args GW y_Known_forget.cls) (hr : meth.sig.returnType = none) (hlk : meth.locks = false) (hA : ∀ q, s.heap.size ≤ q → A q) (X : KX D kk st A s) : ∀ (n : Nat) (t_size : Int32) (t_flags : Nat → Int32) (v : Int32 × (Nat → Int32)) (H : Heap) (locs : List Loc) (ls : Array Slot), lp_Known_forget_0 t_order x1 n t_size t_flags = some v → lv_has ls 2 [(0, .ref a_t), (1, .int x1)] → va_P D classes [(a_t, .inr (7, [.ref a_t_values, .ref a_t_flags, .ref a_t_order, .int t_size])), (a_t_flags, .inl (kk 2, 14, .inl t_flags)), (a_t_order, .inl (kk 0, 14, .inl t_order))] H → va_D A [(a_t, .inr (7, [.ref a_t_values, .ref a_t_flags, .ref a_t_order, .int t_size])), (a_t_flags, .inl (kk 2, 14, .inl t_flags)), (a_t_order, .inl (kk 0, 14, .inl t_order))] → va_S A s.heap H locs → (∀ (H : Heap) (locs : List Loc) (ls : Array Slot), lv_has ls 2 [(0, .ref a_t), (1, .int x1)] → va_P D classes [(a_t, .inr (7, [.ref a_t_values, .ref a_t_flags, .ref a_t_order, .int v.1])), (a_t_flags, .inl (kk 2, 14, .inl v.2)), (a_t_order, .inl (kk 0, 14, .inl t_order))] H → va_D A [(a_t, .inr (7, [.ref a_t_values, .ref a_t_flags, .ref a_t_order, .int v.1])), (a_t_flags, .inl (kk 2, 14, .inl v.2)), (a_t_order, .inl (kk 0, 14, .inl t_order))] → va_S A s.heap H locs → W p l e rm_Known_forget s m args below meth c H locs 0 0 Q (F0 m 43 ls [])) → W p l e rm_Known_forget s m args below meth c H locs 0 0 Q (F0 m 0 ls []) := by
  intro n
  induction n with
  | zero =>
    intro t_size t_flags v H locs ls he hl hP hD hS K
    exact ih_n he
  | succ n ih =>
    intro t_size t_flags v H locs ls he hl hP hD hS K
    have hx := S.1
    have hb := S.2.1
    have he : st_Known_forget_0 t_order x1 (lp_Known_forget_0 t_order x1 n) t_size t_flags = some v := he
    unfold st_Known_forget_0 at he
    refine lv_aload_n hx hb d_Known_forget_0 rfl (lv_at hl 0 rfl) ?_
    refine k_get S X us_Known hP 0 rfl rfl 3 (by decide) gm_1_138 rfl d_Known_forget_1 ?_
    refine lv_if_le (tgt := 43) hx hb d_Known_forget_4 rfl (fun hc => ?_) (fun hc => ?_)
    · have he := ih_t hc he
      have hl : lv_has ls 2 [(0, .ref a_t), (1, .int x1)] := lv_sub hl [0, 1] rfl
      cases he
      exact K _ _ _ hl hP hD hS
    · have he := ih_f hc he
      refine lv_aload_n hx hb d_Known_forget_7 rfl (lv_at hl 0 rfl) ?_
      refine k_get S X us_Known hP 0 rfl rfl 3 (by decide) gm_1_138 rfl d_Known_forget_8 ?_
      refine lv_iload_n hx hb d_Known_forget_11 rfl (lv_at hl 1 rfl) ?_
      refine lv_icmp_le (tgt := 43) hx hb d_Known_forget_12 rfl (fun hc => ?_) (fun hc => ?_)
      · have he := ih_t hc he
        have hl : lv_has ls 2 [(0, .ref a_t), (1, .int x1)] := lv_sub hl [0, 1] rfl
        cases he
        exact K _ _ _ hl hP hD hS
      · have he := ih_f hc he
        refine lv_aload_n hx hb d_Known_forget_15 rfl (lv_at hl 0 rfl) ?_
        refine lv_dup hx hb d_Known_forget_16 rfl ?_
        refine k_get S X us_Known hP 0 rfl rfl 3 (by decide) gm_1_138 rfl d_Known_forget_17 ?_
        refine lv_iconst (v := (1 : Int32)) hx hb d_Known_forget_20 (by decide) ?_
        refine lv_isub hx hb d_Known_forget_21 ?_
        refine k_put S X us_Known t_Known t_Known_ok n_Known hP hD hS 0 rfl rfl 3 (by decide) gm_1_138 rfl rfl rfl (Nat.le_of_ble_eq_true rfl) d_Known_forget_22 (fun H locs hP hD hS => ?_)
        have hP : va_P D classes [(a_t, .inr (7, [.ref a_t_values, .ref a_t_flags, .ref a_t_order, .int (t_size - (1 : Int32))])), (a_t_flags, .inl (kk 2, 14, .inl t_flags)), (a_t_order, .inl (kk 0, 14, .inl t_order))] H := hP
        have hD : va_D A [(a_t, .inr (7, [.ref a_t_values, .ref a_t_flags, .ref a_t_order, .int (t_size - (1 : Int32))])), (a_t_flags, .inl (kk 2, 14, .inl t_flags)), (a_t_order, .inl (kk 0, 14, .inl t_order))] := hD
        refine lv_aload_n hx hb d_Known_forget_25 rfl (lv_at hl 0 rfl) ?_
        refine k_get S X us_Known hP 0 rfl rfl 1 (by decide) gm_1_136 rfl d_Known_forget_26 ?_
        refine lv_aload_n hx hb d_Known_forget_29 rfl (lv_at hl 0 rfl) ?_
        refine k_get S X us_Known hP 0 rfl rfl 2 (by decide) gm_1_137 rfl d_Known_forget_30 ?_
        refine lv_aload_n hx hb d_Known_forget_33 rfl (lv_at hl 0 rfl) ?_
        refine k_get S X us_Known hP 0 rfl rfl 3 (by decide) gm_1_138 rfl d_Known_forget_34 ?_
        obtain ⟨hi1, he⟩ := ih_g he
        refine va_iald hx hb X.1 hP 2 0 rfl rfl hi1 d_Known_forget_37 ?_
        refine lv_iconst (v := (0 : Int32)) hx hb d_Known_forget_38 (by decide) ?_
        obtain ⟨hi2, he⟩ := ih_g he
        refine va_zast hx hb X.1 hP hD hS 1 2 rfl rfl hi2 d_Known_forget_39 (fun H locs hP hD hS => ?_)
        have hP : va_P D classes [(a_t, .inr (7, [.ref a_t_values, .ref a_t_flags, .ref a_t_order, .int (t_size - (1 : Int32))])), (a_t_flags, .inl (kk 2, 14, .inl (upd t_flags ((t_order ((t_size - (1 : Int32))).toNatClampNeg)).toNatClampNeg (vp_nar .boolean (0 : Int32))))), (a_t_order, .inl (kk 0, 14, .inl t_order))] H := hP
        have hD : va_D A [(a_t, .inr (7, [.ref a_t_values, .ref a_t_flags, .ref a_t_order, .int (t_size - (1 : Int32))])), (a_t_flags, .inl (kk 2, 14, .inl (upd t_flags ((t_order ((t_size - (1 : Int32))).toNatClampNeg)).toNatClampNeg (vp_nar .boolean (0 : Int32))))), (a_t_order, .inl (kk 0, 14, .inl t_order))] := hD
        refine lv_goto (tgt := 0) hx hb d_Known_forget_40 rfl ?_
        have hl : lv_has ls 2 [(0, .ref a_t), (1, .int x1)] := lv_sub hl [0, 1] rfl
        exact ih _ _ _ _ _ _ he hl hP hD hS K
set_option maxHeartbeats 4000000 in
set_option maxRecDepth 100000 in
theorem c_Known_forget (l : Launch) (D : va_G) (kk : Nat → ClassId) (st : Nat → Nat) (a_t a_t_flags a_t_order a_t_values : Nat) (sz : Nat) (t_size : Int32) (t_flags : Nat → Int32) (t_order : Nat → Int32) (x1 : Int32) (o : Int32 × (Nat → Int32)) (he : f_Known_forget t_size t_flags t_order x1 = some o) : Met l y_Known_forget (Cond.code y_Known_forget b_Known_forget 2 none :: GW) rm_Known_forget (KPc D kk st [.ref a_t, .int x1] [(a_t, .inr (7, [.ref a_t_values, .ref a_t_flags, .ref a_t_order, .int t_size])), (a_t_flags, .inl (kk 2, 14, .inl t_flags)), (a_t_order, .inl (kk 0, 14, .inl t_order))] sz) (KQv D kk [(a_t, .inr (7, [.ref a_t_values, .ref a_t_flags, .ref a_t_order, .int o.1])), (a_t_flags, .inl (kk 2, 14, .inl o.2)), (a_t_order, .inl (kk 0, 14, .inl t_order))] (va_A [(a_t, .inr (7, [.ref a_t_values, .ref a_t_flags, .ref a_t_order, .int t_size])), (a_t_flags, .inl (kk 2, 14, .inl t_flags)), (a_t_order, .inl (kk 0, 14, .inl t_order))] sz)) 0 0 (va_A [(a_t, .inr (7, [.ref a_t_values, .ref a_t_flags, .ref a_t_order, .int t_size])), (a_t_flags, .inl (kk 2, 14, .inl t_flags)), (a_t_order, .inl (kk 0, 14, .inl t_order))] sz) := by
  refine k_start (Qc := fun A => KQv D kk [(a_t, .inr (7, [.ref a_t_values, .ref a_t_flags, .ref a_t_order, .int o.1])), (a_t_flags, .inl (kk 2, 14, .inl o.2)), (a_t_order, .inl (kk 0, 14, .inl t_order))] A) (by decide) (Nat.le_of_ble_eq_true rfl) ?_
  intro p e s m below meth c A ls S hnm hr hlk hA X hP hD hS hl
  have hl : lv_has ls 2 [(0, .ref a_t), (1, .int x1)] := hl
  have hx := S.1
  have hb := S.2.1
  unfold f_Known_forget at he
  obtain ⟨u3, e4, he⟩ := ih_b he
  have hl : lv_has ls 2 [(0, .ref a_t), (1, .int x1)] := lv_sub hl [0, 1] rfl
  refine w_Known_forget_0 a_t a_t_flags a_t_order a_t_values t_order x1 S hr hlk hA X FU t_size t_flags u3 _ _ ls e4 hl hP hD hS (fun H locs ls hl hP hD hS => ?_)
  cases he
  exact k_vre hx hb hr hlk X hP hD hS d_Known_forget_43
abbrev rm_Known_has : Room := { frames := 0, cells := 0, slots := 0, locals := 0 }
set_option maxHeartbeats 4000000 in
set_option maxRecDepth 100000 in
theorem c_Known_has (l : Launch) (D : va_G) (kk : Nat → ClassId) (st : Nat → Nat) (a_t a_t_flags a_t_values a_t_order : Nat) (sz : Nat) (t_size : Int32) (t_flags : Nat → Int32) (x1 : Int32) (o : Int32) (he : f_Known_has t_flags x1 = some o) : Met l y_Known_has (Cond.code y_Known_has b_Known_has 2 (some .boolean) :: GW) rm_Known_has (KPc D kk st [.ref a_t, .int x1] [(a_t, .inr (7, [.ref a_t_values, .ref a_t_flags, .ref a_t_order, .int t_size])), (a_t_flags, .inl (kk 2, 14, .inl t_flags))] sz) (KQi D kk o [(a_t, .inr (7, [.ref a_t_values, .ref a_t_flags, .ref a_t_order, .int t_size])), (a_t_flags, .inl (kk 2, 14, .inl t_flags))] (va_A [(a_t, .inr (7, [.ref a_t_values, .ref a_t_flags, .ref a_t_order, .int t_size])), (a_t_flags, .inl (kk 2, 14, .inl t_flags))] sz)) 0 0 (va_A [(a_t, .inr (7, [.ref a_t_values, .ref a_t_flags, .ref a_t_order, .int t_size])), (a_t_flags, .inl (kk 2, 14, .inl t_flags))] sz) := by
  refine k_start (Qc := fun A => KQi D kk o [(a_t, .inr (7, [.ref a_t_values, .ref a_t_flags, .ref a_t_order, .int t_size])), (a_t_flags, .inl (kk 2, 14, .inl t_flags))] A) (by decide) (Nat.le_of_ble_eq_true rfl) ?_
  intro p e s m below meth c A ls S hnm hr hlk hA X hP hD hS hl
  have hl : lv_has ls 2 [(0, .ref a_t), (1, .int x1)] := hl
  have hx := S.1
  have hb := S.2.1
  unfold f_Known_has at he
  refine lv_iload_n hx hb d_Known_has_0 rfl (lv_at hl 1 rfl) ?_
  refine lv_if_lt (tgt := 23) hx hb d_Known_has_1 rfl (fun hc => ?_) (fun hc => ?_)
  · have he := ih_t hc he
    refine lv_iconst (v := (0 : Int32)) hx hb d_Known_has_23 (by decide) ?_
    cases he
    exact k_zre hx hb hr hlk X hP hD hS (Or.inl rfl) d_Known_has_24
  · have he := ih_f hc he
    refine lv_iload_n hx hb d_Known_has_4 rfl (lv_at hl 1 rfl) ?_
    refine lv_bipush (v := (14 : Int32)) hx hb d_Known_has_5 (by decide) ?_
    refine lv_icmp_ge (tgt := 23) hx hb d_Known_has_7 rfl (fun hc => ?_) (fun hc => ?_)
    · have he := ih_t hc he
      refine lv_iconst (v := (0 : Int32)) hx hb d_Known_has_23 (by decide) ?_
      cases he
      exact k_zre hx hb hr hlk X hP hD hS (Or.inl rfl) d_Known_has_24
    · have he := ih_f hc he
      refine lv_aload_n hx hb d_Known_has_10 rfl (lv_at hl 0 rfl) ?_
      refine k_get S X us_Known hP 0 rfl rfl 1 (by decide) gm_1_136 rfl d_Known_has_11 ?_
      refine lv_iload_n hx hb d_Known_has_14 rfl (lv_at hl 1 rfl) ?_
      obtain ⟨hi1, he⟩ := ih_g he
      refine va_zald hx hb X.1 hP 1 2 rfl rfl hi1 d_Known_has_15 ?_
      refine lv_if_eq (tgt := 23) hx hb d_Known_has_16 rfl (fun hc => ?_) (fun hc => ?_)
      · have he := ih_t hc he
        refine lv_iconst (v := (0 : Int32)) hx hb d_Known_has_23 (by decide) ?_
        cases he
        exact k_zre hx hb hr hlk X hP hD hS (Or.inl rfl) d_Known_has_24
      · have he := ih_f hc he
        refine lv_iconst (v := (1 : Int32)) hx hb d_Known_has_19 (by decide) ?_
        refine lv_goto (tgt := 24) hx hb d_Known_has_20 rfl ?_
        cases he
        exact k_zre hx hb hr hlk X hP hD hS (Or.inr rfl) d_Known_has_24
abbrev rm_Known_hasOneOf : Room := { frames := 1, cells := 0, slots := 0, locals := 21 }
set_option maxHeartbeats 4000000 in
set_option maxRecDepth 100000 in
theorem w_Known_hasOneOf_2 {p : Program} {l : Launch} {e : Env} {s : State} {m : MethodId} {args : Array Value} {below : List Frame} {meth : Method} {c : Code} {Q : State → Prop} {A : Nat → Prop} {D : va_G} {kk : Nat → ClassId} {st : Nat → Nat} (a_t a_t_flags a_t_values a_t_order : Nat) (t_size : Int32) (t_flags : Nat → Int32) (x2 : Int32) (S : CallFix p m c b_Known_hasOneOf 4 s args GW y_Known_hasOneOf.cls) (hr : meth.sig.returnType = (some .boolean)) (hlk : meth.locks = false) (hA : ∀ q, s.heap.size ≤ q → A q) (X : KX D kk st A s) : ∀ (n : Nat) (x3 : Int32) (v : (Int32) ⊕ (Int32)) (H : Heap) (locs : List Loc) (ls : Array Slot), lp_Known_hasOneOf_2 t_flags x2 n x3 = some v → lv_has ls 4 [(0, .ref a_t), (2, .int x2), (3, .int x3)] → va_P D classes [(a_t, .inr (7, [.ref a_t_values, .ref a_t_flags, .ref a_t_order, .int t_size])), (a_t_flags, .inl (kk 2, 14, .inl t_flags))] H → va_D A [(a_t, .inr (7, [.ref a_t_values, .ref a_t_flags, .ref a_t_order, .int t_size])), (a_t_flags, .inl (kk 2, 14, .inl t_flags))] → va_S A s.heap H locs → (∀ o : Int32, v = .inl o → Q = MQ below (KQi D kk o [(a_t, .inr (7, [.ref a_t_values, .ref a_t_flags, .ref a_t_order, .int t_size])), (a_t_flags, .inl (kk 2, 14, .inl t_flags))] A) args s 0 0 A) → (∀ v' : Int32, v = .inr v' → ∀ (H : Heap) (locs : List Loc) (ls : Array Slot), lv_has ls 4 [(0, .ref a_t), (2, .int x2), (3, .int v')] → va_P D classes [(a_t, .inr (7, [.ref a_t_values, .ref a_t_flags, .ref a_t_order, .int t_size])), (a_t_flags, .inl (kk 2, 14, .inl t_flags))] H → va_D A [(a_t, .inr (7, [.ref a_t_values, .ref a_t_flags, .ref a_t_order, .int t_size])), (a_t_flags, .inl (kk 2, 14, .inl t_flags))] → va_S A s.heap H locs → W p l e rm_Known_hasOneOf s m args below meth c H locs 0 0 Q (F0 m 23 ls [])) → W p l e rm_Known_hasOneOf s m args below meth c H locs 0 0 Q (F0 m 2 ls []) := by
  intro n
  induction n with
  | zero =>
    intro x3 v H locs ls he hl hP hD hS hret K
    exact ih_n he
  | succ n ih =>
    intro x3 v H locs ls he hl hP hD hS hret K
    have hx := S.1
    have hb := S.2.1
    have he : st_Known_hasOneOf_2 t_flags x2 (lp_Known_hasOneOf_2 t_flags x2 n) x3 = some v := he
    unfold st_Known_hasOneOf_2 at he
    refine lv_iload_n hx hb d_Known_hasOneOf_2 rfl (lv_at hl 2 rfl) ?_
    refine lv_iload_n hx hb d_Known_hasOneOf_3 rfl (lv_at hl 1 rfl) ?_
    refine lv_icmp_gt (tgt := 23) hx hb d_Known_hasOneOf_4 rfl (fun hc => ?_) (fun hc => ?_)
    · have he := ih_t hc he
      have hl : lv_has ls 4 [(0, .ref a_t), (2, .int x2), (3, .int x3)] := lv_sub hl [0, 1, 2] rfl
      cases he
      exact K _ rfl _ _ _ hl hP hD hS
    · have he := ih_f hc he
      refine lv_aload_n hx hb d_Known_hasOneOf_7 rfl (lv_at hl 0 rfl) ?_
      refine lv_iload_n hx hb d_Known_hasOneOf_8 rfl (lv_at hl 2 rfl) ?_
      obtain ⟨u1, e2, he⟩ := ih_b he
      refine k_io (r_V (As := [.int x3]) S X hA hP hD hS (c_Known_has l D kk st a_t a_t_flags a_t_values a_t_order _ t_size t_flags x3 u1 e2) gm_4_39 gm_4_36 gm_4_37 gm_4_38 gm_1_8 ⟨rfl, rfl, by decide, by decide⟩ kd_Known_has [0, 1] rfl rfl rfl 0 7 rfl rfl rfl rfl hl.1 rfl (Nat.le_of_ble_eq_true rfl) d_Known_hasOneOf_9 ⟨Nat.zero_le _, Nat.zero_le _⟩) hA hP hD hS [0, 1] rfl (fun H locs hP hS => ?_)
      refine lv_if_eq (tgt := 17) hx hb d_Known_hasOneOf_12 rfl (fun hc => ?_) (fun hc => ?_)
      · have he := ih_t hc he
        refine lv_iinc (k := 2) hx hb d_Known_hasOneOf_17 hl rfl (ii_ (v := (1 : Int32)) (by decide)) (by decide) rfl (fun ls hl => ?_)
        have hl : lv_has ls 4 [(3, .int (x3 + (1 : Int32))), (0, .ref a_t), (2, .int x2)] := hl
        refine lv_goto (tgt := 2) hx hb d_Known_hasOneOf_20 rfl ?_
        have hl : lv_has ls 4 [(0, .ref a_t), (2, .int x2), (3, .int (x3 + (1 : Int32)))] := lv_sub hl [1, 2, 0] rfl
        exact ih _ _ _ _ _ he hl hP hD hS hret K
      · have he := ih_f hc he
        refine lv_iconst (v := (1 : Int32)) hx hb d_Known_hasOneOf_15 (by decide) ?_
        cases he
        have hq := hret _ rfl
        subst hq
        exact k_zre hx hb hr hlk X hP hD hS (Or.inr rfl) d_Known_hasOneOf_16
set_option maxHeartbeats 4000000 in
set_option maxRecDepth 100000 in
theorem c_Known_hasOneOf (l : Launch) (D : va_G) (kk : Nat → ClassId) (st : Nat → Nat) (a_t a_t_flags a_t_values a_t_order : Nat) (sz : Nat) (t_size : Int32) (t_flags : Nat → Int32) (x1 : Int32) (x2 : Int32) (o : Int32) (he : f_Known_hasOneOf t_flags x1 x2 = some o) : Met l y_Known_hasOneOf (Cond.code y_Known_hasOneOf b_Known_hasOneOf 4 (some .boolean) :: GW) rm_Known_hasOneOf (KPc D kk st [.ref a_t, .int x1, .int x2] [(a_t, .inr (7, [.ref a_t_values, .ref a_t_flags, .ref a_t_order, .int t_size])), (a_t_flags, .inl (kk 2, 14, .inl t_flags))] sz) (KQi D kk o [(a_t, .inr (7, [.ref a_t_values, .ref a_t_flags, .ref a_t_order, .int t_size])), (a_t_flags, .inl (kk 2, 14, .inl t_flags))] (va_A [(a_t, .inr (7, [.ref a_t_values, .ref a_t_flags, .ref a_t_order, .int t_size])), (a_t_flags, .inl (kk 2, 14, .inl t_flags))] sz)) 0 0 (va_A [(a_t, .inr (7, [.ref a_t_values, .ref a_t_flags, .ref a_t_order, .int t_size])), (a_t_flags, .inl (kk 2, 14, .inl t_flags))] sz) := by
  refine k_start (Qc := fun A => KQi D kk o [(a_t, .inr (7, [.ref a_t_values, .ref a_t_flags, .ref a_t_order, .int t_size])), (a_t_flags, .inl (kk 2, 14, .inl t_flags))] A) (by decide) (Nat.le_of_ble_eq_true rfl) ?_
  intro p e s m below meth c A ls S hnm hr hlk hA X hP hD hS hl
  have hl : lv_has ls 4 [(0, .ref a_t), (1, .int x1), (2, .int x2)] := hl
  have hx := S.1
  have hb := S.2.1
  unfold f_Known_hasOneOf at he
  refine lv_iload_n hx hb d_Known_hasOneOf_0 rfl (lv_at hl 1 rfl) ?_
  refine lv_istore_n hx hb d_Known_hasOneOf_1 rfl hl (by decide) rfl (fun ls hl => ?_)
  have hl : lv_has ls 4 [(3, .int x1), (0, .ref a_t), (1, .int x1), (2, .int x2)] := hl
  obtain ⟨u3, e4, he⟩ := ih_b he
  have hl : lv_has ls 4 [(0, .ref a_t), (2, .int x2), (3, .int x1)] := lv_sub hl [1, 3, 0] rfl
  rcases u3 with o5 | v6
  · have he := sel_l he
    cases he
    exact w_Known_hasOneOf_2 a_t a_t_flags a_t_values a_t_order t_size t_flags x2 S hr hlk hA X FU x1 _ _ _ ls e4 hl hP hD hS (fun o h => by cases h; rfl) (fun v h => by cases h)
  · have he := sel_r he
    refine w_Known_hasOneOf_2 a_t a_t_flags a_t_values a_t_order t_size t_flags x2 S hr hlk hA X FU x1 _ _ _ ls e4 hl hP hD hS (fun o h => by cases h) (fun v h H locs ls hl hP hD hS => ?_)
    have h := Sum.inr.inj h
    subst h
    refine lv_iconst (v := (0 : Int32)) hx hb d_Known_hasOneOf_23 (by decide) ?_
    cases he
    exact k_zre hx hb hr hlk X hP hD hS (Or.inl rfl) d_Known_hasOneOf_24
abbrev rm_Known_value : Room := { frames := 1, cells := 0, slots := 0, locals := 21 }
set_option maxHeartbeats 4000000 in
set_option maxRecDepth 100000 in
theorem c_Known_value (l : Launch) (D : va_G) (kk : Nat → ClassId) (st : Nat → Nat) (a_t a_t_values a_t_flags a_t_order : Nat) (sz : Nat) (t_size : Int32) (t_values : Nat → Int32) (t_flags : Nat → Int32) (x1 : Int32) (o : Int32) (he : f_Known_value t_values t_flags x1 = some o) : Met l y_Known_value (Cond.code y_Known_value b_Known_value 2 (some .int) :: GW) rm_Known_value (KPc D kk st [.ref a_t, .int x1] [(a_t, .inr (7, [.ref a_t_values, .ref a_t_flags, .ref a_t_order, .int t_size])), (a_t_values, .inl (kk 0, 14, .inl t_values)), (a_t_flags, .inl (kk 2, 14, .inl t_flags))] sz) (KQi D kk o [(a_t, .inr (7, [.ref a_t_values, .ref a_t_flags, .ref a_t_order, .int t_size])), (a_t_values, .inl (kk 0, 14, .inl t_values)), (a_t_flags, .inl (kk 2, 14, .inl t_flags))] (va_A [(a_t, .inr (7, [.ref a_t_values, .ref a_t_flags, .ref a_t_order, .int t_size])), (a_t_values, .inl (kk 0, 14, .inl t_values)), (a_t_flags, .inl (kk 2, 14, .inl t_flags))] sz)) 0 0 (va_A [(a_t, .inr (7, [.ref a_t_values, .ref a_t_flags, .ref a_t_order, .int t_size])), (a_t_values, .inl (kk 0, 14, .inl t_values)), (a_t_flags, .inl (kk 2, 14, .inl t_flags))] sz) := by
  refine k_start (Qc := fun A => KQi D kk o [(a_t, .inr (7, [.ref a_t_values, .ref a_t_flags, .ref a_t_order, .int t_size])), (a_t_values, .inl (kk 0, 14, .inl t_values)), (a_t_flags, .inl (kk 2, 14, .inl t_flags))] A) (by decide) (Nat.le_of_ble_eq_true rfl) ?_
  intro p e s m below meth c A ls S hnm hr hlk hA X hP hD hS hl
  have hl : lv_has ls 2 [(0, .ref a_t), (1, .int x1)] := hl
  have hx := S.1
  have hb := S.2.1
  unfold f_Known_value at he
  refine lv_aload_n hx hb d_Known_value_0 rfl (lv_at hl 0 rfl) ?_
  refine lv_iload_n hx hb d_Known_value_1 rfl (lv_at hl 1 rfl) ?_
  obtain ⟨u1, e2, he⟩ := ih_b he
  refine k_io (r_V (As := [.int x1]) S X hA hP hD hS (c_Known_has l D kk st a_t a_t_flags a_t_values a_t_order _ t_size t_flags x1 u1 e2) gm_4_39 gm_4_36 gm_4_37 gm_4_38 gm_1_8 ⟨rfl, rfl, by decide, by decide⟩ kd_Known_has [0, 2] rfl rfl rfl 0 7 rfl rfl rfl rfl hl.1 rfl (Nat.le_of_ble_eq_true rfl) d_Known_value_2 ⟨Nat.zero_le _, Nat.zero_le _⟩) hA hP hD hS [0, 2] rfl (fun H locs hP hS => ?_)
  refine lv_if_eq (tgt := 17) hx hb d_Known_value_5 rfl (fun hc => ?_) (fun hc => ?_)
  · have he := ih_t hc he
    refine lv_iconst (v := (0 : Int32)) hx hb d_Known_value_17 (by decide) ?_
    cases he
    exact k_ire hx hb hr hlk X hP hD hS d_Known_value_18
  · have he := ih_f hc he
    refine lv_aload_n hx hb d_Known_value_8 rfl (lv_at hl 0 rfl) ?_
    refine k_get S X us_Known hP 0 rfl rfl 0 (by decide) gm_1_135 rfl d_Known_value_9 ?_
    refine lv_iload_n hx hb d_Known_value_12 rfl (lv_at hl 1 rfl) ?_
    obtain ⟨hi3, he⟩ := ih_g he
    refine va_iald hx hb X.1 hP 1 0 rfl rfl hi3 d_Known_value_13 ?_
    refine lv_goto (tgt := 18) hx hb d_Known_value_14 rfl ?_
    cases he
    exact k_ire hx hb hr hlk X hP hD hS d_Known_value_18
