abbrev b_SkeletonClockModel_match : ByteArray := prog_14_method_27_code
def y_SkeletonClockModel_match : MethodName := ⟨"SkeletonClockModel", "match", "()I"⟩
theorem kd_SkeletonClockModel_match : kd_ok y_SkeletonClockModel_match 0 := by decide +kernel
abbrev b_SkeletonClockModel_distance : ByteArray := prog_14_method_28_code
def y_SkeletonClockModel_distance : MethodName := ⟨"SkeletonClockModel", "distance", "()I"⟩
theorem kd_SkeletonClockModel_distance : kd_ok y_SkeletonClockModel_distance 0 := by decide +kernel
abbrev b_SkeletonClockModel_yearFits : ByteArray := prog_14_method_29_code
def y_SkeletonClockModel_yearFits : MethodName := ⟨"SkeletonClockModel", "yearFits", "(J)Z"⟩
theorem kd_SkeletonClockModel_yearFits : kd_ok y_SkeletonClockModel_yearFits 1 := by decide +kernel
abbrev b_SkeletonClockModel_moment : ByteArray := prog_14_method_30_code
def y_SkeletonClockModel_moment : MethodName := ⟨"SkeletonClockModel", "moment", "(JIII)Z"⟩
theorem kd_SkeletonClockModel_moment : kd_ok y_SkeletonClockModel_moment 4 := by decide +kernel
abbrev b_SkeletonClockModel_field : ByteArray := prog_14_method_31_code
def y_SkeletonClockModel_field : MethodName := ⟨"SkeletonClockModel", "field", "(C)I"⟩
theorem kd_SkeletonClockModel_field : kd_ok y_SkeletonClockModel_field 1 := by decide +kernel
abbrev b_SkeletonClockModel_out : ByteArray := prog_14_method_32_code
def y_SkeletonClockModel_out : MethodName := ⟨"SkeletonClockModel", "out", "(I)V"⟩
theorem kd_SkeletonClockModel_out : kd_ok y_SkeletonClockModel_out 1 := by decide +kernel
abbrev b_SkeletonClockModel_digits : ByteArray := prog_14_method_33_code
def y_SkeletonClockModel_digits : MethodName := ⟨"SkeletonClockModel", "digits", "(JI)V"⟩
theorem kd_SkeletonClockModel_digits : kd_ok y_SkeletonClockModel_digits 2 := by decide +kernel
abbrev b_SkeletonClockModel_missing : ByteArray := prog_14_method_34_code
def y_SkeletonClockModel_missing : MethodName := ⟨"SkeletonClockModel", "missing", "(I)Z"⟩
theorem kd_SkeletonClockModel_missing : kd_ok y_SkeletonClockModel_missing 1 := by decide +kernel
abbrev b_SkeletonClockModel_lacks : ByteArray := prog_14_method_35_code
def y_SkeletonClockModel_lacks : MethodName := ⟨"SkeletonClockModel", "lacks", "(II)Z"⟩
theorem kd_SkeletonClockModel_lacks : kd_ok y_SkeletonClockModel_lacks 2 := by decide +kernel
abbrev b_SkeletonClockModel_spell : ByteArray := prog_14_method_38_code
def y_SkeletonClockModel_spell : MethodName := ⟨"SkeletonClockModel", "spell", "(II)V"⟩
theorem kd_SkeletonClockModel_spell : kd_ok y_SkeletonClockModel_spell 2 := by decide +kernel
theorem gm_5_51 : Cond.code ({ cls := "SkeletonClockModel", name := "wished", desc := "()Z" } : MethodName) prog_14_method_25_code (3 : Nat) (Option.some FieldType.boolean) ∈ GW := gw_5 (i := 51) rfl rfl
theorem gm_5_48 : Cond.methodLink "SkeletonClockModel" (209 : Nat) ({ cls := "SkeletonClockModel", name := "wished", desc := "()Z" } : MethodName) ∈ GW := gw_5 (i := 48) rfl rfl
theorem gm_5_50 : Cond.instanceMethod ({ cls := "SkeletonClockModel", name := "wished", desc := "()Z" } : MethodName) ∈ GW := gw_5 (i := 50) rfl rfl
theorem gm_p3_5 : Cond.selects "SkeletonClockModel" ⟨"SkeletonClockModel", "wished", "()Z"⟩ ⟨"SkeletonClockModel", "wished", "()Z"⟩ ∈ GW := gs_3 (i := 5) rfl
theorem gm_5_55 : Cond.code ({ cls := "SkeletonClockModel", name := "distanceTo", desc := "(I)I" } : MethodName) prog_14_method_26_code (6 : Nat) (Option.some FieldType.int) ∈ GW := gw_5 (i := 55) rfl rfl
theorem gm_5_52 : Cond.methodLink "SkeletonClockModel" (213 : Nat) ({ cls := "SkeletonClockModel", name := "distanceTo", desc := "(I)I" } : MethodName) ∈ GW := gw_5 (i := 52) rfl rfl
theorem gm_5_54 : Cond.instanceMethod ({ cls := "SkeletonClockModel", name := "distanceTo", desc := "(I)I" } : MethodName) ∈ GW := gw_5 (i := 54) rfl rfl
theorem gm_p3_6 : Cond.selects "SkeletonClockModel" ⟨"SkeletonClockModel", "distanceTo", "(I)I"⟩ ⟨"SkeletonClockModel", "distanceTo", "(I)I"⟩ ∈ GW := gs_3 (i := 6) rfl
theorem gm_4_165 : Cond.fieldLink "SkeletonClockModel" (49 : Nat) "SkeletonClockModel" "far" "I" ∈ GW := gw_4 (i := 165) rfl rfl
theorem gm_5_90 : Cond.constantLong "SkeletonClockModel" (216 : Nat) (-999999999 : Int64) ∈ GW := gw_5 (i := 90) rfl rfl
theorem gm_5_91 : Cond.constantLong "SkeletonClockModel" (218 : Nat) (999999999 : Int64) ∈ GW := gw_5 (i := 91) rfl rfl
theorem gm_5_64 : Cond.constant "SkeletonClockModel" (220 : Nat) (999999999 : Int32) ∈ GW := gw_5 (i := 64) rfl rfl
theorem gm_5_65 : Cond.constantLong "SkeletonClockModel" (221 : Nat) (-40000000000000000 : Int64) ∈ GW := gw_5 (i := 65) rfl rfl
theorem gm_5_66 : Cond.constantLong "SkeletonClockModel" (223 : Nat) (40000000000000000 : Int64) ∈ GW := gw_5 (i := 66) rfl rfl
theorem gm_5_67 : Cond.constantLong "SkeletonClockModel" (225 : Nat) (60 : Int64) ∈ GW := gw_5 (i := 67) rfl rfl
theorem gm_5_68 : Cond.constantLong "SkeletonClockModel" (227 : Nat) (86400 : Int64) ∈ GW := gw_5 (i := 68) rfl rfl
theorem gm_5_74 : Cond.code ({ cls := "SkeletonClockModel", name := "yearFits", desc := "(J)Z" } : MethodName) prog_14_method_29_code (4 : Nat) (Option.some FieldType.boolean) ∈ GW := gw_5 (i := 74) rfl rfl
theorem gm_5_72 : Cond.methodLink "SkeletonClockModel" (229 : Nat) ({ cls := "SkeletonClockModel", name := "yearFits", desc := "(J)Z" } : MethodName) ∈ GW := gw_5 (i := 72) rfl rfl
theorem gm_5_73 : Cond.static ({ cls := "SkeletonClockModel", name := "yearFits", desc := "(J)Z" } : MethodName) ∈ GW := gw_5 (i := 73) rfl rfl
theorem gm_4_166 : Cond.fieldLink "SkeletonClockModel" (53 : Nat) "SkeletonClockModel" "momentParts" "I" ∈ GW := gw_4 (i := 166) rfl rfl
theorem gm_5_99 : Cond.code ({ cls := "SkeletonClockModel", name := "present", desc := "(I)J" } : MethodName) prog_14_method_13_code (2 : Nat) (Option.some FieldType.long) ∈ GW := gw_5 (i := 99) rfl rfl
theorem gm_5_96 : Cond.methodLink "SkeletonClockModel" (233 : Nat) ({ cls := "SkeletonClockModel", name := "present", desc := "(I)J" } : MethodName) ∈ GW := gw_5 (i := 96) rfl rfl
theorem gm_5_98 : Cond.instanceMethod ({ cls := "SkeletonClockModel", name := "present", desc := "(I)J" } : MethodName) ∈ GW := gw_5 (i := 98) rfl rfl
theorem gm_p3_7 : Cond.selects "SkeletonClockModel" ⟨"SkeletonClockModel", "present", "(I)J"⟩ ⟨"SkeletonClockModel", "present", "(I)J"⟩ ∈ GW := gs_3 (i := 7) rfl
theorem gm_4_154 : Cond.fieldLink "SkeletonClockModel" (13 : Nat) "SkeletonClockModel" "page" "[C" ∈ GW := gw_4 (i := 154) rfl rfl
theorem gm_4_153 : Cond.fieldLink "SkeletonClockModel" (237 : Nat) "SkeletonClockModel" "used" "I" ∈ GW := gw_4 (i := 153) rfl rfl
theorem gm_5_145 : Cond.constantLong "SkeletonClockModel" (240 : Nat) (10 : Int64) ∈ GW := gw_5 (i := 145) rfl rfl
theorem gm_5_146 : Cond.constantLong "SkeletonClockModel" (242 : Nat) (48 : Int64) ∈ GW := gw_5 (i := 146) rfl rfl
theorem gm_5_136 : Cond.code ({ cls := "SkeletonClockModel", name := "out", desc := "(I)V" } : MethodName) prog_14_method_32_code (2 : Nat) (Option.none : Option FieldType) ∈ GW := gw_5 (i := 136) rfl rfl
theorem gm_5_133 : Cond.methodLink "SkeletonClockModel" (244 : Nat) ({ cls := "SkeletonClockModel", name := "out", desc := "(I)V" } : MethodName) ∈ GW := gw_5 (i := 133) rfl rfl
theorem gm_5_135 : Cond.instanceMethod ({ cls := "SkeletonClockModel", name := "out", desc := "(I)V" } : MethodName) ∈ GW := gw_5 (i := 135) rfl rfl
theorem gm_p3_10 : Cond.selects "SkeletonClockModel" ⟨"SkeletonClockModel", "out", "(I)V"⟩ ⟨"SkeletonClockModel", "out", "(I)V"⟩ ∈ GW := gs_3 (i := 10) rfl
theorem gm_5_132 : Cond.code ({ cls := "SkeletonClockModel", name := "partOf", desc := "(I)I" } : MethodName) prog_14_method_14_code (1 : Nat) (Option.some FieldType.int) ∈ GW := gw_5 (i := 132) rfl rfl
theorem gm_5_130 : Cond.methodLink "SkeletonClockModel" (248 : Nat) ({ cls := "SkeletonClockModel", name := "partOf", desc := "(I)I" } : MethodName) ∈ GW := gw_5 (i := 130) rfl rfl
theorem gm_5_131 : Cond.static ({ cls := "SkeletonClockModel", name := "partOf", desc := "(I)I" } : MethodName) ∈ GW := gw_5 (i := 131) rfl rfl
theorem gm_5_129 : Cond.code ({ cls := "SkeletonClockModel", name := "missing", desc := "(I)Z" } : MethodName) prog_14_method_34_code (2 : Nat) (Option.some FieldType.boolean) ∈ GW := gw_5 (i := 129) rfl rfl
theorem gm_5_126 : Cond.methodLink "SkeletonClockModel" (251 : Nat) ({ cls := "SkeletonClockModel", name := "missing", desc := "(I)Z" } : MethodName) ∈ GW := gw_5 (i := 126) rfl rfl
theorem gm_5_128 : Cond.instanceMethod ({ cls := "SkeletonClockModel", name := "missing", desc := "(I)Z" } : MethodName) ∈ GW := gw_5 (i := 128) rfl rfl
theorem gm_p3_9 : Cond.selects "SkeletonClockModel" ⟨"SkeletonClockModel", "missing", "(I)Z"⟩ ⟨"SkeletonClockModel", "missing", "(I)Z"⟩ ∈ GW := gs_3 (i := 9) rfl
theorem gm_5_155 : Cond.code ({ cls := "SkeletonClockModel", name := "letter", desc := "(II)I" } : MethodName) prog_14_method_2_code (4 : Nat) (Option.some FieldType.int) ∈ GW := gw_5 (i := 155) rfl rfl
theorem gm_5_152 : Cond.methodLink "SkeletonClockModel" (277 : Nat) ({ cls := "SkeletonClockModel", name := "letter", desc := "(II)I" } : MethodName) ∈ GW := gw_5 (i := 152) rfl rfl
theorem gm_5_154 : Cond.instanceMethod ({ cls := "SkeletonClockModel", name := "letter", desc := "(II)I" } : MethodName) ∈ GW := gw_5 (i := 154) rfl rfl
theorem gm_p3_14 : Cond.selects "SkeletonClockModel" ⟨"SkeletonClockModel", "letter", "(II)I"⟩ ⟨"SkeletonClockModel", "letter", "(II)I"⟩ ∈ GW := gs_3 (i := 14) rfl
theorem d_SkeletonClockModel_match_0 : decode b_SkeletonClockModel_match 0 = .ok (.aload_n 0, 1) := by decide +kernel
theorem d_SkeletonClockModel_match_1 : decode b_SkeletonClockModel_match 1 = .ok (.invokevirtual 209, 3) := by decide +kernel
theorem d_SkeletonClockModel_match_4 : decode b_SkeletonClockModel_match 4 = .ok (.istore_n 1, 1) := by decide +kernel
theorem d_SkeletonClockModel_match_5 : decode b_SkeletonClockModel_match 5 = .ok (.aload_n 0, 1) := by decide +kernel
theorem d_SkeletonClockModel_match_6 : decode b_SkeletonClockModel_match 6 = .ok (.iconst 0, 1) := by decide +kernel
theorem d_SkeletonClockModel_match_7 : decode b_SkeletonClockModel_match 7 = .ok (.putfield 181, 3) := by decide +kernel
theorem d_SkeletonClockModel_match_10 : decode b_SkeletonClockModel_match 10 = .ok (.iload_n 1, 1) := by decide +kernel
theorem d_SkeletonClockModel_match_11 : decode b_SkeletonClockModel_match 11 = .ok (.ifCond .ne 6, 3) := by decide +kernel
theorem d_SkeletonClockModel_match_14 : decode b_SkeletonClockModel_match 14 = .ok (.bipush (-2), 2) := by decide +kernel
theorem d_SkeletonClockModel_match_16 : decode b_SkeletonClockModel_match 16 = .ok (.ireturn, 1) := by decide +kernel
theorem d_SkeletonClockModel_match_17 : decode b_SkeletonClockModel_match 17 = .ok (.iconst (-1), 1) := by decide +kernel
theorem d_SkeletonClockModel_match_18 : decode b_SkeletonClockModel_match 18 = .ok (.istore_n 2, 1) := by decide +kernel
theorem d_SkeletonClockModel_match_19 : decode b_SkeletonClockModel_match 19 = .ok (.iconst 0, 1) := by decide +kernel
theorem d_SkeletonClockModel_match_20 : decode b_SkeletonClockModel_match 20 = .ok (.istore_n 3, 1) := by decide +kernel
theorem d_SkeletonClockModel_match_21 : decode b_SkeletonClockModel_match 21 = .ok (.iload_n 3, 1) := by decide +kernel
theorem d_SkeletonClockModel_match_22 : decode b_SkeletonClockModel_match 22 = .ok (.bipush 6, 2) := by decide +kernel
theorem d_SkeletonClockModel_match_24 : decode b_SkeletonClockModel_match 24 = .ok (.if_icmp .ge 49, 3) := by decide +kernel
theorem d_SkeletonClockModel_match_27 : decode b_SkeletonClockModel_match 27 = .ok (.aload_n 0, 1) := by decide +kernel
theorem d_SkeletonClockModel_match_28 : decode b_SkeletonClockModel_match 28 = .ok (.getfield 39, 3) := by decide +kernel
theorem d_SkeletonClockModel_match_31 : decode b_SkeletonClockModel_match 31 = .ok (.iload_n 3, 1) := by decide +kernel
theorem d_SkeletonClockModel_match_32 : decode b_SkeletonClockModel_match 32 = .ok (.baload, 1) := by decide +kernel
theorem d_SkeletonClockModel_match_33 : decode b_SkeletonClockModel_match 33 = .ok (.ifCond .ne 6, 3) := by decide +kernel
theorem d_SkeletonClockModel_match_36 : decode b_SkeletonClockModel_match 36 = .ok (.goto 31, 3) := by decide +kernel
theorem d_SkeletonClockModel_match_39 : decode b_SkeletonClockModel_match 39 = .ok (.aload_n 0, 1) := by decide +kernel
theorem d_SkeletonClockModel_match_40 : decode b_SkeletonClockModel_match 40 = .ok (.iload_n 3, 1) := by decide +kernel
theorem d_SkeletonClockModel_match_41 : decode b_SkeletonClockModel_match 41 = .ok (.invokevirtual 213, 3) := by decide +kernel
theorem d_SkeletonClockModel_match_44 : decode b_SkeletonClockModel_match 44 = .ok (.istore 4, 2) := by decide +kernel
theorem d_SkeletonClockModel_match_46 : decode b_SkeletonClockModel_match 46 = .ok (.iload_n 2, 1) := by decide +kernel
theorem d_SkeletonClockModel_match_47 : decode b_SkeletonClockModel_match 47 = .ok (.ifCond .lt 12, 3) := by decide +kernel
theorem d_SkeletonClockModel_match_50 : decode b_SkeletonClockModel_match 50 = .ok (.iload 4, 2) := by decide +kernel
theorem d_SkeletonClockModel_match_52 : decode b_SkeletonClockModel_match 52 = .ok (.aload_n 0, 1) := by decide +kernel
theorem d_SkeletonClockModel_match_53 : decode b_SkeletonClockModel_match 53 = .ok (.getfield 49, 3) := by decide +kernel
theorem d_SkeletonClockModel_match_56 : decode b_SkeletonClockModel_match 56 = .ok (.if_icmp .ge 11, 3) := by decide +kernel
theorem d_SkeletonClockModel_match_59 : decode b_SkeletonClockModel_match 59 = .ok (.iload_n 3, 1) := by decide +kernel
theorem d_SkeletonClockModel_match_60 : decode b_SkeletonClockModel_match 60 = .ok (.istore_n 2, 1) := by decide +kernel
theorem d_SkeletonClockModel_match_61 : decode b_SkeletonClockModel_match 61 = .ok (.aload_n 0, 1) := by decide +kernel
theorem d_SkeletonClockModel_match_62 : decode b_SkeletonClockModel_match 62 = .ok (.iload 4, 2) := by decide +kernel
theorem d_SkeletonClockModel_match_64 : decode b_SkeletonClockModel_match 64 = .ok (.putfield 49, 3) := by decide +kernel
theorem d_SkeletonClockModel_match_67 : decode b_SkeletonClockModel_match 67 = .ok (.iinc 3 1, 3) := by decide +kernel
theorem d_SkeletonClockModel_match_70 : decode b_SkeletonClockModel_match 70 = .ok (.goto (-49), 3) := by decide +kernel
theorem d_SkeletonClockModel_match_73 : decode b_SkeletonClockModel_match 73 = .ok (.iload_n 2, 1) := by decide +kernel
theorem d_SkeletonClockModel_match_74 : decode b_SkeletonClockModel_match 74 = .ok (.ireturn, 1) := by decide +kernel
theorem d_SkeletonClockModel_distance_0 : decode b_SkeletonClockModel_distance 0 = .ok (.aload_n 0, 1) := by decide +kernel
theorem d_SkeletonClockModel_distance_1 : decode b_SkeletonClockModel_distance 1 = .ok (.getfield 49, 3) := by decide +kernel
theorem d_SkeletonClockModel_distance_4 : decode b_SkeletonClockModel_distance 4 = .ok (.ireturn, 1) := by decide +kernel
theorem d_SkeletonClockModel_yearFits_0 : decode b_SkeletonClockModel_yearFits 0 = .ok (.lload_n 0, 1) := by decide +kernel
theorem d_SkeletonClockModel_yearFits_1 : decode b_SkeletonClockModel_yearFits 1 = .ok (.invokestatic 150, 3) := by decide +kernel
theorem d_SkeletonClockModel_yearFits_4 : decode b_SkeletonClockModel_yearFits 4 = .ok (.lstore_n 2, 1) := by decide +kernel
theorem d_SkeletonClockModel_yearFits_5 : decode b_SkeletonClockModel_yearFits 5 = .ok (.lload_n 2, 1) := by decide +kernel
theorem d_SkeletonClockModel_yearFits_6 : decode b_SkeletonClockModel_yearFits 6 = .ok (.ldc2_w 216, 3) := by decide +kernel
theorem d_SkeletonClockModel_yearFits_9 : decode b_SkeletonClockModel_yearFits 9 = .ok (.lcmp, 1) := by decide +kernel
theorem d_SkeletonClockModel_yearFits_10 : decode b_SkeletonClockModel_yearFits 10 = .ok (.ifCond .lt 15, 3) := by decide +kernel
theorem d_SkeletonClockModel_yearFits_13 : decode b_SkeletonClockModel_yearFits 13 = .ok (.lload_n 2, 1) := by decide +kernel
theorem d_SkeletonClockModel_yearFits_14 : decode b_SkeletonClockModel_yearFits 14 = .ok (.ldc2_w 218, 3) := by decide +kernel
theorem d_SkeletonClockModel_yearFits_17 : decode b_SkeletonClockModel_yearFits 17 = .ok (.lcmp, 1) := by decide +kernel
theorem d_SkeletonClockModel_yearFits_18 : decode b_SkeletonClockModel_yearFits 18 = .ok (.ifCond .gt 7, 3) := by decide +kernel
theorem d_SkeletonClockModel_yearFits_21 : decode b_SkeletonClockModel_yearFits 21 = .ok (.iconst 1, 1) := by decide +kernel
theorem d_SkeletonClockModel_yearFits_22 : decode b_SkeletonClockModel_yearFits 22 = .ok (.goto 4, 3) := by decide +kernel
theorem d_SkeletonClockModel_yearFits_25 : decode b_SkeletonClockModel_yearFits 25 = .ok (.iconst 0, 1) := by decide +kernel
theorem d_SkeletonClockModel_yearFits_26 : decode b_SkeletonClockModel_yearFits 26 = .ok (.ireturn, 1) := by decide +kernel
theorem d_SkeletonClockModel_moment_0 : decode b_SkeletonClockModel_moment 0 = .ok (.iload_n 3, 1) := by decide +kernel
theorem d_SkeletonClockModel_moment_1 : decode b_SkeletonClockModel_moment 1 = .ok (.ifCond .lt 38, 3) := by decide +kernel
theorem d_SkeletonClockModel_moment_4 : decode b_SkeletonClockModel_moment 4 = .ok (.iload_n 3, 1) := by decide +kernel
theorem d_SkeletonClockModel_moment_5 : decode b_SkeletonClockModel_moment 5 = .ok (.ldc 220, 2) := by decide +kernel
theorem d_SkeletonClockModel_moment_7 : decode b_SkeletonClockModel_moment 7 = .ok (.if_icmp .gt 32, 3) := by decide +kernel
theorem d_SkeletonClockModel_moment_10 : decode b_SkeletonClockModel_moment 10 = .ok (.iload 4, 2) := by decide +kernel
theorem d_SkeletonClockModel_moment_12 : decode b_SkeletonClockModel_moment 12 = .ok (.sipush (-1080), 3) := by decide +kernel
theorem d_SkeletonClockModel_moment_15 : decode b_SkeletonClockModel_moment 15 = .ok (.if_icmp .lt 24, 3) := by decide +kernel
theorem d_SkeletonClockModel_moment_18 : decode b_SkeletonClockModel_moment 18 = .ok (.iload 4, 2) := by decide +kernel
theorem d_SkeletonClockModel_moment_20 : decode b_SkeletonClockModel_moment 20 = .ok (.sipush 1080, 3) := by decide +kernel
theorem d_SkeletonClockModel_moment_23 : decode b_SkeletonClockModel_moment 23 = .ok (.if_icmp .gt 16, 3) := by decide +kernel
theorem d_SkeletonClockModel_moment_26 : decode b_SkeletonClockModel_moment 26 = .ok (.iload 5, 2) := by decide +kernel
theorem d_SkeletonClockModel_moment_28 : decode b_SkeletonClockModel_moment 28 = .ok (.iconst 1, 1) := by decide +kernel
theorem d_SkeletonClockModel_moment_29 : decode b_SkeletonClockModel_moment 29 = .ok (.if_icmp .lt 10, 3) := by decide +kernel
theorem d_SkeletonClockModel_moment_32 : decode b_SkeletonClockModel_moment 32 = .ok (.iload 5, 2) := by decide +kernel
theorem d_SkeletonClockModel_moment_34 : decode b_SkeletonClockModel_moment 34 = .ok (.bipush 7, 2) := by decide +kernel
theorem d_SkeletonClockModel_moment_36 : decode b_SkeletonClockModel_moment 36 = .ok (.if_icmp .le 5, 3) := by decide +kernel
theorem d_SkeletonClockModel_moment_39 : decode b_SkeletonClockModel_moment 39 = .ok (.iconst 0, 1) := by decide +kernel
theorem d_SkeletonClockModel_moment_40 : decode b_SkeletonClockModel_moment 40 = .ok (.ireturn, 1) := by decide +kernel
theorem d_SkeletonClockModel_moment_41 : decode b_SkeletonClockModel_moment 41 = .ok (.lload_n 1, 1) := by decide +kernel
theorem d_SkeletonClockModel_moment_42 : decode b_SkeletonClockModel_moment 42 = .ok (.ldc2_w 221, 3) := by decide +kernel
theorem d_SkeletonClockModel_moment_45 : decode b_SkeletonClockModel_moment 45 = .ok (.lcmp, 1) := by decide +kernel
theorem d_SkeletonClockModel_moment_46 : decode b_SkeletonClockModel_moment 46 = .ok (.ifCond .lt 11, 3) := by decide +kernel
theorem d_SkeletonClockModel_moment_49 : decode b_SkeletonClockModel_moment 49 = .ok (.lload_n 1, 1) := by decide +kernel
theorem d_SkeletonClockModel_moment_50 : decode b_SkeletonClockModel_moment 50 = .ok (.ldc2_w 223, 3) := by decide +kernel
theorem d_SkeletonClockModel_moment_53 : decode b_SkeletonClockModel_moment 53 = .ok (.lcmp, 1) := by decide +kernel
theorem d_SkeletonClockModel_moment_54 : decode b_SkeletonClockModel_moment 54 = .ok (.ifCond .le 5, 3) := by decide +kernel
theorem d_SkeletonClockModel_moment_57 : decode b_SkeletonClockModel_moment 57 = .ok (.iconst 0, 1) := by decide +kernel
theorem d_SkeletonClockModel_moment_58 : decode b_SkeletonClockModel_moment 58 = .ok (.ireturn, 1) := by decide +kernel
theorem d_SkeletonClockModel_moment_59 : decode b_SkeletonClockModel_moment 59 = .ok (.lload_n 1, 1) := by decide +kernel
theorem d_SkeletonClockModel_moment_60 : decode b_SkeletonClockModel_moment 60 = .ok (.ldc2_w 225, 3) := by decide +kernel
theorem d_SkeletonClockModel_moment_63 : decode b_SkeletonClockModel_moment 63 = .ok (.iload 4, 2) := by decide +kernel
theorem d_SkeletonClockModel_moment_65 : decode b_SkeletonClockModel_moment 65 = .ok (.i2l, 1) := by decide +kernel
theorem d_SkeletonClockModel_moment_66 : decode b_SkeletonClockModel_moment 66 = .ok (.lmul, 1) := by decide +kernel
theorem d_SkeletonClockModel_moment_67 : decode b_SkeletonClockModel_moment 67 = .ok (.ladd, 1) := by decide +kernel
theorem d_SkeletonClockModel_moment_68 : decode b_SkeletonClockModel_moment 68 = .ok (.lstore 6, 2) := by decide +kernel
theorem d_SkeletonClockModel_moment_70 : decode b_SkeletonClockModel_moment 70 = .ok (.lload 6, 2) := by decide +kernel
theorem d_SkeletonClockModel_moment_72 : decode b_SkeletonClockModel_moment 72 = .ok (.ldc2_w 227, 3) := by decide +kernel
theorem d_SkeletonClockModel_moment_75 : decode b_SkeletonClockModel_moment 75 = .ok (.invokestatic 115, 3) := by decide +kernel
theorem d_SkeletonClockModel_moment_78 : decode b_SkeletonClockModel_moment 78 = .ok (.lstore 8, 2) := by decide +kernel
theorem d_SkeletonClockModel_moment_80 : decode b_SkeletonClockModel_moment 80 = .ok (.lload 8, 2) := by decide +kernel
theorem d_SkeletonClockModel_moment_82 : decode b_SkeletonClockModel_moment 82 = .ok (.invokestatic 229, 3) := by decide +kernel
theorem d_SkeletonClockModel_moment_85 : decode b_SkeletonClockModel_moment 85 = .ok (.ifCond .ne 5, 3) := by decide +kernel
theorem d_SkeletonClockModel_moment_88 : decode b_SkeletonClockModel_moment 88 = .ok (.iconst 0, 1) := by decide +kernel
theorem d_SkeletonClockModel_moment_89 : decode b_SkeletonClockModel_moment 89 = .ok (.ireturn, 1) := by decide +kernel
theorem d_SkeletonClockModel_moment_90 : decode b_SkeletonClockModel_moment 90 = .ok (.aload_n 0, 1) := by decide +kernel
theorem d_SkeletonClockModel_moment_91 : decode b_SkeletonClockModel_moment 91 = .ok (.lload 8, 2) := by decide +kernel
theorem d_SkeletonClockModel_moment_93 : decode b_SkeletonClockModel_moment 93 = .ok (.putfield 157, 3) := by decide +kernel
theorem d_SkeletonClockModel_moment_96 : decode b_SkeletonClockModel_moment 96 = .ok (.aload_n 0, 1) := by decide +kernel
theorem d_SkeletonClockModel_moment_97 : decode b_SkeletonClockModel_moment 97 = .ok (.lload 6, 2) := by decide +kernel
theorem d_SkeletonClockModel_moment_99 : decode b_SkeletonClockModel_moment 99 = .ok (.ldc2_w 227, 3) := by decide +kernel
theorem d_SkeletonClockModel_moment_102 : decode b_SkeletonClockModel_moment 102 = .ok (.lload 8, 2) := by decide +kernel
theorem d_SkeletonClockModel_moment_104 : decode b_SkeletonClockModel_moment 104 = .ok (.lmul, 1) := by decide +kernel
theorem d_SkeletonClockModel_moment_105 : decode b_SkeletonClockModel_moment 105 = .ok (.lsub, 1) := by decide +kernel
theorem d_SkeletonClockModel_moment_106 : decode b_SkeletonClockModel_moment 106 = .ok (.l2i, 1) := by decide +kernel
theorem d_SkeletonClockModel_moment_107 : decode b_SkeletonClockModel_moment 107 = .ok (.putfield 170, 3) := by decide +kernel
theorem d_SkeletonClockModel_moment_110 : decode b_SkeletonClockModel_moment 110 = .ok (.aload_n 0, 1) := by decide +kernel
theorem d_SkeletonClockModel_moment_111 : decode b_SkeletonClockModel_moment 111 = .ok (.iload_n 3, 1) := by decide +kernel
theorem d_SkeletonClockModel_moment_112 : decode b_SkeletonClockModel_moment 112 = .ok (.putfield 167, 3) := by decide +kernel
theorem d_SkeletonClockModel_moment_115 : decode b_SkeletonClockModel_moment 115 = .ok (.aload_n 0, 1) := by decide +kernel
theorem d_SkeletonClockModel_moment_116 : decode b_SkeletonClockModel_moment 116 = .ok (.iload 4, 2) := by decide +kernel
theorem d_SkeletonClockModel_moment_118 : decode b_SkeletonClockModel_moment 118 = .ok (.putfield 164, 3) := by decide +kernel
theorem d_SkeletonClockModel_moment_121 : decode b_SkeletonClockModel_moment 121 = .ok (.aload_n 0, 1) := by decide +kernel
theorem d_SkeletonClockModel_moment_122 : decode b_SkeletonClockModel_moment 122 = .ok (.iload 5, 2) := by decide +kernel
theorem d_SkeletonClockModel_moment_124 : decode b_SkeletonClockModel_moment 124 = .ok (.putfield 53, 3) := by decide +kernel
theorem d_SkeletonClockModel_moment_127 : decode b_SkeletonClockModel_moment 127 = .ok (.iconst 1, 1) := by decide +kernel
theorem d_SkeletonClockModel_moment_128 : decode b_SkeletonClockModel_moment 128 = .ok (.ireturn, 1) := by decide +kernel
theorem d_SkeletonClockModel_field_0 : decode b_SkeletonClockModel_field 0 = .ok (.iload_n 1, 1) := by decide +kernel
theorem d_SkeletonClockModel_field_1 : decode b_SkeletonClockModel_field 1 = .ok (.bipush 120, 2) := by decide +kernel
theorem d_SkeletonClockModel_field_3 : decode b_SkeletonClockModel_field 3 = .ok (.if_icmp .ne 7, 3) := by decide +kernel
theorem d_SkeletonClockModel_field_6 : decode b_SkeletonClockModel_field 6 = .ok (.iconst (-1), 1) := by decide +kernel
theorem d_SkeletonClockModel_field_7 : decode b_SkeletonClockModel_field 7 = .ok (.goto 7, 3) := by decide +kernel
theorem d_SkeletonClockModel_field_10 : decode b_SkeletonClockModel_field 10 = .ok (.iload_n 1, 1) := by decide +kernel
theorem d_SkeletonClockModel_field_11 : decode b_SkeletonClockModel_field 11 = .ok (.invokestatic 177, 3) := by decide +kernel
theorem d_SkeletonClockModel_field_14 : decode b_SkeletonClockModel_field 14 = .ok (.istore_n 2, 1) := by decide +kernel
theorem d_SkeletonClockModel_field_15 : decode b_SkeletonClockModel_field 15 = .ok (.iload_n 2, 1) := by decide +kernel
theorem d_SkeletonClockModel_field_16 : decode b_SkeletonClockModel_field 16 = .ok (.ifCond .ge 7, 3) := by decide +kernel
theorem d_SkeletonClockModel_field_19 : decode b_SkeletonClockModel_field 19 = .ok (.iconst (-1), 1) := by decide +kernel
theorem d_SkeletonClockModel_field_20 : decode b_SkeletonClockModel_field 20 = .ok (.goto 9, 3) := by decide +kernel
theorem d_SkeletonClockModel_field_23 : decode b_SkeletonClockModel_field 23 = .ok (.aload_n 0, 1) := by decide +kernel
theorem d_SkeletonClockModel_field_24 : decode b_SkeletonClockModel_field 24 = .ok (.iload_n 2, 1) := by decide +kernel
theorem d_SkeletonClockModel_field_25 : decode b_SkeletonClockModel_field 25 = .ok (.invokevirtual 233, 3) := by decide +kernel
theorem d_SkeletonClockModel_field_28 : decode b_SkeletonClockModel_field 28 = .ok (.l2i, 1) := by decide +kernel
theorem d_SkeletonClockModel_field_29 : decode b_SkeletonClockModel_field 29 = .ok (.ireturn, 1) := by decide +kernel
theorem d_SkeletonClockModel_out_0 : decode b_SkeletonClockModel_out 0 = .ok (.aload_n 0, 1) := by decide +kernel
theorem d_SkeletonClockModel_out_1 : decode b_SkeletonClockModel_out 1 = .ok (.getfield 13, 3) := by decide +kernel
theorem d_SkeletonClockModel_out_4 : decode b_SkeletonClockModel_out 4 = .ok (.aload_n 0, 1) := by decide +kernel
theorem d_SkeletonClockModel_out_5 : decode b_SkeletonClockModel_out 5 = .ok (.getfield 237, 3) := by decide +kernel
theorem d_SkeletonClockModel_out_8 : decode b_SkeletonClockModel_out 8 = .ok (.iload_n 1, 1) := by decide +kernel
theorem d_SkeletonClockModel_out_9 : decode b_SkeletonClockModel_out 9 = .ok (.i2c, 1) := by decide +kernel
theorem d_SkeletonClockModel_out_10 : decode b_SkeletonClockModel_out 10 = .ok (.castore, 1) := by decide +kernel
theorem d_SkeletonClockModel_out_11 : decode b_SkeletonClockModel_out 11 = .ok (.aload_n 0, 1) := by decide +kernel
theorem d_SkeletonClockModel_out_12 : decode b_SkeletonClockModel_out 12 = .ok (.dup, 1) := by decide +kernel
theorem d_SkeletonClockModel_out_13 : decode b_SkeletonClockModel_out 13 = .ok (.getfield 237, 3) := by decide +kernel
theorem d_SkeletonClockModel_out_16 : decode b_SkeletonClockModel_out 16 = .ok (.iconst 1, 1) := by decide +kernel
theorem d_SkeletonClockModel_out_17 : decode b_SkeletonClockModel_out 17 = .ok (.iadd, 1) := by decide +kernel
theorem d_SkeletonClockModel_out_18 : decode b_SkeletonClockModel_out 18 = .ok (.putfield 237, 3) := by decide +kernel
theorem d_SkeletonClockModel_out_21 : decode b_SkeletonClockModel_out 21 = .ok (.return_, 1) := by decide +kernel
theorem d_SkeletonClockModel_digits_0 : decode b_SkeletonClockModel_digits 0 = .ok (.lconst 1, 1) := by decide +kernel
theorem d_SkeletonClockModel_digits_1 : decode b_SkeletonClockModel_digits 1 = .ok (.lstore 4, 2) := by decide +kernel
theorem d_SkeletonClockModel_digits_3 : decode b_SkeletonClockModel_digits 3 = .ok (.iconst 1, 1) := by decide +kernel
theorem d_SkeletonClockModel_digits_4 : decode b_SkeletonClockModel_digits 4 = .ok (.istore 6, 2) := by decide +kernel
theorem d_SkeletonClockModel_digits_6 : decode b_SkeletonClockModel_digits 6 = .ok (.iload 6, 2) := by decide +kernel
theorem d_SkeletonClockModel_digits_8 : decode b_SkeletonClockModel_digits 8 = .ok (.iload_n 3, 1) := by decide +kernel
theorem d_SkeletonClockModel_digits_9 : decode b_SkeletonClockModel_digits 9 = .ok (.if_icmp .lt 14, 3) := by decide +kernel
theorem d_SkeletonClockModel_digits_12 : decode b_SkeletonClockModel_digits 12 = .ok (.lload_n 1, 1) := by decide +kernel
theorem d_SkeletonClockModel_digits_13 : decode b_SkeletonClockModel_digits 13 = .ok (.lload 4, 2) := by decide +kernel
theorem d_SkeletonClockModel_digits_15 : decode b_SkeletonClockModel_digits 15 = .ok (.ldiv, 1) := by decide +kernel
theorem d_SkeletonClockModel_digits_16 : decode b_SkeletonClockModel_digits 16 = .ok (.ldc2_w 240, 3) := by decide +kernel
theorem d_SkeletonClockModel_digits_19 : decode b_SkeletonClockModel_digits 19 = .ok (.lcmp, 1) := by decide +kernel
theorem d_SkeletonClockModel_digits_20 : decode b_SkeletonClockModel_digits 20 = .ok (.ifCond .lt 17, 3) := by decide +kernel
theorem d_SkeletonClockModel_digits_23 : decode b_SkeletonClockModel_digits 23 = .ok (.ldc2_w 240, 3) := by decide +kernel
theorem d_SkeletonClockModel_digits_26 : decode b_SkeletonClockModel_digits 26 = .ok (.lload 4, 2) := by decide +kernel
theorem d_SkeletonClockModel_digits_28 : decode b_SkeletonClockModel_digits 28 = .ok (.lmul, 1) := by decide +kernel
theorem d_SkeletonClockModel_digits_29 : decode b_SkeletonClockModel_digits 29 = .ok (.lstore 4, 2) := by decide +kernel
theorem d_SkeletonClockModel_digits_31 : decode b_SkeletonClockModel_digits 31 = .ok (.iinc 6 1, 3) := by decide +kernel
theorem d_SkeletonClockModel_digits_34 : decode b_SkeletonClockModel_digits 34 = .ok (.goto (-28), 3) := by decide +kernel
theorem d_SkeletonClockModel_digits_37 : decode b_SkeletonClockModel_digits 37 = .ok (.lload 4, 2) := by decide +kernel
theorem d_SkeletonClockModel_digits_39 : decode b_SkeletonClockModel_digits 39 = .ok (.lconst 0, 1) := by decide +kernel
theorem d_SkeletonClockModel_digits_40 : decode b_SkeletonClockModel_digits 40 = .ok (.lcmp, 1) := by decide +kernel
theorem d_SkeletonClockModel_digits_41 : decode b_SkeletonClockModel_digits 41 = .ok (.ifCond .le 31, 3) := by decide +kernel
theorem d_SkeletonClockModel_digits_44 : decode b_SkeletonClockModel_digits 44 = .ok (.aload_n 0, 1) := by decide +kernel
theorem d_SkeletonClockModel_digits_45 : decode b_SkeletonClockModel_digits 45 = .ok (.ldc2_w 242, 3) := by decide +kernel
theorem d_SkeletonClockModel_digits_48 : decode b_SkeletonClockModel_digits 48 = .ok (.lload_n 1, 1) := by decide +kernel
theorem d_SkeletonClockModel_digits_49 : decode b_SkeletonClockModel_digits 49 = .ok (.lload 4, 2) := by decide +kernel
theorem d_SkeletonClockModel_digits_51 : decode b_SkeletonClockModel_digits 51 = .ok (.ldiv, 1) := by decide +kernel
theorem d_SkeletonClockModel_digits_52 : decode b_SkeletonClockModel_digits 52 = .ok (.ldc2_w 240, 3) := by decide +kernel
theorem d_SkeletonClockModel_digits_55 : decode b_SkeletonClockModel_digits 55 = .ok (.lrem, 1) := by decide +kernel
theorem d_SkeletonClockModel_digits_56 : decode b_SkeletonClockModel_digits 56 = .ok (.ladd, 1) := by decide +kernel
theorem d_SkeletonClockModel_digits_57 : decode b_SkeletonClockModel_digits 57 = .ok (.l2i, 1) := by decide +kernel
theorem d_SkeletonClockModel_digits_58 : decode b_SkeletonClockModel_digits 58 = .ok (.invokevirtual 244, 3) := by decide +kernel
theorem d_SkeletonClockModel_digits_61 : decode b_SkeletonClockModel_digits 61 = .ok (.lload 4, 2) := by decide +kernel
theorem d_SkeletonClockModel_digits_63 : decode b_SkeletonClockModel_digits 63 = .ok (.ldc2_w 240, 3) := by decide +kernel
theorem d_SkeletonClockModel_digits_66 : decode b_SkeletonClockModel_digits 66 = .ok (.ldiv, 1) := by decide +kernel
theorem d_SkeletonClockModel_digits_67 : decode b_SkeletonClockModel_digits 67 = .ok (.lstore 4, 2) := by decide +kernel
theorem d_SkeletonClockModel_digits_69 : decode b_SkeletonClockModel_digits 69 = .ok (.goto (-32), 3) := by decide +kernel
theorem d_SkeletonClockModel_digits_72 : decode b_SkeletonClockModel_digits 72 = .ok (.return_, 1) := by decide +kernel
theorem d_SkeletonClockModel_missing_0 : decode b_SkeletonClockModel_missing 0 = .ok (.aload_n 0, 1) := by decide +kernel
theorem d_SkeletonClockModel_missing_1 : decode b_SkeletonClockModel_missing 1 = .ok (.getfield 20, 3) := by decide +kernel
theorem d_SkeletonClockModel_missing_4 : decode b_SkeletonClockModel_missing 4 = .ok (.iload_n 1, 1) := by decide +kernel
theorem d_SkeletonClockModel_missing_5 : decode b_SkeletonClockModel_missing 5 = .ok (.iaload, 1) := by decide +kernel
theorem d_SkeletonClockModel_missing_6 : decode b_SkeletonClockModel_missing 6 = .ok (.iconst 1, 1) := by decide +kernel
theorem d_SkeletonClockModel_missing_7 : decode b_SkeletonClockModel_missing 7 = .ok (.if_icmp .ne 27, 3) := by decide +kernel
theorem d_SkeletonClockModel_missing_10 : decode b_SkeletonClockModel_missing 10 = .ok (.aload_n 0, 1) := by decide +kernel
theorem d_SkeletonClockModel_missing_11 : decode b_SkeletonClockModel_missing 11 = .ok (.getfield 53, 3) := by decide +kernel
theorem d_SkeletonClockModel_missing_14 : decode b_SkeletonClockModel_missing 14 = .ok (.aload_n 0, 1) := by decide +kernel
theorem d_SkeletonClockModel_missing_15 : decode b_SkeletonClockModel_missing 15 = .ok (.getfield 24, 3) := by decide +kernel
theorem d_SkeletonClockModel_missing_18 : decode b_SkeletonClockModel_missing 18 = .ok (.iload_n 1, 1) := by decide +kernel
theorem d_SkeletonClockModel_missing_19 : decode b_SkeletonClockModel_missing 19 = .ok (.iaload, 1) := by decide +kernel
theorem d_SkeletonClockModel_missing_20 : decode b_SkeletonClockModel_missing 20 = .ok (.invokestatic 177, 3) := by decide +kernel
theorem d_SkeletonClockModel_missing_23 : decode b_SkeletonClockModel_missing 23 = .ok (.invokestatic 248, 3) := by decide +kernel
theorem d_SkeletonClockModel_missing_26 : decode b_SkeletonClockModel_missing 26 = .ok (.iand, 1) := by decide +kernel
theorem d_SkeletonClockModel_missing_27 : decode b_SkeletonClockModel_missing 27 = .ok (.ifCond .ne 7, 3) := by decide +kernel
theorem d_SkeletonClockModel_missing_30 : decode b_SkeletonClockModel_missing 30 = .ok (.iconst 1, 1) := by decide +kernel
theorem d_SkeletonClockModel_missing_31 : decode b_SkeletonClockModel_missing 31 = .ok (.goto 4, 3) := by decide +kernel
theorem d_SkeletonClockModel_missing_34 : decode b_SkeletonClockModel_missing 34 = .ok (.iconst 0, 1) := by decide +kernel
theorem d_SkeletonClockModel_missing_35 : decode b_SkeletonClockModel_missing 35 = .ok (.ireturn, 1) := by decide +kernel
theorem d_SkeletonClockModel_lacks_0 : decode b_SkeletonClockModel_lacks 0 = .ok (.iconst 0, 1) := by decide +kernel
theorem d_SkeletonClockModel_lacks_1 : decode b_SkeletonClockModel_lacks 1 = .ok (.istore_n 3, 1) := by decide +kernel
theorem d_SkeletonClockModel_lacks_2 : decode b_SkeletonClockModel_lacks 2 = .ok (.bipush 20, 2) := by decide +kernel
theorem d_SkeletonClockModel_lacks_4 : decode b_SkeletonClockModel_lacks 4 = .ok (.iload_n 1, 1) := by decide +kernel
theorem d_SkeletonClockModel_lacks_5 : decode b_SkeletonClockModel_lacks 5 = .ok (.imul, 1) := by decide +kernel
theorem d_SkeletonClockModel_lacks_6 : decode b_SkeletonClockModel_lacks 6 = .ok (.istore 4, 2) := by decide +kernel
theorem d_SkeletonClockModel_lacks_8 : decode b_SkeletonClockModel_lacks 8 = .ok (.iload 4, 2) := by decide +kernel
theorem d_SkeletonClockModel_lacks_10 : decode b_SkeletonClockModel_lacks 10 = .ok (.bipush 20, 2) := by decide +kernel
theorem d_SkeletonClockModel_lacks_12 : decode b_SkeletonClockModel_lacks 12 = .ok (.iload_n 1, 1) := by decide +kernel
theorem d_SkeletonClockModel_lacks_13 : decode b_SkeletonClockModel_lacks 13 = .ok (.imul, 1) := by decide +kernel
theorem d_SkeletonClockModel_lacks_14 : decode b_SkeletonClockModel_lacks 14 = .ok (.aload_n 0, 1) := by decide +kernel
theorem d_SkeletonClockModel_lacks_15 : decode b_SkeletonClockModel_lacks 15 = .ok (.getfield 36, 3) := by decide +kernel
theorem d_SkeletonClockModel_lacks_18 : decode b_SkeletonClockModel_lacks 18 = .ok (.iload_n 1, 1) := by decide +kernel
theorem d_SkeletonClockModel_lacks_19 : decode b_SkeletonClockModel_lacks 19 = .ok (.iaload, 1) := by decide +kernel
theorem d_SkeletonClockModel_lacks_20 : decode b_SkeletonClockModel_lacks 20 = .ok (.iadd, 1) := by decide +kernel
theorem d_SkeletonClockModel_lacks_21 : decode b_SkeletonClockModel_lacks 21 = .ok (.if_icmp .ge 39, 3) := by decide +kernel
theorem d_SkeletonClockModel_lacks_24 : decode b_SkeletonClockModel_lacks 24 = .ok (.iload_n 3, 1) := by decide +kernel
theorem d_SkeletonClockModel_lacks_25 : decode b_SkeletonClockModel_lacks 25 = .ok (.ifCond .ne 23, 3) := by decide +kernel
theorem d_SkeletonClockModel_lacks_28 : decode b_SkeletonClockModel_lacks 28 = .ok (.aload_n 0, 1) := by decide +kernel
theorem d_SkeletonClockModel_lacks_29 : decode b_SkeletonClockModel_lacks 29 = .ok (.getfield 30, 3) := by decide +kernel
theorem d_SkeletonClockModel_lacks_32 : decode b_SkeletonClockModel_lacks 32 = .ok (.iload 4, 2) := by decide +kernel
theorem d_SkeletonClockModel_lacks_34 : decode b_SkeletonClockModel_lacks 34 = .ok (.iaload, 1) := by decide +kernel
theorem d_SkeletonClockModel_lacks_35 : decode b_SkeletonClockModel_lacks 35 = .ok (.iload_n 2, 1) := by decide +kernel
theorem d_SkeletonClockModel_lacks_36 : decode b_SkeletonClockModel_lacks 36 = .ok (.if_icmp .ne 16, 3) := by decide +kernel
theorem d_SkeletonClockModel_lacks_39 : decode b_SkeletonClockModel_lacks 39 = .ok (.aload_n 0, 1) := by decide +kernel
theorem d_SkeletonClockModel_lacks_40 : decode b_SkeletonClockModel_lacks 40 = .ok (.iload 4, 2) := by decide +kernel
theorem d_SkeletonClockModel_lacks_42 : decode b_SkeletonClockModel_lacks 42 = .ok (.invokevirtual 251, 3) := by decide +kernel
theorem d_SkeletonClockModel_lacks_45 : decode b_SkeletonClockModel_lacks 45 = .ok (.ifCond .eq 7, 3) := by decide +kernel
theorem d_SkeletonClockModel_lacks_48 : decode b_SkeletonClockModel_lacks 48 = .ok (.iconst 1, 1) := by decide +kernel
theorem d_SkeletonClockModel_lacks_49 : decode b_SkeletonClockModel_lacks 49 = .ok (.goto 4, 3) := by decide +kernel
theorem d_SkeletonClockModel_lacks_52 : decode b_SkeletonClockModel_lacks 52 = .ok (.iconst 0, 1) := by decide +kernel
theorem d_SkeletonClockModel_lacks_53 : decode b_SkeletonClockModel_lacks 53 = .ok (.istore_n 3, 1) := by decide +kernel
theorem d_SkeletonClockModel_lacks_54 : decode b_SkeletonClockModel_lacks 54 = .ok (.iinc 4 1, 3) := by decide +kernel
theorem d_SkeletonClockModel_lacks_57 : decode b_SkeletonClockModel_lacks 57 = .ok (.goto (-49), 3) := by decide +kernel
theorem d_SkeletonClockModel_lacks_60 : decode b_SkeletonClockModel_lacks 60 = .ok (.iload_n 3, 1) := by decide +kernel
theorem d_SkeletonClockModel_lacks_61 : decode b_SkeletonClockModel_lacks 61 = .ok (.ireturn, 1) := by decide +kernel
theorem d_SkeletonClockModel_spell_0 : decode b_SkeletonClockModel_spell 0 = .ok (.iconst 0, 1) := by decide +kernel
theorem d_SkeletonClockModel_spell_1 : decode b_SkeletonClockModel_spell 1 = .ok (.istore_n 3, 1) := by decide +kernel
theorem d_SkeletonClockModel_spell_2 : decode b_SkeletonClockModel_spell 2 = .ok (.iload_n 3, 1) := by decide +kernel
theorem d_SkeletonClockModel_spell_3 : decode b_SkeletonClockModel_spell 3 = .ok (.bipush 9, 2) := by decide +kernel
theorem d_SkeletonClockModel_spell_5 : decode b_SkeletonClockModel_spell 5 = .ok (.if_icmp .ge 38, 3) := by decide +kernel
theorem d_SkeletonClockModel_spell_8 : decode b_SkeletonClockModel_spell 8 = .ok (.aload_n 0, 1) := by decide +kernel
theorem d_SkeletonClockModel_spell_9 : decode b_SkeletonClockModel_spell 9 = .ok (.iload_n 1, 1) := by decide +kernel
theorem d_SkeletonClockModel_spell_10 : decode b_SkeletonClockModel_spell 10 = .ok (.iload_n 3, 1) := by decide +kernel
theorem d_SkeletonClockModel_spell_11 : decode b_SkeletonClockModel_spell 11 = .ok (.invokevirtual 277, 3) := by decide +kernel
theorem d_SkeletonClockModel_spell_14 : decode b_SkeletonClockModel_spell 14 = .ok (.ifCond .le 29, 3) := by decide +kernel
theorem d_SkeletonClockModel_spell_17 : decode b_SkeletonClockModel_spell 17 = .ok (.iload_n 2, 1) := by decide +kernel
theorem d_SkeletonClockModel_spell_18 : decode b_SkeletonClockModel_spell 18 = .ok (.iconst 3, 1) := by decide +kernel
theorem d_SkeletonClockModel_spell_19 : decode b_SkeletonClockModel_spell 19 = .ok (.if_icmp .gt 8, 3) := by decide +kernel
theorem d_SkeletonClockModel_spell_22 : decode b_SkeletonClockModel_spell 22 = .ok (.iload_n 3, 1) := by decide +kernel
theorem d_SkeletonClockModel_spell_23 : decode b_SkeletonClockModel_spell 23 = .ok (.iconst 3, 1) := by decide +kernel
theorem d_SkeletonClockModel_spell_24 : decode b_SkeletonClockModel_spell 24 = .ok (.if_icmp .ge 19, 3) := by decide +kernel
theorem d_SkeletonClockModel_spell_27 : decode b_SkeletonClockModel_spell 27 = .ok (.aload_n 0, 1) := by decide +kernel
theorem d_SkeletonClockModel_spell_28 : decode b_SkeletonClockModel_spell 28 = .ok (.aload_n 0, 1) := by decide +kernel
theorem d_SkeletonClockModel_spell_29 : decode b_SkeletonClockModel_spell 29 = .ok (.iload_n 1, 1) := by decide +kernel
theorem d_SkeletonClockModel_spell_30 : decode b_SkeletonClockModel_spell 30 = .ok (.iload_n 3, 1) := by decide +kernel
theorem d_SkeletonClockModel_spell_31 : decode b_SkeletonClockModel_spell 31 = .ok (.invokevirtual 277, 3) := by decide +kernel
theorem d_SkeletonClockModel_spell_34 : decode b_SkeletonClockModel_spell 34 = .ok (.invokevirtual 244, 3) := by decide +kernel
theorem d_SkeletonClockModel_spell_37 : decode b_SkeletonClockModel_spell 37 = .ok (.iinc 3 1, 3) := by decide +kernel
theorem d_SkeletonClockModel_spell_40 : decode b_SkeletonClockModel_spell 40 = .ok (.goto (-38), 3) := by decide +kernel
theorem d_SkeletonClockModel_spell_43 : decode b_SkeletonClockModel_spell 43 = .ok (.return_, 1) := by decide +kernel
abbrev rm_SkeletonClockModel_match : Room := { frames := 3, cells := 0, slots := 0, locals := 66 }
set_option maxHeartbeats 4000000 in
set_option maxRecDepth 100000 in
theorem w_SkeletonClockModel_match_21 {p : Program} {l : Launch} {e : Env} {s : State} {m : MethodId} {args : Array Value} {below : List Frame} {meth : Method} {c : Code} {Q : State → Prop} {A : Nat → Prop} {D : va_G} {kk : Nat → ClassId} {st : Nat → Nat} (a_t a_t_text a_t_sort a_t_code a_t_count a_t_size a_t_there a_t_wish a_t_have a_t_page a_t_names a_t_around a_t_end a_t_known a_t_value a_t_before a_t_open a_t_from : Nat) (t_length : Int32) (t_used : Int32) (t_momentParts : Int32) (t_momentDay : Int64) (t_momentSecond : Int32) (t_momentNano : Int32) (t_momentOffset : Int32) (t_readParts : Int32) (t_readDay : Int64) (t_readSecond : Int32) (t_readNano : Int32) (t_readOffset : Int32) (t_alike : Int32) (t_text : Nat → Int32) (t_sort : Nat → Int32) (t_code : Nat → Int32) (t_count : Nat → Int32) (t_size : Nat → Int32) (t_there : Nat → Int32) (t_wish : Nat → Int32) (S : CallFix p m c b_SkeletonClockModel_match 5 s args GW y_SkeletonClockModel_match.cls) (hr : meth.sig.returnType = (some .int)) (hlk : meth.locks = false) (hA : ∀ q, s.heap.size ≤ q → A q) (X : KX D kk st A s) : ∀ (n : Nat) (x2 : Int32) (x3 : Int32) (t_far : Int32) (t_have : Nat → Int32) (v : Int32 × Int32 × Int32 × (Nat → Int32)) (H : Heap) (locs : List Loc) (ls : Array Slot), lp_SkeletonClockModel_match_21 t_sort t_code t_count t_size t_there t_wish n x2 x3 t_far t_have = some v → lv_has ls 5 [(0, .ref a_t), (2, .int x2), (3, .int x3)] → va_P D classes [(a_t, .inr (10, [.int t_length, .ref a_t_text, .int t_used, .ref a_t_page, .ref a_t_names, .ref a_t_sort, .ref a_t_code, .ref a_t_count, .ref a_t_around, .ref a_t_end, .ref a_t_size, .ref a_t_there, .ref a_t_wish, .ref a_t_have, .int t_far, .int t_momentParts, .long t_momentDay, .int t_momentSecond, .int t_momentNano, .int t_momentOffset, .int t_readParts, .long t_readDay, .int t_readSecond, .int t_readNano, .int t_readOffset, .ref a_t_known, .ref a_t_value, .ref a_t_before, .ref a_t_open, .ref a_t_from, .int t_alike])), (a_t_text, .inl (kk 1, 60, .inl t_text)), (a_t_sort, .inl (kk 0, 140, .inl t_sort)), (a_t_code, .inl (kk 0, 140, .inl t_code)), (a_t_count, .inl (kk 0, 140, .inl t_count)), (a_t_size, .inl (kk 0, 7, .inl t_size)), (a_t_there, .inl (kk 2, 7, .inl t_there)), (a_t_wish, .inl (kk 0, 128, .inl t_wish)), (a_t_have, .inl (kk 0, 128, .inl t_have))] H → va_D A [(a_t, .inr (10, [.int t_length, .ref a_t_text, .int t_used, .ref a_t_page, .ref a_t_names, .ref a_t_sort, .ref a_t_code, .ref a_t_count, .ref a_t_around, .ref a_t_end, .ref a_t_size, .ref a_t_there, .ref a_t_wish, .ref a_t_have, .int t_far, .int t_momentParts, .long t_momentDay, .int t_momentSecond, .int t_momentNano, .int t_momentOffset, .int t_readParts, .long t_readDay, .int t_readSecond, .int t_readNano, .int t_readOffset, .ref a_t_known, .ref a_t_value, .ref a_t_before, .ref a_t_open, .ref a_t_from, .int t_alike])), (a_t_text, .inl (kk 1, 60, .inl t_text)), (a_t_sort, .inl (kk 0, 140, .inl t_sort)), (a_t_code, .inl (kk 0, 140, .inl t_code)), (a_t_count, .inl (kk 0, 140, .inl t_count)), (a_t_size, .inl (kk 0, 7, .inl t_size)), (a_t_there, .inl (kk 2, 7, .inl t_there)), (a_t_wish, .inl (kk 0, 128, .inl t_wish)), (a_t_have, .inl (kk 0, 128, .inl t_have))] → va_S A s.heap H locs → (∀ (H : Heap) (locs : List Loc) (ls : Array Slot), lv_has ls 5 [(0, .ref a_t), (2, .int v.1), (3, .int v.2.1)] → va_P D classes [(a_t, .inr (10, [.int t_length, .ref a_t_text, .int t_used, .ref a_t_page, .ref a_t_names, .ref a_t_sort, .ref a_t_code, .ref a_t_count, .ref a_t_around, .ref a_t_end, .ref a_t_size, .ref a_t_there, .ref a_t_wish, .ref a_t_have, .int v.2.2.1, .int t_momentParts, .long t_momentDay, .int t_momentSecond, .int t_momentNano, .int t_momentOffset, .int t_readParts, .long t_readDay, .int t_readSecond, .int t_readNano, .int t_readOffset, .ref a_t_known, .ref a_t_value, .ref a_t_before, .ref a_t_open, .ref a_t_from, .int t_alike])), (a_t_text, .inl (kk 1, 60, .inl t_text)), (a_t_sort, .inl (kk 0, 140, .inl t_sort)), (a_t_code, .inl (kk 0, 140, .inl t_code)), (a_t_count, .inl (kk 0, 140, .inl t_count)), (a_t_size, .inl (kk 0, 7, .inl t_size)), (a_t_there, .inl (kk 2, 7, .inl t_there)), (a_t_wish, .inl (kk 0, 128, .inl t_wish)), (a_t_have, .inl (kk 0, 128, .inl v.2.2.2))] H → va_D A [(a_t, .inr (10, [.int t_length, .ref a_t_text, .int t_used, .ref a_t_page, .ref a_t_names, .ref a_t_sort, .ref a_t_code, .ref a_t_count, .ref a_t_around, .ref a_t_end, .ref a_t_size, .ref a_t_there, .ref a_t_wish, .ref a_t_have, .int v.2.2.1, .int t_momentParts, .long t_momentDay, .int t_momentSecond, .int t_momentNano, .int t_momentOffset, .int t_readParts, .long t_readDay, .int t_readSecond, .int t_readNano, .int t_readOffset, .ref a_t_known, .ref a_t_value, .ref a_t_before, .ref a_t_open, .ref a_t_from, .int t_alike])), (a_t_text, .inl (kk 1, 60, .inl t_text)), (a_t_sort, .inl (kk 0, 140, .inl t_sort)), (a_t_code, .inl (kk 0, 140, .inl t_code)), (a_t_count, .inl (kk 0, 140, .inl t_count)), (a_t_size, .inl (kk 0, 7, .inl t_size)), (a_t_there, .inl (kk 2, 7, .inl t_there)), (a_t_wish, .inl (kk 0, 128, .inl t_wish)), (a_t_have, .inl (kk 0, 128, .inl v.2.2.2))] → va_S A s.heap H locs → W p l e rm_SkeletonClockModel_match s m args below meth c H locs 0 0 Q (F0 m 73 ls [])) → W p l e rm_SkeletonClockModel_match s m args below meth c H locs 0 0 Q (F0 m 21 ls []) := by
  intro n
  induction n with
  | zero =>
    intro x2 x3 t_far t_have v H locs ls he hl hP hD hS K
    exact ih_n he
  | succ n ih =>
    intro x2 x3 t_far t_have v H locs ls he hl hP hD hS K
    have hx := S.1
    have hb := S.2.1
    have he : st_SkeletonClockModel_match_21 t_sort t_code t_count t_size t_there t_wish (lp_SkeletonClockModel_match_21 t_sort t_code t_count t_size t_there t_wish n) x2 x3 t_far t_have = some v := he
    unfold st_SkeletonClockModel_match_21 at he
    refine lv_iload_n hx hb d_SkeletonClockModel_match_21 rfl (lv_at hl 2 rfl) ?_
    refine lv_bipush (v := (6 : Int32)) hx hb d_SkeletonClockModel_match_22 (by decide) ?_
    refine lv_icmp_ge (tgt := 73) hx hb d_SkeletonClockModel_match_24 rfl (fun hc => ?_) (fun hc => ?_)
    · have he := ih_t hc he
      have hl : lv_has ls 5 [(0, .ref a_t), (2, .int x2), (3, .int x3)] := lv_sub hl [0, 1, 2] rfl
      cases he
      exact K _ _ _ hl hP hD hS
    · have he := ih_f hc he
      refine lv_aload_n hx hb d_SkeletonClockModel_match_27 rfl (lv_at hl 0 rfl) ?_
      refine k_get S X us_SkeletonClockModel hP 0 rfl rfl 11 (by decide) gm_4_162 rfl d_SkeletonClockModel_match_28 ?_
      refine lv_iload_n hx hb d_SkeletonClockModel_match_31 rfl (lv_at hl 2 rfl) ?_
      obtain ⟨hi3, he⟩ := ih_g he
      refine va_zald hx hb X.1 hP 6 2 rfl rfl hi3 d_SkeletonClockModel_match_32 ?_
      refine lv_if_ne (tgt := 39) hx hb d_SkeletonClockModel_match_33 rfl (fun hc => ?_) (fun hc => ?_)
      · have he := ih_f hc he
        refine lv_aload_n hx hb d_SkeletonClockModel_match_39 rfl (lv_at hl 0 rfl) ?_
        refine lv_iload_n hx hb d_SkeletonClockModel_match_40 rfl (lv_at hl 2 rfl) ?_
        obtain ⟨u4, e5, he⟩ := ih_b he
        refine k_i (wr := [(a_t_text, .inl (kk 1, 60, .inl t_text)), (a_t_there, .inl (kk 2, 7, .inl t_there))]) (w1 := [(a_t, .inr (10, [.int t_length, .ref a_t_text, .int t_used, .ref a_t_page, .ref a_t_names, .ref a_t_sort, .ref a_t_code, .ref a_t_count, .ref a_t_around, .ref a_t_end, .ref a_t_size, .ref a_t_there, .ref a_t_wish, .ref a_t_have, .int t_far, .int t_momentParts, .long t_momentDay, .int t_momentSecond, .int t_momentNano, .int t_momentOffset, .int t_readParts, .long t_readDay, .int t_readSecond, .int t_readNano, .int t_readOffset, .ref a_t_known, .ref a_t_value, .ref a_t_before, .ref a_t_open, .ref a_t_from, .int t_alike])), (a_t_sort, .inl (kk 0, 140, .inl t_sort)), (a_t_code, .inl (kk 0, 140, .inl t_code)), (a_t_count, .inl (kk 0, 140, .inl t_count)), (a_t_size, .inl (kk 0, 7, .inl t_size)), (a_t_wish, .inl (kk 0, 128, .inl t_wish)), (a_t_have, .inl (kk 0, 128, .inl u4.2))]) (w2 := [(a_t, .inr (10, [.int t_length, .ref a_t_text, .int t_used, .ref a_t_page, .ref a_t_names, .ref a_t_sort, .ref a_t_code, .ref a_t_count, .ref a_t_around, .ref a_t_end, .ref a_t_size, .ref a_t_there, .ref a_t_wish, .ref a_t_have, .int t_far, .int t_momentParts, .long t_momentDay, .int t_momentSecond, .int t_momentNano, .int t_momentOffset, .int t_readParts, .long t_readDay, .int t_readSecond, .int t_readNano, .int t_readOffset, .ref a_t_known, .ref a_t_value, .ref a_t_before, .ref a_t_open, .ref a_t_from, .int t_alike])), (a_t_text, .inl (kk 1, 60, .inl t_text)), (a_t_sort, .inl (kk 0, 140, .inl t_sort)), (a_t_code, .inl (kk 0, 140, .inl t_code)), (a_t_count, .inl (kk 0, 140, .inl t_count)), (a_t_size, .inl (kk 0, 7, .inl t_size)), (a_t_there, .inl (kk 2, 7, .inl t_there)), (a_t_wish, .inl (kk 0, 128, .inl t_wish)), (a_t_have, .inl (kk 0, 128, .inl u4.2))]) (r_V (As := [.int x3]) S X hA hP hD hS (c_SkeletonClockModel_distanceTo l D kk st a_t a_t_sort a_t_code a_t_count a_t_size a_t_wish a_t_have a_t_text a_t_page a_t_names a_t_around a_t_end a_t_there a_t_known a_t_value a_t_before a_t_open a_t_from _ t_length t_used t_far t_momentParts t_momentDay t_momentSecond t_momentNano t_momentOffset t_readParts t_readDay t_readSecond t_readNano t_readOffset t_alike t_sort t_code t_count t_size t_wish t_have x3 u4 e5) gm_5_55 gm_5_52 gm_5_54 gm_p3_6 gm_1_13 ⟨rfl, rfl, by decide, by decide⟩ kd_SkeletonClockModel_distanceTo [0, 2, 3, 4, 5, 7, 8] rfl rfl rfl 0 10 rfl rfl rfl rfl hl.1 rfl (Nat.le_of_ble_eq_true rfl) d_SkeletonClockModel_match_41 ⟨Nat.zero_le _, Nat.zero_le _⟩) hA hP hD hS [0, 2, 3, 4, 5, 7, 8] [1, 6] [2, 0, 3, 4, 5, 6, 1, 7, 8] rfl rfl rfl (by decide) rfl rfl rfl (fun H locs hP hD hS => ?_)
        refine lv_istore hx hb d_SkeletonClockModel_match_44 hl (by decide) rfl (fun ls hl => ?_)
        have hl : lv_has ls 5 [(4, .int u4.1), (0, .ref a_t), (2, .int x2), (3, .int x3)] := hl
        refine lv_iload_n hx hb d_SkeletonClockModel_match_46 rfl (lv_at hl 2 rfl) ?_
        refine lv_if_lt (tgt := 59) hx hb d_SkeletonClockModel_match_47 rfl (fun hc => ?_) (fun hc => ?_)
        · have he := ih_t hc he
          refine lv_iload_n hx hb d_SkeletonClockModel_match_59 rfl (lv_at hl 3 rfl) ?_
          refine lv_istore_n hx hb d_SkeletonClockModel_match_60 rfl hl (by decide) rfl (fun ls hl => ?_)
          have hl : lv_has ls 5 [(2, .int x3), (4, .int u4.1), (0, .ref a_t), (3, .int x3)] := hl
          refine lv_aload_n hx hb d_SkeletonClockModel_match_61 rfl (lv_at hl 2 rfl) ?_
          refine lv_iload hx hb d_SkeletonClockModel_match_62 (lv_at hl 1 rfl) ?_
          refine k_put S X us_SkeletonClockModel t_SkeletonClockModel t_SkeletonClockModel_ok n_SkeletonClockModel hP hD hS 0 rfl rfl 14 (by decide) gm_4_165 rfl rfl rfl (Nat.le_of_ble_eq_true rfl) d_SkeletonClockModel_match_64 (fun H locs hP hD hS => ?_)
          have hP : va_P D classes [(a_t, .inr (10, [.int t_length, .ref a_t_text, .int t_used, .ref a_t_page, .ref a_t_names, .ref a_t_sort, .ref a_t_code, .ref a_t_count, .ref a_t_around, .ref a_t_end, .ref a_t_size, .ref a_t_there, .ref a_t_wish, .ref a_t_have, .int u4.1, .int t_momentParts, .long t_momentDay, .int t_momentSecond, .int t_momentNano, .int t_momentOffset, .int t_readParts, .long t_readDay, .int t_readSecond, .int t_readNano, .int t_readOffset, .ref a_t_known, .ref a_t_value, .ref a_t_before, .ref a_t_open, .ref a_t_from, .int t_alike])), (a_t_text, .inl (kk 1, 60, .inl t_text)), (a_t_sort, .inl (kk 0, 140, .inl t_sort)), (a_t_code, .inl (kk 0, 140, .inl t_code)), (a_t_count, .inl (kk 0, 140, .inl t_count)), (a_t_size, .inl (kk 0, 7, .inl t_size)), (a_t_there, .inl (kk 2, 7, .inl t_there)), (a_t_wish, .inl (kk 0, 128, .inl t_wish)), (a_t_have, .inl (kk 0, 128, .inl u4.2))] H := hP
          have hD : va_D A [(a_t, .inr (10, [.int t_length, .ref a_t_text, .int t_used, .ref a_t_page, .ref a_t_names, .ref a_t_sort, .ref a_t_code, .ref a_t_count, .ref a_t_around, .ref a_t_end, .ref a_t_size, .ref a_t_there, .ref a_t_wish, .ref a_t_have, .int u4.1, .int t_momentParts, .long t_momentDay, .int t_momentSecond, .int t_momentNano, .int t_momentOffset, .int t_readParts, .long t_readDay, .int t_readSecond, .int t_readNano, .int t_readOffset, .ref a_t_known, .ref a_t_value, .ref a_t_before, .ref a_t_open, .ref a_t_from, .int t_alike])), (a_t_text, .inl (kk 1, 60, .inl t_text)), (a_t_sort, .inl (kk 0, 140, .inl t_sort)), (a_t_code, .inl (kk 0, 140, .inl t_code)), (a_t_count, .inl (kk 0, 140, .inl t_count)), (a_t_size, .inl (kk 0, 7, .inl t_size)), (a_t_there, .inl (kk 2, 7, .inl t_there)), (a_t_wish, .inl (kk 0, 128, .inl t_wish)), (a_t_have, .inl (kk 0, 128, .inl u4.2))] := hD
          refine lv_iinc (k := 3) hx hb d_SkeletonClockModel_match_67 hl rfl (ii_ (v := (1 : Int32)) (by decide)) (by decide) rfl (fun ls hl => ?_)
          have hl : lv_has ls 5 [(3, .int (x3 + (1 : Int32))), (2, .int x3), (4, .int u4.1), (0, .ref a_t)] := hl
          refine lv_goto (tgt := 21) hx hb d_SkeletonClockModel_match_70 rfl ?_
          have hl : lv_has ls 5 [(0, .ref a_t), (2, .int x3), (3, .int (x3 + (1 : Int32)))] := lv_sub hl [3, 1, 0] rfl
          exact ih _ _ _ _ _ _ _ _ he hl hP hD hS K
        · have he := ih_f hc he
          refine lv_iload hx hb d_SkeletonClockModel_match_50 (lv_at hl 0 rfl) ?_
          refine lv_aload_n hx hb d_SkeletonClockModel_match_52 rfl (lv_at hl 1 rfl) ?_
          refine k_get S X us_SkeletonClockModel hP 0 rfl rfl 14 (by decide) gm_4_165 rfl d_SkeletonClockModel_match_53 ?_
          refine lv_icmp_ge (tgt := 67) hx hb d_SkeletonClockModel_match_56 rfl (fun hc => ?_) (fun hc => ?_)
          · have he := ih_t hc he
            refine lv_iinc (k := 3) hx hb d_SkeletonClockModel_match_67 hl rfl (ii_ (v := (1 : Int32)) (by decide)) (by decide) rfl (fun ls hl => ?_)
            have hl : lv_has ls 5 [(3, .int (x3 + (1 : Int32))), (4, .int u4.1), (0, .ref a_t), (2, .int x2)] := hl
            refine lv_goto (tgt := 21) hx hb d_SkeletonClockModel_match_70 rfl ?_
            have hl : lv_has ls 5 [(0, .ref a_t), (2, .int x2), (3, .int (x3 + (1 : Int32)))] := lv_sub hl [2, 3, 0] rfl
            exact ih _ _ _ _ _ _ _ _ he hl hP hD hS K
          · have he := ih_f hc he
            refine lv_iload_n hx hb d_SkeletonClockModel_match_59 rfl (lv_at hl 3 rfl) ?_
            refine lv_istore_n hx hb d_SkeletonClockModel_match_60 rfl hl (by decide) rfl (fun ls hl => ?_)
            have hl : lv_has ls 5 [(2, .int x3), (4, .int u4.1), (0, .ref a_t), (3, .int x3)] := hl
            refine lv_aload_n hx hb d_SkeletonClockModel_match_61 rfl (lv_at hl 2 rfl) ?_
            refine lv_iload hx hb d_SkeletonClockModel_match_62 (lv_at hl 1 rfl) ?_
            refine k_put S X us_SkeletonClockModel t_SkeletonClockModel t_SkeletonClockModel_ok n_SkeletonClockModel hP hD hS 0 rfl rfl 14 (by decide) gm_4_165 rfl rfl rfl (Nat.le_of_ble_eq_true rfl) d_SkeletonClockModel_match_64 (fun H locs hP hD hS => ?_)
            have hP : va_P D classes [(a_t, .inr (10, [.int t_length, .ref a_t_text, .int t_used, .ref a_t_page, .ref a_t_names, .ref a_t_sort, .ref a_t_code, .ref a_t_count, .ref a_t_around, .ref a_t_end, .ref a_t_size, .ref a_t_there, .ref a_t_wish, .ref a_t_have, .int u4.1, .int t_momentParts, .long t_momentDay, .int t_momentSecond, .int t_momentNano, .int t_momentOffset, .int t_readParts, .long t_readDay, .int t_readSecond, .int t_readNano, .int t_readOffset, .ref a_t_known, .ref a_t_value, .ref a_t_before, .ref a_t_open, .ref a_t_from, .int t_alike])), (a_t_text, .inl (kk 1, 60, .inl t_text)), (a_t_sort, .inl (kk 0, 140, .inl t_sort)), (a_t_code, .inl (kk 0, 140, .inl t_code)), (a_t_count, .inl (kk 0, 140, .inl t_count)), (a_t_size, .inl (kk 0, 7, .inl t_size)), (a_t_there, .inl (kk 2, 7, .inl t_there)), (a_t_wish, .inl (kk 0, 128, .inl t_wish)), (a_t_have, .inl (kk 0, 128, .inl u4.2))] H := hP
            have hD : va_D A [(a_t, .inr (10, [.int t_length, .ref a_t_text, .int t_used, .ref a_t_page, .ref a_t_names, .ref a_t_sort, .ref a_t_code, .ref a_t_count, .ref a_t_around, .ref a_t_end, .ref a_t_size, .ref a_t_there, .ref a_t_wish, .ref a_t_have, .int u4.1, .int t_momentParts, .long t_momentDay, .int t_momentSecond, .int t_momentNano, .int t_momentOffset, .int t_readParts, .long t_readDay, .int t_readSecond, .int t_readNano, .int t_readOffset, .ref a_t_known, .ref a_t_value, .ref a_t_before, .ref a_t_open, .ref a_t_from, .int t_alike])), (a_t_text, .inl (kk 1, 60, .inl t_text)), (a_t_sort, .inl (kk 0, 140, .inl t_sort)), (a_t_code, .inl (kk 0, 140, .inl t_code)), (a_t_count, .inl (kk 0, 140, .inl t_count)), (a_t_size, .inl (kk 0, 7, .inl t_size)), (a_t_there, .inl (kk 2, 7, .inl t_there)), (a_t_wish, .inl (kk 0, 128, .inl t_wish)), (a_t_have, .inl (kk 0, 128, .inl u4.2))] := hD
            refine lv_iinc (k := 3) hx hb d_SkeletonClockModel_match_67 hl rfl (ii_ (v := (1 : Int32)) (by decide)) (by decide) rfl (fun ls hl => ?_)
            have hl : lv_has ls 5 [(3, .int (x3 + (1 : Int32))), (2, .int x3), (4, .int u4.1), (0, .ref a_t)] := hl
            refine lv_goto (tgt := 21) hx hb d_SkeletonClockModel_match_70 rfl ?_
            have hl : lv_has ls 5 [(0, .ref a_t), (2, .int x3), (3, .int (x3 + (1 : Int32)))] := lv_sub hl [3, 1, 0] rfl
            exact ih _ _ _ _ _ _ _ _ he hl hP hD hS K
      · have he := ih_t hc he
        refine lv_goto (tgt := 67) hx hb d_SkeletonClockModel_match_36 rfl ?_
        refine lv_iinc (k := 2) hx hb d_SkeletonClockModel_match_67 hl rfl (ii_ (v := (1 : Int32)) (by decide)) (by decide) rfl (fun ls hl => ?_)
        have hl : lv_has ls 5 [(3, .int (x3 + (1 : Int32))), (0, .ref a_t), (2, .int x2)] := hl
        refine lv_goto (tgt := 21) hx hb d_SkeletonClockModel_match_70 rfl ?_
        have hl : lv_has ls 5 [(0, .ref a_t), (2, .int x2), (3, .int (x3 + (1 : Int32)))] := lv_sub hl [1, 2, 0] rfl
        exact ih _ _ _ _ _ _ _ _ he hl hP hD hS K
set_option maxHeartbeats 4000000 in
set_option maxRecDepth 100000 in
theorem c_SkeletonClockModel_match (l : Launch) (D : va_G) (kk : Nat → ClassId) (st : Nat → Nat) (a_t a_t_text a_t_sort a_t_code a_t_count a_t_size a_t_there a_t_wish a_t_have a_t_page a_t_names a_t_around a_t_end a_t_known a_t_value a_t_before a_t_open a_t_from : Nat) (sz : Nat) (t_length : Int32) (t_used : Int32) (t_far : Int32) (t_momentParts : Int32) (t_momentDay : Int64) (t_momentSecond : Int32) (t_momentNano : Int32) (t_momentOffset : Int32) (t_readParts : Int32) (t_readDay : Int64) (t_readSecond : Int32) (t_readNano : Int32) (t_readOffset : Int32) (t_alike : Int32) (t_text : Nat → Int32) (t_sort : Nat → Int32) (t_code : Nat → Int32) (t_count : Nat → Int32) (t_size : Nat → Int32) (t_there : Nat → Int32) (t_wish : Nat → Int32) (t_have : Nat → Int32) (o : Int32 × Int32 × Int32 × (Nat → Int32) × (Nat → Int32)) (he : f_SkeletonClockModel_match t_length t_far t_text t_sort t_code t_count t_size t_there t_wish t_have = some o) : Met l y_SkeletonClockModel_match (Cond.code y_SkeletonClockModel_match b_SkeletonClockModel_match 5 (some .int) :: GW) rm_SkeletonClockModel_match (KPc D kk st [.ref a_t] [(a_t, .inr (10, [.int t_length, .ref a_t_text, .int t_used, .ref a_t_page, .ref a_t_names, .ref a_t_sort, .ref a_t_code, .ref a_t_count, .ref a_t_around, .ref a_t_end, .ref a_t_size, .ref a_t_there, .ref a_t_wish, .ref a_t_have, .int t_far, .int t_momentParts, .long t_momentDay, .int t_momentSecond, .int t_momentNano, .int t_momentOffset, .int t_readParts, .long t_readDay, .int t_readSecond, .int t_readNano, .int t_readOffset, .ref a_t_known, .ref a_t_value, .ref a_t_before, .ref a_t_open, .ref a_t_from, .int t_alike])), (a_t_text, .inl (kk 1, 60, .inl t_text)), (a_t_sort, .inl (kk 0, 140, .inl t_sort)), (a_t_code, .inl (kk 0, 140, .inl t_code)), (a_t_count, .inl (kk 0, 140, .inl t_count)), (a_t_size, .inl (kk 0, 7, .inl t_size)), (a_t_there, .inl (kk 2, 7, .inl t_there)), (a_t_wish, .inl (kk 0, 128, .inl t_wish)), (a_t_have, .inl (kk 0, 128, .inl t_have))] sz) (KQi D kk o.1 [(a_t, .inr (10, [.int o.2.1, .ref a_t_text, .int t_used, .ref a_t_page, .ref a_t_names, .ref a_t_sort, .ref a_t_code, .ref a_t_count, .ref a_t_around, .ref a_t_end, .ref a_t_size, .ref a_t_there, .ref a_t_wish, .ref a_t_have, .int o.2.2.1, .int t_momentParts, .long t_momentDay, .int t_momentSecond, .int t_momentNano, .int t_momentOffset, .int t_readParts, .long t_readDay, .int t_readSecond, .int t_readNano, .int t_readOffset, .ref a_t_known, .ref a_t_value, .ref a_t_before, .ref a_t_open, .ref a_t_from, .int t_alike])), (a_t_text, .inl (kk 1, 60, .inl t_text)), (a_t_sort, .inl (kk 0, 140, .inl t_sort)), (a_t_code, .inl (kk 0, 140, .inl t_code)), (a_t_count, .inl (kk 0, 140, .inl t_count)), (a_t_size, .inl (kk 0, 7, .inl t_size)), (a_t_there, .inl (kk 2, 7, .inl t_there)), (a_t_wish, .inl (kk 0, 128, .inl o.2.2.2.1)), (a_t_have, .inl (kk 0, 128, .inl o.2.2.2.2))] (va_A [(a_t, .inr (10, [.int t_length, .ref a_t_text, .int t_used, .ref a_t_page, .ref a_t_names, .ref a_t_sort, .ref a_t_code, .ref a_t_count, .ref a_t_around, .ref a_t_end, .ref a_t_size, .ref a_t_there, .ref a_t_wish, .ref a_t_have, .int t_far, .int t_momentParts, .long t_momentDay, .int t_momentSecond, .int t_momentNano, .int t_momentOffset, .int t_readParts, .long t_readDay, .int t_readSecond, .int t_readNano, .int t_readOffset, .ref a_t_known, .ref a_t_value, .ref a_t_before, .ref a_t_open, .ref a_t_from, .int t_alike])), (a_t_text, .inl (kk 1, 60, .inl t_text)), (a_t_sort, .inl (kk 0, 140, .inl t_sort)), (a_t_code, .inl (kk 0, 140, .inl t_code)), (a_t_count, .inl (kk 0, 140, .inl t_count)), (a_t_size, .inl (kk 0, 7, .inl t_size)), (a_t_there, .inl (kk 2, 7, .inl t_there)), (a_t_wish, .inl (kk 0, 128, .inl t_wish)), (a_t_have, .inl (kk 0, 128, .inl t_have))] sz)) 0 0 (va_A [(a_t, .inr (10, [.int t_length, .ref a_t_text, .int t_used, .ref a_t_page, .ref a_t_names, .ref a_t_sort, .ref a_t_code, .ref a_t_count, .ref a_t_around, .ref a_t_end, .ref a_t_size, .ref a_t_there, .ref a_t_wish, .ref a_t_have, .int t_far, .int t_momentParts, .long t_momentDay, .int t_momentSecond, .int t_momentNano, .int t_momentOffset, .int t_readParts, .long t_readDay, .int t_readSecond, .int t_readNano, .int t_readOffset, .ref a_t_known, .ref a_t_value, .ref a_t_before, .ref a_t_open, .ref a_t_from, .int t_alike])), (a_t_text, .inl (kk 1, 60, .inl t_text)), (a_t_sort, .inl (kk 0, 140, .inl t_sort)), (a_t_code, .inl (kk 0, 140, .inl t_code)), (a_t_count, .inl (kk 0, 140, .inl t_count)), (a_t_size, .inl (kk 0, 7, .inl t_size)), (a_t_there, .inl (kk 2, 7, .inl t_there)), (a_t_wish, .inl (kk 0, 128, .inl t_wish)), (a_t_have, .inl (kk 0, 128, .inl t_have))] sz) := by
  refine k_start (Qc := fun A => KQi D kk o.1 [(a_t, .inr (10, [.int o.2.1, .ref a_t_text, .int t_used, .ref a_t_page, .ref a_t_names, .ref a_t_sort, .ref a_t_code, .ref a_t_count, .ref a_t_around, .ref a_t_end, .ref a_t_size, .ref a_t_there, .ref a_t_wish, .ref a_t_have, .int o.2.2.1, .int t_momentParts, .long t_momentDay, .int t_momentSecond, .int t_momentNano, .int t_momentOffset, .int t_readParts, .long t_readDay, .int t_readSecond, .int t_readNano, .int t_readOffset, .ref a_t_known, .ref a_t_value, .ref a_t_before, .ref a_t_open, .ref a_t_from, .int t_alike])), (a_t_text, .inl (kk 1, 60, .inl t_text)), (a_t_sort, .inl (kk 0, 140, .inl t_sort)), (a_t_code, .inl (kk 0, 140, .inl t_code)), (a_t_count, .inl (kk 0, 140, .inl t_count)), (a_t_size, .inl (kk 0, 7, .inl t_size)), (a_t_there, .inl (kk 2, 7, .inl t_there)), (a_t_wish, .inl (kk 0, 128, .inl o.2.2.2.1)), (a_t_have, .inl (kk 0, 128, .inl o.2.2.2.2))] A) (by decide) (Nat.le_of_ble_eq_true rfl) ?_
  intro p e s m below meth c A ls S hnm hr hlk hA X hP hD hS hl
  have hl : lv_has ls 5 [(0, .ref a_t)] := hl
  have hx := S.1
  have hb := S.2.1
  unfold f_SkeletonClockModel_match at he
  refine lv_aload_n hx hb d_SkeletonClockModel_match_0 rfl (lv_at hl 0 rfl) ?_
  obtain ⟨u1, e2, he⟩ := ih_b he
  refine k_i (wr := [(a_t_sort, .inl (kk 0, 140, .inl t_sort)), (a_t_code, .inl (kk 0, 140, .inl t_code)), (a_t_count, .inl (kk 0, 140, .inl t_count)), (a_t_size, .inl (kk 0, 7, .inl t_size)), (a_t_there, .inl (kk 2, 7, .inl t_there)), (a_t_have, .inl (kk 0, 128, .inl t_have))]) (w1 := [(a_t, .inr (10, [.int t_length, .ref a_t_text, .int t_used, .ref a_t_page, .ref a_t_names, .ref a_t_sort, .ref a_t_code, .ref a_t_count, .ref a_t_around, .ref a_t_end, .ref a_t_size, .ref a_t_there, .ref a_t_wish, .ref a_t_have, .int t_far, .int t_momentParts, .long t_momentDay, .int t_momentSecond, .int t_momentNano, .int t_momentOffset, .int t_readParts, .long t_readDay, .int t_readSecond, .int t_readNano, .int t_readOffset, .ref a_t_known, .ref a_t_value, .ref a_t_before, .ref a_t_open, .ref a_t_from, .int t_alike])), (a_t_text, .inl (kk 1, 60, .inl t_text)), (a_t_wish, .inl (kk 0, 128, .inl u1.2))]) (w2 := [(a_t, .inr (10, [.int t_length, .ref a_t_text, .int t_used, .ref a_t_page, .ref a_t_names, .ref a_t_sort, .ref a_t_code, .ref a_t_count, .ref a_t_around, .ref a_t_end, .ref a_t_size, .ref a_t_there, .ref a_t_wish, .ref a_t_have, .int t_far, .int t_momentParts, .long t_momentDay, .int t_momentSecond, .int t_momentNano, .int t_momentOffset, .int t_readParts, .long t_readDay, .int t_readSecond, .int t_readNano, .int t_readOffset, .ref a_t_known, .ref a_t_value, .ref a_t_before, .ref a_t_open, .ref a_t_from, .int t_alike])), (a_t_text, .inl (kk 1, 60, .inl t_text)), (a_t_sort, .inl (kk 0, 140, .inl t_sort)), (a_t_code, .inl (kk 0, 140, .inl t_code)), (a_t_count, .inl (kk 0, 140, .inl t_count)), (a_t_size, .inl (kk 0, 7, .inl t_size)), (a_t_there, .inl (kk 2, 7, .inl t_there)), (a_t_wish, .inl (kk 0, 128, .inl u1.2)), (a_t_have, .inl (kk 0, 128, .inl t_have))]) (r_V (As := []) S X hA hP hD hS (c_SkeletonClockModel_wished l D kk st a_t a_t_text a_t_wish a_t_page a_t_names a_t_sort a_t_code a_t_count a_t_around a_t_end a_t_size a_t_there a_t_have a_t_known a_t_value a_t_before a_t_open a_t_from _ t_length t_used t_far t_momentParts t_momentDay t_momentSecond t_momentNano t_momentOffset t_readParts t_readDay t_readSecond t_readNano t_readOffset t_alike t_text t_wish u1 e2) gm_5_51 gm_5_48 gm_5_50 gm_p3_5 gm_1_13 ⟨rfl, rfl, by decide, by decide⟩ kd_SkeletonClockModel_wished [0, 1, 7] rfl rfl rfl 0 10 rfl rfl rfl rfl hl.1 rfl (Nat.le_of_ble_eq_true rfl) d_SkeletonClockModel_match_1 ⟨Nat.zero_le _, Nat.zero_le _⟩) hA hP hD hS [0, 1, 7] [2, 3, 4, 5, 6, 8] [6, 7, 0, 1, 2, 3, 4, 8, 5] rfl rfl rfl (by decide) rfl rfl rfl (fun H locs hP hD hS => ?_)
  refine lv_istore_n hx hb d_SkeletonClockModel_match_4 rfl hl (by decide) rfl (fun ls hl => ?_)
  have hl : lv_has ls 5 [(1, .int u1.1), (0, .ref a_t)] := hl
  refine lv_aload_n hx hb d_SkeletonClockModel_match_5 rfl (lv_at hl 1 rfl) ?_
  refine lv_iconst (v := (0 : Int32)) hx hb d_SkeletonClockModel_match_6 (by decide) ?_
  refine k_put S X us_SkeletonClockModel t_SkeletonClockModel t_SkeletonClockModel_ok n_SkeletonClockModel hP hD hS 0 rfl rfl 0 (by decide) gm_4_151 rfl rfl rfl (Nat.le_of_ble_eq_true rfl) d_SkeletonClockModel_match_7 (fun H locs hP hD hS => ?_)
  have hP : va_P D classes [(a_t, .inr (10, [.int (0 : Int32), .ref a_t_text, .int t_used, .ref a_t_page, .ref a_t_names, .ref a_t_sort, .ref a_t_code, .ref a_t_count, .ref a_t_around, .ref a_t_end, .ref a_t_size, .ref a_t_there, .ref a_t_wish, .ref a_t_have, .int t_far, .int t_momentParts, .long t_momentDay, .int t_momentSecond, .int t_momentNano, .int t_momentOffset, .int t_readParts, .long t_readDay, .int t_readSecond, .int t_readNano, .int t_readOffset, .ref a_t_known, .ref a_t_value, .ref a_t_before, .ref a_t_open, .ref a_t_from, .int t_alike])), (a_t_text, .inl (kk 1, 60, .inl t_text)), (a_t_sort, .inl (kk 0, 140, .inl t_sort)), (a_t_code, .inl (kk 0, 140, .inl t_code)), (a_t_count, .inl (kk 0, 140, .inl t_count)), (a_t_size, .inl (kk 0, 7, .inl t_size)), (a_t_there, .inl (kk 2, 7, .inl t_there)), (a_t_wish, .inl (kk 0, 128, .inl u1.2)), (a_t_have, .inl (kk 0, 128, .inl t_have))] H := hP
  have hD : va_D A [(a_t, .inr (10, [.int (0 : Int32), .ref a_t_text, .int t_used, .ref a_t_page, .ref a_t_names, .ref a_t_sort, .ref a_t_code, .ref a_t_count, .ref a_t_around, .ref a_t_end, .ref a_t_size, .ref a_t_there, .ref a_t_wish, .ref a_t_have, .int t_far, .int t_momentParts, .long t_momentDay, .int t_momentSecond, .int t_momentNano, .int t_momentOffset, .int t_readParts, .long t_readDay, .int t_readSecond, .int t_readNano, .int t_readOffset, .ref a_t_known, .ref a_t_value, .ref a_t_before, .ref a_t_open, .ref a_t_from, .int t_alike])), (a_t_text, .inl (kk 1, 60, .inl t_text)), (a_t_sort, .inl (kk 0, 140, .inl t_sort)), (a_t_code, .inl (kk 0, 140, .inl t_code)), (a_t_count, .inl (kk 0, 140, .inl t_count)), (a_t_size, .inl (kk 0, 7, .inl t_size)), (a_t_there, .inl (kk 2, 7, .inl t_there)), (a_t_wish, .inl (kk 0, 128, .inl u1.2)), (a_t_have, .inl (kk 0, 128, .inl t_have))] := hD
  refine lv_iload_n hx hb d_SkeletonClockModel_match_10 rfl (lv_at hl 0 rfl) ?_
  refine lv_if_ne (tgt := 17) hx hb d_SkeletonClockModel_match_11 rfl (fun hc => ?_) (fun hc => ?_)
  · have he := ih_f hc he
    refine lv_iconst (v := (-1 : Int32)) hx hb d_SkeletonClockModel_match_17 (by decide) ?_
    refine lv_istore_n hx hb d_SkeletonClockModel_match_18 rfl hl (by decide) rfl (fun ls hl => ?_)
    have hl : lv_has ls 5 [(2, .int (-1 : Int32)), (1, .int u1.1), (0, .ref a_t)] := hl
    refine lv_iconst (v := (0 : Int32)) hx hb d_SkeletonClockModel_match_19 (by decide) ?_
    refine lv_istore_n hx hb d_SkeletonClockModel_match_20 rfl hl (by decide) rfl (fun ls hl => ?_)
    have hl : lv_has ls 5 [(3, .int (0 : Int32)), (2, .int (-1 : Int32)), (1, .int u1.1), (0, .ref a_t)] := hl
    obtain ⟨u6, e7, he⟩ := ih_b he
    have hl : lv_has ls 5 [(0, .ref a_t), (2, .int (-1 : Int32)), (3, .int (0 : Int32))] := lv_sub hl [3, 1, 0] rfl
    refine w_SkeletonClockModel_match_21 a_t a_t_text a_t_sort a_t_code a_t_count a_t_size a_t_there a_t_wish a_t_have a_t_page a_t_names a_t_around a_t_end a_t_known a_t_value a_t_before a_t_open a_t_from (0 : Int32) t_used t_momentParts t_momentDay t_momentSecond t_momentNano t_momentOffset t_readParts t_readDay t_readSecond t_readNano t_readOffset t_alike t_text t_sort t_code t_count t_size t_there u1.2 S hr hlk hA X FU (-1 : Int32) (0 : Int32) t_far t_have u6 _ _ ls e7 hl hP hD hS (fun H locs ls hl hP hD hS => ?_)
    refine lv_iload_n hx hb d_SkeletonClockModel_match_73 rfl (lv_at hl 1 rfl) ?_
    cases he
    exact k_ire hx hb hr hlk X hP hD hS d_SkeletonClockModel_match_74
  · have he := ih_t hc he
    refine lv_bipush (v := (-2 : Int32)) hx hb d_SkeletonClockModel_match_14 (by decide) ?_
    cases he
    exact k_ire hx hb hr hlk X hP hD hS d_SkeletonClockModel_match_16
abbrev rm_SkeletonClockModel_distance : Room := { frames := 0, cells := 0, slots := 0, locals := 0 }
set_option maxHeartbeats 4000000 in
set_option maxRecDepth 100000 in
theorem c_SkeletonClockModel_distance (l : Launch) (D : va_G) (kk : Nat → ClassId) (st : Nat → Nat) (a_t a_t_text a_t_page a_t_names a_t_sort a_t_code a_t_count a_t_around a_t_end a_t_size a_t_there a_t_wish a_t_have a_t_known a_t_value a_t_before a_t_open a_t_from : Nat) (sz : Nat) (t_length : Int32) (t_used : Int32) (t_far : Int32) (t_momentParts : Int32) (t_momentDay : Int64) (t_momentSecond : Int32) (t_momentNano : Int32) (t_momentOffset : Int32) (t_readParts : Int32) (t_readDay : Int64) (t_readSecond : Int32) (t_readNano : Int32) (t_readOffset : Int32) (t_alike : Int32) (o : Int32) (he : f_SkeletonClockModel_distance t_far = some o) : Met l y_SkeletonClockModel_distance (Cond.code y_SkeletonClockModel_distance b_SkeletonClockModel_distance 1 (some .int) :: GW) rm_SkeletonClockModel_distance (KPc D kk st [.ref a_t] [(a_t, .inr (10, [.int t_length, .ref a_t_text, .int t_used, .ref a_t_page, .ref a_t_names, .ref a_t_sort, .ref a_t_code, .ref a_t_count, .ref a_t_around, .ref a_t_end, .ref a_t_size, .ref a_t_there, .ref a_t_wish, .ref a_t_have, .int t_far, .int t_momentParts, .long t_momentDay, .int t_momentSecond, .int t_momentNano, .int t_momentOffset, .int t_readParts, .long t_readDay, .int t_readSecond, .int t_readNano, .int t_readOffset, .ref a_t_known, .ref a_t_value, .ref a_t_before, .ref a_t_open, .ref a_t_from, .int t_alike]))] sz) (KQi D kk o [(a_t, .inr (10, [.int t_length, .ref a_t_text, .int t_used, .ref a_t_page, .ref a_t_names, .ref a_t_sort, .ref a_t_code, .ref a_t_count, .ref a_t_around, .ref a_t_end, .ref a_t_size, .ref a_t_there, .ref a_t_wish, .ref a_t_have, .int t_far, .int t_momentParts, .long t_momentDay, .int t_momentSecond, .int t_momentNano, .int t_momentOffset, .int t_readParts, .long t_readDay, .int t_readSecond, .int t_readNano, .int t_readOffset, .ref a_t_known, .ref a_t_value, .ref a_t_before, .ref a_t_open, .ref a_t_from, .int t_alike]))] (va_A [(a_t, .inr (10, [.int t_length, .ref a_t_text, .int t_used, .ref a_t_page, .ref a_t_names, .ref a_t_sort, .ref a_t_code, .ref a_t_count, .ref a_t_around, .ref a_t_end, .ref a_t_size, .ref a_t_there, .ref a_t_wish, .ref a_t_have, .int t_far, .int t_momentParts, .long t_momentDay, .int t_momentSecond, .int t_momentNano, .int t_momentOffset, .int t_readParts, .long t_readDay, .int t_readSecond, .int t_readNano, .int t_readOffset, .ref a_t_known, .ref a_t_value, .ref a_t_before, .ref a_t_open, .ref a_t_from, .int t_alike]))] sz)) 0 0 (va_A [(a_t, .inr (10, [.int t_length, .ref a_t_text, .int t_used, .ref a_t_page, .ref a_t_names, .ref a_t_sort, .ref a_t_code, .ref a_t_count, .ref a_t_around, .ref a_t_end, .ref a_t_size, .ref a_t_there, .ref a_t_wish, .ref a_t_have, .int t_far, .int t_momentParts, .long t_momentDay, .int t_momentSecond, .int t_momentNano, .int t_momentOffset, .int t_readParts, .long t_readDay, .int t_readSecond, .int t_readNano, .int t_readOffset, .ref a_t_known, .ref a_t_value, .ref a_t_before, .ref a_t_open, .ref a_t_from, .int t_alike]))] sz) := by
  refine k_start (Qc := fun A => KQi D kk o [(a_t, .inr (10, [.int t_length, .ref a_t_text, .int t_used, .ref a_t_page, .ref a_t_names, .ref a_t_sort, .ref a_t_code, .ref a_t_count, .ref a_t_around, .ref a_t_end, .ref a_t_size, .ref a_t_there, .ref a_t_wish, .ref a_t_have, .int t_far, .int t_momentParts, .long t_momentDay, .int t_momentSecond, .int t_momentNano, .int t_momentOffset, .int t_readParts, .long t_readDay, .int t_readSecond, .int t_readNano, .int t_readOffset, .ref a_t_known, .ref a_t_value, .ref a_t_before, .ref a_t_open, .ref a_t_from, .int t_alike]))] A) (by decide) (Nat.le_of_ble_eq_true rfl) ?_
  intro p e s m below meth c A ls S hnm hr hlk hA X hP hD hS hl
  have hl : lv_has ls 1 [(0, .ref a_t)] := hl
  have hx := S.1
  have hb := S.2.1
  unfold f_SkeletonClockModel_distance at he
  refine lv_aload_n hx hb d_SkeletonClockModel_distance_0 rfl (lv_at hl 0 rfl) ?_
  refine k_get S X us_SkeletonClockModel hP 0 rfl rfl 14 (by decide) gm_4_165 rfl d_SkeletonClockModel_distance_1 ?_
  cases he
  exact k_ire hx hb hr hlk X hP hD hS d_SkeletonClockModel_distance_4
abbrev rm_SkeletonClockModel_yearFits : Room := { frames := 4, cells := 0, slots := 0, locals := 90 }
set_option maxHeartbeats 4000000 in
set_option maxRecDepth 100000 in
theorem c_SkeletonClockModel_yearFits (l : Launch) (D : va_G) (kk : Nat → ClassId) (st : Nat → Nat) (sz : Nat) (x0 : Int64) (o : Int32) (he : f_SkeletonClockModel_yearFits x0 = some o) : Met l y_SkeletonClockModel_yearFits (Cond.code y_SkeletonClockModel_yearFits b_SkeletonClockModel_yearFits 4 (some .boolean) :: GW) rm_SkeletonClockModel_yearFits (KPc D kk st [.long x0] [] sz) (KQi D kk o [] (va_A [] sz)) 0 0 (va_A [] sz) := by
  refine k_start (Qc := fun A => KQi D kk o [] A) (by decide) (Nat.le_of_ble_eq_true rfl) ?_
  intro p e s m below meth c A ls S hnm hr hlk hA X hP hD hS hl
  have hl : lv_has ls 4 [(0, .long x0)] := hl
  have hx := S.1
  have hb := S.2.1
  unfold f_SkeletonClockModel_yearFits at he
  refine lv_lload_n hx hb d_SkeletonClockModel_yearFits_0 rfl (lv_at hl 0 rfl) ?_
  obtain ⟨u1, e2, he⟩ := ih_b he
  refine k_lo (r_S (As := [.long x0]) S X hA hP hD hS (c_SkeletonClockModel_yearOf l D kk st _ x0 u1 e2) gm_5_77 gm_5_75 gm_5_76 gm_1_13 ⟨rfl, rfl, by decide, by decide⟩ kd_SkeletonClockModel_yearOf [] rfl rfl rfl rfl hl.1 rfl (Nat.le_of_ble_eq_true rfl) d_SkeletonClockModel_yearFits_1 ⟨Nat.zero_le _, Nat.zero_le _⟩) hA hP hD hS [] rfl (fun H locs hP hS => ?_)
  refine lv_lstore_n hx hb d_SkeletonClockModel_yearFits_4 rfl hl (by decide) rfl (fun ls hl => ?_)
  have hl : lv_has ls 4 [(2, .long u1), (0, .long x0)] := hl
  refine lv_lload_n hx hb d_SkeletonClockModel_yearFits_5 rfl (lv_at hl 0 rfl) ?_
  refine lv_ldc2 (v := (-999999999 : Int64)) hx hb S.2.2.2.1 (S.2.2.2.2 _ gm_5_90) d_SkeletonClockModel_yearFits_6 ?_
  refine lq_lt (tgt := 25) hx hb d_SkeletonClockModel_yearFits_9 d_SkeletonClockModel_yearFits_10 rfl (fun hc => ?_) (fun hc => ?_)
  · have he := ih_t hc he
    refine lv_iconst (v := (0 : Int32)) hx hb d_SkeletonClockModel_yearFits_25 (by decide) ?_
    cases he
    exact k_zre hx hb hr hlk X hP hD hS (Or.inl rfl) d_SkeletonClockModel_yearFits_26
  · have he := ih_f hc he
    refine lv_lload_n hx hb d_SkeletonClockModel_yearFits_13 rfl (lv_at hl 0 rfl) ?_
    refine lv_ldc2 (v := (999999999 : Int64)) hx hb S.2.2.2.1 (S.2.2.2.2 _ gm_5_91) d_SkeletonClockModel_yearFits_14 ?_
    refine lq_gt (tgt := 25) hx hb d_SkeletonClockModel_yearFits_17 d_SkeletonClockModel_yearFits_18 rfl (fun hc => ?_) (fun hc => ?_)
    · have he := ih_t hc he
      refine lv_iconst (v := (0 : Int32)) hx hb d_SkeletonClockModel_yearFits_25 (by decide) ?_
      cases he
      exact k_zre hx hb hr hlk X hP hD hS (Or.inl rfl) d_SkeletonClockModel_yearFits_26
    · have he := ih_f hc he
      refine lv_iconst (v := (1 : Int32)) hx hb d_SkeletonClockModel_yearFits_21 (by decide) ?_
      refine lv_goto (tgt := 26) hx hb d_SkeletonClockModel_yearFits_22 rfl ?_
      cases he
      exact k_zre hx hb hr hlk X hP hD hS (Or.inr rfl) d_SkeletonClockModel_yearFits_26
abbrev rm_SkeletonClockModel_moment : Room := { frames := 5, cells := 0, slots := 0, locals := 113 }
set_option maxHeartbeats 4000000 in
set_option maxRecDepth 100000 in
theorem c_SkeletonClockModel_moment (l : Launch) (D : va_G) (kk : Nat → ClassId) (st : Nat → Nat) (a_t a_t_text a_t_page a_t_names a_t_sort a_t_code a_t_count a_t_around a_t_end a_t_size a_t_there a_t_wish a_t_have a_t_known a_t_value a_t_before a_t_open a_t_from : Nat) (sz : Nat) (t_length : Int32) (t_used : Int32) (t_far : Int32) (t_momentParts : Int32) (t_momentDay : Int64) (t_momentSecond : Int32) (t_momentNano : Int32) (t_momentOffset : Int32) (t_readParts : Int32) (t_readDay : Int64) (t_readSecond : Int32) (t_readNano : Int32) (t_readOffset : Int32) (t_alike : Int32) (x1 : Int64) (x3 : Int32) (x4 : Int32) (x5 : Int32) (o : Int32 × Int32 × Int64 × Int32 × Int32 × Int32) (he : f_SkeletonClockModel_moment t_momentParts t_momentDay t_momentSecond t_momentNano t_momentOffset x1 x3 x4 x5 = some o) : Met l y_SkeletonClockModel_moment (Cond.code y_SkeletonClockModel_moment b_SkeletonClockModel_moment 10 (some .boolean) :: GW) rm_SkeletonClockModel_moment (KPc D kk st [.ref a_t, .long x1, .int x3, .int x4, .int x5] [(a_t, .inr (10, [.int t_length, .ref a_t_text, .int t_used, .ref a_t_page, .ref a_t_names, .ref a_t_sort, .ref a_t_code, .ref a_t_count, .ref a_t_around, .ref a_t_end, .ref a_t_size, .ref a_t_there, .ref a_t_wish, .ref a_t_have, .int t_far, .int t_momentParts, .long t_momentDay, .int t_momentSecond, .int t_momentNano, .int t_momentOffset, .int t_readParts, .long t_readDay, .int t_readSecond, .int t_readNano, .int t_readOffset, .ref a_t_known, .ref a_t_value, .ref a_t_before, .ref a_t_open, .ref a_t_from, .int t_alike]))] sz) (KQi D kk o.1 [(a_t, .inr (10, [.int t_length, .ref a_t_text, .int t_used, .ref a_t_page, .ref a_t_names, .ref a_t_sort, .ref a_t_code, .ref a_t_count, .ref a_t_around, .ref a_t_end, .ref a_t_size, .ref a_t_there, .ref a_t_wish, .ref a_t_have, .int t_far, .int o.2.1, .long o.2.2.1, .int o.2.2.2.1, .int o.2.2.2.2.1, .int o.2.2.2.2.2, .int t_readParts, .long t_readDay, .int t_readSecond, .int t_readNano, .int t_readOffset, .ref a_t_known, .ref a_t_value, .ref a_t_before, .ref a_t_open, .ref a_t_from, .int t_alike]))] (va_A [(a_t, .inr (10, [.int t_length, .ref a_t_text, .int t_used, .ref a_t_page, .ref a_t_names, .ref a_t_sort, .ref a_t_code, .ref a_t_count, .ref a_t_around, .ref a_t_end, .ref a_t_size, .ref a_t_there, .ref a_t_wish, .ref a_t_have, .int t_far, .int t_momentParts, .long t_momentDay, .int t_momentSecond, .int t_momentNano, .int t_momentOffset, .int t_readParts, .long t_readDay, .int t_readSecond, .int t_readNano, .int t_readOffset, .ref a_t_known, .ref a_t_value, .ref a_t_before, .ref a_t_open, .ref a_t_from, .int t_alike]))] sz)) 0 0 (va_A [(a_t, .inr (10, [.int t_length, .ref a_t_text, .int t_used, .ref a_t_page, .ref a_t_names, .ref a_t_sort, .ref a_t_code, .ref a_t_count, .ref a_t_around, .ref a_t_end, .ref a_t_size, .ref a_t_there, .ref a_t_wish, .ref a_t_have, .int t_far, .int t_momentParts, .long t_momentDay, .int t_momentSecond, .int t_momentNano, .int t_momentOffset, .int t_readParts, .long t_readDay, .int t_readSecond, .int t_readNano, .int t_readOffset, .ref a_t_known, .ref a_t_value, .ref a_t_before, .ref a_t_open, .ref a_t_from, .int t_alike]))] sz) := by
  refine k_start (Qc := fun A => KQi D kk o.1 [(a_t, .inr (10, [.int t_length, .ref a_t_text, .int t_used, .ref a_t_page, .ref a_t_names, .ref a_t_sort, .ref a_t_code, .ref a_t_count, .ref a_t_around, .ref a_t_end, .ref a_t_size, .ref a_t_there, .ref a_t_wish, .ref a_t_have, .int t_far, .int o.2.1, .long o.2.2.1, .int o.2.2.2.1, .int o.2.2.2.2.1, .int o.2.2.2.2.2, .int t_readParts, .long t_readDay, .int t_readSecond, .int t_readNano, .int t_readOffset, .ref a_t_known, .ref a_t_value, .ref a_t_before, .ref a_t_open, .ref a_t_from, .int t_alike]))] A) (by decide) (Nat.le_of_ble_eq_true rfl) ?_
  intro p e s m below meth c A ls S hnm hr hlk hA X hP hD hS hl
  have hl : lv_has ls 10 [(0, .ref a_t), (1, .long x1), (3, .int x3), (4, .int x4), (5, .int x5)] := hl
  have hx := S.1
  have hb := S.2.1
  unfold f_SkeletonClockModel_moment at he
  refine lv_iload_n hx hb d_SkeletonClockModel_moment_0 rfl (lv_at hl 2 rfl) ?_
  refine lv_if_lt (tgt := 39) hx hb d_SkeletonClockModel_moment_1 rfl (fun hc => ?_) (fun hc => ?_)
  · have he := ih_t hc he
    refine lv_iconst (v := (0 : Int32)) hx hb d_SkeletonClockModel_moment_39 (by decide) ?_
    cases he
    exact k_zre hx hb hr hlk X hP hD hS (Or.inl rfl) d_SkeletonClockModel_moment_40
  · have he := ih_f hc he
    refine lv_iload_n hx hb d_SkeletonClockModel_moment_4 rfl (lv_at hl 2 rfl) ?_
    refine lv_ldc (v := (999999999 : Int32)) hx hb S.2.2.2.1 (S.2.2.2.2 _ gm_5_64) d_SkeletonClockModel_moment_5 ?_
    refine lv_icmp_gt (tgt := 39) hx hb d_SkeletonClockModel_moment_7 rfl (fun hc => ?_) (fun hc => ?_)
    · have he := ih_t hc he
      refine lv_iconst (v := (0 : Int32)) hx hb d_SkeletonClockModel_moment_39 (by decide) ?_
      cases he
      exact k_zre hx hb hr hlk X hP hD hS (Or.inl rfl) d_SkeletonClockModel_moment_40
    · have he := ih_f hc he
      refine lv_iload hx hb d_SkeletonClockModel_moment_10 (lv_at hl 3 rfl) ?_
      refine lv_sipush (v := (-1080 : Int32)) hx hb d_SkeletonClockModel_moment_12 (by decide) ?_
      refine lv_icmp_lt (tgt := 39) hx hb d_SkeletonClockModel_moment_15 rfl (fun hc => ?_) (fun hc => ?_)
      · have he := ih_t hc he
        refine lv_iconst (v := (0 : Int32)) hx hb d_SkeletonClockModel_moment_39 (by decide) ?_
        cases he
        exact k_zre hx hb hr hlk X hP hD hS (Or.inl rfl) d_SkeletonClockModel_moment_40
      · have he := ih_f hc he
        refine lv_iload hx hb d_SkeletonClockModel_moment_18 (lv_at hl 3 rfl) ?_
        refine lv_sipush (v := (1080 : Int32)) hx hb d_SkeletonClockModel_moment_20 (by decide) ?_
        refine lv_icmp_gt (tgt := 39) hx hb d_SkeletonClockModel_moment_23 rfl (fun hc => ?_) (fun hc => ?_)
        · have he := ih_t hc he
          refine lv_iconst (v := (0 : Int32)) hx hb d_SkeletonClockModel_moment_39 (by decide) ?_
          cases he
          exact k_zre hx hb hr hlk X hP hD hS (Or.inl rfl) d_SkeletonClockModel_moment_40
        · have he := ih_f hc he
          refine lv_iload hx hb d_SkeletonClockModel_moment_26 (lv_at hl 4 rfl) ?_
          refine lv_iconst (v := (1 : Int32)) hx hb d_SkeletonClockModel_moment_28 (by decide) ?_
          refine lv_icmp_lt (tgt := 39) hx hb d_SkeletonClockModel_moment_29 rfl (fun hc => ?_) (fun hc => ?_)
          · have he := ih_t hc he
            refine lv_iconst (v := (0 : Int32)) hx hb d_SkeletonClockModel_moment_39 (by decide) ?_
            cases he
            exact k_zre hx hb hr hlk X hP hD hS (Or.inl rfl) d_SkeletonClockModel_moment_40
          · have he := ih_f hc he
            refine lv_iload hx hb d_SkeletonClockModel_moment_32 (lv_at hl 4 rfl) ?_
            refine lv_bipush (v := (7 : Int32)) hx hb d_SkeletonClockModel_moment_34 (by decide) ?_
            refine lv_icmp_le (tgt := 41) hx hb d_SkeletonClockModel_moment_36 rfl (fun hc => ?_) (fun hc => ?_)
            · have he := ih_t hc he
              refine lv_lload_n hx hb d_SkeletonClockModel_moment_41 rfl (lv_at hl 1 rfl) ?_
              refine lv_ldc2 (v := (-40000000000000000 : Int64)) hx hb S.2.2.2.1 (S.2.2.2.2 _ gm_5_65) d_SkeletonClockModel_moment_42 ?_
              refine lq_lt (tgt := 57) hx hb d_SkeletonClockModel_moment_45 d_SkeletonClockModel_moment_46 rfl (fun hc => ?_) (fun hc => ?_)
              · have he := ih_t hc he
                refine lv_iconst (v := (0 : Int32)) hx hb d_SkeletonClockModel_moment_57 (by decide) ?_
                cases he
                exact k_zre hx hb hr hlk X hP hD hS (Or.inl rfl) d_SkeletonClockModel_moment_58
              · have he := ih_f hc he
                refine lv_lload_n hx hb d_SkeletonClockModel_moment_49 rfl (lv_at hl 1 rfl) ?_
                refine lv_ldc2 (v := (40000000000000000 : Int64)) hx hb S.2.2.2.1 (S.2.2.2.2 _ gm_5_66) d_SkeletonClockModel_moment_50 ?_
                refine lq_le (tgt := 59) hx hb d_SkeletonClockModel_moment_53 d_SkeletonClockModel_moment_54 rfl (fun hc => ?_) (fun hc => ?_)
                · have he := ih_t hc he
                  refine lv_lload_n hx hb d_SkeletonClockModel_moment_59 rfl (lv_at hl 1 rfl) ?_
                  refine lv_ldc2 (v := (60 : Int64)) hx hb S.2.2.2.1 (S.2.2.2.2 _ gm_5_67) d_SkeletonClockModel_moment_60 ?_
                  refine lv_iload hx hb d_SkeletonClockModel_moment_63 (lv_at hl 3 rfl) ?_
                  refine lv_i2l hx hb d_SkeletonClockModel_moment_65 rfl ?_
                  refine lv_lmul hx hb d_SkeletonClockModel_moment_66 ?_
                  refine lv_ladd hx hb d_SkeletonClockModel_moment_67 ?_
                  refine lv_lstore hx hb d_SkeletonClockModel_moment_68 hl (by decide) rfl (fun ls hl => ?_)
                  have hl : lv_has ls 10 [(6, .long (x1 + ((60 : Int64) * (Int32.toInt64 x4)))), (0, .ref a_t), (1, .long x1), (3, .int x3), (4, .int x4), (5, .int x5)] := hl
                  refine lv_lload hx hb d_SkeletonClockModel_moment_70 (lv_at hl 0 rfl) ?_
                  refine lv_ldc2 (v := (86400 : Int64)) hx hb S.2.2.2.1 (S.2.2.2.2 _ gm_5_68) d_SkeletonClockModel_moment_72 ?_
                  obtain ⟨u1, e2, he⟩ := ih_b he
                  refine k_lo (r_S (As := [.long (x1 + ((60 : Int64) * (Int32.toInt64 x4))), .long (86400 : Int64)]) S X hA hP hD hS (c_SkeletonClockModel_div l D kk st _ (x1 + ((60 : Int64) * (Int32.toInt64 x4))) (86400 : Int64) u1 e2) gm_5_71 gm_5_69 gm_5_70 gm_1_13 ⟨rfl, rfl, by decide, by decide⟩ kd_SkeletonClockModel_div [] rfl rfl rfl rfl hl.1 rfl (Nat.le_of_ble_eq_true rfl) d_SkeletonClockModel_moment_75 ⟨Nat.zero_le _, Nat.zero_le _⟩) hA hP hD hS [] rfl (fun H locs hP hS => ?_)
                  refine lv_lstore hx hb d_SkeletonClockModel_moment_78 hl (by decide) rfl (fun ls hl => ?_)
                  have hl : lv_has ls 10 [(8, .long u1), (6, .long (x1 + ((60 : Int64) * (Int32.toInt64 x4)))), (0, .ref a_t), (1, .long x1), (3, .int x3), (4, .int x4), (5, .int x5)] := hl
                  refine lv_lload hx hb d_SkeletonClockModel_moment_80 (lv_at hl 0 rfl) ?_
                  obtain ⟨u3, e4, he⟩ := ih_b he
                  refine k_io (r_S (As := [.long u1]) S X hA hP hD hS (c_SkeletonClockModel_yearFits l D kk st _ u1 u3 e4) gm_5_74 gm_5_72 gm_5_73 gm_1_13 ⟨rfl, rfl, by decide, by decide⟩ kd_SkeletonClockModel_yearFits [] rfl rfl rfl rfl hl.1 rfl (Nat.le_of_ble_eq_true rfl) d_SkeletonClockModel_moment_82 ⟨Nat.zero_le _, Nat.zero_le _⟩) hA hP hD hS [] rfl (fun H locs hP hS => ?_)
                  refine lv_if_ne (tgt := 90) hx hb d_SkeletonClockModel_moment_85 rfl (fun hc => ?_) (fun hc => ?_)
                  · have he := ih_f hc he
                    refine lv_aload_n hx hb d_SkeletonClockModel_moment_90 rfl (lv_at hl 2 rfl) ?_
                    refine lv_lload hx hb d_SkeletonClockModel_moment_91 (lv_at hl 0 rfl) ?_
                    refine k_put S X us_SkeletonClockModel t_SkeletonClockModel t_SkeletonClockModel_ok n_SkeletonClockModel hP hD hS 0 rfl rfl 16 (by decide) gm_4_167 rfl rfl rfl (Nat.le_of_ble_eq_true rfl) d_SkeletonClockModel_moment_93 (fun H locs hP hD hS => ?_)
                    have hP : va_P D classes [(a_t, .inr (10, [.int t_length, .ref a_t_text, .int t_used, .ref a_t_page, .ref a_t_names, .ref a_t_sort, .ref a_t_code, .ref a_t_count, .ref a_t_around, .ref a_t_end, .ref a_t_size, .ref a_t_there, .ref a_t_wish, .ref a_t_have, .int t_far, .int t_momentParts, .long u1, .int t_momentSecond, .int t_momentNano, .int t_momentOffset, .int t_readParts, .long t_readDay, .int t_readSecond, .int t_readNano, .int t_readOffset, .ref a_t_known, .ref a_t_value, .ref a_t_before, .ref a_t_open, .ref a_t_from, .int t_alike]))] H := hP
                    have hD : va_D A [(a_t, .inr (10, [.int t_length, .ref a_t_text, .int t_used, .ref a_t_page, .ref a_t_names, .ref a_t_sort, .ref a_t_code, .ref a_t_count, .ref a_t_around, .ref a_t_end, .ref a_t_size, .ref a_t_there, .ref a_t_wish, .ref a_t_have, .int t_far, .int t_momentParts, .long u1, .int t_momentSecond, .int t_momentNano, .int t_momentOffset, .int t_readParts, .long t_readDay, .int t_readSecond, .int t_readNano, .int t_readOffset, .ref a_t_known, .ref a_t_value, .ref a_t_before, .ref a_t_open, .ref a_t_from, .int t_alike]))] := hD
                    refine lv_aload_n hx hb d_SkeletonClockModel_moment_96 rfl (lv_at hl 2 rfl) ?_
                    refine lv_lload hx hb d_SkeletonClockModel_moment_97 (lv_at hl 1 rfl) ?_
                    refine lv_ldc2 (v := (86400 : Int64)) hx hb S.2.2.2.1 (S.2.2.2.2 _ gm_5_68) d_SkeletonClockModel_moment_99 ?_
                    refine lv_lload hx hb d_SkeletonClockModel_moment_102 (lv_at hl 0 rfl) ?_
                    refine lv_lmul hx hb d_SkeletonClockModel_moment_104 ?_
                    refine lv_lsub hx hb d_SkeletonClockModel_moment_105 ?_
                    refine lv_l2i hx hb d_SkeletonClockModel_moment_106 rfl ?_
                    refine k_put S X us_SkeletonClockModel t_SkeletonClockModel t_SkeletonClockModel_ok n_SkeletonClockModel hP hD hS 0 rfl rfl 17 (by decide) gm_4_168 rfl rfl rfl (Nat.le_of_ble_eq_true rfl) d_SkeletonClockModel_moment_107 (fun H locs hP hD hS => ?_)
                    have hP : va_P D classes [(a_t, .inr (10, [.int t_length, .ref a_t_text, .int t_used, .ref a_t_page, .ref a_t_names, .ref a_t_sort, .ref a_t_code, .ref a_t_count, .ref a_t_around, .ref a_t_end, .ref a_t_size, .ref a_t_there, .ref a_t_wish, .ref a_t_have, .int t_far, .int t_momentParts, .long u1, .int (Int64.toInt32 ((x1 + ((60 : Int64) * (Int32.toInt64 x4))) - ((86400 : Int64) * u1))), .int t_momentNano, .int t_momentOffset, .int t_readParts, .long t_readDay, .int t_readSecond, .int t_readNano, .int t_readOffset, .ref a_t_known, .ref a_t_value, .ref a_t_before, .ref a_t_open, .ref a_t_from, .int t_alike]))] H := hP
                    have hD : va_D A [(a_t, .inr (10, [.int t_length, .ref a_t_text, .int t_used, .ref a_t_page, .ref a_t_names, .ref a_t_sort, .ref a_t_code, .ref a_t_count, .ref a_t_around, .ref a_t_end, .ref a_t_size, .ref a_t_there, .ref a_t_wish, .ref a_t_have, .int t_far, .int t_momentParts, .long u1, .int (Int64.toInt32 ((x1 + ((60 : Int64) * (Int32.toInt64 x4))) - ((86400 : Int64) * u1))), .int t_momentNano, .int t_momentOffset, .int t_readParts, .long t_readDay, .int t_readSecond, .int t_readNano, .int t_readOffset, .ref a_t_known, .ref a_t_value, .ref a_t_before, .ref a_t_open, .ref a_t_from, .int t_alike]))] := hD
                    refine lv_aload_n hx hb d_SkeletonClockModel_moment_110 rfl (lv_at hl 2 rfl) ?_
                    refine lv_iload_n hx hb d_SkeletonClockModel_moment_111 rfl (lv_at hl 4 rfl) ?_
                    refine k_put S X us_SkeletonClockModel t_SkeletonClockModel t_SkeletonClockModel_ok n_SkeletonClockModel hP hD hS 0 rfl rfl 18 (by decide) gm_4_169 rfl rfl rfl (Nat.le_of_ble_eq_true rfl) d_SkeletonClockModel_moment_112 (fun H locs hP hD hS => ?_)
                    have hP : va_P D classes [(a_t, .inr (10, [.int t_length, .ref a_t_text, .int t_used, .ref a_t_page, .ref a_t_names, .ref a_t_sort, .ref a_t_code, .ref a_t_count, .ref a_t_around, .ref a_t_end, .ref a_t_size, .ref a_t_there, .ref a_t_wish, .ref a_t_have, .int t_far, .int t_momentParts, .long u1, .int (Int64.toInt32 ((x1 + ((60 : Int64) * (Int32.toInt64 x4))) - ((86400 : Int64) * u1))), .int x3, .int t_momentOffset, .int t_readParts, .long t_readDay, .int t_readSecond, .int t_readNano, .int t_readOffset, .ref a_t_known, .ref a_t_value, .ref a_t_before, .ref a_t_open, .ref a_t_from, .int t_alike]))] H := hP
                    have hD : va_D A [(a_t, .inr (10, [.int t_length, .ref a_t_text, .int t_used, .ref a_t_page, .ref a_t_names, .ref a_t_sort, .ref a_t_code, .ref a_t_count, .ref a_t_around, .ref a_t_end, .ref a_t_size, .ref a_t_there, .ref a_t_wish, .ref a_t_have, .int t_far, .int t_momentParts, .long u1, .int (Int64.toInt32 ((x1 + ((60 : Int64) * (Int32.toInt64 x4))) - ((86400 : Int64) * u1))), .int x3, .int t_momentOffset, .int t_readParts, .long t_readDay, .int t_readSecond, .int t_readNano, .int t_readOffset, .ref a_t_known, .ref a_t_value, .ref a_t_before, .ref a_t_open, .ref a_t_from, .int t_alike]))] := hD
                    refine lv_aload_n hx hb d_SkeletonClockModel_moment_115 rfl (lv_at hl 2 rfl) ?_
                    refine lv_iload hx hb d_SkeletonClockModel_moment_116 (lv_at hl 5 rfl) ?_
                    refine k_put S X us_SkeletonClockModel t_SkeletonClockModel t_SkeletonClockModel_ok n_SkeletonClockModel hP hD hS 0 rfl rfl 19 (by decide) gm_4_170 rfl rfl rfl (Nat.le_of_ble_eq_true rfl) d_SkeletonClockModel_moment_118 (fun H locs hP hD hS => ?_)
                    have hP : va_P D classes [(a_t, .inr (10, [.int t_length, .ref a_t_text, .int t_used, .ref a_t_page, .ref a_t_names, .ref a_t_sort, .ref a_t_code, .ref a_t_count, .ref a_t_around, .ref a_t_end, .ref a_t_size, .ref a_t_there, .ref a_t_wish, .ref a_t_have, .int t_far, .int t_momentParts, .long u1, .int (Int64.toInt32 ((x1 + ((60 : Int64) * (Int32.toInt64 x4))) - ((86400 : Int64) * u1))), .int x3, .int x4, .int t_readParts, .long t_readDay, .int t_readSecond, .int t_readNano, .int t_readOffset, .ref a_t_known, .ref a_t_value, .ref a_t_before, .ref a_t_open, .ref a_t_from, .int t_alike]))] H := hP
                    have hD : va_D A [(a_t, .inr (10, [.int t_length, .ref a_t_text, .int t_used, .ref a_t_page, .ref a_t_names, .ref a_t_sort, .ref a_t_code, .ref a_t_count, .ref a_t_around, .ref a_t_end, .ref a_t_size, .ref a_t_there, .ref a_t_wish, .ref a_t_have, .int t_far, .int t_momentParts, .long u1, .int (Int64.toInt32 ((x1 + ((60 : Int64) * (Int32.toInt64 x4))) - ((86400 : Int64) * u1))), .int x3, .int x4, .int t_readParts, .long t_readDay, .int t_readSecond, .int t_readNano, .int t_readOffset, .ref a_t_known, .ref a_t_value, .ref a_t_before, .ref a_t_open, .ref a_t_from, .int t_alike]))] := hD
                    refine lv_aload_n hx hb d_SkeletonClockModel_moment_121 rfl (lv_at hl 2 rfl) ?_
                    refine lv_iload hx hb d_SkeletonClockModel_moment_122 (lv_at hl 6 rfl) ?_
                    refine k_put S X us_SkeletonClockModel t_SkeletonClockModel t_SkeletonClockModel_ok n_SkeletonClockModel hP hD hS 0 rfl rfl 15 (by decide) gm_4_166 rfl rfl rfl (Nat.le_of_ble_eq_true rfl) d_SkeletonClockModel_moment_124 (fun H locs hP hD hS => ?_)
                    have hP : va_P D classes [(a_t, .inr (10, [.int t_length, .ref a_t_text, .int t_used, .ref a_t_page, .ref a_t_names, .ref a_t_sort, .ref a_t_code, .ref a_t_count, .ref a_t_around, .ref a_t_end, .ref a_t_size, .ref a_t_there, .ref a_t_wish, .ref a_t_have, .int t_far, .int x5, .long u1, .int (Int64.toInt32 ((x1 + ((60 : Int64) * (Int32.toInt64 x4))) - ((86400 : Int64) * u1))), .int x3, .int x4, .int t_readParts, .long t_readDay, .int t_readSecond, .int t_readNano, .int t_readOffset, .ref a_t_known, .ref a_t_value, .ref a_t_before, .ref a_t_open, .ref a_t_from, .int t_alike]))] H := hP
                    have hD : va_D A [(a_t, .inr (10, [.int t_length, .ref a_t_text, .int t_used, .ref a_t_page, .ref a_t_names, .ref a_t_sort, .ref a_t_code, .ref a_t_count, .ref a_t_around, .ref a_t_end, .ref a_t_size, .ref a_t_there, .ref a_t_wish, .ref a_t_have, .int t_far, .int x5, .long u1, .int (Int64.toInt32 ((x1 + ((60 : Int64) * (Int32.toInt64 x4))) - ((86400 : Int64) * u1))), .int x3, .int x4, .int t_readParts, .long t_readDay, .int t_readSecond, .int t_readNano, .int t_readOffset, .ref a_t_known, .ref a_t_value, .ref a_t_before, .ref a_t_open, .ref a_t_from, .int t_alike]))] := hD
                    refine lv_iconst (v := (1 : Int32)) hx hb d_SkeletonClockModel_moment_127 (by decide) ?_
                    cases he
                    exact k_zre hx hb hr hlk X hP hD hS (Or.inr rfl) d_SkeletonClockModel_moment_128
                  · have he := ih_t hc he
                    refine lv_iconst (v := (0 : Int32)) hx hb d_SkeletonClockModel_moment_88 (by decide) ?_
                    cases he
                    exact k_zre hx hb hr hlk X hP hD hS (Or.inl rfl) d_SkeletonClockModel_moment_89
                · have he := ih_f hc he
                  refine lv_iconst (v := (0 : Int32)) hx hb d_SkeletonClockModel_moment_57 (by decide) ?_
                  cases he
                  exact k_zre hx hb hr hlk X hP hD hS (Or.inl rfl) d_SkeletonClockModel_moment_58
            · have he := ih_f hc he
              refine lv_iconst (v := (0 : Int32)) hx hb d_SkeletonClockModel_moment_39 (by decide) ?_
              cases he
              exact k_zre hx hb hr hlk X hP hD hS (Or.inl rfl) d_SkeletonClockModel_moment_40
abbrev rm_SkeletonClockModel_field : Room := { frames := 7, cells := 0, slots := 0, locals := 164 }
set_option maxHeartbeats 4000000 in
set_option maxRecDepth 100000 in
theorem c_SkeletonClockModel_field (l : Launch) (D : va_G) (kk : Nat → ClassId) (st : Nat → Nat) (a_t a_t_text a_t_page a_t_names a_t_sort a_t_code a_t_count a_t_around a_t_end a_t_size a_t_there a_t_wish a_t_have a_t_known a_t_value a_t_before a_t_open a_t_from : Nat) (sz : Nat) (t_length : Int32) (t_used : Int32) (t_far : Int32) (t_momentParts : Int32) (t_momentDay : Int64) (t_momentSecond : Int32) (t_momentNano : Int32) (t_momentOffset : Int32) (t_readParts : Int32) (t_readDay : Int64) (t_readSecond : Int32) (t_readNano : Int32) (t_readOffset : Int32) (t_alike : Int32) (x1 : Int32) (o : Int32) (he : f_SkeletonClockModel_field t_momentDay t_momentSecond t_momentNano t_momentOffset x1 = some o) : Met l y_SkeletonClockModel_field (Cond.code y_SkeletonClockModel_field b_SkeletonClockModel_field 3 (some .int) :: GW) rm_SkeletonClockModel_field (KPc D kk st [.ref a_t, .int x1] [(a_t, .inr (10, [.int t_length, .ref a_t_text, .int t_used, .ref a_t_page, .ref a_t_names, .ref a_t_sort, .ref a_t_code, .ref a_t_count, .ref a_t_around, .ref a_t_end, .ref a_t_size, .ref a_t_there, .ref a_t_wish, .ref a_t_have, .int t_far, .int t_momentParts, .long t_momentDay, .int t_momentSecond, .int t_momentNano, .int t_momentOffset, .int t_readParts, .long t_readDay, .int t_readSecond, .int t_readNano, .int t_readOffset, .ref a_t_known, .ref a_t_value, .ref a_t_before, .ref a_t_open, .ref a_t_from, .int t_alike]))] sz) (KQi D kk o [(a_t, .inr (10, [.int t_length, .ref a_t_text, .int t_used, .ref a_t_page, .ref a_t_names, .ref a_t_sort, .ref a_t_code, .ref a_t_count, .ref a_t_around, .ref a_t_end, .ref a_t_size, .ref a_t_there, .ref a_t_wish, .ref a_t_have, .int t_far, .int t_momentParts, .long t_momentDay, .int t_momentSecond, .int t_momentNano, .int t_momentOffset, .int t_readParts, .long t_readDay, .int t_readSecond, .int t_readNano, .int t_readOffset, .ref a_t_known, .ref a_t_value, .ref a_t_before, .ref a_t_open, .ref a_t_from, .int t_alike]))] (va_A [(a_t, .inr (10, [.int t_length, .ref a_t_text, .int t_used, .ref a_t_page, .ref a_t_names, .ref a_t_sort, .ref a_t_code, .ref a_t_count, .ref a_t_around, .ref a_t_end, .ref a_t_size, .ref a_t_there, .ref a_t_wish, .ref a_t_have, .int t_far, .int t_momentParts, .long t_momentDay, .int t_momentSecond, .int t_momentNano, .int t_momentOffset, .int t_readParts, .long t_readDay, .int t_readSecond, .int t_readNano, .int t_readOffset, .ref a_t_known, .ref a_t_value, .ref a_t_before, .ref a_t_open, .ref a_t_from, .int t_alike]))] sz)) 0 0 (va_A [(a_t, .inr (10, [.int t_length, .ref a_t_text, .int t_used, .ref a_t_page, .ref a_t_names, .ref a_t_sort, .ref a_t_code, .ref a_t_count, .ref a_t_around, .ref a_t_end, .ref a_t_size, .ref a_t_there, .ref a_t_wish, .ref a_t_have, .int t_far, .int t_momentParts, .long t_momentDay, .int t_momentSecond, .int t_momentNano, .int t_momentOffset, .int t_readParts, .long t_readDay, .int t_readSecond, .int t_readNano, .int t_readOffset, .ref a_t_known, .ref a_t_value, .ref a_t_before, .ref a_t_open, .ref a_t_from, .int t_alike]))] sz) := by
  refine k_start (Qc := fun A => KQi D kk o [(a_t, .inr (10, [.int t_length, .ref a_t_text, .int t_used, .ref a_t_page, .ref a_t_names, .ref a_t_sort, .ref a_t_code, .ref a_t_count, .ref a_t_around, .ref a_t_end, .ref a_t_size, .ref a_t_there, .ref a_t_wish, .ref a_t_have, .int t_far, .int t_momentParts, .long t_momentDay, .int t_momentSecond, .int t_momentNano, .int t_momentOffset, .int t_readParts, .long t_readDay, .int t_readSecond, .int t_readNano, .int t_readOffset, .ref a_t_known, .ref a_t_value, .ref a_t_before, .ref a_t_open, .ref a_t_from, .int t_alike]))] A) (by decide) (Nat.le_of_ble_eq_true rfl) ?_
  intro p e s m below meth c A ls S hnm hr hlk hA X hP hD hS hl
  have hl : lv_has ls 3 [(0, .ref a_t), (1, .int x1)] := hl
  have hx := S.1
  have hb := S.2.1
  unfold f_SkeletonClockModel_field at he
  refine lv_iload_n hx hb d_SkeletonClockModel_field_0 rfl (lv_at hl 1 rfl) ?_
  refine lv_bipush (v := (120 : Int32)) hx hb d_SkeletonClockModel_field_1 (by decide) ?_
  refine lv_icmp_ne (tgt := 10) hx hb d_SkeletonClockModel_field_3 rfl (fun hc => ?_) (fun hc => ?_)
  · have he := ih_f hc he
    refine lv_iload_n hx hb d_SkeletonClockModel_field_10 rfl (lv_at hl 1 rfl) ?_
    obtain ⟨u1, e2, he⟩ := ih_b he
    refine k_io (r_S (As := [.int x1]) S X hA hP hD hS (c_SkeletonClockModel_fieldOf l D kk st _ x1 u1 e2) gm_5_35 gm_5_33 gm_5_34 gm_1_13 ⟨rfl, rfl, by decide, by decide⟩ kd_SkeletonClockModel_fieldOf [] rfl rfl rfl rfl hl.1 rfl (Nat.le_of_ble_eq_true rfl) d_SkeletonClockModel_field_11 ⟨Nat.zero_le _, Nat.zero_le _⟩) hA hP hD hS [] rfl (fun H locs hP hS => ?_)
    refine lv_istore_n hx hb d_SkeletonClockModel_field_14 rfl hl (by decide) rfl (fun ls hl => ?_)
    have hl : lv_has ls 3 [(2, .int u1), (0, .ref a_t), (1, .int x1)] := hl
    refine lv_iload_n hx hb d_SkeletonClockModel_field_15 rfl (lv_at hl 0 rfl) ?_
    refine lv_if_ge (tgt := 23) hx hb d_SkeletonClockModel_field_16 rfl (fun hc => ?_) (fun hc => ?_)
    · have he := ih_t hc he
      refine lv_aload_n hx hb d_SkeletonClockModel_field_23 rfl (lv_at hl 1 rfl) ?_
      refine lv_iload_n hx hb d_SkeletonClockModel_field_24 rfl (lv_at hl 0 rfl) ?_
      obtain ⟨u3, e4, he⟩ := ih_b he
      refine k_lo (r_V (As := [.int u1]) S X hA hP hD hS (c_SkeletonClockModel_present l D kk st a_t a_t_text a_t_page a_t_names a_t_sort a_t_code a_t_count a_t_around a_t_end a_t_size a_t_there a_t_wish a_t_have a_t_known a_t_value a_t_before a_t_open a_t_from _ t_length t_used t_far t_momentParts t_momentDay t_momentSecond t_momentNano t_momentOffset t_readParts t_readDay t_readSecond t_readNano t_readOffset t_alike u1 u3 e4) gm_5_99 gm_5_96 gm_5_98 gm_p3_7 gm_1_13 ⟨rfl, rfl, by decide, by decide⟩ kd_SkeletonClockModel_present [0] rfl rfl rfl 0 10 rfl rfl rfl rfl hl.1 rfl (Nat.le_of_ble_eq_true rfl) d_SkeletonClockModel_field_25 ⟨Nat.zero_le _, Nat.zero_le _⟩) hA hP hD hS [0] rfl (fun H locs hP hS => ?_)
      refine lv_l2i hx hb d_SkeletonClockModel_field_28 rfl ?_
      cases he
      exact k_ire hx hb hr hlk X hP hD hS d_SkeletonClockModel_field_29
    · have he := ih_f hc he
      refine lv_iconst (v := (-1 : Int32)) hx hb d_SkeletonClockModel_field_19 (by decide) ?_
      refine lv_goto (tgt := 29) hx hb d_SkeletonClockModel_field_20 rfl ?_
      cases he
      exact k_ire hx hb hr hlk X hP hD hS d_SkeletonClockModel_field_29
  · have he := ih_t hc he
    refine lv_iconst (v := (-1 : Int32)) hx hb d_SkeletonClockModel_field_6 (by decide) ?_
    refine lv_goto (tgt := 14) hx hb d_SkeletonClockModel_field_7 rfl ?_
    refine lv_istore_n hx hb d_SkeletonClockModel_field_14 rfl hl (by decide) rfl (fun ls hl => ?_)
    have hl : lv_has ls 3 [(2, .int (-1 : Int32)), (0, .ref a_t), (1, .int x1)] := hl
    refine lv_iload_n hx hb d_SkeletonClockModel_field_15 rfl (lv_at hl 0 rfl) ?_
    refine lv_if_ge (tgt := 23) hx hb d_SkeletonClockModel_field_16 rfl (fun hc => ?_) (fun hc => ?_)
    · exact absurd hc (by decide)
    · refine lv_iconst (v := (-1 : Int32)) hx hb d_SkeletonClockModel_field_19 (by decide) ?_
      refine lv_goto (tgt := 29) hx hb d_SkeletonClockModel_field_20 rfl ?_
      cases he
      exact k_ire hx hb hr hlk X hP hD hS d_SkeletonClockModel_field_29
abbrev rm_SkeletonClockModel_out : Room := { frames := 0, cells := 0, slots := 0, locals := 0 }
set_option maxHeartbeats 4000000 in
set_option maxRecDepth 100000 in
theorem c_SkeletonClockModel_out (l : Launch) (D : va_G) (kk : Nat → ClassId) (st : Nat → Nat) (a_t a_t_page a_t_text a_t_names a_t_sort a_t_code a_t_count a_t_around a_t_end a_t_size a_t_there a_t_wish a_t_have a_t_known a_t_value a_t_before a_t_open a_t_from : Nat) (sz : Nat) (t_length : Int32) (t_used : Int32) (t_far : Int32) (t_momentParts : Int32) (t_momentDay : Int64) (t_momentSecond : Int32) (t_momentNano : Int32) (t_momentOffset : Int32) (t_readParts : Int32) (t_readDay : Int64) (t_readSecond : Int32) (t_readNano : Int32) (t_readOffset : Int32) (t_alike : Int32) (t_page : Nat → Int32) (x1 : Int32) (o : Int32 × (Nat → Int32)) (he : f_SkeletonClockModel_out t_used t_page x1 = some o) : Met l y_SkeletonClockModel_out (Cond.code y_SkeletonClockModel_out b_SkeletonClockModel_out 2 none :: GW) rm_SkeletonClockModel_out (KPc D kk st [.ref a_t, .int x1] [(a_t, .inr (10, [.int t_length, .ref a_t_text, .int t_used, .ref a_t_page, .ref a_t_names, .ref a_t_sort, .ref a_t_code, .ref a_t_count, .ref a_t_around, .ref a_t_end, .ref a_t_size, .ref a_t_there, .ref a_t_wish, .ref a_t_have, .int t_far, .int t_momentParts, .long t_momentDay, .int t_momentSecond, .int t_momentNano, .int t_momentOffset, .int t_readParts, .long t_readDay, .int t_readSecond, .int t_readNano, .int t_readOffset, .ref a_t_known, .ref a_t_value, .ref a_t_before, .ref a_t_open, .ref a_t_from, .int t_alike])), (a_t_page, .inl (kk 1, 256, .inl t_page))] sz) (KQv D kk [(a_t, .inr (10, [.int t_length, .ref a_t_text, .int o.1, .ref a_t_page, .ref a_t_names, .ref a_t_sort, .ref a_t_code, .ref a_t_count, .ref a_t_around, .ref a_t_end, .ref a_t_size, .ref a_t_there, .ref a_t_wish, .ref a_t_have, .int t_far, .int t_momentParts, .long t_momentDay, .int t_momentSecond, .int t_momentNano, .int t_momentOffset, .int t_readParts, .long t_readDay, .int t_readSecond, .int t_readNano, .int t_readOffset, .ref a_t_known, .ref a_t_value, .ref a_t_before, .ref a_t_open, .ref a_t_from, .int t_alike])), (a_t_page, .inl (kk 1, 256, .inl o.2))] (va_A [(a_t, .inr (10, [.int t_length, .ref a_t_text, .int t_used, .ref a_t_page, .ref a_t_names, .ref a_t_sort, .ref a_t_code, .ref a_t_count, .ref a_t_around, .ref a_t_end, .ref a_t_size, .ref a_t_there, .ref a_t_wish, .ref a_t_have, .int t_far, .int t_momentParts, .long t_momentDay, .int t_momentSecond, .int t_momentNano, .int t_momentOffset, .int t_readParts, .long t_readDay, .int t_readSecond, .int t_readNano, .int t_readOffset, .ref a_t_known, .ref a_t_value, .ref a_t_before, .ref a_t_open, .ref a_t_from, .int t_alike])), (a_t_page, .inl (kk 1, 256, .inl t_page))] sz)) 0 0 (va_A [(a_t, .inr (10, [.int t_length, .ref a_t_text, .int t_used, .ref a_t_page, .ref a_t_names, .ref a_t_sort, .ref a_t_code, .ref a_t_count, .ref a_t_around, .ref a_t_end, .ref a_t_size, .ref a_t_there, .ref a_t_wish, .ref a_t_have, .int t_far, .int t_momentParts, .long t_momentDay, .int t_momentSecond, .int t_momentNano, .int t_momentOffset, .int t_readParts, .long t_readDay, .int t_readSecond, .int t_readNano, .int t_readOffset, .ref a_t_known, .ref a_t_value, .ref a_t_before, .ref a_t_open, .ref a_t_from, .int t_alike])), (a_t_page, .inl (kk 1, 256, .inl t_page))] sz) := by
  refine k_start (Qc := fun A => KQv D kk [(a_t, .inr (10, [.int t_length, .ref a_t_text, .int o.1, .ref a_t_page, .ref a_t_names, .ref a_t_sort, .ref a_t_code, .ref a_t_count, .ref a_t_around, .ref a_t_end, .ref a_t_size, .ref a_t_there, .ref a_t_wish, .ref a_t_have, .int t_far, .int t_momentParts, .long t_momentDay, .int t_momentSecond, .int t_momentNano, .int t_momentOffset, .int t_readParts, .long t_readDay, .int t_readSecond, .int t_readNano, .int t_readOffset, .ref a_t_known, .ref a_t_value, .ref a_t_before, .ref a_t_open, .ref a_t_from, .int t_alike])), (a_t_page, .inl (kk 1, 256, .inl o.2))] A) (by decide) (Nat.le_of_ble_eq_true rfl) ?_
  intro p e s m below meth c A ls S hnm hr hlk hA X hP hD hS hl
  have hl : lv_has ls 2 [(0, .ref a_t), (1, .int x1)] := hl
  have hx := S.1
  have hb := S.2.1
  unfold f_SkeletonClockModel_out at he
  refine lv_aload_n hx hb d_SkeletonClockModel_out_0 rfl (lv_at hl 0 rfl) ?_
  refine k_get S X us_SkeletonClockModel hP 0 rfl rfl 3 (by decide) gm_4_154 rfl d_SkeletonClockModel_out_1 ?_
  refine lv_aload_n hx hb d_SkeletonClockModel_out_4 rfl (lv_at hl 0 rfl) ?_
  refine k_get S X us_SkeletonClockModel hP 0 rfl rfl 2 (by decide) gm_4_153 rfl d_SkeletonClockModel_out_5 ?_
  refine lv_iload_n hx hb d_SkeletonClockModel_out_8 rfl (lv_at hl 1 rfl) ?_
  refine lv_i2c hx hb d_SkeletonClockModel_out_9 rfl ?_
  obtain ⟨hi1, he⟩ := ih_g he
  refine va_cast hx hb X.1 hP hD hS 1 1 rfl rfl hi1 d_SkeletonClockModel_out_10 (fun H locs hP hD hS => ?_)
  have hP : va_P D classes [(a_t, .inr (10, [.int t_length, .ref a_t_text, .int t_used, .ref a_t_page, .ref a_t_names, .ref a_t_sort, .ref a_t_code, .ref a_t_count, .ref a_t_around, .ref a_t_end, .ref a_t_size, .ref a_t_there, .ref a_t_wish, .ref a_t_have, .int t_far, .int t_momentParts, .long t_momentDay, .int t_momentSecond, .int t_momentNano, .int t_momentOffset, .int t_readParts, .long t_readDay, .int t_readSecond, .int t_readNano, .int t_readOffset, .ref a_t_known, .ref a_t_value, .ref a_t_before, .ref a_t_open, .ref a_t_from, .int t_alike])), (a_t_page, .inl (kk 1, 256, .inl (upd t_page (t_used).toNatClampNeg (vp_nar .char (((Int32.toUInt32 x1) % 65536).toInt32)))))] H := hP
  have hD : va_D A [(a_t, .inr (10, [.int t_length, .ref a_t_text, .int t_used, .ref a_t_page, .ref a_t_names, .ref a_t_sort, .ref a_t_code, .ref a_t_count, .ref a_t_around, .ref a_t_end, .ref a_t_size, .ref a_t_there, .ref a_t_wish, .ref a_t_have, .int t_far, .int t_momentParts, .long t_momentDay, .int t_momentSecond, .int t_momentNano, .int t_momentOffset, .int t_readParts, .long t_readDay, .int t_readSecond, .int t_readNano, .int t_readOffset, .ref a_t_known, .ref a_t_value, .ref a_t_before, .ref a_t_open, .ref a_t_from, .int t_alike])), (a_t_page, .inl (kk 1, 256, .inl (upd t_page (t_used).toNatClampNeg (vp_nar .char (((Int32.toUInt32 x1) % 65536).toInt32)))))] := hD
  refine lv_aload_n hx hb d_SkeletonClockModel_out_11 rfl (lv_at hl 0 rfl) ?_
  refine lv_dup hx hb d_SkeletonClockModel_out_12 rfl ?_
  refine k_get S X us_SkeletonClockModel hP 0 rfl rfl 2 (by decide) gm_4_153 rfl d_SkeletonClockModel_out_13 ?_
  refine lv_iconst (v := (1 : Int32)) hx hb d_SkeletonClockModel_out_16 (by decide) ?_
  refine lv_iadd hx hb d_SkeletonClockModel_out_17 ?_
  refine k_put S X us_SkeletonClockModel t_SkeletonClockModel t_SkeletonClockModel_ok n_SkeletonClockModel hP hD hS 0 rfl rfl 2 (by decide) gm_4_153 rfl rfl rfl (Nat.le_of_ble_eq_true rfl) d_SkeletonClockModel_out_18 (fun H locs hP hD hS => ?_)
  have hP : va_P D classes [(a_t, .inr (10, [.int t_length, .ref a_t_text, .int (t_used + (1 : Int32)), .ref a_t_page, .ref a_t_names, .ref a_t_sort, .ref a_t_code, .ref a_t_count, .ref a_t_around, .ref a_t_end, .ref a_t_size, .ref a_t_there, .ref a_t_wish, .ref a_t_have, .int t_far, .int t_momentParts, .long t_momentDay, .int t_momentSecond, .int t_momentNano, .int t_momentOffset, .int t_readParts, .long t_readDay, .int t_readSecond, .int t_readNano, .int t_readOffset, .ref a_t_known, .ref a_t_value, .ref a_t_before, .ref a_t_open, .ref a_t_from, .int t_alike])), (a_t_page, .inl (kk 1, 256, .inl (upd t_page (t_used).toNatClampNeg (vp_nar .char (((Int32.toUInt32 x1) % 65536).toInt32)))))] H := hP
  have hD : va_D A [(a_t, .inr (10, [.int t_length, .ref a_t_text, .int (t_used + (1 : Int32)), .ref a_t_page, .ref a_t_names, .ref a_t_sort, .ref a_t_code, .ref a_t_count, .ref a_t_around, .ref a_t_end, .ref a_t_size, .ref a_t_there, .ref a_t_wish, .ref a_t_have, .int t_far, .int t_momentParts, .long t_momentDay, .int t_momentSecond, .int t_momentNano, .int t_momentOffset, .int t_readParts, .long t_readDay, .int t_readSecond, .int t_readNano, .int t_readOffset, .ref a_t_known, .ref a_t_value, .ref a_t_before, .ref a_t_open, .ref a_t_from, .int t_alike])), (a_t_page, .inl (kk 1, 256, .inl (upd t_page (t_used).toNatClampNeg (vp_nar .char (((Int32.toUInt32 x1) % 65536).toInt32)))))] := hD
  cases he
  exact k_vre hx hb hr hlk X hP hD hS d_SkeletonClockModel_out_21
abbrev rm_SkeletonClockModel_digits : Room := { frames := 1, cells := 0, slots := 0, locals := 21 }
set_option maxHeartbeats 4000000 in
set_option maxRecDepth 100000 in
theorem w_SkeletonClockModel_digits_6 {p : Program} {l : Launch} {e : Env} {s : State} {m : MethodId} {args : Array Value} {below : List Frame} {meth : Method} {c : Code} {Q : State → Prop} {A : Nat → Prop} {D : va_G} {kk : Nat → ClassId} {st : Nat → Nat} (a_t a_t_page a_t_text a_t_names a_t_sort a_t_code a_t_count a_t_around a_t_end a_t_size a_t_there a_t_wish a_t_have a_t_known a_t_value a_t_before a_t_open a_t_from : Nat) (t_length : Int32) (t_used : Int32) (t_far : Int32) (t_momentParts : Int32) (t_momentDay : Int64) (t_momentSecond : Int32) (t_momentNano : Int32) (t_momentOffset : Int32) (t_readParts : Int32) (t_readDay : Int64) (t_readSecond : Int32) (t_readNano : Int32) (t_readOffset : Int32) (t_alike : Int32) (t_page : Nat → Int32) (x1 : Int64) (x3 : Int32) (S : CallFix p m c b_SkeletonClockModel_digits 7 s args GW y_SkeletonClockModel_digits.cls) (hr : meth.sig.returnType = none) (hlk : meth.locks = false) (hA : ∀ q, s.heap.size ≤ q → A q) (X : KX D kk st A s) : ∀ (n : Nat) (x4 : Int64) (x6 : Int32) (v : Int64 × Int32) (H : Heap) (locs : List Loc) (ls : Array Slot), lp_SkeletonClockModel_digits_6 x1 x3 n x4 x6 = some v → lv_has ls 7 [(0, .ref a_t), (1, .long x1), (3, .int x3), (4, .long x4), (6, .int x6)] → va_P D classes [(a_t, .inr (10, [.int t_length, .ref a_t_text, .int t_used, .ref a_t_page, .ref a_t_names, .ref a_t_sort, .ref a_t_code, .ref a_t_count, .ref a_t_around, .ref a_t_end, .ref a_t_size, .ref a_t_there, .ref a_t_wish, .ref a_t_have, .int t_far, .int t_momentParts, .long t_momentDay, .int t_momentSecond, .int t_momentNano, .int t_momentOffset, .int t_readParts, .long t_readDay, .int t_readSecond, .int t_readNano, .int t_readOffset, .ref a_t_known, .ref a_t_value, .ref a_t_before, .ref a_t_open, .ref a_t_from, .int t_alike])), (a_t_page, .inl (kk 1, 256, .inl t_page))] H → va_D A [(a_t, .inr (10, [.int t_length, .ref a_t_text, .int t_used, .ref a_t_page, .ref a_t_names, .ref a_t_sort, .ref a_t_code, .ref a_t_count, .ref a_t_around, .ref a_t_end, .ref a_t_size, .ref a_t_there, .ref a_t_wish, .ref a_t_have, .int t_far, .int t_momentParts, .long t_momentDay, .int t_momentSecond, .int t_momentNano, .int t_momentOffset, .int t_readParts, .long t_readDay, .int t_readSecond, .int t_readNano, .int t_readOffset, .ref a_t_known, .ref a_t_value, .ref a_t_before, .ref a_t_open, .ref a_t_from, .int t_alike])), (a_t_page, .inl (kk 1, 256, .inl t_page))] → va_S A s.heap H locs → (∀ (H : Heap) (locs : List Loc) (ls : Array Slot), lv_has ls 7 [(0, .ref a_t), (1, .long x1), (3, .int x3), (4, .long v.1), (6, .int v.2)] → va_P D classes [(a_t, .inr (10, [.int t_length, .ref a_t_text, .int t_used, .ref a_t_page, .ref a_t_names, .ref a_t_sort, .ref a_t_code, .ref a_t_count, .ref a_t_around, .ref a_t_end, .ref a_t_size, .ref a_t_there, .ref a_t_wish, .ref a_t_have, .int t_far, .int t_momentParts, .long t_momentDay, .int t_momentSecond, .int t_momentNano, .int t_momentOffset, .int t_readParts, .long t_readDay, .int t_readSecond, .int t_readNano, .int t_readOffset, .ref a_t_known, .ref a_t_value, .ref a_t_before, .ref a_t_open, .ref a_t_from, .int t_alike])), (a_t_page, .inl (kk 1, 256, .inl t_page))] H → va_D A [(a_t, .inr (10, [.int t_length, .ref a_t_text, .int t_used, .ref a_t_page, .ref a_t_names, .ref a_t_sort, .ref a_t_code, .ref a_t_count, .ref a_t_around, .ref a_t_end, .ref a_t_size, .ref a_t_there, .ref a_t_wish, .ref a_t_have, .int t_far, .int t_momentParts, .long t_momentDay, .int t_momentSecond, .int t_momentNano, .int t_momentOffset, .int t_readParts, .long t_readDay, .int t_readSecond, .int t_readNano, .int t_readOffset, .ref a_t_known, .ref a_t_value, .ref a_t_before, .ref a_t_open, .ref a_t_from, .int t_alike])), (a_t_page, .inl (kk 1, 256, .inl t_page))] → va_S A s.heap H locs → W p l e rm_SkeletonClockModel_digits s m args below meth c H locs 0 0 Q (F0 m 37 ls [])) → W p l e rm_SkeletonClockModel_digits s m args below meth c H locs 0 0 Q (F0 m 6 ls []) := by
  intro n
  induction n with
  | zero =>
    intro x4 x6 v H locs ls he hl hP hD hS K
    exact ih_n he
  | succ n ih =>
    intro x4 x6 v H locs ls he hl hP hD hS K
    have hx := S.1
    have hb := S.2.1
    have he : st_SkeletonClockModel_digits_6 x1 x3 (lp_SkeletonClockModel_digits_6 x1 x3 n) x4 x6 = some v := he
    unfold st_SkeletonClockModel_digits_6 at he
    refine lv_iload hx hb d_SkeletonClockModel_digits_6 (lv_at hl 4 rfl) ?_
    refine lv_iload_n hx hb d_SkeletonClockModel_digits_8 rfl (lv_at hl 2 rfl) ?_
    refine lv_icmp_lt (tgt := 23) hx hb d_SkeletonClockModel_digits_9 rfl (fun hc => ?_) (fun hc => ?_)
    · have he := ih_t hc he
      refine lv_ldc2 (v := (10 : Int64)) hx hb S.2.2.2.1 (S.2.2.2.2 _ gm_5_145) d_SkeletonClockModel_digits_23 ?_
      refine lv_lload hx hb d_SkeletonClockModel_digits_26 (lv_at hl 3 rfl) ?_
      refine lv_lmul hx hb d_SkeletonClockModel_digits_28 ?_
      refine lv_lstore hx hb d_SkeletonClockModel_digits_29 hl (by decide) rfl (fun ls hl => ?_)
      have hl : lv_has ls 7 [(4, .long ((10 : Int64) * x4)), (0, .ref a_t), (1, .long x1), (3, .int x3), (6, .int x6)] := hl
      refine lv_iinc (k := 4) hx hb d_SkeletonClockModel_digits_31 hl rfl (ii_ (v := (1 : Int32)) (by decide)) (by decide) rfl (fun ls hl => ?_)
      have hl : lv_has ls 7 [(6, .int (x6 + (1 : Int32))), (4, .long ((10 : Int64) * x4)), (0, .ref a_t), (1, .long x1), (3, .int x3)] := hl
      refine lv_goto (tgt := 6) hx hb d_SkeletonClockModel_digits_34 rfl ?_
      have hl : lv_has ls 7 [(0, .ref a_t), (1, .long x1), (3, .int x3), (4, .long ((10 : Int64) * x4)), (6, .int (x6 + (1 : Int32)))] := lv_sub hl [2, 3, 4, 1, 0] rfl
      exact ih _ _ _ _ _ _ he hl hP hD hS K
    · have he := ih_f hc he
      refine lv_lload_n hx hb d_SkeletonClockModel_digits_12 rfl (lv_at hl 1 rfl) ?_
      refine lv_lload hx hb d_SkeletonClockModel_digits_13 (lv_at hl 3 rfl) ?_
      obtain ⟨hz1, he⟩ := ih_g he
      refine lv_ldiv hx hb d_SkeletonClockModel_digits_15 hz1 ?_
      refine lv_ldc2 (v := (10 : Int64)) hx hb S.2.2.2.1 (S.2.2.2.2 _ gm_5_145) d_SkeletonClockModel_digits_16 ?_
      refine lq_lt (tgt := 37) hx hb d_SkeletonClockModel_digits_19 d_SkeletonClockModel_digits_20 rfl (fun hc => ?_) (fun hc => ?_)
      · have he := ih_t hc he
        have hl : lv_has ls 7 [(0, .ref a_t), (1, .long x1), (3, .int x3), (4, .long x4), (6, .int x6)] := lv_sub hl [0, 1, 2, 3, 4] rfl
        cases he
        exact K _ _ _ hl hP hD hS
      · have he := ih_f hc he
        refine lv_ldc2 (v := (10 : Int64)) hx hb S.2.2.2.1 (S.2.2.2.2 _ gm_5_145) d_SkeletonClockModel_digits_23 ?_
        refine lv_lload hx hb d_SkeletonClockModel_digits_26 (lv_at hl 3 rfl) ?_
        refine lv_lmul hx hb d_SkeletonClockModel_digits_28 ?_
        refine lv_lstore hx hb d_SkeletonClockModel_digits_29 hl (by decide) rfl (fun ls hl => ?_)
        have hl : lv_has ls 7 [(4, .long ((10 : Int64) * x4)), (0, .ref a_t), (1, .long x1), (3, .int x3), (6, .int x6)] := hl
        refine lv_iinc (k := 4) hx hb d_SkeletonClockModel_digits_31 hl rfl (ii_ (v := (1 : Int32)) (by decide)) (by decide) rfl (fun ls hl => ?_)
        have hl : lv_has ls 7 [(6, .int (x6 + (1 : Int32))), (4, .long ((10 : Int64) * x4)), (0, .ref a_t), (1, .long x1), (3, .int x3)] := hl
        refine lv_goto (tgt := 6) hx hb d_SkeletonClockModel_digits_34 rfl ?_
        have hl : lv_has ls 7 [(0, .ref a_t), (1, .long x1), (3, .int x3), (4, .long ((10 : Int64) * x4)), (6, .int (x6 + (1 : Int32)))] := lv_sub hl [2, 3, 4, 1, 0] rfl
        exact ih _ _ _ _ _ _ he hl hP hD hS K
set_option maxHeartbeats 4000000 in
set_option maxRecDepth 100000 in
theorem w_SkeletonClockModel_digits_37 {p : Program} {l : Launch} {e : Env} {s : State} {m : MethodId} {args : Array Value} {below : List Frame} {meth : Method} {c : Code} {Q : State → Prop} {A : Nat → Prop} {D : va_G} {kk : Nat → ClassId} {st : Nat → Nat} (a_t a_t_page a_t_text a_t_names a_t_sort a_t_code a_t_count a_t_around a_t_end a_t_size a_t_there a_t_wish a_t_have a_t_known a_t_value a_t_before a_t_open a_t_from : Nat) (t_length : Int32) (t_far : Int32) (t_momentParts : Int32) (t_momentDay : Int64) (t_momentSecond : Int32) (t_momentNano : Int32) (t_momentOffset : Int32) (t_readParts : Int32) (t_readDay : Int64) (t_readSecond : Int32) (t_readNano : Int32) (t_readOffset : Int32) (t_alike : Int32) (x1 : Int64) (S : CallFix p m c b_SkeletonClockModel_digits 7 s args GW y_SkeletonClockModel_digits.cls) (hr : meth.sig.returnType = none) (hlk : meth.locks = false) (hA : ∀ q, s.heap.size ≤ q → A q) (X : KX D kk st A s) : ∀ (n : Nat) (x4 : Int64) (t_used : Int32) (t_page : Nat → Int32) (v : Int64 × Int32 × (Nat → Int32)) (H : Heap) (locs : List Loc) (ls : Array Slot), lp_SkeletonClockModel_digits_37 x1 n x4 t_used t_page = some v → lv_has ls 7 [(0, .ref a_t), (1, .long x1), (4, .long x4)] → va_P D classes [(a_t, .inr (10, [.int t_length, .ref a_t_text, .int t_used, .ref a_t_page, .ref a_t_names, .ref a_t_sort, .ref a_t_code, .ref a_t_count, .ref a_t_around, .ref a_t_end, .ref a_t_size, .ref a_t_there, .ref a_t_wish, .ref a_t_have, .int t_far, .int t_momentParts, .long t_momentDay, .int t_momentSecond, .int t_momentNano, .int t_momentOffset, .int t_readParts, .long t_readDay, .int t_readSecond, .int t_readNano, .int t_readOffset, .ref a_t_known, .ref a_t_value, .ref a_t_before, .ref a_t_open, .ref a_t_from, .int t_alike])), (a_t_page, .inl (kk 1, 256, .inl t_page))] H → va_D A [(a_t, .inr (10, [.int t_length, .ref a_t_text, .int t_used, .ref a_t_page, .ref a_t_names, .ref a_t_sort, .ref a_t_code, .ref a_t_count, .ref a_t_around, .ref a_t_end, .ref a_t_size, .ref a_t_there, .ref a_t_wish, .ref a_t_have, .int t_far, .int t_momentParts, .long t_momentDay, .int t_momentSecond, .int t_momentNano, .int t_momentOffset, .int t_readParts, .long t_readDay, .int t_readSecond, .int t_readNano, .int t_readOffset, .ref a_t_known, .ref a_t_value, .ref a_t_before, .ref a_t_open, .ref a_t_from, .int t_alike])), (a_t_page, .inl (kk 1, 256, .inl t_page))] → va_S A s.heap H locs → (∀ (H : Heap) (locs : List Loc) (ls : Array Slot), lv_has ls 7 [(0, .ref a_t), (1, .long x1), (4, .long v.1)] → va_P D classes [(a_t, .inr (10, [.int t_length, .ref a_t_text, .int v.2.1, .ref a_t_page, .ref a_t_names, .ref a_t_sort, .ref a_t_code, .ref a_t_count, .ref a_t_around, .ref a_t_end, .ref a_t_size, .ref a_t_there, .ref a_t_wish, .ref a_t_have, .int t_far, .int t_momentParts, .long t_momentDay, .int t_momentSecond, .int t_momentNano, .int t_momentOffset, .int t_readParts, .long t_readDay, .int t_readSecond, .int t_readNano, .int t_readOffset, .ref a_t_known, .ref a_t_value, .ref a_t_before, .ref a_t_open, .ref a_t_from, .int t_alike])), (a_t_page, .inl (kk 1, 256, .inl v.2.2))] H → va_D A [(a_t, .inr (10, [.int t_length, .ref a_t_text, .int v.2.1, .ref a_t_page, .ref a_t_names, .ref a_t_sort, .ref a_t_code, .ref a_t_count, .ref a_t_around, .ref a_t_end, .ref a_t_size, .ref a_t_there, .ref a_t_wish, .ref a_t_have, .int t_far, .int t_momentParts, .long t_momentDay, .int t_momentSecond, .int t_momentNano, .int t_momentOffset, .int t_readParts, .long t_readDay, .int t_readSecond, .int t_readNano, .int t_readOffset, .ref a_t_known, .ref a_t_value, .ref a_t_before, .ref a_t_open, .ref a_t_from, .int t_alike])), (a_t_page, .inl (kk 1, 256, .inl v.2.2))] → va_S A s.heap H locs → W p l e rm_SkeletonClockModel_digits s m args below meth c H locs 0 0 Q (F0 m 72 ls [])) → W p l e rm_SkeletonClockModel_digits s m args below meth c H locs 0 0 Q (F0 m 37 ls []) := by
  intro n
  induction n with
  | zero =>
    intro x4 t_used t_page v H locs ls he hl hP hD hS K
    exact ih_n he
  | succ n ih =>
    intro x4 t_used t_page v H locs ls he hl hP hD hS K
    have hx := S.1
    have hb := S.2.1
    have he : st_SkeletonClockModel_digits_37 x1 (lp_SkeletonClockModel_digits_37 x1 n) x4 t_used t_page = some v := he
    unfold st_SkeletonClockModel_digits_37 at he
    refine lv_lload hx hb d_SkeletonClockModel_digits_37 (lv_at hl 2 rfl) ?_
    refine lv_lconst (v := (0 : Int64)) hx hb d_SkeletonClockModel_digits_39 (by decide) ?_
    refine lq_le (tgt := 72) hx hb d_SkeletonClockModel_digits_40 d_SkeletonClockModel_digits_41 rfl (fun hc => ?_) (fun hc => ?_)
    · have he := ih_t hc he
      have hl : lv_has ls 7 [(0, .ref a_t), (1, .long x1), (4, .long x4)] := lv_sub hl [0, 1, 2] rfl
      cases he
      exact K _ _ _ hl hP hD hS
    · have he := ih_f hc he
      refine lv_aload_n hx hb d_SkeletonClockModel_digits_44 rfl (lv_at hl 0 rfl) ?_
      refine lv_ldc2 (v := (48 : Int64)) hx hb S.2.2.2.1 (S.2.2.2.2 _ gm_5_146) d_SkeletonClockModel_digits_45 ?_
      refine lv_lload_n hx hb d_SkeletonClockModel_digits_48 rfl (lv_at hl 1 rfl) ?_
      refine lv_lload hx hb d_SkeletonClockModel_digits_49 (lv_at hl 2 rfl) ?_
      obtain ⟨hz4, he⟩ := ih_g he
      refine lv_ldiv hx hb d_SkeletonClockModel_digits_51 hz4 ?_
      refine lv_ldc2 (v := (10 : Int64)) hx hb S.2.2.2.1 (S.2.2.2.2 _ gm_5_145) d_SkeletonClockModel_digits_52 ?_
      refine lv_lrem hx hb d_SkeletonClockModel_digits_55 (by decide) ?_
      refine lv_ladd hx hb d_SkeletonClockModel_digits_56 ?_
      refine lv_l2i hx hb d_SkeletonClockModel_digits_57 rfl ?_
      obtain ⟨u5, e6, he⟩ := ih_b he
      refine k_v (wr := []) (w1 := [(a_t, .inr (10, [.int t_length, .ref a_t_text, .int u5.1, .ref a_t_page, .ref a_t_names, .ref a_t_sort, .ref a_t_code, .ref a_t_count, .ref a_t_around, .ref a_t_end, .ref a_t_size, .ref a_t_there, .ref a_t_wish, .ref a_t_have, .int t_far, .int t_momentParts, .long t_momentDay, .int t_momentSecond, .int t_momentNano, .int t_momentOffset, .int t_readParts, .long t_readDay, .int t_readSecond, .int t_readNano, .int t_readOffset, .ref a_t_known, .ref a_t_value, .ref a_t_before, .ref a_t_open, .ref a_t_from, .int t_alike])), (a_t_page, .inl (kk 1, 256, .inl u5.2))]) (w2 := [(a_t, .inr (10, [.int t_length, .ref a_t_text, .int u5.1, .ref a_t_page, .ref a_t_names, .ref a_t_sort, .ref a_t_code, .ref a_t_count, .ref a_t_around, .ref a_t_end, .ref a_t_size, .ref a_t_there, .ref a_t_wish, .ref a_t_have, .int t_far, .int t_momentParts, .long t_momentDay, .int t_momentSecond, .int t_momentNano, .int t_momentOffset, .int t_readParts, .long t_readDay, .int t_readSecond, .int t_readNano, .int t_readOffset, .ref a_t_known, .ref a_t_value, .ref a_t_before, .ref a_t_open, .ref a_t_from, .int t_alike])), (a_t_page, .inl (kk 1, 256, .inl u5.2))]) (r_V (As := [.int (Int64.toInt32 ((48 : Int64) + ((x1 / x4) - (x1 / x4) / (10 : Int64) * (10 : Int64))))]) S X hA hP hD hS (c_SkeletonClockModel_out l D kk st a_t a_t_page a_t_text a_t_names a_t_sort a_t_code a_t_count a_t_around a_t_end a_t_size a_t_there a_t_wish a_t_have a_t_known a_t_value a_t_before a_t_open a_t_from _ t_length t_used t_far t_momentParts t_momentDay t_momentSecond t_momentNano t_momentOffset t_readParts t_readDay t_readSecond t_readNano t_readOffset t_alike t_page (Int64.toInt32 ((48 : Int64) + ((x1 / x4) - (x1 / x4) / (10 : Int64) * (10 : Int64)))) u5 e6) gm_5_136 gm_5_133 gm_5_135 gm_p3_10 gm_1_13 ⟨rfl, rfl, by decide, by decide⟩ kd_SkeletonClockModel_out [0, 1] rfl rfl rfl 0 10 rfl rfl rfl rfl hl.1 rfl (Nat.le_of_ble_eq_true rfl) d_SkeletonClockModel_digits_58 ⟨Nat.zero_le _, Nat.zero_le _⟩) hA hP hD hS [0, 1] [] [0, 1] rfl rfl rfl (by decide) rfl rfl rfl (fun H locs hP hD hS => ?_)
      refine lv_lload hx hb d_SkeletonClockModel_digits_61 (lv_at hl 2 rfl) ?_
      refine lv_ldc2 (v := (10 : Int64)) hx hb S.2.2.2.1 (S.2.2.2.2 _ gm_5_145) d_SkeletonClockModel_digits_63 ?_
      refine lv_ldiv hx hb d_SkeletonClockModel_digits_66 (by decide) ?_
      refine lv_lstore hx hb d_SkeletonClockModel_digits_67 hl (by decide) rfl (fun ls hl => ?_)
      have hl : lv_has ls 7 [(4, .long (x4 / (10 : Int64))), (0, .ref a_t), (1, .long x1)] := hl
      refine lv_goto (tgt := 37) hx hb d_SkeletonClockModel_digits_69 rfl ?_
      have hl : lv_has ls 7 [(0, .ref a_t), (1, .long x1), (4, .long (x4 / (10 : Int64)))] := lv_sub hl [1, 2, 0] rfl
      exact ih _ _ _ _ _ _ _ he hl hP hD hS K
set_option maxHeartbeats 4000000 in
set_option maxRecDepth 100000 in
theorem c_SkeletonClockModel_digits (l : Launch) (D : va_G) (kk : Nat → ClassId) (st : Nat → Nat) (a_t a_t_page a_t_text a_t_names a_t_sort a_t_code a_t_count a_t_around a_t_end a_t_size a_t_there a_t_wish a_t_have a_t_known a_t_value a_t_before a_t_open a_t_from : Nat) (sz : Nat) (t_length : Int32) (t_used : Int32) (t_far : Int32) (t_momentParts : Int32) (t_momentDay : Int64) (t_momentSecond : Int32) (t_momentNano : Int32) (t_momentOffset : Int32) (t_readParts : Int32) (t_readDay : Int64) (t_readSecond : Int32) (t_readNano : Int32) (t_readOffset : Int32) (t_alike : Int32) (t_page : Nat → Int32) (x1 : Int64) (x3 : Int32) (o : Int32 × (Nat → Int32)) (he : f_SkeletonClockModel_digits t_used t_page x1 x3 = some o) : Met l y_SkeletonClockModel_digits (Cond.code y_SkeletonClockModel_digits b_SkeletonClockModel_digits 7 none :: GW) rm_SkeletonClockModel_digits (KPc D kk st [.ref a_t, .long x1, .int x3] [(a_t, .inr (10, [.int t_length, .ref a_t_text, .int t_used, .ref a_t_page, .ref a_t_names, .ref a_t_sort, .ref a_t_code, .ref a_t_count, .ref a_t_around, .ref a_t_end, .ref a_t_size, .ref a_t_there, .ref a_t_wish, .ref a_t_have, .int t_far, .int t_momentParts, .long t_momentDay, .int t_momentSecond, .int t_momentNano, .int t_momentOffset, .int t_readParts, .long t_readDay, .int t_readSecond, .int t_readNano, .int t_readOffset, .ref a_t_known, .ref a_t_value, .ref a_t_before, .ref a_t_open, .ref a_t_from, .int t_alike])), (a_t_page, .inl (kk 1, 256, .inl t_page))] sz) (KQv D kk [(a_t, .inr (10, [.int t_length, .ref a_t_text, .int o.1, .ref a_t_page, .ref a_t_names, .ref a_t_sort, .ref a_t_code, .ref a_t_count, .ref a_t_around, .ref a_t_end, .ref a_t_size, .ref a_t_there, .ref a_t_wish, .ref a_t_have, .int t_far, .int t_momentParts, .long t_momentDay, .int t_momentSecond, .int t_momentNano, .int t_momentOffset, .int t_readParts, .long t_readDay, .int t_readSecond, .int t_readNano, .int t_readOffset, .ref a_t_known, .ref a_t_value, .ref a_t_before, .ref a_t_open, .ref a_t_from, .int t_alike])), (a_t_page, .inl (kk 1, 256, .inl o.2))] (va_A [(a_t, .inr (10, [.int t_length, .ref a_t_text, .int t_used, .ref a_t_page, .ref a_t_names, .ref a_t_sort, .ref a_t_code, .ref a_t_count, .ref a_t_around, .ref a_t_end, .ref a_t_size, .ref a_t_there, .ref a_t_wish, .ref a_t_have, .int t_far, .int t_momentParts, .long t_momentDay, .int t_momentSecond, .int t_momentNano, .int t_momentOffset, .int t_readParts, .long t_readDay, .int t_readSecond, .int t_readNano, .int t_readOffset, .ref a_t_known, .ref a_t_value, .ref a_t_before, .ref a_t_open, .ref a_t_from, .int t_alike])), (a_t_page, .inl (kk 1, 256, .inl t_page))] sz)) 0 0 (va_A [(a_t, .inr (10, [.int t_length, .ref a_t_text, .int t_used, .ref a_t_page, .ref a_t_names, .ref a_t_sort, .ref a_t_code, .ref a_t_count, .ref a_t_around, .ref a_t_end, .ref a_t_size, .ref a_t_there, .ref a_t_wish, .ref a_t_have, .int t_far, .int t_momentParts, .long t_momentDay, .int t_momentSecond, .int t_momentNano, .int t_momentOffset, .int t_readParts, .long t_readDay, .int t_readSecond, .int t_readNano, .int t_readOffset, .ref a_t_known, .ref a_t_value, .ref a_t_before, .ref a_t_open, .ref a_t_from, .int t_alike])), (a_t_page, .inl (kk 1, 256, .inl t_page))] sz) := by
  refine k_start (Qc := fun A => KQv D kk [(a_t, .inr (10, [.int t_length, .ref a_t_text, .int o.1, .ref a_t_page, .ref a_t_names, .ref a_t_sort, .ref a_t_code, .ref a_t_count, .ref a_t_around, .ref a_t_end, .ref a_t_size, .ref a_t_there, .ref a_t_wish, .ref a_t_have, .int t_far, .int t_momentParts, .long t_momentDay, .int t_momentSecond, .int t_momentNano, .int t_momentOffset, .int t_readParts, .long t_readDay, .int t_readSecond, .int t_readNano, .int t_readOffset, .ref a_t_known, .ref a_t_value, .ref a_t_before, .ref a_t_open, .ref a_t_from, .int t_alike])), (a_t_page, .inl (kk 1, 256, .inl o.2))] A) (by decide) (Nat.le_of_ble_eq_true rfl) ?_
  intro p e s m below meth c A ls S hnm hr hlk hA X hP hD hS hl
  have hl : lv_has ls 7 [(0, .ref a_t), (1, .long x1), (3, .int x3)] := hl
  have hx := S.1
  have hb := S.2.1
  unfold f_SkeletonClockModel_digits at he
  refine lv_lconst (v := (1 : Int64)) hx hb d_SkeletonClockModel_digits_0 (by decide) ?_
  refine lv_lstore hx hb d_SkeletonClockModel_digits_1 hl (by decide) rfl (fun ls hl => ?_)
  have hl : lv_has ls 7 [(4, .long (1 : Int64)), (0, .ref a_t), (1, .long x1), (3, .int x3)] := hl
  refine lv_iconst (v := (1 : Int32)) hx hb d_SkeletonClockModel_digits_3 (by decide) ?_
  refine lv_istore hx hb d_SkeletonClockModel_digits_4 hl (by decide) rfl (fun ls hl => ?_)
  have hl : lv_has ls 7 [(6, .int (1 : Int32)), (4, .long (1 : Int64)), (0, .ref a_t), (1, .long x1), (3, .int x3)] := hl
  obtain ⟨u2, e3, he⟩ := ih_b he
  have hl : lv_has ls 7 [(0, .ref a_t), (1, .long x1), (3, .int x3), (4, .long (1 : Int64)), (6, .int (1 : Int32))] := lv_sub hl [2, 3, 4, 1, 0] rfl
  refine w_SkeletonClockModel_digits_6 a_t a_t_page a_t_text a_t_names a_t_sort a_t_code a_t_count a_t_around a_t_end a_t_size a_t_there a_t_wish a_t_have a_t_known a_t_value a_t_before a_t_open a_t_from t_length t_used t_far t_momentParts t_momentDay t_momentSecond t_momentNano t_momentOffset t_readParts t_readDay t_readSecond t_readNano t_readOffset t_alike t_page x1 x3 S hr hlk hA X FU (1 : Int64) (1 : Int32) u2 _ _ ls e3 hl hP hD hS (fun H locs ls hl hP hD hS => ?_)
  obtain ⟨u7, e8, he⟩ := ih_b he
  have hl : lv_has ls 7 [(0, .ref a_t), (1, .long x1), (4, .long u2.1)] := lv_sub hl [0, 1, 3] rfl
  refine w_SkeletonClockModel_digits_37 a_t a_t_page a_t_text a_t_names a_t_sort a_t_code a_t_count a_t_around a_t_end a_t_size a_t_there a_t_wish a_t_have a_t_known a_t_value a_t_before a_t_open a_t_from t_length t_far t_momentParts t_momentDay t_momentSecond t_momentNano t_momentOffset t_readParts t_readDay t_readSecond t_readNano t_readOffset t_alike x1 S hr hlk hA X FU u2.1 t_used t_page u7 _ _ ls e8 hl hP hD hS (fun H locs ls hl hP hD hS => ?_)
  cases he
  exact k_vre hx hb hr hlk X hP hD hS d_SkeletonClockModel_digits_72
abbrev rm_SkeletonClockModel_missing : Room := { frames := 1, cells := 0, slots := 0, locals := 22 }
set_option maxHeartbeats 4000000 in
set_option maxRecDepth 100000 in
theorem c_SkeletonClockModel_missing (l : Launch) (D : va_G) (kk : Nat → ClassId) (st : Nat → Nat) (a_t a_t_sort a_t_code a_t_text a_t_page a_t_names a_t_count a_t_around a_t_end a_t_size a_t_there a_t_wish a_t_have a_t_known a_t_value a_t_before a_t_open a_t_from : Nat) (sz : Nat) (t_length : Int32) (t_used : Int32) (t_far : Int32) (t_momentParts : Int32) (t_momentDay : Int64) (t_momentSecond : Int32) (t_momentNano : Int32) (t_momentOffset : Int32) (t_readParts : Int32) (t_readDay : Int64) (t_readSecond : Int32) (t_readNano : Int32) (t_readOffset : Int32) (t_alike : Int32) (t_sort : Nat → Int32) (t_code : Nat → Int32) (x1 : Int32) (o : Int32) (he : f_SkeletonClockModel_missing t_momentParts t_sort t_code x1 = some o) : Met l y_SkeletonClockModel_missing (Cond.code y_SkeletonClockModel_missing b_SkeletonClockModel_missing 2 (some .boolean) :: GW) rm_SkeletonClockModel_missing (KPc D kk st [.ref a_t, .int x1] [(a_t, .inr (10, [.int t_length, .ref a_t_text, .int t_used, .ref a_t_page, .ref a_t_names, .ref a_t_sort, .ref a_t_code, .ref a_t_count, .ref a_t_around, .ref a_t_end, .ref a_t_size, .ref a_t_there, .ref a_t_wish, .ref a_t_have, .int t_far, .int t_momentParts, .long t_momentDay, .int t_momentSecond, .int t_momentNano, .int t_momentOffset, .int t_readParts, .long t_readDay, .int t_readSecond, .int t_readNano, .int t_readOffset, .ref a_t_known, .ref a_t_value, .ref a_t_before, .ref a_t_open, .ref a_t_from, .int t_alike])), (a_t_sort, .inl (kk 0, 140, .inl t_sort)), (a_t_code, .inl (kk 0, 140, .inl t_code))] sz) (KQi D kk o [(a_t, .inr (10, [.int t_length, .ref a_t_text, .int t_used, .ref a_t_page, .ref a_t_names, .ref a_t_sort, .ref a_t_code, .ref a_t_count, .ref a_t_around, .ref a_t_end, .ref a_t_size, .ref a_t_there, .ref a_t_wish, .ref a_t_have, .int t_far, .int t_momentParts, .long t_momentDay, .int t_momentSecond, .int t_momentNano, .int t_momentOffset, .int t_readParts, .long t_readDay, .int t_readSecond, .int t_readNano, .int t_readOffset, .ref a_t_known, .ref a_t_value, .ref a_t_before, .ref a_t_open, .ref a_t_from, .int t_alike])), (a_t_sort, .inl (kk 0, 140, .inl t_sort)), (a_t_code, .inl (kk 0, 140, .inl t_code))] (va_A [(a_t, .inr (10, [.int t_length, .ref a_t_text, .int t_used, .ref a_t_page, .ref a_t_names, .ref a_t_sort, .ref a_t_code, .ref a_t_count, .ref a_t_around, .ref a_t_end, .ref a_t_size, .ref a_t_there, .ref a_t_wish, .ref a_t_have, .int t_far, .int t_momentParts, .long t_momentDay, .int t_momentSecond, .int t_momentNano, .int t_momentOffset, .int t_readParts, .long t_readDay, .int t_readSecond, .int t_readNano, .int t_readOffset, .ref a_t_known, .ref a_t_value, .ref a_t_before, .ref a_t_open, .ref a_t_from, .int t_alike])), (a_t_sort, .inl (kk 0, 140, .inl t_sort)), (a_t_code, .inl (kk 0, 140, .inl t_code))] sz)) 0 0 (va_A [(a_t, .inr (10, [.int t_length, .ref a_t_text, .int t_used, .ref a_t_page, .ref a_t_names, .ref a_t_sort, .ref a_t_code, .ref a_t_count, .ref a_t_around, .ref a_t_end, .ref a_t_size, .ref a_t_there, .ref a_t_wish, .ref a_t_have, .int t_far, .int t_momentParts, .long t_momentDay, .int t_momentSecond, .int t_momentNano, .int t_momentOffset, .int t_readParts, .long t_readDay, .int t_readSecond, .int t_readNano, .int t_readOffset, .ref a_t_known, .ref a_t_value, .ref a_t_before, .ref a_t_open, .ref a_t_from, .int t_alike])), (a_t_sort, .inl (kk 0, 140, .inl t_sort)), (a_t_code, .inl (kk 0, 140, .inl t_code))] sz) := by
  refine k_start (Qc := fun A => KQi D kk o [(a_t, .inr (10, [.int t_length, .ref a_t_text, .int t_used, .ref a_t_page, .ref a_t_names, .ref a_t_sort, .ref a_t_code, .ref a_t_count, .ref a_t_around, .ref a_t_end, .ref a_t_size, .ref a_t_there, .ref a_t_wish, .ref a_t_have, .int t_far, .int t_momentParts, .long t_momentDay, .int t_momentSecond, .int t_momentNano, .int t_momentOffset, .int t_readParts, .long t_readDay, .int t_readSecond, .int t_readNano, .int t_readOffset, .ref a_t_known, .ref a_t_value, .ref a_t_before, .ref a_t_open, .ref a_t_from, .int t_alike])), (a_t_sort, .inl (kk 0, 140, .inl t_sort)), (a_t_code, .inl (kk 0, 140, .inl t_code))] A) (by decide) (Nat.le_of_ble_eq_true rfl) ?_
  intro p e s m below meth c A ls S hnm hr hlk hA X hP hD hS hl
  have hl : lv_has ls 2 [(0, .ref a_t), (1, .int x1)] := hl
  have hx := S.1
  have hb := S.2.1
  unfold f_SkeletonClockModel_missing at he
  refine lv_aload_n hx hb d_SkeletonClockModel_missing_0 rfl (lv_at hl 0 rfl) ?_
  refine k_get S X us_SkeletonClockModel hP 0 rfl rfl 5 (by decide) gm_4_156 rfl d_SkeletonClockModel_missing_1 ?_
  refine lv_iload_n hx hb d_SkeletonClockModel_missing_4 rfl (lv_at hl 1 rfl) ?_
  obtain ⟨hi1, he⟩ := ih_g he
  refine va_iald hx hb X.1 hP 1 0 rfl rfl hi1 d_SkeletonClockModel_missing_5 ?_
  refine lv_iconst (v := (1 : Int32)) hx hb d_SkeletonClockModel_missing_6 (by decide) ?_
  refine lv_icmp_ne (tgt := 34) hx hb d_SkeletonClockModel_missing_7 rfl (fun hc => ?_) (fun hc => ?_)
  · have he := ih_f hc he
    refine lv_iconst (v := (0 : Int32)) hx hb d_SkeletonClockModel_missing_34 (by decide) ?_
    cases he
    exact k_zre hx hb hr hlk X hP hD hS (Or.inl rfl) d_SkeletonClockModel_missing_35
  · have he := ih_t hc he
    refine lv_aload_n hx hb d_SkeletonClockModel_missing_10 rfl (lv_at hl 0 rfl) ?_
    refine k_get S X us_SkeletonClockModel hP 0 rfl rfl 15 (by decide) gm_4_166 rfl d_SkeletonClockModel_missing_11 ?_
    refine lv_aload_n hx hb d_SkeletonClockModel_missing_14 rfl (lv_at hl 0 rfl) ?_
    refine k_get S X us_SkeletonClockModel hP 0 rfl rfl 6 (by decide) gm_4_157 rfl d_SkeletonClockModel_missing_15 ?_
    refine lv_iload_n hx hb d_SkeletonClockModel_missing_18 rfl (lv_at hl 1 rfl) ?_
    obtain ⟨hi2, he⟩ := ih_g he
    refine va_iald hx hb X.1 hP 2 0 rfl rfl hi2 d_SkeletonClockModel_missing_19 ?_
    obtain ⟨u3, e4, he⟩ := ih_b he
    refine k_io (r_S (As := [.int (t_code (x1).toNatClampNeg)]) S X hA hP hD hS (c_SkeletonClockModel_fieldOf l D kk st _ (t_code (x1).toNatClampNeg) u3 e4) gm_5_35 gm_5_33 gm_5_34 gm_1_13 ⟨rfl, rfl, by decide, by decide⟩ kd_SkeletonClockModel_fieldOf [] rfl rfl rfl rfl hl.1 rfl (Nat.le_of_ble_eq_true rfl) d_SkeletonClockModel_missing_20 ⟨Nat.zero_le _, Nat.zero_le _⟩) hA hP hD hS [] rfl (fun H locs hP hS => ?_)
    obtain ⟨u5, e6, he⟩ := ih_b he
    refine k_io (r_S (As := [.int u3]) S X hA hP hD hS (c_SkeletonClockModel_partOf l D kk st _ u3 u5 e6) gm_5_132 gm_5_130 gm_5_131 gm_1_13 ⟨rfl, rfl, by decide, by decide⟩ kd_SkeletonClockModel_partOf [] rfl rfl rfl rfl hl.1 rfl (Nat.le_of_ble_eq_true rfl) d_SkeletonClockModel_missing_23 ⟨Nat.zero_le _, Nat.zero_le _⟩) hA hP hD hS [] rfl (fun H locs hP hS => ?_)
    refine lv_iand hx hb d_SkeletonClockModel_missing_26 ?_
    refine lv_if_ne (tgt := 34) hx hb d_SkeletonClockModel_missing_27 rfl (fun hc => ?_) (fun hc => ?_)
    · have he := ih_f hc he
      refine lv_iconst (v := (0 : Int32)) hx hb d_SkeletonClockModel_missing_34 (by decide) ?_
      cases he
      exact k_zre hx hb hr hlk X hP hD hS (Or.inl rfl) d_SkeletonClockModel_missing_35
    · have he := ih_t hc he
      refine lv_iconst (v := (1 : Int32)) hx hb d_SkeletonClockModel_missing_30 (by decide) ?_
      refine lv_goto (tgt := 35) hx hb d_SkeletonClockModel_missing_31 rfl ?_
      cases he
      exact k_zre hx hb hr hlk X hP hD hS (Or.inr rfl) d_SkeletonClockModel_missing_35
abbrev rm_SkeletonClockModel_lacks : Room := { frames := 2, cells := 0, slots := 0, locals := 43 }
set_option maxHeartbeats 4000000 in
set_option maxRecDepth 100000 in
theorem w_SkeletonClockModel_lacks_8 {p : Program} {l : Launch} {e : Env} {s : State} {m : MethodId} {args : Array Value} {below : List Frame} {meth : Method} {c : Code} {Q : State → Prop} {A : Nat → Prop} {D : va_G} {kk : Nat → ClassId} {st : Nat → Nat} (a_t a_t_sort a_t_code a_t_around a_t_size a_t_text a_t_page a_t_names a_t_count a_t_end a_t_there a_t_wish a_t_have a_t_known a_t_value a_t_before a_t_open a_t_from : Nat) (t_length : Int32) (t_used : Int32) (t_far : Int32) (t_momentParts : Int32) (t_momentDay : Int64) (t_momentSecond : Int32) (t_momentNano : Int32) (t_momentOffset : Int32) (t_readParts : Int32) (t_readDay : Int64) (t_readSecond : Int32) (t_readNano : Int32) (t_readOffset : Int32) (t_alike : Int32) (t_sort : Nat → Int32) (t_code : Nat → Int32) (t_around : Nat → Int32) (t_size : Nat → Int32) (x1 : Int32) (x2 : Int32) (S : CallFix p m c b_SkeletonClockModel_lacks 5 s args GW y_SkeletonClockModel_lacks.cls) (hr : meth.sig.returnType = (some .boolean)) (hlk : meth.locks = false) (hA : ∀ q, s.heap.size ≤ q → A q) (X : KX D kk st A s) : ∀ (n : Nat) (x3 : Int32) (x4 : Int32) (v : Int32 × Int32) (H : Heap) (locs : List Loc) (ls : Array Slot), lp_SkeletonClockModel_lacks_8 t_momentParts t_sort t_code t_around t_size x1 x2 n x3 x4 = some v → lv_has ls 5 [(0, .ref a_t), (1, .int x1), (2, .int x2), (3, .int x3), (4, .int x4)] → va_P D classes [(a_t, .inr (10, [.int t_length, .ref a_t_text, .int t_used, .ref a_t_page, .ref a_t_names, .ref a_t_sort, .ref a_t_code, .ref a_t_count, .ref a_t_around, .ref a_t_end, .ref a_t_size, .ref a_t_there, .ref a_t_wish, .ref a_t_have, .int t_far, .int t_momentParts, .long t_momentDay, .int t_momentSecond, .int t_momentNano, .int t_momentOffset, .int t_readParts, .long t_readDay, .int t_readSecond, .int t_readNano, .int t_readOffset, .ref a_t_known, .ref a_t_value, .ref a_t_before, .ref a_t_open, .ref a_t_from, .int t_alike])), (a_t_sort, .inl (kk 0, 140, .inl t_sort)), (a_t_code, .inl (kk 0, 140, .inl t_code)), (a_t_around, .inl (kk 0, 140, .inl t_around)), (a_t_size, .inl (kk 0, 7, .inl t_size))] H → va_D A [(a_t, .inr (10, [.int t_length, .ref a_t_text, .int t_used, .ref a_t_page, .ref a_t_names, .ref a_t_sort, .ref a_t_code, .ref a_t_count, .ref a_t_around, .ref a_t_end, .ref a_t_size, .ref a_t_there, .ref a_t_wish, .ref a_t_have, .int t_far, .int t_momentParts, .long t_momentDay, .int t_momentSecond, .int t_momentNano, .int t_momentOffset, .int t_readParts, .long t_readDay, .int t_readSecond, .int t_readNano, .int t_readOffset, .ref a_t_known, .ref a_t_value, .ref a_t_before, .ref a_t_open, .ref a_t_from, .int t_alike])), (a_t_sort, .inl (kk 0, 140, .inl t_sort)), (a_t_code, .inl (kk 0, 140, .inl t_code)), (a_t_around, .inl (kk 0, 140, .inl t_around)), (a_t_size, .inl (kk 0, 7, .inl t_size))] → va_S A s.heap H locs → (∀ (H : Heap) (locs : List Loc) (ls : Array Slot), lv_has ls 5 [(0, .ref a_t), (1, .int x1), (2, .int x2), (3, .int v.1), (4, .int v.2)] → va_P D classes [(a_t, .inr (10, [.int t_length, .ref a_t_text, .int t_used, .ref a_t_page, .ref a_t_names, .ref a_t_sort, .ref a_t_code, .ref a_t_count, .ref a_t_around, .ref a_t_end, .ref a_t_size, .ref a_t_there, .ref a_t_wish, .ref a_t_have, .int t_far, .int t_momentParts, .long t_momentDay, .int t_momentSecond, .int t_momentNano, .int t_momentOffset, .int t_readParts, .long t_readDay, .int t_readSecond, .int t_readNano, .int t_readOffset, .ref a_t_known, .ref a_t_value, .ref a_t_before, .ref a_t_open, .ref a_t_from, .int t_alike])), (a_t_sort, .inl (kk 0, 140, .inl t_sort)), (a_t_code, .inl (kk 0, 140, .inl t_code)), (a_t_around, .inl (kk 0, 140, .inl t_around)), (a_t_size, .inl (kk 0, 7, .inl t_size))] H → va_D A [(a_t, .inr (10, [.int t_length, .ref a_t_text, .int t_used, .ref a_t_page, .ref a_t_names, .ref a_t_sort, .ref a_t_code, .ref a_t_count, .ref a_t_around, .ref a_t_end, .ref a_t_size, .ref a_t_there, .ref a_t_wish, .ref a_t_have, .int t_far, .int t_momentParts, .long t_momentDay, .int t_momentSecond, .int t_momentNano, .int t_momentOffset, .int t_readParts, .long t_readDay, .int t_readSecond, .int t_readNano, .int t_readOffset, .ref a_t_known, .ref a_t_value, .ref a_t_before, .ref a_t_open, .ref a_t_from, .int t_alike])), (a_t_sort, .inl (kk 0, 140, .inl t_sort)), (a_t_code, .inl (kk 0, 140, .inl t_code)), (a_t_around, .inl (kk 0, 140, .inl t_around)), (a_t_size, .inl (kk 0, 7, .inl t_size))] → va_S A s.heap H locs → W p l e rm_SkeletonClockModel_lacks s m args below meth c H locs 0 0 Q (F0 m 60 ls [])) → W p l e rm_SkeletonClockModel_lacks s m args below meth c H locs 0 0 Q (F0 m 8 ls []) := by
  intro n
  induction n with
  | zero =>
    intro x3 x4 v H locs ls he hl hP hD hS K
    exact ih_n he
  | succ n ih =>
    intro x3 x4 v H locs ls he hl hP hD hS K
    have hx := S.1
    have hb := S.2.1
    have he : st_SkeletonClockModel_lacks_8 t_momentParts t_sort t_code t_around t_size x1 x2 (lp_SkeletonClockModel_lacks_8 t_momentParts t_sort t_code t_around t_size x1 x2 n) x3 x4 = some v := he
    unfold st_SkeletonClockModel_lacks_8 at he
    refine lv_iload hx hb d_SkeletonClockModel_lacks_8 (lv_at hl 4 rfl) ?_
    refine lv_bipush (v := (20 : Int32)) hx hb d_SkeletonClockModel_lacks_10 (by decide) ?_
    refine lv_iload_n hx hb d_SkeletonClockModel_lacks_12 rfl (lv_at hl 1 rfl) ?_
    refine lv_imul hx hb d_SkeletonClockModel_lacks_13 ?_
    refine lv_aload_n hx hb d_SkeletonClockModel_lacks_14 rfl (lv_at hl 0 rfl) ?_
    refine k_get S X us_SkeletonClockModel hP 0 rfl rfl 10 (by decide) gm_4_161 rfl d_SkeletonClockModel_lacks_15 ?_
    refine lv_iload_n hx hb d_SkeletonClockModel_lacks_18 rfl (lv_at hl 1 rfl) ?_
    obtain ⟨hi1, he⟩ := ih_g he
    refine va_iald hx hb X.1 hP 4 0 rfl rfl hi1 d_SkeletonClockModel_lacks_19 ?_
    refine lv_iadd hx hb d_SkeletonClockModel_lacks_20 ?_
    refine lv_icmp_ge (tgt := 60) hx hb d_SkeletonClockModel_lacks_21 rfl (fun hc => ?_) (fun hc => ?_)
    · have he := ih_t hc he
      have hl : lv_has ls 5 [(0, .ref a_t), (1, .int x1), (2, .int x2), (3, .int x3), (4, .int x4)] := lv_sub hl [0, 1, 2, 3, 4] rfl
      cases he
      exact K _ _ _ hl hP hD hS
    · have he := ih_f hc he
      refine lv_iload_n hx hb d_SkeletonClockModel_lacks_24 rfl (lv_at hl 3 rfl) ?_
      refine lv_if_ne (tgt := 48) hx hb d_SkeletonClockModel_lacks_25 rfl (fun hc => ?_) (fun hc => ?_)
      · have he := ih_f hc he
        refine lv_iconst (v := (1 : Int32)) hx hb d_SkeletonClockModel_lacks_48 (by decide) ?_
        refine lv_goto (tgt := 53) hx hb d_SkeletonClockModel_lacks_49 rfl ?_
        refine lv_istore_n hx hb d_SkeletonClockModel_lacks_53 rfl hl (by decide) rfl (fun ls hl => ?_)
        have hl : lv_has ls 5 [(3, .int (1 : Int32)), (0, .ref a_t), (1, .int x1), (2, .int x2), (4, .int x4)] := hl
        refine lv_iinc (k := 4) hx hb d_SkeletonClockModel_lacks_54 hl rfl (ii_ (v := (1 : Int32)) (by decide)) (by decide) rfl (fun ls hl => ?_)
        have hl : lv_has ls 5 [(4, .int (x4 + (1 : Int32))), (3, .int (1 : Int32)), (0, .ref a_t), (1, .int x1), (2, .int x2)] := hl
        refine lv_goto (tgt := 8) hx hb d_SkeletonClockModel_lacks_57 rfl ?_
        have hl : lv_has ls 5 [(0, .ref a_t), (1, .int x1), (2, .int x2), (3, .int (1 : Int32)), (4, .int (x4 + (1 : Int32)))] := lv_sub hl [2, 3, 4, 1, 0] rfl
        exact ih _ _ _ _ _ _ he hl hP hD hS K
      · have he := ih_t hc he
        refine lv_aload_n hx hb d_SkeletonClockModel_lacks_28 rfl (lv_at hl 0 rfl) ?_
        refine k_get S X us_SkeletonClockModel hP 0 rfl rfl 8 (by decide) gm_4_159 rfl d_SkeletonClockModel_lacks_29 ?_
        refine lv_iload hx hb d_SkeletonClockModel_lacks_32 (lv_at hl 4 rfl) ?_
        obtain ⟨hi2, he⟩ := ih_g he
        refine va_iald hx hb X.1 hP 3 0 rfl rfl hi2 d_SkeletonClockModel_lacks_34 ?_
        refine lv_iload_n hx hb d_SkeletonClockModel_lacks_35 rfl (lv_at hl 2 rfl) ?_
        refine lv_icmp_ne (tgt := 52) hx hb d_SkeletonClockModel_lacks_36 rfl (fun hc => ?_) (fun hc => ?_)
        · have he := ih_f hc he
          refine lv_iconst (v := (0 : Int32)) hx hb d_SkeletonClockModel_lacks_52 (by decide) ?_
          refine lv_istore_n hx hb d_SkeletonClockModel_lacks_53 rfl hl (by decide) rfl (fun ls hl => ?_)
          have hl : lv_has ls 5 [(3, .int (0 : Int32)), (0, .ref a_t), (1, .int x1), (2, .int x2), (4, .int x4)] := hl
          refine lv_iinc (k := 4) hx hb d_SkeletonClockModel_lacks_54 hl rfl (ii_ (v := (1 : Int32)) (by decide)) (by decide) rfl (fun ls hl => ?_)
          have hl : lv_has ls 5 [(4, .int (x4 + (1 : Int32))), (3, .int (0 : Int32)), (0, .ref a_t), (1, .int x1), (2, .int x2)] := hl
          refine lv_goto (tgt := 8) hx hb d_SkeletonClockModel_lacks_57 rfl ?_
          have hl : lv_has ls 5 [(0, .ref a_t), (1, .int x1), (2, .int x2), (3, .int (0 : Int32)), (4, .int (x4 + (1 : Int32)))] := lv_sub hl [2, 3, 4, 1, 0] rfl
          exact ih _ _ _ _ _ _ he hl hP hD hS K
        · have he := ih_t hc he
          refine lv_aload_n hx hb d_SkeletonClockModel_lacks_39 rfl (lv_at hl 0 rfl) ?_
          refine lv_iload hx hb d_SkeletonClockModel_lacks_40 (lv_at hl 4 rfl) ?_
          obtain ⟨u3, e4, he⟩ := ih_b he
          refine k_io (r_V (As := [.int x4]) S X hA hP hD hS (c_SkeletonClockModel_missing l D kk st a_t a_t_sort a_t_code a_t_text a_t_page a_t_names a_t_count a_t_around a_t_end a_t_size a_t_there a_t_wish a_t_have a_t_known a_t_value a_t_before a_t_open a_t_from _ t_length t_used t_far t_momentParts t_momentDay t_momentSecond t_momentNano t_momentOffset t_readParts t_readDay t_readSecond t_readNano t_readOffset t_alike t_sort t_code x4 u3 e4) gm_5_129 gm_5_126 gm_5_128 gm_p3_9 gm_1_13 ⟨rfl, rfl, by decide, by decide⟩ kd_SkeletonClockModel_missing [0, 1, 2] rfl rfl rfl 0 10 rfl rfl rfl rfl hl.1 rfl (Nat.le_of_ble_eq_true rfl) d_SkeletonClockModel_lacks_42 ⟨Nat.zero_le _, Nat.zero_le _⟩) hA hP hD hS [0, 1, 2] rfl (fun H locs hP hS => ?_)
          refine lv_if_eq (tgt := 52) hx hb d_SkeletonClockModel_lacks_45 rfl (fun hc => ?_) (fun hc => ?_)
          · have he := ih_t hc he
            refine lv_iconst (v := (0 : Int32)) hx hb d_SkeletonClockModel_lacks_52 (by decide) ?_
            refine lv_istore_n hx hb d_SkeletonClockModel_lacks_53 rfl hl (by decide) rfl (fun ls hl => ?_)
            have hl : lv_has ls 5 [(3, .int (0 : Int32)), (0, .ref a_t), (1, .int x1), (2, .int x2), (4, .int x4)] := hl
            refine lv_iinc (k := 4) hx hb d_SkeletonClockModel_lacks_54 hl rfl (ii_ (v := (1 : Int32)) (by decide)) (by decide) rfl (fun ls hl => ?_)
            have hl : lv_has ls 5 [(4, .int (x4 + (1 : Int32))), (3, .int (0 : Int32)), (0, .ref a_t), (1, .int x1), (2, .int x2)] := hl
            refine lv_goto (tgt := 8) hx hb d_SkeletonClockModel_lacks_57 rfl ?_
            have hl : lv_has ls 5 [(0, .ref a_t), (1, .int x1), (2, .int x2), (3, .int (0 : Int32)), (4, .int (x4 + (1 : Int32)))] := lv_sub hl [2, 3, 4, 1, 0] rfl
            exact ih _ _ _ _ _ _ he hl hP hD hS K
          · have he := ih_f hc he
            refine lv_iconst (v := (1 : Int32)) hx hb d_SkeletonClockModel_lacks_48 (by decide) ?_
            refine lv_goto (tgt := 53) hx hb d_SkeletonClockModel_lacks_49 rfl ?_
            refine lv_istore_n hx hb d_SkeletonClockModel_lacks_53 rfl hl (by decide) rfl (fun ls hl => ?_)
            have hl : lv_has ls 5 [(3, .int (1 : Int32)), (0, .ref a_t), (1, .int x1), (2, .int x2), (4, .int x4)] := hl
            refine lv_iinc (k := 4) hx hb d_SkeletonClockModel_lacks_54 hl rfl (ii_ (v := (1 : Int32)) (by decide)) (by decide) rfl (fun ls hl => ?_)
            have hl : lv_has ls 5 [(4, .int (x4 + (1 : Int32))), (3, .int (1 : Int32)), (0, .ref a_t), (1, .int x1), (2, .int x2)] := hl
            refine lv_goto (tgt := 8) hx hb d_SkeletonClockModel_lacks_57 rfl ?_
            have hl : lv_has ls 5 [(0, .ref a_t), (1, .int x1), (2, .int x2), (3, .int (1 : Int32)), (4, .int (x4 + (1 : Int32)))] := lv_sub hl [2, 3, 4, 1, 0] rfl
            exact ih _ _ _ _ _ _ he hl hP hD hS K
set_option maxHeartbeats 4000000 in
set_option maxRecDepth 100000 in
theorem c_SkeletonClockModel_lacks (l : Launch) (D : va_G) (kk : Nat → ClassId) (st : Nat → Nat) (a_t a_t_sort a_t_code a_t_around a_t_size a_t_text a_t_page a_t_names a_t_count a_t_end a_t_there a_t_wish a_t_have a_t_known a_t_value a_t_before a_t_open a_t_from : Nat) (sz : Nat) (t_length : Int32) (t_used : Int32) (t_far : Int32) (t_momentParts : Int32) (t_momentDay : Int64) (t_momentSecond : Int32) (t_momentNano : Int32) (t_momentOffset : Int32) (t_readParts : Int32) (t_readDay : Int64) (t_readSecond : Int32) (t_readNano : Int32) (t_readOffset : Int32) (t_alike : Int32) (t_sort : Nat → Int32) (t_code : Nat → Int32) (t_around : Nat → Int32) (t_size : Nat → Int32) (x1 : Int32) (x2 : Int32) (o : Int32) (he : f_SkeletonClockModel_lacks t_momentParts t_sort t_code t_around t_size x1 x2 = some o) : Met l y_SkeletonClockModel_lacks (Cond.code y_SkeletonClockModel_lacks b_SkeletonClockModel_lacks 5 (some .boolean) :: GW) rm_SkeletonClockModel_lacks (KPc D kk st [.ref a_t, .int x1, .int x2] [(a_t, .inr (10, [.int t_length, .ref a_t_text, .int t_used, .ref a_t_page, .ref a_t_names, .ref a_t_sort, .ref a_t_code, .ref a_t_count, .ref a_t_around, .ref a_t_end, .ref a_t_size, .ref a_t_there, .ref a_t_wish, .ref a_t_have, .int t_far, .int t_momentParts, .long t_momentDay, .int t_momentSecond, .int t_momentNano, .int t_momentOffset, .int t_readParts, .long t_readDay, .int t_readSecond, .int t_readNano, .int t_readOffset, .ref a_t_known, .ref a_t_value, .ref a_t_before, .ref a_t_open, .ref a_t_from, .int t_alike])), (a_t_sort, .inl (kk 0, 140, .inl t_sort)), (a_t_code, .inl (kk 0, 140, .inl t_code)), (a_t_around, .inl (kk 0, 140, .inl t_around)), (a_t_size, .inl (kk 0, 7, .inl t_size))] sz) (KQi D kk o [(a_t, .inr (10, [.int t_length, .ref a_t_text, .int t_used, .ref a_t_page, .ref a_t_names, .ref a_t_sort, .ref a_t_code, .ref a_t_count, .ref a_t_around, .ref a_t_end, .ref a_t_size, .ref a_t_there, .ref a_t_wish, .ref a_t_have, .int t_far, .int t_momentParts, .long t_momentDay, .int t_momentSecond, .int t_momentNano, .int t_momentOffset, .int t_readParts, .long t_readDay, .int t_readSecond, .int t_readNano, .int t_readOffset, .ref a_t_known, .ref a_t_value, .ref a_t_before, .ref a_t_open, .ref a_t_from, .int t_alike])), (a_t_sort, .inl (kk 0, 140, .inl t_sort)), (a_t_code, .inl (kk 0, 140, .inl t_code)), (a_t_around, .inl (kk 0, 140, .inl t_around)), (a_t_size, .inl (kk 0, 7, .inl t_size))] (va_A [(a_t, .inr (10, [.int t_length, .ref a_t_text, .int t_used, .ref a_t_page, .ref a_t_names, .ref a_t_sort, .ref a_t_code, .ref a_t_count, .ref a_t_around, .ref a_t_end, .ref a_t_size, .ref a_t_there, .ref a_t_wish, .ref a_t_have, .int t_far, .int t_momentParts, .long t_momentDay, .int t_momentSecond, .int t_momentNano, .int t_momentOffset, .int t_readParts, .long t_readDay, .int t_readSecond, .int t_readNano, .int t_readOffset, .ref a_t_known, .ref a_t_value, .ref a_t_before, .ref a_t_open, .ref a_t_from, .int t_alike])), (a_t_sort, .inl (kk 0, 140, .inl t_sort)), (a_t_code, .inl (kk 0, 140, .inl t_code)), (a_t_around, .inl (kk 0, 140, .inl t_around)), (a_t_size, .inl (kk 0, 7, .inl t_size))] sz)) 0 0 (va_A [(a_t, .inr (10, [.int t_length, .ref a_t_text, .int t_used, .ref a_t_page, .ref a_t_names, .ref a_t_sort, .ref a_t_code, .ref a_t_count, .ref a_t_around, .ref a_t_end, .ref a_t_size, .ref a_t_there, .ref a_t_wish, .ref a_t_have, .int t_far, .int t_momentParts, .long t_momentDay, .int t_momentSecond, .int t_momentNano, .int t_momentOffset, .int t_readParts, .long t_readDay, .int t_readSecond, .int t_readNano, .int t_readOffset, .ref a_t_known, .ref a_t_value, .ref a_t_before, .ref a_t_open, .ref a_t_from, .int t_alike])), (a_t_sort, .inl (kk 0, 140, .inl t_sort)), (a_t_code, .inl (kk 0, 140, .inl t_code)), (a_t_around, .inl (kk 0, 140, .inl t_around)), (a_t_size, .inl (kk 0, 7, .inl t_size))] sz) := by
  refine k_start (Qc := fun A => KQi D kk o [(a_t, .inr (10, [.int t_length, .ref a_t_text, .int t_used, .ref a_t_page, .ref a_t_names, .ref a_t_sort, .ref a_t_code, .ref a_t_count, .ref a_t_around, .ref a_t_end, .ref a_t_size, .ref a_t_there, .ref a_t_wish, .ref a_t_have, .int t_far, .int t_momentParts, .long t_momentDay, .int t_momentSecond, .int t_momentNano, .int t_momentOffset, .int t_readParts, .long t_readDay, .int t_readSecond, .int t_readNano, .int t_readOffset, .ref a_t_known, .ref a_t_value, .ref a_t_before, .ref a_t_open, .ref a_t_from, .int t_alike])), (a_t_sort, .inl (kk 0, 140, .inl t_sort)), (a_t_code, .inl (kk 0, 140, .inl t_code)), (a_t_around, .inl (kk 0, 140, .inl t_around)), (a_t_size, .inl (kk 0, 7, .inl t_size))] A) (by decide) (Nat.le_of_ble_eq_true rfl) ?_
  intro p e s m below meth c A ls S hnm hr hlk hA X hP hD hS hl
  have hl : lv_has ls 5 [(0, .ref a_t), (1, .int x1), (2, .int x2)] := hl
  have hx := S.1
  have hb := S.2.1
  unfold f_SkeletonClockModel_lacks at he
  refine lv_iconst (v := (0 : Int32)) hx hb d_SkeletonClockModel_lacks_0 (by decide) ?_
  refine lv_istore_n hx hb d_SkeletonClockModel_lacks_1 rfl hl (by decide) rfl (fun ls hl => ?_)
  have hl : lv_has ls 5 [(3, .int (0 : Int32)), (0, .ref a_t), (1, .int x1), (2, .int x2)] := hl
  refine lv_bipush (v := (20 : Int32)) hx hb d_SkeletonClockModel_lacks_2 (by decide) ?_
  refine lv_iload_n hx hb d_SkeletonClockModel_lacks_4 rfl (lv_at hl 2 rfl) ?_
  refine lv_imul hx hb d_SkeletonClockModel_lacks_5 ?_
  refine lv_istore hx hb d_SkeletonClockModel_lacks_6 hl (by decide) rfl (fun ls hl => ?_)
  have hl : lv_has ls 5 [(4, .int ((20 : Int32) * x1)), (3, .int (0 : Int32)), (0, .ref a_t), (1, .int x1), (2, .int x2)] := hl
  obtain ⟨u5, e6, he⟩ := ih_b he
  have hl : lv_has ls 5 [(0, .ref a_t), (1, .int x1), (2, .int x2), (3, .int (0 : Int32)), (4, .int ((20 : Int32) * x1))] := lv_sub hl [2, 3, 4, 1, 0] rfl
  refine w_SkeletonClockModel_lacks_8 a_t a_t_sort a_t_code a_t_around a_t_size a_t_text a_t_page a_t_names a_t_count a_t_end a_t_there a_t_wish a_t_have a_t_known a_t_value a_t_before a_t_open a_t_from t_length t_used t_far t_momentParts t_momentDay t_momentSecond t_momentNano t_momentOffset t_readParts t_readDay t_readSecond t_readNano t_readOffset t_alike t_sort t_code t_around t_size x1 x2 S hr hlk hA X FU (0 : Int32) ((20 : Int32) * x1) u5 _ _ ls e6 hl hP hD hS (fun H locs ls hl hP hD hS => ?_)
  refine lv_iload_n hx hb d_SkeletonClockModel_lacks_60 rfl (lv_at hl 3 rfl) ?_
  obtain ⟨hv7, he⟩ := ih_g he
  cases he
  exact k_zre hx hb hr hlk X hP hD hS hv7 d_SkeletonClockModel_lacks_61
abbrev rm_SkeletonClockModel_spell : Room := { frames := 1, cells := 0, slots := 0, locals := 23 }
set_option maxHeartbeats 4000000 in
set_option maxRecDepth 100000 in
theorem w_SkeletonClockModel_spell_2 {p : Program} {l : Launch} {e : Env} {s : State} {m : MethodId} {args : Array Value} {below : List Frame} {meth : Method} {c : Code} {Q : State → Prop} {A : Nat → Prop} {D : va_G} {kk : Nat → ClassId} {st : Nat → Nat} (a_t a_t_page a_t_names a_t_text a_t_sort a_t_code a_t_count a_t_around a_t_end a_t_size a_t_there a_t_wish a_t_have a_t_known a_t_value a_t_before a_t_open a_t_from : Nat) (t_length : Int32) (t_far : Int32) (t_momentParts : Int32) (t_momentDay : Int64) (t_momentSecond : Int32) (t_momentNano : Int32) (t_momentOffset : Int32) (t_readParts : Int32) (t_readDay : Int64) (t_readSecond : Int32) (t_readNano : Int32) (t_readOffset : Int32) (t_alike : Int32) (t_names : Nat → Int64) (x1 : Int32) (x2 : Int32) (S : CallFix p m c b_SkeletonClockModel_spell 4 s args GW y_SkeletonClockModel_spell.cls) (hr : meth.sig.returnType = none) (hlk : meth.locks = false) (hA : ∀ q, s.heap.size ≤ q → A q) (X : KX D kk st A s) : ∀ (n : Nat) (x3 : Int32) (t_used : Int32) (t_page : Nat → Int32) (v : Int32 × Int32 × (Nat → Int32)) (H : Heap) (locs : List Loc) (ls : Array Slot), lp_SkeletonClockModel_spell_2 t_names x1 x2 n x3 t_used t_page = some v → lv_has ls 4 [(0, .ref a_t), (1, .int x1), (2, .int x2), (3, .int x3)] → va_P D classes [(a_t, .inr (10, [.int t_length, .ref a_t_text, .int t_used, .ref a_t_page, .ref a_t_names, .ref a_t_sort, .ref a_t_code, .ref a_t_count, .ref a_t_around, .ref a_t_end, .ref a_t_size, .ref a_t_there, .ref a_t_wish, .ref a_t_have, .int t_far, .int t_momentParts, .long t_momentDay, .int t_momentSecond, .int t_momentNano, .int t_momentOffset, .int t_readParts, .long t_readDay, .int t_readSecond, .int t_readNano, .int t_readOffset, .ref a_t_known, .ref a_t_value, .ref a_t_before, .ref a_t_open, .ref a_t_from, .int t_alike])), (a_t_page, .inl (kk 1, 256, .inl t_page)), (a_t_names, .inl (kk 3, 21, .inr (.inl t_names)))] H → va_D A [(a_t, .inr (10, [.int t_length, .ref a_t_text, .int t_used, .ref a_t_page, .ref a_t_names, .ref a_t_sort, .ref a_t_code, .ref a_t_count, .ref a_t_around, .ref a_t_end, .ref a_t_size, .ref a_t_there, .ref a_t_wish, .ref a_t_have, .int t_far, .int t_momentParts, .long t_momentDay, .int t_momentSecond, .int t_momentNano, .int t_momentOffset, .int t_readParts, .long t_readDay, .int t_readSecond, .int t_readNano, .int t_readOffset, .ref a_t_known, .ref a_t_value, .ref a_t_before, .ref a_t_open, .ref a_t_from, .int t_alike])), (a_t_page, .inl (kk 1, 256, .inl t_page)), (a_t_names, .inl (kk 3, 21, .inr (.inl t_names)))] → va_S A s.heap H locs → (∀ (H : Heap) (locs : List Loc) (ls : Array Slot), lv_has ls 4 [(0, .ref a_t), (1, .int x1), (2, .int x2), (3, .int v.1)] → va_P D classes [(a_t, .inr (10, [.int t_length, .ref a_t_text, .int v.2.1, .ref a_t_page, .ref a_t_names, .ref a_t_sort, .ref a_t_code, .ref a_t_count, .ref a_t_around, .ref a_t_end, .ref a_t_size, .ref a_t_there, .ref a_t_wish, .ref a_t_have, .int t_far, .int t_momentParts, .long t_momentDay, .int t_momentSecond, .int t_momentNano, .int t_momentOffset, .int t_readParts, .long t_readDay, .int t_readSecond, .int t_readNano, .int t_readOffset, .ref a_t_known, .ref a_t_value, .ref a_t_before, .ref a_t_open, .ref a_t_from, .int t_alike])), (a_t_page, .inl (kk 1, 256, .inl v.2.2)), (a_t_names, .inl (kk 3, 21, .inr (.inl t_names)))] H → va_D A [(a_t, .inr (10, [.int t_length, .ref a_t_text, .int v.2.1, .ref a_t_page, .ref a_t_names, .ref a_t_sort, .ref a_t_code, .ref a_t_count, .ref a_t_around, .ref a_t_end, .ref a_t_size, .ref a_t_there, .ref a_t_wish, .ref a_t_have, .int t_far, .int t_momentParts, .long t_momentDay, .int t_momentSecond, .int t_momentNano, .int t_momentOffset, .int t_readParts, .long t_readDay, .int t_readSecond, .int t_readNano, .int t_readOffset, .ref a_t_known, .ref a_t_value, .ref a_t_before, .ref a_t_open, .ref a_t_from, .int t_alike])), (a_t_page, .inl (kk 1, 256, .inl v.2.2)), (a_t_names, .inl (kk 3, 21, .inr (.inl t_names)))] → va_S A s.heap H locs → W p l e rm_SkeletonClockModel_spell s m args below meth c H locs 0 0 Q (F0 m 43 ls [])) → W p l e rm_SkeletonClockModel_spell s m args below meth c H locs 0 0 Q (F0 m 2 ls []) := by
  intro n
  induction n with
  | zero =>
    intro x3 t_used t_page v H locs ls he hl hP hD hS K
    exact ih_n he
  | succ n ih =>
    intro x3 t_used t_page v H locs ls he hl hP hD hS K
    have hx := S.1
    have hb := S.2.1
    have he : st_SkeletonClockModel_spell_2 t_names x1 x2 (lp_SkeletonClockModel_spell_2 t_names x1 x2 n) x3 t_used t_page = some v := he
    unfold st_SkeletonClockModel_spell_2 at he
    refine lv_iload_n hx hb d_SkeletonClockModel_spell_2 rfl (lv_at hl 3 rfl) ?_
    refine lv_bipush (v := (9 : Int32)) hx hb d_SkeletonClockModel_spell_3 (by decide) ?_
    refine lv_icmp_ge (tgt := 43) hx hb d_SkeletonClockModel_spell_5 rfl (fun hc => ?_) (fun hc => ?_)
    · have he := ih_t hc he
      have hl : lv_has ls 4 [(0, .ref a_t), (1, .int x1), (2, .int x2), (3, .int x3)] := lv_sub hl [0, 1, 2, 3] rfl
      cases he
      exact K _ _ _ hl hP hD hS
    · have he := ih_f hc he
      refine lv_aload_n hx hb d_SkeletonClockModel_spell_8 rfl (lv_at hl 0 rfl) ?_
      refine lv_iload_n hx hb d_SkeletonClockModel_spell_9 rfl (lv_at hl 1 rfl) ?_
      refine lv_iload_n hx hb d_SkeletonClockModel_spell_10 rfl (lv_at hl 3 rfl) ?_
      obtain ⟨u1, e2, he⟩ := ih_b he
      refine k_io (r_V (As := [.int x1, .int x3]) S X hA hP hD hS (c_SkeletonClockModel_letter l D kk st a_t a_t_names a_t_text a_t_page a_t_sort a_t_code a_t_count a_t_around a_t_end a_t_size a_t_there a_t_wish a_t_have a_t_known a_t_value a_t_before a_t_open a_t_from _ t_length t_used t_far t_momentParts t_momentDay t_momentSecond t_momentNano t_momentOffset t_readParts t_readDay t_readSecond t_readNano t_readOffset t_alike t_names x1 x3 u1 e2) gm_5_155 gm_5_152 gm_5_154 gm_p3_14 gm_1_13 ⟨rfl, rfl, by decide, by decide⟩ kd_SkeletonClockModel_letter [0, 2] rfl rfl rfl 0 10 rfl rfl rfl rfl hl.1 rfl (Nat.le_of_ble_eq_true rfl) d_SkeletonClockModel_spell_11 ⟨Nat.zero_le _, Nat.zero_le _⟩) hA hP hD hS [0, 2] rfl (fun H locs hP hS => ?_)
      refine lv_if_le (tgt := 43) hx hb d_SkeletonClockModel_spell_14 rfl (fun hc => ?_) (fun hc => ?_)
      · have he := ih_t hc he
        have hl : lv_has ls 4 [(0, .ref a_t), (1, .int x1), (2, .int x2), (3, .int x3)] := lv_sub hl [0, 1, 2, 3] rfl
        cases he
        exact K _ _ _ hl hP hD hS
      · have he := ih_f hc he
        refine lv_iload_n hx hb d_SkeletonClockModel_spell_17 rfl (lv_at hl 2 rfl) ?_
        refine lv_iconst (v := (3 : Int32)) hx hb d_SkeletonClockModel_spell_18 (by decide) ?_
        refine lv_icmp_gt (tgt := 27) hx hb d_SkeletonClockModel_spell_19 rfl (fun hc => ?_) (fun hc => ?_)
        · have he := ih_t hc he
          refine lv_aload_n hx hb d_SkeletonClockModel_spell_27 rfl (lv_at hl 0 rfl) ?_
          refine lv_aload_n hx hb d_SkeletonClockModel_spell_28 rfl (lv_at hl 0 rfl) ?_
          refine lv_iload_n hx hb d_SkeletonClockModel_spell_29 rfl (lv_at hl 1 rfl) ?_
          refine lv_iload_n hx hb d_SkeletonClockModel_spell_30 rfl (lv_at hl 3 rfl) ?_
          obtain ⟨u3, e4, he⟩ := ih_b he
          refine k_io (r_V (As := [.int x1, .int x3]) S X hA hP hD hS (c_SkeletonClockModel_letter l D kk st a_t a_t_names a_t_text a_t_page a_t_sort a_t_code a_t_count a_t_around a_t_end a_t_size a_t_there a_t_wish a_t_have a_t_known a_t_value a_t_before a_t_open a_t_from _ t_length t_used t_far t_momentParts t_momentDay t_momentSecond t_momentNano t_momentOffset t_readParts t_readDay t_readSecond t_readNano t_readOffset t_alike t_names x1 x3 u3 e4) gm_5_155 gm_5_152 gm_5_154 gm_p3_14 gm_1_13 ⟨rfl, rfl, by decide, by decide⟩ kd_SkeletonClockModel_letter [0, 2] rfl rfl rfl 0 10 rfl rfl rfl rfl hl.1 rfl (Nat.le_of_ble_eq_true rfl) d_SkeletonClockModel_spell_31 ⟨Nat.zero_le _, Nat.zero_le _⟩) hA hP hD hS [0, 2] rfl (fun H locs hP hS => ?_)
          obtain ⟨u5, e6, he⟩ := ih_b he
          refine k_v (wr := [(a_t_names, .inl (kk 3, 21, .inr (.inl t_names)))]) (w1 := [(a_t, .inr (10, [.int t_length, .ref a_t_text, .int u5.1, .ref a_t_page, .ref a_t_names, .ref a_t_sort, .ref a_t_code, .ref a_t_count, .ref a_t_around, .ref a_t_end, .ref a_t_size, .ref a_t_there, .ref a_t_wish, .ref a_t_have, .int t_far, .int t_momentParts, .long t_momentDay, .int t_momentSecond, .int t_momentNano, .int t_momentOffset, .int t_readParts, .long t_readDay, .int t_readSecond, .int t_readNano, .int t_readOffset, .ref a_t_known, .ref a_t_value, .ref a_t_before, .ref a_t_open, .ref a_t_from, .int t_alike])), (a_t_page, .inl (kk 1, 256, .inl u5.2))]) (w2 := [(a_t, .inr (10, [.int t_length, .ref a_t_text, .int u5.1, .ref a_t_page, .ref a_t_names, .ref a_t_sort, .ref a_t_code, .ref a_t_count, .ref a_t_around, .ref a_t_end, .ref a_t_size, .ref a_t_there, .ref a_t_wish, .ref a_t_have, .int t_far, .int t_momentParts, .long t_momentDay, .int t_momentSecond, .int t_momentNano, .int t_momentOffset, .int t_readParts, .long t_readDay, .int t_readSecond, .int t_readNano, .int t_readOffset, .ref a_t_known, .ref a_t_value, .ref a_t_before, .ref a_t_open, .ref a_t_from, .int t_alike])), (a_t_page, .inl (kk 1, 256, .inl u5.2)), (a_t_names, .inl (kk 3, 21, .inr (.inl t_names)))]) (r_V (As := [.int u3]) S X hA hP hD hS (c_SkeletonClockModel_out l D kk st a_t a_t_page a_t_text a_t_names a_t_sort a_t_code a_t_count a_t_around a_t_end a_t_size a_t_there a_t_wish a_t_have a_t_known a_t_value a_t_before a_t_open a_t_from _ t_length t_used t_far t_momentParts t_momentDay t_momentSecond t_momentNano t_momentOffset t_readParts t_readDay t_readSecond t_readNano t_readOffset t_alike t_page u3 u5 e6) gm_5_136 gm_5_133 gm_5_135 gm_p3_10 gm_1_13 ⟨rfl, rfl, by decide, by decide⟩ kd_SkeletonClockModel_out [0, 1] rfl rfl rfl 0 10 rfl rfl rfl rfl hl.1 rfl (Nat.le_of_ble_eq_true rfl) d_SkeletonClockModel_spell_34 ⟨Nat.zero_le _, Nat.zero_le _⟩) hA hP hD hS [0, 1] [2] [1, 2, 0] rfl rfl rfl (by decide) rfl rfl rfl (fun H locs hP hD hS => ?_)
          refine lv_iinc (k := 3) hx hb d_SkeletonClockModel_spell_37 hl rfl (ii_ (v := (1 : Int32)) (by decide)) (by decide) rfl (fun ls hl => ?_)
          have hl : lv_has ls 4 [(3, .int (x3 + (1 : Int32))), (0, .ref a_t), (1, .int x1), (2, .int x2)] := hl
          refine lv_goto (tgt := 2) hx hb d_SkeletonClockModel_spell_40 rfl ?_
          have hl : lv_has ls 4 [(0, .ref a_t), (1, .int x1), (2, .int x2), (3, .int (x3 + (1 : Int32)))] := lv_sub hl [1, 2, 3, 0] rfl
          exact ih _ _ _ _ _ _ _ he hl hP hD hS K
        · have he := ih_f hc he
          refine lv_iload_n hx hb d_SkeletonClockModel_spell_22 rfl (lv_at hl 3 rfl) ?_
          refine lv_iconst (v := (3 : Int32)) hx hb d_SkeletonClockModel_spell_23 (by decide) ?_
          refine lv_icmp_ge (tgt := 43) hx hb d_SkeletonClockModel_spell_24 rfl (fun hc => ?_) (fun hc => ?_)
          · have he := ih_t hc he
            have hl : lv_has ls 4 [(0, .ref a_t), (1, .int x1), (2, .int x2), (3, .int x3)] := lv_sub hl [0, 1, 2, 3] rfl
            cases he
            exact K _ _ _ hl hP hD hS
          · have he := ih_f hc he
            refine lv_aload_n hx hb d_SkeletonClockModel_spell_27 rfl (lv_at hl 0 rfl) ?_
            refine lv_aload_n hx hb d_SkeletonClockModel_spell_28 rfl (lv_at hl 0 rfl) ?_
            refine lv_iload_n hx hb d_SkeletonClockModel_spell_29 rfl (lv_at hl 1 rfl) ?_
            refine lv_iload_n hx hb d_SkeletonClockModel_spell_30 rfl (lv_at hl 3 rfl) ?_
            obtain ⟨u7, e8, he⟩ := ih_b he
            refine k_io (r_V (As := [.int x1, .int x3]) S X hA hP hD hS (c_SkeletonClockModel_letter l D kk st a_t a_t_names a_t_text a_t_page a_t_sort a_t_code a_t_count a_t_around a_t_end a_t_size a_t_there a_t_wish a_t_have a_t_known a_t_value a_t_before a_t_open a_t_from _ t_length t_used t_far t_momentParts t_momentDay t_momentSecond t_momentNano t_momentOffset t_readParts t_readDay t_readSecond t_readNano t_readOffset t_alike t_names x1 x3 u7 e8) gm_5_155 gm_5_152 gm_5_154 gm_p3_14 gm_1_13 ⟨rfl, rfl, by decide, by decide⟩ kd_SkeletonClockModel_letter [0, 2] rfl rfl rfl 0 10 rfl rfl rfl rfl hl.1 rfl (Nat.le_of_ble_eq_true rfl) d_SkeletonClockModel_spell_31 ⟨Nat.zero_le _, Nat.zero_le _⟩) hA hP hD hS [0, 2] rfl (fun H locs hP hS => ?_)
            obtain ⟨u9, e10, he⟩ := ih_b he
            refine k_v (wr := [(a_t_names, .inl (kk 3, 21, .inr (.inl t_names)))]) (w1 := [(a_t, .inr (10, [.int t_length, .ref a_t_text, .int u9.1, .ref a_t_page, .ref a_t_names, .ref a_t_sort, .ref a_t_code, .ref a_t_count, .ref a_t_around, .ref a_t_end, .ref a_t_size, .ref a_t_there, .ref a_t_wish, .ref a_t_have, .int t_far, .int t_momentParts, .long t_momentDay, .int t_momentSecond, .int t_momentNano, .int t_momentOffset, .int t_readParts, .long t_readDay, .int t_readSecond, .int t_readNano, .int t_readOffset, .ref a_t_known, .ref a_t_value, .ref a_t_before, .ref a_t_open, .ref a_t_from, .int t_alike])), (a_t_page, .inl (kk 1, 256, .inl u9.2))]) (w2 := [(a_t, .inr (10, [.int t_length, .ref a_t_text, .int u9.1, .ref a_t_page, .ref a_t_names, .ref a_t_sort, .ref a_t_code, .ref a_t_count, .ref a_t_around, .ref a_t_end, .ref a_t_size, .ref a_t_there, .ref a_t_wish, .ref a_t_have, .int t_far, .int t_momentParts, .long t_momentDay, .int t_momentSecond, .int t_momentNano, .int t_momentOffset, .int t_readParts, .long t_readDay, .int t_readSecond, .int t_readNano, .int t_readOffset, .ref a_t_known, .ref a_t_value, .ref a_t_before, .ref a_t_open, .ref a_t_from, .int t_alike])), (a_t_page, .inl (kk 1, 256, .inl u9.2)), (a_t_names, .inl (kk 3, 21, .inr (.inl t_names)))]) (r_V (As := [.int u7]) S X hA hP hD hS (c_SkeletonClockModel_out l D kk st a_t a_t_page a_t_text a_t_names a_t_sort a_t_code a_t_count a_t_around a_t_end a_t_size a_t_there a_t_wish a_t_have a_t_known a_t_value a_t_before a_t_open a_t_from _ t_length t_used t_far t_momentParts t_momentDay t_momentSecond t_momentNano t_momentOffset t_readParts t_readDay t_readSecond t_readNano t_readOffset t_alike t_page u7 u9 e10) gm_5_136 gm_5_133 gm_5_135 gm_p3_10 gm_1_13 ⟨rfl, rfl, by decide, by decide⟩ kd_SkeletonClockModel_out [0, 1] rfl rfl rfl 0 10 rfl rfl rfl rfl hl.1 rfl (Nat.le_of_ble_eq_true rfl) d_SkeletonClockModel_spell_34 ⟨Nat.zero_le _, Nat.zero_le _⟩) hA hP hD hS [0, 1] [2] [1, 2, 0] rfl rfl rfl (by decide) rfl rfl rfl (fun H locs hP hD hS => ?_)
            refine lv_iinc (k := 3) hx hb d_SkeletonClockModel_spell_37 hl rfl (ii_ (v := (1 : Int32)) (by decide)) (by decide) rfl (fun ls hl => ?_)
            have hl : lv_has ls 4 [(3, .int (x3 + (1 : Int32))), (0, .ref a_t), (1, .int x1), (2, .int x2)] := hl
            refine lv_goto (tgt := 2) hx hb d_SkeletonClockModel_spell_40 rfl ?_
            have hl : lv_has ls 4 [(0, .ref a_t), (1, .int x1), (2, .int x2), (3, .int (x3 + (1 : Int32)))] := lv_sub hl [1, 2, 3, 0] rfl
            exact ih _ _ _ _ _ _ _ he hl hP hD hS K
set_option maxHeartbeats 4000000 in
set_option maxRecDepth 100000 in
theorem c_SkeletonClockModel_spell (l : Launch) (D : va_G) (kk : Nat → ClassId) (st : Nat → Nat) (a_t a_t_page a_t_names a_t_text a_t_sort a_t_code a_t_count a_t_around a_t_end a_t_size a_t_there a_t_wish a_t_have a_t_known a_t_value a_t_before a_t_open a_t_from : Nat) (sz : Nat) (t_length : Int32) (t_used : Int32) (t_far : Int32) (t_momentParts : Int32) (t_momentDay : Int64) (t_momentSecond : Int32) (t_momentNano : Int32) (t_momentOffset : Int32) (t_readParts : Int32) (t_readDay : Int64) (t_readSecond : Int32) (t_readNano : Int32) (t_readOffset : Int32) (t_alike : Int32) (t_page : Nat → Int32) (t_names : Nat → Int64) (x1 : Int32) (x2 : Int32) (o : Int32 × (Nat → Int32)) (he : f_SkeletonClockModel_spell t_used t_page t_names x1 x2 = some o) : Met l y_SkeletonClockModel_spell (Cond.code y_SkeletonClockModel_spell b_SkeletonClockModel_spell 4 none :: GW) rm_SkeletonClockModel_spell (KPc D kk st [.ref a_t, .int x1, .int x2] [(a_t, .inr (10, [.int t_length, .ref a_t_text, .int t_used, .ref a_t_page, .ref a_t_names, .ref a_t_sort, .ref a_t_code, .ref a_t_count, .ref a_t_around, .ref a_t_end, .ref a_t_size, .ref a_t_there, .ref a_t_wish, .ref a_t_have, .int t_far, .int t_momentParts, .long t_momentDay, .int t_momentSecond, .int t_momentNano, .int t_momentOffset, .int t_readParts, .long t_readDay, .int t_readSecond, .int t_readNano, .int t_readOffset, .ref a_t_known, .ref a_t_value, .ref a_t_before, .ref a_t_open, .ref a_t_from, .int t_alike])), (a_t_page, .inl (kk 1, 256, .inl t_page)), (a_t_names, .inl (kk 3, 21, .inr (.inl t_names)))] sz) (KQv D kk [(a_t, .inr (10, [.int t_length, .ref a_t_text, .int o.1, .ref a_t_page, .ref a_t_names, .ref a_t_sort, .ref a_t_code, .ref a_t_count, .ref a_t_around, .ref a_t_end, .ref a_t_size, .ref a_t_there, .ref a_t_wish, .ref a_t_have, .int t_far, .int t_momentParts, .long t_momentDay, .int t_momentSecond, .int t_momentNano, .int t_momentOffset, .int t_readParts, .long t_readDay, .int t_readSecond, .int t_readNano, .int t_readOffset, .ref a_t_known, .ref a_t_value, .ref a_t_before, .ref a_t_open, .ref a_t_from, .int t_alike])), (a_t_page, .inl (kk 1, 256, .inl o.2)), (a_t_names, .inl (kk 3, 21, .inr (.inl t_names)))] (va_A [(a_t, .inr (10, [.int t_length, .ref a_t_text, .int t_used, .ref a_t_page, .ref a_t_names, .ref a_t_sort, .ref a_t_code, .ref a_t_count, .ref a_t_around, .ref a_t_end, .ref a_t_size, .ref a_t_there, .ref a_t_wish, .ref a_t_have, .int t_far, .int t_momentParts, .long t_momentDay, .int t_momentSecond, .int t_momentNano, .int t_momentOffset, .int t_readParts, .long t_readDay, .int t_readSecond, .int t_readNano, .int t_readOffset, .ref a_t_known, .ref a_t_value, .ref a_t_before, .ref a_t_open, .ref a_t_from, .int t_alike])), (a_t_page, .inl (kk 1, 256, .inl t_page)), (a_t_names, .inl (kk 3, 21, .inr (.inl t_names)))] sz)) 0 0 (va_A [(a_t, .inr (10, [.int t_length, .ref a_t_text, .int t_used, .ref a_t_page, .ref a_t_names, .ref a_t_sort, .ref a_t_code, .ref a_t_count, .ref a_t_around, .ref a_t_end, .ref a_t_size, .ref a_t_there, .ref a_t_wish, .ref a_t_have, .int t_far, .int t_momentParts, .long t_momentDay, .int t_momentSecond, .int t_momentNano, .int t_momentOffset, .int t_readParts, .long t_readDay, .int t_readSecond, .int t_readNano, .int t_readOffset, .ref a_t_known, .ref a_t_value, .ref a_t_before, .ref a_t_open, .ref a_t_from, .int t_alike])), (a_t_page, .inl (kk 1, 256, .inl t_page)), (a_t_names, .inl (kk 3, 21, .inr (.inl t_names)))] sz) := by
  refine k_start (Qc := fun A => KQv D kk [(a_t, .inr (10, [.int t_length, .ref a_t_text, .int o.1, .ref a_t_page, .ref a_t_names, .ref a_t_sort, .ref a_t_code, .ref a_t_count, .ref a_t_around, .ref a_t_end, .ref a_t_size, .ref a_t_there, .ref a_t_wish, .ref a_t_have, .int t_far, .int t_momentParts, .long t_momentDay, .int t_momentSecond, .int t_momentNano, .int t_momentOffset, .int t_readParts, .long t_readDay, .int t_readSecond, .int t_readNano, .int t_readOffset, .ref a_t_known, .ref a_t_value, .ref a_t_before, .ref a_t_open, .ref a_t_from, .int t_alike])), (a_t_page, .inl (kk 1, 256, .inl o.2)), (a_t_names, .inl (kk 3, 21, .inr (.inl t_names)))] A) (by decide) (Nat.le_of_ble_eq_true rfl) ?_
  intro p e s m below meth c A ls S hnm hr hlk hA X hP hD hS hl
  have hl : lv_has ls 4 [(0, .ref a_t), (1, .int x1), (2, .int x2)] := hl
  have hx := S.1
  have hb := S.2.1
  unfold f_SkeletonClockModel_spell at he
  refine lv_iconst (v := (0 : Int32)) hx hb d_SkeletonClockModel_spell_0 (by decide) ?_
  refine lv_istore_n hx hb d_SkeletonClockModel_spell_1 rfl hl (by decide) rfl (fun ls hl => ?_)
  have hl : lv_has ls 4 [(3, .int (0 : Int32)), (0, .ref a_t), (1, .int x1), (2, .int x2)] := hl
  obtain ⟨u11, e12, he⟩ := ih_b he
  have hl : lv_has ls 4 [(0, .ref a_t), (1, .int x1), (2, .int x2), (3, .int (0 : Int32))] := lv_sub hl [1, 2, 3, 0] rfl
  refine w_SkeletonClockModel_spell_2 a_t a_t_page a_t_names a_t_text a_t_sort a_t_code a_t_count a_t_around a_t_end a_t_size a_t_there a_t_wish a_t_have a_t_known a_t_value a_t_before a_t_open a_t_from t_length t_far t_momentParts t_momentDay t_momentSecond t_momentNano t_momentOffset t_readParts t_readDay t_readSecond t_readNano t_readOffset t_alike t_names x1 x2 S hr hlk hA X FU (0 : Int32) t_used t_page u11 _ _ ls e12 hl hP hD hS (fun H locs ls hl hP hD hS => ?_)
  cases he
  exact k_vre hx hb hr hlk X hP hD hS d_SkeletonClockModel_spell_43
