abbrev b_SkeletonClockModel_resolve : ByteArray := prog_14_method_61_code
def y_SkeletonClockModel_resolve : MethodName := ⟨"SkeletonClockModel", "resolve", "(I)Z"⟩
theorem kd_SkeletonClockModel_resolve : kd_ok y_SkeletonClockModel_resolve 1 := by decide +kernel
theorem gm_5_226 : Cond.code ({ cls := "SkeletonClockModel", name := "some", desc := "(II)Z" } : MethodName) prog_14_method_54_code (5 : Nat) (Option.some FieldType.boolean) ∈ GW := gw_5 (i := 226) rfl rfl
theorem gm_5_223 : Cond.methodLink "SkeletonClockModel" (337 : Nat) ({ cls := "SkeletonClockModel", name := "some", desc := "(II)Z" } : MethodName) ∈ GW := gw_5 (i := 223) rfl rfl
theorem gm_5_225 : Cond.instanceMethod ({ cls := "SkeletonClockModel", name := "some", desc := "(II)Z" } : MethodName) ∈ GW := gw_5 (i := 225) rfl rfl
theorem gm_p4_11 : Cond.selects "SkeletonClockModel" ⟨"SkeletonClockModel", "some", "(II)Z"⟩ ⟨"SkeletonClockModel", "some", "(II)Z"⟩ ∈ GW := gs_4 (i := 11) rfl
theorem gm_5_230 : Cond.code ({ cls := "SkeletonClockModel", name := "rule", desc := "()I" } : MethodName) prog_14_method_55_code (1 : Nat) (Option.some FieldType.int) ∈ GW := gw_5 (i := 230) rfl rfl
theorem gm_5_227 : Cond.methodLink "SkeletonClockModel" (340 : Nat) ({ cls := "SkeletonClockModel", name := "rule", desc := "()I" } : MethodName) ∈ GW := gw_5 (i := 227) rfl rfl
theorem gm_5_229 : Cond.instanceMethod ({ cls := "SkeletonClockModel", name := "rule", desc := "()I" } : MethodName) ∈ GW := gw_5 (i := 229) rfl rfl
theorem gm_p4_12 : Cond.selects "SkeletonClockModel" ⟨"SkeletonClockModel", "rule", "()I"⟩ ⟨"SkeletonClockModel", "rule", "()I"⟩ ∈ GW := gs_4 (i := 12) rfl
theorem gm_6_13 : Cond.constantLong "SkeletonClockModel" (352 : Nat) (3600 : Int64) ∈ GW := gw_6 (i := 13) rfl rfl
theorem gm_6_17 : Cond.code ({ cls := "SkeletonClockModel", name := "hour", desc := "()J" } : MethodName) prog_14_method_58_code (1 : Nat) (Option.some FieldType.long) ∈ GW := gw_6 (i := 17) rfl rfl
theorem gm_6_14 : Cond.methodLink "SkeletonClockModel" (354 : Nat) ({ cls := "SkeletonClockModel", name := "hour", desc := "()J" } : MethodName) ∈ GW := gw_6 (i := 14) rfl rfl
theorem gm_6_16 : Cond.instanceMethod ({ cls := "SkeletonClockModel", name := "hour", desc := "()J" } : MethodName) ∈ GW := gw_6 (i := 16) rfl rfl
theorem gm_p5_1 : Cond.selects "SkeletonClockModel" ⟨"SkeletonClockModel", "hour", "()J"⟩ ⟨"SkeletonClockModel", "hour", "()J"⟩ ∈ GW := gs_5 (i := 1) rfl
theorem gm_6_20 : Cond.code ({ cls := "SkeletonClockModel", name := "usedBy", desc := "(II)Z" } : MethodName) prog_14_method_60_code (2 : Nat) (Option.some FieldType.boolean) ∈ GW := gw_6 (i := 20) rfl rfl
theorem gm_6_18 : Cond.methodLink "SkeletonClockModel" (358 : Nat) ({ cls := "SkeletonClockModel", name := "usedBy", desc := "(II)Z" } : MethodName) ∈ GW := gw_6 (i := 18) rfl rfl
theorem gm_6_19 : Cond.static ({ cls := "SkeletonClockModel", name := "usedBy", desc := "(II)Z" } : MethodName) ∈ GW := gw_6 (i := 19) rfl rfl
theorem gm_4_171 : Cond.fieldLink "SkeletonClockModel" (361 : Nat) "SkeletonClockModel" "readParts" "I" ∈ GW := gw_4 (i := 171) rfl rfl
theorem gm_4_172 : Cond.fieldLink "SkeletonClockModel" (364 : Nat) "SkeletonClockModel" "readDay" "J" ∈ GW := gw_4 (i := 172) rfl rfl
theorem gm_4_173 : Cond.fieldLink "SkeletonClockModel" (367 : Nat) "SkeletonClockModel" "readSecond" "I" ∈ GW := gw_4 (i := 173) rfl rfl
theorem gm_4_174 : Cond.fieldLink "SkeletonClockModel" (370 : Nat) "SkeletonClockModel" "readNano" "I" ∈ GW := gw_4 (i := 174) rfl rfl
theorem gm_4_175 : Cond.fieldLink "SkeletonClockModel" (373 : Nat) "SkeletonClockModel" "readOffset" "I" ∈ GW := gw_4 (i := 175) rfl rfl
theorem gm_6_12 : Cond.code ({ cls := "SkeletonClockModel", name := "dayBy", desc := "(II)J" } : MethodName) prog_14_method_57_code (10 : Nat) (Option.some FieldType.long) ∈ GW := gw_6 (i := 12) rfl rfl
theorem gm_6_9 : Cond.methodLink "SkeletonClockModel" (349 : Nat) ({ cls := "SkeletonClockModel", name := "dayBy", desc := "(II)J" } : MethodName) ∈ GW := gw_6 (i := 9) rfl rfl
theorem gm_6_11 : Cond.instanceMethod ({ cls := "SkeletonClockModel", name := "dayBy", desc := "(II)J" } : MethodName) ∈ GW := gw_6 (i := 11) rfl rfl
theorem gm_p5_0 : Cond.selects "SkeletonClockModel" ⟨"SkeletonClockModel", "dayBy", "(II)J"⟩ ⟨"SkeletonClockModel", "dayBy", "(II)J"⟩ ∈ GW := gs_5 (i := 0) rfl
theorem gm_6_7 : Cond.code ({ cls := "SkeletonClockModel", name := "properTime", desc := "()Z" } : MethodName) prog_14_method_59_code (2 : Nat) (Option.some FieldType.boolean) ∈ GW := gw_6 (i := 7) rfl rfl
theorem gm_6_4 : Cond.methodLink "SkeletonClockModel" (346 : Nat) ({ cls := "SkeletonClockModel", name := "properTime", desc := "()Z" } : MethodName) ∈ GW := gw_6 (i := 4) rfl rfl
theorem gm_6_6 : Cond.instanceMethod ({ cls := "SkeletonClockModel", name := "properTime", desc := "()Z" } : MethodName) ∈ GW := gw_6 (i := 6) rfl rfl
theorem gm_p4_15 : Cond.selects "SkeletonClockModel" ⟨"SkeletonClockModel", "properTime", "()Z"⟩ ⟨"SkeletonClockModel", "properTime", "()Z"⟩ ∈ GW := gs_4 (i := 15) rfl
theorem gm_5_234 : Cond.code ({ cls := "SkeletonClockModel", name := "proper", desc := "(II)Z" } : MethodName) prog_14_method_56_code (3 : Nat) (Option.some FieldType.boolean) ∈ GW := gw_5 (i := 234) rfl rfl
theorem gm_5_231 : Cond.methodLink "SkeletonClockModel" (343 : Nat) ({ cls := "SkeletonClockModel", name := "proper", desc := "(II)Z" } : MethodName) ∈ GW := gw_5 (i := 231) rfl rfl
theorem gm_5_233 : Cond.instanceMethod ({ cls := "SkeletonClockModel", name := "proper", desc := "(II)Z" } : MethodName) ∈ GW := gw_5 (i := 233) rfl rfl
theorem gm_p4_13 : Cond.selects "SkeletonClockModel" ⟨"SkeletonClockModel", "proper", "(II)Z"⟩ ⟨"SkeletonClockModel", "proper", "(II)Z"⟩ ∈ GW := gs_4 (i := 13) rfl
theorem d_SkeletonClockModel_resolve_0 : decode b_SkeletonClockModel_resolve 0 = .ok (.aload_n 0, 1) := by decide +kernel
theorem d_SkeletonClockModel_resolve_1 : decode b_SkeletonClockModel_resolve 1 = .ok (.iconst 0, 1) := by decide +kernel
theorem d_SkeletonClockModel_resolve_2 : decode b_SkeletonClockModel_resolve 2 = .ok (.bipush 6, 2) := by decide +kernel
theorem d_SkeletonClockModel_resolve_4 : decode b_SkeletonClockModel_resolve 4 = .ok (.invokevirtual 337, 3) := by decide +kernel
theorem d_SkeletonClockModel_resolve_7 : decode b_SkeletonClockModel_resolve 7 = .ok (.istore_n 2, 1) := by decide +kernel
theorem d_SkeletonClockModel_resolve_8 : decode b_SkeletonClockModel_resolve 8 = .ok (.aload_n 0, 1) := by decide +kernel
theorem d_SkeletonClockModel_resolve_9 : decode b_SkeletonClockModel_resolve 9 = .ok (.bipush 7, 2) := by decide +kernel
theorem d_SkeletonClockModel_resolve_11 : decode b_SkeletonClockModel_resolve 11 = .ok (.bipush 12, 2) := by decide +kernel
theorem d_SkeletonClockModel_resolve_13 : decode b_SkeletonClockModel_resolve 13 = .ok (.invokevirtual 337, 3) := by decide +kernel
theorem d_SkeletonClockModel_resolve_16 : decode b_SkeletonClockModel_resolve 16 = .ok (.istore_n 3, 1) := by decide +kernel
theorem d_SkeletonClockModel_resolve_17 : decode b_SkeletonClockModel_resolve 17 = .ok (.iload_n 2, 1) := by decide +kernel
theorem d_SkeletonClockModel_resolve_18 : decode b_SkeletonClockModel_resolve 18 = .ok (.ifCond .ne 19, 3) := by decide +kernel
theorem d_SkeletonClockModel_resolve_21 : decode b_SkeletonClockModel_resolve 21 = .ok (.iload_n 3, 1) := by decide +kernel
theorem d_SkeletonClockModel_resolve_22 : decode b_SkeletonClockModel_resolve 22 = .ok (.ifCond .ne 15, 3) := by decide +kernel
theorem d_SkeletonClockModel_resolve_25 : decode b_SkeletonClockModel_resolve 25 = .ok (.aload_n 0, 1) := by decide +kernel
theorem d_SkeletonClockModel_resolve_26 : decode b_SkeletonClockModel_resolve 26 = .ok (.getfield 56, 3) := by decide +kernel
theorem d_SkeletonClockModel_resolve_29 : decode b_SkeletonClockModel_resolve 29 = .ok (.bipush 13, 2) := by decide +kernel
theorem d_SkeletonClockModel_resolve_31 : decode b_SkeletonClockModel_resolve 31 = .ok (.baload, 1) := by decide +kernel
theorem d_SkeletonClockModel_resolve_32 : decode b_SkeletonClockModel_resolve 32 = .ok (.ifCond .ne 5, 3) := by decide +kernel
theorem d_SkeletonClockModel_resolve_35 : decode b_SkeletonClockModel_resolve 35 = .ok (.iconst 0, 1) := by decide +kernel
theorem d_SkeletonClockModel_resolve_36 : decode b_SkeletonClockModel_resolve 36 = .ok (.ireturn, 1) := by decide +kernel
theorem d_SkeletonClockModel_resolve_37 : decode b_SkeletonClockModel_resolve 37 = .ok (.aload_n 0, 1) := by decide +kernel
theorem d_SkeletonClockModel_resolve_38 : decode b_SkeletonClockModel_resolve 38 = .ok (.invokevirtual 340, 3) := by decide +kernel
theorem d_SkeletonClockModel_resolve_41 : decode b_SkeletonClockModel_resolve 41 = .ok (.istore 4, 2) := by decide +kernel
theorem d_SkeletonClockModel_resolve_43 : decode b_SkeletonClockModel_resolve 43 = .ok (.iload_n 2, 1) := by decide +kernel
theorem d_SkeletonClockModel_resolve_44 : decode b_SkeletonClockModel_resolve 44 = .ok (.ifCond .eq 23, 3) := by decide +kernel
theorem d_SkeletonClockModel_resolve_47 : decode b_SkeletonClockModel_resolve 47 = .ok (.iload 4, 2) := by decide +kernel
theorem d_SkeletonClockModel_resolve_49 : decode b_SkeletonClockModel_resolve 49 = .ok (.ifCond .eq 34, 3) := by decide +kernel
theorem d_SkeletonClockModel_resolve_52 : decode b_SkeletonClockModel_resolve 52 = .ok (.iload_n 1, 1) := by decide +kernel
theorem d_SkeletonClockModel_resolve_53 : decode b_SkeletonClockModel_resolve 53 = .ok (.iconst 2, 1) := by decide +kernel
theorem d_SkeletonClockModel_resolve_54 : decode b_SkeletonClockModel_resolve 54 = .ok (.if_icmp .ge 13, 3) := by decide +kernel
theorem d_SkeletonClockModel_resolve_57 : decode b_SkeletonClockModel_resolve 57 = .ok (.aload_n 0, 1) := by decide +kernel
theorem d_SkeletonClockModel_resolve_58 : decode b_SkeletonClockModel_resolve 58 = .ok (.iload 4, 2) := by decide +kernel
theorem d_SkeletonClockModel_resolve_60 : decode b_SkeletonClockModel_resolve 60 = .ok (.iload_n 1, 1) := by decide +kernel
theorem d_SkeletonClockModel_resolve_61 : decode b_SkeletonClockModel_resolve 61 = .ok (.invokevirtual 343, 3) := by decide +kernel
theorem d_SkeletonClockModel_resolve_64 : decode b_SkeletonClockModel_resolve 64 = .ok (.ifCond .eq 19, 3) := by decide +kernel
theorem d_SkeletonClockModel_resolve_67 : decode b_SkeletonClockModel_resolve 67 = .ok (.iload_n 3, 1) := by decide +kernel
theorem d_SkeletonClockModel_resolve_68 : decode b_SkeletonClockModel_resolve 68 = .ok (.ifCond .eq 17, 3) := by decide +kernel
theorem d_SkeletonClockModel_resolve_71 : decode b_SkeletonClockModel_resolve 71 = .ok (.iload_n 1, 1) := by decide +kernel
theorem d_SkeletonClockModel_resolve_72 : decode b_SkeletonClockModel_resolve 72 = .ok (.iconst 2, 1) := by decide +kernel
theorem d_SkeletonClockModel_resolve_73 : decode b_SkeletonClockModel_resolve 73 = .ok (.if_icmp .ge 12, 3) := by decide +kernel
theorem d_SkeletonClockModel_resolve_76 : decode b_SkeletonClockModel_resolve 76 = .ok (.aload_n 0, 1) := by decide +kernel
theorem d_SkeletonClockModel_resolve_77 : decode b_SkeletonClockModel_resolve 77 = .ok (.invokevirtual 346, 3) := by decide +kernel
theorem d_SkeletonClockModel_resolve_80 : decode b_SkeletonClockModel_resolve 80 = .ok (.ifCond .ne 5, 3) := by decide +kernel
theorem d_SkeletonClockModel_resolve_83 : decode b_SkeletonClockModel_resolve 83 = .ok (.iconst 0, 1) := by decide +kernel
theorem d_SkeletonClockModel_resolve_84 : decode b_SkeletonClockModel_resolve 84 = .ok (.ireturn, 1) := by decide +kernel
theorem d_SkeletonClockModel_resolve_85 : decode b_SkeletonClockModel_resolve 85 = .ok (.iload_n 2, 1) := by decide +kernel
theorem d_SkeletonClockModel_resolve_86 : decode b_SkeletonClockModel_resolve 86 = .ok (.ifCond .eq 13, 3) := by decide +kernel
theorem d_SkeletonClockModel_resolve_89 : decode b_SkeletonClockModel_resolve 89 = .ok (.aload_n 0, 1) := by decide +kernel
theorem d_SkeletonClockModel_resolve_90 : decode b_SkeletonClockModel_resolve 90 = .ok (.iload 4, 2) := by decide +kernel
theorem d_SkeletonClockModel_resolve_92 : decode b_SkeletonClockModel_resolve 92 = .ok (.iload_n 1, 1) := by decide +kernel
theorem d_SkeletonClockModel_resolve_93 : decode b_SkeletonClockModel_resolve 93 = .ok (.invokevirtual 349, 3) := by decide +kernel
theorem d_SkeletonClockModel_resolve_96 : decode b_SkeletonClockModel_resolve 96 = .ok (.goto 4, 3) := by decide +kernel
theorem d_SkeletonClockModel_resolve_99 : decode b_SkeletonClockModel_resolve 99 = .ok (.lconst 0, 1) := by decide +kernel
theorem d_SkeletonClockModel_resolve_100 : decode b_SkeletonClockModel_resolve 100 = .ok (.lstore 5, 2) := by decide +kernel
theorem d_SkeletonClockModel_resolve_102 : decode b_SkeletonClockModel_resolve 102 = .ok (.ldc2_w 352, 3) := by decide +kernel
theorem d_SkeletonClockModel_resolve_105 : decode b_SkeletonClockModel_resolve 105 = .ok (.aload_n 0, 1) := by decide +kernel
theorem d_SkeletonClockModel_resolve_106 : decode b_SkeletonClockModel_resolve 106 = .ok (.invokevirtual 354, 3) := by decide +kernel
theorem d_SkeletonClockModel_resolve_109 : decode b_SkeletonClockModel_resolve 109 = .ok (.lmul, 1) := by decide +kernel
theorem d_SkeletonClockModel_resolve_110 : decode b_SkeletonClockModel_resolve 110 = .ok (.ldc2_w 225, 3) := by decide +kernel
theorem d_SkeletonClockModel_resolve_113 : decode b_SkeletonClockModel_resolve 113 = .ok (.aload_n 0, 1) := by decide +kernel
theorem d_SkeletonClockModel_resolve_114 : decode b_SkeletonClockModel_resolve 114 = .ok (.getfield 56, 3) := by decide +kernel
theorem d_SkeletonClockModel_resolve_117 : decode b_SkeletonClockModel_resolve 117 = .ok (.bipush 10, 2) := by decide +kernel
theorem d_SkeletonClockModel_resolve_119 : decode b_SkeletonClockModel_resolve 119 = .ok (.baload, 1) := by decide +kernel
theorem d_SkeletonClockModel_resolve_120 : decode b_SkeletonClockModel_resolve 120 = .ok (.ifCond .eq 13, 3) := by decide +kernel
theorem d_SkeletonClockModel_resolve_123 : decode b_SkeletonClockModel_resolve 123 = .ok (.aload_n 0, 1) := by decide +kernel
theorem d_SkeletonClockModel_resolve_124 : decode b_SkeletonClockModel_resolve 124 = .ok (.getfield 59, 3) := by decide +kernel
theorem d_SkeletonClockModel_resolve_127 : decode b_SkeletonClockModel_resolve 127 = .ok (.bipush 10, 2) := by decide +kernel
theorem d_SkeletonClockModel_resolve_129 : decode b_SkeletonClockModel_resolve 129 = .ok (.laload, 1) := by decide +kernel
theorem d_SkeletonClockModel_resolve_130 : decode b_SkeletonClockModel_resolve 130 = .ok (.goto 4, 3) := by decide +kernel
theorem d_SkeletonClockModel_resolve_133 : decode b_SkeletonClockModel_resolve 133 = .ok (.lconst 0, 1) := by decide +kernel
theorem d_SkeletonClockModel_resolve_134 : decode b_SkeletonClockModel_resolve 134 = .ok (.lmul, 1) := by decide +kernel
theorem d_SkeletonClockModel_resolve_135 : decode b_SkeletonClockModel_resolve 135 = .ok (.ladd, 1) := by decide +kernel
theorem d_SkeletonClockModel_resolve_136 : decode b_SkeletonClockModel_resolve 136 = .ok (.aload_n 0, 1) := by decide +kernel
theorem d_SkeletonClockModel_resolve_137 : decode b_SkeletonClockModel_resolve 137 = .ok (.getfield 56, 3) := by decide +kernel
theorem d_SkeletonClockModel_resolve_140 : decode b_SkeletonClockModel_resolve 140 = .ok (.bipush 11, 2) := by decide +kernel
theorem d_SkeletonClockModel_resolve_142 : decode b_SkeletonClockModel_resolve 142 = .ok (.baload, 1) := by decide +kernel
theorem d_SkeletonClockModel_resolve_143 : decode b_SkeletonClockModel_resolve 143 = .ok (.ifCond .eq 13, 3) := by decide +kernel
theorem d_SkeletonClockModel_resolve_146 : decode b_SkeletonClockModel_resolve 146 = .ok (.aload_n 0, 1) := by decide +kernel
theorem d_SkeletonClockModel_resolve_147 : decode b_SkeletonClockModel_resolve 147 = .ok (.getfield 59, 3) := by decide +kernel
theorem d_SkeletonClockModel_resolve_150 : decode b_SkeletonClockModel_resolve 150 = .ok (.bipush 11, 2) := by decide +kernel
theorem d_SkeletonClockModel_resolve_152 : decode b_SkeletonClockModel_resolve 152 = .ok (.laload, 1) := by decide +kernel
theorem d_SkeletonClockModel_resolve_153 : decode b_SkeletonClockModel_resolve 153 = .ok (.goto 4, 3) := by decide +kernel
theorem d_SkeletonClockModel_resolve_156 : decode b_SkeletonClockModel_resolve 156 = .ok (.lconst 0, 1) := by decide +kernel
theorem d_SkeletonClockModel_resolve_157 : decode b_SkeletonClockModel_resolve 157 = .ok (.ladd, 1) := by decide +kernel
theorem d_SkeletonClockModel_resolve_158 : decode b_SkeletonClockModel_resolve 158 = .ok (.lstore 7, 2) := by decide +kernel
theorem d_SkeletonClockModel_resolve_160 : decode b_SkeletonClockModel_resolve 160 = .ok (.iload_n 2, 1) := by decide +kernel
theorem d_SkeletonClockModel_resolve_161 : decode b_SkeletonClockModel_resolve 161 = .ok (.ifCond .eq 15, 3) := by decide +kernel
theorem d_SkeletonClockModel_resolve_164 : decode b_SkeletonClockModel_resolve 164 = .ok (.lload 5, 2) := by decide +kernel
theorem d_SkeletonClockModel_resolve_166 : decode b_SkeletonClockModel_resolve 166 = .ok (.lload 7, 2) := by decide +kernel
theorem d_SkeletonClockModel_resolve_168 : decode b_SkeletonClockModel_resolve 168 = .ok (.ldc2_w 227, 3) := by decide +kernel
theorem d_SkeletonClockModel_resolve_171 : decode b_SkeletonClockModel_resolve 171 = .ok (.ldiv, 1) := by decide +kernel
theorem d_SkeletonClockModel_resolve_172 : decode b_SkeletonClockModel_resolve 172 = .ok (.ladd, 1) := by decide +kernel
theorem d_SkeletonClockModel_resolve_173 : decode b_SkeletonClockModel_resolve 173 = .ok (.goto 4, 3) := by decide +kernel
theorem d_SkeletonClockModel_resolve_176 : decode b_SkeletonClockModel_resolve 176 = .ok (.lconst 0, 1) := by decide +kernel
theorem d_SkeletonClockModel_resolve_177 : decode b_SkeletonClockModel_resolve 177 = .ok (.lstore 5, 2) := by decide +kernel
theorem d_SkeletonClockModel_resolve_179 : decode b_SkeletonClockModel_resolve 179 = .ok (.lload 7, 2) := by decide +kernel
theorem d_SkeletonClockModel_resolve_181 : decode b_SkeletonClockModel_resolve 181 = .ok (.ldc2_w 227, 3) := by decide +kernel
theorem d_SkeletonClockModel_resolve_184 : decode b_SkeletonClockModel_resolve 184 = .ok (.lrem, 1) := by decide +kernel
theorem d_SkeletonClockModel_resolve_185 : decode b_SkeletonClockModel_resolve 185 = .ok (.l2i, 1) := by decide +kernel
theorem d_SkeletonClockModel_resolve_186 : decode b_SkeletonClockModel_resolve 186 = .ok (.istore 9, 2) := by decide +kernel
theorem d_SkeletonClockModel_resolve_188 : decode b_SkeletonClockModel_resolve 188 = .ok (.iconst 0, 1) := by decide +kernel
theorem d_SkeletonClockModel_resolve_189 : decode b_SkeletonClockModel_resolve 189 = .ok (.istore 10, 2) := by decide +kernel
theorem d_SkeletonClockModel_resolve_191 : decode b_SkeletonClockModel_resolve 191 = .ok (.iload 10, 2) := by decide +kernel
theorem d_SkeletonClockModel_resolve_193 : decode b_SkeletonClockModel_resolve 193 = .ok (.bipush 6, 2) := by decide +kernel
theorem d_SkeletonClockModel_resolve_195 : decode b_SkeletonClockModel_resolve 195 = .ok (.if_icmp .gt 49, 3) := by decide +kernel
theorem d_SkeletonClockModel_resolve_198 : decode b_SkeletonClockModel_resolve 198 = .ok (.aload_n 0, 1) := by decide +kernel
theorem d_SkeletonClockModel_resolve_199 : decode b_SkeletonClockModel_resolve 199 = .ok (.getfield 56, 3) := by decide +kernel
theorem d_SkeletonClockModel_resolve_202 : decode b_SkeletonClockModel_resolve 202 = .ok (.iload 10, 2) := by decide +kernel
theorem d_SkeletonClockModel_resolve_204 : decode b_SkeletonClockModel_resolve 204 = .ok (.baload, 1) := by decide +kernel
theorem d_SkeletonClockModel_resolve_205 : decode b_SkeletonClockModel_resolve 205 = .ok (.ifCond .eq 33, 3) := by decide +kernel
theorem d_SkeletonClockModel_resolve_208 : decode b_SkeletonClockModel_resolve 208 = .ok (.iload 4, 2) := by decide +kernel
theorem d_SkeletonClockModel_resolve_210 : decode b_SkeletonClockModel_resolve 210 = .ok (.iload 10, 2) := by decide +kernel
theorem d_SkeletonClockModel_resolve_212 : decode b_SkeletonClockModel_resolve 212 = .ok (.invokestatic 358, 3) := by decide +kernel
theorem d_SkeletonClockModel_resolve_215 : decode b_SkeletonClockModel_resolve 215 = .ok (.ifCond .ne 23, 3) := by decide +kernel
theorem d_SkeletonClockModel_resolve_218 : decode b_SkeletonClockModel_resolve 218 = .ok (.aload_n 0, 1) := by decide +kernel
theorem d_SkeletonClockModel_resolve_219 : decode b_SkeletonClockModel_resolve 219 = .ok (.getfield 59, 3) := by decide +kernel
theorem d_SkeletonClockModel_resolve_222 : decode b_SkeletonClockModel_resolve 222 = .ok (.iload 10, 2) := by decide +kernel
theorem d_SkeletonClockModel_resolve_224 : decode b_SkeletonClockModel_resolve 224 = .ok (.laload, 1) := by decide +kernel
theorem d_SkeletonClockModel_resolve_225 : decode b_SkeletonClockModel_resolve 225 = .ok (.lload 5, 2) := by decide +kernel
theorem d_SkeletonClockModel_resolve_227 : decode b_SkeletonClockModel_resolve 227 = .ok (.iload 10, 2) := by decide +kernel
theorem d_SkeletonClockModel_resolve_229 : decode b_SkeletonClockModel_resolve 229 = .ok (.invokestatic 161, 3) := by decide +kernel
theorem d_SkeletonClockModel_resolve_232 : decode b_SkeletonClockModel_resolve 232 = .ok (.lcmp, 1) := by decide +kernel
theorem d_SkeletonClockModel_resolve_233 : decode b_SkeletonClockModel_resolve 233 = .ok (.ifCond .eq 5, 3) := by decide +kernel
theorem d_SkeletonClockModel_resolve_236 : decode b_SkeletonClockModel_resolve 236 = .ok (.iconst 0, 1) := by decide +kernel
theorem d_SkeletonClockModel_resolve_237 : decode b_SkeletonClockModel_resolve 237 = .ok (.ireturn, 1) := by decide +kernel
theorem d_SkeletonClockModel_resolve_238 : decode b_SkeletonClockModel_resolve 238 = .ok (.iinc 10 1, 3) := by decide +kernel
theorem d_SkeletonClockModel_resolve_241 : decode b_SkeletonClockModel_resolve 241 = .ok (.goto (-50), 3) := by decide +kernel
theorem d_SkeletonClockModel_resolve_244 : decode b_SkeletonClockModel_resolve 244 = .ok (.aload_n 0, 1) := by decide +kernel
theorem d_SkeletonClockModel_resolve_245 : decode b_SkeletonClockModel_resolve 245 = .ok (.getfield 56, 3) := by decide +kernel
theorem d_SkeletonClockModel_resolve_248 : decode b_SkeletonClockModel_resolve 248 = .ok (.bipush 7, 2) := by decide +kernel
theorem d_SkeletonClockModel_resolve_250 : decode b_SkeletonClockModel_resolve 250 = .ok (.baload, 1) := by decide +kernel
theorem d_SkeletonClockModel_resolve_251 : decode b_SkeletonClockModel_resolve 251 = .ok (.ifCond .ne 27, 3) := by decide +kernel
theorem d_SkeletonClockModel_resolve_254 : decode b_SkeletonClockModel_resolve 254 = .ok (.aload_n 0, 1) := by decide +kernel
theorem d_SkeletonClockModel_resolve_255 : decode b_SkeletonClockModel_resolve 255 = .ok (.getfield 56, 3) := by decide +kernel
theorem d_SkeletonClockModel_resolve_258 : decode b_SkeletonClockModel_resolve 258 = .ok (.bipush 8, 2) := by decide +kernel
theorem d_SkeletonClockModel_resolve_260 : decode b_SkeletonClockModel_resolve 260 = .ok (.baload, 1) := by decide +kernel
theorem d_SkeletonClockModel_resolve_261 : decode b_SkeletonClockModel_resolve 261 = .ok (.ifCond .eq 17, 3) := by decide +kernel
theorem d_SkeletonClockModel_resolve_264 : decode b_SkeletonClockModel_resolve 264 = .ok (.aload_n 0, 1) := by decide +kernel
theorem d_SkeletonClockModel_resolve_265 : decode b_SkeletonClockModel_resolve 265 = .ok (.getfield 56, 3) := by decide +kernel
theorem d_SkeletonClockModel_resolve_268 : decode b_SkeletonClockModel_resolve 268 = .ok (.bipush 9, 2) := by decide +kernel
theorem d_SkeletonClockModel_resolve_270 : decode b_SkeletonClockModel_resolve 270 = .ok (.baload, 1) := by decide +kernel
theorem d_SkeletonClockModel_resolve_271 : decode b_SkeletonClockModel_resolve 271 = .ok (.ifCond .eq 7, 3) := by decide +kernel
theorem d_SkeletonClockModel_resolve_274 : decode b_SkeletonClockModel_resolve 274 = .ok (.iconst 1, 1) := by decide +kernel
theorem d_SkeletonClockModel_resolve_275 : decode b_SkeletonClockModel_resolve 275 = .ok (.goto 4, 3) := by decide +kernel
theorem d_SkeletonClockModel_resolve_278 : decode b_SkeletonClockModel_resolve 278 = .ok (.iconst 0, 1) := by decide +kernel
theorem d_SkeletonClockModel_resolve_279 : decode b_SkeletonClockModel_resolve 279 = .ok (.istore 10, 2) := by decide +kernel
theorem d_SkeletonClockModel_resolve_281 : decode b_SkeletonClockModel_resolve 281 = .ok (.bipush 8, 2) := by decide +kernel
theorem d_SkeletonClockModel_resolve_283 : decode b_SkeletonClockModel_resolve 283 = .ok (.istore 11, 2) := by decide +kernel
theorem d_SkeletonClockModel_resolve_285 : decode b_SkeletonClockModel_resolve 285 = .ok (.iload 11, 2) := by decide +kernel
theorem d_SkeletonClockModel_resolve_287 : decode b_SkeletonClockModel_resolve 287 = .ok (.bipush 9, 2) := by decide +kernel
theorem d_SkeletonClockModel_resolve_289 : decode b_SkeletonClockModel_resolve 289 = .ok (.if_icmp .gt 45, 3) := by decide +kernel
theorem d_SkeletonClockModel_resolve_292 : decode b_SkeletonClockModel_resolve 292 = .ok (.aload_n 0, 1) := by decide +kernel
theorem d_SkeletonClockModel_resolve_293 : decode b_SkeletonClockModel_resolve 293 = .ok (.getfield 56, 3) := by decide +kernel
theorem d_SkeletonClockModel_resolve_296 : decode b_SkeletonClockModel_resolve 296 = .ok (.iload 11, 2) := by decide +kernel
theorem d_SkeletonClockModel_resolve_298 : decode b_SkeletonClockModel_resolve 298 = .ok (.baload, 1) := by decide +kernel
theorem d_SkeletonClockModel_resolve_299 : decode b_SkeletonClockModel_resolve 299 = .ok (.ifCond .eq 29, 3) := by decide +kernel
theorem d_SkeletonClockModel_resolve_302 : decode b_SkeletonClockModel_resolve 302 = .ok (.iload 10, 2) := by decide +kernel
theorem d_SkeletonClockModel_resolve_304 : decode b_SkeletonClockModel_resolve 304 = .ok (.ifCond .ne 24, 3) := by decide +kernel
theorem d_SkeletonClockModel_resolve_307 : decode b_SkeletonClockModel_resolve 307 = .ok (.aload_n 0, 1) := by decide +kernel
theorem d_SkeletonClockModel_resolve_308 : decode b_SkeletonClockModel_resolve 308 = .ok (.getfield 59, 3) := by decide +kernel
theorem d_SkeletonClockModel_resolve_311 : decode b_SkeletonClockModel_resolve 311 = .ok (.iload 11, 2) := by decide +kernel
theorem d_SkeletonClockModel_resolve_313 : decode b_SkeletonClockModel_resolve 313 = .ok (.laload, 1) := by decide +kernel
theorem d_SkeletonClockModel_resolve_314 : decode b_SkeletonClockModel_resolve 314 = .ok (.iload 9, 2) := by decide +kernel
theorem d_SkeletonClockModel_resolve_316 : decode b_SkeletonClockModel_resolve 316 = .ok (.iload 11, 2) := by decide +kernel
theorem d_SkeletonClockModel_resolve_318 : decode b_SkeletonClockModel_resolve 318 = .ok (.invokestatic 173, 3) := by decide +kernel
theorem d_SkeletonClockModel_resolve_321 : decode b_SkeletonClockModel_resolve 321 = .ok (.i2l, 1) := by decide +kernel
theorem d_SkeletonClockModel_resolve_322 : decode b_SkeletonClockModel_resolve 322 = .ok (.lcmp, 1) := by decide +kernel
theorem d_SkeletonClockModel_resolve_323 : decode b_SkeletonClockModel_resolve 323 = .ok (.ifCond .eq 5, 3) := by decide +kernel
theorem d_SkeletonClockModel_resolve_326 : decode b_SkeletonClockModel_resolve 326 = .ok (.iconst 0, 1) := by decide +kernel
theorem d_SkeletonClockModel_resolve_327 : decode b_SkeletonClockModel_resolve 327 = .ok (.ireturn, 1) := by decide +kernel
theorem d_SkeletonClockModel_resolve_328 : decode b_SkeletonClockModel_resolve 328 = .ok (.iinc 11 1, 3) := by decide +kernel
theorem d_SkeletonClockModel_resolve_331 : decode b_SkeletonClockModel_resolve 331 = .ok (.goto (-46), 3) := by decide +kernel
theorem d_SkeletonClockModel_resolve_334 : decode b_SkeletonClockModel_resolve 334 = .ok (.aload_n 0, 1) := by decide +kernel
theorem d_SkeletonClockModel_resolve_335 : decode b_SkeletonClockModel_resolve 335 = .ok (.iload_n 2, 1) := by decide +kernel
theorem d_SkeletonClockModel_resolve_336 : decode b_SkeletonClockModel_resolve 336 = .ok (.ifCond .eq 7, 3) := by decide +kernel
theorem d_SkeletonClockModel_resolve_339 : decode b_SkeletonClockModel_resolve 339 = .ok (.iconst 1, 1) := by decide +kernel
theorem d_SkeletonClockModel_resolve_340 : decode b_SkeletonClockModel_resolve 340 = .ok (.goto 4, 3) := by decide +kernel
theorem d_SkeletonClockModel_resolve_343 : decode b_SkeletonClockModel_resolve 343 = .ok (.iconst 0, 1) := by decide +kernel
theorem d_SkeletonClockModel_resolve_344 : decode b_SkeletonClockModel_resolve 344 = .ok (.iload_n 3, 1) := by decide +kernel
theorem d_SkeletonClockModel_resolve_345 : decode b_SkeletonClockModel_resolve 345 = .ok (.ifCond .eq 7, 3) := by decide +kernel
theorem d_SkeletonClockModel_resolve_348 : decode b_SkeletonClockModel_resolve 348 = .ok (.iconst 2, 1) := by decide +kernel
theorem d_SkeletonClockModel_resolve_349 : decode b_SkeletonClockModel_resolve 349 = .ok (.goto 4, 3) := by decide +kernel
theorem d_SkeletonClockModel_resolve_352 : decode b_SkeletonClockModel_resolve 352 = .ok (.iconst 0, 1) := by decide +kernel
theorem d_SkeletonClockModel_resolve_353 : decode b_SkeletonClockModel_resolve 353 = .ok (.iadd, 1) := by decide +kernel
theorem d_SkeletonClockModel_resolve_354 : decode b_SkeletonClockModel_resolve 354 = .ok (.aload_n 0, 1) := by decide +kernel
theorem d_SkeletonClockModel_resolve_355 : decode b_SkeletonClockModel_resolve 355 = .ok (.getfield 56, 3) := by decide +kernel
theorem d_SkeletonClockModel_resolve_358 : decode b_SkeletonClockModel_resolve 358 = .ok (.bipush 13, 2) := by decide +kernel
theorem d_SkeletonClockModel_resolve_360 : decode b_SkeletonClockModel_resolve 360 = .ok (.baload, 1) := by decide +kernel
theorem d_SkeletonClockModel_resolve_361 : decode b_SkeletonClockModel_resolve 361 = .ok (.ifCond .eq 7, 3) := by decide +kernel
theorem d_SkeletonClockModel_resolve_364 : decode b_SkeletonClockModel_resolve 364 = .ok (.iconst 4, 1) := by decide +kernel
theorem d_SkeletonClockModel_resolve_365 : decode b_SkeletonClockModel_resolve 365 = .ok (.goto 4, 3) := by decide +kernel
theorem d_SkeletonClockModel_resolve_368 : decode b_SkeletonClockModel_resolve 368 = .ok (.iconst 0, 1) := by decide +kernel
theorem d_SkeletonClockModel_resolve_369 : decode b_SkeletonClockModel_resolve 369 = .ok (.iadd, 1) := by decide +kernel
theorem d_SkeletonClockModel_resolve_370 : decode b_SkeletonClockModel_resolve 370 = .ok (.putfield 361, 3) := by decide +kernel
theorem d_SkeletonClockModel_resolve_373 : decode b_SkeletonClockModel_resolve 373 = .ok (.aload_n 0, 1) := by decide +kernel
theorem d_SkeletonClockModel_resolve_374 : decode b_SkeletonClockModel_resolve 374 = .ok (.lload 5, 2) := by decide +kernel
theorem d_SkeletonClockModel_resolve_376 : decode b_SkeletonClockModel_resolve 376 = .ok (.putfield 364, 3) := by decide +kernel
theorem d_SkeletonClockModel_resolve_379 : decode b_SkeletonClockModel_resolve 379 = .ok (.aload_n 0, 1) := by decide +kernel
theorem d_SkeletonClockModel_resolve_380 : decode b_SkeletonClockModel_resolve 380 = .ok (.iload 9, 2) := by decide +kernel
theorem d_SkeletonClockModel_resolve_382 : decode b_SkeletonClockModel_resolve 382 = .ok (.putfield 367, 3) := by decide +kernel
theorem d_SkeletonClockModel_resolve_385 : decode b_SkeletonClockModel_resolve 385 = .ok (.aload_n 0, 1) := by decide +kernel
theorem d_SkeletonClockModel_resolve_386 : decode b_SkeletonClockModel_resolve 386 = .ok (.aload_n 0, 1) := by decide +kernel
theorem d_SkeletonClockModel_resolve_387 : decode b_SkeletonClockModel_resolve 387 = .ok (.getfield 56, 3) := by decide +kernel
theorem d_SkeletonClockModel_resolve_390 : decode b_SkeletonClockModel_resolve 390 = .ok (.bipush 12, 2) := by decide +kernel
theorem d_SkeletonClockModel_resolve_392 : decode b_SkeletonClockModel_resolve 392 = .ok (.baload, 1) := by decide +kernel
theorem d_SkeletonClockModel_resolve_393 : decode b_SkeletonClockModel_resolve 393 = .ok (.ifCond .eq 14, 3) := by decide +kernel
theorem d_SkeletonClockModel_resolve_396 : decode b_SkeletonClockModel_resolve 396 = .ok (.aload_n 0, 1) := by decide +kernel
theorem d_SkeletonClockModel_resolve_397 : decode b_SkeletonClockModel_resolve 397 = .ok (.getfield 59, 3) := by decide +kernel
theorem d_SkeletonClockModel_resolve_400 : decode b_SkeletonClockModel_resolve 400 = .ok (.bipush 12, 2) := by decide +kernel
theorem d_SkeletonClockModel_resolve_402 : decode b_SkeletonClockModel_resolve 402 = .ok (.laload, 1) := by decide +kernel
theorem d_SkeletonClockModel_resolve_403 : decode b_SkeletonClockModel_resolve 403 = .ok (.l2i, 1) := by decide +kernel
theorem d_SkeletonClockModel_resolve_404 : decode b_SkeletonClockModel_resolve 404 = .ok (.goto 4, 3) := by decide +kernel
theorem d_SkeletonClockModel_resolve_407 : decode b_SkeletonClockModel_resolve 407 = .ok (.iconst 0, 1) := by decide +kernel
theorem d_SkeletonClockModel_resolve_408 : decode b_SkeletonClockModel_resolve 408 = .ok (.putfield 370, 3) := by decide +kernel
theorem d_SkeletonClockModel_resolve_411 : decode b_SkeletonClockModel_resolve 411 = .ok (.aload_n 0, 1) := by decide +kernel
theorem d_SkeletonClockModel_resolve_412 : decode b_SkeletonClockModel_resolve 412 = .ok (.aload_n 0, 1) := by decide +kernel
theorem d_SkeletonClockModel_resolve_413 : decode b_SkeletonClockModel_resolve 413 = .ok (.getfield 56, 3) := by decide +kernel
theorem d_SkeletonClockModel_resolve_416 : decode b_SkeletonClockModel_resolve 416 = .ok (.bipush 13, 2) := by decide +kernel
theorem d_SkeletonClockModel_resolve_418 : decode b_SkeletonClockModel_resolve 418 = .ok (.baload, 1) := by decide +kernel
theorem d_SkeletonClockModel_resolve_419 : decode b_SkeletonClockModel_resolve 419 = .ok (.ifCond .eq 14, 3) := by decide +kernel
theorem d_SkeletonClockModel_resolve_422 : decode b_SkeletonClockModel_resolve 422 = .ok (.aload_n 0, 1) := by decide +kernel
theorem d_SkeletonClockModel_resolve_423 : decode b_SkeletonClockModel_resolve 423 = .ok (.getfield 59, 3) := by decide +kernel
theorem d_SkeletonClockModel_resolve_426 : decode b_SkeletonClockModel_resolve 426 = .ok (.bipush 13, 2) := by decide +kernel
theorem d_SkeletonClockModel_resolve_428 : decode b_SkeletonClockModel_resolve 428 = .ok (.laload, 1) := by decide +kernel
theorem d_SkeletonClockModel_resolve_429 : decode b_SkeletonClockModel_resolve 429 = .ok (.l2i, 1) := by decide +kernel
theorem d_SkeletonClockModel_resolve_430 : decode b_SkeletonClockModel_resolve 430 = .ok (.goto 4, 3) := by decide +kernel
theorem d_SkeletonClockModel_resolve_433 : decode b_SkeletonClockModel_resolve 433 = .ok (.iconst 0, 1) := by decide +kernel
theorem d_SkeletonClockModel_resolve_434 : decode b_SkeletonClockModel_resolve 434 = .ok (.putfield 373, 3) := by decide +kernel
theorem d_SkeletonClockModel_resolve_437 : decode b_SkeletonClockModel_resolve 437 = .ok (.iconst 1, 1) := by decide +kernel
theorem d_SkeletonClockModel_resolve_438 : decode b_SkeletonClockModel_resolve 438 = .ok (.ireturn, 1) := by decide +kernel
abbrev rm_SkeletonClockModel_resolve : Room := { frames := 6, cells := 0, slots := 0, locals := 143 }
set_option maxHeartbeats 4000000 in
set_option maxRecDepth 100000 in
theorem w_SkeletonClockModel_resolve_191 {p : Program} {l : Launch} {e : Env} {s : State} {m : MethodId} {args : Array Value} {below : List Frame} {meth : Method} {c : Code} {Q : State → Prop} {A : Nat → Prop} {D : va_G} {kk : Nat → ClassId} {st : Nat → Nat} (a_t a_t_known a_t_value a_t_text a_t_page a_t_names a_t_sort a_t_code a_t_count a_t_around a_t_end a_t_size a_t_there a_t_wish a_t_have a_t_before a_t_open a_t_from : Nat) (t_length : Int32) (t_used : Int32) (t_far : Int32) (t_momentParts : Int32) (t_momentDay : Int64) (t_momentSecond : Int32) (t_momentNano : Int32) (t_momentOffset : Int32) (t_readParts : Int32) (t_readDay : Int64) (t_readSecond : Int32) (t_readNano : Int32) (t_readOffset : Int32) (t_alike : Int32) (t_known : Nat → Int32) (t_value : Nat → Int64) (x2 : Int32) (x3 : Int32) (x4 : Int32) (x5 : Int64) (x9 : Int32) (S : CallFix p m c b_SkeletonClockModel_resolve 12 s args GW y_SkeletonClockModel_resolve.cls) (hr : meth.sig.returnType = (some .boolean)) (hlk : meth.locks = false) (hA : ∀ q, s.heap.size ≤ q → A q) (X : KX D kk st A s) : ∀ (n : Nat) (x10 : Int32) (v : (Int32 × Int32 × Int64 × Int32 × Int32 × Int32) ⊕ (Int32)) (H : Heap) (locs : List Loc) (ls : Array Slot), lp_SkeletonClockModel_resolve_191 t_readParts t_readDay t_readSecond t_readNano t_readOffset t_known t_value x2 x3 x4 x5 x9 n x10 = some v → lv_has ls 12 [(0, .ref a_t), (2, .int x2), (3, .int x3), (4, .int x4), (5, .long x5), (9, .int x9), (10, .int x10)] → va_P D classes [(a_t, .inr (10, [.int t_length, .ref a_t_text, .int t_used, .ref a_t_page, .ref a_t_names, .ref a_t_sort, .ref a_t_code, .ref a_t_count, .ref a_t_around, .ref a_t_end, .ref a_t_size, .ref a_t_there, .ref a_t_wish, .ref a_t_have, .int t_far, .int t_momentParts, .long t_momentDay, .int t_momentSecond, .int t_momentNano, .int t_momentOffset, .int t_readParts, .long t_readDay, .int t_readSecond, .int t_readNano, .int t_readOffset, .ref a_t_known, .ref a_t_value, .ref a_t_before, .ref a_t_open, .ref a_t_from, .int t_alike])), (a_t_known, .inl (kk 2, 14, .inl t_known)), (a_t_value, .inl (kk 3, 14, .inr (.inl t_value)))] H → va_D A [(a_t, .inr (10, [.int t_length, .ref a_t_text, .int t_used, .ref a_t_page, .ref a_t_names, .ref a_t_sort, .ref a_t_code, .ref a_t_count, .ref a_t_around, .ref a_t_end, .ref a_t_size, .ref a_t_there, .ref a_t_wish, .ref a_t_have, .int t_far, .int t_momentParts, .long t_momentDay, .int t_momentSecond, .int t_momentNano, .int t_momentOffset, .int t_readParts, .long t_readDay, .int t_readSecond, .int t_readNano, .int t_readOffset, .ref a_t_known, .ref a_t_value, .ref a_t_before, .ref a_t_open, .ref a_t_from, .int t_alike])), (a_t_known, .inl (kk 2, 14, .inl t_known)), (a_t_value, .inl (kk 3, 14, .inr (.inl t_value)))] → va_S A s.heap H locs → (∀ o : Int32 × Int32 × Int64 × Int32 × Int32 × Int32, v = .inl o → Q = MQ below (KQi D kk o.1 [(a_t, .inr (10, [.int t_length, .ref a_t_text, .int t_used, .ref a_t_page, .ref a_t_names, .ref a_t_sort, .ref a_t_code, .ref a_t_count, .ref a_t_around, .ref a_t_end, .ref a_t_size, .ref a_t_there, .ref a_t_wish, .ref a_t_have, .int t_far, .int t_momentParts, .long t_momentDay, .int t_momentSecond, .int t_momentNano, .int t_momentOffset, .int o.2.1, .long o.2.2.1, .int o.2.2.2.1, .int o.2.2.2.2.1, .int o.2.2.2.2.2, .ref a_t_known, .ref a_t_value, .ref a_t_before, .ref a_t_open, .ref a_t_from, .int t_alike])), (a_t_known, .inl (kk 2, 14, .inl t_known)), (a_t_value, .inl (kk 3, 14, .inr (.inl t_value)))] A) args s 0 0 A) → (∀ v' : Int32, v = .inr v' → ∀ (H : Heap) (locs : List Loc) (ls : Array Slot), lv_has ls 12 [(0, .ref a_t), (2, .int x2), (3, .int x3), (4, .int x4), (5, .long x5), (9, .int x9), (10, .int v')] → va_P D classes [(a_t, .inr (10, [.int t_length, .ref a_t_text, .int t_used, .ref a_t_page, .ref a_t_names, .ref a_t_sort, .ref a_t_code, .ref a_t_count, .ref a_t_around, .ref a_t_end, .ref a_t_size, .ref a_t_there, .ref a_t_wish, .ref a_t_have, .int t_far, .int t_momentParts, .long t_momentDay, .int t_momentSecond, .int t_momentNano, .int t_momentOffset, .int t_readParts, .long t_readDay, .int t_readSecond, .int t_readNano, .int t_readOffset, .ref a_t_known, .ref a_t_value, .ref a_t_before, .ref a_t_open, .ref a_t_from, .int t_alike])), (a_t_known, .inl (kk 2, 14, .inl t_known)), (a_t_value, .inl (kk 3, 14, .inr (.inl t_value)))] H → va_D A [(a_t, .inr (10, [.int t_length, .ref a_t_text, .int t_used, .ref a_t_page, .ref a_t_names, .ref a_t_sort, .ref a_t_code, .ref a_t_count, .ref a_t_around, .ref a_t_end, .ref a_t_size, .ref a_t_there, .ref a_t_wish, .ref a_t_have, .int t_far, .int t_momentParts, .long t_momentDay, .int t_momentSecond, .int t_momentNano, .int t_momentOffset, .int t_readParts, .long t_readDay, .int t_readSecond, .int t_readNano, .int t_readOffset, .ref a_t_known, .ref a_t_value, .ref a_t_before, .ref a_t_open, .ref a_t_from, .int t_alike])), (a_t_known, .inl (kk 2, 14, .inl t_known)), (a_t_value, .inl (kk 3, 14, .inr (.inl t_value)))] → va_S A s.heap H locs → W p l e rm_SkeletonClockModel_resolve s m args below meth c H locs 0 0 Q (F0 m 244 ls [])) → W p l e rm_SkeletonClockModel_resolve s m args below meth c H locs 0 0 Q (F0 m 191 ls []) := by
  intro n
  induction n with
  | zero =>
    intro x10 v H locs ls he hl hP hD hS hret K
    exact ih_n he
  | succ n ih =>
    intro x10 v H locs ls he hl hP hD hS hret K
    have hx := S.1
    have hb := S.2.1
    have he : st_SkeletonClockModel_resolve_191 t_readParts t_readDay t_readSecond t_readNano t_readOffset t_known t_value x2 x3 x4 x5 x9 (lp_SkeletonClockModel_resolve_191 t_readParts t_readDay t_readSecond t_readNano t_readOffset t_known t_value x2 x3 x4 x5 x9 n) x10 = some v := he
    unfold st_SkeletonClockModel_resolve_191 at he
    refine lv_iload hx hb d_SkeletonClockModel_resolve_191 (lv_at hl 6 rfl) ?_
    refine lv_bipush (v := (6 : Int32)) hx hb d_SkeletonClockModel_resolve_193 (by decide) ?_
    refine lv_icmp_gt (tgt := 244) hx hb d_SkeletonClockModel_resolve_195 rfl (fun hc => ?_) (fun hc => ?_)
    · have he := ih_t hc he
      have hl : lv_has ls 12 [(0, .ref a_t), (2, .int x2), (3, .int x3), (4, .int x4), (5, .long x5), (9, .int x9), (10, .int x10)] := lv_sub hl [0, 1, 2, 3, 4, 5, 6] rfl
      cases he
      exact K _ rfl _ _ _ hl hP hD hS
    · have he := ih_f hc he
      refine lv_aload_n hx hb d_SkeletonClockModel_resolve_198 rfl (lv_at hl 0 rfl) ?_
      refine k_get S X us_SkeletonClockModel hP 0 rfl rfl 25 (by decide) gm_4_176 rfl d_SkeletonClockModel_resolve_199 ?_
      refine lv_iload hx hb d_SkeletonClockModel_resolve_202 (lv_at hl 6 rfl) ?_
      obtain ⟨hi9, he⟩ := ih_g he
      refine va_zald hx hb X.1 hP 1 2 rfl rfl hi9 d_SkeletonClockModel_resolve_204 ?_
      refine lv_if_eq (tgt := 238) hx hb d_SkeletonClockModel_resolve_205 rfl (fun hc => ?_) (fun hc => ?_)
      · have he := ih_t hc he
        refine lv_iinc (k := 6) hx hb d_SkeletonClockModel_resolve_238 hl rfl (ii_ (v := (1 : Int32)) (by decide)) (by decide) rfl (fun ls hl => ?_)
        have hl : lv_has ls 12 [(10, .int (x10 + (1 : Int32))), (0, .ref a_t), (2, .int x2), (3, .int x3), (4, .int x4), (5, .long x5), (9, .int x9)] := hl
        refine lv_goto (tgt := 191) hx hb d_SkeletonClockModel_resolve_241 rfl ?_
        have hl : lv_has ls 12 [(0, .ref a_t), (2, .int x2), (3, .int x3), (4, .int x4), (5, .long x5), (9, .int x9), (10, .int (x10 + (1 : Int32)))] := lv_sub hl [1, 2, 3, 4, 5, 6, 0] rfl
        exact ih _ _ _ _ _ he hl hP hD hS hret K
      · have he := ih_f hc he
        refine lv_iload hx hb d_SkeletonClockModel_resolve_208 (lv_at hl 3 rfl) ?_
        refine lv_iload hx hb d_SkeletonClockModel_resolve_210 (lv_at hl 6 rfl) ?_
        obtain ⟨u10, e11, he⟩ := ih_b he
        refine k_io (r_S (As := [.int x4, .int x10]) S X hA hP hD hS (c_SkeletonClockModel_usedBy l D kk st _ x4 x10 u10 e11) gm_6_20 gm_6_18 gm_6_19 gm_1_13 ⟨rfl, rfl, by decide, by decide⟩ kd_SkeletonClockModel_usedBy [] rfl rfl rfl rfl hl.1 rfl (Nat.le_of_ble_eq_true rfl) d_SkeletonClockModel_resolve_212 ⟨Nat.zero_le _, Nat.zero_le _⟩) hA hP hD hS [] rfl (fun H locs hP hS => ?_)
        refine lv_if_ne (tgt := 238) hx hb d_SkeletonClockModel_resolve_215 rfl (fun hc => ?_) (fun hc => ?_)
        · have he := ih_f hc he
          refine lv_iinc (k := 6) hx hb d_SkeletonClockModel_resolve_238 hl rfl (ii_ (v := (1 : Int32)) (by decide)) (by decide) rfl (fun ls hl => ?_)
          have hl : lv_has ls 12 [(10, .int (x10 + (1 : Int32))), (0, .ref a_t), (2, .int x2), (3, .int x3), (4, .int x4), (5, .long x5), (9, .int x9)] := hl
          refine lv_goto (tgt := 191) hx hb d_SkeletonClockModel_resolve_241 rfl ?_
          have hl : lv_has ls 12 [(0, .ref a_t), (2, .int x2), (3, .int x3), (4, .int x4), (5, .long x5), (9, .int x9), (10, .int (x10 + (1 : Int32)))] := lv_sub hl [1, 2, 3, 4, 5, 6, 0] rfl
          exact ih _ _ _ _ _ he hl hP hD hS hret K
        · have he := ih_t hc he
          refine lv_aload_n hx hb d_SkeletonClockModel_resolve_218 rfl (lv_at hl 0 rfl) ?_
          refine k_get S X us_SkeletonClockModel hP 0 rfl rfl 26 (by decide) gm_4_177 rfl d_SkeletonClockModel_resolve_219 ?_
          refine lv_iload hx hb d_SkeletonClockModel_resolve_222 (lv_at hl 6 rfl) ?_
          obtain ⟨hi12, he⟩ := ih_g he
          refine va_lald hx hb X.1 hP 2 3 rfl rfl hi12 d_SkeletonClockModel_resolve_224 ?_
          refine lv_lload hx hb d_SkeletonClockModel_resolve_225 (lv_at hl 4 rfl) ?_
          refine lv_iload hx hb d_SkeletonClockModel_resolve_227 (lv_at hl 6 rfl) ?_
          obtain ⟨u13, e14, he⟩ := ih_b he
          refine k_lo (r_S (As := [.long x5, .int x10]) S X hA hP hD hS (c_SkeletonClockModel_dateField l D kk st _ x5 x10 u13 e14) gm_5_102 gm_5_100 gm_5_101 gm_1_13 ⟨rfl, rfl, by decide, by decide⟩ kd_SkeletonClockModel_dateField [] rfl rfl rfl rfl hl.1 rfl (Nat.le_of_ble_eq_true rfl) d_SkeletonClockModel_resolve_229 ⟨Nat.zero_le _, Nat.zero_le _⟩) hA hP hD hS [] rfl (fun H locs hP hS => ?_)
          refine lq_eq (tgt := 238) hx hb d_SkeletonClockModel_resolve_232 d_SkeletonClockModel_resolve_233 rfl (fun hc => ?_) (fun hc => ?_)
          · have he := ih_t hc he
            refine lv_iinc (k := 6) hx hb d_SkeletonClockModel_resolve_238 hl rfl (ii_ (v := (1 : Int32)) (by decide)) (by decide) rfl (fun ls hl => ?_)
            have hl : lv_has ls 12 [(10, .int (x10 + (1 : Int32))), (0, .ref a_t), (2, .int x2), (3, .int x3), (4, .int x4), (5, .long x5), (9, .int x9)] := hl
            refine lv_goto (tgt := 191) hx hb d_SkeletonClockModel_resolve_241 rfl ?_
            have hl : lv_has ls 12 [(0, .ref a_t), (2, .int x2), (3, .int x3), (4, .int x4), (5, .long x5), (9, .int x9), (10, .int (x10 + (1 : Int32)))] := lv_sub hl [1, 2, 3, 4, 5, 6, 0] rfl
            exact ih _ _ _ _ _ he hl hP hD hS hret K
          · have he := ih_f hc he
            refine lv_iconst (v := (0 : Int32)) hx hb d_SkeletonClockModel_resolve_236 (by decide) ?_
            cases he
            have hq := hret _ rfl
            subst hq
            exact k_zre hx hb hr hlk X hP hD hS (Or.inl rfl) d_SkeletonClockModel_resolve_237
set_option maxHeartbeats 4000000 in
set_option maxRecDepth 100000 in
theorem w_SkeletonClockModel_resolve_285 {p : Program} {l : Launch} {e : Env} {s : State} {m : MethodId} {args : Array Value} {below : List Frame} {meth : Method} {c : Code} {Q : State → Prop} {A : Nat → Prop} {D : va_G} {kk : Nat → ClassId} {st : Nat → Nat} (a_t a_t_known a_t_value a_t_text a_t_page a_t_names a_t_sort a_t_code a_t_count a_t_around a_t_end a_t_size a_t_there a_t_wish a_t_have a_t_before a_t_open a_t_from : Nat) (t_length : Int32) (t_used : Int32) (t_far : Int32) (t_momentParts : Int32) (t_momentDay : Int64) (t_momentSecond : Int32) (t_momentNano : Int32) (t_momentOffset : Int32) (t_readParts : Int32) (t_readDay : Int64) (t_readSecond : Int32) (t_readNano : Int32) (t_readOffset : Int32) (t_alike : Int32) (t_known : Nat → Int32) (t_value : Nat → Int64) (x2 : Int32) (x3 : Int32) (x5 : Int64) (x9 : Int32) (x10 : Int32) (S : CallFix p m c b_SkeletonClockModel_resolve 12 s args GW y_SkeletonClockModel_resolve.cls) (hr : meth.sig.returnType = (some .boolean)) (hlk : meth.locks = false) (hA : ∀ q, s.heap.size ≤ q → A q) (X : KX D kk st A s) : ∀ (n : Nat) (x11 : Int32) (v : (Int32 × Int32 × Int64 × Int32 × Int32 × Int32) ⊕ (Int32)) (H : Heap) (locs : List Loc) (ls : Array Slot), lp_SkeletonClockModel_resolve_285 t_readParts t_readDay t_readSecond t_readNano t_readOffset t_known t_value x2 x3 x5 x9 x10 n x11 = some v → lv_has ls 12 [(0, .ref a_t), (2, .int x2), (3, .int x3), (5, .long x5), (9, .int x9), (10, .int x10), (11, .int x11)] → va_P D classes [(a_t, .inr (10, [.int t_length, .ref a_t_text, .int t_used, .ref a_t_page, .ref a_t_names, .ref a_t_sort, .ref a_t_code, .ref a_t_count, .ref a_t_around, .ref a_t_end, .ref a_t_size, .ref a_t_there, .ref a_t_wish, .ref a_t_have, .int t_far, .int t_momentParts, .long t_momentDay, .int t_momentSecond, .int t_momentNano, .int t_momentOffset, .int t_readParts, .long t_readDay, .int t_readSecond, .int t_readNano, .int t_readOffset, .ref a_t_known, .ref a_t_value, .ref a_t_before, .ref a_t_open, .ref a_t_from, .int t_alike])), (a_t_known, .inl (kk 2, 14, .inl t_known)), (a_t_value, .inl (kk 3, 14, .inr (.inl t_value)))] H → va_D A [(a_t, .inr (10, [.int t_length, .ref a_t_text, .int t_used, .ref a_t_page, .ref a_t_names, .ref a_t_sort, .ref a_t_code, .ref a_t_count, .ref a_t_around, .ref a_t_end, .ref a_t_size, .ref a_t_there, .ref a_t_wish, .ref a_t_have, .int t_far, .int t_momentParts, .long t_momentDay, .int t_momentSecond, .int t_momentNano, .int t_momentOffset, .int t_readParts, .long t_readDay, .int t_readSecond, .int t_readNano, .int t_readOffset, .ref a_t_known, .ref a_t_value, .ref a_t_before, .ref a_t_open, .ref a_t_from, .int t_alike])), (a_t_known, .inl (kk 2, 14, .inl t_known)), (a_t_value, .inl (kk 3, 14, .inr (.inl t_value)))] → va_S A s.heap H locs → (∀ o : Int32 × Int32 × Int64 × Int32 × Int32 × Int32, v = .inl o → Q = MQ below (KQi D kk o.1 [(a_t, .inr (10, [.int t_length, .ref a_t_text, .int t_used, .ref a_t_page, .ref a_t_names, .ref a_t_sort, .ref a_t_code, .ref a_t_count, .ref a_t_around, .ref a_t_end, .ref a_t_size, .ref a_t_there, .ref a_t_wish, .ref a_t_have, .int t_far, .int t_momentParts, .long t_momentDay, .int t_momentSecond, .int t_momentNano, .int t_momentOffset, .int o.2.1, .long o.2.2.1, .int o.2.2.2.1, .int o.2.2.2.2.1, .int o.2.2.2.2.2, .ref a_t_known, .ref a_t_value, .ref a_t_before, .ref a_t_open, .ref a_t_from, .int t_alike])), (a_t_known, .inl (kk 2, 14, .inl t_known)), (a_t_value, .inl (kk 3, 14, .inr (.inl t_value)))] A) args s 0 0 A) → (∀ v' : Int32, v = .inr v' → ∀ (H : Heap) (locs : List Loc) (ls : Array Slot), lv_has ls 12 [(0, .ref a_t), (2, .int x2), (3, .int x3), (5, .long x5), (9, .int x9), (10, .int x10), (11, .int v')] → va_P D classes [(a_t, .inr (10, [.int t_length, .ref a_t_text, .int t_used, .ref a_t_page, .ref a_t_names, .ref a_t_sort, .ref a_t_code, .ref a_t_count, .ref a_t_around, .ref a_t_end, .ref a_t_size, .ref a_t_there, .ref a_t_wish, .ref a_t_have, .int t_far, .int t_momentParts, .long t_momentDay, .int t_momentSecond, .int t_momentNano, .int t_momentOffset, .int t_readParts, .long t_readDay, .int t_readSecond, .int t_readNano, .int t_readOffset, .ref a_t_known, .ref a_t_value, .ref a_t_before, .ref a_t_open, .ref a_t_from, .int t_alike])), (a_t_known, .inl (kk 2, 14, .inl t_known)), (a_t_value, .inl (kk 3, 14, .inr (.inl t_value)))] H → va_D A [(a_t, .inr (10, [.int t_length, .ref a_t_text, .int t_used, .ref a_t_page, .ref a_t_names, .ref a_t_sort, .ref a_t_code, .ref a_t_count, .ref a_t_around, .ref a_t_end, .ref a_t_size, .ref a_t_there, .ref a_t_wish, .ref a_t_have, .int t_far, .int t_momentParts, .long t_momentDay, .int t_momentSecond, .int t_momentNano, .int t_momentOffset, .int t_readParts, .long t_readDay, .int t_readSecond, .int t_readNano, .int t_readOffset, .ref a_t_known, .ref a_t_value, .ref a_t_before, .ref a_t_open, .ref a_t_from, .int t_alike])), (a_t_known, .inl (kk 2, 14, .inl t_known)), (a_t_value, .inl (kk 3, 14, .inr (.inl t_value)))] → va_S A s.heap H locs → W p l e rm_SkeletonClockModel_resolve s m args below meth c H locs 0 0 Q (F0 m 334 ls [])) → W p l e rm_SkeletonClockModel_resolve s m args below meth c H locs 0 0 Q (F0 m 285 ls []) := by
  intro n
  induction n with
  | zero =>
    intro x11 v H locs ls he hl hP hD hS hret K
    exact ih_n he
  | succ n ih =>
    intro x11 v H locs ls he hl hP hD hS hret K
    have hx := S.1
    have hb := S.2.1
    have he : st_SkeletonClockModel_resolve_285 t_readParts t_readDay t_readSecond t_readNano t_readOffset t_known t_value x2 x3 x5 x9 x10 (lp_SkeletonClockModel_resolve_285 t_readParts t_readDay t_readSecond t_readNano t_readOffset t_known t_value x2 x3 x5 x9 x10 n) x11 = some v := he
    unfold st_SkeletonClockModel_resolve_285 at he
    refine lv_iload hx hb d_SkeletonClockModel_resolve_285 (lv_at hl 6 rfl) ?_
    refine lv_bipush (v := (9 : Int32)) hx hb d_SkeletonClockModel_resolve_287 (by decide) ?_
    refine lv_icmp_gt (tgt := 334) hx hb d_SkeletonClockModel_resolve_289 rfl (fun hc => ?_) (fun hc => ?_)
    · have he := ih_t hc he
      have hl : lv_has ls 12 [(0, .ref a_t), (2, .int x2), (3, .int x3), (5, .long x5), (9, .int x9), (10, .int x10), (11, .int x11)] := lv_sub hl [0, 1, 2, 3, 4, 5, 6] rfl
      cases he
      exact K _ rfl _ _ _ hl hP hD hS
    · have he := ih_f hc he
      refine lv_aload_n hx hb d_SkeletonClockModel_resolve_292 rfl (lv_at hl 0 rfl) ?_
      refine k_get S X us_SkeletonClockModel hP 0 rfl rfl 25 (by decide) gm_4_176 rfl d_SkeletonClockModel_resolve_293 ?_
      refine lv_iload hx hb d_SkeletonClockModel_resolve_296 (lv_at hl 6 rfl) ?_
      obtain ⟨hi19, he⟩ := ih_g he
      refine va_zald hx hb X.1 hP 1 2 rfl rfl hi19 d_SkeletonClockModel_resolve_298 ?_
      refine lv_if_eq (tgt := 328) hx hb d_SkeletonClockModel_resolve_299 rfl (fun hc => ?_) (fun hc => ?_)
      · have he := ih_t hc he
        refine lv_iinc (k := 6) hx hb d_SkeletonClockModel_resolve_328 hl rfl (ii_ (v := (1 : Int32)) (by decide)) (by decide) rfl (fun ls hl => ?_)
        have hl : lv_has ls 12 [(11, .int (x11 + (1 : Int32))), (0, .ref a_t), (2, .int x2), (3, .int x3), (5, .long x5), (9, .int x9), (10, .int x10)] := hl
        refine lv_goto (tgt := 285) hx hb d_SkeletonClockModel_resolve_331 rfl ?_
        have hl : lv_has ls 12 [(0, .ref a_t), (2, .int x2), (3, .int x3), (5, .long x5), (9, .int x9), (10, .int x10), (11, .int (x11 + (1 : Int32)))] := lv_sub hl [1, 2, 3, 4, 5, 6, 0] rfl
        exact ih _ _ _ _ _ he hl hP hD hS hret K
      · have he := ih_f hc he
        refine lv_iload hx hb d_SkeletonClockModel_resolve_302 (lv_at hl 5 rfl) ?_
        refine lv_if_ne (tgt := 328) hx hb d_SkeletonClockModel_resolve_304 rfl (fun hc => ?_) (fun hc => ?_)
        · have he := ih_f hc he
          refine lv_iinc (k := 6) hx hb d_SkeletonClockModel_resolve_328 hl rfl (ii_ (v := (1 : Int32)) (by decide)) (by decide) rfl (fun ls hl => ?_)
          have hl : lv_has ls 12 [(11, .int (x11 + (1 : Int32))), (0, .ref a_t), (2, .int x2), (3, .int x3), (5, .long x5), (9, .int x9), (10, .int x10)] := hl
          refine lv_goto (tgt := 285) hx hb d_SkeletonClockModel_resolve_331 rfl ?_
          have hl : lv_has ls 12 [(0, .ref a_t), (2, .int x2), (3, .int x3), (5, .long x5), (9, .int x9), (10, .int x10), (11, .int (x11 + (1 : Int32)))] := lv_sub hl [1, 2, 3, 4, 5, 6, 0] rfl
          exact ih _ _ _ _ _ he hl hP hD hS hret K
        · have he := ih_t hc he
          refine lv_aload_n hx hb d_SkeletonClockModel_resolve_307 rfl (lv_at hl 0 rfl) ?_
          refine k_get S X us_SkeletonClockModel hP 0 rfl rfl 26 (by decide) gm_4_177 rfl d_SkeletonClockModel_resolve_308 ?_
          refine lv_iload hx hb d_SkeletonClockModel_resolve_311 (lv_at hl 6 rfl) ?_
          obtain ⟨hi20, he⟩ := ih_g he
          refine va_lald hx hb X.1 hP 2 3 rfl rfl hi20 d_SkeletonClockModel_resolve_313 ?_
          refine lv_iload hx hb d_SkeletonClockModel_resolve_314 (lv_at hl 4 rfl) ?_
          refine lv_iload hx hb d_SkeletonClockModel_resolve_316 (lv_at hl 6 rfl) ?_
          obtain ⟨u21, e22, he⟩ := ih_b he
          refine k_io (r_S (As := [.int x9, .int x11]) S X hA hP hD hS (c_SkeletonClockModel_timeField l D kk st _ x9 x11 u21 e22) gm_5_117 gm_5_115 gm_5_116 gm_1_13 ⟨rfl, rfl, by decide, by decide⟩ kd_SkeletonClockModel_timeField [] rfl rfl rfl rfl hl.1 rfl (Nat.le_of_ble_eq_true rfl) d_SkeletonClockModel_resolve_318 ⟨Nat.zero_le _, Nat.zero_le _⟩) hA hP hD hS [] rfl (fun H locs hP hS => ?_)
          refine lv_i2l hx hb d_SkeletonClockModel_resolve_321 rfl ?_
          refine lq_eq (tgt := 328) hx hb d_SkeletonClockModel_resolve_322 d_SkeletonClockModel_resolve_323 rfl (fun hc => ?_) (fun hc => ?_)
          · have he := ih_t hc he
            refine lv_iinc (k := 6) hx hb d_SkeletonClockModel_resolve_328 hl rfl (ii_ (v := (1 : Int32)) (by decide)) (by decide) rfl (fun ls hl => ?_)
            have hl : lv_has ls 12 [(11, .int (x11 + (1 : Int32))), (0, .ref a_t), (2, .int x2), (3, .int x3), (5, .long x5), (9, .int x9), (10, .int x10)] := hl
            refine lv_goto (tgt := 285) hx hb d_SkeletonClockModel_resolve_331 rfl ?_
            have hl : lv_has ls 12 [(0, .ref a_t), (2, .int x2), (3, .int x3), (5, .long x5), (9, .int x9), (10, .int x10), (11, .int (x11 + (1 : Int32)))] := lv_sub hl [1, 2, 3, 4, 5, 6, 0] rfl
            exact ih _ _ _ _ _ he hl hP hD hS hret K
          · have he := ih_f hc he
            refine lv_iconst (v := (0 : Int32)) hx hb d_SkeletonClockModel_resolve_326 (by decide) ?_
            cases he
            have hq := hret _ rfl
            subst hq
            exact k_zre hx hb hr hlk X hP hD hS (Or.inl rfl) d_SkeletonClockModel_resolve_327
set_option maxHeartbeats 4000000 in
set_option maxRecDepth 100000 in
theorem w_SkeletonClockModel_resolve_408 {p : Program} {l : Launch} {e : Env} {s : State} {m : MethodId} {args : Array Value} {below : List Frame} {meth : Method} {c : Code} {A : Nat → Prop} {D : va_G} {kk : Nat → ClassId} {st : Nat → Nat} (a_t a_t_known a_t_value a_t_text a_t_page a_t_names a_t_sort a_t_code a_t_count a_t_around a_t_end a_t_size a_t_there a_t_wish a_t_have a_t_before a_t_open a_t_from : Nat) (t_length : Int32) (t_used : Int32) (t_far : Int32) (t_momentParts : Int32) (t_momentDay : Int64) (t_momentSecond : Int32) (t_momentNano : Int32) (t_momentOffset : Int32) (t_readParts : Int32) (t_readDay : Int64) (t_readSecond : Int32) (t_readNano : Int32) (t_readOffset : Int32) (t_alike : Int32) (t_known : Nat → Int32) (t_value : Nat → Int64) (s1 : Int32) (o : Int32 × Int32 × Int64 × Int32 × Int32 × Int32) (S : CallFix p m c b_SkeletonClockModel_resolve 12 s args GW y_SkeletonClockModel_resolve.cls) (hr : meth.sig.returnType = (some .boolean)) (hlk : meth.locks = false) (hA : ∀ q, s.heap.size ≤ q → A q) (X : KX D kk st A s) (H : Heap) (locs : List Loc) (ls : Array Slot) (he : jn_SkeletonClockModel_resolve_408 t_readParts t_readDay t_readSecond t_readNano t_readOffset t_known t_value s1 = some o) (hl : lv_has ls 12 [(0, .ref a_t)]) (hP : va_P D classes [(a_t, .inr (10, [.int t_length, .ref a_t_text, .int t_used, .ref a_t_page, .ref a_t_names, .ref a_t_sort, .ref a_t_code, .ref a_t_count, .ref a_t_around, .ref a_t_end, .ref a_t_size, .ref a_t_there, .ref a_t_wish, .ref a_t_have, .int t_far, .int t_momentParts, .long t_momentDay, .int t_momentSecond, .int t_momentNano, .int t_momentOffset, .int t_readParts, .long t_readDay, .int t_readSecond, .int t_readNano, .int t_readOffset, .ref a_t_known, .ref a_t_value, .ref a_t_before, .ref a_t_open, .ref a_t_from, .int t_alike])), (a_t_known, .inl (kk 2, 14, .inl t_known)), (a_t_value, .inl (kk 3, 14, .inr (.inl t_value)))] H) (hD : va_D A [(a_t, .inr (10, [.int t_length, .ref a_t_text, .int t_used, .ref a_t_page, .ref a_t_names, .ref a_t_sort, .ref a_t_code, .ref a_t_count, .ref a_t_around, .ref a_t_end, .ref a_t_size, .ref a_t_there, .ref a_t_wish, .ref a_t_have, .int t_far, .int t_momentParts, .long t_momentDay, .int t_momentSecond, .int t_momentNano, .int t_momentOffset, .int t_readParts, .long t_readDay, .int t_readSecond, .int t_readNano, .int t_readOffset, .ref a_t_known, .ref a_t_value, .ref a_t_before, .ref a_t_open, .ref a_t_from, .int t_alike])), (a_t_known, .inl (kk 2, 14, .inl t_known)), (a_t_value, .inl (kk 3, 14, .inr (.inl t_value)))]) (hS : va_S A s.heap H locs) : W p l e rm_SkeletonClockModel_resolve s m args below meth c H locs 0 0 (MQ below (KQi D kk o.1 [(a_t, .inr (10, [.int t_length, .ref a_t_text, .int t_used, .ref a_t_page, .ref a_t_names, .ref a_t_sort, .ref a_t_code, .ref a_t_count, .ref a_t_around, .ref a_t_end, .ref a_t_size, .ref a_t_there, .ref a_t_wish, .ref a_t_have, .int t_far, .int t_momentParts, .long t_momentDay, .int t_momentSecond, .int t_momentNano, .int t_momentOffset, .int o.2.1, .long o.2.2.1, .int o.2.2.2.1, .int o.2.2.2.2.1, .int o.2.2.2.2.2, .ref a_t_known, .ref a_t_value, .ref a_t_before, .ref a_t_open, .ref a_t_from, .int t_alike])), (a_t_known, .inl (kk 2, 14, .inl t_known)), (a_t_value, .inl (kk 3, 14, .inr (.inl t_value)))] A) args s 0 0 A) (F0 m 408 ls [.int s1, .ref a_t]) := by
  have hx := S.1
  have hb := S.2.1
  unfold jn_SkeletonClockModel_resolve_408 at he
  refine k_put S X us_SkeletonClockModel t_SkeletonClockModel t_SkeletonClockModel_ok n_SkeletonClockModel hP hD hS 0 rfl rfl 23 (by decide) gm_4_174 rfl rfl rfl (Nat.le_of_ble_eq_true rfl) d_SkeletonClockModel_resolve_408 (fun H locs hP hD hS => ?_)
  have hP : va_P D classes [(a_t, .inr (10, [.int t_length, .ref a_t_text, .int t_used, .ref a_t_page, .ref a_t_names, .ref a_t_sort, .ref a_t_code, .ref a_t_count, .ref a_t_around, .ref a_t_end, .ref a_t_size, .ref a_t_there, .ref a_t_wish, .ref a_t_have, .int t_far, .int t_momentParts, .long t_momentDay, .int t_momentSecond, .int t_momentNano, .int t_momentOffset, .int t_readParts, .long t_readDay, .int t_readSecond, .int s1, .int t_readOffset, .ref a_t_known, .ref a_t_value, .ref a_t_before, .ref a_t_open, .ref a_t_from, .int t_alike])), (a_t_known, .inl (kk 2, 14, .inl t_known)), (a_t_value, .inl (kk 3, 14, .inr (.inl t_value)))] H := hP
  have hD : va_D A [(a_t, .inr (10, [.int t_length, .ref a_t_text, .int t_used, .ref a_t_page, .ref a_t_names, .ref a_t_sort, .ref a_t_code, .ref a_t_count, .ref a_t_around, .ref a_t_end, .ref a_t_size, .ref a_t_there, .ref a_t_wish, .ref a_t_have, .int t_far, .int t_momentParts, .long t_momentDay, .int t_momentSecond, .int t_momentNano, .int t_momentOffset, .int t_readParts, .long t_readDay, .int t_readSecond, .int s1, .int t_readOffset, .ref a_t_known, .ref a_t_value, .ref a_t_before, .ref a_t_open, .ref a_t_from, .int t_alike])), (a_t_known, .inl (kk 2, 14, .inl t_known)), (a_t_value, .inl (kk 3, 14, .inr (.inl t_value)))] := hD
  refine lv_aload_n hx hb d_SkeletonClockModel_resolve_411 rfl (lv_at hl 0 rfl) ?_
  refine lv_aload_n hx hb d_SkeletonClockModel_resolve_412 rfl (lv_at hl 0 rfl) ?_
  refine k_get S X us_SkeletonClockModel hP 0 rfl rfl 25 (by decide) gm_4_176 rfl d_SkeletonClockModel_resolve_413 ?_
  refine lv_bipush (v := (13 : Int32)) hx hb d_SkeletonClockModel_resolve_416 (by decide) ?_
  refine va_zald hx hb X.1 hP 1 2 rfl rfl (show ¬ ((13 : Int32) < 0 ∨ 14 ≤ ((13 : Int32)).toNatClampNeg) by decide) d_SkeletonClockModel_resolve_418 ?_
  refine lv_if_eq (tgt := 433) hx hb d_SkeletonClockModel_resolve_419 rfl (fun hc => ?_) (fun hc => ?_)
  · have he := ih_t hc he
    refine lv_iconst (v := (0 : Int32)) hx hb d_SkeletonClockModel_resolve_433 (by decide) ?_
    refine k_put S X us_SkeletonClockModel t_SkeletonClockModel t_SkeletonClockModel_ok n_SkeletonClockModel hP hD hS 0 rfl rfl 24 (by decide) gm_4_175 rfl rfl rfl (Nat.le_of_ble_eq_true rfl) d_SkeletonClockModel_resolve_434 (fun H locs hP hD hS => ?_)
    have hP : va_P D classes [(a_t, .inr (10, [.int t_length, .ref a_t_text, .int t_used, .ref a_t_page, .ref a_t_names, .ref a_t_sort, .ref a_t_code, .ref a_t_count, .ref a_t_around, .ref a_t_end, .ref a_t_size, .ref a_t_there, .ref a_t_wish, .ref a_t_have, .int t_far, .int t_momentParts, .long t_momentDay, .int t_momentSecond, .int t_momentNano, .int t_momentOffset, .int t_readParts, .long t_readDay, .int t_readSecond, .int s1, .int (0 : Int32), .ref a_t_known, .ref a_t_value, .ref a_t_before, .ref a_t_open, .ref a_t_from, .int t_alike])), (a_t_known, .inl (kk 2, 14, .inl t_known)), (a_t_value, .inl (kk 3, 14, .inr (.inl t_value)))] H := hP
    have hD : va_D A [(a_t, .inr (10, [.int t_length, .ref a_t_text, .int t_used, .ref a_t_page, .ref a_t_names, .ref a_t_sort, .ref a_t_code, .ref a_t_count, .ref a_t_around, .ref a_t_end, .ref a_t_size, .ref a_t_there, .ref a_t_wish, .ref a_t_have, .int t_far, .int t_momentParts, .long t_momentDay, .int t_momentSecond, .int t_momentNano, .int t_momentOffset, .int t_readParts, .long t_readDay, .int t_readSecond, .int s1, .int (0 : Int32), .ref a_t_known, .ref a_t_value, .ref a_t_before, .ref a_t_open, .ref a_t_from, .int t_alike])), (a_t_known, .inl (kk 2, 14, .inl t_known)), (a_t_value, .inl (kk 3, 14, .inr (.inl t_value)))] := hD
    refine lv_iconst (v := (1 : Int32)) hx hb d_SkeletonClockModel_resolve_437 (by decide) ?_
    cases he
    exact k_zre hx hb hr hlk X hP hD hS (Or.inr rfl) d_SkeletonClockModel_resolve_438
  · have he := ih_f hc he
    refine lv_aload_n hx hb d_SkeletonClockModel_resolve_422 rfl (lv_at hl 0 rfl) ?_
    refine k_get S X us_SkeletonClockModel hP 0 rfl rfl 26 (by decide) gm_4_177 rfl d_SkeletonClockModel_resolve_423 ?_
    refine lv_bipush (v := (13 : Int32)) hx hb d_SkeletonClockModel_resolve_426 (by decide) ?_
    refine va_lald hx hb X.1 hP 2 3 rfl rfl (show ¬ ((13 : Int32) < 0 ∨ 14 ≤ ((13 : Int32)).toNatClampNeg) by decide) d_SkeletonClockModel_resolve_428 ?_
    refine lv_l2i hx hb d_SkeletonClockModel_resolve_429 rfl ?_
    refine lv_goto (tgt := 434) hx hb d_SkeletonClockModel_resolve_430 rfl ?_
    refine k_put S X us_SkeletonClockModel t_SkeletonClockModel t_SkeletonClockModel_ok n_SkeletonClockModel hP hD hS 0 rfl rfl 24 (by decide) gm_4_175 rfl rfl rfl (Nat.le_of_ble_eq_true rfl) d_SkeletonClockModel_resolve_434 (fun H locs hP hD hS => ?_)
    have hP : va_P D classes [(a_t, .inr (10, [.int t_length, .ref a_t_text, .int t_used, .ref a_t_page, .ref a_t_names, .ref a_t_sort, .ref a_t_code, .ref a_t_count, .ref a_t_around, .ref a_t_end, .ref a_t_size, .ref a_t_there, .ref a_t_wish, .ref a_t_have, .int t_far, .int t_momentParts, .long t_momentDay, .int t_momentSecond, .int t_momentNano, .int t_momentOffset, .int t_readParts, .long t_readDay, .int t_readSecond, .int s1, .int (Int64.toInt32 (t_value ((13 : Int32)).toNatClampNeg)), .ref a_t_known, .ref a_t_value, .ref a_t_before, .ref a_t_open, .ref a_t_from, .int t_alike])), (a_t_known, .inl (kk 2, 14, .inl t_known)), (a_t_value, .inl (kk 3, 14, .inr (.inl t_value)))] H := hP
    have hD : va_D A [(a_t, .inr (10, [.int t_length, .ref a_t_text, .int t_used, .ref a_t_page, .ref a_t_names, .ref a_t_sort, .ref a_t_code, .ref a_t_count, .ref a_t_around, .ref a_t_end, .ref a_t_size, .ref a_t_there, .ref a_t_wish, .ref a_t_have, .int t_far, .int t_momentParts, .long t_momentDay, .int t_momentSecond, .int t_momentNano, .int t_momentOffset, .int t_readParts, .long t_readDay, .int t_readSecond, .int s1, .int (Int64.toInt32 (t_value ((13 : Int32)).toNatClampNeg)), .ref a_t_known, .ref a_t_value, .ref a_t_before, .ref a_t_open, .ref a_t_from, .int t_alike])), (a_t_known, .inl (kk 2, 14, .inl t_known)), (a_t_value, .inl (kk 3, 14, .inr (.inl t_value)))] := hD
    refine lv_iconst (v := (1 : Int32)) hx hb d_SkeletonClockModel_resolve_437 (by decide) ?_
    cases he
    exact k_zre hx hb hr hlk X hP hD hS (Or.inr rfl) d_SkeletonClockModel_resolve_438
set_option maxHeartbeats 4000000 in
set_option maxRecDepth 100000 in
theorem w_SkeletonClockModel_resolve_369 {p : Program} {l : Launch} {e : Env} {s : State} {m : MethodId} {args : Array Value} {below : List Frame} {meth : Method} {c : Code} {A : Nat → Prop} {D : va_G} {kk : Nat → ClassId} {st : Nat → Nat} (a_t a_t_known a_t_value a_t_text a_t_page a_t_names a_t_sort a_t_code a_t_count a_t_around a_t_end a_t_size a_t_there a_t_wish a_t_have a_t_before a_t_open a_t_from : Nat) (t_length : Int32) (t_used : Int32) (t_far : Int32) (t_momentParts : Int32) (t_momentDay : Int64) (t_momentSecond : Int32) (t_momentNano : Int32) (t_momentOffset : Int32) (t_readParts : Int32) (t_readDay : Int64) (t_readSecond : Int32) (t_readNano : Int32) (t_readOffset : Int32) (t_alike : Int32) (t_known : Nat → Int32) (t_value : Nat → Int64) (x5 : Int64) (x9 : Int32) (s1 : Int32) (s2 : Int32) (o : Int32 × Int32 × Int64 × Int32 × Int32 × Int32) (S : CallFix p m c b_SkeletonClockModel_resolve 12 s args GW y_SkeletonClockModel_resolve.cls) (hr : meth.sig.returnType = (some .boolean)) (hlk : meth.locks = false) (hA : ∀ q, s.heap.size ≤ q → A q) (X : KX D kk st A s) (H : Heap) (locs : List Loc) (ls : Array Slot) (he : jn_SkeletonClockModel_resolve_369 t_readParts t_readDay t_readSecond t_readNano t_readOffset t_known t_value x5 x9 s1 s2 = some o) (hl : lv_has ls 12 [(0, .ref a_t), (5, .long x5), (9, .int x9)]) (hP : va_P D classes [(a_t, .inr (10, [.int t_length, .ref a_t_text, .int t_used, .ref a_t_page, .ref a_t_names, .ref a_t_sort, .ref a_t_code, .ref a_t_count, .ref a_t_around, .ref a_t_end, .ref a_t_size, .ref a_t_there, .ref a_t_wish, .ref a_t_have, .int t_far, .int t_momentParts, .long t_momentDay, .int t_momentSecond, .int t_momentNano, .int t_momentOffset, .int t_readParts, .long t_readDay, .int t_readSecond, .int t_readNano, .int t_readOffset, .ref a_t_known, .ref a_t_value, .ref a_t_before, .ref a_t_open, .ref a_t_from, .int t_alike])), (a_t_known, .inl (kk 2, 14, .inl t_known)), (a_t_value, .inl (kk 3, 14, .inr (.inl t_value)))] H) (hD : va_D A [(a_t, .inr (10, [.int t_length, .ref a_t_text, .int t_used, .ref a_t_page, .ref a_t_names, .ref a_t_sort, .ref a_t_code, .ref a_t_count, .ref a_t_around, .ref a_t_end, .ref a_t_size, .ref a_t_there, .ref a_t_wish, .ref a_t_have, .int t_far, .int t_momentParts, .long t_momentDay, .int t_momentSecond, .int t_momentNano, .int t_momentOffset, .int t_readParts, .long t_readDay, .int t_readSecond, .int t_readNano, .int t_readOffset, .ref a_t_known, .ref a_t_value, .ref a_t_before, .ref a_t_open, .ref a_t_from, .int t_alike])), (a_t_known, .inl (kk 2, 14, .inl t_known)), (a_t_value, .inl (kk 3, 14, .inr (.inl t_value)))]) (hS : va_S A s.heap H locs) : W p l e rm_SkeletonClockModel_resolve s m args below meth c H locs 0 0 (MQ below (KQi D kk o.1 [(a_t, .inr (10, [.int t_length, .ref a_t_text, .int t_used, .ref a_t_page, .ref a_t_names, .ref a_t_sort, .ref a_t_code, .ref a_t_count, .ref a_t_around, .ref a_t_end, .ref a_t_size, .ref a_t_there, .ref a_t_wish, .ref a_t_have, .int t_far, .int t_momentParts, .long t_momentDay, .int t_momentSecond, .int t_momentNano, .int t_momentOffset, .int o.2.1, .long o.2.2.1, .int o.2.2.2.1, .int o.2.2.2.2.1, .int o.2.2.2.2.2, .ref a_t_known, .ref a_t_value, .ref a_t_before, .ref a_t_open, .ref a_t_from, .int t_alike])), (a_t_known, .inl (kk 2, 14, .inl t_known)), (a_t_value, .inl (kk 3, 14, .inr (.inl t_value)))] A) args s 0 0 A) (F0 m 369 ls [.int s2, .int s1, .ref a_t]) := by
  have hx := S.1
  have hb := S.2.1
  unfold jn_SkeletonClockModel_resolve_369 at he
  refine lv_iadd hx hb d_SkeletonClockModel_resolve_369 ?_
  refine k_put S X us_SkeletonClockModel t_SkeletonClockModel t_SkeletonClockModel_ok n_SkeletonClockModel hP hD hS 0 rfl rfl 20 (by decide) gm_4_171 rfl rfl rfl (Nat.le_of_ble_eq_true rfl) d_SkeletonClockModel_resolve_370 (fun H locs hP hD hS => ?_)
  have hP : va_P D classes [(a_t, .inr (10, [.int t_length, .ref a_t_text, .int t_used, .ref a_t_page, .ref a_t_names, .ref a_t_sort, .ref a_t_code, .ref a_t_count, .ref a_t_around, .ref a_t_end, .ref a_t_size, .ref a_t_there, .ref a_t_wish, .ref a_t_have, .int t_far, .int t_momentParts, .long t_momentDay, .int t_momentSecond, .int t_momentNano, .int t_momentOffset, .int (s1 + s2), .long t_readDay, .int t_readSecond, .int t_readNano, .int t_readOffset, .ref a_t_known, .ref a_t_value, .ref a_t_before, .ref a_t_open, .ref a_t_from, .int t_alike])), (a_t_known, .inl (kk 2, 14, .inl t_known)), (a_t_value, .inl (kk 3, 14, .inr (.inl t_value)))] H := hP
  have hD : va_D A [(a_t, .inr (10, [.int t_length, .ref a_t_text, .int t_used, .ref a_t_page, .ref a_t_names, .ref a_t_sort, .ref a_t_code, .ref a_t_count, .ref a_t_around, .ref a_t_end, .ref a_t_size, .ref a_t_there, .ref a_t_wish, .ref a_t_have, .int t_far, .int t_momentParts, .long t_momentDay, .int t_momentSecond, .int t_momentNano, .int t_momentOffset, .int (s1 + s2), .long t_readDay, .int t_readSecond, .int t_readNano, .int t_readOffset, .ref a_t_known, .ref a_t_value, .ref a_t_before, .ref a_t_open, .ref a_t_from, .int t_alike])), (a_t_known, .inl (kk 2, 14, .inl t_known)), (a_t_value, .inl (kk 3, 14, .inr (.inl t_value)))] := hD
  refine lv_aload_n hx hb d_SkeletonClockModel_resolve_373 rfl (lv_at hl 0 rfl) ?_
  refine lv_lload hx hb d_SkeletonClockModel_resolve_374 (lv_at hl 1 rfl) ?_
  refine k_put S X us_SkeletonClockModel t_SkeletonClockModel t_SkeletonClockModel_ok n_SkeletonClockModel hP hD hS 0 rfl rfl 21 (by decide) gm_4_172 rfl rfl rfl (Nat.le_of_ble_eq_true rfl) d_SkeletonClockModel_resolve_376 (fun H locs hP hD hS => ?_)
  have hP : va_P D classes [(a_t, .inr (10, [.int t_length, .ref a_t_text, .int t_used, .ref a_t_page, .ref a_t_names, .ref a_t_sort, .ref a_t_code, .ref a_t_count, .ref a_t_around, .ref a_t_end, .ref a_t_size, .ref a_t_there, .ref a_t_wish, .ref a_t_have, .int t_far, .int t_momentParts, .long t_momentDay, .int t_momentSecond, .int t_momentNano, .int t_momentOffset, .int (s1 + s2), .long x5, .int t_readSecond, .int t_readNano, .int t_readOffset, .ref a_t_known, .ref a_t_value, .ref a_t_before, .ref a_t_open, .ref a_t_from, .int t_alike])), (a_t_known, .inl (kk 2, 14, .inl t_known)), (a_t_value, .inl (kk 3, 14, .inr (.inl t_value)))] H := hP
  have hD : va_D A [(a_t, .inr (10, [.int t_length, .ref a_t_text, .int t_used, .ref a_t_page, .ref a_t_names, .ref a_t_sort, .ref a_t_code, .ref a_t_count, .ref a_t_around, .ref a_t_end, .ref a_t_size, .ref a_t_there, .ref a_t_wish, .ref a_t_have, .int t_far, .int t_momentParts, .long t_momentDay, .int t_momentSecond, .int t_momentNano, .int t_momentOffset, .int (s1 + s2), .long x5, .int t_readSecond, .int t_readNano, .int t_readOffset, .ref a_t_known, .ref a_t_value, .ref a_t_before, .ref a_t_open, .ref a_t_from, .int t_alike])), (a_t_known, .inl (kk 2, 14, .inl t_known)), (a_t_value, .inl (kk 3, 14, .inr (.inl t_value)))] := hD
  refine lv_aload_n hx hb d_SkeletonClockModel_resolve_379 rfl (lv_at hl 0 rfl) ?_
  refine lv_iload hx hb d_SkeletonClockModel_resolve_380 (lv_at hl 2 rfl) ?_
  refine k_put S X us_SkeletonClockModel t_SkeletonClockModel t_SkeletonClockModel_ok n_SkeletonClockModel hP hD hS 0 rfl rfl 22 (by decide) gm_4_173 rfl rfl rfl (Nat.le_of_ble_eq_true rfl) d_SkeletonClockModel_resolve_382 (fun H locs hP hD hS => ?_)
  have hP : va_P D classes [(a_t, .inr (10, [.int t_length, .ref a_t_text, .int t_used, .ref a_t_page, .ref a_t_names, .ref a_t_sort, .ref a_t_code, .ref a_t_count, .ref a_t_around, .ref a_t_end, .ref a_t_size, .ref a_t_there, .ref a_t_wish, .ref a_t_have, .int t_far, .int t_momentParts, .long t_momentDay, .int t_momentSecond, .int t_momentNano, .int t_momentOffset, .int (s1 + s2), .long x5, .int x9, .int t_readNano, .int t_readOffset, .ref a_t_known, .ref a_t_value, .ref a_t_before, .ref a_t_open, .ref a_t_from, .int t_alike])), (a_t_known, .inl (kk 2, 14, .inl t_known)), (a_t_value, .inl (kk 3, 14, .inr (.inl t_value)))] H := hP
  have hD : va_D A [(a_t, .inr (10, [.int t_length, .ref a_t_text, .int t_used, .ref a_t_page, .ref a_t_names, .ref a_t_sort, .ref a_t_code, .ref a_t_count, .ref a_t_around, .ref a_t_end, .ref a_t_size, .ref a_t_there, .ref a_t_wish, .ref a_t_have, .int t_far, .int t_momentParts, .long t_momentDay, .int t_momentSecond, .int t_momentNano, .int t_momentOffset, .int (s1 + s2), .long x5, .int x9, .int t_readNano, .int t_readOffset, .ref a_t_known, .ref a_t_value, .ref a_t_before, .ref a_t_open, .ref a_t_from, .int t_alike])), (a_t_known, .inl (kk 2, 14, .inl t_known)), (a_t_value, .inl (kk 3, 14, .inr (.inl t_value)))] := hD
  refine lv_aload_n hx hb d_SkeletonClockModel_resolve_385 rfl (lv_at hl 0 rfl) ?_
  refine lv_aload_n hx hb d_SkeletonClockModel_resolve_386 rfl (lv_at hl 0 rfl) ?_
  refine k_get S X us_SkeletonClockModel hP 0 rfl rfl 25 (by decide) gm_4_176 rfl d_SkeletonClockModel_resolve_387 ?_
  refine lv_bipush (v := (12 : Int32)) hx hb d_SkeletonClockModel_resolve_390 (by decide) ?_
  refine va_zald hx hb X.1 hP 1 2 rfl rfl (show ¬ ((12 : Int32) < 0 ∨ 14 ≤ ((12 : Int32)).toNatClampNeg) by decide) d_SkeletonClockModel_resolve_392 ?_
  refine lv_if_eq (tgt := 407) hx hb d_SkeletonClockModel_resolve_393 rfl (fun hc => ?_) (fun hc => ?_)
  · have he := ih_t hc he
    refine lv_iconst (v := (0 : Int32)) hx hb d_SkeletonClockModel_resolve_407 (by decide) ?_
    have hl : lv_has ls 12 [(0, .ref a_t)] := lv_sub hl [0] rfl
    exact w_SkeletonClockModel_resolve_408 a_t a_t_known a_t_value a_t_text a_t_page a_t_names a_t_sort a_t_code a_t_count a_t_around a_t_end a_t_size a_t_there a_t_wish a_t_have a_t_before a_t_open a_t_from t_length t_used t_far t_momentParts t_momentDay t_momentSecond t_momentNano t_momentOffset (s1 + s2) x5 x9 t_readNano t_readOffset t_alike t_known t_value (0 : Int32) o S hr hlk hA X _ _ ls he hl hP hD hS
  · have he := ih_f hc he
    refine lv_aload_n hx hb d_SkeletonClockModel_resolve_396 rfl (lv_at hl 0 rfl) ?_
    refine k_get S X us_SkeletonClockModel hP 0 rfl rfl 26 (by decide) gm_4_177 rfl d_SkeletonClockModel_resolve_397 ?_
    refine lv_bipush (v := (12 : Int32)) hx hb d_SkeletonClockModel_resolve_400 (by decide) ?_
    refine va_lald hx hb X.1 hP 2 3 rfl rfl (show ¬ ((12 : Int32) < 0 ∨ 14 ≤ ((12 : Int32)).toNatClampNeg) by decide) d_SkeletonClockModel_resolve_402 ?_
    refine lv_l2i hx hb d_SkeletonClockModel_resolve_403 rfl ?_
    refine lv_goto (tgt := 408) hx hb d_SkeletonClockModel_resolve_404 rfl ?_
    have hl : lv_has ls 12 [(0, .ref a_t)] := lv_sub hl [0] rfl
    exact w_SkeletonClockModel_resolve_408 a_t a_t_known a_t_value a_t_text a_t_page a_t_names a_t_sort a_t_code a_t_count a_t_around a_t_end a_t_size a_t_there a_t_wish a_t_have a_t_before a_t_open a_t_from t_length t_used t_far t_momentParts t_momentDay t_momentSecond t_momentNano t_momentOffset (s1 + s2) x5 x9 t_readNano t_readOffset t_alike t_known t_value (Int64.toInt32 (t_value ((12 : Int32)).toNatClampNeg)) o S hr hlk hA X _ _ ls he hl hP hD hS
set_option maxHeartbeats 4000000 in
set_option maxRecDepth 100000 in
theorem w_SkeletonClockModel_resolve_353 {p : Program} {l : Launch} {e : Env} {s : State} {m : MethodId} {args : Array Value} {below : List Frame} {meth : Method} {c : Code} {A : Nat → Prop} {D : va_G} {kk : Nat → ClassId} {st : Nat → Nat} (a_t a_t_known a_t_value a_t_text a_t_page a_t_names a_t_sort a_t_code a_t_count a_t_around a_t_end a_t_size a_t_there a_t_wish a_t_have a_t_before a_t_open a_t_from : Nat) (t_length : Int32) (t_used : Int32) (t_far : Int32) (t_momentParts : Int32) (t_momentDay : Int64) (t_momentSecond : Int32) (t_momentNano : Int32) (t_momentOffset : Int32) (t_readParts : Int32) (t_readDay : Int64) (t_readSecond : Int32) (t_readNano : Int32) (t_readOffset : Int32) (t_alike : Int32) (t_known : Nat → Int32) (t_value : Nat → Int64) (x5 : Int64) (x9 : Int32) (s1 : Int32) (s2 : Int32) (o : Int32 × Int32 × Int64 × Int32 × Int32 × Int32) (S : CallFix p m c b_SkeletonClockModel_resolve 12 s args GW y_SkeletonClockModel_resolve.cls) (hr : meth.sig.returnType = (some .boolean)) (hlk : meth.locks = false) (hA : ∀ q, s.heap.size ≤ q → A q) (X : KX D kk st A s) (H : Heap) (locs : List Loc) (ls : Array Slot) (he : jn_SkeletonClockModel_resolve_353 t_readParts t_readDay t_readSecond t_readNano t_readOffset t_known t_value x5 x9 s1 s2 = some o) (hl : lv_has ls 12 [(0, .ref a_t), (5, .long x5), (9, .int x9)]) (hP : va_P D classes [(a_t, .inr (10, [.int t_length, .ref a_t_text, .int t_used, .ref a_t_page, .ref a_t_names, .ref a_t_sort, .ref a_t_code, .ref a_t_count, .ref a_t_around, .ref a_t_end, .ref a_t_size, .ref a_t_there, .ref a_t_wish, .ref a_t_have, .int t_far, .int t_momentParts, .long t_momentDay, .int t_momentSecond, .int t_momentNano, .int t_momentOffset, .int t_readParts, .long t_readDay, .int t_readSecond, .int t_readNano, .int t_readOffset, .ref a_t_known, .ref a_t_value, .ref a_t_before, .ref a_t_open, .ref a_t_from, .int t_alike])), (a_t_known, .inl (kk 2, 14, .inl t_known)), (a_t_value, .inl (kk 3, 14, .inr (.inl t_value)))] H) (hD : va_D A [(a_t, .inr (10, [.int t_length, .ref a_t_text, .int t_used, .ref a_t_page, .ref a_t_names, .ref a_t_sort, .ref a_t_code, .ref a_t_count, .ref a_t_around, .ref a_t_end, .ref a_t_size, .ref a_t_there, .ref a_t_wish, .ref a_t_have, .int t_far, .int t_momentParts, .long t_momentDay, .int t_momentSecond, .int t_momentNano, .int t_momentOffset, .int t_readParts, .long t_readDay, .int t_readSecond, .int t_readNano, .int t_readOffset, .ref a_t_known, .ref a_t_value, .ref a_t_before, .ref a_t_open, .ref a_t_from, .int t_alike])), (a_t_known, .inl (kk 2, 14, .inl t_known)), (a_t_value, .inl (kk 3, 14, .inr (.inl t_value)))]) (hS : va_S A s.heap H locs) : W p l e rm_SkeletonClockModel_resolve s m args below meth c H locs 0 0 (MQ below (KQi D kk o.1 [(a_t, .inr (10, [.int t_length, .ref a_t_text, .int t_used, .ref a_t_page, .ref a_t_names, .ref a_t_sort, .ref a_t_code, .ref a_t_count, .ref a_t_around, .ref a_t_end, .ref a_t_size, .ref a_t_there, .ref a_t_wish, .ref a_t_have, .int t_far, .int t_momentParts, .long t_momentDay, .int t_momentSecond, .int t_momentNano, .int t_momentOffset, .int o.2.1, .long o.2.2.1, .int o.2.2.2.1, .int o.2.2.2.2.1, .int o.2.2.2.2.2, .ref a_t_known, .ref a_t_value, .ref a_t_before, .ref a_t_open, .ref a_t_from, .int t_alike])), (a_t_known, .inl (kk 2, 14, .inl t_known)), (a_t_value, .inl (kk 3, 14, .inr (.inl t_value)))] A) args s 0 0 A) (F0 m 353 ls [.int s2, .int s1, .ref a_t]) := by
  have hx := S.1
  have hb := S.2.1
  unfold jn_SkeletonClockModel_resolve_353 at he
  refine lv_iadd hx hb d_SkeletonClockModel_resolve_353 ?_
  refine lv_aload_n hx hb d_SkeletonClockModel_resolve_354 rfl (lv_at hl 0 rfl) ?_
  refine k_get S X us_SkeletonClockModel hP 0 rfl rfl 25 (by decide) gm_4_176 rfl d_SkeletonClockModel_resolve_355 ?_
  refine lv_bipush (v := (13 : Int32)) hx hb d_SkeletonClockModel_resolve_358 (by decide) ?_
  refine va_zald hx hb X.1 hP 1 2 rfl rfl (show ¬ ((13 : Int32) < 0 ∨ 14 ≤ ((13 : Int32)).toNatClampNeg) by decide) d_SkeletonClockModel_resolve_360 ?_
  refine lv_if_eq (tgt := 368) hx hb d_SkeletonClockModel_resolve_361 rfl (fun hc => ?_) (fun hc => ?_)
  · have he := ih_t hc he
    refine lv_iconst (v := (0 : Int32)) hx hb d_SkeletonClockModel_resolve_368 (by decide) ?_
    have hl : lv_has ls 12 [(0, .ref a_t), (5, .long x5), (9, .int x9)] := lv_sub hl [0, 1, 2] rfl
    exact w_SkeletonClockModel_resolve_369 a_t a_t_known a_t_value a_t_text a_t_page a_t_names a_t_sort a_t_code a_t_count a_t_around a_t_end a_t_size a_t_there a_t_wish a_t_have a_t_before a_t_open a_t_from t_length t_used t_far t_momentParts t_momentDay t_momentSecond t_momentNano t_momentOffset t_readParts t_readDay t_readSecond t_readNano t_readOffset t_alike t_known t_value x5 x9 (s1 + s2) (0 : Int32) o S hr hlk hA X _ _ ls he hl hP hD hS
  · have he := ih_f hc he
    refine lv_iconst (v := (4 : Int32)) hx hb d_SkeletonClockModel_resolve_364 (by decide) ?_
    refine lv_goto (tgt := 369) hx hb d_SkeletonClockModel_resolve_365 rfl ?_
    have hl : lv_has ls 12 [(0, .ref a_t), (5, .long x5), (9, .int x9)] := lv_sub hl [0, 1, 2] rfl
    exact w_SkeletonClockModel_resolve_369 a_t a_t_known a_t_value a_t_text a_t_page a_t_names a_t_sort a_t_code a_t_count a_t_around a_t_end a_t_size a_t_there a_t_wish a_t_have a_t_before a_t_open a_t_from t_length t_used t_far t_momentParts t_momentDay t_momentSecond t_momentNano t_momentOffset t_readParts t_readDay t_readSecond t_readNano t_readOffset t_alike t_known t_value x5 x9 (s1 + s2) (4 : Int32) o S hr hlk hA X _ _ ls he hl hP hD hS
set_option maxHeartbeats 4000000 in
set_option maxRecDepth 100000 in
theorem w_SkeletonClockModel_resolve_344 {p : Program} {l : Launch} {e : Env} {s : State} {m : MethodId} {args : Array Value} {below : List Frame} {meth : Method} {c : Code} {A : Nat → Prop} {D : va_G} {kk : Nat → ClassId} {st : Nat → Nat} (a_t a_t_known a_t_value a_t_text a_t_page a_t_names a_t_sort a_t_code a_t_count a_t_around a_t_end a_t_size a_t_there a_t_wish a_t_have a_t_before a_t_open a_t_from : Nat) (t_length : Int32) (t_used : Int32) (t_far : Int32) (t_momentParts : Int32) (t_momentDay : Int64) (t_momentSecond : Int32) (t_momentNano : Int32) (t_momentOffset : Int32) (t_readParts : Int32) (t_readDay : Int64) (t_readSecond : Int32) (t_readNano : Int32) (t_readOffset : Int32) (t_alike : Int32) (t_known : Nat → Int32) (t_value : Nat → Int64) (x3 : Int32) (x5 : Int64) (x9 : Int32) (s1 : Int32) (o : Int32 × Int32 × Int64 × Int32 × Int32 × Int32) (S : CallFix p m c b_SkeletonClockModel_resolve 12 s args GW y_SkeletonClockModel_resolve.cls) (hr : meth.sig.returnType = (some .boolean)) (hlk : meth.locks = false) (hA : ∀ q, s.heap.size ≤ q → A q) (X : KX D kk st A s) (H : Heap) (locs : List Loc) (ls : Array Slot) (he : jn_SkeletonClockModel_resolve_344 t_readParts t_readDay t_readSecond t_readNano t_readOffset t_known t_value x3 x5 x9 s1 = some o) (hl : lv_has ls 12 [(0, .ref a_t), (3, .int x3), (5, .long x5), (9, .int x9)]) (hP : va_P D classes [(a_t, .inr (10, [.int t_length, .ref a_t_text, .int t_used, .ref a_t_page, .ref a_t_names, .ref a_t_sort, .ref a_t_code, .ref a_t_count, .ref a_t_around, .ref a_t_end, .ref a_t_size, .ref a_t_there, .ref a_t_wish, .ref a_t_have, .int t_far, .int t_momentParts, .long t_momentDay, .int t_momentSecond, .int t_momentNano, .int t_momentOffset, .int t_readParts, .long t_readDay, .int t_readSecond, .int t_readNano, .int t_readOffset, .ref a_t_known, .ref a_t_value, .ref a_t_before, .ref a_t_open, .ref a_t_from, .int t_alike])), (a_t_known, .inl (kk 2, 14, .inl t_known)), (a_t_value, .inl (kk 3, 14, .inr (.inl t_value)))] H) (hD : va_D A [(a_t, .inr (10, [.int t_length, .ref a_t_text, .int t_used, .ref a_t_page, .ref a_t_names, .ref a_t_sort, .ref a_t_code, .ref a_t_count, .ref a_t_around, .ref a_t_end, .ref a_t_size, .ref a_t_there, .ref a_t_wish, .ref a_t_have, .int t_far, .int t_momentParts, .long t_momentDay, .int t_momentSecond, .int t_momentNano, .int t_momentOffset, .int t_readParts, .long t_readDay, .int t_readSecond, .int t_readNano, .int t_readOffset, .ref a_t_known, .ref a_t_value, .ref a_t_before, .ref a_t_open, .ref a_t_from, .int t_alike])), (a_t_known, .inl (kk 2, 14, .inl t_known)), (a_t_value, .inl (kk 3, 14, .inr (.inl t_value)))]) (hS : va_S A s.heap H locs) : W p l e rm_SkeletonClockModel_resolve s m args below meth c H locs 0 0 (MQ below (KQi D kk o.1 [(a_t, .inr (10, [.int t_length, .ref a_t_text, .int t_used, .ref a_t_page, .ref a_t_names, .ref a_t_sort, .ref a_t_code, .ref a_t_count, .ref a_t_around, .ref a_t_end, .ref a_t_size, .ref a_t_there, .ref a_t_wish, .ref a_t_have, .int t_far, .int t_momentParts, .long t_momentDay, .int t_momentSecond, .int t_momentNano, .int t_momentOffset, .int o.2.1, .long o.2.2.1, .int o.2.2.2.1, .int o.2.2.2.2.1, .int o.2.2.2.2.2, .ref a_t_known, .ref a_t_value, .ref a_t_before, .ref a_t_open, .ref a_t_from, .int t_alike])), (a_t_known, .inl (kk 2, 14, .inl t_known)), (a_t_value, .inl (kk 3, 14, .inr (.inl t_value)))] A) args s 0 0 A) (F0 m 344 ls [.int s1, .ref a_t]) := by
  have hx := S.1
  have hb := S.2.1
  unfold jn_SkeletonClockModel_resolve_344 at he
  refine lv_iload_n hx hb d_SkeletonClockModel_resolve_344 rfl (lv_at hl 1 rfl) ?_
  refine lv_if_eq (tgt := 352) hx hb d_SkeletonClockModel_resolve_345 rfl (fun hc => ?_) (fun hc => ?_)
  · have he := ih_t hc he
    refine lv_iconst (v := (0 : Int32)) hx hb d_SkeletonClockModel_resolve_352 (by decide) ?_
    have hl : lv_has ls 12 [(0, .ref a_t), (5, .long x5), (9, .int x9)] := lv_sub hl [0, 2, 3] rfl
    exact w_SkeletonClockModel_resolve_353 a_t a_t_known a_t_value a_t_text a_t_page a_t_names a_t_sort a_t_code a_t_count a_t_around a_t_end a_t_size a_t_there a_t_wish a_t_have a_t_before a_t_open a_t_from t_length t_used t_far t_momentParts t_momentDay t_momentSecond t_momentNano t_momentOffset t_readParts t_readDay t_readSecond t_readNano t_readOffset t_alike t_known t_value x5 x9 s1 (0 : Int32) o S hr hlk hA X _ _ ls he hl hP hD hS
  · have he := ih_f hc he
    refine lv_iconst (v := (2 : Int32)) hx hb d_SkeletonClockModel_resolve_348 (by decide) ?_
    refine lv_goto (tgt := 353) hx hb d_SkeletonClockModel_resolve_349 rfl ?_
    have hl : lv_has ls 12 [(0, .ref a_t), (5, .long x5), (9, .int x9)] := lv_sub hl [0, 2, 3] rfl
    exact w_SkeletonClockModel_resolve_353 a_t a_t_known a_t_value a_t_text a_t_page a_t_names a_t_sort a_t_code a_t_count a_t_around a_t_end a_t_size a_t_there a_t_wish a_t_have a_t_before a_t_open a_t_from t_length t_used t_far t_momentParts t_momentDay t_momentSecond t_momentNano t_momentOffset t_readParts t_readDay t_readSecond t_readNano t_readOffset t_alike t_known t_value x5 x9 s1 (2 : Int32) o S hr hlk hA X _ _ ls he hl hP hD hS
set_option maxHeartbeats 4000000 in
set_option maxRecDepth 100000 in
theorem w_SkeletonClockModel_resolve_279 {p : Program} {l : Launch} {e : Env} {s : State} {m : MethodId} {args : Array Value} {below : List Frame} {meth : Method} {c : Code} {A : Nat → Prop} {D : va_G} {kk : Nat → ClassId} {st : Nat → Nat} (a_t a_t_known a_t_value a_t_text a_t_page a_t_names a_t_sort a_t_code a_t_count a_t_around a_t_end a_t_size a_t_there a_t_wish a_t_have a_t_before a_t_open a_t_from : Nat) (t_length : Int32) (t_used : Int32) (t_far : Int32) (t_momentParts : Int32) (t_momentDay : Int64) (t_momentSecond : Int32) (t_momentNano : Int32) (t_momentOffset : Int32) (t_readParts : Int32) (t_readDay : Int64) (t_readSecond : Int32) (t_readNano : Int32) (t_readOffset : Int32) (t_alike : Int32) (t_known : Nat → Int32) (t_value : Nat → Int64) (x2 : Int32) (x3 : Int32) (x5 : Int64) (x9 : Int32) (s0 : Int32) (o : Int32 × Int32 × Int64 × Int32 × Int32 × Int32) (S : CallFix p m c b_SkeletonClockModel_resolve 12 s args GW y_SkeletonClockModel_resolve.cls) (hr : meth.sig.returnType = (some .boolean)) (hlk : meth.locks = false) (hA : ∀ q, s.heap.size ≤ q → A q) (X : KX D kk st A s) (H : Heap) (locs : List Loc) (ls : Array Slot) (he : jn_SkeletonClockModel_resolve_279 t_readParts t_readDay t_readSecond t_readNano t_readOffset t_known t_value x2 x3 x5 x9 s0 = some o) (hl : lv_has ls 12 [(0, .ref a_t), (2, .int x2), (3, .int x3), (5, .long x5), (9, .int x9)]) (hP : va_P D classes [(a_t, .inr (10, [.int t_length, .ref a_t_text, .int t_used, .ref a_t_page, .ref a_t_names, .ref a_t_sort, .ref a_t_code, .ref a_t_count, .ref a_t_around, .ref a_t_end, .ref a_t_size, .ref a_t_there, .ref a_t_wish, .ref a_t_have, .int t_far, .int t_momentParts, .long t_momentDay, .int t_momentSecond, .int t_momentNano, .int t_momentOffset, .int t_readParts, .long t_readDay, .int t_readSecond, .int t_readNano, .int t_readOffset, .ref a_t_known, .ref a_t_value, .ref a_t_before, .ref a_t_open, .ref a_t_from, .int t_alike])), (a_t_known, .inl (kk 2, 14, .inl t_known)), (a_t_value, .inl (kk 3, 14, .inr (.inl t_value)))] H) (hD : va_D A [(a_t, .inr (10, [.int t_length, .ref a_t_text, .int t_used, .ref a_t_page, .ref a_t_names, .ref a_t_sort, .ref a_t_code, .ref a_t_count, .ref a_t_around, .ref a_t_end, .ref a_t_size, .ref a_t_there, .ref a_t_wish, .ref a_t_have, .int t_far, .int t_momentParts, .long t_momentDay, .int t_momentSecond, .int t_momentNano, .int t_momentOffset, .int t_readParts, .long t_readDay, .int t_readSecond, .int t_readNano, .int t_readOffset, .ref a_t_known, .ref a_t_value, .ref a_t_before, .ref a_t_open, .ref a_t_from, .int t_alike])), (a_t_known, .inl (kk 2, 14, .inl t_known)), (a_t_value, .inl (kk 3, 14, .inr (.inl t_value)))]) (hS : va_S A s.heap H locs) : W p l e rm_SkeletonClockModel_resolve s m args below meth c H locs 0 0 (MQ below (KQi D kk o.1 [(a_t, .inr (10, [.int t_length, .ref a_t_text, .int t_used, .ref a_t_page, .ref a_t_names, .ref a_t_sort, .ref a_t_code, .ref a_t_count, .ref a_t_around, .ref a_t_end, .ref a_t_size, .ref a_t_there, .ref a_t_wish, .ref a_t_have, .int t_far, .int t_momentParts, .long t_momentDay, .int t_momentSecond, .int t_momentNano, .int t_momentOffset, .int o.2.1, .long o.2.2.1, .int o.2.2.2.1, .int o.2.2.2.2.1, .int o.2.2.2.2.2, .ref a_t_known, .ref a_t_value, .ref a_t_before, .ref a_t_open, .ref a_t_from, .int t_alike])), (a_t_known, .inl (kk 2, 14, .inl t_known)), (a_t_value, .inl (kk 3, 14, .inr (.inl t_value)))] A) args s 0 0 A) (F0 m 279 ls [.int s0]) := by
  have hx := S.1
  have hb := S.2.1
  unfold jn_SkeletonClockModel_resolve_279 at he
  refine lv_istore hx hb d_SkeletonClockModel_resolve_279 hl (by decide) rfl (fun ls hl => ?_)
  have hl : lv_has ls 12 [(10, .int s0), (0, .ref a_t), (2, .int x2), (3, .int x3), (5, .long x5), (9, .int x9)] := hl
  refine lv_bipush (v := (8 : Int32)) hx hb d_SkeletonClockModel_resolve_281 (by decide) ?_
  refine lv_istore hx hb d_SkeletonClockModel_resolve_283 hl (by decide) rfl (fun ls hl => ?_)
  have hl : lv_has ls 12 [(11, .int (8 : Int32)), (10, .int s0), (0, .ref a_t), (2, .int x2), (3, .int x3), (5, .long x5), (9, .int x9)] := hl
  obtain ⟨u23, e24, he⟩ := ih_b he
  have hl : lv_has ls 12 [(0, .ref a_t), (2, .int x2), (3, .int x3), (5, .long x5), (9, .int x9), (10, .int s0), (11, .int (8 : Int32))] := lv_sub hl [2, 3, 4, 5, 6, 1, 0] rfl
  rcases u23 with o25 | v26
  · have he := sel_l he
    cases he
    exact w_SkeletonClockModel_resolve_285 a_t a_t_known a_t_value a_t_text a_t_page a_t_names a_t_sort a_t_code a_t_count a_t_around a_t_end a_t_size a_t_there a_t_wish a_t_have a_t_before a_t_open a_t_from t_length t_used t_far t_momentParts t_momentDay t_momentSecond t_momentNano t_momentOffset t_readParts t_readDay t_readSecond t_readNano t_readOffset t_alike t_known t_value x2 x3 x5 x9 s0 S hr hlk hA X FU (8 : Int32) _ _ _ ls e24 hl hP hD hS (fun o h => by cases h; rfl) (fun v h => by cases h)
  · have he := sel_r he
    refine w_SkeletonClockModel_resolve_285 a_t a_t_known a_t_value a_t_text a_t_page a_t_names a_t_sort a_t_code a_t_count a_t_around a_t_end a_t_size a_t_there a_t_wish a_t_have a_t_before a_t_open a_t_from t_length t_used t_far t_momentParts t_momentDay t_momentSecond t_momentNano t_momentOffset t_readParts t_readDay t_readSecond t_readNano t_readOffset t_alike t_known t_value x2 x3 x5 x9 s0 S hr hlk hA X FU (8 : Int32) _ _ _ ls e24 hl hP hD hS (fun o h => by cases h) (fun v h H locs ls hl hP hD hS => ?_)
    have h := Sum.inr.inj h
    subst h
    refine lv_aload_n hx hb d_SkeletonClockModel_resolve_334 rfl (lv_at hl 0 rfl) ?_
    refine lv_iload_n hx hb d_SkeletonClockModel_resolve_335 rfl (lv_at hl 1 rfl) ?_
    refine lv_if_eq (tgt := 343) hx hb d_SkeletonClockModel_resolve_336 rfl (fun hc => ?_) (fun hc => ?_)
    · have he := ih_t hc he
      refine lv_iconst (v := (0 : Int32)) hx hb d_SkeletonClockModel_resolve_343 (by decide) ?_
      have hl : lv_has ls 12 [(0, .ref a_t), (3, .int x3), (5, .long x5), (9, .int x9)] := lv_sub hl [0, 2, 3, 4] rfl
      exact w_SkeletonClockModel_resolve_344 a_t a_t_known a_t_value a_t_text a_t_page a_t_names a_t_sort a_t_code a_t_count a_t_around a_t_end a_t_size a_t_there a_t_wish a_t_have a_t_before a_t_open a_t_from t_length t_used t_far t_momentParts t_momentDay t_momentSecond t_momentNano t_momentOffset t_readParts t_readDay t_readSecond t_readNano t_readOffset t_alike t_known t_value x3 x5 x9 (0 : Int32) o S hr hlk hA X _ _ ls he hl hP hD hS
    · have he := ih_f hc he
      refine lv_iconst (v := (1 : Int32)) hx hb d_SkeletonClockModel_resolve_339 (by decide) ?_
      refine lv_goto (tgt := 344) hx hb d_SkeletonClockModel_resolve_340 rfl ?_
      have hl : lv_has ls 12 [(0, .ref a_t), (3, .int x3), (5, .long x5), (9, .int x9)] := lv_sub hl [0, 2, 3, 4] rfl
      exact w_SkeletonClockModel_resolve_344 a_t a_t_known a_t_value a_t_text a_t_page a_t_names a_t_sort a_t_code a_t_count a_t_around a_t_end a_t_size a_t_there a_t_wish a_t_have a_t_before a_t_open a_t_from t_length t_used t_far t_momentParts t_momentDay t_momentSecond t_momentNano t_momentOffset t_readParts t_readDay t_readSecond t_readNano t_readOffset t_alike t_known t_value x3 x5 x9 (1 : Int32) o S hr hlk hA X _ _ ls he hl hP hD hS
set_option maxHeartbeats 4000000 in
set_option maxRecDepth 100000 in
theorem w_SkeletonClockModel_resolve_278 {p : Program} {l : Launch} {e : Env} {s : State} {m : MethodId} {args : Array Value} {below : List Frame} {meth : Method} {c : Code} {A : Nat → Prop} {D : va_G} {kk : Nat → ClassId} {st : Nat → Nat} (a_t a_t_known a_t_value a_t_text a_t_page a_t_names a_t_sort a_t_code a_t_count a_t_around a_t_end a_t_size a_t_there a_t_wish a_t_have a_t_before a_t_open a_t_from : Nat) (t_length : Int32) (t_used : Int32) (t_far : Int32) (t_momentParts : Int32) (t_momentDay : Int64) (t_momentSecond : Int32) (t_momentNano : Int32) (t_momentOffset : Int32) (t_readParts : Int32) (t_readDay : Int64) (t_readSecond : Int32) (t_readNano : Int32) (t_readOffset : Int32) (t_alike : Int32) (t_known : Nat → Int32) (t_value : Nat → Int64) (x2 : Int32) (x3 : Int32) (x5 : Int64) (x9 : Int32) (o : Int32 × Int32 × Int64 × Int32 × Int32 × Int32) (S : CallFix p m c b_SkeletonClockModel_resolve 12 s args GW y_SkeletonClockModel_resolve.cls) (hr : meth.sig.returnType = (some .boolean)) (hlk : meth.locks = false) (hA : ∀ q, s.heap.size ≤ q → A q) (X : KX D kk st A s) (H : Heap) (locs : List Loc) (ls : Array Slot) (he : jn_SkeletonClockModel_resolve_278 t_readParts t_readDay t_readSecond t_readNano t_readOffset t_known t_value x2 x3 x5 x9 = some o) (hl : lv_has ls 12 [(0, .ref a_t), (2, .int x2), (3, .int x3), (5, .long x5), (9, .int x9)]) (hP : va_P D classes [(a_t, .inr (10, [.int t_length, .ref a_t_text, .int t_used, .ref a_t_page, .ref a_t_names, .ref a_t_sort, .ref a_t_code, .ref a_t_count, .ref a_t_around, .ref a_t_end, .ref a_t_size, .ref a_t_there, .ref a_t_wish, .ref a_t_have, .int t_far, .int t_momentParts, .long t_momentDay, .int t_momentSecond, .int t_momentNano, .int t_momentOffset, .int t_readParts, .long t_readDay, .int t_readSecond, .int t_readNano, .int t_readOffset, .ref a_t_known, .ref a_t_value, .ref a_t_before, .ref a_t_open, .ref a_t_from, .int t_alike])), (a_t_known, .inl (kk 2, 14, .inl t_known)), (a_t_value, .inl (kk 3, 14, .inr (.inl t_value)))] H) (hD : va_D A [(a_t, .inr (10, [.int t_length, .ref a_t_text, .int t_used, .ref a_t_page, .ref a_t_names, .ref a_t_sort, .ref a_t_code, .ref a_t_count, .ref a_t_around, .ref a_t_end, .ref a_t_size, .ref a_t_there, .ref a_t_wish, .ref a_t_have, .int t_far, .int t_momentParts, .long t_momentDay, .int t_momentSecond, .int t_momentNano, .int t_momentOffset, .int t_readParts, .long t_readDay, .int t_readSecond, .int t_readNano, .int t_readOffset, .ref a_t_known, .ref a_t_value, .ref a_t_before, .ref a_t_open, .ref a_t_from, .int t_alike])), (a_t_known, .inl (kk 2, 14, .inl t_known)), (a_t_value, .inl (kk 3, 14, .inr (.inl t_value)))]) (hS : va_S A s.heap H locs) : W p l e rm_SkeletonClockModel_resolve s m args below meth c H locs 0 0 (MQ below (KQi D kk o.1 [(a_t, .inr (10, [.int t_length, .ref a_t_text, .int t_used, .ref a_t_page, .ref a_t_names, .ref a_t_sort, .ref a_t_code, .ref a_t_count, .ref a_t_around, .ref a_t_end, .ref a_t_size, .ref a_t_there, .ref a_t_wish, .ref a_t_have, .int t_far, .int t_momentParts, .long t_momentDay, .int t_momentSecond, .int t_momentNano, .int t_momentOffset, .int o.2.1, .long o.2.2.1, .int o.2.2.2.1, .int o.2.2.2.2.1, .int o.2.2.2.2.2, .ref a_t_known, .ref a_t_value, .ref a_t_before, .ref a_t_open, .ref a_t_from, .int t_alike])), (a_t_known, .inl (kk 2, 14, .inl t_known)), (a_t_value, .inl (kk 3, 14, .inr (.inl t_value)))] A) args s 0 0 A) (F0 m 278 ls []) := by
  have hx := S.1
  have hb := S.2.1
  unfold jn_SkeletonClockModel_resolve_278 at he
  refine lv_iconst (v := (0 : Int32)) hx hb d_SkeletonClockModel_resolve_278 (by decide) ?_
  have hl : lv_has ls 12 [(0, .ref a_t), (2, .int x2), (3, .int x3), (5, .long x5), (9, .int x9)] := lv_sub hl [0, 1, 2, 3, 4] rfl
  exact w_SkeletonClockModel_resolve_279 a_t a_t_known a_t_value a_t_text a_t_page a_t_names a_t_sort a_t_code a_t_count a_t_around a_t_end a_t_size a_t_there a_t_wish a_t_have a_t_before a_t_open a_t_from t_length t_used t_far t_momentParts t_momentDay t_momentSecond t_momentNano t_momentOffset t_readParts t_readDay t_readSecond t_readNano t_readOffset t_alike t_known t_value x2 x3 x5 x9 (0 : Int32) o S hr hlk hA X _ _ ls he hl hP hD hS
set_option maxHeartbeats 4000000 in
set_option maxRecDepth 100000 in
theorem w_SkeletonClockModel_resolve_177 {p : Program} {l : Launch} {e : Env} {s : State} {m : MethodId} {args : Array Value} {below : List Frame} {meth : Method} {c : Code} {A : Nat → Prop} {D : va_G} {kk : Nat → ClassId} {st : Nat → Nat} (a_t a_t_known a_t_value a_t_text a_t_page a_t_names a_t_sort a_t_code a_t_count a_t_around a_t_end a_t_size a_t_there a_t_wish a_t_have a_t_before a_t_open a_t_from : Nat) (t_length : Int32) (t_used : Int32) (t_far : Int32) (t_momentParts : Int32) (t_momentDay : Int64) (t_momentSecond : Int32) (t_momentNano : Int32) (t_momentOffset : Int32) (t_readParts : Int32) (t_readDay : Int64) (t_readSecond : Int32) (t_readNano : Int32) (t_readOffset : Int32) (t_alike : Int32) (t_known : Nat → Int32) (t_value : Nat → Int64) (x2 : Int32) (x3 : Int32) (x4 : Int32) (x7 : Int64) (s0 : Int64) (o : Int32 × Int32 × Int64 × Int32 × Int32 × Int32) (S : CallFix p m c b_SkeletonClockModel_resolve 12 s args GW y_SkeletonClockModel_resolve.cls) (hr : meth.sig.returnType = (some .boolean)) (hlk : meth.locks = false) (hA : ∀ q, s.heap.size ≤ q → A q) (X : KX D kk st A s) (H : Heap) (locs : List Loc) (ls : Array Slot) (he : jn_SkeletonClockModel_resolve_177 t_readParts t_readDay t_readSecond t_readNano t_readOffset t_known t_value x2 x3 x4 x7 s0 = some o) (hl : lv_has ls 12 [(0, .ref a_t), (2, .int x2), (3, .int x3), (4, .int x4), (7, .long x7)]) (hP : va_P D classes [(a_t, .inr (10, [.int t_length, .ref a_t_text, .int t_used, .ref a_t_page, .ref a_t_names, .ref a_t_sort, .ref a_t_code, .ref a_t_count, .ref a_t_around, .ref a_t_end, .ref a_t_size, .ref a_t_there, .ref a_t_wish, .ref a_t_have, .int t_far, .int t_momentParts, .long t_momentDay, .int t_momentSecond, .int t_momentNano, .int t_momentOffset, .int t_readParts, .long t_readDay, .int t_readSecond, .int t_readNano, .int t_readOffset, .ref a_t_known, .ref a_t_value, .ref a_t_before, .ref a_t_open, .ref a_t_from, .int t_alike])), (a_t_known, .inl (kk 2, 14, .inl t_known)), (a_t_value, .inl (kk 3, 14, .inr (.inl t_value)))] H) (hD : va_D A [(a_t, .inr (10, [.int t_length, .ref a_t_text, .int t_used, .ref a_t_page, .ref a_t_names, .ref a_t_sort, .ref a_t_code, .ref a_t_count, .ref a_t_around, .ref a_t_end, .ref a_t_size, .ref a_t_there, .ref a_t_wish, .ref a_t_have, .int t_far, .int t_momentParts, .long t_momentDay, .int t_momentSecond, .int t_momentNano, .int t_momentOffset, .int t_readParts, .long t_readDay, .int t_readSecond, .int t_readNano, .int t_readOffset, .ref a_t_known, .ref a_t_value, .ref a_t_before, .ref a_t_open, .ref a_t_from, .int t_alike])), (a_t_known, .inl (kk 2, 14, .inl t_known)), (a_t_value, .inl (kk 3, 14, .inr (.inl t_value)))]) (hS : va_S A s.heap H locs) : W p l e rm_SkeletonClockModel_resolve s m args below meth c H locs 0 0 (MQ below (KQi D kk o.1 [(a_t, .inr (10, [.int t_length, .ref a_t_text, .int t_used, .ref a_t_page, .ref a_t_names, .ref a_t_sort, .ref a_t_code, .ref a_t_count, .ref a_t_around, .ref a_t_end, .ref a_t_size, .ref a_t_there, .ref a_t_wish, .ref a_t_have, .int t_far, .int t_momentParts, .long t_momentDay, .int t_momentSecond, .int t_momentNano, .int t_momentOffset, .int o.2.1, .long o.2.2.1, .int o.2.2.2.1, .int o.2.2.2.2.1, .int o.2.2.2.2.2, .ref a_t_known, .ref a_t_value, .ref a_t_before, .ref a_t_open, .ref a_t_from, .int t_alike])), (a_t_known, .inl (kk 2, 14, .inl t_known)), (a_t_value, .inl (kk 3, 14, .inr (.inl t_value)))] A) args s 0 0 A) (F0 m 177 ls [.long s0]) := by
  have hx := S.1
  have hb := S.2.1
  unfold jn_SkeletonClockModel_resolve_177 at he
  refine lv_lstore hx hb d_SkeletonClockModel_resolve_177 hl (by decide) rfl (fun ls hl => ?_)
  have hl : lv_has ls 12 [(5, .long s0), (0, .ref a_t), (2, .int x2), (3, .int x3), (4, .int x4), (7, .long x7)] := hl
  refine lv_lload hx hb d_SkeletonClockModel_resolve_179 (lv_at hl 5 rfl) ?_
  refine lv_ldc2 (v := (86400 : Int64)) hx hb S.2.2.2.1 (S.2.2.2.2 _ gm_5_68) d_SkeletonClockModel_resolve_181 ?_
  refine lv_lrem hx hb d_SkeletonClockModel_resolve_184 (by decide) ?_
  refine lv_l2i hx hb d_SkeletonClockModel_resolve_185 rfl ?_
  refine lv_istore hx hb d_SkeletonClockModel_resolve_186 hl (by decide) rfl (fun ls hl => ?_)
  have hl : lv_has ls 12 [(9, .int (Int64.toInt32 (x7 - x7 / (86400 : Int64) * (86400 : Int64)))), (5, .long s0), (0, .ref a_t), (2, .int x2), (3, .int x3), (4, .int x4), (7, .long x7)] := hl
  refine lv_iconst (v := (0 : Int32)) hx hb d_SkeletonClockModel_resolve_188 (by decide) ?_
  refine lv_istore hx hb d_SkeletonClockModel_resolve_189 hl (by decide) rfl (fun ls hl => ?_)
  have hl : lv_has ls 12 [(10, .int (0 : Int32)), (9, .int (Int64.toInt32 (x7 - x7 / (86400 : Int64) * (86400 : Int64)))), (5, .long s0), (0, .ref a_t), (2, .int x2), (3, .int x3), (4, .int x4), (7, .long x7)] := hl
  obtain ⟨u15, e16, he⟩ := ih_b he
  have hl : lv_has ls 12 [(0, .ref a_t), (2, .int x2), (3, .int x3), (4, .int x4), (5, .long s0), (9, .int (Int64.toInt32 (x7 - x7 / (86400 : Int64) * (86400 : Int64)))), (10, .int (0 : Int32))] := lv_sub hl [3, 4, 5, 6, 2, 1, 0] rfl
  rcases u15 with o17 | v18
  · have he := sel_l he
    cases he
    exact w_SkeletonClockModel_resolve_191 a_t a_t_known a_t_value a_t_text a_t_page a_t_names a_t_sort a_t_code a_t_count a_t_around a_t_end a_t_size a_t_there a_t_wish a_t_have a_t_before a_t_open a_t_from t_length t_used t_far t_momentParts t_momentDay t_momentSecond t_momentNano t_momentOffset t_readParts t_readDay t_readSecond t_readNano t_readOffset t_alike t_known t_value x2 x3 x4 s0 (Int64.toInt32 (x7 - x7 / (86400 : Int64) * (86400 : Int64))) S hr hlk hA X FU (0 : Int32) _ _ _ ls e16 hl hP hD hS (fun o h => by cases h; rfl) (fun v h => by cases h)
  · have he := sel_r he
    refine w_SkeletonClockModel_resolve_191 a_t a_t_known a_t_value a_t_text a_t_page a_t_names a_t_sort a_t_code a_t_count a_t_around a_t_end a_t_size a_t_there a_t_wish a_t_have a_t_before a_t_open a_t_from t_length t_used t_far t_momentParts t_momentDay t_momentSecond t_momentNano t_momentOffset t_readParts t_readDay t_readSecond t_readNano t_readOffset t_alike t_known t_value x2 x3 x4 s0 (Int64.toInt32 (x7 - x7 / (86400 : Int64) * (86400 : Int64))) S hr hlk hA X FU (0 : Int32) _ _ _ ls e16 hl hP hD hS (fun o h => by cases h) (fun v h H locs ls hl hP hD hS => ?_)
    have h := Sum.inr.inj h
    subst h
    refine lv_aload_n hx hb d_SkeletonClockModel_resolve_244 rfl (lv_at hl 0 rfl) ?_
    refine k_get S X us_SkeletonClockModel hP 0 rfl rfl 25 (by decide) gm_4_176 rfl d_SkeletonClockModel_resolve_245 ?_
    refine lv_bipush (v := (7 : Int32)) hx hb d_SkeletonClockModel_resolve_248 (by decide) ?_
    refine va_zald hx hb X.1 hP 1 2 rfl rfl (show ¬ ((7 : Int32) < 0 ∨ 14 ≤ ((7 : Int32)).toNatClampNeg) by decide) d_SkeletonClockModel_resolve_250 ?_
    refine lv_if_ne (tgt := 278) hx hb d_SkeletonClockModel_resolve_251 rfl (fun hc => ?_) (fun hc => ?_)
    · have he := ih_f hc he
      have hl : lv_has ls 12 [(0, .ref a_t), (2, .int x2), (3, .int x3), (5, .long s0), (9, .int (Int64.toInt32 (x7 - x7 / (86400 : Int64) * (86400 : Int64))))] := lv_sub hl [0, 1, 2, 4, 5] rfl
      exact w_SkeletonClockModel_resolve_278 a_t a_t_known a_t_value a_t_text a_t_page a_t_names a_t_sort a_t_code a_t_count a_t_around a_t_end a_t_size a_t_there a_t_wish a_t_have a_t_before a_t_open a_t_from t_length t_used t_far t_momentParts t_momentDay t_momentSecond t_momentNano t_momentOffset t_readParts t_readDay t_readSecond t_readNano t_readOffset t_alike t_known t_value x2 x3 s0 (Int64.toInt32 (x7 - x7 / (86400 : Int64) * (86400 : Int64))) o S hr hlk hA X _ _ ls he hl hP hD hS
    · have he := ih_t hc he
      refine lv_aload_n hx hb d_SkeletonClockModel_resolve_254 rfl (lv_at hl 0 rfl) ?_
      refine k_get S X us_SkeletonClockModel hP 0 rfl rfl 25 (by decide) gm_4_176 rfl d_SkeletonClockModel_resolve_255 ?_
      refine lv_bipush (v := (8 : Int32)) hx hb d_SkeletonClockModel_resolve_258 (by decide) ?_
      refine va_zald hx hb X.1 hP 1 2 rfl rfl (show ¬ ((8 : Int32) < 0 ∨ 14 ≤ ((8 : Int32)).toNatClampNeg) by decide) d_SkeletonClockModel_resolve_260 ?_
      refine lv_if_eq (tgt := 278) hx hb d_SkeletonClockModel_resolve_261 rfl (fun hc => ?_) (fun hc => ?_)
      · have he := ih_t hc he
        have hl : lv_has ls 12 [(0, .ref a_t), (2, .int x2), (3, .int x3), (5, .long s0), (9, .int (Int64.toInt32 (x7 - x7 / (86400 : Int64) * (86400 : Int64))))] := lv_sub hl [0, 1, 2, 4, 5] rfl
        exact w_SkeletonClockModel_resolve_278 a_t a_t_known a_t_value a_t_text a_t_page a_t_names a_t_sort a_t_code a_t_count a_t_around a_t_end a_t_size a_t_there a_t_wish a_t_have a_t_before a_t_open a_t_from t_length t_used t_far t_momentParts t_momentDay t_momentSecond t_momentNano t_momentOffset t_readParts t_readDay t_readSecond t_readNano t_readOffset t_alike t_known t_value x2 x3 s0 (Int64.toInt32 (x7 - x7 / (86400 : Int64) * (86400 : Int64))) o S hr hlk hA X _ _ ls he hl hP hD hS
      · have he := ih_f hc he
        refine lv_aload_n hx hb d_SkeletonClockModel_resolve_264 rfl (lv_at hl 0 rfl) ?_
        refine k_get S X us_SkeletonClockModel hP 0 rfl rfl 25 (by decide) gm_4_176 rfl d_SkeletonClockModel_resolve_265 ?_
        refine lv_bipush (v := (9 : Int32)) hx hb d_SkeletonClockModel_resolve_268 (by decide) ?_
        refine va_zald hx hb X.1 hP 1 2 rfl rfl (show ¬ ((9 : Int32) < 0 ∨ 14 ≤ ((9 : Int32)).toNatClampNeg) by decide) d_SkeletonClockModel_resolve_270 ?_
        refine lv_if_eq (tgt := 278) hx hb d_SkeletonClockModel_resolve_271 rfl (fun hc => ?_) (fun hc => ?_)
        · have he := ih_t hc he
          have hl : lv_has ls 12 [(0, .ref a_t), (2, .int x2), (3, .int x3), (5, .long s0), (9, .int (Int64.toInt32 (x7 - x7 / (86400 : Int64) * (86400 : Int64))))] := lv_sub hl [0, 1, 2, 4, 5] rfl
          exact w_SkeletonClockModel_resolve_278 a_t a_t_known a_t_value a_t_text a_t_page a_t_names a_t_sort a_t_code a_t_count a_t_around a_t_end a_t_size a_t_there a_t_wish a_t_have a_t_before a_t_open a_t_from t_length t_used t_far t_momentParts t_momentDay t_momentSecond t_momentNano t_momentOffset t_readParts t_readDay t_readSecond t_readNano t_readOffset t_alike t_known t_value x2 x3 s0 (Int64.toInt32 (x7 - x7 / (86400 : Int64) * (86400 : Int64))) o S hr hlk hA X _ _ ls he hl hP hD hS
        · have he := ih_f hc he
          refine lv_iconst (v := (1 : Int32)) hx hb d_SkeletonClockModel_resolve_274 (by decide) ?_
          refine lv_goto (tgt := 279) hx hb d_SkeletonClockModel_resolve_275 rfl ?_
          have hl : lv_has ls 12 [(0, .ref a_t), (2, .int x2), (3, .int x3), (5, .long s0), (9, .int (Int64.toInt32 (x7 - x7 / (86400 : Int64) * (86400 : Int64))))] := lv_sub hl [0, 1, 2, 4, 5] rfl
          exact w_SkeletonClockModel_resolve_279 a_t a_t_known a_t_value a_t_text a_t_page a_t_names a_t_sort a_t_code a_t_count a_t_around a_t_end a_t_size a_t_there a_t_wish a_t_have a_t_before a_t_open a_t_from t_length t_used t_far t_momentParts t_momentDay t_momentSecond t_momentNano t_momentOffset t_readParts t_readDay t_readSecond t_readNano t_readOffset t_alike t_known t_value x2 x3 s0 (Int64.toInt32 (x7 - x7 / (86400 : Int64) * (86400 : Int64))) (1 : Int32) o S hr hlk hA X _ _ ls he hl hP hD hS
set_option maxHeartbeats 4000000 in
set_option maxRecDepth 100000 in
theorem w_SkeletonClockModel_resolve_157 {p : Program} {l : Launch} {e : Env} {s : State} {m : MethodId} {args : Array Value} {below : List Frame} {meth : Method} {c : Code} {A : Nat → Prop} {D : va_G} {kk : Nat → ClassId} {st : Nat → Nat} (a_t a_t_known a_t_value a_t_text a_t_page a_t_names a_t_sort a_t_code a_t_count a_t_around a_t_end a_t_size a_t_there a_t_wish a_t_have a_t_before a_t_open a_t_from : Nat) (t_length : Int32) (t_used : Int32) (t_far : Int32) (t_momentParts : Int32) (t_momentDay : Int64) (t_momentSecond : Int32) (t_momentNano : Int32) (t_momentOffset : Int32) (t_readParts : Int32) (t_readDay : Int64) (t_readSecond : Int32) (t_readNano : Int32) (t_readOffset : Int32) (t_alike : Int32) (t_known : Nat → Int32) (t_value : Nat → Int64) (x2 : Int32) (x3 : Int32) (x4 : Int32) (x5 : Int64) (s0 : Int64) (s1 : Int64) (o : Int32 × Int32 × Int64 × Int32 × Int32 × Int32) (S : CallFix p m c b_SkeletonClockModel_resolve 12 s args GW y_SkeletonClockModel_resolve.cls) (hr : meth.sig.returnType = (some .boolean)) (hlk : meth.locks = false) (hA : ∀ q, s.heap.size ≤ q → A q) (X : KX D kk st A s) (H : Heap) (locs : List Loc) (ls : Array Slot) (he : jn_SkeletonClockModel_resolve_157 t_readParts t_readDay t_readSecond t_readNano t_readOffset t_known t_value x2 x3 x4 x5 s0 s1 = some o) (hl : lv_has ls 12 [(0, .ref a_t), (2, .int x2), (3, .int x3), (4, .int x4), (5, .long x5)]) (hP : va_P D classes [(a_t, .inr (10, [.int t_length, .ref a_t_text, .int t_used, .ref a_t_page, .ref a_t_names, .ref a_t_sort, .ref a_t_code, .ref a_t_count, .ref a_t_around, .ref a_t_end, .ref a_t_size, .ref a_t_there, .ref a_t_wish, .ref a_t_have, .int t_far, .int t_momentParts, .long t_momentDay, .int t_momentSecond, .int t_momentNano, .int t_momentOffset, .int t_readParts, .long t_readDay, .int t_readSecond, .int t_readNano, .int t_readOffset, .ref a_t_known, .ref a_t_value, .ref a_t_before, .ref a_t_open, .ref a_t_from, .int t_alike])), (a_t_known, .inl (kk 2, 14, .inl t_known)), (a_t_value, .inl (kk 3, 14, .inr (.inl t_value)))] H) (hD : va_D A [(a_t, .inr (10, [.int t_length, .ref a_t_text, .int t_used, .ref a_t_page, .ref a_t_names, .ref a_t_sort, .ref a_t_code, .ref a_t_count, .ref a_t_around, .ref a_t_end, .ref a_t_size, .ref a_t_there, .ref a_t_wish, .ref a_t_have, .int t_far, .int t_momentParts, .long t_momentDay, .int t_momentSecond, .int t_momentNano, .int t_momentOffset, .int t_readParts, .long t_readDay, .int t_readSecond, .int t_readNano, .int t_readOffset, .ref a_t_known, .ref a_t_value, .ref a_t_before, .ref a_t_open, .ref a_t_from, .int t_alike])), (a_t_known, .inl (kk 2, 14, .inl t_known)), (a_t_value, .inl (kk 3, 14, .inr (.inl t_value)))]) (hS : va_S A s.heap H locs) : W p l e rm_SkeletonClockModel_resolve s m args below meth c H locs 0 0 (MQ below (KQi D kk o.1 [(a_t, .inr (10, [.int t_length, .ref a_t_text, .int t_used, .ref a_t_page, .ref a_t_names, .ref a_t_sort, .ref a_t_code, .ref a_t_count, .ref a_t_around, .ref a_t_end, .ref a_t_size, .ref a_t_there, .ref a_t_wish, .ref a_t_have, .int t_far, .int t_momentParts, .long t_momentDay, .int t_momentSecond, .int t_momentNano, .int t_momentOffset, .int o.2.1, .long o.2.2.1, .int o.2.2.2.1, .int o.2.2.2.2.1, .int o.2.2.2.2.2, .ref a_t_known, .ref a_t_value, .ref a_t_before, .ref a_t_open, .ref a_t_from, .int t_alike])), (a_t_known, .inl (kk 2, 14, .inl t_known)), (a_t_value, .inl (kk 3, 14, .inr (.inl t_value)))] A) args s 0 0 A) (F0 m 157 ls [.long s1, .long s0]) := by
  have hx := S.1
  have hb := S.2.1
  unfold jn_SkeletonClockModel_resolve_157 at he
  refine lv_ladd hx hb d_SkeletonClockModel_resolve_157 ?_
  refine lv_lstore hx hb d_SkeletonClockModel_resolve_158 hl (by decide) rfl (fun ls hl => ?_)
  have hl : lv_has ls 12 [(7, .long (s0 + s1)), (0, .ref a_t), (2, .int x2), (3, .int x3), (4, .int x4), (5, .long x5)] := hl
  refine lv_iload_n hx hb d_SkeletonClockModel_resolve_160 rfl (lv_at hl 2 rfl) ?_
  refine lv_if_eq (tgt := 176) hx hb d_SkeletonClockModel_resolve_161 rfl (fun hc => ?_) (fun hc => ?_)
  · have he := ih_t hc he
    refine lv_lconst (v := (0 : Int64)) hx hb d_SkeletonClockModel_resolve_176 (by decide) ?_
    have hl : lv_has ls 12 [(0, .ref a_t), (2, .int x2), (3, .int x3), (4, .int x4), (7, .long (s0 + s1))] := lv_sub hl [1, 2, 3, 4, 0] rfl
    exact w_SkeletonClockModel_resolve_177 a_t a_t_known a_t_value a_t_text a_t_page a_t_names a_t_sort a_t_code a_t_count a_t_around a_t_end a_t_size a_t_there a_t_wish a_t_have a_t_before a_t_open a_t_from t_length t_used t_far t_momentParts t_momentDay t_momentSecond t_momentNano t_momentOffset t_readParts t_readDay t_readSecond t_readNano t_readOffset t_alike t_known t_value x2 x3 x4 (s0 + s1) (0 : Int64) o S hr hlk hA X _ _ ls he hl hP hD hS
  · have he := ih_f hc he
    refine lv_lload hx hb d_SkeletonClockModel_resolve_164 (lv_at hl 5 rfl) ?_
    refine lv_lload hx hb d_SkeletonClockModel_resolve_166 (lv_at hl 0 rfl) ?_
    refine lv_ldc2 (v := (86400 : Int64)) hx hb S.2.2.2.1 (S.2.2.2.2 _ gm_5_68) d_SkeletonClockModel_resolve_168 ?_
    refine lv_ldiv hx hb d_SkeletonClockModel_resolve_171 (by decide) ?_
    refine lv_ladd hx hb d_SkeletonClockModel_resolve_172 ?_
    refine lv_goto (tgt := 177) hx hb d_SkeletonClockModel_resolve_173 rfl ?_
    have hl : lv_has ls 12 [(0, .ref a_t), (2, .int x2), (3, .int x3), (4, .int x4), (7, .long (s0 + s1))] := lv_sub hl [1, 2, 3, 4, 0] rfl
    exact w_SkeletonClockModel_resolve_177 a_t a_t_known a_t_value a_t_text a_t_page a_t_names a_t_sort a_t_code a_t_count a_t_around a_t_end a_t_size a_t_there a_t_wish a_t_have a_t_before a_t_open a_t_from t_length t_used t_far t_momentParts t_momentDay t_momentSecond t_momentNano t_momentOffset t_readParts t_readDay t_readSecond t_readNano t_readOffset t_alike t_known t_value x2 x3 x4 (s0 + s1) (x5 + ((s0 + s1) / (86400 : Int64))) o S hr hlk hA X _ _ ls he hl hP hD hS
set_option maxHeartbeats 4000000 in
set_option maxRecDepth 100000 in
theorem w_SkeletonClockModel_resolve_134 {p : Program} {l : Launch} {e : Env} {s : State} {m : MethodId} {args : Array Value} {below : List Frame} {meth : Method} {c : Code} {A : Nat → Prop} {D : va_G} {kk : Nat → ClassId} {st : Nat → Nat} (a_t a_t_known a_t_value a_t_text a_t_page a_t_names a_t_sort a_t_code a_t_count a_t_around a_t_end a_t_size a_t_there a_t_wish a_t_have a_t_before a_t_open a_t_from : Nat) (t_length : Int32) (t_used : Int32) (t_far : Int32) (t_momentParts : Int32) (t_momentDay : Int64) (t_momentSecond : Int32) (t_momentNano : Int32) (t_momentOffset : Int32) (t_readParts : Int32) (t_readDay : Int64) (t_readSecond : Int32) (t_readNano : Int32) (t_readOffset : Int32) (t_alike : Int32) (t_known : Nat → Int32) (t_value : Nat → Int64) (x2 : Int32) (x3 : Int32) (x4 : Int32) (x5 : Int64) (s0 : Int64) (s1 : Int64) (s2 : Int64) (o : Int32 × Int32 × Int64 × Int32 × Int32 × Int32) (S : CallFix p m c b_SkeletonClockModel_resolve 12 s args GW y_SkeletonClockModel_resolve.cls) (hr : meth.sig.returnType = (some .boolean)) (hlk : meth.locks = false) (hA : ∀ q, s.heap.size ≤ q → A q) (X : KX D kk st A s) (H : Heap) (locs : List Loc) (ls : Array Slot) (he : jn_SkeletonClockModel_resolve_134 t_readParts t_readDay t_readSecond t_readNano t_readOffset t_known t_value x2 x3 x4 x5 s0 s1 s2 = some o) (hl : lv_has ls 12 [(0, .ref a_t), (2, .int x2), (3, .int x3), (4, .int x4), (5, .long x5)]) (hP : va_P D classes [(a_t, .inr (10, [.int t_length, .ref a_t_text, .int t_used, .ref a_t_page, .ref a_t_names, .ref a_t_sort, .ref a_t_code, .ref a_t_count, .ref a_t_around, .ref a_t_end, .ref a_t_size, .ref a_t_there, .ref a_t_wish, .ref a_t_have, .int t_far, .int t_momentParts, .long t_momentDay, .int t_momentSecond, .int t_momentNano, .int t_momentOffset, .int t_readParts, .long t_readDay, .int t_readSecond, .int t_readNano, .int t_readOffset, .ref a_t_known, .ref a_t_value, .ref a_t_before, .ref a_t_open, .ref a_t_from, .int t_alike])), (a_t_known, .inl (kk 2, 14, .inl t_known)), (a_t_value, .inl (kk 3, 14, .inr (.inl t_value)))] H) (hD : va_D A [(a_t, .inr (10, [.int t_length, .ref a_t_text, .int t_used, .ref a_t_page, .ref a_t_names, .ref a_t_sort, .ref a_t_code, .ref a_t_count, .ref a_t_around, .ref a_t_end, .ref a_t_size, .ref a_t_there, .ref a_t_wish, .ref a_t_have, .int t_far, .int t_momentParts, .long t_momentDay, .int t_momentSecond, .int t_momentNano, .int t_momentOffset, .int t_readParts, .long t_readDay, .int t_readSecond, .int t_readNano, .int t_readOffset, .ref a_t_known, .ref a_t_value, .ref a_t_before, .ref a_t_open, .ref a_t_from, .int t_alike])), (a_t_known, .inl (kk 2, 14, .inl t_known)), (a_t_value, .inl (kk 3, 14, .inr (.inl t_value)))]) (hS : va_S A s.heap H locs) : W p l e rm_SkeletonClockModel_resolve s m args below meth c H locs 0 0 (MQ below (KQi D kk o.1 [(a_t, .inr (10, [.int t_length, .ref a_t_text, .int t_used, .ref a_t_page, .ref a_t_names, .ref a_t_sort, .ref a_t_code, .ref a_t_count, .ref a_t_around, .ref a_t_end, .ref a_t_size, .ref a_t_there, .ref a_t_wish, .ref a_t_have, .int t_far, .int t_momentParts, .long t_momentDay, .int t_momentSecond, .int t_momentNano, .int t_momentOffset, .int o.2.1, .long o.2.2.1, .int o.2.2.2.1, .int o.2.2.2.2.1, .int o.2.2.2.2.2, .ref a_t_known, .ref a_t_value, .ref a_t_before, .ref a_t_open, .ref a_t_from, .int t_alike])), (a_t_known, .inl (kk 2, 14, .inl t_known)), (a_t_value, .inl (kk 3, 14, .inr (.inl t_value)))] A) args s 0 0 A) (F0 m 134 ls [.long s2, .long s1, .long s0]) := by
  have hx := S.1
  have hb := S.2.1
  unfold jn_SkeletonClockModel_resolve_134 at he
  refine lv_lmul hx hb d_SkeletonClockModel_resolve_134 ?_
  refine lv_ladd hx hb d_SkeletonClockModel_resolve_135 ?_
  refine lv_aload_n hx hb d_SkeletonClockModel_resolve_136 rfl (lv_at hl 0 rfl) ?_
  refine k_get S X us_SkeletonClockModel hP 0 rfl rfl 25 (by decide) gm_4_176 rfl d_SkeletonClockModel_resolve_137 ?_
  refine lv_bipush (v := (11 : Int32)) hx hb d_SkeletonClockModel_resolve_140 (by decide) ?_
  refine va_zald hx hb X.1 hP 1 2 rfl rfl (show ¬ ((11 : Int32) < 0 ∨ 14 ≤ ((11 : Int32)).toNatClampNeg) by decide) d_SkeletonClockModel_resolve_142 ?_
  refine lv_if_eq (tgt := 156) hx hb d_SkeletonClockModel_resolve_143 rfl (fun hc => ?_) (fun hc => ?_)
  · have he := ih_t hc he
    refine lv_lconst (v := (0 : Int64)) hx hb d_SkeletonClockModel_resolve_156 (by decide) ?_
    have hl : lv_has ls 12 [(0, .ref a_t), (2, .int x2), (3, .int x3), (4, .int x4), (5, .long x5)] := lv_sub hl [0, 1, 2, 3, 4] rfl
    exact w_SkeletonClockModel_resolve_157 a_t a_t_known a_t_value a_t_text a_t_page a_t_names a_t_sort a_t_code a_t_count a_t_around a_t_end a_t_size a_t_there a_t_wish a_t_have a_t_before a_t_open a_t_from t_length t_used t_far t_momentParts t_momentDay t_momentSecond t_momentNano t_momentOffset t_readParts t_readDay t_readSecond t_readNano t_readOffset t_alike t_known t_value x2 x3 x4 x5 (s0 + (s1 * s2)) (0 : Int64) o S hr hlk hA X _ _ ls he hl hP hD hS
  · have he := ih_f hc he
    refine lv_aload_n hx hb d_SkeletonClockModel_resolve_146 rfl (lv_at hl 0 rfl) ?_
    refine k_get S X us_SkeletonClockModel hP 0 rfl rfl 26 (by decide) gm_4_177 rfl d_SkeletonClockModel_resolve_147 ?_
    refine lv_bipush (v := (11 : Int32)) hx hb d_SkeletonClockModel_resolve_150 (by decide) ?_
    refine va_lald hx hb X.1 hP 2 3 rfl rfl (show ¬ ((11 : Int32) < 0 ∨ 14 ≤ ((11 : Int32)).toNatClampNeg) by decide) d_SkeletonClockModel_resolve_152 ?_
    refine lv_goto (tgt := 157) hx hb d_SkeletonClockModel_resolve_153 rfl ?_
    have hl : lv_has ls 12 [(0, .ref a_t), (2, .int x2), (3, .int x3), (4, .int x4), (5, .long x5)] := lv_sub hl [0, 1, 2, 3, 4] rfl
    exact w_SkeletonClockModel_resolve_157 a_t a_t_known a_t_value a_t_text a_t_page a_t_names a_t_sort a_t_code a_t_count a_t_around a_t_end a_t_size a_t_there a_t_wish a_t_have a_t_before a_t_open a_t_from t_length t_used t_far t_momentParts t_momentDay t_momentSecond t_momentNano t_momentOffset t_readParts t_readDay t_readSecond t_readNano t_readOffset t_alike t_known t_value x2 x3 x4 x5 (s0 + (s1 * s2)) (t_value ((11 : Int32)).toNatClampNeg) o S hr hlk hA X _ _ ls he hl hP hD hS
set_option maxHeartbeats 4000000 in
set_option maxRecDepth 100000 in
theorem w_SkeletonClockModel_resolve_100 {p : Program} {l : Launch} {e : Env} {s : State} {m : MethodId} {args : Array Value} {below : List Frame} {meth : Method} {c : Code} {A : Nat → Prop} {D : va_G} {kk : Nat → ClassId} {st : Nat → Nat} (a_t a_t_known a_t_value a_t_text a_t_page a_t_names a_t_sort a_t_code a_t_count a_t_around a_t_end a_t_size a_t_there a_t_wish a_t_have a_t_before a_t_open a_t_from : Nat) (t_length : Int32) (t_used : Int32) (t_far : Int32) (t_momentParts : Int32) (t_momentDay : Int64) (t_momentSecond : Int32) (t_momentNano : Int32) (t_momentOffset : Int32) (t_readParts : Int32) (t_readDay : Int64) (t_readSecond : Int32) (t_readNano : Int32) (t_readOffset : Int32) (t_alike : Int32) (t_known : Nat → Int32) (t_value : Nat → Int64) (x2 : Int32) (x3 : Int32) (x4 : Int32) (s0 : Int64) (o : Int32 × Int32 × Int64 × Int32 × Int32 × Int32) (S : CallFix p m c b_SkeletonClockModel_resolve 12 s args GW y_SkeletonClockModel_resolve.cls) (hr : meth.sig.returnType = (some .boolean)) (hlk : meth.locks = false) (hA : ∀ q, s.heap.size ≤ q → A q) (X : KX D kk st A s) (H : Heap) (locs : List Loc) (ls : Array Slot) (he : jn_SkeletonClockModel_resolve_100 t_readParts t_readDay t_readSecond t_readNano t_readOffset t_known t_value x2 x3 x4 s0 = some o) (hl : lv_has ls 12 [(0, .ref a_t), (2, .int x2), (3, .int x3), (4, .int x4)]) (hP : va_P D classes [(a_t, .inr (10, [.int t_length, .ref a_t_text, .int t_used, .ref a_t_page, .ref a_t_names, .ref a_t_sort, .ref a_t_code, .ref a_t_count, .ref a_t_around, .ref a_t_end, .ref a_t_size, .ref a_t_there, .ref a_t_wish, .ref a_t_have, .int t_far, .int t_momentParts, .long t_momentDay, .int t_momentSecond, .int t_momentNano, .int t_momentOffset, .int t_readParts, .long t_readDay, .int t_readSecond, .int t_readNano, .int t_readOffset, .ref a_t_known, .ref a_t_value, .ref a_t_before, .ref a_t_open, .ref a_t_from, .int t_alike])), (a_t_known, .inl (kk 2, 14, .inl t_known)), (a_t_value, .inl (kk 3, 14, .inr (.inl t_value)))] H) (hD : va_D A [(a_t, .inr (10, [.int t_length, .ref a_t_text, .int t_used, .ref a_t_page, .ref a_t_names, .ref a_t_sort, .ref a_t_code, .ref a_t_count, .ref a_t_around, .ref a_t_end, .ref a_t_size, .ref a_t_there, .ref a_t_wish, .ref a_t_have, .int t_far, .int t_momentParts, .long t_momentDay, .int t_momentSecond, .int t_momentNano, .int t_momentOffset, .int t_readParts, .long t_readDay, .int t_readSecond, .int t_readNano, .int t_readOffset, .ref a_t_known, .ref a_t_value, .ref a_t_before, .ref a_t_open, .ref a_t_from, .int t_alike])), (a_t_known, .inl (kk 2, 14, .inl t_known)), (a_t_value, .inl (kk 3, 14, .inr (.inl t_value)))]) (hS : va_S A s.heap H locs) : W p l e rm_SkeletonClockModel_resolve s m args below meth c H locs 0 0 (MQ below (KQi D kk o.1 [(a_t, .inr (10, [.int t_length, .ref a_t_text, .int t_used, .ref a_t_page, .ref a_t_names, .ref a_t_sort, .ref a_t_code, .ref a_t_count, .ref a_t_around, .ref a_t_end, .ref a_t_size, .ref a_t_there, .ref a_t_wish, .ref a_t_have, .int t_far, .int t_momentParts, .long t_momentDay, .int t_momentSecond, .int t_momentNano, .int t_momentOffset, .int o.2.1, .long o.2.2.1, .int o.2.2.2.1, .int o.2.2.2.2.1, .int o.2.2.2.2.2, .ref a_t_known, .ref a_t_value, .ref a_t_before, .ref a_t_open, .ref a_t_from, .int t_alike])), (a_t_known, .inl (kk 2, 14, .inl t_known)), (a_t_value, .inl (kk 3, 14, .inr (.inl t_value)))] A) args s 0 0 A) (F0 m 100 ls [.long s0]) := by
  have hx := S.1
  have hb := S.2.1
  unfold jn_SkeletonClockModel_resolve_100 at he
  refine lv_lstore hx hb d_SkeletonClockModel_resolve_100 hl (by decide) rfl (fun ls hl => ?_)
  have hl : lv_has ls 12 [(5, .long s0), (0, .ref a_t), (2, .int x2), (3, .int x3), (4, .int x4)] := hl
  refine lv_ldc2 (v := (3600 : Int64)) hx hb S.2.2.2.1 (S.2.2.2.2 _ gm_6_13) d_SkeletonClockModel_resolve_102 ?_
  refine lv_aload_n hx hb d_SkeletonClockModel_resolve_105 rfl (lv_at hl 1 rfl) ?_
  obtain ⟨u7, e8, he⟩ := ih_b he
  refine k_lo (r_V (As := []) S X hA hP hD hS (c_SkeletonClockModel_hour l D kk st a_t a_t_known a_t_value a_t_text a_t_page a_t_names a_t_sort a_t_code a_t_count a_t_around a_t_end a_t_size a_t_there a_t_wish a_t_have a_t_before a_t_open a_t_from _ t_length t_used t_far t_momentParts t_momentDay t_momentSecond t_momentNano t_momentOffset t_readParts t_readDay t_readSecond t_readNano t_readOffset t_alike t_known t_value u7 e8) gm_6_17 gm_6_14 gm_6_16 gm_p5_1 gm_1_13 ⟨rfl, rfl, by decide, by decide⟩ kd_SkeletonClockModel_hour [0, 1, 2] rfl rfl rfl 0 10 rfl rfl rfl rfl hl.1 rfl (Nat.le_of_ble_eq_true rfl) d_SkeletonClockModel_resolve_106 ⟨Nat.zero_le _, Nat.zero_le _⟩) hA hP hD hS [0, 1, 2] rfl (fun H locs hP hS => ?_)
  refine lv_lmul hx hb d_SkeletonClockModel_resolve_109 ?_
  refine lv_ldc2 (v := (60 : Int64)) hx hb S.2.2.2.1 (S.2.2.2.2 _ gm_5_67) d_SkeletonClockModel_resolve_110 ?_
  refine lv_aload_n hx hb d_SkeletonClockModel_resolve_113 rfl (lv_at hl 1 rfl) ?_
  refine k_get S X us_SkeletonClockModel hP 0 rfl rfl 25 (by decide) gm_4_176 rfl d_SkeletonClockModel_resolve_114 ?_
  refine lv_bipush (v := (10 : Int32)) hx hb d_SkeletonClockModel_resolve_117 (by decide) ?_
  refine va_zald hx hb X.1 hP 1 2 rfl rfl (show ¬ ((10 : Int32) < 0 ∨ 14 ≤ ((10 : Int32)).toNatClampNeg) by decide) d_SkeletonClockModel_resolve_119 ?_
  refine lv_if_eq (tgt := 133) hx hb d_SkeletonClockModel_resolve_120 rfl (fun hc => ?_) (fun hc => ?_)
  · have he := ih_t hc he
    refine lv_lconst (v := (0 : Int64)) hx hb d_SkeletonClockModel_resolve_133 (by decide) ?_
    have hl : lv_has ls 12 [(0, .ref a_t), (2, .int x2), (3, .int x3), (4, .int x4), (5, .long s0)] := lv_sub hl [1, 2, 3, 4, 0] rfl
    exact w_SkeletonClockModel_resolve_134 a_t a_t_known a_t_value a_t_text a_t_page a_t_names a_t_sort a_t_code a_t_count a_t_around a_t_end a_t_size a_t_there a_t_wish a_t_have a_t_before a_t_open a_t_from t_length t_used t_far t_momentParts t_momentDay t_momentSecond t_momentNano t_momentOffset t_readParts t_readDay t_readSecond t_readNano t_readOffset t_alike t_known t_value x2 x3 x4 s0 ((3600 : Int64) * u7) (60 : Int64) (0 : Int64) o S hr hlk hA X _ _ ls he hl hP hD hS
  · have he := ih_f hc he
    refine lv_aload_n hx hb d_SkeletonClockModel_resolve_123 rfl (lv_at hl 1 rfl) ?_
    refine k_get S X us_SkeletonClockModel hP 0 rfl rfl 26 (by decide) gm_4_177 rfl d_SkeletonClockModel_resolve_124 ?_
    refine lv_bipush (v := (10 : Int32)) hx hb d_SkeletonClockModel_resolve_127 (by decide) ?_
    refine va_lald hx hb X.1 hP 2 3 rfl rfl (show ¬ ((10 : Int32) < 0 ∨ 14 ≤ ((10 : Int32)).toNatClampNeg) by decide) d_SkeletonClockModel_resolve_129 ?_
    refine lv_goto (tgt := 134) hx hb d_SkeletonClockModel_resolve_130 rfl ?_
    have hl : lv_has ls 12 [(0, .ref a_t), (2, .int x2), (3, .int x3), (4, .int x4), (5, .long s0)] := lv_sub hl [1, 2, 3, 4, 0] rfl
    exact w_SkeletonClockModel_resolve_134 a_t a_t_known a_t_value a_t_text a_t_page a_t_names a_t_sort a_t_code a_t_count a_t_around a_t_end a_t_size a_t_there a_t_wish a_t_have a_t_before a_t_open a_t_from t_length t_used t_far t_momentParts t_momentDay t_momentSecond t_momentNano t_momentOffset t_readParts t_readDay t_readSecond t_readNano t_readOffset t_alike t_known t_value x2 x3 x4 s0 ((3600 : Int64) * u7) (60 : Int64) (t_value ((10 : Int32)).toNatClampNeg) o S hr hlk hA X _ _ ls he hl hP hD hS
set_option maxHeartbeats 4000000 in
set_option maxRecDepth 100000 in
theorem w_SkeletonClockModel_resolve_85 {p : Program} {l : Launch} {e : Env} {s : State} {m : MethodId} {args : Array Value} {below : List Frame} {meth : Method} {c : Code} {A : Nat → Prop} {D : va_G} {kk : Nat → ClassId} {st : Nat → Nat} (a_t a_t_known a_t_value a_t_text a_t_page a_t_names a_t_sort a_t_code a_t_count a_t_around a_t_end a_t_size a_t_there a_t_wish a_t_have a_t_before a_t_open a_t_from : Nat) (t_length : Int32) (t_used : Int32) (t_far : Int32) (t_momentParts : Int32) (t_momentDay : Int64) (t_momentSecond : Int32) (t_momentNano : Int32) (t_momentOffset : Int32) (t_readParts : Int32) (t_readDay : Int64) (t_readSecond : Int32) (t_readNano : Int32) (t_readOffset : Int32) (t_alike : Int32) (t_known : Nat → Int32) (t_value : Nat → Int64) (x1 : Int32) (x2 : Int32) (x3 : Int32) (x4 : Int32) (o : Int32 × Int32 × Int64 × Int32 × Int32 × Int32) (S : CallFix p m c b_SkeletonClockModel_resolve 12 s args GW y_SkeletonClockModel_resolve.cls) (hr : meth.sig.returnType = (some .boolean)) (hlk : meth.locks = false) (hA : ∀ q, s.heap.size ≤ q → A q) (X : KX D kk st A s) (H : Heap) (locs : List Loc) (ls : Array Slot) (he : jn_SkeletonClockModel_resolve_85 t_readParts t_readDay t_readSecond t_readNano t_readOffset t_known t_value x1 x2 x3 x4 = some o) (hl : lv_has ls 12 [(0, .ref a_t), (1, .int x1), (2, .int x2), (3, .int x3), (4, .int x4)]) (hP : va_P D classes [(a_t, .inr (10, [.int t_length, .ref a_t_text, .int t_used, .ref a_t_page, .ref a_t_names, .ref a_t_sort, .ref a_t_code, .ref a_t_count, .ref a_t_around, .ref a_t_end, .ref a_t_size, .ref a_t_there, .ref a_t_wish, .ref a_t_have, .int t_far, .int t_momentParts, .long t_momentDay, .int t_momentSecond, .int t_momentNano, .int t_momentOffset, .int t_readParts, .long t_readDay, .int t_readSecond, .int t_readNano, .int t_readOffset, .ref a_t_known, .ref a_t_value, .ref a_t_before, .ref a_t_open, .ref a_t_from, .int t_alike])), (a_t_known, .inl (kk 2, 14, .inl t_known)), (a_t_value, .inl (kk 3, 14, .inr (.inl t_value)))] H) (hD : va_D A [(a_t, .inr (10, [.int t_length, .ref a_t_text, .int t_used, .ref a_t_page, .ref a_t_names, .ref a_t_sort, .ref a_t_code, .ref a_t_count, .ref a_t_around, .ref a_t_end, .ref a_t_size, .ref a_t_there, .ref a_t_wish, .ref a_t_have, .int t_far, .int t_momentParts, .long t_momentDay, .int t_momentSecond, .int t_momentNano, .int t_momentOffset, .int t_readParts, .long t_readDay, .int t_readSecond, .int t_readNano, .int t_readOffset, .ref a_t_known, .ref a_t_value, .ref a_t_before, .ref a_t_open, .ref a_t_from, .int t_alike])), (a_t_known, .inl (kk 2, 14, .inl t_known)), (a_t_value, .inl (kk 3, 14, .inr (.inl t_value)))]) (hS : va_S A s.heap H locs) : W p l e rm_SkeletonClockModel_resolve s m args below meth c H locs 0 0 (MQ below (KQi D kk o.1 [(a_t, .inr (10, [.int t_length, .ref a_t_text, .int t_used, .ref a_t_page, .ref a_t_names, .ref a_t_sort, .ref a_t_code, .ref a_t_count, .ref a_t_around, .ref a_t_end, .ref a_t_size, .ref a_t_there, .ref a_t_wish, .ref a_t_have, .int t_far, .int t_momentParts, .long t_momentDay, .int t_momentSecond, .int t_momentNano, .int t_momentOffset, .int o.2.1, .long o.2.2.1, .int o.2.2.2.1, .int o.2.2.2.2.1, .int o.2.2.2.2.2, .ref a_t_known, .ref a_t_value, .ref a_t_before, .ref a_t_open, .ref a_t_from, .int t_alike])), (a_t_known, .inl (kk 2, 14, .inl t_known)), (a_t_value, .inl (kk 3, 14, .inr (.inl t_value)))] A) args s 0 0 A) (F0 m 85 ls []) := by
  have hx := S.1
  have hb := S.2.1
  unfold jn_SkeletonClockModel_resolve_85 at he
  refine lv_iload_n hx hb d_SkeletonClockModel_resolve_85 rfl (lv_at hl 2 rfl) ?_
  refine lv_if_eq (tgt := 99) hx hb d_SkeletonClockModel_resolve_86 rfl (fun hc => ?_) (fun hc => ?_)
  · have he := ih_t hc he
    refine lv_lconst (v := (0 : Int64)) hx hb d_SkeletonClockModel_resolve_99 (by decide) ?_
    have hl : lv_has ls 12 [(0, .ref a_t), (2, .int x2), (3, .int x3), (4, .int x4)] := lv_sub hl [0, 2, 3, 4] rfl
    exact w_SkeletonClockModel_resolve_100 a_t a_t_known a_t_value a_t_text a_t_page a_t_names a_t_sort a_t_code a_t_count a_t_around a_t_end a_t_size a_t_there a_t_wish a_t_have a_t_before a_t_open a_t_from t_length t_used t_far t_momentParts t_momentDay t_momentSecond t_momentNano t_momentOffset t_readParts t_readDay t_readSecond t_readNano t_readOffset t_alike t_known t_value x2 x3 x4 (0 : Int64) o S hr hlk hA X _ _ ls he hl hP hD hS
  · have he := ih_f hc he
    refine lv_aload_n hx hb d_SkeletonClockModel_resolve_89 rfl (lv_at hl 0 rfl) ?_
    refine lv_iload hx hb d_SkeletonClockModel_resolve_90 (lv_at hl 4 rfl) ?_
    refine lv_iload_n hx hb d_SkeletonClockModel_resolve_92 rfl (lv_at hl 1 rfl) ?_
    obtain ⟨u27, e28, he⟩ := ih_b he
    refine k_lo (r_V (As := [.int x4, .int x1]) S X hA hP hD hS (c_SkeletonClockModel_dayBy l D kk st a_t a_t_value a_t_text a_t_page a_t_names a_t_sort a_t_code a_t_count a_t_around a_t_end a_t_size a_t_there a_t_wish a_t_have a_t_known a_t_before a_t_open a_t_from _ t_length t_used t_far t_momentParts t_momentDay t_momentSecond t_momentNano t_momentOffset t_readParts t_readDay t_readSecond t_readNano t_readOffset t_alike t_value x4 x1 u27 e28) gm_6_12 gm_6_9 gm_6_11 gm_p5_0 gm_1_13 ⟨rfl, rfl, by decide, by decide⟩ kd_SkeletonClockModel_dayBy [0, 2] rfl rfl rfl 0 10 rfl rfl rfl rfl hl.1 rfl (Nat.le_of_ble_eq_true rfl) d_SkeletonClockModel_resolve_93 ⟨Nat.zero_le _, Nat.zero_le _⟩) hA hP hD hS [0, 2] rfl (fun H locs hP hS => ?_)
    refine lv_goto (tgt := 100) hx hb d_SkeletonClockModel_resolve_96 rfl ?_
    have hl : lv_has ls 12 [(0, .ref a_t), (2, .int x2), (3, .int x3), (4, .int x4)] := lv_sub hl [0, 2, 3, 4] rfl
    exact w_SkeletonClockModel_resolve_100 a_t a_t_known a_t_value a_t_text a_t_page a_t_names a_t_sort a_t_code a_t_count a_t_around a_t_end a_t_size a_t_there a_t_wish a_t_have a_t_before a_t_open a_t_from t_length t_used t_far t_momentParts t_momentDay t_momentSecond t_momentNano t_momentOffset t_readParts t_readDay t_readSecond t_readNano t_readOffset t_alike t_known t_value x2 x3 x4 u27 o S hr hlk hA X _ _ ls he hl hP hD hS
set_option maxHeartbeats 4000000 in
set_option maxRecDepth 100000 in
theorem w_SkeletonClockModel_resolve_67 {p : Program} {l : Launch} {e : Env} {s : State} {m : MethodId} {args : Array Value} {below : List Frame} {meth : Method} {c : Code} {A : Nat → Prop} {D : va_G} {kk : Nat → ClassId} {st : Nat → Nat} (a_t a_t_known a_t_value a_t_text a_t_page a_t_names a_t_sort a_t_code a_t_count a_t_around a_t_end a_t_size a_t_there a_t_wish a_t_have a_t_before a_t_open a_t_from : Nat) (t_length : Int32) (t_used : Int32) (t_far : Int32) (t_momentParts : Int32) (t_momentDay : Int64) (t_momentSecond : Int32) (t_momentNano : Int32) (t_momentOffset : Int32) (t_readParts : Int32) (t_readDay : Int64) (t_readSecond : Int32) (t_readNano : Int32) (t_readOffset : Int32) (t_alike : Int32) (t_known : Nat → Int32) (t_value : Nat → Int64) (x1 : Int32) (x2 : Int32) (x3 : Int32) (x4 : Int32) (o : Int32 × Int32 × Int64 × Int32 × Int32 × Int32) (S : CallFix p m c b_SkeletonClockModel_resolve 12 s args GW y_SkeletonClockModel_resolve.cls) (hr : meth.sig.returnType = (some .boolean)) (hlk : meth.locks = false) (hA : ∀ q, s.heap.size ≤ q → A q) (X : KX D kk st A s) (H : Heap) (locs : List Loc) (ls : Array Slot) (he : jn_SkeletonClockModel_resolve_67 t_readParts t_readDay t_readSecond t_readNano t_readOffset t_known t_value x1 x2 x3 x4 = some o) (hl : lv_has ls 12 [(0, .ref a_t), (1, .int x1), (2, .int x2), (3, .int x3), (4, .int x4)]) (hP : va_P D classes [(a_t, .inr (10, [.int t_length, .ref a_t_text, .int t_used, .ref a_t_page, .ref a_t_names, .ref a_t_sort, .ref a_t_code, .ref a_t_count, .ref a_t_around, .ref a_t_end, .ref a_t_size, .ref a_t_there, .ref a_t_wish, .ref a_t_have, .int t_far, .int t_momentParts, .long t_momentDay, .int t_momentSecond, .int t_momentNano, .int t_momentOffset, .int t_readParts, .long t_readDay, .int t_readSecond, .int t_readNano, .int t_readOffset, .ref a_t_known, .ref a_t_value, .ref a_t_before, .ref a_t_open, .ref a_t_from, .int t_alike])), (a_t_known, .inl (kk 2, 14, .inl t_known)), (a_t_value, .inl (kk 3, 14, .inr (.inl t_value)))] H) (hD : va_D A [(a_t, .inr (10, [.int t_length, .ref a_t_text, .int t_used, .ref a_t_page, .ref a_t_names, .ref a_t_sort, .ref a_t_code, .ref a_t_count, .ref a_t_around, .ref a_t_end, .ref a_t_size, .ref a_t_there, .ref a_t_wish, .ref a_t_have, .int t_far, .int t_momentParts, .long t_momentDay, .int t_momentSecond, .int t_momentNano, .int t_momentOffset, .int t_readParts, .long t_readDay, .int t_readSecond, .int t_readNano, .int t_readOffset, .ref a_t_known, .ref a_t_value, .ref a_t_before, .ref a_t_open, .ref a_t_from, .int t_alike])), (a_t_known, .inl (kk 2, 14, .inl t_known)), (a_t_value, .inl (kk 3, 14, .inr (.inl t_value)))]) (hS : va_S A s.heap H locs) : W p l e rm_SkeletonClockModel_resolve s m args below meth c H locs 0 0 (MQ below (KQi D kk o.1 [(a_t, .inr (10, [.int t_length, .ref a_t_text, .int t_used, .ref a_t_page, .ref a_t_names, .ref a_t_sort, .ref a_t_code, .ref a_t_count, .ref a_t_around, .ref a_t_end, .ref a_t_size, .ref a_t_there, .ref a_t_wish, .ref a_t_have, .int t_far, .int t_momentParts, .long t_momentDay, .int t_momentSecond, .int t_momentNano, .int t_momentOffset, .int o.2.1, .long o.2.2.1, .int o.2.2.2.1, .int o.2.2.2.2.1, .int o.2.2.2.2.2, .ref a_t_known, .ref a_t_value, .ref a_t_before, .ref a_t_open, .ref a_t_from, .int t_alike])), (a_t_known, .inl (kk 2, 14, .inl t_known)), (a_t_value, .inl (kk 3, 14, .inr (.inl t_value)))] A) args s 0 0 A) (F0 m 67 ls []) := by
  have hx := S.1
  have hb := S.2.1
  unfold jn_SkeletonClockModel_resolve_67 at he
  refine lv_iload_n hx hb d_SkeletonClockModel_resolve_67 rfl (lv_at hl 3 rfl) ?_
  refine lv_if_eq (tgt := 85) hx hb d_SkeletonClockModel_resolve_68 rfl (fun hc => ?_) (fun hc => ?_)
  · have he := ih_t hc he
    have hl : lv_has ls 12 [(0, .ref a_t), (1, .int x1), (2, .int x2), (3, .int x3), (4, .int x4)] := lv_sub hl [0, 1, 2, 3, 4] rfl
    exact w_SkeletonClockModel_resolve_85 a_t a_t_known a_t_value a_t_text a_t_page a_t_names a_t_sort a_t_code a_t_count a_t_around a_t_end a_t_size a_t_there a_t_wish a_t_have a_t_before a_t_open a_t_from t_length t_used t_far t_momentParts t_momentDay t_momentSecond t_momentNano t_momentOffset t_readParts t_readDay t_readSecond t_readNano t_readOffset t_alike t_known t_value x1 x2 x3 x4 o S hr hlk hA X _ _ ls he hl hP hD hS
  · have he := ih_f hc he
    refine lv_iload_n hx hb d_SkeletonClockModel_resolve_71 rfl (lv_at hl 1 rfl) ?_
    refine lv_iconst (v := (2 : Int32)) hx hb d_SkeletonClockModel_resolve_72 (by decide) ?_
    refine lv_icmp_ge (tgt := 85) hx hb d_SkeletonClockModel_resolve_73 rfl (fun hc => ?_) (fun hc => ?_)
    · have he := ih_t hc he
      have hl : lv_has ls 12 [(0, .ref a_t), (1, .int x1), (2, .int x2), (3, .int x3), (4, .int x4)] := lv_sub hl [0, 1, 2, 3, 4] rfl
      exact w_SkeletonClockModel_resolve_85 a_t a_t_known a_t_value a_t_text a_t_page a_t_names a_t_sort a_t_code a_t_count a_t_around a_t_end a_t_size a_t_there a_t_wish a_t_have a_t_before a_t_open a_t_from t_length t_used t_far t_momentParts t_momentDay t_momentSecond t_momentNano t_momentOffset t_readParts t_readDay t_readSecond t_readNano t_readOffset t_alike t_known t_value x1 x2 x3 x4 o S hr hlk hA X _ _ ls he hl hP hD hS
    · have he := ih_f hc he
      refine lv_aload_n hx hb d_SkeletonClockModel_resolve_76 rfl (lv_at hl 0 rfl) ?_
      obtain ⟨u29, e30, he⟩ := ih_b he
      refine k_io (r_V (As := []) S X hA hP hD hS (c_SkeletonClockModel_properTime l D kk st a_t a_t_known a_t_value a_t_text a_t_page a_t_names a_t_sort a_t_code a_t_count a_t_around a_t_end a_t_size a_t_there a_t_wish a_t_have a_t_before a_t_open a_t_from _ t_length t_used t_far t_momentParts t_momentDay t_momentSecond t_momentNano t_momentOffset t_readParts t_readDay t_readSecond t_readNano t_readOffset t_alike t_known t_value u29 e30) gm_6_7 gm_6_4 gm_6_6 gm_p4_15 gm_1_13 ⟨rfl, rfl, by decide, by decide⟩ kd_SkeletonClockModel_properTime [0, 1, 2] rfl rfl rfl 0 10 rfl rfl rfl rfl hl.1 rfl (Nat.le_of_ble_eq_true rfl) d_SkeletonClockModel_resolve_77 ⟨Nat.zero_le _, Nat.zero_le _⟩) hA hP hD hS [0, 1, 2] rfl (fun H locs hP hS => ?_)
      refine lv_if_ne (tgt := 85) hx hb d_SkeletonClockModel_resolve_80 rfl (fun hc => ?_) (fun hc => ?_)
      · have he := ih_f hc he
        have hl : lv_has ls 12 [(0, .ref a_t), (1, .int x1), (2, .int x2), (3, .int x3), (4, .int x4)] := lv_sub hl [0, 1, 2, 3, 4] rfl
        exact w_SkeletonClockModel_resolve_85 a_t a_t_known a_t_value a_t_text a_t_page a_t_names a_t_sort a_t_code a_t_count a_t_around a_t_end a_t_size a_t_there a_t_wish a_t_have a_t_before a_t_open a_t_from t_length t_used t_far t_momentParts t_momentDay t_momentSecond t_momentNano t_momentOffset t_readParts t_readDay t_readSecond t_readNano t_readOffset t_alike t_known t_value x1 x2 x3 x4 o S hr hlk hA X _ _ ls he hl hP hD hS
      · have he := ih_t hc he
        refine lv_iconst (v := (0 : Int32)) hx hb d_SkeletonClockModel_resolve_83 (by decide) ?_
        cases he
        exact k_zre hx hb hr hlk X hP hD hS (Or.inl rfl) d_SkeletonClockModel_resolve_84
set_option maxHeartbeats 4000000 in
set_option maxRecDepth 100000 in
theorem w_SkeletonClockModel_resolve_37 {p : Program} {l : Launch} {e : Env} {s : State} {m : MethodId} {args : Array Value} {below : List Frame} {meth : Method} {c : Code} {A : Nat → Prop} {D : va_G} {kk : Nat → ClassId} {st : Nat → Nat} (a_t a_t_known a_t_value a_t_text a_t_page a_t_names a_t_sort a_t_code a_t_count a_t_around a_t_end a_t_size a_t_there a_t_wish a_t_have a_t_before a_t_open a_t_from : Nat) (t_length : Int32) (t_used : Int32) (t_far : Int32) (t_momentParts : Int32) (t_momentDay : Int64) (t_momentSecond : Int32) (t_momentNano : Int32) (t_momentOffset : Int32) (t_readParts : Int32) (t_readDay : Int64) (t_readSecond : Int32) (t_readNano : Int32) (t_readOffset : Int32) (t_alike : Int32) (t_known : Nat → Int32) (t_value : Nat → Int64) (x1 : Int32) (x2 : Int32) (x3 : Int32) (o : Int32 × Int32 × Int64 × Int32 × Int32 × Int32) (S : CallFix p m c b_SkeletonClockModel_resolve 12 s args GW y_SkeletonClockModel_resolve.cls) (hr : meth.sig.returnType = (some .boolean)) (hlk : meth.locks = false) (hA : ∀ q, s.heap.size ≤ q → A q) (X : KX D kk st A s) (H : Heap) (locs : List Loc) (ls : Array Slot) (he : jn_SkeletonClockModel_resolve_37 t_readParts t_readDay t_readSecond t_readNano t_readOffset t_known t_value x1 x2 x3 = some o) (hl : lv_has ls 12 [(0, .ref a_t), (1, .int x1), (2, .int x2), (3, .int x3)]) (hP : va_P D classes [(a_t, .inr (10, [.int t_length, .ref a_t_text, .int t_used, .ref a_t_page, .ref a_t_names, .ref a_t_sort, .ref a_t_code, .ref a_t_count, .ref a_t_around, .ref a_t_end, .ref a_t_size, .ref a_t_there, .ref a_t_wish, .ref a_t_have, .int t_far, .int t_momentParts, .long t_momentDay, .int t_momentSecond, .int t_momentNano, .int t_momentOffset, .int t_readParts, .long t_readDay, .int t_readSecond, .int t_readNano, .int t_readOffset, .ref a_t_known, .ref a_t_value, .ref a_t_before, .ref a_t_open, .ref a_t_from, .int t_alike])), (a_t_known, .inl (kk 2, 14, .inl t_known)), (a_t_value, .inl (kk 3, 14, .inr (.inl t_value)))] H) (hD : va_D A [(a_t, .inr (10, [.int t_length, .ref a_t_text, .int t_used, .ref a_t_page, .ref a_t_names, .ref a_t_sort, .ref a_t_code, .ref a_t_count, .ref a_t_around, .ref a_t_end, .ref a_t_size, .ref a_t_there, .ref a_t_wish, .ref a_t_have, .int t_far, .int t_momentParts, .long t_momentDay, .int t_momentSecond, .int t_momentNano, .int t_momentOffset, .int t_readParts, .long t_readDay, .int t_readSecond, .int t_readNano, .int t_readOffset, .ref a_t_known, .ref a_t_value, .ref a_t_before, .ref a_t_open, .ref a_t_from, .int t_alike])), (a_t_known, .inl (kk 2, 14, .inl t_known)), (a_t_value, .inl (kk 3, 14, .inr (.inl t_value)))]) (hS : va_S A s.heap H locs) : W p l e rm_SkeletonClockModel_resolve s m args below meth c H locs 0 0 (MQ below (KQi D kk o.1 [(a_t, .inr (10, [.int t_length, .ref a_t_text, .int t_used, .ref a_t_page, .ref a_t_names, .ref a_t_sort, .ref a_t_code, .ref a_t_count, .ref a_t_around, .ref a_t_end, .ref a_t_size, .ref a_t_there, .ref a_t_wish, .ref a_t_have, .int t_far, .int t_momentParts, .long t_momentDay, .int t_momentSecond, .int t_momentNano, .int t_momentOffset, .int o.2.1, .long o.2.2.1, .int o.2.2.2.1, .int o.2.2.2.2.1, .int o.2.2.2.2.2, .ref a_t_known, .ref a_t_value, .ref a_t_before, .ref a_t_open, .ref a_t_from, .int t_alike])), (a_t_known, .inl (kk 2, 14, .inl t_known)), (a_t_value, .inl (kk 3, 14, .inr (.inl t_value)))] A) args s 0 0 A) (F0 m 37 ls []) := by
  have hx := S.1
  have hb := S.2.1
  unfold jn_SkeletonClockModel_resolve_37 at he
  refine lv_aload_n hx hb d_SkeletonClockModel_resolve_37 rfl (lv_at hl 0 rfl) ?_
  obtain ⟨u5, e6, he⟩ := ih_b he
  refine k_io (r_V (As := []) S X hA hP hD hS (c_SkeletonClockModel_rule l D kk st a_t a_t_known a_t_text a_t_page a_t_names a_t_sort a_t_code a_t_count a_t_around a_t_end a_t_size a_t_there a_t_wish a_t_have a_t_value a_t_before a_t_open a_t_from _ t_length t_used t_far t_momentParts t_momentDay t_momentSecond t_momentNano t_momentOffset t_readParts t_readDay t_readSecond t_readNano t_readOffset t_alike t_known u5 e6) gm_5_230 gm_5_227 gm_5_229 gm_p4_12 gm_1_13 ⟨rfl, rfl, by decide, by decide⟩ kd_SkeletonClockModel_rule [0, 1] rfl rfl rfl 0 10 rfl rfl rfl rfl hl.1 rfl (Nat.le_of_ble_eq_true rfl) d_SkeletonClockModel_resolve_38 ⟨Nat.zero_le _, Nat.zero_le _⟩) hA hP hD hS [0, 1] rfl (fun H locs hP hS => ?_)
  refine lv_istore hx hb d_SkeletonClockModel_resolve_41 hl (by decide) rfl (fun ls hl => ?_)
  have hl : lv_has ls 12 [(4, .int u5), (0, .ref a_t), (1, .int x1), (2, .int x2), (3, .int x3)] := hl
  refine lv_iload_n hx hb d_SkeletonClockModel_resolve_43 rfl (lv_at hl 3 rfl) ?_
  refine lv_if_eq (tgt := 67) hx hb d_SkeletonClockModel_resolve_44 rfl (fun hc => ?_) (fun hc => ?_)
  · have he := ih_t hc he
    have hl : lv_has ls 12 [(0, .ref a_t), (1, .int x1), (2, .int x2), (3, .int x3), (4, .int u5)] := lv_sub hl [1, 2, 3, 4, 0] rfl
    exact w_SkeletonClockModel_resolve_67 a_t a_t_known a_t_value a_t_text a_t_page a_t_names a_t_sort a_t_code a_t_count a_t_around a_t_end a_t_size a_t_there a_t_wish a_t_have a_t_before a_t_open a_t_from t_length t_used t_far t_momentParts t_momentDay t_momentSecond t_momentNano t_momentOffset t_readParts t_readDay t_readSecond t_readNano t_readOffset t_alike t_known t_value x1 x2 x3 u5 o S hr hlk hA X _ _ ls he hl hP hD hS
  · have he := ih_f hc he
    refine lv_iload hx hb d_SkeletonClockModel_resolve_47 (lv_at hl 0 rfl) ?_
    refine lv_if_eq (tgt := 83) hx hb d_SkeletonClockModel_resolve_49 rfl (fun hc => ?_) (fun hc => ?_)
    · have he := ih_t hc he
      refine lv_iconst (v := (0 : Int32)) hx hb d_SkeletonClockModel_resolve_83 (by decide) ?_
      cases he
      exact k_zre hx hb hr hlk X hP hD hS (Or.inl rfl) d_SkeletonClockModel_resolve_84
    · have he := ih_f hc he
      refine lv_iload_n hx hb d_SkeletonClockModel_resolve_52 rfl (lv_at hl 2 rfl) ?_
      refine lv_iconst (v := (2 : Int32)) hx hb d_SkeletonClockModel_resolve_53 (by decide) ?_
      refine lv_icmp_ge (tgt := 67) hx hb d_SkeletonClockModel_resolve_54 rfl (fun hc => ?_) (fun hc => ?_)
      · have he := ih_t hc he
        have hl : lv_has ls 12 [(0, .ref a_t), (1, .int x1), (2, .int x2), (3, .int x3), (4, .int u5)] := lv_sub hl [1, 2, 3, 4, 0] rfl
        exact w_SkeletonClockModel_resolve_67 a_t a_t_known a_t_value a_t_text a_t_page a_t_names a_t_sort a_t_code a_t_count a_t_around a_t_end a_t_size a_t_there a_t_wish a_t_have a_t_before a_t_open a_t_from t_length t_used t_far t_momentParts t_momentDay t_momentSecond t_momentNano t_momentOffset t_readParts t_readDay t_readSecond t_readNano t_readOffset t_alike t_known t_value x1 x2 x3 u5 o S hr hlk hA X _ _ ls he hl hP hD hS
      · have he := ih_f hc he
        refine lv_aload_n hx hb d_SkeletonClockModel_resolve_57 rfl (lv_at hl 1 rfl) ?_
        refine lv_iload hx hb d_SkeletonClockModel_resolve_58 (lv_at hl 0 rfl) ?_
        refine lv_iload_n hx hb d_SkeletonClockModel_resolve_60 rfl (lv_at hl 2 rfl) ?_
        obtain ⟨u31, e32, he⟩ := ih_b he
        refine k_io (r_V (As := [.int u5, .int x1]) S X hA hP hD hS (c_SkeletonClockModel_proper l D kk st a_t a_t_known a_t_value a_t_text a_t_page a_t_names a_t_sort a_t_code a_t_count a_t_around a_t_end a_t_size a_t_there a_t_wish a_t_have a_t_before a_t_open a_t_from _ t_length t_used t_far t_momentParts t_momentDay t_momentSecond t_momentNano t_momentOffset t_readParts t_readDay t_readSecond t_readNano t_readOffset t_alike t_known t_value u5 x1 u31 e32) gm_5_234 gm_5_231 gm_5_233 gm_p4_13 gm_1_13 ⟨rfl, rfl, by decide, by decide⟩ kd_SkeletonClockModel_proper [0, 1, 2] rfl rfl rfl 0 10 rfl rfl rfl rfl hl.1 rfl (Nat.le_of_ble_eq_true rfl) d_SkeletonClockModel_resolve_61 ⟨Nat.zero_le _, Nat.zero_le _⟩) hA hP hD hS [0, 1, 2] rfl (fun H locs hP hS => ?_)
        refine lv_if_eq (tgt := 83) hx hb d_SkeletonClockModel_resolve_64 rfl (fun hc => ?_) (fun hc => ?_)
        · have he := ih_t hc he
          refine lv_iconst (v := (0 : Int32)) hx hb d_SkeletonClockModel_resolve_83 (by decide) ?_
          cases he
          exact k_zre hx hb hr hlk X hP hD hS (Or.inl rfl) d_SkeletonClockModel_resolve_84
        · have he := ih_f hc he
          have hl : lv_has ls 12 [(0, .ref a_t), (1, .int x1), (2, .int x2), (3, .int x3), (4, .int u5)] := lv_sub hl [1, 2, 3, 4, 0] rfl
          exact w_SkeletonClockModel_resolve_67 a_t a_t_known a_t_value a_t_text a_t_page a_t_names a_t_sort a_t_code a_t_count a_t_around a_t_end a_t_size a_t_there a_t_wish a_t_have a_t_before a_t_open a_t_from t_length t_used t_far t_momentParts t_momentDay t_momentSecond t_momentNano t_momentOffset t_readParts t_readDay t_readSecond t_readNano t_readOffset t_alike t_known t_value x1 x2 x3 u5 o S hr hlk hA X _ _ ls he hl hP hD hS
set_option maxHeartbeats 4000000 in
set_option maxRecDepth 100000 in
theorem c_SkeletonClockModel_resolve (l : Launch) (D : va_G) (kk : Nat → ClassId) (st : Nat → Nat) (a_t a_t_known a_t_value a_t_text a_t_page a_t_names a_t_sort a_t_code a_t_count a_t_around a_t_end a_t_size a_t_there a_t_wish a_t_have a_t_before a_t_open a_t_from : Nat) (sz : Nat) (t_length : Int32) (t_used : Int32) (t_far : Int32) (t_momentParts : Int32) (t_momentDay : Int64) (t_momentSecond : Int32) (t_momentNano : Int32) (t_momentOffset : Int32) (t_readParts : Int32) (t_readDay : Int64) (t_readSecond : Int32) (t_readNano : Int32) (t_readOffset : Int32) (t_alike : Int32) (t_known : Nat → Int32) (t_value : Nat → Int64) (x1 : Int32) (o : Int32 × Int32 × Int64 × Int32 × Int32 × Int32) (he : f_SkeletonClockModel_resolve t_readParts t_readDay t_readSecond t_readNano t_readOffset t_known t_value x1 = some o) : Met l y_SkeletonClockModel_resolve (Cond.code y_SkeletonClockModel_resolve b_SkeletonClockModel_resolve 12 (some .boolean) :: GW) rm_SkeletonClockModel_resolve (KPc D kk st [.ref a_t, .int x1] [(a_t, .inr (10, [.int t_length, .ref a_t_text, .int t_used, .ref a_t_page, .ref a_t_names, .ref a_t_sort, .ref a_t_code, .ref a_t_count, .ref a_t_around, .ref a_t_end, .ref a_t_size, .ref a_t_there, .ref a_t_wish, .ref a_t_have, .int t_far, .int t_momentParts, .long t_momentDay, .int t_momentSecond, .int t_momentNano, .int t_momentOffset, .int t_readParts, .long t_readDay, .int t_readSecond, .int t_readNano, .int t_readOffset, .ref a_t_known, .ref a_t_value, .ref a_t_before, .ref a_t_open, .ref a_t_from, .int t_alike])), (a_t_known, .inl (kk 2, 14, .inl t_known)), (a_t_value, .inl (kk 3, 14, .inr (.inl t_value)))] sz) (KQi D kk o.1 [(a_t, .inr (10, [.int t_length, .ref a_t_text, .int t_used, .ref a_t_page, .ref a_t_names, .ref a_t_sort, .ref a_t_code, .ref a_t_count, .ref a_t_around, .ref a_t_end, .ref a_t_size, .ref a_t_there, .ref a_t_wish, .ref a_t_have, .int t_far, .int t_momentParts, .long t_momentDay, .int t_momentSecond, .int t_momentNano, .int t_momentOffset, .int o.2.1, .long o.2.2.1, .int o.2.2.2.1, .int o.2.2.2.2.1, .int o.2.2.2.2.2, .ref a_t_known, .ref a_t_value, .ref a_t_before, .ref a_t_open, .ref a_t_from, .int t_alike])), (a_t_known, .inl (kk 2, 14, .inl t_known)), (a_t_value, .inl (kk 3, 14, .inr (.inl t_value)))] (va_A [(a_t, .inr (10, [.int t_length, .ref a_t_text, .int t_used, .ref a_t_page, .ref a_t_names, .ref a_t_sort, .ref a_t_code, .ref a_t_count, .ref a_t_around, .ref a_t_end, .ref a_t_size, .ref a_t_there, .ref a_t_wish, .ref a_t_have, .int t_far, .int t_momentParts, .long t_momentDay, .int t_momentSecond, .int t_momentNano, .int t_momentOffset, .int t_readParts, .long t_readDay, .int t_readSecond, .int t_readNano, .int t_readOffset, .ref a_t_known, .ref a_t_value, .ref a_t_before, .ref a_t_open, .ref a_t_from, .int t_alike])), (a_t_known, .inl (kk 2, 14, .inl t_known)), (a_t_value, .inl (kk 3, 14, .inr (.inl t_value)))] sz)) 0 0 (va_A [(a_t, .inr (10, [.int t_length, .ref a_t_text, .int t_used, .ref a_t_page, .ref a_t_names, .ref a_t_sort, .ref a_t_code, .ref a_t_count, .ref a_t_around, .ref a_t_end, .ref a_t_size, .ref a_t_there, .ref a_t_wish, .ref a_t_have, .int t_far, .int t_momentParts, .long t_momentDay, .int t_momentSecond, .int t_momentNano, .int t_momentOffset, .int t_readParts, .long t_readDay, .int t_readSecond, .int t_readNano, .int t_readOffset, .ref a_t_known, .ref a_t_value, .ref a_t_before, .ref a_t_open, .ref a_t_from, .int t_alike])), (a_t_known, .inl (kk 2, 14, .inl t_known)), (a_t_value, .inl (kk 3, 14, .inr (.inl t_value)))] sz) := by
  refine k_start (Qc := fun A => KQi D kk o.1 [(a_t, .inr (10, [.int t_length, .ref a_t_text, .int t_used, .ref a_t_page, .ref a_t_names, .ref a_t_sort, .ref a_t_code, .ref a_t_count, .ref a_t_around, .ref a_t_end, .ref a_t_size, .ref a_t_there, .ref a_t_wish, .ref a_t_have, .int t_far, .int t_momentParts, .long t_momentDay, .int t_momentSecond, .int t_momentNano, .int t_momentOffset, .int o.2.1, .long o.2.2.1, .int o.2.2.2.1, .int o.2.2.2.2.1, .int o.2.2.2.2.2, .ref a_t_known, .ref a_t_value, .ref a_t_before, .ref a_t_open, .ref a_t_from, .int t_alike])), (a_t_known, .inl (kk 2, 14, .inl t_known)), (a_t_value, .inl (kk 3, 14, .inr (.inl t_value)))] A) (by decide) (Nat.le_of_ble_eq_true rfl) ?_
  intro p e s m below meth c A ls S hnm hr hlk hA X hP hD hS hl
  have hl : lv_has ls 12 [(0, .ref a_t), (1, .int x1)] := hl
  have hx := S.1
  have hb := S.2.1
  unfold f_SkeletonClockModel_resolve at he
  refine lv_aload_n hx hb d_SkeletonClockModel_resolve_0 rfl (lv_at hl 0 rfl) ?_
  refine lv_iconst (v := (0 : Int32)) hx hb d_SkeletonClockModel_resolve_1 (by decide) ?_
  refine lv_bipush (v := (6 : Int32)) hx hb d_SkeletonClockModel_resolve_2 (by decide) ?_
  obtain ⟨u1, e2, he⟩ := ih_b he
  refine k_io (r_V (As := [.int (0 : Int32), .int (6 : Int32)]) S X hA hP hD hS (c_SkeletonClockModel_some l D kk st a_t a_t_known a_t_text a_t_page a_t_names a_t_sort a_t_code a_t_count a_t_around a_t_end a_t_size a_t_there a_t_wish a_t_have a_t_value a_t_before a_t_open a_t_from _ t_length t_used t_far t_momentParts t_momentDay t_momentSecond t_momentNano t_momentOffset t_readParts t_readDay t_readSecond t_readNano t_readOffset t_alike t_known (0 : Int32) (6 : Int32) u1 e2) gm_5_226 gm_5_223 gm_5_225 gm_p4_11 gm_1_13 ⟨rfl, rfl, by decide, by decide⟩ kd_SkeletonClockModel_some [0, 1] rfl rfl rfl 0 10 rfl rfl rfl rfl hl.1 rfl (Nat.le_of_ble_eq_true rfl) d_SkeletonClockModel_resolve_4 ⟨Nat.zero_le _, Nat.zero_le _⟩) hA hP hD hS [0, 1] rfl (fun H locs hP hS => ?_)
  refine lv_istore_n hx hb d_SkeletonClockModel_resolve_7 rfl hl (by decide) rfl (fun ls hl => ?_)
  have hl : lv_has ls 12 [(2, .int u1), (0, .ref a_t), (1, .int x1)] := hl
  refine lv_aload_n hx hb d_SkeletonClockModel_resolve_8 rfl (lv_at hl 1 rfl) ?_
  refine lv_bipush (v := (7 : Int32)) hx hb d_SkeletonClockModel_resolve_9 (by decide) ?_
  refine lv_bipush (v := (12 : Int32)) hx hb d_SkeletonClockModel_resolve_11 (by decide) ?_
  obtain ⟨u3, e4, he⟩ := ih_b he
  refine k_io (r_V (As := [.int (7 : Int32), .int (12 : Int32)]) S X hA hP hD hS (c_SkeletonClockModel_some l D kk st a_t a_t_known a_t_text a_t_page a_t_names a_t_sort a_t_code a_t_count a_t_around a_t_end a_t_size a_t_there a_t_wish a_t_have a_t_value a_t_before a_t_open a_t_from _ t_length t_used t_far t_momentParts t_momentDay t_momentSecond t_momentNano t_momentOffset t_readParts t_readDay t_readSecond t_readNano t_readOffset t_alike t_known (7 : Int32) (12 : Int32) u3 e4) gm_5_226 gm_5_223 gm_5_225 gm_p4_11 gm_1_13 ⟨rfl, rfl, by decide, by decide⟩ kd_SkeletonClockModel_some [0, 1] rfl rfl rfl 0 10 rfl rfl rfl rfl hl.1 rfl (Nat.le_of_ble_eq_true rfl) d_SkeletonClockModel_resolve_13 ⟨Nat.zero_le _, Nat.zero_le _⟩) hA hP hD hS [0, 1] rfl (fun H locs hP hS => ?_)
  refine lv_istore_n hx hb d_SkeletonClockModel_resolve_16 rfl hl (by decide) rfl (fun ls hl => ?_)
  have hl : lv_has ls 12 [(3, .int u3), (2, .int u1), (0, .ref a_t), (1, .int x1)] := hl
  refine lv_iload_n hx hb d_SkeletonClockModel_resolve_17 rfl (lv_at hl 1 rfl) ?_
  refine lv_if_ne (tgt := 37) hx hb d_SkeletonClockModel_resolve_18 rfl (fun hc => ?_) (fun hc => ?_)
  · have he := ih_f hc he
    have hl : lv_has ls 12 [(0, .ref a_t), (1, .int x1), (2, .int u1), (3, .int u3)] := lv_sub hl [2, 3, 1, 0] rfl
    exact w_SkeletonClockModel_resolve_37 a_t a_t_known a_t_value a_t_text a_t_page a_t_names a_t_sort a_t_code a_t_count a_t_around a_t_end a_t_size a_t_there a_t_wish a_t_have a_t_before a_t_open a_t_from t_length t_used t_far t_momentParts t_momentDay t_momentSecond t_momentNano t_momentOffset t_readParts t_readDay t_readSecond t_readNano t_readOffset t_alike t_known t_value x1 u1 u3 o S hr hlk hA X _ _ ls he hl hP hD hS
  · have he := ih_t hc he
    refine lv_iload_n hx hb d_SkeletonClockModel_resolve_21 rfl (lv_at hl 0 rfl) ?_
    refine lv_if_ne (tgt := 37) hx hb d_SkeletonClockModel_resolve_22 rfl (fun hc => ?_) (fun hc => ?_)
    · have he := ih_f hc he
      have hl : lv_has ls 12 [(0, .ref a_t), (1, .int x1), (2, .int u1), (3, .int u3)] := lv_sub hl [2, 3, 1, 0] rfl
      exact w_SkeletonClockModel_resolve_37 a_t a_t_known a_t_value a_t_text a_t_page a_t_names a_t_sort a_t_code a_t_count a_t_around a_t_end a_t_size a_t_there a_t_wish a_t_have a_t_before a_t_open a_t_from t_length t_used t_far t_momentParts t_momentDay t_momentSecond t_momentNano t_momentOffset t_readParts t_readDay t_readSecond t_readNano t_readOffset t_alike t_known t_value x1 u1 u3 o S hr hlk hA X _ _ ls he hl hP hD hS
    · have he := ih_t hc he
      refine lv_aload_n hx hb d_SkeletonClockModel_resolve_25 rfl (lv_at hl 2 rfl) ?_
      refine k_get S X us_SkeletonClockModel hP 0 rfl rfl 25 (by decide) gm_4_176 rfl d_SkeletonClockModel_resolve_26 ?_
      refine lv_bipush (v := (13 : Int32)) hx hb d_SkeletonClockModel_resolve_29 (by decide) ?_
      refine va_zald hx hb X.1 hP 1 2 rfl rfl (show ¬ ((13 : Int32) < 0 ∨ 14 ≤ ((13 : Int32)).toNatClampNeg) by decide) d_SkeletonClockModel_resolve_31 ?_
      refine lv_if_ne (tgt := 37) hx hb d_SkeletonClockModel_resolve_32 rfl (fun hc => ?_) (fun hc => ?_)
      · have he := ih_f hc he
        have hl : lv_has ls 12 [(0, .ref a_t), (1, .int x1), (2, .int u1), (3, .int u3)] := lv_sub hl [2, 3, 1, 0] rfl
        exact w_SkeletonClockModel_resolve_37 a_t a_t_known a_t_value a_t_text a_t_page a_t_names a_t_sort a_t_code a_t_count a_t_around a_t_end a_t_size a_t_there a_t_wish a_t_have a_t_before a_t_open a_t_from t_length t_used t_far t_momentParts t_momentDay t_momentSecond t_momentNano t_momentOffset t_readParts t_readDay t_readSecond t_readNano t_readOffset t_alike t_known t_value x1 u1 u3 o S hr hlk hA X _ _ ls he hl hP hD hS
      · have he := ih_t hc he
        refine lv_iconst (v := (0 : Int32)) hx hb d_SkeletonClockModel_resolve_35 (by decide) ?_
        cases he
        exact k_zre hx hb hr hlk X hP hD hS (Or.inl rfl) d_SkeletonClockModel_resolve_36
