abbrev b_SkeletonClockModel_offsetAt : ByteArray := prog_14_method_50_code
def y_SkeletonClockModel_offsetAt : MethodName := ⟨"SkeletonClockModel", "offsetAt", "(III)I"⟩
theorem kd_SkeletonClockModel_offsetAt : kd_ok y_SkeletonClockModel_offsetAt 3 := by decide +kernel
abbrev b_SkeletonClockModel_named : ByteArray := prog_14_method_49_code
def y_SkeletonClockModel_named : MethodName := ⟨"SkeletonClockModel", "named", "(IIIIII)I"⟩
theorem kd_SkeletonClockModel_named : kd_ok y_SkeletonClockModel_named 6 := by decide +kernel
theorem gm_5_199 : Cond.code ({ cls := "SkeletonClockModel", name := "digitsAt", desc := "(II)I" } : MethodName) prog_14_method_44_code (4 : Nat) (Option.some FieldType.int) ∈ GW := gw_5 (i := 199) rfl rfl
theorem gm_5_196 : Cond.methodLink "SkeletonClockModel" (304 : Nat) ({ cls := "SkeletonClockModel", name := "digitsAt", desc := "(II)I" } : MethodName) ∈ GW := gw_5 (i := 196) rfl rfl
theorem gm_5_198 : Cond.instanceMethod ({ cls := "SkeletonClockModel", name := "digitsAt", desc := "(II)I" } : MethodName) ∈ GW := gw_5 (i := 198) rfl rfl
theorem gm_p4_5 : Cond.selects "SkeletonClockModel" ⟨"SkeletonClockModel", "digitsAt", "(II)I"⟩ ⟨"SkeletonClockModel", "digitsAt", "(II)I"⟩ ∈ GW := gs_4 (i := 5) rfl
theorem gm_5_203 : Cond.code ({ cls := "SkeletonClockModel", name := "numberAt", desc := "(II)J" } : MethodName) prog_14_method_45_code (6 : Nat) (Option.some FieldType.long) ∈ GW := gw_5 (i := 203) rfl rfl
theorem gm_5_200 : Cond.methodLink "SkeletonClockModel" (307 : Nat) ({ cls := "SkeletonClockModel", name := "numberAt", desc := "(II)J" } : MethodName) ∈ GW := gw_5 (i := 200) rfl rfl
theorem gm_5_202 : Cond.instanceMethod ({ cls := "SkeletonClockModel", name := "numberAt", desc := "(II)J" } : MethodName) ∈ GW := gw_5 (i := 202) rfl rfl
theorem gm_p4_6 : Cond.selects "SkeletonClockModel" ⟨"SkeletonClockModel", "numberAt", "(II)J"⟩ ⟨"SkeletonClockModel", "numberAt", "(II)J"⟩ ∈ GW := gs_4 (i := 6) rfl
theorem gm_5_205 : Cond.constantLong "SkeletonClockModel" (319 : Nat) (1080 : Int64) ∈ GW := gw_5 (i := 205) rfl rfl
theorem gm_5_195 : Cond.code ({ cls := "SkeletonClockModel", name := "learn", desc := "(IJI)I" } : MethodName) prog_14_method_46_code (5 : Nat) (Option.some FieldType.int) ∈ GW := gw_5 (i := 195) rfl rfl
theorem gm_5_192 : Cond.methodLink "SkeletonClockModel" (313 : Nat) ({ cls := "SkeletonClockModel", name := "learn", desc := "(IJI)I" } : MethodName) ∈ GW := gw_5 (i := 192) rfl rfl
theorem gm_5_194 : Cond.instanceMethod ({ cls := "SkeletonClockModel", name := "learn", desc := "(IJI)I" } : MethodName) ∈ GW := gw_5 (i := 194) rfl rfl
theorem gm_p4_4 : Cond.selects "SkeletonClockModel" ⟨"SkeletonClockModel", "learn", "(IJI)I"⟩ ⟨"SkeletonClockModel", "learn", "(IJI)I"⟩ ∈ GW := gs_4 (i := 4) rfl
theorem gm_5_204 : Cond.constantLong "SkeletonClockModel" (317 : Nat) (59 : Int64) ∈ GW := gw_5 (i := 204) rfl rfl
theorem gm_5_184 : Cond.code ({ cls := "SkeletonClockModel", name := "stands", desc := "(II)Z" } : MethodName) prog_14_method_43_code (3 : Nat) (Option.some FieldType.boolean) ∈ GW := gw_5 (i := 184) rfl rfl
theorem gm_5_181 : Cond.methodLink "SkeletonClockModel" (287 : Nat) ({ cls := "SkeletonClockModel", name := "stands", desc := "(II)Z" } : MethodName) ∈ GW := gw_5 (i := 181) rfl rfl
theorem gm_5_183 : Cond.instanceMethod ({ cls := "SkeletonClockModel", name := "stands", desc := "(II)Z" } : MethodName) ∈ GW := gw_5 (i := 183) rfl rfl
theorem gm_p4_2 : Cond.selects "SkeletonClockModel" ⟨"SkeletonClockModel", "stands", "(II)Z"⟩ ⟨"SkeletonClockModel", "stands", "(II)Z"⟩ ∈ GW := gs_4 (i := 2) rfl
theorem d_SkeletonClockModel_offsetAt_0 : decode b_SkeletonClockModel_offsetAt 0 = .ok (.iload_n 2, 1) := by decide +kernel
theorem d_SkeletonClockModel_offsetAt_1 : decode b_SkeletonClockModel_offsetAt 1 = .ok (.bipush 88, 2) := by decide +kernel
theorem d_SkeletonClockModel_offsetAt_3 : decode b_SkeletonClockModel_offsetAt 3 = .ok (.if_icmp .ne 24, 3) := by decide +kernel
theorem d_SkeletonClockModel_offsetAt_6 : decode b_SkeletonClockModel_offsetAt 6 = .ok (.aload_n 0, 1) := by decide +kernel
theorem d_SkeletonClockModel_offsetAt_7 : decode b_SkeletonClockModel_offsetAt 7 = .ok (.iload_n 1, 1) := by decide +kernel
theorem d_SkeletonClockModel_offsetAt_8 : decode b_SkeletonClockModel_offsetAt 8 = .ok (.bipush 90, 2) := by decide +kernel
theorem d_SkeletonClockModel_offsetAt_10 : decode b_SkeletonClockModel_offsetAt 10 = .ok (.invokevirtual 287, 3) := by decide +kernel
theorem d_SkeletonClockModel_offsetAt_13 : decode b_SkeletonClockModel_offsetAt 13 = .ok (.ifCond .eq 14, 3) := by decide +kernel
theorem d_SkeletonClockModel_offsetAt_16 : decode b_SkeletonClockModel_offsetAt 16 = .ok (.aload_n 0, 1) := by decide +kernel
theorem d_SkeletonClockModel_offsetAt_17 : decode b_SkeletonClockModel_offsetAt 17 = .ok (.bipush 13, 2) := by decide +kernel
theorem d_SkeletonClockModel_offsetAt_19 : decode b_SkeletonClockModel_offsetAt 19 = .ok (.lconst 0, 1) := by decide +kernel
theorem d_SkeletonClockModel_offsetAt_20 : decode b_SkeletonClockModel_offsetAt 20 = .ok (.iload_n 1, 1) := by decide +kernel
theorem d_SkeletonClockModel_offsetAt_21 : decode b_SkeletonClockModel_offsetAt 21 = .ok (.iconst 1, 1) := by decide +kernel
theorem d_SkeletonClockModel_offsetAt_22 : decode b_SkeletonClockModel_offsetAt 22 = .ok (.iadd, 1) := by decide +kernel
theorem d_SkeletonClockModel_offsetAt_23 : decode b_SkeletonClockModel_offsetAt 23 = .ok (.invokevirtual 313, 3) := by decide +kernel
theorem d_SkeletonClockModel_offsetAt_26 : decode b_SkeletonClockModel_offsetAt 26 = .ok (.ireturn, 1) := by decide +kernel
theorem d_SkeletonClockModel_offsetAt_27 : decode b_SkeletonClockModel_offsetAt 27 = .ok (.aload_n 0, 1) := by decide +kernel
theorem d_SkeletonClockModel_offsetAt_28 : decode b_SkeletonClockModel_offsetAt 28 = .ok (.iload_n 1, 1) := by decide +kernel
theorem d_SkeletonClockModel_offsetAt_29 : decode b_SkeletonClockModel_offsetAt 29 = .ok (.invokevirtual 184, 3) := by decide +kernel
theorem d_SkeletonClockModel_offsetAt_32 : decode b_SkeletonClockModel_offsetAt 32 = .ok (.bipush 43, 2) := by decide +kernel
theorem d_SkeletonClockModel_offsetAt_34 : decode b_SkeletonClockModel_offsetAt 34 = .ok (.if_icmp .eq 13, 3) := by decide +kernel
theorem d_SkeletonClockModel_offsetAt_37 : decode b_SkeletonClockModel_offsetAt 37 = .ok (.aload_n 0, 1) := by decide +kernel
theorem d_SkeletonClockModel_offsetAt_38 : decode b_SkeletonClockModel_offsetAt 38 = .ok (.iload_n 1, 1) := by decide +kernel
theorem d_SkeletonClockModel_offsetAt_39 : decode b_SkeletonClockModel_offsetAt 39 = .ok (.invokevirtual 184, 3) := by decide +kernel
theorem d_SkeletonClockModel_offsetAt_42 : decode b_SkeletonClockModel_offsetAt 42 = .ok (.bipush 45, 2) := by decide +kernel
theorem d_SkeletonClockModel_offsetAt_44 : decode b_SkeletonClockModel_offsetAt 44 = .ok (.if_icmp .ne 15, 3) := by decide +kernel
theorem d_SkeletonClockModel_offsetAt_47 : decode b_SkeletonClockModel_offsetAt 47 = .ok (.aload_n 0, 1) := by decide +kernel
theorem d_SkeletonClockModel_offsetAt_48 : decode b_SkeletonClockModel_offsetAt 48 = .ok (.iload_n 1, 1) := by decide +kernel
theorem d_SkeletonClockModel_offsetAt_49 : decode b_SkeletonClockModel_offsetAt 49 = .ok (.iconst 1, 1) := by decide +kernel
theorem d_SkeletonClockModel_offsetAt_50 : decode b_SkeletonClockModel_offsetAt 50 = .ok (.iadd, 1) := by decide +kernel
theorem d_SkeletonClockModel_offsetAt_51 : decode b_SkeletonClockModel_offsetAt 51 = .ok (.iconst 2, 1) := by decide +kernel
theorem d_SkeletonClockModel_offsetAt_52 : decode b_SkeletonClockModel_offsetAt 52 = .ok (.invokevirtual 304, 3) := by decide +kernel
theorem d_SkeletonClockModel_offsetAt_55 : decode b_SkeletonClockModel_offsetAt 55 = .ok (.iconst 2, 1) := by decide +kernel
theorem d_SkeletonClockModel_offsetAt_56 : decode b_SkeletonClockModel_offsetAt 56 = .ok (.if_icmp .ge 5, 3) := by decide +kernel
theorem d_SkeletonClockModel_offsetAt_59 : decode b_SkeletonClockModel_offsetAt 59 = .ok (.iconst (-1), 1) := by decide +kernel
theorem d_SkeletonClockModel_offsetAt_60 : decode b_SkeletonClockModel_offsetAt 60 = .ok (.ireturn, 1) := by decide +kernel
theorem d_SkeletonClockModel_offsetAt_61 : decode b_SkeletonClockModel_offsetAt 61 = .ok (.ldc2_w 225, 3) := by decide +kernel
theorem d_SkeletonClockModel_offsetAt_64 : decode b_SkeletonClockModel_offsetAt 64 = .ok (.aload_n 0, 1) := by decide +kernel
theorem d_SkeletonClockModel_offsetAt_65 : decode b_SkeletonClockModel_offsetAt 65 = .ok (.iload_n 1, 1) := by decide +kernel
theorem d_SkeletonClockModel_offsetAt_66 : decode b_SkeletonClockModel_offsetAt 66 = .ok (.iconst 1, 1) := by decide +kernel
theorem d_SkeletonClockModel_offsetAt_67 : decode b_SkeletonClockModel_offsetAt 67 = .ok (.iadd, 1) := by decide +kernel
theorem d_SkeletonClockModel_offsetAt_68 : decode b_SkeletonClockModel_offsetAt 68 = .ok (.iconst 2, 1) := by decide +kernel
theorem d_SkeletonClockModel_offsetAt_69 : decode b_SkeletonClockModel_offsetAt 69 = .ok (.invokevirtual 307, 3) := by decide +kernel
theorem d_SkeletonClockModel_offsetAt_72 : decode b_SkeletonClockModel_offsetAt 72 = .ok (.lmul, 1) := by decide +kernel
theorem d_SkeletonClockModel_offsetAt_73 : decode b_SkeletonClockModel_offsetAt 73 = .ok (.lstore 4, 2) := by decide +kernel
theorem d_SkeletonClockModel_offsetAt_75 : decode b_SkeletonClockModel_offsetAt 75 = .ok (.iload_n 1, 1) := by decide +kernel
theorem d_SkeletonClockModel_offsetAt_76 : decode b_SkeletonClockModel_offsetAt 76 = .ok (.iconst 3, 1) := by decide +kernel
theorem d_SkeletonClockModel_offsetAt_77 : decode b_SkeletonClockModel_offsetAt 77 = .ok (.iadd, 1) := by decide +kernel
theorem d_SkeletonClockModel_offsetAt_78 : decode b_SkeletonClockModel_offsetAt 78 = .ok (.istore 6, 2) := by decide +kernel
theorem d_SkeletonClockModel_offsetAt_80 : decode b_SkeletonClockModel_offsetAt 80 = .ok (.iload_n 3, 1) := by decide +kernel
theorem d_SkeletonClockModel_offsetAt_81 : decode b_SkeletonClockModel_offsetAt 81 = .ok (.iconst 3, 1) := by decide +kernel
theorem d_SkeletonClockModel_offsetAt_82 : decode b_SkeletonClockModel_offsetAt 82 = .ok (.if_icmp .ne 16, 3) := by decide +kernel
theorem d_SkeletonClockModel_offsetAt_85 : decode b_SkeletonClockModel_offsetAt 85 = .ok (.aload_n 0, 1) := by decide +kernel
theorem d_SkeletonClockModel_offsetAt_86 : decode b_SkeletonClockModel_offsetAt 86 = .ok (.iload 6, 2) := by decide +kernel
theorem d_SkeletonClockModel_offsetAt_88 : decode b_SkeletonClockModel_offsetAt 88 = .ok (.invokevirtual 184, 3) := by decide +kernel
theorem d_SkeletonClockModel_offsetAt_91 : decode b_SkeletonClockModel_offsetAt 91 = .ok (.bipush 58, 2) := by decide +kernel
theorem d_SkeletonClockModel_offsetAt_93 : decode b_SkeletonClockModel_offsetAt 93 = .ok (.if_icmp .eq 5, 3) := by decide +kernel
theorem d_SkeletonClockModel_offsetAt_96 : decode b_SkeletonClockModel_offsetAt 96 = .ok (.iconst (-1), 1) := by decide +kernel
theorem d_SkeletonClockModel_offsetAt_97 : decode b_SkeletonClockModel_offsetAt 97 = .ok (.ireturn, 1) := by decide +kernel
theorem d_SkeletonClockModel_offsetAt_98 : decode b_SkeletonClockModel_offsetAt 98 = .ok (.iload_n 3, 1) := by decide +kernel
theorem d_SkeletonClockModel_offsetAt_99 : decode b_SkeletonClockModel_offsetAt 99 = .ok (.iconst 3, 1) := by decide +kernel
theorem d_SkeletonClockModel_offsetAt_100 : decode b_SkeletonClockModel_offsetAt 100 = .ok (.if_icmp .ne 10, 3) := by decide +kernel
theorem d_SkeletonClockModel_offsetAt_103 : decode b_SkeletonClockModel_offsetAt 103 = .ok (.iload 6, 2) := by decide +kernel
theorem d_SkeletonClockModel_offsetAt_105 : decode b_SkeletonClockModel_offsetAt 105 = .ok (.iconst 1, 1) := by decide +kernel
theorem d_SkeletonClockModel_offsetAt_106 : decode b_SkeletonClockModel_offsetAt 106 = .ok (.iadd, 1) := by decide +kernel
theorem d_SkeletonClockModel_offsetAt_107 : decode b_SkeletonClockModel_offsetAt 107 = .ok (.goto 5, 3) := by decide +kernel
theorem d_SkeletonClockModel_offsetAt_110 : decode b_SkeletonClockModel_offsetAt 110 = .ok (.iload 6, 2) := by decide +kernel
theorem d_SkeletonClockModel_offsetAt_112 : decode b_SkeletonClockModel_offsetAt 112 = .ok (.istore 6, 2) := by decide +kernel
theorem d_SkeletonClockModel_offsetAt_114 : decode b_SkeletonClockModel_offsetAt 114 = .ok (.aload_n 0, 1) := by decide +kernel
theorem d_SkeletonClockModel_offsetAt_115 : decode b_SkeletonClockModel_offsetAt 115 = .ok (.iload 6, 2) := by decide +kernel
theorem d_SkeletonClockModel_offsetAt_117 : decode b_SkeletonClockModel_offsetAt 117 = .ok (.iconst 2, 1) := by decide +kernel
theorem d_SkeletonClockModel_offsetAt_118 : decode b_SkeletonClockModel_offsetAt 118 = .ok (.invokevirtual 304, 3) := by decide +kernel
theorem d_SkeletonClockModel_offsetAt_121 : decode b_SkeletonClockModel_offsetAt 121 = .ok (.istore 7, 2) := by decide +kernel
theorem d_SkeletonClockModel_offsetAt_123 : decode b_SkeletonClockModel_offsetAt 123 = .ok (.iload 7, 2) := by decide +kernel
theorem d_SkeletonClockModel_offsetAt_125 : decode b_SkeletonClockModel_offsetAt 125 = .ok (.iconst 2, 1) := by decide +kernel
theorem d_SkeletonClockModel_offsetAt_126 : decode b_SkeletonClockModel_offsetAt 126 = .ok (.if_icmp .ge 10, 3) := by decide +kernel
theorem d_SkeletonClockModel_offsetAt_129 : decode b_SkeletonClockModel_offsetAt 129 = .ok (.iload_n 3, 1) := by decide +kernel
theorem d_SkeletonClockModel_offsetAt_130 : decode b_SkeletonClockModel_offsetAt 130 = .ok (.iconst 1, 1) := by decide +kernel
theorem d_SkeletonClockModel_offsetAt_131 : decode b_SkeletonClockModel_offsetAt 131 = .ok (.if_icmp .le 5, 3) := by decide +kernel
theorem d_SkeletonClockModel_offsetAt_134 : decode b_SkeletonClockModel_offsetAt 134 = .ok (.iconst (-1), 1) := by decide +kernel
theorem d_SkeletonClockModel_offsetAt_135 : decode b_SkeletonClockModel_offsetAt 135 = .ok (.ireturn, 1) := by decide +kernel
theorem d_SkeletonClockModel_offsetAt_136 : decode b_SkeletonClockModel_offsetAt 136 = .ok (.iload 7, 2) := by decide +kernel
theorem d_SkeletonClockModel_offsetAt_138 : decode b_SkeletonClockModel_offsetAt 138 = .ok (.iconst 2, 1) := by decide +kernel
theorem d_SkeletonClockModel_offsetAt_139 : decode b_SkeletonClockModel_offsetAt 139 = .ok (.if_icmp .ne 33, 3) := by decide +kernel
theorem d_SkeletonClockModel_offsetAt_142 : decode b_SkeletonClockModel_offsetAt 142 = .ok (.aload_n 0, 1) := by decide +kernel
theorem d_SkeletonClockModel_offsetAt_143 : decode b_SkeletonClockModel_offsetAt 143 = .ok (.iload 6, 2) := by decide +kernel
theorem d_SkeletonClockModel_offsetAt_145 : decode b_SkeletonClockModel_offsetAt 145 = .ok (.iconst 2, 1) := by decide +kernel
theorem d_SkeletonClockModel_offsetAt_146 : decode b_SkeletonClockModel_offsetAt 146 = .ok (.invokevirtual 307, 3) := by decide +kernel
theorem d_SkeletonClockModel_offsetAt_149 : decode b_SkeletonClockModel_offsetAt 149 = .ok (.lstore 8, 2) := by decide +kernel
theorem d_SkeletonClockModel_offsetAt_151 : decode b_SkeletonClockModel_offsetAt 151 = .ok (.lload 8, 2) := by decide +kernel
theorem d_SkeletonClockModel_offsetAt_153 : decode b_SkeletonClockModel_offsetAt 153 = .ok (.ldc2_w 317, 3) := by decide +kernel
theorem d_SkeletonClockModel_offsetAt_156 : decode b_SkeletonClockModel_offsetAt 156 = .ok (.lcmp, 1) := by decide +kernel
theorem d_SkeletonClockModel_offsetAt_157 : decode b_SkeletonClockModel_offsetAt 157 = .ok (.ifCond .le 5, 3) := by decide +kernel
theorem d_SkeletonClockModel_offsetAt_160 : decode b_SkeletonClockModel_offsetAt 160 = .ok (.iconst (-1), 1) := by decide +kernel
theorem d_SkeletonClockModel_offsetAt_161 : decode b_SkeletonClockModel_offsetAt 161 = .ok (.ireturn, 1) := by decide +kernel
theorem d_SkeletonClockModel_offsetAt_162 : decode b_SkeletonClockModel_offsetAt 162 = .ok (.lload 4, 2) := by decide +kernel
theorem d_SkeletonClockModel_offsetAt_164 : decode b_SkeletonClockModel_offsetAt 164 = .ok (.lload 8, 2) := by decide +kernel
theorem d_SkeletonClockModel_offsetAt_166 : decode b_SkeletonClockModel_offsetAt 166 = .ok (.ladd, 1) := by decide +kernel
theorem d_SkeletonClockModel_offsetAt_167 : decode b_SkeletonClockModel_offsetAt 167 = .ok (.lstore 4, 2) := by decide +kernel
theorem d_SkeletonClockModel_offsetAt_169 : decode b_SkeletonClockModel_offsetAt 169 = .ok (.iinc 6 2, 3) := by decide +kernel
theorem d_SkeletonClockModel_offsetAt_172 : decode b_SkeletonClockModel_offsetAt 172 = .ok (.lload 4, 2) := by decide +kernel
theorem d_SkeletonClockModel_offsetAt_174 : decode b_SkeletonClockModel_offsetAt 174 = .ok (.ldc2_w 319, 3) := by decide +kernel
theorem d_SkeletonClockModel_offsetAt_177 : decode b_SkeletonClockModel_offsetAt 177 = .ok (.lcmp, 1) := by decide +kernel
theorem d_SkeletonClockModel_offsetAt_178 : decode b_SkeletonClockModel_offsetAt 178 = .ok (.ifCond .le 7, 3) := by decide +kernel
theorem d_SkeletonClockModel_offsetAt_181 : decode b_SkeletonClockModel_offsetAt 181 = .ok (.iconst (-1), 1) := by decide +kernel
theorem d_SkeletonClockModel_offsetAt_182 : decode b_SkeletonClockModel_offsetAt 182 = .ok (.goto 29, 3) := by decide +kernel
theorem d_SkeletonClockModel_offsetAt_185 : decode b_SkeletonClockModel_offsetAt 185 = .ok (.aload_n 0, 1) := by decide +kernel
theorem d_SkeletonClockModel_offsetAt_186 : decode b_SkeletonClockModel_offsetAt 186 = .ok (.bipush 13, 2) := by decide +kernel
theorem d_SkeletonClockModel_offsetAt_188 : decode b_SkeletonClockModel_offsetAt 188 = .ok (.aload_n 0, 1) := by decide +kernel
theorem d_SkeletonClockModel_offsetAt_189 : decode b_SkeletonClockModel_offsetAt 189 = .ok (.iload_n 1, 1) := by decide +kernel
theorem d_SkeletonClockModel_offsetAt_190 : decode b_SkeletonClockModel_offsetAt 190 = .ok (.invokevirtual 184, 3) := by decide +kernel
theorem d_SkeletonClockModel_offsetAt_193 : decode b_SkeletonClockModel_offsetAt 193 = .ok (.bipush 45, 2) := by decide +kernel
theorem d_SkeletonClockModel_offsetAt_195 : decode b_SkeletonClockModel_offsetAt 195 = .ok (.if_icmp .ne 9, 3) := by decide +kernel
theorem d_SkeletonClockModel_offsetAt_198 : decode b_SkeletonClockModel_offsetAt 198 = .ok (.lload 4, 2) := by decide +kernel
theorem d_SkeletonClockModel_offsetAt_200 : decode b_SkeletonClockModel_offsetAt 200 = .ok (.lneg, 1) := by decide +kernel
theorem d_SkeletonClockModel_offsetAt_201 : decode b_SkeletonClockModel_offsetAt 201 = .ok (.goto 5, 3) := by decide +kernel
theorem d_SkeletonClockModel_offsetAt_204 : decode b_SkeletonClockModel_offsetAt 204 = .ok (.lload 4, 2) := by decide +kernel
theorem d_SkeletonClockModel_offsetAt_206 : decode b_SkeletonClockModel_offsetAt 206 = .ok (.iload 6, 2) := by decide +kernel
theorem d_SkeletonClockModel_offsetAt_208 : decode b_SkeletonClockModel_offsetAt 208 = .ok (.invokevirtual 313, 3) := by decide +kernel
theorem d_SkeletonClockModel_offsetAt_211 : decode b_SkeletonClockModel_offsetAt 211 = .ok (.ireturn, 1) := by decide +kernel
theorem d_SkeletonClockModel_named_0 : decode b_SkeletonClockModel_named 0 = .ok (.iload_n 2, 1) := by decide +kernel
theorem d_SkeletonClockModel_named_1 : decode b_SkeletonClockModel_named 1 = .ok (.istore 7, 2) := by decide +kernel
theorem d_SkeletonClockModel_named_3 : decode b_SkeletonClockModel_named 3 = .ok (.iload 7, 2) := by decide +kernel
theorem d_SkeletonClockModel_named_5 : decode b_SkeletonClockModel_named 5 = .ok (.iload_n 3, 1) := by decide +kernel
theorem d_SkeletonClockModel_named_6 : decode b_SkeletonClockModel_named 6 = .ok (.if_icmp .gt 129, 3) := by decide +kernel
theorem d_SkeletonClockModel_named_9 : decode b_SkeletonClockModel_named 9 = .ok (.iconst 0, 1) := by decide +kernel
theorem d_SkeletonClockModel_named_10 : decode b_SkeletonClockModel_named 10 = .ok (.istore 8, 2) := by decide +kernel
theorem d_SkeletonClockModel_named_12 : decode b_SkeletonClockModel_named 12 = .ok (.iload 8, 2) := by decide +kernel
theorem d_SkeletonClockModel_named_14 : decode b_SkeletonClockModel_named 14 = .ok (.bipush 9, 2) := by decide +kernel
theorem d_SkeletonClockModel_named_16 : decode b_SkeletonClockModel_named 16 = .ok (.if_icmp .ge 51, 3) := by decide +kernel
theorem d_SkeletonClockModel_named_19 : decode b_SkeletonClockModel_named 19 = .ok (.aload_n 0, 1) := by decide +kernel
theorem d_SkeletonClockModel_named_20 : decode b_SkeletonClockModel_named 20 = .ok (.iload 7, 2) := by decide +kernel
theorem d_SkeletonClockModel_named_22 : decode b_SkeletonClockModel_named 22 = .ok (.iload 8, 2) := by decide +kernel
theorem d_SkeletonClockModel_named_24 : decode b_SkeletonClockModel_named 24 = .ok (.invokevirtual 277, 3) := by decide +kernel
theorem d_SkeletonClockModel_named_27 : decode b_SkeletonClockModel_named 27 = .ok (.ifCond .le 40, 3) := by decide +kernel
theorem d_SkeletonClockModel_named_30 : decode b_SkeletonClockModel_named 30 = .ok (.iload 4, 2) := by decide +kernel
theorem d_SkeletonClockModel_named_32 : decode b_SkeletonClockModel_named 32 = .ok (.iconst 3, 1) := by decide +kernel
theorem d_SkeletonClockModel_named_33 : decode b_SkeletonClockModel_named 33 = .ok (.if_icmp .gt 9, 3) := by decide +kernel
theorem d_SkeletonClockModel_named_36 : decode b_SkeletonClockModel_named 36 = .ok (.iload 8, 2) := by decide +kernel
theorem d_SkeletonClockModel_named_38 : decode b_SkeletonClockModel_named 38 = .ok (.iconst 3, 1) := by decide +kernel
theorem d_SkeletonClockModel_named_39 : decode b_SkeletonClockModel_named 39 = .ok (.if_icmp .ge 28, 3) := by decide +kernel
theorem d_SkeletonClockModel_named_42 : decode b_SkeletonClockModel_named 42 = .ok (.aload_n 0, 1) := by decide +kernel
theorem d_SkeletonClockModel_named_43 : decode b_SkeletonClockModel_named 43 = .ok (.iload_n 1, 1) := by decide +kernel
theorem d_SkeletonClockModel_named_44 : decode b_SkeletonClockModel_named 44 = .ok (.iload 8, 2) := by decide +kernel
theorem d_SkeletonClockModel_named_46 : decode b_SkeletonClockModel_named 46 = .ok (.iadd, 1) := by decide +kernel
theorem d_SkeletonClockModel_named_47 : decode b_SkeletonClockModel_named 47 = .ok (.aload_n 0, 1) := by decide +kernel
theorem d_SkeletonClockModel_named_48 : decode b_SkeletonClockModel_named 48 = .ok (.iload 7, 2) := by decide +kernel
theorem d_SkeletonClockModel_named_50 : decode b_SkeletonClockModel_named 50 = .ok (.iload 8, 2) := by decide +kernel
theorem d_SkeletonClockModel_named_52 : decode b_SkeletonClockModel_named 52 = .ok (.invokevirtual 277, 3) := by decide +kernel
theorem d_SkeletonClockModel_named_55 : decode b_SkeletonClockModel_named 55 = .ok (.invokevirtual 287, 3) := by decide +kernel
theorem d_SkeletonClockModel_named_58 : decode b_SkeletonClockModel_named 58 = .ok (.ifCond .eq 9, 3) := by decide +kernel
theorem d_SkeletonClockModel_named_61 : decode b_SkeletonClockModel_named 61 = .ok (.iinc 8 1, 3) := by decide +kernel
theorem d_SkeletonClockModel_named_64 : decode b_SkeletonClockModel_named 64 = .ok (.goto (-52), 3) := by decide +kernel
theorem d_SkeletonClockModel_named_67 : decode b_SkeletonClockModel_named 67 = .ok (.iload 4, 2) := by decide +kernel
theorem d_SkeletonClockModel_named_69 : decode b_SkeletonClockModel_named 69 = .ok (.iconst 3, 1) := by decide +kernel
theorem d_SkeletonClockModel_named_70 : decode b_SkeletonClockModel_named 70 = .ok (.if_icmp .ne 17, 3) := by decide +kernel
theorem d_SkeletonClockModel_named_73 : decode b_SkeletonClockModel_named 73 = .ok (.iload 8, 2) := by decide +kernel
theorem d_SkeletonClockModel_named_75 : decode b_SkeletonClockModel_named 75 = .ok (.iconst 3, 1) := by decide +kernel
theorem d_SkeletonClockModel_named_76 : decode b_SkeletonClockModel_named 76 = .ok (.if_icmp .ne 7, 3) := by decide +kernel
theorem d_SkeletonClockModel_named_79 : decode b_SkeletonClockModel_named 79 = .ok (.iconst 1, 1) := by decide +kernel
theorem d_SkeletonClockModel_named_80 : decode b_SkeletonClockModel_named 80 = .ok (.goto 23, 3) := by decide +kernel
theorem d_SkeletonClockModel_named_83 : decode b_SkeletonClockModel_named 83 = .ok (.iconst 0, 1) := by decide +kernel
theorem d_SkeletonClockModel_named_84 : decode b_SkeletonClockModel_named 84 = .ok (.goto 19, 3) := by decide +kernel
theorem d_SkeletonClockModel_named_87 : decode b_SkeletonClockModel_named 87 = .ok (.aload_n 0, 1) := by decide +kernel
theorem d_SkeletonClockModel_named_88 : decode b_SkeletonClockModel_named 88 = .ok (.iload 7, 2) := by decide +kernel
theorem d_SkeletonClockModel_named_90 : decode b_SkeletonClockModel_named 90 = .ok (.iload 8, 2) := by decide +kernel
theorem d_SkeletonClockModel_named_92 : decode b_SkeletonClockModel_named 92 = .ok (.invokevirtual 277, 3) := by decide +kernel
theorem d_SkeletonClockModel_named_95 : decode b_SkeletonClockModel_named 95 = .ok (.ifCond .ne 7, 3) := by decide +kernel
theorem d_SkeletonClockModel_named_98 : decode b_SkeletonClockModel_named 98 = .ok (.iconst 1, 1) := by decide +kernel
theorem d_SkeletonClockModel_named_99 : decode b_SkeletonClockModel_named 99 = .ok (.goto 4, 3) := by decide +kernel
theorem d_SkeletonClockModel_named_102 : decode b_SkeletonClockModel_named 102 = .ok (.iconst 0, 1) := by decide +kernel
theorem d_SkeletonClockModel_named_103 : decode b_SkeletonClockModel_named 103 = .ok (.istore 9, 2) := by decide +kernel
theorem d_SkeletonClockModel_named_105 : decode b_SkeletonClockModel_named 105 = .ok (.iload 9, 2) := by decide +kernel
theorem d_SkeletonClockModel_named_107 : decode b_SkeletonClockModel_named 107 = .ok (.ifCond .eq 22, 3) := by decide +kernel
theorem d_SkeletonClockModel_named_110 : decode b_SkeletonClockModel_named 110 = .ok (.aload_n 0, 1) := by decide +kernel
theorem d_SkeletonClockModel_named_111 : decode b_SkeletonClockModel_named 111 = .ok (.iload 5, 2) := by decide +kernel
theorem d_SkeletonClockModel_named_113 : decode b_SkeletonClockModel_named 113 = .ok (.iload 7, 2) := by decide +kernel
theorem d_SkeletonClockModel_named_115 : decode b_SkeletonClockModel_named 115 = .ok (.iload_n 2, 1) := by decide +kernel
theorem d_SkeletonClockModel_named_116 : decode b_SkeletonClockModel_named 116 = .ok (.isub, 1) := by decide +kernel
theorem d_SkeletonClockModel_named_117 : decode b_SkeletonClockModel_named 117 = .ok (.iload 6, 2) := by decide +kernel
theorem d_SkeletonClockModel_named_119 : decode b_SkeletonClockModel_named 119 = .ok (.iadd, 1) := by decide +kernel
theorem d_SkeletonClockModel_named_120 : decode b_SkeletonClockModel_named 120 = .ok (.i2l, 1) := by decide +kernel
theorem d_SkeletonClockModel_named_121 : decode b_SkeletonClockModel_named 121 = .ok (.iload_n 1, 1) := by decide +kernel
theorem d_SkeletonClockModel_named_122 : decode b_SkeletonClockModel_named 122 = .ok (.iload 8, 2) := by decide +kernel
theorem d_SkeletonClockModel_named_124 : decode b_SkeletonClockModel_named 124 = .ok (.iadd, 1) := by decide +kernel
theorem d_SkeletonClockModel_named_125 : decode b_SkeletonClockModel_named 125 = .ok (.invokevirtual 313, 3) := by decide +kernel
theorem d_SkeletonClockModel_named_128 : decode b_SkeletonClockModel_named 128 = .ok (.ireturn, 1) := by decide +kernel
theorem d_SkeletonClockModel_named_129 : decode b_SkeletonClockModel_named 129 = .ok (.iinc 7 1, 3) := by decide +kernel
theorem d_SkeletonClockModel_named_132 : decode b_SkeletonClockModel_named 132 = .ok (.goto (-129), 3) := by decide +kernel
theorem d_SkeletonClockModel_named_135 : decode b_SkeletonClockModel_named 135 = .ok (.iconst (-1), 1) := by decide +kernel
theorem d_SkeletonClockModel_named_136 : decode b_SkeletonClockModel_named 136 = .ok (.ireturn, 1) := by decide +kernel
abbrev rm_SkeletonClockModel_offsetAt : Room := { frames := 2, cells := 0, slots := 0, locals := 46 }
set_option maxHeartbeats 4000000 in
set_option maxRecDepth 100000 in
theorem w_SkeletonClockModel_offsetAt_172 {p : Program} {l : Launch} {e : Env} {s : State} {m : MethodId} {args : Array Value} {below : List Frame} {meth : Method} {c : Code} {A : Nat → Prop} {D : va_G} {kk : Nat → ClassId} {st : Nat → Nat} (a_t a_t_text a_t_known a_t_value a_t_page a_t_names a_t_sort a_t_code a_t_count a_t_around a_t_end a_t_size a_t_there a_t_wish a_t_have a_t_before a_t_open a_t_from : Nat) (t_length : Int32) (t_used : Int32) (t_far : Int32) (t_momentParts : Int32) (t_momentDay : Int64) (t_momentSecond : Int32) (t_momentNano : Int32) (t_momentOffset : Int32) (t_readParts : Int32) (t_readDay : Int64) (t_readSecond : Int32) (t_readNano : Int32) (t_readOffset : Int32) (t_alike : Int32) (t_text : Nat → Int32) (t_known : Nat → Int32) (t_value : Nat → Int64) (x1 : Int32) (x4 : Int64) (x6 : Int32) (o : Int32 × (Nat → Int32) × (Nat → Int64)) (S : CallFix p m c b_SkeletonClockModel_offsetAt 10 s args GW y_SkeletonClockModel_offsetAt.cls) (hr : meth.sig.returnType = (some .int)) (hlk : meth.locks = false) (hA : ∀ q, s.heap.size ≤ q → A q) (X : KX D kk st A s) (H : Heap) (locs : List Loc) (ls : Array Slot) (he : jn_SkeletonClockModel_offsetAt_172 t_length t_alike t_text t_known t_value x1 x4 x6 = some o) (hl : lv_has ls 10 [(0, .ref a_t), (1, .int x1), (4, .long x4), (6, .int x6)]) (hP : va_P D classes [(a_t, .inr (10, [.int t_length, .ref a_t_text, .int t_used, .ref a_t_page, .ref a_t_names, .ref a_t_sort, .ref a_t_code, .ref a_t_count, .ref a_t_around, .ref a_t_end, .ref a_t_size, .ref a_t_there, .ref a_t_wish, .ref a_t_have, .int t_far, .int t_momentParts, .long t_momentDay, .int t_momentSecond, .int t_momentNano, .int t_momentOffset, .int t_readParts, .long t_readDay, .int t_readSecond, .int t_readNano, .int t_readOffset, .ref a_t_known, .ref a_t_value, .ref a_t_before, .ref a_t_open, .ref a_t_from, .int t_alike])), (a_t_text, .inl (kk 1, 60, .inl t_text)), (a_t_known, .inl (kk 2, 14, .inl t_known)), (a_t_value, .inl (kk 3, 14, .inr (.inl t_value)))] H) (hD : va_D A [(a_t, .inr (10, [.int t_length, .ref a_t_text, .int t_used, .ref a_t_page, .ref a_t_names, .ref a_t_sort, .ref a_t_code, .ref a_t_count, .ref a_t_around, .ref a_t_end, .ref a_t_size, .ref a_t_there, .ref a_t_wish, .ref a_t_have, .int t_far, .int t_momentParts, .long t_momentDay, .int t_momentSecond, .int t_momentNano, .int t_momentOffset, .int t_readParts, .long t_readDay, .int t_readSecond, .int t_readNano, .int t_readOffset, .ref a_t_known, .ref a_t_value, .ref a_t_before, .ref a_t_open, .ref a_t_from, .int t_alike])), (a_t_text, .inl (kk 1, 60, .inl t_text)), (a_t_known, .inl (kk 2, 14, .inl t_known)), (a_t_value, .inl (kk 3, 14, .inr (.inl t_value)))]) (hS : va_S A s.heap H locs) : W p l e rm_SkeletonClockModel_offsetAt s m args below meth c H locs 0 0 (MQ below (KQi D kk o.1 [(a_t, .inr (10, [.int t_length, .ref a_t_text, .int t_used, .ref a_t_page, .ref a_t_names, .ref a_t_sort, .ref a_t_code, .ref a_t_count, .ref a_t_around, .ref a_t_end, .ref a_t_size, .ref a_t_there, .ref a_t_wish, .ref a_t_have, .int t_far, .int t_momentParts, .long t_momentDay, .int t_momentSecond, .int t_momentNano, .int t_momentOffset, .int t_readParts, .long t_readDay, .int t_readSecond, .int t_readNano, .int t_readOffset, .ref a_t_known, .ref a_t_value, .ref a_t_before, .ref a_t_open, .ref a_t_from, .int t_alike])), (a_t_text, .inl (kk 1, 60, .inl t_text)), (a_t_known, .inl (kk 2, 14, .inl o.2.1)), (a_t_value, .inl (kk 3, 14, .inr (.inl o.2.2)))] A) args s 0 0 A) (F0 m 172 ls []) := by
  have hx := S.1
  have hb := S.2.1
  unfold jn_SkeletonClockModel_offsetAt_172 at he
  refine lv_lload hx hb d_SkeletonClockModel_offsetAt_172 (lv_at hl 2 rfl) ?_
  refine lv_ldc2 (v := (1080 : Int64)) hx hb S.2.2.2.1 (S.2.2.2.2 _ gm_5_205) d_SkeletonClockModel_offsetAt_174 ?_
  refine lq_le (tgt := 185) hx hb d_SkeletonClockModel_offsetAt_177 d_SkeletonClockModel_offsetAt_178 rfl (fun hc => ?_) (fun hc => ?_)
  · have he := ih_t hc he
    refine lv_aload_n hx hb d_SkeletonClockModel_offsetAt_185 rfl (lv_at hl 0 rfl) ?_
    refine lv_bipush (v := (13 : Int32)) hx hb d_SkeletonClockModel_offsetAt_186 (by decide) ?_
    refine lv_aload_n hx hb d_SkeletonClockModel_offsetAt_188 rfl (lv_at hl 0 rfl) ?_
    refine lv_iload_n hx hb d_SkeletonClockModel_offsetAt_189 rfl (lv_at hl 1 rfl) ?_
    obtain ⟨u9, e10, he⟩ := ih_b he
    refine k_io (r_V (As := [.int x1]) S X hA hP hD hS (c_SkeletonClockModel_at l D kk st a_t a_t_text a_t_page a_t_names a_t_sort a_t_code a_t_count a_t_around a_t_end a_t_size a_t_there a_t_wish a_t_have a_t_known a_t_value a_t_before a_t_open a_t_from _ t_length t_used t_far t_momentParts t_momentDay t_momentSecond t_momentNano t_momentOffset t_readParts t_readDay t_readSecond t_readNano t_readOffset t_alike t_text x1 u9 e10) gm_5_21 gm_5_18 gm_5_20 gm_p3_0 gm_1_13 ⟨rfl, rfl, by decide, by decide⟩ kd_SkeletonClockModel_at [0, 1] rfl rfl rfl 0 10 rfl rfl rfl rfl hl.1 rfl (Nat.le_of_ble_eq_true rfl) d_SkeletonClockModel_offsetAt_190 ⟨Nat.zero_le _, Nat.zero_le _⟩) hA hP hD hS [0, 1] rfl (fun H locs hP hS => ?_)
    refine lv_bipush (v := (45 : Int32)) hx hb d_SkeletonClockModel_offsetAt_193 (by decide) ?_
    refine lv_icmp_ne (tgt := 204) hx hb d_SkeletonClockModel_offsetAt_195 rfl (fun hc => ?_) (fun hc => ?_)
    · have he := ih_f hc he
      refine lv_lload hx hb d_SkeletonClockModel_offsetAt_204 (lv_at hl 2 rfl) ?_
      refine lv_iload hx hb d_SkeletonClockModel_offsetAt_206 (lv_at hl 3 rfl) ?_
      obtain ⟨u11, e12, he⟩ := ih_b he
      refine k_i (wr := [(a_t_text, .inl (kk 1, 60, .inl t_text))]) (w1 := [(a_t, .inr (10, [.int t_length, .ref a_t_text, .int t_used, .ref a_t_page, .ref a_t_names, .ref a_t_sort, .ref a_t_code, .ref a_t_count, .ref a_t_around, .ref a_t_end, .ref a_t_size, .ref a_t_there, .ref a_t_wish, .ref a_t_have, .int t_far, .int t_momentParts, .long t_momentDay, .int t_momentSecond, .int t_momentNano, .int t_momentOffset, .int t_readParts, .long t_readDay, .int t_readSecond, .int t_readNano, .int t_readOffset, .ref a_t_known, .ref a_t_value, .ref a_t_before, .ref a_t_open, .ref a_t_from, .int t_alike])), (a_t_known, .inl (kk 2, 14, .inl u11.2.1)), (a_t_value, .inl (kk 3, 14, .inr (.inl u11.2.2)))]) (w2 := [(a_t, .inr (10, [.int t_length, .ref a_t_text, .int t_used, .ref a_t_page, .ref a_t_names, .ref a_t_sort, .ref a_t_code, .ref a_t_count, .ref a_t_around, .ref a_t_end, .ref a_t_size, .ref a_t_there, .ref a_t_wish, .ref a_t_have, .int t_far, .int t_momentParts, .long t_momentDay, .int t_momentSecond, .int t_momentNano, .int t_momentOffset, .int t_readParts, .long t_readDay, .int t_readSecond, .int t_readNano, .int t_readOffset, .ref a_t_known, .ref a_t_value, .ref a_t_before, .ref a_t_open, .ref a_t_from, .int t_alike])), (a_t_text, .inl (kk 1, 60, .inl t_text)), (a_t_known, .inl (kk 2, 14, .inl u11.2.1)), (a_t_value, .inl (kk 3, 14, .inr (.inl u11.2.2)))]) (r_V (As := [.int (13 : Int32), .long x4, .int x6]) S X hA hP hD hS (c_SkeletonClockModel_learn l D kk st a_t a_t_known a_t_value a_t_text a_t_page a_t_names a_t_sort a_t_code a_t_count a_t_around a_t_end a_t_size a_t_there a_t_wish a_t_have a_t_before a_t_open a_t_from _ t_length t_used t_far t_momentParts t_momentDay t_momentSecond t_momentNano t_momentOffset t_readParts t_readDay t_readSecond t_readNano t_readOffset t_alike t_known t_value (13 : Int32) x4 x6 u11 e12) gm_5_195 gm_5_192 gm_5_194 gm_p4_4 gm_1_13 ⟨rfl, rfl, by decide, by decide⟩ kd_SkeletonClockModel_learn [0, 2, 3] rfl rfl rfl 0 10 rfl rfl rfl rfl hl.1 rfl (Nat.le_of_ble_eq_true rfl) d_SkeletonClockModel_offsetAt_208 ⟨Nat.zero_le _, Nat.zero_le _⟩) hA hP hD hS [0, 2, 3] [1] [1, 0, 2, 3] rfl rfl rfl (by decide) rfl rfl rfl (fun H locs hP hD hS => ?_)
      cases he
      exact k_ire hx hb hr hlk X hP hD hS d_SkeletonClockModel_offsetAt_211
    · have he := ih_t hc he
      refine lv_lload hx hb d_SkeletonClockModel_offsetAt_198 (lv_at hl 2 rfl) ?_
      refine lv_lneg hx hb d_SkeletonClockModel_offsetAt_200 ?_
      refine lv_goto (tgt := 206) hx hb d_SkeletonClockModel_offsetAt_201 rfl ?_
      refine lv_iload hx hb d_SkeletonClockModel_offsetAt_206 (lv_at hl 3 rfl) ?_
      obtain ⟨u13, e14, he⟩ := ih_b he
      refine k_i (wr := [(a_t_text, .inl (kk 1, 60, .inl t_text))]) (w1 := [(a_t, .inr (10, [.int t_length, .ref a_t_text, .int t_used, .ref a_t_page, .ref a_t_names, .ref a_t_sort, .ref a_t_code, .ref a_t_count, .ref a_t_around, .ref a_t_end, .ref a_t_size, .ref a_t_there, .ref a_t_wish, .ref a_t_have, .int t_far, .int t_momentParts, .long t_momentDay, .int t_momentSecond, .int t_momentNano, .int t_momentOffset, .int t_readParts, .long t_readDay, .int t_readSecond, .int t_readNano, .int t_readOffset, .ref a_t_known, .ref a_t_value, .ref a_t_before, .ref a_t_open, .ref a_t_from, .int t_alike])), (a_t_known, .inl (kk 2, 14, .inl u13.2.1)), (a_t_value, .inl (kk 3, 14, .inr (.inl u13.2.2)))]) (w2 := [(a_t, .inr (10, [.int t_length, .ref a_t_text, .int t_used, .ref a_t_page, .ref a_t_names, .ref a_t_sort, .ref a_t_code, .ref a_t_count, .ref a_t_around, .ref a_t_end, .ref a_t_size, .ref a_t_there, .ref a_t_wish, .ref a_t_have, .int t_far, .int t_momentParts, .long t_momentDay, .int t_momentSecond, .int t_momentNano, .int t_momentOffset, .int t_readParts, .long t_readDay, .int t_readSecond, .int t_readNano, .int t_readOffset, .ref a_t_known, .ref a_t_value, .ref a_t_before, .ref a_t_open, .ref a_t_from, .int t_alike])), (a_t_text, .inl (kk 1, 60, .inl t_text)), (a_t_known, .inl (kk 2, 14, .inl u13.2.1)), (a_t_value, .inl (kk 3, 14, .inr (.inl u13.2.2)))]) (r_V (As := [.int (13 : Int32), .long (-x4), .int x6]) S X hA hP hD hS (c_SkeletonClockModel_learn l D kk st a_t a_t_known a_t_value a_t_text a_t_page a_t_names a_t_sort a_t_code a_t_count a_t_around a_t_end a_t_size a_t_there a_t_wish a_t_have a_t_before a_t_open a_t_from _ t_length t_used t_far t_momentParts t_momentDay t_momentSecond t_momentNano t_momentOffset t_readParts t_readDay t_readSecond t_readNano t_readOffset t_alike t_known t_value (13 : Int32) (-x4) x6 u13 e14) gm_5_195 gm_5_192 gm_5_194 gm_p4_4 gm_1_13 ⟨rfl, rfl, by decide, by decide⟩ kd_SkeletonClockModel_learn [0, 2, 3] rfl rfl rfl 0 10 rfl rfl rfl rfl hl.1 rfl (Nat.le_of_ble_eq_true rfl) d_SkeletonClockModel_offsetAt_208 ⟨Nat.zero_le _, Nat.zero_le _⟩) hA hP hD hS [0, 2, 3] [1] [1, 0, 2, 3] rfl rfl rfl (by decide) rfl rfl rfl (fun H locs hP hD hS => ?_)
      cases he
      exact k_ire hx hb hr hlk X hP hD hS d_SkeletonClockModel_offsetAt_211
  · have he := ih_f hc he
    refine lv_iconst (v := (-1 : Int32)) hx hb d_SkeletonClockModel_offsetAt_181 (by decide) ?_
    refine lv_goto (tgt := 211) hx hb d_SkeletonClockModel_offsetAt_182 rfl ?_
    cases he
    exact k_ire hx hb hr hlk X hP hD hS d_SkeletonClockModel_offsetAt_211
set_option maxHeartbeats 4000000 in
set_option maxRecDepth 100000 in
theorem w_SkeletonClockModel_offsetAt_136 {p : Program} {l : Launch} {e : Env} {s : State} {m : MethodId} {args : Array Value} {below : List Frame} {meth : Method} {c : Code} {A : Nat → Prop} {D : va_G} {kk : Nat → ClassId} {st : Nat → Nat} (a_t a_t_text a_t_known a_t_value a_t_page a_t_names a_t_sort a_t_code a_t_count a_t_around a_t_end a_t_size a_t_there a_t_wish a_t_have a_t_before a_t_open a_t_from : Nat) (t_length : Int32) (t_used : Int32) (t_far : Int32) (t_momentParts : Int32) (t_momentDay : Int64) (t_momentSecond : Int32) (t_momentNano : Int32) (t_momentOffset : Int32) (t_readParts : Int32) (t_readDay : Int64) (t_readSecond : Int32) (t_readNano : Int32) (t_readOffset : Int32) (t_alike : Int32) (t_text : Nat → Int32) (t_known : Nat → Int32) (t_value : Nat → Int64) (x1 : Int32) (x4 : Int64) (x6 : Int32) (x7 : Int32) (o : Int32 × (Nat → Int32) × (Nat → Int64)) (S : CallFix p m c b_SkeletonClockModel_offsetAt 10 s args GW y_SkeletonClockModel_offsetAt.cls) (hr : meth.sig.returnType = (some .int)) (hlk : meth.locks = false) (hA : ∀ q, s.heap.size ≤ q → A q) (X : KX D kk st A s) (H : Heap) (locs : List Loc) (ls : Array Slot) (he : jn_SkeletonClockModel_offsetAt_136 t_length t_alike t_text t_known t_value x1 x4 x6 x7 = some o) (hl : lv_has ls 10 [(0, .ref a_t), (1, .int x1), (4, .long x4), (6, .int x6), (7, .int x7)]) (hP : va_P D classes [(a_t, .inr (10, [.int t_length, .ref a_t_text, .int t_used, .ref a_t_page, .ref a_t_names, .ref a_t_sort, .ref a_t_code, .ref a_t_count, .ref a_t_around, .ref a_t_end, .ref a_t_size, .ref a_t_there, .ref a_t_wish, .ref a_t_have, .int t_far, .int t_momentParts, .long t_momentDay, .int t_momentSecond, .int t_momentNano, .int t_momentOffset, .int t_readParts, .long t_readDay, .int t_readSecond, .int t_readNano, .int t_readOffset, .ref a_t_known, .ref a_t_value, .ref a_t_before, .ref a_t_open, .ref a_t_from, .int t_alike])), (a_t_text, .inl (kk 1, 60, .inl t_text)), (a_t_known, .inl (kk 2, 14, .inl t_known)), (a_t_value, .inl (kk 3, 14, .inr (.inl t_value)))] H) (hD : va_D A [(a_t, .inr (10, [.int t_length, .ref a_t_text, .int t_used, .ref a_t_page, .ref a_t_names, .ref a_t_sort, .ref a_t_code, .ref a_t_count, .ref a_t_around, .ref a_t_end, .ref a_t_size, .ref a_t_there, .ref a_t_wish, .ref a_t_have, .int t_far, .int t_momentParts, .long t_momentDay, .int t_momentSecond, .int t_momentNano, .int t_momentOffset, .int t_readParts, .long t_readDay, .int t_readSecond, .int t_readNano, .int t_readOffset, .ref a_t_known, .ref a_t_value, .ref a_t_before, .ref a_t_open, .ref a_t_from, .int t_alike])), (a_t_text, .inl (kk 1, 60, .inl t_text)), (a_t_known, .inl (kk 2, 14, .inl t_known)), (a_t_value, .inl (kk 3, 14, .inr (.inl t_value)))]) (hS : va_S A s.heap H locs) : W p l e rm_SkeletonClockModel_offsetAt s m args below meth c H locs 0 0 (MQ below (KQi D kk o.1 [(a_t, .inr (10, [.int t_length, .ref a_t_text, .int t_used, .ref a_t_page, .ref a_t_names, .ref a_t_sort, .ref a_t_code, .ref a_t_count, .ref a_t_around, .ref a_t_end, .ref a_t_size, .ref a_t_there, .ref a_t_wish, .ref a_t_have, .int t_far, .int t_momentParts, .long t_momentDay, .int t_momentSecond, .int t_momentNano, .int t_momentOffset, .int t_readParts, .long t_readDay, .int t_readSecond, .int t_readNano, .int t_readOffset, .ref a_t_known, .ref a_t_value, .ref a_t_before, .ref a_t_open, .ref a_t_from, .int t_alike])), (a_t_text, .inl (kk 1, 60, .inl t_text)), (a_t_known, .inl (kk 2, 14, .inl o.2.1)), (a_t_value, .inl (kk 3, 14, .inr (.inl o.2.2)))] A) args s 0 0 A) (F0 m 136 ls []) := by
  have hx := S.1
  have hb := S.2.1
  unfold jn_SkeletonClockModel_offsetAt_136 at he
  refine lv_iload hx hb d_SkeletonClockModel_offsetAt_136 (lv_at hl 4 rfl) ?_
  refine lv_iconst (v := (2 : Int32)) hx hb d_SkeletonClockModel_offsetAt_138 (by decide) ?_
  refine lv_icmp_ne (tgt := 172) hx hb d_SkeletonClockModel_offsetAt_139 rfl (fun hc => ?_) (fun hc => ?_)
  · have he := ih_f hc he
    have hl : lv_has ls 10 [(0, .ref a_t), (1, .int x1), (4, .long x4), (6, .int x6)] := lv_sub hl [0, 1, 2, 3] rfl
    exact w_SkeletonClockModel_offsetAt_172 a_t a_t_text a_t_known a_t_value a_t_page a_t_names a_t_sort a_t_code a_t_count a_t_around a_t_end a_t_size a_t_there a_t_wish a_t_have a_t_before a_t_open a_t_from t_length t_used t_far t_momentParts t_momentDay t_momentSecond t_momentNano t_momentOffset t_readParts t_readDay t_readSecond t_readNano t_readOffset t_alike t_text t_known t_value x1 x4 x6 o S hr hlk hA X _ _ ls he hl hP hD hS
  · have he := ih_t hc he
    refine lv_aload_n hx hb d_SkeletonClockModel_offsetAt_142 rfl (lv_at hl 0 rfl) ?_
    refine lv_iload hx hb d_SkeletonClockModel_offsetAt_143 (lv_at hl 3 rfl) ?_
    refine lv_iconst (v := (2 : Int32)) hx hb d_SkeletonClockModel_offsetAt_145 (by decide) ?_
    obtain ⟨u15, e16, he⟩ := ih_b he
    refine k_lo (r_V (As := [.int x6, .int (2 : Int32)]) S X hA hP hD hS (c_SkeletonClockModel_numberAt l D kk st a_t a_t_text a_t_page a_t_names a_t_sort a_t_code a_t_count a_t_around a_t_end a_t_size a_t_there a_t_wish a_t_have a_t_known a_t_value a_t_before a_t_open a_t_from _ t_length t_used t_far t_momentParts t_momentDay t_momentSecond t_momentNano t_momentOffset t_readParts t_readDay t_readSecond t_readNano t_readOffset t_alike t_text x6 (2 : Int32) u15 e16) gm_5_203 gm_5_200 gm_5_202 gm_p4_6 gm_1_13 ⟨rfl, rfl, by decide, by decide⟩ kd_SkeletonClockModel_numberAt [0, 1] rfl rfl rfl 0 10 rfl rfl rfl rfl hl.1 rfl (Nat.le_of_ble_eq_true rfl) d_SkeletonClockModel_offsetAt_146 ⟨Nat.zero_le _, Nat.zero_le _⟩) hA hP hD hS [0, 1] rfl (fun H locs hP hS => ?_)
    refine lv_lstore hx hb d_SkeletonClockModel_offsetAt_149 hl (by decide) rfl (fun ls hl => ?_)
    have hl : lv_has ls 10 [(8, .long u15), (0, .ref a_t), (1, .int x1), (4, .long x4), (6, .int x6), (7, .int x7)] := hl
    refine lv_lload hx hb d_SkeletonClockModel_offsetAt_151 (lv_at hl 0 rfl) ?_
    refine lv_ldc2 (v := (59 : Int64)) hx hb S.2.2.2.1 (S.2.2.2.2 _ gm_5_204) d_SkeletonClockModel_offsetAt_153 ?_
    refine lq_le (tgt := 162) hx hb d_SkeletonClockModel_offsetAt_156 d_SkeletonClockModel_offsetAt_157 rfl (fun hc => ?_) (fun hc => ?_)
    · have he := ih_t hc he
      refine lv_lload hx hb d_SkeletonClockModel_offsetAt_162 (lv_at hl 3 rfl) ?_
      refine lv_lload hx hb d_SkeletonClockModel_offsetAt_164 (lv_at hl 0 rfl) ?_
      refine lv_ladd hx hb d_SkeletonClockModel_offsetAt_166 ?_
      refine lv_lstore hx hb d_SkeletonClockModel_offsetAt_167 hl (by decide) rfl (fun ls hl => ?_)
      have hl : lv_has ls 10 [(4, .long (x4 + u15)), (8, .long u15), (0, .ref a_t), (1, .int x1), (6, .int x6), (7, .int x7)] := hl
      refine lv_iinc (k := 4) hx hb d_SkeletonClockModel_offsetAt_169 hl rfl (ii_ (v := (2 : Int32)) (by decide)) (by decide) rfl (fun ls hl => ?_)
      have hl : lv_has ls 10 [(6, .int (x6 + (2 : Int32))), (4, .long (x4 + u15)), (8, .long u15), (0, .ref a_t), (1, .int x1), (7, .int x7)] := hl
      have hl : lv_has ls 10 [(0, .ref a_t), (1, .int x1), (4, .long (x4 + u15)), (6, .int (x6 + (2 : Int32)))] := lv_sub hl [3, 4, 1, 0] rfl
      exact w_SkeletonClockModel_offsetAt_172 a_t a_t_text a_t_known a_t_value a_t_page a_t_names a_t_sort a_t_code a_t_count a_t_around a_t_end a_t_size a_t_there a_t_wish a_t_have a_t_before a_t_open a_t_from t_length t_used t_far t_momentParts t_momentDay t_momentSecond t_momentNano t_momentOffset t_readParts t_readDay t_readSecond t_readNano t_readOffset t_alike t_text t_known t_value x1 (x4 + u15) (x6 + (2 : Int32)) o S hr hlk hA X _ _ ls he hl hP hD hS
    · have he := ih_f hc he
      refine lv_iconst (v := (-1 : Int32)) hx hb d_SkeletonClockModel_offsetAt_160 (by decide) ?_
      cases he
      exact k_ire hx hb hr hlk X hP hD hS d_SkeletonClockModel_offsetAt_161
set_option maxHeartbeats 4000000 in
set_option maxRecDepth 100000 in
theorem w_SkeletonClockModel_offsetAt_112 {p : Program} {l : Launch} {e : Env} {s : State} {m : MethodId} {args : Array Value} {below : List Frame} {meth : Method} {c : Code} {A : Nat → Prop} {D : va_G} {kk : Nat → ClassId} {st : Nat → Nat} (a_t a_t_text a_t_known a_t_value a_t_page a_t_names a_t_sort a_t_code a_t_count a_t_around a_t_end a_t_size a_t_there a_t_wish a_t_have a_t_before a_t_open a_t_from : Nat) (t_length : Int32) (t_used : Int32) (t_far : Int32) (t_momentParts : Int32) (t_momentDay : Int64) (t_momentSecond : Int32) (t_momentNano : Int32) (t_momentOffset : Int32) (t_readParts : Int32) (t_readDay : Int64) (t_readSecond : Int32) (t_readNano : Int32) (t_readOffset : Int32) (t_alike : Int32) (t_text : Nat → Int32) (t_known : Nat → Int32) (t_value : Nat → Int64) (x1 : Int32) (x3 : Int32) (x4 : Int64) (s0 : Int32) (o : Int32 × (Nat → Int32) × (Nat → Int64)) (S : CallFix p m c b_SkeletonClockModel_offsetAt 10 s args GW y_SkeletonClockModel_offsetAt.cls) (hr : meth.sig.returnType = (some .int)) (hlk : meth.locks = false) (hA : ∀ q, s.heap.size ≤ q → A q) (X : KX D kk st A s) (H : Heap) (locs : List Loc) (ls : Array Slot) (he : jn_SkeletonClockModel_offsetAt_112 t_length t_alike t_text t_known t_value x1 x3 x4 s0 = some o) (hl : lv_has ls 10 [(0, .ref a_t), (1, .int x1), (3, .int x3), (4, .long x4)]) (hP : va_P D classes [(a_t, .inr (10, [.int t_length, .ref a_t_text, .int t_used, .ref a_t_page, .ref a_t_names, .ref a_t_sort, .ref a_t_code, .ref a_t_count, .ref a_t_around, .ref a_t_end, .ref a_t_size, .ref a_t_there, .ref a_t_wish, .ref a_t_have, .int t_far, .int t_momentParts, .long t_momentDay, .int t_momentSecond, .int t_momentNano, .int t_momentOffset, .int t_readParts, .long t_readDay, .int t_readSecond, .int t_readNano, .int t_readOffset, .ref a_t_known, .ref a_t_value, .ref a_t_before, .ref a_t_open, .ref a_t_from, .int t_alike])), (a_t_text, .inl (kk 1, 60, .inl t_text)), (a_t_known, .inl (kk 2, 14, .inl t_known)), (a_t_value, .inl (kk 3, 14, .inr (.inl t_value)))] H) (hD : va_D A [(a_t, .inr (10, [.int t_length, .ref a_t_text, .int t_used, .ref a_t_page, .ref a_t_names, .ref a_t_sort, .ref a_t_code, .ref a_t_count, .ref a_t_around, .ref a_t_end, .ref a_t_size, .ref a_t_there, .ref a_t_wish, .ref a_t_have, .int t_far, .int t_momentParts, .long t_momentDay, .int t_momentSecond, .int t_momentNano, .int t_momentOffset, .int t_readParts, .long t_readDay, .int t_readSecond, .int t_readNano, .int t_readOffset, .ref a_t_known, .ref a_t_value, .ref a_t_before, .ref a_t_open, .ref a_t_from, .int t_alike])), (a_t_text, .inl (kk 1, 60, .inl t_text)), (a_t_known, .inl (kk 2, 14, .inl t_known)), (a_t_value, .inl (kk 3, 14, .inr (.inl t_value)))]) (hS : va_S A s.heap H locs) : W p l e rm_SkeletonClockModel_offsetAt s m args below meth c H locs 0 0 (MQ below (KQi D kk o.1 [(a_t, .inr (10, [.int t_length, .ref a_t_text, .int t_used, .ref a_t_page, .ref a_t_names, .ref a_t_sort, .ref a_t_code, .ref a_t_count, .ref a_t_around, .ref a_t_end, .ref a_t_size, .ref a_t_there, .ref a_t_wish, .ref a_t_have, .int t_far, .int t_momentParts, .long t_momentDay, .int t_momentSecond, .int t_momentNano, .int t_momentOffset, .int t_readParts, .long t_readDay, .int t_readSecond, .int t_readNano, .int t_readOffset, .ref a_t_known, .ref a_t_value, .ref a_t_before, .ref a_t_open, .ref a_t_from, .int t_alike])), (a_t_text, .inl (kk 1, 60, .inl t_text)), (a_t_known, .inl (kk 2, 14, .inl o.2.1)), (a_t_value, .inl (kk 3, 14, .inr (.inl o.2.2)))] A) args s 0 0 A) (F0 m 112 ls [.int s0]) := by
  have hx := S.1
  have hb := S.2.1
  unfold jn_SkeletonClockModel_offsetAt_112 at he
  refine lv_istore hx hb d_SkeletonClockModel_offsetAt_112 hl (by decide) rfl (fun ls hl => ?_)
  have hl : lv_has ls 10 [(6, .int s0), (0, .ref a_t), (1, .int x1), (3, .int x3), (4, .long x4)] := hl
  refine lv_aload_n hx hb d_SkeletonClockModel_offsetAt_114 rfl (lv_at hl 1 rfl) ?_
  refine lv_iload hx hb d_SkeletonClockModel_offsetAt_115 (lv_at hl 0 rfl) ?_
  refine lv_iconst (v := (2 : Int32)) hx hb d_SkeletonClockModel_offsetAt_117 (by decide) ?_
  obtain ⟨u7, e8, he⟩ := ih_b he
  refine k_io (r_V (As := [.int s0, .int (2 : Int32)]) S X hA hP hD hS (c_SkeletonClockModel_digitsAt l D kk st a_t a_t_text a_t_page a_t_names a_t_sort a_t_code a_t_count a_t_around a_t_end a_t_size a_t_there a_t_wish a_t_have a_t_known a_t_value a_t_before a_t_open a_t_from _ t_length t_used t_far t_momentParts t_momentDay t_momentSecond t_momentNano t_momentOffset t_readParts t_readDay t_readSecond t_readNano t_readOffset t_alike t_text s0 (2 : Int32) u7 e8) gm_5_199 gm_5_196 gm_5_198 gm_p4_5 gm_1_13 ⟨rfl, rfl, by decide, by decide⟩ kd_SkeletonClockModel_digitsAt [0, 1] rfl rfl rfl 0 10 rfl rfl rfl rfl hl.1 rfl (Nat.le_of_ble_eq_true rfl) d_SkeletonClockModel_offsetAt_118 ⟨Nat.zero_le _, Nat.zero_le _⟩) hA hP hD hS [0, 1] rfl (fun H locs hP hS => ?_)
  refine lv_istore hx hb d_SkeletonClockModel_offsetAt_121 hl (by decide) rfl (fun ls hl => ?_)
  have hl : lv_has ls 10 [(7, .int u7), (6, .int s0), (0, .ref a_t), (1, .int x1), (3, .int x3), (4, .long x4)] := hl
  refine lv_iload hx hb d_SkeletonClockModel_offsetAt_123 (lv_at hl 0 rfl) ?_
  refine lv_iconst (v := (2 : Int32)) hx hb d_SkeletonClockModel_offsetAt_125 (by decide) ?_
  refine lv_icmp_ge (tgt := 136) hx hb d_SkeletonClockModel_offsetAt_126 rfl (fun hc => ?_) (fun hc => ?_)
  · have he := ih_t hc he
    have hl : lv_has ls 10 [(0, .ref a_t), (1, .int x1), (4, .long x4), (6, .int s0), (7, .int u7)] := lv_sub hl [2, 3, 5, 1, 0] rfl
    exact w_SkeletonClockModel_offsetAt_136 a_t a_t_text a_t_known a_t_value a_t_page a_t_names a_t_sort a_t_code a_t_count a_t_around a_t_end a_t_size a_t_there a_t_wish a_t_have a_t_before a_t_open a_t_from t_length t_used t_far t_momentParts t_momentDay t_momentSecond t_momentNano t_momentOffset t_readParts t_readDay t_readSecond t_readNano t_readOffset t_alike t_text t_known t_value x1 x4 s0 u7 o S hr hlk hA X _ _ ls he hl hP hD hS
  · have he := ih_f hc he
    refine lv_iload_n hx hb d_SkeletonClockModel_offsetAt_129 rfl (lv_at hl 4 rfl) ?_
    refine lv_iconst (v := (1 : Int32)) hx hb d_SkeletonClockModel_offsetAt_130 (by decide) ?_
    refine lv_icmp_le (tgt := 136) hx hb d_SkeletonClockModel_offsetAt_131 rfl (fun hc => ?_) (fun hc => ?_)
    · have he := ih_t hc he
      have hl : lv_has ls 10 [(0, .ref a_t), (1, .int x1), (4, .long x4), (6, .int s0), (7, .int u7)] := lv_sub hl [2, 3, 5, 1, 0] rfl
      exact w_SkeletonClockModel_offsetAt_136 a_t a_t_text a_t_known a_t_value a_t_page a_t_names a_t_sort a_t_code a_t_count a_t_around a_t_end a_t_size a_t_there a_t_wish a_t_have a_t_before a_t_open a_t_from t_length t_used t_far t_momentParts t_momentDay t_momentSecond t_momentNano t_momentOffset t_readParts t_readDay t_readSecond t_readNano t_readOffset t_alike t_text t_known t_value x1 x4 s0 u7 o S hr hlk hA X _ _ ls he hl hP hD hS
    · have he := ih_f hc he
      refine lv_iconst (v := (-1 : Int32)) hx hb d_SkeletonClockModel_offsetAt_134 (by decide) ?_
      cases he
      exact k_ire hx hb hr hlk X hP hD hS d_SkeletonClockModel_offsetAt_135
set_option maxHeartbeats 4000000 in
set_option maxRecDepth 100000 in
theorem w_SkeletonClockModel_offsetAt_98 {p : Program} {l : Launch} {e : Env} {s : State} {m : MethodId} {args : Array Value} {below : List Frame} {meth : Method} {c : Code} {A : Nat → Prop} {D : va_G} {kk : Nat → ClassId} {st : Nat → Nat} (a_t a_t_text a_t_known a_t_value a_t_page a_t_names a_t_sort a_t_code a_t_count a_t_around a_t_end a_t_size a_t_there a_t_wish a_t_have a_t_before a_t_open a_t_from : Nat) (t_length : Int32) (t_used : Int32) (t_far : Int32) (t_momentParts : Int32) (t_momentDay : Int64) (t_momentSecond : Int32) (t_momentNano : Int32) (t_momentOffset : Int32) (t_readParts : Int32) (t_readDay : Int64) (t_readSecond : Int32) (t_readNano : Int32) (t_readOffset : Int32) (t_alike : Int32) (t_text : Nat → Int32) (t_known : Nat → Int32) (t_value : Nat → Int64) (x1 : Int32) (x3 : Int32) (x4 : Int64) (x6 : Int32) (o : Int32 × (Nat → Int32) × (Nat → Int64)) (S : CallFix p m c b_SkeletonClockModel_offsetAt 10 s args GW y_SkeletonClockModel_offsetAt.cls) (hr : meth.sig.returnType = (some .int)) (hlk : meth.locks = false) (hA : ∀ q, s.heap.size ≤ q → A q) (X : KX D kk st A s) (H : Heap) (locs : List Loc) (ls : Array Slot) (he : jn_SkeletonClockModel_offsetAt_98 t_length t_alike t_text t_known t_value x1 x3 x4 x6 = some o) (hl : lv_has ls 10 [(0, .ref a_t), (1, .int x1), (3, .int x3), (4, .long x4), (6, .int x6)]) (hP : va_P D classes [(a_t, .inr (10, [.int t_length, .ref a_t_text, .int t_used, .ref a_t_page, .ref a_t_names, .ref a_t_sort, .ref a_t_code, .ref a_t_count, .ref a_t_around, .ref a_t_end, .ref a_t_size, .ref a_t_there, .ref a_t_wish, .ref a_t_have, .int t_far, .int t_momentParts, .long t_momentDay, .int t_momentSecond, .int t_momentNano, .int t_momentOffset, .int t_readParts, .long t_readDay, .int t_readSecond, .int t_readNano, .int t_readOffset, .ref a_t_known, .ref a_t_value, .ref a_t_before, .ref a_t_open, .ref a_t_from, .int t_alike])), (a_t_text, .inl (kk 1, 60, .inl t_text)), (a_t_known, .inl (kk 2, 14, .inl t_known)), (a_t_value, .inl (kk 3, 14, .inr (.inl t_value)))] H) (hD : va_D A [(a_t, .inr (10, [.int t_length, .ref a_t_text, .int t_used, .ref a_t_page, .ref a_t_names, .ref a_t_sort, .ref a_t_code, .ref a_t_count, .ref a_t_around, .ref a_t_end, .ref a_t_size, .ref a_t_there, .ref a_t_wish, .ref a_t_have, .int t_far, .int t_momentParts, .long t_momentDay, .int t_momentSecond, .int t_momentNano, .int t_momentOffset, .int t_readParts, .long t_readDay, .int t_readSecond, .int t_readNano, .int t_readOffset, .ref a_t_known, .ref a_t_value, .ref a_t_before, .ref a_t_open, .ref a_t_from, .int t_alike])), (a_t_text, .inl (kk 1, 60, .inl t_text)), (a_t_known, .inl (kk 2, 14, .inl t_known)), (a_t_value, .inl (kk 3, 14, .inr (.inl t_value)))]) (hS : va_S A s.heap H locs) : W p l e rm_SkeletonClockModel_offsetAt s m args below meth c H locs 0 0 (MQ below (KQi D kk o.1 [(a_t, .inr (10, [.int t_length, .ref a_t_text, .int t_used, .ref a_t_page, .ref a_t_names, .ref a_t_sort, .ref a_t_code, .ref a_t_count, .ref a_t_around, .ref a_t_end, .ref a_t_size, .ref a_t_there, .ref a_t_wish, .ref a_t_have, .int t_far, .int t_momentParts, .long t_momentDay, .int t_momentSecond, .int t_momentNano, .int t_momentOffset, .int t_readParts, .long t_readDay, .int t_readSecond, .int t_readNano, .int t_readOffset, .ref a_t_known, .ref a_t_value, .ref a_t_before, .ref a_t_open, .ref a_t_from, .int t_alike])), (a_t_text, .inl (kk 1, 60, .inl t_text)), (a_t_known, .inl (kk 2, 14, .inl o.2.1)), (a_t_value, .inl (kk 3, 14, .inr (.inl o.2.2)))] A) args s 0 0 A) (F0 m 98 ls []) := by
  have hx := S.1
  have hb := S.2.1
  unfold jn_SkeletonClockModel_offsetAt_98 at he
  refine lv_iload_n hx hb d_SkeletonClockModel_offsetAt_98 rfl (lv_at hl 2 rfl) ?_
  refine lv_iconst (v := (3 : Int32)) hx hb d_SkeletonClockModel_offsetAt_99 (by decide) ?_
  refine lv_icmp_ne (tgt := 110) hx hb d_SkeletonClockModel_offsetAt_100 rfl (fun hc => ?_) (fun hc => ?_)
  · have he := ih_f hc he
    refine lv_iload hx hb d_SkeletonClockModel_offsetAt_110 (lv_at hl 4 rfl) ?_
    have hl : lv_has ls 10 [(0, .ref a_t), (1, .int x1), (3, .int x3), (4, .long x4)] := lv_sub hl [0, 1, 2, 3] rfl
    exact w_SkeletonClockModel_offsetAt_112 a_t a_t_text a_t_known a_t_value a_t_page a_t_names a_t_sort a_t_code a_t_count a_t_around a_t_end a_t_size a_t_there a_t_wish a_t_have a_t_before a_t_open a_t_from t_length t_used t_far t_momentParts t_momentDay t_momentSecond t_momentNano t_momentOffset t_readParts t_readDay t_readSecond t_readNano t_readOffset t_alike t_text t_known t_value x1 x3 x4 x6 o S hr hlk hA X _ _ ls he hl hP hD hS
  · have he := ih_t hc he
    refine lv_iload hx hb d_SkeletonClockModel_offsetAt_103 (lv_at hl 4 rfl) ?_
    refine lv_iconst (v := (1 : Int32)) hx hb d_SkeletonClockModel_offsetAt_105 (by decide) ?_
    refine lv_iadd hx hb d_SkeletonClockModel_offsetAt_106 ?_
    refine lv_goto (tgt := 112) hx hb d_SkeletonClockModel_offsetAt_107 rfl ?_
    have hl : lv_has ls 10 [(0, .ref a_t), (1, .int x1), (3, .int x3), (4, .long x4)] := lv_sub hl [0, 1, 2, 3] rfl
    exact w_SkeletonClockModel_offsetAt_112 a_t a_t_text a_t_known a_t_value a_t_page a_t_names a_t_sort a_t_code a_t_count a_t_around a_t_end a_t_size a_t_there a_t_wish a_t_have a_t_before a_t_open a_t_from t_length t_used t_far t_momentParts t_momentDay t_momentSecond t_momentNano t_momentOffset t_readParts t_readDay t_readSecond t_readNano t_readOffset t_alike t_text t_known t_value x1 x3 x4 (x6 + (1 : Int32)) o S hr hlk hA X _ _ ls he hl hP hD hS
set_option maxHeartbeats 4000000 in
set_option maxRecDepth 100000 in
theorem w_SkeletonClockModel_offsetAt_47 {p : Program} {l : Launch} {e : Env} {s : State} {m : MethodId} {args : Array Value} {below : List Frame} {meth : Method} {c : Code} {A : Nat → Prop} {D : va_G} {kk : Nat → ClassId} {st : Nat → Nat} (a_t a_t_text a_t_known a_t_value a_t_page a_t_names a_t_sort a_t_code a_t_count a_t_around a_t_end a_t_size a_t_there a_t_wish a_t_have a_t_before a_t_open a_t_from : Nat) (t_length : Int32) (t_used : Int32) (t_far : Int32) (t_momentParts : Int32) (t_momentDay : Int64) (t_momentSecond : Int32) (t_momentNano : Int32) (t_momentOffset : Int32) (t_readParts : Int32) (t_readDay : Int64) (t_readSecond : Int32) (t_readNano : Int32) (t_readOffset : Int32) (t_alike : Int32) (t_text : Nat → Int32) (t_known : Nat → Int32) (t_value : Nat → Int64) (x1 : Int32) (x3 : Int32) (o : Int32 × (Nat → Int32) × (Nat → Int64)) (S : CallFix p m c b_SkeletonClockModel_offsetAt 10 s args GW y_SkeletonClockModel_offsetAt.cls) (hr : meth.sig.returnType = (some .int)) (hlk : meth.locks = false) (hA : ∀ q, s.heap.size ≤ q → A q) (X : KX D kk st A s) (H : Heap) (locs : List Loc) (ls : Array Slot) (he : jn_SkeletonClockModel_offsetAt_47 t_length t_alike t_text t_known t_value x1 x3 = some o) (hl : lv_has ls 10 [(0, .ref a_t), (1, .int x1), (3, .int x3)]) (hP : va_P D classes [(a_t, .inr (10, [.int t_length, .ref a_t_text, .int t_used, .ref a_t_page, .ref a_t_names, .ref a_t_sort, .ref a_t_code, .ref a_t_count, .ref a_t_around, .ref a_t_end, .ref a_t_size, .ref a_t_there, .ref a_t_wish, .ref a_t_have, .int t_far, .int t_momentParts, .long t_momentDay, .int t_momentSecond, .int t_momentNano, .int t_momentOffset, .int t_readParts, .long t_readDay, .int t_readSecond, .int t_readNano, .int t_readOffset, .ref a_t_known, .ref a_t_value, .ref a_t_before, .ref a_t_open, .ref a_t_from, .int t_alike])), (a_t_text, .inl (kk 1, 60, .inl t_text)), (a_t_known, .inl (kk 2, 14, .inl t_known)), (a_t_value, .inl (kk 3, 14, .inr (.inl t_value)))] H) (hD : va_D A [(a_t, .inr (10, [.int t_length, .ref a_t_text, .int t_used, .ref a_t_page, .ref a_t_names, .ref a_t_sort, .ref a_t_code, .ref a_t_count, .ref a_t_around, .ref a_t_end, .ref a_t_size, .ref a_t_there, .ref a_t_wish, .ref a_t_have, .int t_far, .int t_momentParts, .long t_momentDay, .int t_momentSecond, .int t_momentNano, .int t_momentOffset, .int t_readParts, .long t_readDay, .int t_readSecond, .int t_readNano, .int t_readOffset, .ref a_t_known, .ref a_t_value, .ref a_t_before, .ref a_t_open, .ref a_t_from, .int t_alike])), (a_t_text, .inl (kk 1, 60, .inl t_text)), (a_t_known, .inl (kk 2, 14, .inl t_known)), (a_t_value, .inl (kk 3, 14, .inr (.inl t_value)))]) (hS : va_S A s.heap H locs) : W p l e rm_SkeletonClockModel_offsetAt s m args below meth c H locs 0 0 (MQ below (KQi D kk o.1 [(a_t, .inr (10, [.int t_length, .ref a_t_text, .int t_used, .ref a_t_page, .ref a_t_names, .ref a_t_sort, .ref a_t_code, .ref a_t_count, .ref a_t_around, .ref a_t_end, .ref a_t_size, .ref a_t_there, .ref a_t_wish, .ref a_t_have, .int t_far, .int t_momentParts, .long t_momentDay, .int t_momentSecond, .int t_momentNano, .int t_momentOffset, .int t_readParts, .long t_readDay, .int t_readSecond, .int t_readNano, .int t_readOffset, .ref a_t_known, .ref a_t_value, .ref a_t_before, .ref a_t_open, .ref a_t_from, .int t_alike])), (a_t_text, .inl (kk 1, 60, .inl t_text)), (a_t_known, .inl (kk 2, 14, .inl o.2.1)), (a_t_value, .inl (kk 3, 14, .inr (.inl o.2.2)))] A) args s 0 0 A) (F0 m 47 ls []) := by
  have hx := S.1
  have hb := S.2.1
  unfold jn_SkeletonClockModel_offsetAt_47 at he
  refine lv_aload_n hx hb d_SkeletonClockModel_offsetAt_47 rfl (lv_at hl 0 rfl) ?_
  refine lv_iload_n hx hb d_SkeletonClockModel_offsetAt_48 rfl (lv_at hl 1 rfl) ?_
  refine lv_iconst (v := (1 : Int32)) hx hb d_SkeletonClockModel_offsetAt_49 (by decide) ?_
  refine lv_iadd hx hb d_SkeletonClockModel_offsetAt_50 ?_
  refine lv_iconst (v := (2 : Int32)) hx hb d_SkeletonClockModel_offsetAt_51 (by decide) ?_
  obtain ⟨u3, e4, he⟩ := ih_b he
  refine k_io (r_V (As := [.int (x1 + (1 : Int32)), .int (2 : Int32)]) S X hA hP hD hS (c_SkeletonClockModel_digitsAt l D kk st a_t a_t_text a_t_page a_t_names a_t_sort a_t_code a_t_count a_t_around a_t_end a_t_size a_t_there a_t_wish a_t_have a_t_known a_t_value a_t_before a_t_open a_t_from _ t_length t_used t_far t_momentParts t_momentDay t_momentSecond t_momentNano t_momentOffset t_readParts t_readDay t_readSecond t_readNano t_readOffset t_alike t_text (x1 + (1 : Int32)) (2 : Int32) u3 e4) gm_5_199 gm_5_196 gm_5_198 gm_p4_5 gm_1_13 ⟨rfl, rfl, by decide, by decide⟩ kd_SkeletonClockModel_digitsAt [0, 1] rfl rfl rfl 0 10 rfl rfl rfl rfl hl.1 rfl (Nat.le_of_ble_eq_true rfl) d_SkeletonClockModel_offsetAt_52 ⟨Nat.zero_le _, Nat.zero_le _⟩) hA hP hD hS [0, 1] rfl (fun H locs hP hS => ?_)
  refine lv_iconst (v := (2 : Int32)) hx hb d_SkeletonClockModel_offsetAt_55 (by decide) ?_
  refine lv_icmp_ge (tgt := 61) hx hb d_SkeletonClockModel_offsetAt_56 rfl (fun hc => ?_) (fun hc => ?_)
  · have he := ih_t hc he
    refine lv_ldc2 (v := (60 : Int64)) hx hb S.2.2.2.1 (S.2.2.2.2 _ gm_5_67) d_SkeletonClockModel_offsetAt_61 ?_
    refine lv_aload_n hx hb d_SkeletonClockModel_offsetAt_64 rfl (lv_at hl 0 rfl) ?_
    refine lv_iload_n hx hb d_SkeletonClockModel_offsetAt_65 rfl (lv_at hl 1 rfl) ?_
    refine lv_iconst (v := (1 : Int32)) hx hb d_SkeletonClockModel_offsetAt_66 (by decide) ?_
    refine lv_iadd hx hb d_SkeletonClockModel_offsetAt_67 ?_
    refine lv_iconst (v := (2 : Int32)) hx hb d_SkeletonClockModel_offsetAt_68 (by decide) ?_
    obtain ⟨u5, e6, he⟩ := ih_b he
    refine k_lo (r_V (As := [.int (x1 + (1 : Int32)), .int (2 : Int32)]) S X hA hP hD hS (c_SkeletonClockModel_numberAt l D kk st a_t a_t_text a_t_page a_t_names a_t_sort a_t_code a_t_count a_t_around a_t_end a_t_size a_t_there a_t_wish a_t_have a_t_known a_t_value a_t_before a_t_open a_t_from _ t_length t_used t_far t_momentParts t_momentDay t_momentSecond t_momentNano t_momentOffset t_readParts t_readDay t_readSecond t_readNano t_readOffset t_alike t_text (x1 + (1 : Int32)) (2 : Int32) u5 e6) gm_5_203 gm_5_200 gm_5_202 gm_p4_6 gm_1_13 ⟨rfl, rfl, by decide, by decide⟩ kd_SkeletonClockModel_numberAt [0, 1] rfl rfl rfl 0 10 rfl rfl rfl rfl hl.1 rfl (Nat.le_of_ble_eq_true rfl) d_SkeletonClockModel_offsetAt_69 ⟨Nat.zero_le _, Nat.zero_le _⟩) hA hP hD hS [0, 1] rfl (fun H locs hP hS => ?_)
    refine lv_lmul hx hb d_SkeletonClockModel_offsetAt_72 ?_
    refine lv_lstore hx hb d_SkeletonClockModel_offsetAt_73 hl (by decide) rfl (fun ls hl => ?_)
    have hl : lv_has ls 10 [(4, .long ((60 : Int64) * u5)), (0, .ref a_t), (1, .int x1), (3, .int x3)] := hl
    refine lv_iload_n hx hb d_SkeletonClockModel_offsetAt_75 rfl (lv_at hl 2 rfl) ?_
    refine lv_iconst (v := (3 : Int32)) hx hb d_SkeletonClockModel_offsetAt_76 (by decide) ?_
    refine lv_iadd hx hb d_SkeletonClockModel_offsetAt_77 ?_
    refine lv_istore hx hb d_SkeletonClockModel_offsetAt_78 hl (by decide) rfl (fun ls hl => ?_)
    have hl : lv_has ls 10 [(6, .int (x1 + (3 : Int32))), (4, .long ((60 : Int64) * u5)), (0, .ref a_t), (1, .int x1), (3, .int x3)] := hl
    refine lv_iload_n hx hb d_SkeletonClockModel_offsetAt_80 rfl (lv_at hl 4 rfl) ?_
    refine lv_iconst (v := (3 : Int32)) hx hb d_SkeletonClockModel_offsetAt_81 (by decide) ?_
    refine lv_icmp_ne (tgt := 98) hx hb d_SkeletonClockModel_offsetAt_82 rfl (fun hc => ?_) (fun hc => ?_)
    · have he := ih_f hc he
      have hl : lv_has ls 10 [(0, .ref a_t), (1, .int x1), (3, .int x3), (4, .long ((60 : Int64) * u5)), (6, .int (x1 + (3 : Int32)))] := lv_sub hl [2, 3, 4, 1, 0] rfl
      exact w_SkeletonClockModel_offsetAt_98 a_t a_t_text a_t_known a_t_value a_t_page a_t_names a_t_sort a_t_code a_t_count a_t_around a_t_end a_t_size a_t_there a_t_wish a_t_have a_t_before a_t_open a_t_from t_length t_used t_far t_momentParts t_momentDay t_momentSecond t_momentNano t_momentOffset t_readParts t_readDay t_readSecond t_readNano t_readOffset t_alike t_text t_known t_value x1 x3 ((60 : Int64) * u5) (x1 + (3 : Int32)) o S hr hlk hA X _ _ ls he hl hP hD hS
    · have he := ih_t hc he
      refine lv_aload_n hx hb d_SkeletonClockModel_offsetAt_85 rfl (lv_at hl 2 rfl) ?_
      refine lv_iload hx hb d_SkeletonClockModel_offsetAt_86 (lv_at hl 0 rfl) ?_
      obtain ⟨u17, e18, he⟩ := ih_b he
      refine k_io (r_V (As := [.int (x1 + (3 : Int32))]) S X hA hP hD hS (c_SkeletonClockModel_at l D kk st a_t a_t_text a_t_page a_t_names a_t_sort a_t_code a_t_count a_t_around a_t_end a_t_size a_t_there a_t_wish a_t_have a_t_known a_t_value a_t_before a_t_open a_t_from _ t_length t_used t_far t_momentParts t_momentDay t_momentSecond t_momentNano t_momentOffset t_readParts t_readDay t_readSecond t_readNano t_readOffset t_alike t_text (x1 + (3 : Int32)) u17 e18) gm_5_21 gm_5_18 gm_5_20 gm_p3_0 gm_1_13 ⟨rfl, rfl, by decide, by decide⟩ kd_SkeletonClockModel_at [0, 1] rfl rfl rfl 0 10 rfl rfl rfl rfl hl.1 rfl (Nat.le_of_ble_eq_true rfl) d_SkeletonClockModel_offsetAt_88 ⟨Nat.zero_le _, Nat.zero_le _⟩) hA hP hD hS [0, 1] rfl (fun H locs hP hS => ?_)
      refine lv_bipush (v := (58 : Int32)) hx hb d_SkeletonClockModel_offsetAt_91 (by decide) ?_
      refine lv_icmp_eq (tgt := 98) hx hb d_SkeletonClockModel_offsetAt_93 rfl (fun hc => ?_) (fun hc => ?_)
      · have he := ih_t hc he
        have hl : lv_has ls 10 [(0, .ref a_t), (1, .int x1), (3, .int x3), (4, .long ((60 : Int64) * u5)), (6, .int (x1 + (3 : Int32)))] := lv_sub hl [2, 3, 4, 1, 0] rfl
        exact w_SkeletonClockModel_offsetAt_98 a_t a_t_text a_t_known a_t_value a_t_page a_t_names a_t_sort a_t_code a_t_count a_t_around a_t_end a_t_size a_t_there a_t_wish a_t_have a_t_before a_t_open a_t_from t_length t_used t_far t_momentParts t_momentDay t_momentSecond t_momentNano t_momentOffset t_readParts t_readDay t_readSecond t_readNano t_readOffset t_alike t_text t_known t_value x1 x3 ((60 : Int64) * u5) (x1 + (3 : Int32)) o S hr hlk hA X _ _ ls he hl hP hD hS
      · have he := ih_f hc he
        refine lv_iconst (v := (-1 : Int32)) hx hb d_SkeletonClockModel_offsetAt_96 (by decide) ?_
        cases he
        exact k_ire hx hb hr hlk X hP hD hS d_SkeletonClockModel_offsetAt_97
  · have he := ih_f hc he
    refine lv_iconst (v := (-1 : Int32)) hx hb d_SkeletonClockModel_offsetAt_59 (by decide) ?_
    cases he
    exact k_ire hx hb hr hlk X hP hD hS d_SkeletonClockModel_offsetAt_60
set_option maxHeartbeats 4000000 in
set_option maxRecDepth 100000 in
theorem w_SkeletonClockModel_offsetAt_27 {p : Program} {l : Launch} {e : Env} {s : State} {m : MethodId} {args : Array Value} {below : List Frame} {meth : Method} {c : Code} {A : Nat → Prop} {D : va_G} {kk : Nat → ClassId} {st : Nat → Nat} (a_t a_t_text a_t_known a_t_value a_t_page a_t_names a_t_sort a_t_code a_t_count a_t_around a_t_end a_t_size a_t_there a_t_wish a_t_have a_t_before a_t_open a_t_from : Nat) (t_length : Int32) (t_used : Int32) (t_far : Int32) (t_momentParts : Int32) (t_momentDay : Int64) (t_momentSecond : Int32) (t_momentNano : Int32) (t_momentOffset : Int32) (t_readParts : Int32) (t_readDay : Int64) (t_readSecond : Int32) (t_readNano : Int32) (t_readOffset : Int32) (t_alike : Int32) (t_text : Nat → Int32) (t_known : Nat → Int32) (t_value : Nat → Int64) (x1 : Int32) (x3 : Int32) (o : Int32 × (Nat → Int32) × (Nat → Int64)) (S : CallFix p m c b_SkeletonClockModel_offsetAt 10 s args GW y_SkeletonClockModel_offsetAt.cls) (hr : meth.sig.returnType = (some .int)) (hlk : meth.locks = false) (hA : ∀ q, s.heap.size ≤ q → A q) (X : KX D kk st A s) (H : Heap) (locs : List Loc) (ls : Array Slot) (he : jn_SkeletonClockModel_offsetAt_27 t_length t_alike t_text t_known t_value x1 x3 = some o) (hl : lv_has ls 10 [(0, .ref a_t), (1, .int x1), (3, .int x3)]) (hP : va_P D classes [(a_t, .inr (10, [.int t_length, .ref a_t_text, .int t_used, .ref a_t_page, .ref a_t_names, .ref a_t_sort, .ref a_t_code, .ref a_t_count, .ref a_t_around, .ref a_t_end, .ref a_t_size, .ref a_t_there, .ref a_t_wish, .ref a_t_have, .int t_far, .int t_momentParts, .long t_momentDay, .int t_momentSecond, .int t_momentNano, .int t_momentOffset, .int t_readParts, .long t_readDay, .int t_readSecond, .int t_readNano, .int t_readOffset, .ref a_t_known, .ref a_t_value, .ref a_t_before, .ref a_t_open, .ref a_t_from, .int t_alike])), (a_t_text, .inl (kk 1, 60, .inl t_text)), (a_t_known, .inl (kk 2, 14, .inl t_known)), (a_t_value, .inl (kk 3, 14, .inr (.inl t_value)))] H) (hD : va_D A [(a_t, .inr (10, [.int t_length, .ref a_t_text, .int t_used, .ref a_t_page, .ref a_t_names, .ref a_t_sort, .ref a_t_code, .ref a_t_count, .ref a_t_around, .ref a_t_end, .ref a_t_size, .ref a_t_there, .ref a_t_wish, .ref a_t_have, .int t_far, .int t_momentParts, .long t_momentDay, .int t_momentSecond, .int t_momentNano, .int t_momentOffset, .int t_readParts, .long t_readDay, .int t_readSecond, .int t_readNano, .int t_readOffset, .ref a_t_known, .ref a_t_value, .ref a_t_before, .ref a_t_open, .ref a_t_from, .int t_alike])), (a_t_text, .inl (kk 1, 60, .inl t_text)), (a_t_known, .inl (kk 2, 14, .inl t_known)), (a_t_value, .inl (kk 3, 14, .inr (.inl t_value)))]) (hS : va_S A s.heap H locs) : W p l e rm_SkeletonClockModel_offsetAt s m args below meth c H locs 0 0 (MQ below (KQi D kk o.1 [(a_t, .inr (10, [.int t_length, .ref a_t_text, .int t_used, .ref a_t_page, .ref a_t_names, .ref a_t_sort, .ref a_t_code, .ref a_t_count, .ref a_t_around, .ref a_t_end, .ref a_t_size, .ref a_t_there, .ref a_t_wish, .ref a_t_have, .int t_far, .int t_momentParts, .long t_momentDay, .int t_momentSecond, .int t_momentNano, .int t_momentOffset, .int t_readParts, .long t_readDay, .int t_readSecond, .int t_readNano, .int t_readOffset, .ref a_t_known, .ref a_t_value, .ref a_t_before, .ref a_t_open, .ref a_t_from, .int t_alike])), (a_t_text, .inl (kk 1, 60, .inl t_text)), (a_t_known, .inl (kk 2, 14, .inl o.2.1)), (a_t_value, .inl (kk 3, 14, .inr (.inl o.2.2)))] A) args s 0 0 A) (F0 m 27 ls []) := by
  have hx := S.1
  have hb := S.2.1
  unfold jn_SkeletonClockModel_offsetAt_27 at he
  refine lv_aload_n hx hb d_SkeletonClockModel_offsetAt_27 rfl (lv_at hl 0 rfl) ?_
  refine lv_iload_n hx hb d_SkeletonClockModel_offsetAt_28 rfl (lv_at hl 1 rfl) ?_
  obtain ⟨u1, e2, he⟩ := ih_b he
  refine k_io (r_V (As := [.int x1]) S X hA hP hD hS (c_SkeletonClockModel_at l D kk st a_t a_t_text a_t_page a_t_names a_t_sort a_t_code a_t_count a_t_around a_t_end a_t_size a_t_there a_t_wish a_t_have a_t_known a_t_value a_t_before a_t_open a_t_from _ t_length t_used t_far t_momentParts t_momentDay t_momentSecond t_momentNano t_momentOffset t_readParts t_readDay t_readSecond t_readNano t_readOffset t_alike t_text x1 u1 e2) gm_5_21 gm_5_18 gm_5_20 gm_p3_0 gm_1_13 ⟨rfl, rfl, by decide, by decide⟩ kd_SkeletonClockModel_at [0, 1] rfl rfl rfl 0 10 rfl rfl rfl rfl hl.1 rfl (Nat.le_of_ble_eq_true rfl) d_SkeletonClockModel_offsetAt_29 ⟨Nat.zero_le _, Nat.zero_le _⟩) hA hP hD hS [0, 1] rfl (fun H locs hP hS => ?_)
  refine lv_bipush (v := (43 : Int32)) hx hb d_SkeletonClockModel_offsetAt_32 (by decide) ?_
  refine lv_icmp_eq (tgt := 47) hx hb d_SkeletonClockModel_offsetAt_34 rfl (fun hc => ?_) (fun hc => ?_)
  · have he := ih_t hc he
    have hl : lv_has ls 10 [(0, .ref a_t), (1, .int x1), (3, .int x3)] := lv_sub hl [0, 1, 2] rfl
    exact w_SkeletonClockModel_offsetAt_47 a_t a_t_text a_t_known a_t_value a_t_page a_t_names a_t_sort a_t_code a_t_count a_t_around a_t_end a_t_size a_t_there a_t_wish a_t_have a_t_before a_t_open a_t_from t_length t_used t_far t_momentParts t_momentDay t_momentSecond t_momentNano t_momentOffset t_readParts t_readDay t_readSecond t_readNano t_readOffset t_alike t_text t_known t_value x1 x3 o S hr hlk hA X _ _ ls he hl hP hD hS
  · have he := ih_f hc he
    refine lv_aload_n hx hb d_SkeletonClockModel_offsetAt_37 rfl (lv_at hl 0 rfl) ?_
    refine lv_iload_n hx hb d_SkeletonClockModel_offsetAt_38 rfl (lv_at hl 1 rfl) ?_
    obtain ⟨u19, e20, he⟩ := ih_b he
    refine k_io (r_V (As := [.int x1]) S X hA hP hD hS (c_SkeletonClockModel_at l D kk st a_t a_t_text a_t_page a_t_names a_t_sort a_t_code a_t_count a_t_around a_t_end a_t_size a_t_there a_t_wish a_t_have a_t_known a_t_value a_t_before a_t_open a_t_from _ t_length t_used t_far t_momentParts t_momentDay t_momentSecond t_momentNano t_momentOffset t_readParts t_readDay t_readSecond t_readNano t_readOffset t_alike t_text x1 u19 e20) gm_5_21 gm_5_18 gm_5_20 gm_p3_0 gm_1_13 ⟨rfl, rfl, by decide, by decide⟩ kd_SkeletonClockModel_at [0, 1] rfl rfl rfl 0 10 rfl rfl rfl rfl hl.1 rfl (Nat.le_of_ble_eq_true rfl) d_SkeletonClockModel_offsetAt_39 ⟨Nat.zero_le _, Nat.zero_le _⟩) hA hP hD hS [0, 1] rfl (fun H locs hP hS => ?_)
    refine lv_bipush (v := (45 : Int32)) hx hb d_SkeletonClockModel_offsetAt_42 (by decide) ?_
    refine lv_icmp_ne (tgt := 59) hx hb d_SkeletonClockModel_offsetAt_44 rfl (fun hc => ?_) (fun hc => ?_)
    · have he := ih_f hc he
      refine lv_iconst (v := (-1 : Int32)) hx hb d_SkeletonClockModel_offsetAt_59 (by decide) ?_
      cases he
      exact k_ire hx hb hr hlk X hP hD hS d_SkeletonClockModel_offsetAt_60
    · have he := ih_t hc he
      have hl : lv_has ls 10 [(0, .ref a_t), (1, .int x1), (3, .int x3)] := lv_sub hl [0, 1, 2] rfl
      exact w_SkeletonClockModel_offsetAt_47 a_t a_t_text a_t_known a_t_value a_t_page a_t_names a_t_sort a_t_code a_t_count a_t_around a_t_end a_t_size a_t_there a_t_wish a_t_have a_t_before a_t_open a_t_from t_length t_used t_far t_momentParts t_momentDay t_momentSecond t_momentNano t_momentOffset t_readParts t_readDay t_readSecond t_readNano t_readOffset t_alike t_text t_known t_value x1 x3 o S hr hlk hA X _ _ ls he hl hP hD hS
set_option maxHeartbeats 4000000 in
set_option maxRecDepth 100000 in
theorem c_SkeletonClockModel_offsetAt (l : Launch) (D : va_G) (kk : Nat → ClassId) (st : Nat → Nat) (a_t a_t_text a_t_known a_t_value a_t_page a_t_names a_t_sort a_t_code a_t_count a_t_around a_t_end a_t_size a_t_there a_t_wish a_t_have a_t_before a_t_open a_t_from : Nat) (sz : Nat) (t_length : Int32) (t_used : Int32) (t_far : Int32) (t_momentParts : Int32) (t_momentDay : Int64) (t_momentSecond : Int32) (t_momentNano : Int32) (t_momentOffset : Int32) (t_readParts : Int32) (t_readDay : Int64) (t_readSecond : Int32) (t_readNano : Int32) (t_readOffset : Int32) (t_alike : Int32) (t_text : Nat → Int32) (t_known : Nat → Int32) (t_value : Nat → Int64) (x1 : Int32) (x2 : Int32) (x3 : Int32) (o : Int32 × (Nat → Int32) × (Nat → Int64)) (he : f_SkeletonClockModel_offsetAt t_length t_alike t_text t_known t_value x1 x2 x3 = some o) : Met l y_SkeletonClockModel_offsetAt (Cond.code y_SkeletonClockModel_offsetAt b_SkeletonClockModel_offsetAt 10 (some .int) :: GW) rm_SkeletonClockModel_offsetAt (KPc D kk st [.ref a_t, .int x1, .int x2, .int x3] [(a_t, .inr (10, [.int t_length, .ref a_t_text, .int t_used, .ref a_t_page, .ref a_t_names, .ref a_t_sort, .ref a_t_code, .ref a_t_count, .ref a_t_around, .ref a_t_end, .ref a_t_size, .ref a_t_there, .ref a_t_wish, .ref a_t_have, .int t_far, .int t_momentParts, .long t_momentDay, .int t_momentSecond, .int t_momentNano, .int t_momentOffset, .int t_readParts, .long t_readDay, .int t_readSecond, .int t_readNano, .int t_readOffset, .ref a_t_known, .ref a_t_value, .ref a_t_before, .ref a_t_open, .ref a_t_from, .int t_alike])), (a_t_text, .inl (kk 1, 60, .inl t_text)), (a_t_known, .inl (kk 2, 14, .inl t_known)), (a_t_value, .inl (kk 3, 14, .inr (.inl t_value)))] sz) (KQi D kk o.1 [(a_t, .inr (10, [.int t_length, .ref a_t_text, .int t_used, .ref a_t_page, .ref a_t_names, .ref a_t_sort, .ref a_t_code, .ref a_t_count, .ref a_t_around, .ref a_t_end, .ref a_t_size, .ref a_t_there, .ref a_t_wish, .ref a_t_have, .int t_far, .int t_momentParts, .long t_momentDay, .int t_momentSecond, .int t_momentNano, .int t_momentOffset, .int t_readParts, .long t_readDay, .int t_readSecond, .int t_readNano, .int t_readOffset, .ref a_t_known, .ref a_t_value, .ref a_t_before, .ref a_t_open, .ref a_t_from, .int t_alike])), (a_t_text, .inl (kk 1, 60, .inl t_text)), (a_t_known, .inl (kk 2, 14, .inl o.2.1)), (a_t_value, .inl (kk 3, 14, .inr (.inl o.2.2)))] (va_A [(a_t, .inr (10, [.int t_length, .ref a_t_text, .int t_used, .ref a_t_page, .ref a_t_names, .ref a_t_sort, .ref a_t_code, .ref a_t_count, .ref a_t_around, .ref a_t_end, .ref a_t_size, .ref a_t_there, .ref a_t_wish, .ref a_t_have, .int t_far, .int t_momentParts, .long t_momentDay, .int t_momentSecond, .int t_momentNano, .int t_momentOffset, .int t_readParts, .long t_readDay, .int t_readSecond, .int t_readNano, .int t_readOffset, .ref a_t_known, .ref a_t_value, .ref a_t_before, .ref a_t_open, .ref a_t_from, .int t_alike])), (a_t_text, .inl (kk 1, 60, .inl t_text)), (a_t_known, .inl (kk 2, 14, .inl t_known)), (a_t_value, .inl (kk 3, 14, .inr (.inl t_value)))] sz)) 0 0 (va_A [(a_t, .inr (10, [.int t_length, .ref a_t_text, .int t_used, .ref a_t_page, .ref a_t_names, .ref a_t_sort, .ref a_t_code, .ref a_t_count, .ref a_t_around, .ref a_t_end, .ref a_t_size, .ref a_t_there, .ref a_t_wish, .ref a_t_have, .int t_far, .int t_momentParts, .long t_momentDay, .int t_momentSecond, .int t_momentNano, .int t_momentOffset, .int t_readParts, .long t_readDay, .int t_readSecond, .int t_readNano, .int t_readOffset, .ref a_t_known, .ref a_t_value, .ref a_t_before, .ref a_t_open, .ref a_t_from, .int t_alike])), (a_t_text, .inl (kk 1, 60, .inl t_text)), (a_t_known, .inl (kk 2, 14, .inl t_known)), (a_t_value, .inl (kk 3, 14, .inr (.inl t_value)))] sz) := by
  refine k_start (Qc := fun A => KQi D kk o.1 [(a_t, .inr (10, [.int t_length, .ref a_t_text, .int t_used, .ref a_t_page, .ref a_t_names, .ref a_t_sort, .ref a_t_code, .ref a_t_count, .ref a_t_around, .ref a_t_end, .ref a_t_size, .ref a_t_there, .ref a_t_wish, .ref a_t_have, .int t_far, .int t_momentParts, .long t_momentDay, .int t_momentSecond, .int t_momentNano, .int t_momentOffset, .int t_readParts, .long t_readDay, .int t_readSecond, .int t_readNano, .int t_readOffset, .ref a_t_known, .ref a_t_value, .ref a_t_before, .ref a_t_open, .ref a_t_from, .int t_alike])), (a_t_text, .inl (kk 1, 60, .inl t_text)), (a_t_known, .inl (kk 2, 14, .inl o.2.1)), (a_t_value, .inl (kk 3, 14, .inr (.inl o.2.2)))] A) (by decide) (Nat.le_of_ble_eq_true rfl) ?_
  intro p e s m below meth c A ls S hnm hr hlk hA X hP hD hS hl
  have hl : lv_has ls 10 [(0, .ref a_t), (1, .int x1), (2, .int x2), (3, .int x3)] := hl
  have hx := S.1
  have hb := S.2.1
  unfold f_SkeletonClockModel_offsetAt at he
  refine lv_iload_n hx hb d_SkeletonClockModel_offsetAt_0 rfl (lv_at hl 2 rfl) ?_
  refine lv_bipush (v := (88 : Int32)) hx hb d_SkeletonClockModel_offsetAt_1 (by decide) ?_
  refine lv_icmp_ne (tgt := 27) hx hb d_SkeletonClockModel_offsetAt_3 rfl (fun hc => ?_) (fun hc => ?_)
  · have he := ih_f hc he
    have hl : lv_has ls 10 [(0, .ref a_t), (1, .int x1), (3, .int x3)] := lv_sub hl [0, 1, 3] rfl
    exact w_SkeletonClockModel_offsetAt_27 a_t a_t_text a_t_known a_t_value a_t_page a_t_names a_t_sort a_t_code a_t_count a_t_around a_t_end a_t_size a_t_there a_t_wish a_t_have a_t_before a_t_open a_t_from t_length t_used t_far t_momentParts t_momentDay t_momentSecond t_momentNano t_momentOffset t_readParts t_readDay t_readSecond t_readNano t_readOffset t_alike t_text t_known t_value x1 x3 o S hr hlk hA X _ _ ls he hl hP hD hS
  · have he := ih_t hc he
    refine lv_aload_n hx hb d_SkeletonClockModel_offsetAt_6 rfl (lv_at hl 0 rfl) ?_
    refine lv_iload_n hx hb d_SkeletonClockModel_offsetAt_7 rfl (lv_at hl 1 rfl) ?_
    refine lv_bipush (v := (90 : Int32)) hx hb d_SkeletonClockModel_offsetAt_8 (by decide) ?_
    obtain ⟨u21, e22, he⟩ := ih_b he
    refine k_io (r_V (As := [.int x1, .int (90 : Int32)]) S X hA hP hD hS (c_SkeletonClockModel_stands l D kk st a_t a_t_text a_t_page a_t_names a_t_sort a_t_code a_t_count a_t_around a_t_end a_t_size a_t_there a_t_wish a_t_have a_t_known a_t_value a_t_before a_t_open a_t_from _ t_length t_used t_far t_momentParts t_momentDay t_momentSecond t_momentNano t_momentOffset t_readParts t_readDay t_readSecond t_readNano t_readOffset t_alike t_text x1 (90 : Int32) u21 e22) gm_5_184 gm_5_181 gm_5_183 gm_p4_2 gm_1_13 ⟨rfl, rfl, by decide, by decide⟩ kd_SkeletonClockModel_stands [0, 1] rfl rfl rfl 0 10 rfl rfl rfl rfl hl.1 rfl (Nat.le_of_ble_eq_true rfl) d_SkeletonClockModel_offsetAt_10 ⟨Nat.zero_le _, Nat.zero_le _⟩) hA hP hD hS [0, 1] rfl (fun H locs hP hS => ?_)
    refine lv_if_eq (tgt := 27) hx hb d_SkeletonClockModel_offsetAt_13 rfl (fun hc => ?_) (fun hc => ?_)
    · have he := ih_t hc he
      have hl : lv_has ls 10 [(0, .ref a_t), (1, .int x1), (3, .int x3)] := lv_sub hl [0, 1, 3] rfl
      exact w_SkeletonClockModel_offsetAt_27 a_t a_t_text a_t_known a_t_value a_t_page a_t_names a_t_sort a_t_code a_t_count a_t_around a_t_end a_t_size a_t_there a_t_wish a_t_have a_t_before a_t_open a_t_from t_length t_used t_far t_momentParts t_momentDay t_momentSecond t_momentNano t_momentOffset t_readParts t_readDay t_readSecond t_readNano t_readOffset t_alike t_text t_known t_value x1 x3 o S hr hlk hA X _ _ ls he hl hP hD hS
    · have he := ih_f hc he
      refine lv_aload_n hx hb d_SkeletonClockModel_offsetAt_16 rfl (lv_at hl 0 rfl) ?_
      refine lv_bipush (v := (13 : Int32)) hx hb d_SkeletonClockModel_offsetAt_17 (by decide) ?_
      refine lv_lconst (v := (0 : Int64)) hx hb d_SkeletonClockModel_offsetAt_19 (by decide) ?_
      refine lv_iload_n hx hb d_SkeletonClockModel_offsetAt_20 rfl (lv_at hl 1 rfl) ?_
      refine lv_iconst (v := (1 : Int32)) hx hb d_SkeletonClockModel_offsetAt_21 (by decide) ?_
      refine lv_iadd hx hb d_SkeletonClockModel_offsetAt_22 ?_
      obtain ⟨u23, e24, he⟩ := ih_b he
      refine k_i (wr := [(a_t_text, .inl (kk 1, 60, .inl t_text))]) (w1 := [(a_t, .inr (10, [.int t_length, .ref a_t_text, .int t_used, .ref a_t_page, .ref a_t_names, .ref a_t_sort, .ref a_t_code, .ref a_t_count, .ref a_t_around, .ref a_t_end, .ref a_t_size, .ref a_t_there, .ref a_t_wish, .ref a_t_have, .int t_far, .int t_momentParts, .long t_momentDay, .int t_momentSecond, .int t_momentNano, .int t_momentOffset, .int t_readParts, .long t_readDay, .int t_readSecond, .int t_readNano, .int t_readOffset, .ref a_t_known, .ref a_t_value, .ref a_t_before, .ref a_t_open, .ref a_t_from, .int t_alike])), (a_t_known, .inl (kk 2, 14, .inl u23.2.1)), (a_t_value, .inl (kk 3, 14, .inr (.inl u23.2.2)))]) (w2 := [(a_t, .inr (10, [.int t_length, .ref a_t_text, .int t_used, .ref a_t_page, .ref a_t_names, .ref a_t_sort, .ref a_t_code, .ref a_t_count, .ref a_t_around, .ref a_t_end, .ref a_t_size, .ref a_t_there, .ref a_t_wish, .ref a_t_have, .int t_far, .int t_momentParts, .long t_momentDay, .int t_momentSecond, .int t_momentNano, .int t_momentOffset, .int t_readParts, .long t_readDay, .int t_readSecond, .int t_readNano, .int t_readOffset, .ref a_t_known, .ref a_t_value, .ref a_t_before, .ref a_t_open, .ref a_t_from, .int t_alike])), (a_t_text, .inl (kk 1, 60, .inl t_text)), (a_t_known, .inl (kk 2, 14, .inl u23.2.1)), (a_t_value, .inl (kk 3, 14, .inr (.inl u23.2.2)))]) (r_V (As := [.int (13 : Int32), .long (0 : Int64), .int (x1 + (1 : Int32))]) S X hA hP hD hS (c_SkeletonClockModel_learn l D kk st a_t a_t_known a_t_value a_t_text a_t_page a_t_names a_t_sort a_t_code a_t_count a_t_around a_t_end a_t_size a_t_there a_t_wish a_t_have a_t_before a_t_open a_t_from _ t_length t_used t_far t_momentParts t_momentDay t_momentSecond t_momentNano t_momentOffset t_readParts t_readDay t_readSecond t_readNano t_readOffset t_alike t_known t_value (13 : Int32) (0 : Int64) (x1 + (1 : Int32)) u23 e24) gm_5_195 gm_5_192 gm_5_194 gm_p4_4 gm_1_13 ⟨rfl, rfl, by decide, by decide⟩ kd_SkeletonClockModel_learn [0, 2, 3] rfl rfl rfl 0 10 rfl rfl rfl rfl hl.1 rfl (Nat.le_of_ble_eq_true rfl) d_SkeletonClockModel_offsetAt_23 ⟨Nat.zero_le _, Nat.zero_le _⟩) hA hP hD hS [0, 2, 3] [1] [1, 0, 2, 3] rfl rfl rfl (by decide) rfl rfl rfl (fun H locs hP hD hS => ?_)
      cases he
      exact k_ire hx hb hr hlk X hP hD hS d_SkeletonClockModel_offsetAt_26
abbrev rm_SkeletonClockModel_named : Room := { frames := 2, cells := 0, slots := 0, locals := 43 }
set_option maxHeartbeats 4000000 in
set_option maxRecDepth 100000 in
theorem w_SkeletonClockModel_named_12 {p : Program} {l : Launch} {e : Env} {s : State} {m : MethodId} {args : Array Value} {below : List Frame} {meth : Method} {c : Code} {Q : State → Prop} {A : Nat → Prop} {D : va_G} {kk : Nat → ClassId} {st : Nat → Nat} (a_t a_t_text a_t_names a_t_known a_t_value a_t_page a_t_sort a_t_code a_t_count a_t_around a_t_end a_t_size a_t_there a_t_wish a_t_have a_t_before a_t_open a_t_from : Nat) (t_length : Int32) (t_used : Int32) (t_far : Int32) (t_momentParts : Int32) (t_momentDay : Int64) (t_momentSecond : Int32) (t_momentNano : Int32) (t_momentOffset : Int32) (t_readParts : Int32) (t_readDay : Int64) (t_readSecond : Int32) (t_readNano : Int32) (t_readOffset : Int32) (t_alike : Int32) (t_text : Nat → Int32) (t_names : Nat → Int64) (t_known : Nat → Int32) (t_value : Nat → Int64) (x1 : Int32) (x2 : Int32) (x3 : Int32) (x4 : Int32) (x5 : Int32) (x6 : Int32) (x7 : Int32) (S : CallFix p m c b_SkeletonClockModel_named 10 s args GW y_SkeletonClockModel_named.cls) (hr : meth.sig.returnType = (some .int)) (hlk : meth.locks = false) (hA : ∀ q, s.heap.size ≤ q → A q) (X : KX D kk st A s) : ∀ (n : Nat) (x8 : Int32) (v : Int32) (H : Heap) (locs : List Loc) (ls : Array Slot), lp_SkeletonClockModel_named_12 t_length t_alike t_text t_names x1 x2 x3 x4 x5 x6 x7 n x8 = some v → lv_has ls 10 [(0, .ref a_t), (1, .int x1), (2, .int x2), (3, .int x3), (4, .int x4), (5, .int x5), (6, .int x6), (7, .int x7), (8, .int x8)] → va_P D classes [(a_t, .inr (10, [.int t_length, .ref a_t_text, .int t_used, .ref a_t_page, .ref a_t_names, .ref a_t_sort, .ref a_t_code, .ref a_t_count, .ref a_t_around, .ref a_t_end, .ref a_t_size, .ref a_t_there, .ref a_t_wish, .ref a_t_have, .int t_far, .int t_momentParts, .long t_momentDay, .int t_momentSecond, .int t_momentNano, .int t_momentOffset, .int t_readParts, .long t_readDay, .int t_readSecond, .int t_readNano, .int t_readOffset, .ref a_t_known, .ref a_t_value, .ref a_t_before, .ref a_t_open, .ref a_t_from, .int t_alike])), (a_t_text, .inl (kk 1, 60, .inl t_text)), (a_t_names, .inl (kk 3, 21, .inr (.inl t_names))), (a_t_known, .inl (kk 2, 14, .inl t_known)), (a_t_value, .inl (kk 3, 14, .inr (.inl t_value)))] H → va_D A [(a_t, .inr (10, [.int t_length, .ref a_t_text, .int t_used, .ref a_t_page, .ref a_t_names, .ref a_t_sort, .ref a_t_code, .ref a_t_count, .ref a_t_around, .ref a_t_end, .ref a_t_size, .ref a_t_there, .ref a_t_wish, .ref a_t_have, .int t_far, .int t_momentParts, .long t_momentDay, .int t_momentSecond, .int t_momentNano, .int t_momentOffset, .int t_readParts, .long t_readDay, .int t_readSecond, .int t_readNano, .int t_readOffset, .ref a_t_known, .ref a_t_value, .ref a_t_before, .ref a_t_open, .ref a_t_from, .int t_alike])), (a_t_text, .inl (kk 1, 60, .inl t_text)), (a_t_names, .inl (kk 3, 21, .inr (.inl t_names))), (a_t_known, .inl (kk 2, 14, .inl t_known)), (a_t_value, .inl (kk 3, 14, .inr (.inl t_value)))] → va_S A s.heap H locs → (∀ (H : Heap) (locs : List Loc) (ls : Array Slot), lv_has ls 10 [(0, .ref a_t), (1, .int x1), (2, .int x2), (3, .int x3), (4, .int x4), (5, .int x5), (6, .int x6), (7, .int x7), (8, .int v)] → va_P D classes [(a_t, .inr (10, [.int t_length, .ref a_t_text, .int t_used, .ref a_t_page, .ref a_t_names, .ref a_t_sort, .ref a_t_code, .ref a_t_count, .ref a_t_around, .ref a_t_end, .ref a_t_size, .ref a_t_there, .ref a_t_wish, .ref a_t_have, .int t_far, .int t_momentParts, .long t_momentDay, .int t_momentSecond, .int t_momentNano, .int t_momentOffset, .int t_readParts, .long t_readDay, .int t_readSecond, .int t_readNano, .int t_readOffset, .ref a_t_known, .ref a_t_value, .ref a_t_before, .ref a_t_open, .ref a_t_from, .int t_alike])), (a_t_text, .inl (kk 1, 60, .inl t_text)), (a_t_names, .inl (kk 3, 21, .inr (.inl t_names))), (a_t_known, .inl (kk 2, 14, .inl t_known)), (a_t_value, .inl (kk 3, 14, .inr (.inl t_value)))] H → va_D A [(a_t, .inr (10, [.int t_length, .ref a_t_text, .int t_used, .ref a_t_page, .ref a_t_names, .ref a_t_sort, .ref a_t_code, .ref a_t_count, .ref a_t_around, .ref a_t_end, .ref a_t_size, .ref a_t_there, .ref a_t_wish, .ref a_t_have, .int t_far, .int t_momentParts, .long t_momentDay, .int t_momentSecond, .int t_momentNano, .int t_momentOffset, .int t_readParts, .long t_readDay, .int t_readSecond, .int t_readNano, .int t_readOffset, .ref a_t_known, .ref a_t_value, .ref a_t_before, .ref a_t_open, .ref a_t_from, .int t_alike])), (a_t_text, .inl (kk 1, 60, .inl t_text)), (a_t_names, .inl (kk 3, 21, .inr (.inl t_names))), (a_t_known, .inl (kk 2, 14, .inl t_known)), (a_t_value, .inl (kk 3, 14, .inr (.inl t_value)))] → va_S A s.heap H locs → W p l e rm_SkeletonClockModel_named s m args below meth c H locs 0 0 Q (F0 m 67 ls [])) → W p l e rm_SkeletonClockModel_named s m args below meth c H locs 0 0 Q (F0 m 12 ls []) := by
  intro n
  induction n with
  | zero =>
    intro x8 v H locs ls he hl hP hD hS K
    exact ih_n he
  | succ n ih =>
    intro x8 v H locs ls he hl hP hD hS K
    have hx := S.1
    have hb := S.2.1
    have he : st_SkeletonClockModel_named_12 t_length t_alike t_text t_names x1 x2 x3 x4 x5 x6 x7 (lp_SkeletonClockModel_named_12 t_length t_alike t_text t_names x1 x2 x3 x4 x5 x6 x7 n) x8 = some v := he
    unfold st_SkeletonClockModel_named_12 at he
    refine lv_iload hx hb d_SkeletonClockModel_named_12 (lv_at hl 8 rfl) ?_
    refine lv_bipush (v := (9 : Int32)) hx hb d_SkeletonClockModel_named_14 (by decide) ?_
    refine lv_icmp_ge (tgt := 67) hx hb d_SkeletonClockModel_named_16 rfl (fun hc => ?_) (fun hc => ?_)
    · have he := ih_t hc he
      have hl : lv_has ls 10 [(0, .ref a_t), (1, .int x1), (2, .int x2), (3, .int x3), (4, .int x4), (5, .int x5), (6, .int x6), (7, .int x7), (8, .int x8)] := lv_sub hl [0, 1, 2, 3, 4, 5, 6, 7, 8] rfl
      cases he
      exact K _ _ _ hl hP hD hS
    · have he := ih_f hc he
      refine lv_aload_n hx hb d_SkeletonClockModel_named_19 rfl (lv_at hl 0 rfl) ?_
      refine lv_iload hx hb d_SkeletonClockModel_named_20 (lv_at hl 7 rfl) ?_
      refine lv_iload hx hb d_SkeletonClockModel_named_22 (lv_at hl 8 rfl) ?_
      obtain ⟨u1, e2, he⟩ := ih_b he
      refine k_io (r_V (As := [.int x7, .int x8]) S X hA hP hD hS (c_SkeletonClockModel_letter l D kk st a_t a_t_names a_t_text a_t_page a_t_sort a_t_code a_t_count a_t_around a_t_end a_t_size a_t_there a_t_wish a_t_have a_t_known a_t_value a_t_before a_t_open a_t_from _ t_length t_used t_far t_momentParts t_momentDay t_momentSecond t_momentNano t_momentOffset t_readParts t_readDay t_readSecond t_readNano t_readOffset t_alike t_names x7 x8 u1 e2) gm_5_155 gm_5_152 gm_5_154 gm_p3_14 gm_1_13 ⟨rfl, rfl, by decide, by decide⟩ kd_SkeletonClockModel_letter [0, 2] rfl rfl rfl 0 10 rfl rfl rfl rfl hl.1 rfl (Nat.le_of_ble_eq_true rfl) d_SkeletonClockModel_named_24 ⟨Nat.zero_le _, Nat.zero_le _⟩) hA hP hD hS [0, 2] rfl (fun H locs hP hS => ?_)
      refine lv_if_le (tgt := 67) hx hb d_SkeletonClockModel_named_27 rfl (fun hc => ?_) (fun hc => ?_)
      · have he := ih_t hc he
        have hl : lv_has ls 10 [(0, .ref a_t), (1, .int x1), (2, .int x2), (3, .int x3), (4, .int x4), (5, .int x5), (6, .int x6), (7, .int x7), (8, .int x8)] := lv_sub hl [0, 1, 2, 3, 4, 5, 6, 7, 8] rfl
        cases he
        exact K _ _ _ hl hP hD hS
      · have he := ih_f hc he
        refine lv_iload hx hb d_SkeletonClockModel_named_30 (lv_at hl 4 rfl) ?_
        refine lv_iconst (v := (3 : Int32)) hx hb d_SkeletonClockModel_named_32 (by decide) ?_
        refine lv_icmp_gt (tgt := 42) hx hb d_SkeletonClockModel_named_33 rfl (fun hc => ?_) (fun hc => ?_)
        · have he := ih_t hc he
          refine lv_aload_n hx hb d_SkeletonClockModel_named_42 rfl (lv_at hl 0 rfl) ?_
          refine lv_iload_n hx hb d_SkeletonClockModel_named_43 rfl (lv_at hl 1 rfl) ?_
          refine lv_iload hx hb d_SkeletonClockModel_named_44 (lv_at hl 8 rfl) ?_
          refine lv_iadd hx hb d_SkeletonClockModel_named_46 ?_
          refine lv_aload_n hx hb d_SkeletonClockModel_named_47 rfl (lv_at hl 0 rfl) ?_
          refine lv_iload hx hb d_SkeletonClockModel_named_48 (lv_at hl 7 rfl) ?_
          refine lv_iload hx hb d_SkeletonClockModel_named_50 (lv_at hl 8 rfl) ?_
          obtain ⟨u3, e4, he⟩ := ih_b he
          refine k_io (r_V (As := [.int x7, .int x8]) S X hA hP hD hS (c_SkeletonClockModel_letter l D kk st a_t a_t_names a_t_text a_t_page a_t_sort a_t_code a_t_count a_t_around a_t_end a_t_size a_t_there a_t_wish a_t_have a_t_known a_t_value a_t_before a_t_open a_t_from _ t_length t_used t_far t_momentParts t_momentDay t_momentSecond t_momentNano t_momentOffset t_readParts t_readDay t_readSecond t_readNano t_readOffset t_alike t_names x7 x8 u3 e4) gm_5_155 gm_5_152 gm_5_154 gm_p3_14 gm_1_13 ⟨rfl, rfl, by decide, by decide⟩ kd_SkeletonClockModel_letter [0, 2] rfl rfl rfl 0 10 rfl rfl rfl rfl hl.1 rfl (Nat.le_of_ble_eq_true rfl) d_SkeletonClockModel_named_52 ⟨Nat.zero_le _, Nat.zero_le _⟩) hA hP hD hS [0, 2] rfl (fun H locs hP hS => ?_)
          obtain ⟨u5, e6, he⟩ := ih_b he
          refine k_io (r_V (As := [.int (x1 + x8), .int u3]) S X hA hP hD hS (c_SkeletonClockModel_stands l D kk st a_t a_t_text a_t_page a_t_names a_t_sort a_t_code a_t_count a_t_around a_t_end a_t_size a_t_there a_t_wish a_t_have a_t_known a_t_value a_t_before a_t_open a_t_from _ t_length t_used t_far t_momentParts t_momentDay t_momentSecond t_momentNano t_momentOffset t_readParts t_readDay t_readSecond t_readNano t_readOffset t_alike t_text (x1 + x8) u3 u5 e6) gm_5_184 gm_5_181 gm_5_183 gm_p4_2 gm_1_13 ⟨rfl, rfl, by decide, by decide⟩ kd_SkeletonClockModel_stands [0, 1] rfl rfl rfl 0 10 rfl rfl rfl rfl hl.1 rfl (Nat.le_of_ble_eq_true rfl) d_SkeletonClockModel_named_55 ⟨Nat.zero_le _, Nat.zero_le _⟩) hA hP hD hS [0, 1] rfl (fun H locs hP hS => ?_)
          refine lv_if_eq (tgt := 67) hx hb d_SkeletonClockModel_named_58 rfl (fun hc => ?_) (fun hc => ?_)
          · have he := ih_t hc he
            have hl : lv_has ls 10 [(0, .ref a_t), (1, .int x1), (2, .int x2), (3, .int x3), (4, .int x4), (5, .int x5), (6, .int x6), (7, .int x7), (8, .int x8)] := lv_sub hl [0, 1, 2, 3, 4, 5, 6, 7, 8] rfl
            cases he
            exact K _ _ _ hl hP hD hS
          · have he := ih_f hc he
            refine lv_iinc (k := 8) hx hb d_SkeletonClockModel_named_61 hl rfl (ii_ (v := (1 : Int32)) (by decide)) (by decide) rfl (fun ls hl => ?_)
            have hl : lv_has ls 10 [(8, .int (x8 + (1 : Int32))), (0, .ref a_t), (1, .int x1), (2, .int x2), (3, .int x3), (4, .int x4), (5, .int x5), (6, .int x6), (7, .int x7)] := hl
            refine lv_goto (tgt := 12) hx hb d_SkeletonClockModel_named_64 rfl ?_
            have hl : lv_has ls 10 [(0, .ref a_t), (1, .int x1), (2, .int x2), (3, .int x3), (4, .int x4), (5, .int x5), (6, .int x6), (7, .int x7), (8, .int (x8 + (1 : Int32)))] := lv_sub hl [1, 2, 3, 4, 5, 6, 7, 8, 0] rfl
            exact ih _ _ _ _ _ he hl hP hD hS K
        · have he := ih_f hc he
          refine lv_iload hx hb d_SkeletonClockModel_named_36 (lv_at hl 8 rfl) ?_
          refine lv_iconst (v := (3 : Int32)) hx hb d_SkeletonClockModel_named_38 (by decide) ?_
          refine lv_icmp_ge (tgt := 67) hx hb d_SkeletonClockModel_named_39 rfl (fun hc => ?_) (fun hc => ?_)
          · have he := ih_t hc he
            have hl : lv_has ls 10 [(0, .ref a_t), (1, .int x1), (2, .int x2), (3, .int x3), (4, .int x4), (5, .int x5), (6, .int x6), (7, .int x7), (8, .int x8)] := lv_sub hl [0, 1, 2, 3, 4, 5, 6, 7, 8] rfl
            cases he
            exact K _ _ _ hl hP hD hS
          · have he := ih_f hc he
            refine lv_aload_n hx hb d_SkeletonClockModel_named_42 rfl (lv_at hl 0 rfl) ?_
            refine lv_iload_n hx hb d_SkeletonClockModel_named_43 rfl (lv_at hl 1 rfl) ?_
            refine lv_iload hx hb d_SkeletonClockModel_named_44 (lv_at hl 8 rfl) ?_
            refine lv_iadd hx hb d_SkeletonClockModel_named_46 ?_
            refine lv_aload_n hx hb d_SkeletonClockModel_named_47 rfl (lv_at hl 0 rfl) ?_
            refine lv_iload hx hb d_SkeletonClockModel_named_48 (lv_at hl 7 rfl) ?_
            refine lv_iload hx hb d_SkeletonClockModel_named_50 (lv_at hl 8 rfl) ?_
            obtain ⟨u7, e8, he⟩ := ih_b he
            refine k_io (r_V (As := [.int x7, .int x8]) S X hA hP hD hS (c_SkeletonClockModel_letter l D kk st a_t a_t_names a_t_text a_t_page a_t_sort a_t_code a_t_count a_t_around a_t_end a_t_size a_t_there a_t_wish a_t_have a_t_known a_t_value a_t_before a_t_open a_t_from _ t_length t_used t_far t_momentParts t_momentDay t_momentSecond t_momentNano t_momentOffset t_readParts t_readDay t_readSecond t_readNano t_readOffset t_alike t_names x7 x8 u7 e8) gm_5_155 gm_5_152 gm_5_154 gm_p3_14 gm_1_13 ⟨rfl, rfl, by decide, by decide⟩ kd_SkeletonClockModel_letter [0, 2] rfl rfl rfl 0 10 rfl rfl rfl rfl hl.1 rfl (Nat.le_of_ble_eq_true rfl) d_SkeletonClockModel_named_52 ⟨Nat.zero_le _, Nat.zero_le _⟩) hA hP hD hS [0, 2] rfl (fun H locs hP hS => ?_)
            obtain ⟨u9, e10, he⟩ := ih_b he
            refine k_io (r_V (As := [.int (x1 + x8), .int u7]) S X hA hP hD hS (c_SkeletonClockModel_stands l D kk st a_t a_t_text a_t_page a_t_names a_t_sort a_t_code a_t_count a_t_around a_t_end a_t_size a_t_there a_t_wish a_t_have a_t_known a_t_value a_t_before a_t_open a_t_from _ t_length t_used t_far t_momentParts t_momentDay t_momentSecond t_momentNano t_momentOffset t_readParts t_readDay t_readSecond t_readNano t_readOffset t_alike t_text (x1 + x8) u7 u9 e10) gm_5_184 gm_5_181 gm_5_183 gm_p4_2 gm_1_13 ⟨rfl, rfl, by decide, by decide⟩ kd_SkeletonClockModel_stands [0, 1] rfl rfl rfl 0 10 rfl rfl rfl rfl hl.1 rfl (Nat.le_of_ble_eq_true rfl) d_SkeletonClockModel_named_55 ⟨Nat.zero_le _, Nat.zero_le _⟩) hA hP hD hS [0, 1] rfl (fun H locs hP hS => ?_)
            refine lv_if_eq (tgt := 67) hx hb d_SkeletonClockModel_named_58 rfl (fun hc => ?_) (fun hc => ?_)
            · have he := ih_t hc he
              have hl : lv_has ls 10 [(0, .ref a_t), (1, .int x1), (2, .int x2), (3, .int x3), (4, .int x4), (5, .int x5), (6, .int x6), (7, .int x7), (8, .int x8)] := lv_sub hl [0, 1, 2, 3, 4, 5, 6, 7, 8] rfl
              cases he
              exact K _ _ _ hl hP hD hS
            · have he := ih_f hc he
              refine lv_iinc (k := 8) hx hb d_SkeletonClockModel_named_61 hl rfl (ii_ (v := (1 : Int32)) (by decide)) (by decide) rfl (fun ls hl => ?_)
              have hl : lv_has ls 10 [(8, .int (x8 + (1 : Int32))), (0, .ref a_t), (1, .int x1), (2, .int x2), (3, .int x3), (4, .int x4), (5, .int x5), (6, .int x6), (7, .int x7)] := hl
              refine lv_goto (tgt := 12) hx hb d_SkeletonClockModel_named_64 rfl ?_
              have hl : lv_has ls 10 [(0, .ref a_t), (1, .int x1), (2, .int x2), (3, .int x3), (4, .int x4), (5, .int x5), (6, .int x6), (7, .int x7), (8, .int (x8 + (1 : Int32)))] := lv_sub hl [1, 2, 3, 4, 5, 6, 7, 8, 0] rfl
              exact ih _ _ _ _ _ he hl hP hD hS K
set_option maxHeartbeats 4000000 in
set_option maxRecDepth 100000 in
theorem w_SkeletonClockModel_named_3 {p : Program} {l : Launch} {e : Env} {s : State} {m : MethodId} {args : Array Value} {below : List Frame} {meth : Method} {c : Code} {Q : State → Prop} {A : Nat → Prop} {D : va_G} {kk : Nat → ClassId} {st : Nat → Nat} (a_t a_t_text a_t_names a_t_known a_t_value a_t_page a_t_sort a_t_code a_t_count a_t_around a_t_end a_t_size a_t_there a_t_wish a_t_have a_t_before a_t_open a_t_from : Nat) (t_length : Int32) (t_used : Int32) (t_far : Int32) (t_momentParts : Int32) (t_momentDay : Int64) (t_momentSecond : Int32) (t_momentNano : Int32) (t_momentOffset : Int32) (t_readParts : Int32) (t_readDay : Int64) (t_readSecond : Int32) (t_readNano : Int32) (t_readOffset : Int32) (t_alike : Int32) (t_text : Nat → Int32) (t_names : Nat → Int64) (x1 : Int32) (x2 : Int32) (x3 : Int32) (x4 : Int32) (x5 : Int32) (x6 : Int32) (S : CallFix p m c b_SkeletonClockModel_named 10 s args GW y_SkeletonClockModel_named.cls) (hr : meth.sig.returnType = (some .int)) (hlk : meth.locks = false) (hA : ∀ q, s.heap.size ≤ q → A q) (X : KX D kk st A s) : ∀ (n : Nat) (x7 : Int32) (t_known : Nat → Int32) (t_value : Nat → Int64) (v : (Int32 × (Nat → Int32) × (Nat → Int64)) ⊕ (Int32 × (Nat → Int32) × (Nat → Int64))) (H : Heap) (locs : List Loc) (ls : Array Slot), lp_SkeletonClockModel_named_3 t_length t_alike t_text t_names x1 x2 x3 x4 x5 x6 n x7 t_known t_value = some v → lv_has ls 10 [(0, .ref a_t), (1, .int x1), (2, .int x2), (3, .int x3), (4, .int x4), (5, .int x5), (6, .int x6), (7, .int x7)] → va_P D classes [(a_t, .inr (10, [.int t_length, .ref a_t_text, .int t_used, .ref a_t_page, .ref a_t_names, .ref a_t_sort, .ref a_t_code, .ref a_t_count, .ref a_t_around, .ref a_t_end, .ref a_t_size, .ref a_t_there, .ref a_t_wish, .ref a_t_have, .int t_far, .int t_momentParts, .long t_momentDay, .int t_momentSecond, .int t_momentNano, .int t_momentOffset, .int t_readParts, .long t_readDay, .int t_readSecond, .int t_readNano, .int t_readOffset, .ref a_t_known, .ref a_t_value, .ref a_t_before, .ref a_t_open, .ref a_t_from, .int t_alike])), (a_t_text, .inl (kk 1, 60, .inl t_text)), (a_t_names, .inl (kk 3, 21, .inr (.inl t_names))), (a_t_known, .inl (kk 2, 14, .inl t_known)), (a_t_value, .inl (kk 3, 14, .inr (.inl t_value)))] H → va_D A [(a_t, .inr (10, [.int t_length, .ref a_t_text, .int t_used, .ref a_t_page, .ref a_t_names, .ref a_t_sort, .ref a_t_code, .ref a_t_count, .ref a_t_around, .ref a_t_end, .ref a_t_size, .ref a_t_there, .ref a_t_wish, .ref a_t_have, .int t_far, .int t_momentParts, .long t_momentDay, .int t_momentSecond, .int t_momentNano, .int t_momentOffset, .int t_readParts, .long t_readDay, .int t_readSecond, .int t_readNano, .int t_readOffset, .ref a_t_known, .ref a_t_value, .ref a_t_before, .ref a_t_open, .ref a_t_from, .int t_alike])), (a_t_text, .inl (kk 1, 60, .inl t_text)), (a_t_names, .inl (kk 3, 21, .inr (.inl t_names))), (a_t_known, .inl (kk 2, 14, .inl t_known)), (a_t_value, .inl (kk 3, 14, .inr (.inl t_value)))] → va_S A s.heap H locs → (∀ o : Int32 × (Nat → Int32) × (Nat → Int64), v = .inl o → Q = MQ below (KQi D kk o.1 [(a_t, .inr (10, [.int t_length, .ref a_t_text, .int t_used, .ref a_t_page, .ref a_t_names, .ref a_t_sort, .ref a_t_code, .ref a_t_count, .ref a_t_around, .ref a_t_end, .ref a_t_size, .ref a_t_there, .ref a_t_wish, .ref a_t_have, .int t_far, .int t_momentParts, .long t_momentDay, .int t_momentSecond, .int t_momentNano, .int t_momentOffset, .int t_readParts, .long t_readDay, .int t_readSecond, .int t_readNano, .int t_readOffset, .ref a_t_known, .ref a_t_value, .ref a_t_before, .ref a_t_open, .ref a_t_from, .int t_alike])), (a_t_text, .inl (kk 1, 60, .inl t_text)), (a_t_names, .inl (kk 3, 21, .inr (.inl t_names))), (a_t_known, .inl (kk 2, 14, .inl o.2.1)), (a_t_value, .inl (kk 3, 14, .inr (.inl o.2.2)))] A) args s 0 0 A) → (∀ v' : Int32 × (Nat → Int32) × (Nat → Int64), v = .inr v' → ∀ (H : Heap) (locs : List Loc) (ls : Array Slot), lv_has ls 10 [(0, .ref a_t), (1, .int x1), (2, .int x2), (3, .int x3), (4, .int x4), (5, .int x5), (6, .int x6), (7, .int v'.1)] → va_P D classes [(a_t, .inr (10, [.int t_length, .ref a_t_text, .int t_used, .ref a_t_page, .ref a_t_names, .ref a_t_sort, .ref a_t_code, .ref a_t_count, .ref a_t_around, .ref a_t_end, .ref a_t_size, .ref a_t_there, .ref a_t_wish, .ref a_t_have, .int t_far, .int t_momentParts, .long t_momentDay, .int t_momentSecond, .int t_momentNano, .int t_momentOffset, .int t_readParts, .long t_readDay, .int t_readSecond, .int t_readNano, .int t_readOffset, .ref a_t_known, .ref a_t_value, .ref a_t_before, .ref a_t_open, .ref a_t_from, .int t_alike])), (a_t_text, .inl (kk 1, 60, .inl t_text)), (a_t_names, .inl (kk 3, 21, .inr (.inl t_names))), (a_t_known, .inl (kk 2, 14, .inl v'.2.1)), (a_t_value, .inl (kk 3, 14, .inr (.inl v'.2.2)))] H → va_D A [(a_t, .inr (10, [.int t_length, .ref a_t_text, .int t_used, .ref a_t_page, .ref a_t_names, .ref a_t_sort, .ref a_t_code, .ref a_t_count, .ref a_t_around, .ref a_t_end, .ref a_t_size, .ref a_t_there, .ref a_t_wish, .ref a_t_have, .int t_far, .int t_momentParts, .long t_momentDay, .int t_momentSecond, .int t_momentNano, .int t_momentOffset, .int t_readParts, .long t_readDay, .int t_readSecond, .int t_readNano, .int t_readOffset, .ref a_t_known, .ref a_t_value, .ref a_t_before, .ref a_t_open, .ref a_t_from, .int t_alike])), (a_t_text, .inl (kk 1, 60, .inl t_text)), (a_t_names, .inl (kk 3, 21, .inr (.inl t_names))), (a_t_known, .inl (kk 2, 14, .inl v'.2.1)), (a_t_value, .inl (kk 3, 14, .inr (.inl v'.2.2)))] → va_S A s.heap H locs → W p l e rm_SkeletonClockModel_named s m args below meth c H locs 0 0 Q (F0 m 135 ls [])) → W p l e rm_SkeletonClockModel_named s m args below meth c H locs 0 0 Q (F0 m 3 ls []) := by
  intro n
  induction n with
  | zero =>
    intro x7 t_known t_value v H locs ls he hl hP hD hS hret K
    exact ih_n he
  | succ n ih =>
    intro x7 t_known t_value v H locs ls he hl hP hD hS hret K
    have hx := S.1
    have hb := S.2.1
    have he : st_SkeletonClockModel_named_3 t_length t_alike t_text t_names x1 x2 x3 x4 x5 x6 (lp_SkeletonClockModel_named_3 t_length t_alike t_text t_names x1 x2 x3 x4 x5 x6 n) x7 t_known t_value = some v := he
    unfold st_SkeletonClockModel_named_3 at he
    refine lv_iload hx hb d_SkeletonClockModel_named_3 (lv_at hl 7 rfl) ?_
    refine lv_iload_n hx hb d_SkeletonClockModel_named_5 rfl (lv_at hl 3 rfl) ?_
    refine lv_icmp_gt (tgt := 135) hx hb d_SkeletonClockModel_named_6 rfl (fun hc => ?_) (fun hc => ?_)
    · have he := ih_t hc he
      have hl : lv_has ls 10 [(0, .ref a_t), (1, .int x1), (2, .int x2), (3, .int x3), (4, .int x4), (5, .int x5), (6, .int x6), (7, .int x7)] := lv_sub hl [0, 1, 2, 3, 4, 5, 6, 7] rfl
      cases he
      exact K _ rfl _ _ _ hl hP hD hS
    · have he := ih_f hc he
      refine lv_iconst (v := (0 : Int32)) hx hb d_SkeletonClockModel_named_9 (by decide) ?_
      refine lv_istore hx hb d_SkeletonClockModel_named_10 hl (by decide) rfl (fun ls hl => ?_)
      have hl : lv_has ls 10 [(8, .int (0 : Int32)), (0, .ref a_t), (1, .int x1), (2, .int x2), (3, .int x3), (4, .int x4), (5, .int x5), (6, .int x6), (7, .int x7)] := hl
      obtain ⟨u11, e12, he⟩ := ih_b he
      have hl : lv_has ls 10 [(0, .ref a_t), (1, .int x1), (2, .int x2), (3, .int x3), (4, .int x4), (5, .int x5), (6, .int x6), (7, .int x7), (8, .int (0 : Int32))] := lv_sub hl [1, 2, 3, 4, 5, 6, 7, 8, 0] rfl
      refine w_SkeletonClockModel_named_12 a_t a_t_text a_t_names a_t_known a_t_value a_t_page a_t_sort a_t_code a_t_count a_t_around a_t_end a_t_size a_t_there a_t_wish a_t_have a_t_before a_t_open a_t_from t_length t_used t_far t_momentParts t_momentDay t_momentSecond t_momentNano t_momentOffset t_readParts t_readDay t_readSecond t_readNano t_readOffset t_alike t_text t_names t_known t_value x1 x2 x3 x4 x5 x6 x7 S hr hlk hA X FU (0 : Int32) u11 _ _ ls e12 hl hP hD hS (fun H locs ls hl hP hD hS => ?_)
      refine lv_iload hx hb d_SkeletonClockModel_named_67 (lv_at hl 4 rfl) ?_
      refine lv_iconst (v := (3 : Int32)) hx hb d_SkeletonClockModel_named_69 (by decide) ?_
      refine lv_icmp_ne (tgt := 87) hx hb d_SkeletonClockModel_named_70 rfl (fun hc => ?_) (fun hc => ?_)
      · have he := ih_f hc he
        refine lv_aload_n hx hb d_SkeletonClockModel_named_87 rfl (lv_at hl 0 rfl) ?_
        refine lv_iload hx hb d_SkeletonClockModel_named_88 (lv_at hl 7 rfl) ?_
        refine lv_iload hx hb d_SkeletonClockModel_named_90 (lv_at hl 8 rfl) ?_
        obtain ⟨u13, e14, he⟩ := ih_b he
        refine k_io (r_V (As := [.int x7, .int u11]) S X hA hP hD hS (c_SkeletonClockModel_letter l D kk st a_t a_t_names a_t_text a_t_page a_t_sort a_t_code a_t_count a_t_around a_t_end a_t_size a_t_there a_t_wish a_t_have a_t_known a_t_value a_t_before a_t_open a_t_from _ t_length t_used t_far t_momentParts t_momentDay t_momentSecond t_momentNano t_momentOffset t_readParts t_readDay t_readSecond t_readNano t_readOffset t_alike t_names x7 u11 u13 e14) gm_5_155 gm_5_152 gm_5_154 gm_p3_14 gm_1_13 ⟨rfl, rfl, by decide, by decide⟩ kd_SkeletonClockModel_letter [0, 2] rfl rfl rfl 0 10 rfl rfl rfl rfl hl.1 rfl (Nat.le_of_ble_eq_true rfl) d_SkeletonClockModel_named_92 ⟨Nat.zero_le _, Nat.zero_le _⟩) hA hP hD hS [0, 2] rfl (fun H locs hP hS => ?_)
        refine lv_if_ne (tgt := 102) hx hb d_SkeletonClockModel_named_95 rfl (fun hc => ?_) (fun hc => ?_)
        · have he := ih_f hc he
          refine lv_iconst (v := (0 : Int32)) hx hb d_SkeletonClockModel_named_102 (by decide) ?_
          refine lv_istore hx hb d_SkeletonClockModel_named_103 hl (by decide) rfl (fun ls hl => ?_)
          have hl : lv_has ls 10 [(9, .int (0 : Int32)), (0, .ref a_t), (1, .int x1), (2, .int x2), (3, .int x3), (4, .int x4), (5, .int x5), (6, .int x6), (7, .int x7), (8, .int u11)] := hl
          refine lv_iload hx hb d_SkeletonClockModel_named_105 (lv_at hl 0 rfl) ?_
          refine lv_if_eq (tgt := 129) hx hb d_SkeletonClockModel_named_107 rfl (fun hc => ?_) (fun hc => ?_)
          · refine lv_iinc (k := 8) hx hb d_SkeletonClockModel_named_129 hl rfl (ii_ (v := (1 : Int32)) (by decide)) (by decide) rfl (fun ls hl => ?_)
            have hl : lv_has ls 10 [(7, .int (x7 + (1 : Int32))), (9, .int (0 : Int32)), (0, .ref a_t), (1, .int x1), (2, .int x2), (3, .int x3), (4, .int x4), (5, .int x5), (6, .int x6), (8, .int u11)] := hl
            refine lv_goto (tgt := 3) hx hb d_SkeletonClockModel_named_132 rfl ?_
            have hl : lv_has ls 10 [(0, .ref a_t), (1, .int x1), (2, .int x2), (3, .int x3), (4, .int x4), (5, .int x5), (6, .int x6), (7, .int (x7 + (1 : Int32)))] := lv_sub hl [2, 3, 4, 5, 6, 7, 8, 0] rfl
            exact ih _ _ _ _ _ _ _ he hl hP hD hS hret K
          · exact absurd (by decide) hc
        · have he := ih_t hc he
          refine lv_iconst (v := (1 : Int32)) hx hb d_SkeletonClockModel_named_98 (by decide) ?_
          refine lv_goto (tgt := 103) hx hb d_SkeletonClockModel_named_99 rfl ?_
          refine lv_istore hx hb d_SkeletonClockModel_named_103 hl (by decide) rfl (fun ls hl => ?_)
          have hl : lv_has ls 10 [(9, .int (1 : Int32)), (0, .ref a_t), (1, .int x1), (2, .int x2), (3, .int x3), (4, .int x4), (5, .int x5), (6, .int x6), (7, .int x7), (8, .int u11)] := hl
          refine lv_iload hx hb d_SkeletonClockModel_named_105 (lv_at hl 0 rfl) ?_
          refine lv_if_eq (tgt := 129) hx hb d_SkeletonClockModel_named_107 rfl (fun hc => ?_) (fun hc => ?_)
          · exact absurd hc (by decide)
          · refine lv_aload_n hx hb d_SkeletonClockModel_named_110 rfl (lv_at hl 1 rfl) ?_
            refine lv_iload hx hb d_SkeletonClockModel_named_111 (lv_at hl 6 rfl) ?_
            refine lv_iload hx hb d_SkeletonClockModel_named_113 (lv_at hl 8 rfl) ?_
            refine lv_iload_n hx hb d_SkeletonClockModel_named_115 rfl (lv_at hl 3 rfl) ?_
            refine lv_isub hx hb d_SkeletonClockModel_named_116 ?_
            refine lv_iload hx hb d_SkeletonClockModel_named_117 (lv_at hl 7 rfl) ?_
            refine lv_iadd hx hb d_SkeletonClockModel_named_119 ?_
            refine lv_i2l hx hb d_SkeletonClockModel_named_120 rfl ?_
            refine lv_iload_n hx hb d_SkeletonClockModel_named_121 rfl (lv_at hl 2 rfl) ?_
            refine lv_iload hx hb d_SkeletonClockModel_named_122 (lv_at hl 9 rfl) ?_
            refine lv_iadd hx hb d_SkeletonClockModel_named_124 ?_
            obtain ⟨u15, e16, he⟩ := ih_b he
            refine k_i (wr := [(a_t_text, .inl (kk 1, 60, .inl t_text)), (a_t_names, .inl (kk 3, 21, .inr (.inl t_names)))]) (w1 := [(a_t, .inr (10, [.int t_length, .ref a_t_text, .int t_used, .ref a_t_page, .ref a_t_names, .ref a_t_sort, .ref a_t_code, .ref a_t_count, .ref a_t_around, .ref a_t_end, .ref a_t_size, .ref a_t_there, .ref a_t_wish, .ref a_t_have, .int t_far, .int t_momentParts, .long t_momentDay, .int t_momentSecond, .int t_momentNano, .int t_momentOffset, .int t_readParts, .long t_readDay, .int t_readSecond, .int t_readNano, .int t_readOffset, .ref a_t_known, .ref a_t_value, .ref a_t_before, .ref a_t_open, .ref a_t_from, .int t_alike])), (a_t_known, .inl (kk 2, 14, .inl u15.2.1)), (a_t_value, .inl (kk 3, 14, .inr (.inl u15.2.2)))]) (w2 := [(a_t, .inr (10, [.int t_length, .ref a_t_text, .int t_used, .ref a_t_page, .ref a_t_names, .ref a_t_sort, .ref a_t_code, .ref a_t_count, .ref a_t_around, .ref a_t_end, .ref a_t_size, .ref a_t_there, .ref a_t_wish, .ref a_t_have, .int t_far, .int t_momentParts, .long t_momentDay, .int t_momentSecond, .int t_momentNano, .int t_momentOffset, .int t_readParts, .long t_readDay, .int t_readSecond, .int t_readNano, .int t_readOffset, .ref a_t_known, .ref a_t_value, .ref a_t_before, .ref a_t_open, .ref a_t_from, .int t_alike])), (a_t_text, .inl (kk 1, 60, .inl t_text)), (a_t_names, .inl (kk 3, 21, .inr (.inl t_names))), (a_t_known, .inl (kk 2, 14, .inl u15.2.1)), (a_t_value, .inl (kk 3, 14, .inr (.inl u15.2.2)))]) (r_V (As := [.int x5, .long (Int32.toInt64 ((x7 - x2) + x6)), .int (x1 + u11)]) S X hA hP hD hS (c_SkeletonClockModel_learn l D kk st a_t a_t_known a_t_value a_t_text a_t_page a_t_names a_t_sort a_t_code a_t_count a_t_around a_t_end a_t_size a_t_there a_t_wish a_t_have a_t_before a_t_open a_t_from _ t_length t_used t_far t_momentParts t_momentDay t_momentSecond t_momentNano t_momentOffset t_readParts t_readDay t_readSecond t_readNano t_readOffset t_alike t_known t_value x5 (Int32.toInt64 ((x7 - x2) + x6)) (x1 + u11) u15 e16) gm_5_195 gm_5_192 gm_5_194 gm_p4_4 gm_1_13 ⟨rfl, rfl, by decide, by decide⟩ kd_SkeletonClockModel_learn [0, 3, 4] rfl rfl rfl 0 10 rfl rfl rfl rfl hl.1 rfl (Nat.le_of_ble_eq_true rfl) d_SkeletonClockModel_named_125 ⟨Nat.zero_le _, Nat.zero_le _⟩) hA hP hD hS [0, 3, 4] [1, 2] [2, 0, 1, 3, 4] rfl rfl rfl (by decide) rfl rfl rfl (fun H locs hP hD hS => ?_)
            cases he
            have hq := hret _ rfl
            subst hq
            exact k_ire hx hb hr hlk X hP hD hS d_SkeletonClockModel_named_128
      · have he := ih_t hc he
        refine lv_iload hx hb d_SkeletonClockModel_named_73 (lv_at hl 8 rfl) ?_
        refine lv_iconst (v := (3 : Int32)) hx hb d_SkeletonClockModel_named_75 (by decide) ?_
        refine lv_icmp_ne (tgt := 83) hx hb d_SkeletonClockModel_named_76 rfl (fun hc => ?_) (fun hc => ?_)
        · have he := ih_f hc he
          refine lv_iconst (v := (0 : Int32)) hx hb d_SkeletonClockModel_named_83 (by decide) ?_
          refine lv_goto (tgt := 103) hx hb d_SkeletonClockModel_named_84 rfl ?_
          refine lv_istore hx hb d_SkeletonClockModel_named_103 hl (by decide) rfl (fun ls hl => ?_)
          have hl : lv_has ls 10 [(9, .int (0 : Int32)), (0, .ref a_t), (1, .int x1), (2, .int x2), (3, .int x3), (4, .int x4), (5, .int x5), (6, .int x6), (7, .int x7), (8, .int u11)] := hl
          refine lv_iload hx hb d_SkeletonClockModel_named_105 (lv_at hl 0 rfl) ?_
          refine lv_if_eq (tgt := 129) hx hb d_SkeletonClockModel_named_107 rfl (fun hc => ?_) (fun hc => ?_)
          · refine lv_iinc (k := 8) hx hb d_SkeletonClockModel_named_129 hl rfl (ii_ (v := (1 : Int32)) (by decide)) (by decide) rfl (fun ls hl => ?_)
            have hl : lv_has ls 10 [(7, .int (x7 + (1 : Int32))), (9, .int (0 : Int32)), (0, .ref a_t), (1, .int x1), (2, .int x2), (3, .int x3), (4, .int x4), (5, .int x5), (6, .int x6), (8, .int u11)] := hl
            refine lv_goto (tgt := 3) hx hb d_SkeletonClockModel_named_132 rfl ?_
            have hl : lv_has ls 10 [(0, .ref a_t), (1, .int x1), (2, .int x2), (3, .int x3), (4, .int x4), (5, .int x5), (6, .int x6), (7, .int (x7 + (1 : Int32)))] := lv_sub hl [2, 3, 4, 5, 6, 7, 8, 0] rfl
            exact ih _ _ _ _ _ _ _ he hl hP hD hS hret K
          · exact absurd (by decide) hc
        · have he := ih_t hc he
          refine lv_iconst (v := (1 : Int32)) hx hb d_SkeletonClockModel_named_79 (by decide) ?_
          refine lv_goto (tgt := 103) hx hb d_SkeletonClockModel_named_80 rfl ?_
          refine lv_istore hx hb d_SkeletonClockModel_named_103 hl (by decide) rfl (fun ls hl => ?_)
          have hl : lv_has ls 10 [(9, .int (1 : Int32)), (0, .ref a_t), (1, .int x1), (2, .int x2), (3, .int x3), (4, .int x4), (5, .int x5), (6, .int x6), (7, .int x7), (8, .int u11)] := hl
          refine lv_iload hx hb d_SkeletonClockModel_named_105 (lv_at hl 0 rfl) ?_
          refine lv_if_eq (tgt := 129) hx hb d_SkeletonClockModel_named_107 rfl (fun hc => ?_) (fun hc => ?_)
          · exact absurd hc (by decide)
          · refine lv_aload_n hx hb d_SkeletonClockModel_named_110 rfl (lv_at hl 1 rfl) ?_
            refine lv_iload hx hb d_SkeletonClockModel_named_111 (lv_at hl 6 rfl) ?_
            refine lv_iload hx hb d_SkeletonClockModel_named_113 (lv_at hl 8 rfl) ?_
            refine lv_iload_n hx hb d_SkeletonClockModel_named_115 rfl (lv_at hl 3 rfl) ?_
            refine lv_isub hx hb d_SkeletonClockModel_named_116 ?_
            refine lv_iload hx hb d_SkeletonClockModel_named_117 (lv_at hl 7 rfl) ?_
            refine lv_iadd hx hb d_SkeletonClockModel_named_119 ?_
            refine lv_i2l hx hb d_SkeletonClockModel_named_120 rfl ?_
            refine lv_iload_n hx hb d_SkeletonClockModel_named_121 rfl (lv_at hl 2 rfl) ?_
            refine lv_iload hx hb d_SkeletonClockModel_named_122 (lv_at hl 9 rfl) ?_
            refine lv_iadd hx hb d_SkeletonClockModel_named_124 ?_
            obtain ⟨u17, e18, he⟩ := ih_b he
            refine k_i (wr := [(a_t_text, .inl (kk 1, 60, .inl t_text)), (a_t_names, .inl (kk 3, 21, .inr (.inl t_names)))]) (w1 := [(a_t, .inr (10, [.int t_length, .ref a_t_text, .int t_used, .ref a_t_page, .ref a_t_names, .ref a_t_sort, .ref a_t_code, .ref a_t_count, .ref a_t_around, .ref a_t_end, .ref a_t_size, .ref a_t_there, .ref a_t_wish, .ref a_t_have, .int t_far, .int t_momentParts, .long t_momentDay, .int t_momentSecond, .int t_momentNano, .int t_momentOffset, .int t_readParts, .long t_readDay, .int t_readSecond, .int t_readNano, .int t_readOffset, .ref a_t_known, .ref a_t_value, .ref a_t_before, .ref a_t_open, .ref a_t_from, .int t_alike])), (a_t_known, .inl (kk 2, 14, .inl u17.2.1)), (a_t_value, .inl (kk 3, 14, .inr (.inl u17.2.2)))]) (w2 := [(a_t, .inr (10, [.int t_length, .ref a_t_text, .int t_used, .ref a_t_page, .ref a_t_names, .ref a_t_sort, .ref a_t_code, .ref a_t_count, .ref a_t_around, .ref a_t_end, .ref a_t_size, .ref a_t_there, .ref a_t_wish, .ref a_t_have, .int t_far, .int t_momentParts, .long t_momentDay, .int t_momentSecond, .int t_momentNano, .int t_momentOffset, .int t_readParts, .long t_readDay, .int t_readSecond, .int t_readNano, .int t_readOffset, .ref a_t_known, .ref a_t_value, .ref a_t_before, .ref a_t_open, .ref a_t_from, .int t_alike])), (a_t_text, .inl (kk 1, 60, .inl t_text)), (a_t_names, .inl (kk 3, 21, .inr (.inl t_names))), (a_t_known, .inl (kk 2, 14, .inl u17.2.1)), (a_t_value, .inl (kk 3, 14, .inr (.inl u17.2.2)))]) (r_V (As := [.int x5, .long (Int32.toInt64 ((x7 - x2) + x6)), .int (x1 + u11)]) S X hA hP hD hS (c_SkeletonClockModel_learn l D kk st a_t a_t_known a_t_value a_t_text a_t_page a_t_names a_t_sort a_t_code a_t_count a_t_around a_t_end a_t_size a_t_there a_t_wish a_t_have a_t_before a_t_open a_t_from _ t_length t_used t_far t_momentParts t_momentDay t_momentSecond t_momentNano t_momentOffset t_readParts t_readDay t_readSecond t_readNano t_readOffset t_alike t_known t_value x5 (Int32.toInt64 ((x7 - x2) + x6)) (x1 + u11) u17 e18) gm_5_195 gm_5_192 gm_5_194 gm_p4_4 gm_1_13 ⟨rfl, rfl, by decide, by decide⟩ kd_SkeletonClockModel_learn [0, 3, 4] rfl rfl rfl 0 10 rfl rfl rfl rfl hl.1 rfl (Nat.le_of_ble_eq_true rfl) d_SkeletonClockModel_named_125 ⟨Nat.zero_le _, Nat.zero_le _⟩) hA hP hD hS [0, 3, 4] [1, 2] [2, 0, 1, 3, 4] rfl rfl rfl (by decide) rfl rfl rfl (fun H locs hP hD hS => ?_)
            cases he
            have hq := hret _ rfl
            subst hq
            exact k_ire hx hb hr hlk X hP hD hS d_SkeletonClockModel_named_128
set_option maxHeartbeats 4000000 in
set_option maxRecDepth 100000 in
theorem c_SkeletonClockModel_named (l : Launch) (D : va_G) (kk : Nat → ClassId) (st : Nat → Nat) (a_t a_t_text a_t_names a_t_known a_t_value a_t_page a_t_sort a_t_code a_t_count a_t_around a_t_end a_t_size a_t_there a_t_wish a_t_have a_t_before a_t_open a_t_from : Nat) (sz : Nat) (t_length : Int32) (t_used : Int32) (t_far : Int32) (t_momentParts : Int32) (t_momentDay : Int64) (t_momentSecond : Int32) (t_momentNano : Int32) (t_momentOffset : Int32) (t_readParts : Int32) (t_readDay : Int64) (t_readSecond : Int32) (t_readNano : Int32) (t_readOffset : Int32) (t_alike : Int32) (t_text : Nat → Int32) (t_names : Nat → Int64) (t_known : Nat → Int32) (t_value : Nat → Int64) (x1 : Int32) (x2 : Int32) (x3 : Int32) (x4 : Int32) (x5 : Int32) (x6 : Int32) (o : Int32 × (Nat → Int32) × (Nat → Int64)) (he : f_SkeletonClockModel_named t_length t_alike t_text t_names t_known t_value x1 x2 x3 x4 x5 x6 = some o) : Met l y_SkeletonClockModel_named (Cond.code y_SkeletonClockModel_named b_SkeletonClockModel_named 10 (some .int) :: GW) rm_SkeletonClockModel_named (KPc D kk st [.ref a_t, .int x1, .int x2, .int x3, .int x4, .int x5, .int x6] [(a_t, .inr (10, [.int t_length, .ref a_t_text, .int t_used, .ref a_t_page, .ref a_t_names, .ref a_t_sort, .ref a_t_code, .ref a_t_count, .ref a_t_around, .ref a_t_end, .ref a_t_size, .ref a_t_there, .ref a_t_wish, .ref a_t_have, .int t_far, .int t_momentParts, .long t_momentDay, .int t_momentSecond, .int t_momentNano, .int t_momentOffset, .int t_readParts, .long t_readDay, .int t_readSecond, .int t_readNano, .int t_readOffset, .ref a_t_known, .ref a_t_value, .ref a_t_before, .ref a_t_open, .ref a_t_from, .int t_alike])), (a_t_text, .inl (kk 1, 60, .inl t_text)), (a_t_names, .inl (kk 3, 21, .inr (.inl t_names))), (a_t_known, .inl (kk 2, 14, .inl t_known)), (a_t_value, .inl (kk 3, 14, .inr (.inl t_value)))] sz) (KQi D kk o.1 [(a_t, .inr (10, [.int t_length, .ref a_t_text, .int t_used, .ref a_t_page, .ref a_t_names, .ref a_t_sort, .ref a_t_code, .ref a_t_count, .ref a_t_around, .ref a_t_end, .ref a_t_size, .ref a_t_there, .ref a_t_wish, .ref a_t_have, .int t_far, .int t_momentParts, .long t_momentDay, .int t_momentSecond, .int t_momentNano, .int t_momentOffset, .int t_readParts, .long t_readDay, .int t_readSecond, .int t_readNano, .int t_readOffset, .ref a_t_known, .ref a_t_value, .ref a_t_before, .ref a_t_open, .ref a_t_from, .int t_alike])), (a_t_text, .inl (kk 1, 60, .inl t_text)), (a_t_names, .inl (kk 3, 21, .inr (.inl t_names))), (a_t_known, .inl (kk 2, 14, .inl o.2.1)), (a_t_value, .inl (kk 3, 14, .inr (.inl o.2.2)))] (va_A [(a_t, .inr (10, [.int t_length, .ref a_t_text, .int t_used, .ref a_t_page, .ref a_t_names, .ref a_t_sort, .ref a_t_code, .ref a_t_count, .ref a_t_around, .ref a_t_end, .ref a_t_size, .ref a_t_there, .ref a_t_wish, .ref a_t_have, .int t_far, .int t_momentParts, .long t_momentDay, .int t_momentSecond, .int t_momentNano, .int t_momentOffset, .int t_readParts, .long t_readDay, .int t_readSecond, .int t_readNano, .int t_readOffset, .ref a_t_known, .ref a_t_value, .ref a_t_before, .ref a_t_open, .ref a_t_from, .int t_alike])), (a_t_text, .inl (kk 1, 60, .inl t_text)), (a_t_names, .inl (kk 3, 21, .inr (.inl t_names))), (a_t_known, .inl (kk 2, 14, .inl t_known)), (a_t_value, .inl (kk 3, 14, .inr (.inl t_value)))] sz)) 0 0 (va_A [(a_t, .inr (10, [.int t_length, .ref a_t_text, .int t_used, .ref a_t_page, .ref a_t_names, .ref a_t_sort, .ref a_t_code, .ref a_t_count, .ref a_t_around, .ref a_t_end, .ref a_t_size, .ref a_t_there, .ref a_t_wish, .ref a_t_have, .int t_far, .int t_momentParts, .long t_momentDay, .int t_momentSecond, .int t_momentNano, .int t_momentOffset, .int t_readParts, .long t_readDay, .int t_readSecond, .int t_readNano, .int t_readOffset, .ref a_t_known, .ref a_t_value, .ref a_t_before, .ref a_t_open, .ref a_t_from, .int t_alike])), (a_t_text, .inl (kk 1, 60, .inl t_text)), (a_t_names, .inl (kk 3, 21, .inr (.inl t_names))), (a_t_known, .inl (kk 2, 14, .inl t_known)), (a_t_value, .inl (kk 3, 14, .inr (.inl t_value)))] sz) := by
  refine k_start (Qc := fun A => KQi D kk o.1 [(a_t, .inr (10, [.int t_length, .ref a_t_text, .int t_used, .ref a_t_page, .ref a_t_names, .ref a_t_sort, .ref a_t_code, .ref a_t_count, .ref a_t_around, .ref a_t_end, .ref a_t_size, .ref a_t_there, .ref a_t_wish, .ref a_t_have, .int t_far, .int t_momentParts, .long t_momentDay, .int t_momentSecond, .int t_momentNano, .int t_momentOffset, .int t_readParts, .long t_readDay, .int t_readSecond, .int t_readNano, .int t_readOffset, .ref a_t_known, .ref a_t_value, .ref a_t_before, .ref a_t_open, .ref a_t_from, .int t_alike])), (a_t_text, .inl (kk 1, 60, .inl t_text)), (a_t_names, .inl (kk 3, 21, .inr (.inl t_names))), (a_t_known, .inl (kk 2, 14, .inl o.2.1)), (a_t_value, .inl (kk 3, 14, .inr (.inl o.2.2)))] A) (by decide) (Nat.le_of_ble_eq_true rfl) ?_
  intro p e s m below meth c A ls S hnm hr hlk hA X hP hD hS hl
  have hl : lv_has ls 10 [(0, .ref a_t), (1, .int x1), (2, .int x2), (3, .int x3), (4, .int x4), (5, .int x5), (6, .int x6)] := hl
  have hx := S.1
  have hb := S.2.1
  unfold f_SkeletonClockModel_named at he
  refine lv_iload_n hx hb d_SkeletonClockModel_named_0 rfl (lv_at hl 2 rfl) ?_
  refine lv_istore hx hb d_SkeletonClockModel_named_1 hl (by decide) rfl (fun ls hl => ?_)
  have hl : lv_has ls 10 [(7, .int x2), (0, .ref a_t), (1, .int x1), (2, .int x2), (3, .int x3), (4, .int x4), (5, .int x5), (6, .int x6)] := hl
  obtain ⟨u19, e20, he⟩ := ih_b he
  have hl : lv_has ls 10 [(0, .ref a_t), (1, .int x1), (2, .int x2), (3, .int x3), (4, .int x4), (5, .int x5), (6, .int x6), (7, .int x2)] := lv_sub hl [1, 2, 3, 4, 5, 6, 7, 0] rfl
  rcases u19 with o21 | v22
  · have he := sel_l he
    cases he
    exact w_SkeletonClockModel_named_3 a_t a_t_text a_t_names a_t_known a_t_value a_t_page a_t_sort a_t_code a_t_count a_t_around a_t_end a_t_size a_t_there a_t_wish a_t_have a_t_before a_t_open a_t_from t_length t_used t_far t_momentParts t_momentDay t_momentSecond t_momentNano t_momentOffset t_readParts t_readDay t_readSecond t_readNano t_readOffset t_alike t_text t_names x1 x2 x3 x4 x5 x6 S hr hlk hA X FU x2 t_known t_value _ _ _ ls e20 hl hP hD hS (fun o h => by cases h; rfl) (fun v h => by cases h)
  · have he := sel_r he
    refine w_SkeletonClockModel_named_3 a_t a_t_text a_t_names a_t_known a_t_value a_t_page a_t_sort a_t_code a_t_count a_t_around a_t_end a_t_size a_t_there a_t_wish a_t_have a_t_before a_t_open a_t_from t_length t_used t_far t_momentParts t_momentDay t_momentSecond t_momentNano t_momentOffset t_readParts t_readDay t_readSecond t_readNano t_readOffset t_alike t_text t_names x1 x2 x3 x4 x5 x6 S hr hlk hA X FU x2 t_known t_value _ _ _ ls e20 hl hP hD hS (fun o h => by cases h) (fun v h H locs ls hl hP hD hS => ?_)
    have h := Sum.inr.inj h
    subst h
    refine lv_iconst (v := (-1 : Int32)) hx hb d_SkeletonClockModel_named_135 (by decide) ?_
    cases he
    exact k_ire hx hb hr hlk X hP hD hS d_SkeletonClockModel_named_136
