abbrev b_SkeletonClockModel_pattern : ByteArray := prog_14_method_23_code
def y_SkeletonClockModel_pattern : MethodName := ⟨"SkeletonClockModel", "pattern", "()I"⟩
theorem kd_SkeletonClockModel_pattern : kd_ok y_SkeletonClockModel_pattern 0 := by decide +kernel
theorem gm_5_25 : Cond.code ({ cls := "SkeletonClockModel", name := "isLetter", desc := "(I)Z" } : MethodName) prog_14_method_18_code (2 : Nat) (Option.some FieldType.boolean) ∈ GW := gw_5 (i := 25) rfl rfl
theorem gm_5_22 : Cond.methodLink "SkeletonClockModel" (187 : Nat) ({ cls := "SkeletonClockModel", name := "isLetter", desc := "(I)Z" } : MethodName) ∈ GW := gw_5 (i := 22) rfl rfl
theorem gm_5_24 : Cond.instanceMethod ({ cls := "SkeletonClockModel", name := "isLetter", desc := "(I)Z" } : MethodName) ∈ GW := gw_5 (i := 24) rfl rfl
theorem gm_p3_1 : Cond.selects "SkeletonClockModel" ⟨"SkeletonClockModel", "isLetter", "(I)Z"⟩ ⟨"SkeletonClockModel", "isLetter", "(I)Z"⟩ ∈ GW := gs_3 (i := 1) rfl
theorem gm_5_39 : Cond.code ({ cls := "SkeletonClockModel", name := "piece", desc := "(IIII)Z" } : MethodName) prog_14_method_22_code (6 : Nat) (Option.some FieldType.boolean) ∈ GW := gw_5 (i := 39) rfl rfl
theorem gm_5_36 : Cond.methodLink "SkeletonClockModel" (198 : Nat) ({ cls := "SkeletonClockModel", name := "piece", desc := "(IIII)Z" } : MethodName) ∈ GW := gw_5 (i := 36) rfl rfl
theorem gm_5_38 : Cond.instanceMethod ({ cls := "SkeletonClockModel", name := "piece", desc := "(IIII)Z" } : MethodName) ∈ GW := gw_5 (i := 38) rfl rfl
theorem gm_p3_3 : Cond.selects "SkeletonClockModel" ⟨"SkeletonClockModel", "piece", "(IIII)Z"⟩ ⟨"SkeletonClockModel", "piece", "(IIII)Z"⟩ ∈ GW := gs_3 (i := 3) rfl
theorem gm_5_43 : Cond.code ({ cls := "SkeletonClockModel", name := "quoteEnd", desc := "(I)I" } : MethodName) prog_14_method_21_code (3 : Nat) (Option.some FieldType.int) ∈ GW := gw_5 (i := 43) rfl rfl
theorem gm_5_40 : Cond.methodLink "SkeletonClockModel" (202 : Nat) ({ cls := "SkeletonClockModel", name := "quoteEnd", desc := "(I)I" } : MethodName) ∈ GW := gw_5 (i := 40) rfl rfl
theorem gm_5_42 : Cond.instanceMethod ({ cls := "SkeletonClockModel", name := "quoteEnd", desc := "(I)I" } : MethodName) ∈ GW := gw_5 (i := 42) rfl rfl
theorem gm_p3_4 : Cond.selects "SkeletonClockModel" ⟨"SkeletonClockModel", "quoteEnd", "(I)I"⟩ ⟨"SkeletonClockModel", "quoteEnd", "(I)I"⟩ ∈ GW := gs_3 (i := 4) rfl
theorem gm_5_29 : Cond.code ({ cls := "SkeletonClockModel", name := "run", desc := "(I)I" } : MethodName) prog_14_method_19_code (3 : Nat) (Option.some FieldType.int) ∈ GW := gw_5 (i := 29) rfl rfl
theorem gm_5_26 : Cond.methodLink "SkeletonClockModel" (191 : Nat) ({ cls := "SkeletonClockModel", name := "run", desc := "(I)I" } : MethodName) ∈ GW := gw_5 (i := 26) rfl rfl
theorem gm_5_28 : Cond.instanceMethod ({ cls := "SkeletonClockModel", name := "run", desc := "(I)I" } : MethodName) ∈ GW := gw_5 (i := 28) rfl rfl
theorem gm_p3_2 : Cond.selects "SkeletonClockModel" ⟨"SkeletonClockModel", "run", "(I)I"⟩ ⟨"SkeletonClockModel", "run", "(I)I"⟩ ∈ GW := gs_3 (i := 2) rfl
theorem gm_5_32 : Cond.code ({ cls := "SkeletonClockModel", name := "allowed", desc := "(II)Z" } : MethodName) prog_14_method_16_code (3 : Nat) (Option.some FieldType.boolean) ∈ GW := gw_5 (i := 32) rfl rfl
theorem gm_5_30 : Cond.methodLink "SkeletonClockModel" (194 : Nat) ({ cls := "SkeletonClockModel", name := "allowed", desc := "(II)Z" } : MethodName) ∈ GW := gw_5 (i := 30) rfl rfl
theorem gm_5_31 : Cond.static ({ cls := "SkeletonClockModel", name := "allowed", desc := "(II)Z" } : MethodName) ∈ GW := gw_5 (i := 31) rfl rfl
theorem d_SkeletonClockModel_pattern_0 : decode b_SkeletonClockModel_pattern 0 = .ok (.aload_n 0, 1) := by decide +kernel
theorem d_SkeletonClockModel_pattern_1 : decode b_SkeletonClockModel_pattern 1 = .ok (.getfield 36, 3) := by decide +kernel
theorem d_SkeletonClockModel_pattern_4 : decode b_SkeletonClockModel_pattern 4 = .ok (.bipush 6, 2) := by decide +kernel
theorem d_SkeletonClockModel_pattern_6 : decode b_SkeletonClockModel_pattern 6 = .ok (.iconst 0, 1) := by decide +kernel
theorem d_SkeletonClockModel_pattern_7 : decode b_SkeletonClockModel_pattern 7 = .ok (.iastore, 1) := by decide +kernel
theorem d_SkeletonClockModel_pattern_8 : decode b_SkeletonClockModel_pattern 8 = .ok (.iconst (-1), 1) := by decide +kernel
theorem d_SkeletonClockModel_pattern_9 : decode b_SkeletonClockModel_pattern 9 = .ok (.istore_n 1, 1) := by decide +kernel
theorem d_SkeletonClockModel_pattern_10 : decode b_SkeletonClockModel_pattern 10 = .ok (.iconst 0, 1) := by decide +kernel
theorem d_SkeletonClockModel_pattern_11 : decode b_SkeletonClockModel_pattern 11 = .ok (.istore_n 2, 1) := by decide +kernel
theorem d_SkeletonClockModel_pattern_12 : decode b_SkeletonClockModel_pattern 12 = .ok (.iload_n 2, 1) := by decide +kernel
theorem d_SkeletonClockModel_pattern_13 : decode b_SkeletonClockModel_pattern 13 = .ok (.aload_n 0, 1) := by decide +kernel
theorem d_SkeletonClockModel_pattern_14 : decode b_SkeletonClockModel_pattern 14 = .ok (.getfield 181, 3) := by decide +kernel
theorem d_SkeletonClockModel_pattern_17 : decode b_SkeletonClockModel_pattern 17 = .ok (.if_icmp .ge 251, 3) := by decide +kernel
theorem d_SkeletonClockModel_pattern_20 : decode b_SkeletonClockModel_pattern 20 = .ok (.aload_n 0, 1) := by decide +kernel
theorem d_SkeletonClockModel_pattern_21 : decode b_SkeletonClockModel_pattern 21 = .ok (.iload_n 2, 1) := by decide +kernel
theorem d_SkeletonClockModel_pattern_22 : decode b_SkeletonClockModel_pattern 22 = .ok (.invokevirtual 184, 3) := by decide +kernel
theorem d_SkeletonClockModel_pattern_25 : decode b_SkeletonClockModel_pattern 25 = .ok (.istore_n 3, 1) := by decide +kernel
theorem d_SkeletonClockModel_pattern_26 : decode b_SkeletonClockModel_pattern 26 = .ok (.aload_n 0, 1) := by decide +kernel
theorem d_SkeletonClockModel_pattern_27 : decode b_SkeletonClockModel_pattern 27 = .ok (.iload_n 2, 1) := by decide +kernel
theorem d_SkeletonClockModel_pattern_28 : decode b_SkeletonClockModel_pattern 28 = .ok (.invokevirtual 187, 3) := by decide +kernel
theorem d_SkeletonClockModel_pattern_31 : decode b_SkeletonClockModel_pattern 31 = .ok (.ifCond .eq 41, 3) := by decide +kernel
theorem d_SkeletonClockModel_pattern_34 : decode b_SkeletonClockModel_pattern 34 = .ok (.aload_n 0, 1) := by decide +kernel
theorem d_SkeletonClockModel_pattern_35 : decode b_SkeletonClockModel_pattern 35 = .ok (.iload_n 2, 1) := by decide +kernel
theorem d_SkeletonClockModel_pattern_36 : decode b_SkeletonClockModel_pattern 36 = .ok (.invokevirtual 191, 3) := by decide +kernel
theorem d_SkeletonClockModel_pattern_39 : decode b_SkeletonClockModel_pattern 39 = .ok (.istore 4, 2) := by decide +kernel
theorem d_SkeletonClockModel_pattern_41 : decode b_SkeletonClockModel_pattern 41 = .ok (.iload_n 3, 1) := by decide +kernel
theorem d_SkeletonClockModel_pattern_42 : decode b_SkeletonClockModel_pattern 42 = .ok (.iload 4, 2) := by decide +kernel
theorem d_SkeletonClockModel_pattern_44 : decode b_SkeletonClockModel_pattern 44 = .ok (.invokestatic 194, 3) := by decide +kernel
theorem d_SkeletonClockModel_pattern_47 : decode b_SkeletonClockModel_pattern 47 = .ok (.ifCond .eq 15, 3) := by decide +kernel
theorem d_SkeletonClockModel_pattern_50 : decode b_SkeletonClockModel_pattern 50 = .ok (.aload_n 0, 1) := by decide +kernel
theorem d_SkeletonClockModel_pattern_51 : decode b_SkeletonClockModel_pattern 51 = .ok (.iconst 1, 1) := by decide +kernel
theorem d_SkeletonClockModel_pattern_52 : decode b_SkeletonClockModel_pattern 52 = .ok (.iload_n 3, 1) := by decide +kernel
theorem d_SkeletonClockModel_pattern_53 : decode b_SkeletonClockModel_pattern 53 = .ok (.iload 4, 2) := by decide +kernel
theorem d_SkeletonClockModel_pattern_55 : decode b_SkeletonClockModel_pattern 55 = .ok (.iload_n 1, 1) := by decide +kernel
theorem d_SkeletonClockModel_pattern_56 : decode b_SkeletonClockModel_pattern 56 = .ok (.invokevirtual 198, 3) := by decide +kernel
theorem d_SkeletonClockModel_pattern_59 : decode b_SkeletonClockModel_pattern 59 = .ok (.ifCond .ne 5, 3) := by decide +kernel
theorem d_SkeletonClockModel_pattern_62 : decode b_SkeletonClockModel_pattern 62 = .ok (.iload_n 2, 1) := by decide +kernel
theorem d_SkeletonClockModel_pattern_63 : decode b_SkeletonClockModel_pattern 63 = .ok (.ireturn, 1) := by decide +kernel
theorem d_SkeletonClockModel_pattern_64 : decode b_SkeletonClockModel_pattern 64 = .ok (.iload_n 2, 1) := by decide +kernel
theorem d_SkeletonClockModel_pattern_65 : decode b_SkeletonClockModel_pattern 65 = .ok (.iload 4, 2) := by decide +kernel
theorem d_SkeletonClockModel_pattern_67 : decode b_SkeletonClockModel_pattern 67 = .ok (.iadd, 1) := by decide +kernel
theorem d_SkeletonClockModel_pattern_68 : decode b_SkeletonClockModel_pattern 68 = .ok (.istore_n 2, 1) := by decide +kernel
theorem d_SkeletonClockModel_pattern_69 : decode b_SkeletonClockModel_pattern 69 = .ok (.goto 196, 3) := by decide +kernel
theorem d_SkeletonClockModel_pattern_72 : decode b_SkeletonClockModel_pattern 72 = .ok (.iload_n 3, 1) := by decide +kernel
theorem d_SkeletonClockModel_pattern_73 : decode b_SkeletonClockModel_pattern 73 = .ok (.bipush 39, 2) := by decide +kernel
theorem d_SkeletonClockModel_pattern_75 : decode b_SkeletonClockModel_pattern 75 = .ok (.if_icmp .ne 87, 3) := by decide +kernel
theorem d_SkeletonClockModel_pattern_78 : decode b_SkeletonClockModel_pattern 78 = .ok (.aload_n 0, 1) := by decide +kernel
theorem d_SkeletonClockModel_pattern_79 : decode b_SkeletonClockModel_pattern 79 = .ok (.iload_n 2, 1) := by decide +kernel
theorem d_SkeletonClockModel_pattern_80 : decode b_SkeletonClockModel_pattern 80 = .ok (.iconst 1, 1) := by decide +kernel
theorem d_SkeletonClockModel_pattern_81 : decode b_SkeletonClockModel_pattern 81 = .ok (.iadd, 1) := by decide +kernel
theorem d_SkeletonClockModel_pattern_82 : decode b_SkeletonClockModel_pattern 82 = .ok (.invokevirtual 184, 3) := by decide +kernel
theorem d_SkeletonClockModel_pattern_85 : decode b_SkeletonClockModel_pattern 85 = .ok (.bipush 39, 2) := by decide +kernel
theorem d_SkeletonClockModel_pattern_87 : decode b_SkeletonClockModel_pattern 87 = .ok (.if_icmp .eq 75, 3) := by decide +kernel
theorem d_SkeletonClockModel_pattern_90 : decode b_SkeletonClockModel_pattern 90 = .ok (.aload_n 0, 1) := by decide +kernel
theorem d_SkeletonClockModel_pattern_91 : decode b_SkeletonClockModel_pattern 91 = .ok (.iload_n 2, 1) := by decide +kernel
theorem d_SkeletonClockModel_pattern_92 : decode b_SkeletonClockModel_pattern 92 = .ok (.invokevirtual 202, 3) := by decide +kernel
theorem d_SkeletonClockModel_pattern_95 : decode b_SkeletonClockModel_pattern 95 = .ok (.istore 4, 2) := by decide +kernel
theorem d_SkeletonClockModel_pattern_97 : decode b_SkeletonClockModel_pattern 97 = .ok (.iload 4, 2) := by decide +kernel
theorem d_SkeletonClockModel_pattern_99 : decode b_SkeletonClockModel_pattern 99 = .ok (.ifCond .ge 5, 3) := by decide +kernel
theorem d_SkeletonClockModel_pattern_102 : decode b_SkeletonClockModel_pattern 102 = .ok (.iload_n 2, 1) := by decide +kernel
theorem d_SkeletonClockModel_pattern_103 : decode b_SkeletonClockModel_pattern 103 = .ok (.ireturn, 1) := by decide +kernel
theorem d_SkeletonClockModel_pattern_104 : decode b_SkeletonClockModel_pattern 104 = .ok (.iload_n 2, 1) := by decide +kernel
theorem d_SkeletonClockModel_pattern_105 : decode b_SkeletonClockModel_pattern 105 = .ok (.iconst 1, 1) := by decide +kernel
theorem d_SkeletonClockModel_pattern_106 : decode b_SkeletonClockModel_pattern 106 = .ok (.iadd, 1) := by decide +kernel
theorem d_SkeletonClockModel_pattern_107 : decode b_SkeletonClockModel_pattern 107 = .ok (.istore_n 2, 1) := by decide +kernel
theorem d_SkeletonClockModel_pattern_108 : decode b_SkeletonClockModel_pattern 108 = .ok (.iload_n 2, 1) := by decide +kernel
theorem d_SkeletonClockModel_pattern_109 : decode b_SkeletonClockModel_pattern 109 = .ok (.iload 4, 2) := by decide +kernel
theorem d_SkeletonClockModel_pattern_111 : decode b_SkeletonClockModel_pattern 111 = .ok (.if_icmp .ge 43, 3) := by decide +kernel
theorem d_SkeletonClockModel_pattern_114 : decode b_SkeletonClockModel_pattern 114 = .ok (.aload_n 0, 1) := by decide +kernel
theorem d_SkeletonClockModel_pattern_115 : decode b_SkeletonClockModel_pattern 115 = .ok (.iconst 0, 1) := by decide +kernel
theorem d_SkeletonClockModel_pattern_116 : decode b_SkeletonClockModel_pattern 116 = .ok (.aload_n 0, 1) := by decide +kernel
theorem d_SkeletonClockModel_pattern_117 : decode b_SkeletonClockModel_pattern 117 = .ok (.iload_n 2, 1) := by decide +kernel
theorem d_SkeletonClockModel_pattern_118 : decode b_SkeletonClockModel_pattern 118 = .ok (.invokevirtual 184, 3) := by decide +kernel
theorem d_SkeletonClockModel_pattern_121 : decode b_SkeletonClockModel_pattern 121 = .ok (.iconst 0, 1) := by decide +kernel
theorem d_SkeletonClockModel_pattern_122 : decode b_SkeletonClockModel_pattern 122 = .ok (.iload_n 1, 1) := by decide +kernel
theorem d_SkeletonClockModel_pattern_123 : decode b_SkeletonClockModel_pattern 123 = .ok (.invokevirtual 198, 3) := by decide +kernel
theorem d_SkeletonClockModel_pattern_126 : decode b_SkeletonClockModel_pattern 126 = .ok (.ifCond .ne 5, 3) := by decide +kernel
theorem d_SkeletonClockModel_pattern_129 : decode b_SkeletonClockModel_pattern 129 = .ok (.iload_n 2, 1) := by decide +kernel
theorem d_SkeletonClockModel_pattern_130 : decode b_SkeletonClockModel_pattern 130 = .ok (.ireturn, 1) := by decide +kernel
theorem d_SkeletonClockModel_pattern_131 : decode b_SkeletonClockModel_pattern 131 = .ok (.aload_n 0, 1) := by decide +kernel
theorem d_SkeletonClockModel_pattern_132 : decode b_SkeletonClockModel_pattern 132 = .ok (.iload_n 2, 1) := by decide +kernel
theorem d_SkeletonClockModel_pattern_133 : decode b_SkeletonClockModel_pattern 133 = .ok (.invokevirtual 184, 3) := by decide +kernel
theorem d_SkeletonClockModel_pattern_136 : decode b_SkeletonClockModel_pattern 136 = .ok (.bipush 39, 2) := by decide +kernel
theorem d_SkeletonClockModel_pattern_138 : decode b_SkeletonClockModel_pattern 138 = .ok (.if_icmp .ne 9, 3) := by decide +kernel
theorem d_SkeletonClockModel_pattern_141 : decode b_SkeletonClockModel_pattern 141 = .ok (.iload_n 2, 1) := by decide +kernel
theorem d_SkeletonClockModel_pattern_142 : decode b_SkeletonClockModel_pattern 142 = .ok (.iconst 2, 1) := by decide +kernel
theorem d_SkeletonClockModel_pattern_143 : decode b_SkeletonClockModel_pattern 143 = .ok (.iadd, 1) := by decide +kernel
theorem d_SkeletonClockModel_pattern_144 : decode b_SkeletonClockModel_pattern 144 = .ok (.goto 6, 3) := by decide +kernel
theorem d_SkeletonClockModel_pattern_147 : decode b_SkeletonClockModel_pattern 147 = .ok (.iload_n 2, 1) := by decide +kernel
theorem d_SkeletonClockModel_pattern_148 : decode b_SkeletonClockModel_pattern 148 = .ok (.iconst 1, 1) := by decide +kernel
theorem d_SkeletonClockModel_pattern_149 : decode b_SkeletonClockModel_pattern 149 = .ok (.iadd, 1) := by decide +kernel
theorem d_SkeletonClockModel_pattern_150 : decode b_SkeletonClockModel_pattern 150 = .ok (.istore_n 2, 1) := by decide +kernel
theorem d_SkeletonClockModel_pattern_151 : decode b_SkeletonClockModel_pattern 151 = .ok (.goto (-43), 3) := by decide +kernel
theorem d_SkeletonClockModel_pattern_154 : decode b_SkeletonClockModel_pattern 154 = .ok (.iload 4, 2) := by decide +kernel
theorem d_SkeletonClockModel_pattern_156 : decode b_SkeletonClockModel_pattern 156 = .ok (.iconst 1, 1) := by decide +kernel
theorem d_SkeletonClockModel_pattern_157 : decode b_SkeletonClockModel_pattern 157 = .ok (.iadd, 1) := by decide +kernel
theorem d_SkeletonClockModel_pattern_158 : decode b_SkeletonClockModel_pattern 158 = .ok (.istore_n 2, 1) := by decide +kernel
theorem d_SkeletonClockModel_pattern_159 : decode b_SkeletonClockModel_pattern 159 = .ok (.goto 106, 3) := by decide +kernel
theorem d_SkeletonClockModel_pattern_162 : decode b_SkeletonClockModel_pattern 162 = .ok (.iload_n 3, 1) := by decide +kernel
theorem d_SkeletonClockModel_pattern_163 : decode b_SkeletonClockModel_pattern 163 = .ok (.bipush 93, 2) := by decide +kernel
theorem d_SkeletonClockModel_pattern_165 : decode b_SkeletonClockModel_pattern 165 = .ok (.if_icmp .ne 41, 3) := by decide +kernel
theorem d_SkeletonClockModel_pattern_168 : decode b_SkeletonClockModel_pattern 168 = .ok (.iload_n 1, 1) := by decide +kernel
theorem d_SkeletonClockModel_pattern_169 : decode b_SkeletonClockModel_pattern 169 = .ok (.ifCond .ge 5, 3) := by decide +kernel
theorem d_SkeletonClockModel_pattern_172 : decode b_SkeletonClockModel_pattern 172 = .ok (.iload_n 2, 1) := by decide +kernel
theorem d_SkeletonClockModel_pattern_173 : decode b_SkeletonClockModel_pattern 173 = .ok (.ireturn, 1) := by decide +kernel
theorem d_SkeletonClockModel_pattern_174 : decode b_SkeletonClockModel_pattern 174 = .ok (.aload_n 0, 1) := by decide +kernel
theorem d_SkeletonClockModel_pattern_175 : decode b_SkeletonClockModel_pattern 175 = .ok (.getfield 33, 3) := by decide +kernel
theorem d_SkeletonClockModel_pattern_178 : decode b_SkeletonClockModel_pattern 178 = .ok (.bipush 120, 2) := by decide +kernel
theorem d_SkeletonClockModel_pattern_180 : decode b_SkeletonClockModel_pattern 180 = .ok (.iload_n 1, 1) := by decide +kernel
theorem d_SkeletonClockModel_pattern_181 : decode b_SkeletonClockModel_pattern 181 = .ok (.iadd, 1) := by decide +kernel
theorem d_SkeletonClockModel_pattern_182 : decode b_SkeletonClockModel_pattern 182 = .ok (.aload_n 0, 1) := by decide +kernel
theorem d_SkeletonClockModel_pattern_183 : decode b_SkeletonClockModel_pattern 183 = .ok (.getfield 36, 3) := by decide +kernel
theorem d_SkeletonClockModel_pattern_186 : decode b_SkeletonClockModel_pattern 186 = .ok (.bipush 6, 2) := by decide +kernel
theorem d_SkeletonClockModel_pattern_188 : decode b_SkeletonClockModel_pattern 188 = .ok (.iaload, 1) := by decide +kernel
theorem d_SkeletonClockModel_pattern_189 : decode b_SkeletonClockModel_pattern 189 = .ok (.iastore, 1) := by decide +kernel
theorem d_SkeletonClockModel_pattern_190 : decode b_SkeletonClockModel_pattern 190 = .ok (.aload_n 0, 1) := by decide +kernel
theorem d_SkeletonClockModel_pattern_191 : decode b_SkeletonClockModel_pattern 191 = .ok (.getfield 30, 3) := by decide +kernel
theorem d_SkeletonClockModel_pattern_194 : decode b_SkeletonClockModel_pattern 194 = .ok (.bipush 120, 2) := by decide +kernel
theorem d_SkeletonClockModel_pattern_196 : decode b_SkeletonClockModel_pattern 196 = .ok (.iload_n 1, 1) := by decide +kernel
theorem d_SkeletonClockModel_pattern_197 : decode b_SkeletonClockModel_pattern 197 = .ok (.iadd, 1) := by decide +kernel
theorem d_SkeletonClockModel_pattern_198 : decode b_SkeletonClockModel_pattern 198 = .ok (.iaload, 1) := by decide +kernel
theorem d_SkeletonClockModel_pattern_199 : decode b_SkeletonClockModel_pattern 199 = .ok (.istore_n 1, 1) := by decide +kernel
theorem d_SkeletonClockModel_pattern_200 : decode b_SkeletonClockModel_pattern 200 = .ok (.iinc 2 1, 3) := by decide +kernel
theorem d_SkeletonClockModel_pattern_203 : decode b_SkeletonClockModel_pattern 203 = .ok (.goto 62, 3) := by decide +kernel
theorem d_SkeletonClockModel_pattern_206 : decode b_SkeletonClockModel_pattern 206 = .ok (.aload_n 0, 1) := by decide +kernel
theorem d_SkeletonClockModel_pattern_207 : decode b_SkeletonClockModel_pattern 207 = .ok (.iload_n 3, 1) := by decide +kernel
theorem d_SkeletonClockModel_pattern_208 : decode b_SkeletonClockModel_pattern 208 = .ok (.bipush 91, 2) := by decide +kernel
theorem d_SkeletonClockModel_pattern_210 : decode b_SkeletonClockModel_pattern 210 = .ok (.if_icmp .ne 7, 3) := by decide +kernel
theorem d_SkeletonClockModel_pattern_213 : decode b_SkeletonClockModel_pattern 213 = .ok (.iconst 2, 1) := by decide +kernel
theorem d_SkeletonClockModel_pattern_214 : decode b_SkeletonClockModel_pattern 214 = .ok (.goto 4, 3) := by decide +kernel
theorem d_SkeletonClockModel_pattern_217 : decode b_SkeletonClockModel_pattern 217 = .ok (.iconst 0, 1) := by decide +kernel
theorem d_SkeletonClockModel_pattern_218 : decode b_SkeletonClockModel_pattern 218 = .ok (.iload_n 3, 1) := by decide +kernel
theorem d_SkeletonClockModel_pattern_219 : decode b_SkeletonClockModel_pattern 219 = .ok (.iconst 0, 1) := by decide +kernel
theorem d_SkeletonClockModel_pattern_220 : decode b_SkeletonClockModel_pattern 220 = .ok (.iload_n 1, 1) := by decide +kernel
theorem d_SkeletonClockModel_pattern_221 : decode b_SkeletonClockModel_pattern 221 = .ok (.invokevirtual 198, 3) := by decide +kernel
theorem d_SkeletonClockModel_pattern_224 : decode b_SkeletonClockModel_pattern 224 = .ok (.ifCond .ne 5, 3) := by decide +kernel
theorem d_SkeletonClockModel_pattern_227 : decode b_SkeletonClockModel_pattern 227 = .ok (.iload_n 2, 1) := by decide +kernel
theorem d_SkeletonClockModel_pattern_228 : decode b_SkeletonClockModel_pattern 228 = .ok (.ireturn, 1) := by decide +kernel
theorem d_SkeletonClockModel_pattern_229 : decode b_SkeletonClockModel_pattern 229 = .ok (.iload_n 3, 1) := by decide +kernel
theorem d_SkeletonClockModel_pattern_230 : decode b_SkeletonClockModel_pattern 230 = .ok (.bipush 91, 2) := by decide +kernel
theorem d_SkeletonClockModel_pattern_232 : decode b_SkeletonClockModel_pattern 232 = .ok (.if_icmp .ne 15, 3) := by decide +kernel
theorem d_SkeletonClockModel_pattern_235 : decode b_SkeletonClockModel_pattern 235 = .ok (.aload_n 0, 1) := by decide +kernel
theorem d_SkeletonClockModel_pattern_236 : decode b_SkeletonClockModel_pattern 236 = .ok (.getfield 36, 3) := by decide +kernel
theorem d_SkeletonClockModel_pattern_239 : decode b_SkeletonClockModel_pattern 239 = .ok (.bipush 6, 2) := by decide +kernel
theorem d_SkeletonClockModel_pattern_241 : decode b_SkeletonClockModel_pattern 241 = .ok (.iaload, 1) := by decide +kernel
theorem d_SkeletonClockModel_pattern_242 : decode b_SkeletonClockModel_pattern 242 = .ok (.iconst 1, 1) := by decide +kernel
theorem d_SkeletonClockModel_pattern_243 : decode b_SkeletonClockModel_pattern 243 = .ok (.isub, 1) := by decide +kernel
theorem d_SkeletonClockModel_pattern_244 : decode b_SkeletonClockModel_pattern 244 = .ok (.goto 4, 3) := by decide +kernel
theorem d_SkeletonClockModel_pattern_247 : decode b_SkeletonClockModel_pattern 247 = .ok (.iload_n 1, 1) := by decide +kernel
theorem d_SkeletonClockModel_pattern_248 : decode b_SkeletonClockModel_pattern 248 = .ok (.istore_n 1, 1) := by decide +kernel
theorem d_SkeletonClockModel_pattern_249 : decode b_SkeletonClockModel_pattern 249 = .ok (.iload_n 3, 1) := by decide +kernel
theorem d_SkeletonClockModel_pattern_250 : decode b_SkeletonClockModel_pattern 250 = .ok (.bipush 39, 2) := by decide +kernel
theorem d_SkeletonClockModel_pattern_252 : decode b_SkeletonClockModel_pattern 252 = .ok (.if_icmp .ne 9, 3) := by decide +kernel
theorem d_SkeletonClockModel_pattern_255 : decode b_SkeletonClockModel_pattern 255 = .ok (.iload_n 2, 1) := by decide +kernel
theorem d_SkeletonClockModel_pattern_256 : decode b_SkeletonClockModel_pattern 256 = .ok (.iconst 2, 1) := by decide +kernel
theorem d_SkeletonClockModel_pattern_257 : decode b_SkeletonClockModel_pattern 257 = .ok (.iadd, 1) := by decide +kernel
theorem d_SkeletonClockModel_pattern_258 : decode b_SkeletonClockModel_pattern 258 = .ok (.goto 6, 3) := by decide +kernel
theorem d_SkeletonClockModel_pattern_261 : decode b_SkeletonClockModel_pattern 261 = .ok (.iload_n 2, 1) := by decide +kernel
theorem d_SkeletonClockModel_pattern_262 : decode b_SkeletonClockModel_pattern 262 = .ok (.iconst 1, 1) := by decide +kernel
theorem d_SkeletonClockModel_pattern_263 : decode b_SkeletonClockModel_pattern 263 = .ok (.iadd, 1) := by decide +kernel
theorem d_SkeletonClockModel_pattern_264 : decode b_SkeletonClockModel_pattern 264 = .ok (.istore_n 2, 1) := by decide +kernel
theorem d_SkeletonClockModel_pattern_265 : decode b_SkeletonClockModel_pattern 265 = .ok (.goto (-253), 3) := by decide +kernel
theorem d_SkeletonClockModel_pattern_268 : decode b_SkeletonClockModel_pattern 268 = .ok (.iload_n 1, 1) := by decide +kernel
theorem d_SkeletonClockModel_pattern_269 : decode b_SkeletonClockModel_pattern 269 = .ok (.ifCond .ge 7, 3) := by decide +kernel
theorem d_SkeletonClockModel_pattern_272 : decode b_SkeletonClockModel_pattern 272 = .ok (.iconst (-1), 1) := by decide +kernel
theorem d_SkeletonClockModel_pattern_273 : decode b_SkeletonClockModel_pattern 273 = .ok (.goto 7, 3) := by decide +kernel
theorem d_SkeletonClockModel_pattern_276 : decode b_SkeletonClockModel_pattern 276 = .ok (.aload_n 0, 1) := by decide +kernel
theorem d_SkeletonClockModel_pattern_277 : decode b_SkeletonClockModel_pattern 277 = .ok (.getfield 181, 3) := by decide +kernel
theorem d_SkeletonClockModel_pattern_280 : decode b_SkeletonClockModel_pattern 280 = .ok (.ireturn, 1) := by decide +kernel
abbrev rm_SkeletonClockModel_pattern : Room := { frames := 2, cells := 0, slots := 0, locals := 44 }
set_option maxHeartbeats 4000000 in
set_option maxRecDepth 100000 in
theorem w_SkeletonClockModel_pattern_108 {p : Program} {l : Launch} {e : Env} {s : State} {m : MethodId} {args : Array Value} {below : List Frame} {meth : Method} {c : Code} {Q : State → Prop} {A : Nat → Prop} {D : va_G} {kk : Nat → ClassId} {st : Nat → Nat} (a_t a_t_text a_t_sort a_t_code a_t_count a_t_around a_t_end a_t_size a_t_page a_t_names a_t_there a_t_wish a_t_have a_t_known a_t_value a_t_before a_t_open a_t_from : Nat) (t_length : Int32) (t_used : Int32) (t_far : Int32) (t_momentParts : Int32) (t_momentDay : Int64) (t_momentSecond : Int32) (t_momentNano : Int32) (t_momentOffset : Int32) (t_readParts : Int32) (t_readDay : Int64) (t_readSecond : Int32) (t_readNano : Int32) (t_readOffset : Int32) (t_alike : Int32) (t_text : Nat → Int32) (x1 : Int32) (x4 : Int32) (S : CallFix p m c b_SkeletonClockModel_pattern 5 s args GW y_SkeletonClockModel_pattern.cls) (hr : meth.sig.returnType = (some .int)) (hlk : meth.locks = false) (hA : ∀ q, s.heap.size ≤ q → A q) (X : KX D kk st A s) : ∀ (n : Nat) (x2 : Int32) (t_sort : Nat → Int32) (t_code : Nat → Int32) (t_count : Nat → Int32) (t_around : Nat → Int32) (t_end : Nat → Int32) (t_size : Nat → Int32) (v : (Int32 × (Nat → Int32) × (Nat → Int32) × (Nat → Int32) × (Nat → Int32) × (Nat → Int32) × (Nat → Int32)) ⊕ (Int32 × (Nat → Int32) × (Nat → Int32) × (Nat → Int32) × (Nat → Int32) × (Nat → Int32) × (Nat → Int32))) (H : Heap) (locs : List Loc) (ls : Array Slot), lp_SkeletonClockModel_pattern_108 t_length t_text x1 x4 n x2 t_sort t_code t_count t_around t_end t_size = some v → lv_has ls 5 [(0, .ref a_t), (1, .int x1), (2, .int x2), (4, .int x4)] → va_P D classes [(a_t, .inr (10, [.int t_length, .ref a_t_text, .int t_used, .ref a_t_page, .ref a_t_names, .ref a_t_sort, .ref a_t_code, .ref a_t_count, .ref a_t_around, .ref a_t_end, .ref a_t_size, .ref a_t_there, .ref a_t_wish, .ref a_t_have, .int t_far, .int t_momentParts, .long t_momentDay, .int t_momentSecond, .int t_momentNano, .int t_momentOffset, .int t_readParts, .long t_readDay, .int t_readSecond, .int t_readNano, .int t_readOffset, .ref a_t_known, .ref a_t_value, .ref a_t_before, .ref a_t_open, .ref a_t_from, .int t_alike])), (a_t_text, .inl (kk 1, 60, .inl t_text)), (a_t_sort, .inl (kk 0, 140, .inl t_sort)), (a_t_code, .inl (kk 0, 140, .inl t_code)), (a_t_count, .inl (kk 0, 140, .inl t_count)), (a_t_around, .inl (kk 0, 140, .inl t_around)), (a_t_end, .inl (kk 0, 140, .inl t_end)), (a_t_size, .inl (kk 0, 7, .inl t_size))] H → va_D A [(a_t, .inr (10, [.int t_length, .ref a_t_text, .int t_used, .ref a_t_page, .ref a_t_names, .ref a_t_sort, .ref a_t_code, .ref a_t_count, .ref a_t_around, .ref a_t_end, .ref a_t_size, .ref a_t_there, .ref a_t_wish, .ref a_t_have, .int t_far, .int t_momentParts, .long t_momentDay, .int t_momentSecond, .int t_momentNano, .int t_momentOffset, .int t_readParts, .long t_readDay, .int t_readSecond, .int t_readNano, .int t_readOffset, .ref a_t_known, .ref a_t_value, .ref a_t_before, .ref a_t_open, .ref a_t_from, .int t_alike])), (a_t_text, .inl (kk 1, 60, .inl t_text)), (a_t_sort, .inl (kk 0, 140, .inl t_sort)), (a_t_code, .inl (kk 0, 140, .inl t_code)), (a_t_count, .inl (kk 0, 140, .inl t_count)), (a_t_around, .inl (kk 0, 140, .inl t_around)), (a_t_end, .inl (kk 0, 140, .inl t_end)), (a_t_size, .inl (kk 0, 7, .inl t_size))] → va_S A s.heap H locs → (∀ o : Int32 × (Nat → Int32) × (Nat → Int32) × (Nat → Int32) × (Nat → Int32) × (Nat → Int32) × (Nat → Int32), v = .inl o → Q = MQ below (KQi D kk o.1 [(a_t, .inr (10, [.int t_length, .ref a_t_text, .int t_used, .ref a_t_page, .ref a_t_names, .ref a_t_sort, .ref a_t_code, .ref a_t_count, .ref a_t_around, .ref a_t_end, .ref a_t_size, .ref a_t_there, .ref a_t_wish, .ref a_t_have, .int t_far, .int t_momentParts, .long t_momentDay, .int t_momentSecond, .int t_momentNano, .int t_momentOffset, .int t_readParts, .long t_readDay, .int t_readSecond, .int t_readNano, .int t_readOffset, .ref a_t_known, .ref a_t_value, .ref a_t_before, .ref a_t_open, .ref a_t_from, .int t_alike])), (a_t_text, .inl (kk 1, 60, .inl t_text)), (a_t_sort, .inl (kk 0, 140, .inl o.2.1)), (a_t_code, .inl (kk 0, 140, .inl o.2.2.1)), (a_t_count, .inl (kk 0, 140, .inl o.2.2.2.1)), (a_t_around, .inl (kk 0, 140, .inl o.2.2.2.2.1)), (a_t_end, .inl (kk 0, 140, .inl o.2.2.2.2.2.1)), (a_t_size, .inl (kk 0, 7, .inl o.2.2.2.2.2.2))] A) args s 0 0 A) → (∀ v' : Int32 × (Nat → Int32) × (Nat → Int32) × (Nat → Int32) × (Nat → Int32) × (Nat → Int32) × (Nat → Int32), v = .inr v' → ∀ (H : Heap) (locs : List Loc) (ls : Array Slot), lv_has ls 5 [(0, .ref a_t), (1, .int x1), (2, .int v'.1), (4, .int x4)] → va_P D classes [(a_t, .inr (10, [.int t_length, .ref a_t_text, .int t_used, .ref a_t_page, .ref a_t_names, .ref a_t_sort, .ref a_t_code, .ref a_t_count, .ref a_t_around, .ref a_t_end, .ref a_t_size, .ref a_t_there, .ref a_t_wish, .ref a_t_have, .int t_far, .int t_momentParts, .long t_momentDay, .int t_momentSecond, .int t_momentNano, .int t_momentOffset, .int t_readParts, .long t_readDay, .int t_readSecond, .int t_readNano, .int t_readOffset, .ref a_t_known, .ref a_t_value, .ref a_t_before, .ref a_t_open, .ref a_t_from, .int t_alike])), (a_t_text, .inl (kk 1, 60, .inl t_text)), (a_t_sort, .inl (kk 0, 140, .inl v'.2.1)), (a_t_code, .inl (kk 0, 140, .inl v'.2.2.1)), (a_t_count, .inl (kk 0, 140, .inl v'.2.2.2.1)), (a_t_around, .inl (kk 0, 140, .inl v'.2.2.2.2.1)), (a_t_end, .inl (kk 0, 140, .inl v'.2.2.2.2.2.1)), (a_t_size, .inl (kk 0, 7, .inl v'.2.2.2.2.2.2))] H → va_D A [(a_t, .inr (10, [.int t_length, .ref a_t_text, .int t_used, .ref a_t_page, .ref a_t_names, .ref a_t_sort, .ref a_t_code, .ref a_t_count, .ref a_t_around, .ref a_t_end, .ref a_t_size, .ref a_t_there, .ref a_t_wish, .ref a_t_have, .int t_far, .int t_momentParts, .long t_momentDay, .int t_momentSecond, .int t_momentNano, .int t_momentOffset, .int t_readParts, .long t_readDay, .int t_readSecond, .int t_readNano, .int t_readOffset, .ref a_t_known, .ref a_t_value, .ref a_t_before, .ref a_t_open, .ref a_t_from, .int t_alike])), (a_t_text, .inl (kk 1, 60, .inl t_text)), (a_t_sort, .inl (kk 0, 140, .inl v'.2.1)), (a_t_code, .inl (kk 0, 140, .inl v'.2.2.1)), (a_t_count, .inl (kk 0, 140, .inl v'.2.2.2.1)), (a_t_around, .inl (kk 0, 140, .inl v'.2.2.2.2.1)), (a_t_end, .inl (kk 0, 140, .inl v'.2.2.2.2.2.1)), (a_t_size, .inl (kk 0, 7, .inl v'.2.2.2.2.2.2))] → va_S A s.heap H locs → W p l e rm_SkeletonClockModel_pattern s m args below meth c H locs 0 0 Q (F0 m 154 ls [])) → W p l e rm_SkeletonClockModel_pattern s m args below meth c H locs 0 0 Q (F0 m 108 ls []) := by
  intro n
  induction n with
  | zero =>
    intro x2 t_sort t_code t_count t_around t_end t_size v H locs ls he hl hP hD hS hret K
    exact ih_n he
  | succ n ih =>
    intro x2 t_sort t_code t_count t_around t_end t_size v H locs ls he hl hP hD hS hret K
    have hx := S.1
    have hb := S.2.1
    have he : st_SkeletonClockModel_pattern_108 t_length t_text x1 x4 (lp_SkeletonClockModel_pattern_108 t_length t_text x1 x4 n) x2 t_sort t_code t_count t_around t_end t_size = some v := he
    unfold st_SkeletonClockModel_pattern_108 at he
    refine lv_iload_n hx hb d_SkeletonClockModel_pattern_108 rfl (lv_at hl 2 rfl) ?_
    refine lv_iload hx hb d_SkeletonClockModel_pattern_109 (lv_at hl 3 rfl) ?_
    refine lv_icmp_ge (tgt := 154) hx hb d_SkeletonClockModel_pattern_111 rfl (fun hc => ?_) (fun hc => ?_)
    · have he := ih_t hc he
      have hl : lv_has ls 5 [(0, .ref a_t), (1, .int x1), (2, .int x2), (4, .int x4)] := lv_sub hl [0, 1, 2, 3] rfl
      cases he
      exact K _ rfl _ _ _ hl hP hD hS
    · have he := ih_f hc he
      refine lv_aload_n hx hb d_SkeletonClockModel_pattern_114 rfl (lv_at hl 0 rfl) ?_
      refine lv_iconst (v := (0 : Int32)) hx hb d_SkeletonClockModel_pattern_115 (by decide) ?_
      refine lv_aload_n hx hb d_SkeletonClockModel_pattern_116 rfl (lv_at hl 0 rfl) ?_
      refine lv_iload_n hx hb d_SkeletonClockModel_pattern_117 rfl (lv_at hl 2 rfl) ?_
      obtain ⟨u21, e22, he⟩ := ih_b he
      refine k_io (r_V (As := [.int x2]) S X hA hP hD hS (c_SkeletonClockModel_at l D kk st a_t a_t_text a_t_page a_t_names a_t_sort a_t_code a_t_count a_t_around a_t_end a_t_size a_t_there a_t_wish a_t_have a_t_known a_t_value a_t_before a_t_open a_t_from _ t_length t_used t_far t_momentParts t_momentDay t_momentSecond t_momentNano t_momentOffset t_readParts t_readDay t_readSecond t_readNano t_readOffset t_alike t_text x2 u21 e22) gm_5_21 gm_5_18 gm_5_20 gm_p3_0 gm_1_13 ⟨rfl, rfl, by decide, by decide⟩ kd_SkeletonClockModel_at [0, 1] rfl rfl rfl 0 10 rfl rfl rfl rfl hl.1 rfl (Nat.le_of_ble_eq_true rfl) d_SkeletonClockModel_pattern_118 ⟨Nat.zero_le _, Nat.zero_le _⟩) hA hP hD hS [0, 1] rfl (fun H locs hP hS => ?_)
      refine lv_iconst (v := (0 : Int32)) hx hb d_SkeletonClockModel_pattern_121 (by decide) ?_
      refine lv_iload_n hx hb d_SkeletonClockModel_pattern_122 rfl (lv_at hl 1 rfl) ?_
      obtain ⟨u23, e24, he⟩ := ih_b he
      refine k_i (wr := [(a_t_text, .inl (kk 1, 60, .inl t_text))]) (w1 := [(a_t, .inr (10, [.int t_length, .ref a_t_text, .int t_used, .ref a_t_page, .ref a_t_names, .ref a_t_sort, .ref a_t_code, .ref a_t_count, .ref a_t_around, .ref a_t_end, .ref a_t_size, .ref a_t_there, .ref a_t_wish, .ref a_t_have, .int t_far, .int t_momentParts, .long t_momentDay, .int t_momentSecond, .int t_momentNano, .int t_momentOffset, .int t_readParts, .long t_readDay, .int t_readSecond, .int t_readNano, .int t_readOffset, .ref a_t_known, .ref a_t_value, .ref a_t_before, .ref a_t_open, .ref a_t_from, .int t_alike])), (a_t_sort, .inl (kk 0, 140, .inl u23.2.1)), (a_t_code, .inl (kk 0, 140, .inl u23.2.2.1)), (a_t_count, .inl (kk 0, 140, .inl u23.2.2.2.1)), (a_t_around, .inl (kk 0, 140, .inl u23.2.2.2.2.1)), (a_t_end, .inl (kk 0, 140, .inl u23.2.2.2.2.2.1)), (a_t_size, .inl (kk 0, 7, .inl u23.2.2.2.2.2.2))]) (w2 := [(a_t, .inr (10, [.int t_length, .ref a_t_text, .int t_used, .ref a_t_page, .ref a_t_names, .ref a_t_sort, .ref a_t_code, .ref a_t_count, .ref a_t_around, .ref a_t_end, .ref a_t_size, .ref a_t_there, .ref a_t_wish, .ref a_t_have, .int t_far, .int t_momentParts, .long t_momentDay, .int t_momentSecond, .int t_momentNano, .int t_momentOffset, .int t_readParts, .long t_readDay, .int t_readSecond, .int t_readNano, .int t_readOffset, .ref a_t_known, .ref a_t_value, .ref a_t_before, .ref a_t_open, .ref a_t_from, .int t_alike])), (a_t_text, .inl (kk 1, 60, .inl t_text)), (a_t_sort, .inl (kk 0, 140, .inl u23.2.1)), (a_t_code, .inl (kk 0, 140, .inl u23.2.2.1)), (a_t_count, .inl (kk 0, 140, .inl u23.2.2.2.1)), (a_t_around, .inl (kk 0, 140, .inl u23.2.2.2.2.1)), (a_t_end, .inl (kk 0, 140, .inl u23.2.2.2.2.2.1)), (a_t_size, .inl (kk 0, 7, .inl u23.2.2.2.2.2.2))]) (r_V (As := [.int (0 : Int32), .int u21, .int (0 : Int32), .int x1]) S X hA hP hD hS (c_SkeletonClockModel_piece l D kk st a_t a_t_sort a_t_code a_t_count a_t_around a_t_end a_t_size a_t_text a_t_page a_t_names a_t_there a_t_wish a_t_have a_t_known a_t_value a_t_before a_t_open a_t_from _ t_length t_used t_far t_momentParts t_momentDay t_momentSecond t_momentNano t_momentOffset t_readParts t_readDay t_readSecond t_readNano t_readOffset t_alike t_sort t_code t_count t_around t_end t_size (0 : Int32) u21 (0 : Int32) x1 u23 e24) gm_5_39 gm_5_36 gm_5_38 gm_p3_3 gm_1_13 ⟨rfl, rfl, by decide, by decide⟩ kd_SkeletonClockModel_piece [0, 2, 3, 4, 5, 6, 7] rfl rfl rfl 0 10 rfl rfl rfl rfl hl.1 rfl (Nat.le_of_ble_eq_true rfl) d_SkeletonClockModel_pattern_123 ⟨Nat.zero_le _, Nat.zero_le _⟩) hA hP hD hS [0, 2, 3, 4, 5, 6, 7] [1] [1, 0, 2, 3, 4, 5, 6, 7] rfl rfl rfl (by decide) rfl rfl rfl (fun H locs hP hD hS => ?_)
      refine lv_if_ne (tgt := 131) hx hb d_SkeletonClockModel_pattern_126 rfl (fun hc => ?_) (fun hc => ?_)
      · have he := ih_f hc he
        refine lv_aload_n hx hb d_SkeletonClockModel_pattern_131 rfl (lv_at hl 0 rfl) ?_
        refine lv_iload_n hx hb d_SkeletonClockModel_pattern_132 rfl (lv_at hl 2 rfl) ?_
        obtain ⟨u25, e26, he⟩ := ih_b he
        refine k_io (r_V (As := [.int x2]) S X hA hP hD hS (c_SkeletonClockModel_at l D kk st a_t a_t_text a_t_page a_t_names a_t_sort a_t_code a_t_count a_t_around a_t_end a_t_size a_t_there a_t_wish a_t_have a_t_known a_t_value a_t_before a_t_open a_t_from _ t_length t_used t_far t_momentParts t_momentDay t_momentSecond t_momentNano t_momentOffset t_readParts t_readDay t_readSecond t_readNano t_readOffset t_alike t_text x2 u25 e26) gm_5_21 gm_5_18 gm_5_20 gm_p3_0 gm_1_13 ⟨rfl, rfl, by decide, by decide⟩ kd_SkeletonClockModel_at [0, 1] rfl rfl rfl 0 10 rfl rfl rfl rfl hl.1 rfl (Nat.le_of_ble_eq_true rfl) d_SkeletonClockModel_pattern_133 ⟨Nat.zero_le _, Nat.zero_le _⟩) hA hP hD hS [0, 1] rfl (fun H locs hP hS => ?_)
        refine lv_bipush (v := (39 : Int32)) hx hb d_SkeletonClockModel_pattern_136 (by decide) ?_
        refine lv_icmp_ne (tgt := 147) hx hb d_SkeletonClockModel_pattern_138 rfl (fun hc => ?_) (fun hc => ?_)
        · have he := ih_f hc he
          refine lv_iload_n hx hb d_SkeletonClockModel_pattern_147 rfl (lv_at hl 2 rfl) ?_
          refine lv_iconst (v := (1 : Int32)) hx hb d_SkeletonClockModel_pattern_148 (by decide) ?_
          refine lv_iadd hx hb d_SkeletonClockModel_pattern_149 ?_
          refine lv_istore_n hx hb d_SkeletonClockModel_pattern_150 rfl hl (by decide) rfl (fun ls hl => ?_)
          have hl : lv_has ls 5 [(2, .int (x2 + (1 : Int32))), (0, .ref a_t), (1, .int x1), (4, .int x4)] := hl
          refine lv_goto (tgt := 108) hx hb d_SkeletonClockModel_pattern_151 rfl ?_
          have hl : lv_has ls 5 [(0, .ref a_t), (1, .int x1), (2, .int (x2 + (1 : Int32))), (4, .int x4)] := lv_sub hl [1, 2, 0, 3] rfl
          exact ih _ _ _ _ _ _ _ _ _ _ _ he hl hP hD hS hret K
        · have he := ih_t hc he
          refine lv_iload_n hx hb d_SkeletonClockModel_pattern_141 rfl (lv_at hl 2 rfl) ?_
          refine lv_iconst (v := (2 : Int32)) hx hb d_SkeletonClockModel_pattern_142 (by decide) ?_
          refine lv_iadd hx hb d_SkeletonClockModel_pattern_143 ?_
          refine lv_goto (tgt := 150) hx hb d_SkeletonClockModel_pattern_144 rfl ?_
          refine lv_istore_n hx hb d_SkeletonClockModel_pattern_150 rfl hl (by decide) rfl (fun ls hl => ?_)
          have hl : lv_has ls 5 [(2, .int (x2 + (2 : Int32))), (0, .ref a_t), (1, .int x1), (4, .int x4)] := hl
          refine lv_goto (tgt := 108) hx hb d_SkeletonClockModel_pattern_151 rfl ?_
          have hl : lv_has ls 5 [(0, .ref a_t), (1, .int x1), (2, .int (x2 + (2 : Int32))), (4, .int x4)] := lv_sub hl [1, 2, 0, 3] rfl
          exact ih _ _ _ _ _ _ _ _ _ _ _ he hl hP hD hS hret K
      · have he := ih_t hc he
        refine lv_iload_n hx hb d_SkeletonClockModel_pattern_129 rfl (lv_at hl 2 rfl) ?_
        cases he
        have hq := hret _ rfl
        subst hq
        exact k_ire hx hb hr hlk X hP hD hS d_SkeletonClockModel_pattern_130
set_option maxHeartbeats 4000000 in
set_option maxRecDepth 100000 in
theorem w_SkeletonClockModel_pattern_12 {p : Program} {l : Launch} {e : Env} {s : State} {m : MethodId} {args : Array Value} {below : List Frame} {meth : Method} {c : Code} {Q : State → Prop} {A : Nat → Prop} {D : va_G} {kk : Nat → ClassId} {st : Nat → Nat} (a_t a_t_text a_t_sort a_t_code a_t_count a_t_around a_t_end a_t_size a_t_page a_t_names a_t_there a_t_wish a_t_have a_t_known a_t_value a_t_before a_t_open a_t_from : Nat) (t_length : Int32) (t_used : Int32) (t_far : Int32) (t_momentParts : Int32) (t_momentDay : Int64) (t_momentSecond : Int32) (t_momentNano : Int32) (t_momentOffset : Int32) (t_readParts : Int32) (t_readDay : Int64) (t_readSecond : Int32) (t_readNano : Int32) (t_readOffset : Int32) (t_alike : Int32) (t_text : Nat → Int32) (S : CallFix p m c b_SkeletonClockModel_pattern 5 s args GW y_SkeletonClockModel_pattern.cls) (hr : meth.sig.returnType = (some .int)) (hlk : meth.locks = false) (hA : ∀ q, s.heap.size ≤ q → A q) (X : KX D kk st A s) : ∀ (n : Nat) (x1 : Int32) (x2 : Int32) (t_sort : Nat → Int32) (t_code : Nat → Int32) (t_count : Nat → Int32) (t_around : Nat → Int32) (t_end : Nat → Int32) (t_size : Nat → Int32) (v : (Int32 × (Nat → Int32) × (Nat → Int32) × (Nat → Int32) × (Nat → Int32) × (Nat → Int32) × (Nat → Int32)) ⊕ (Int32 × Int32 × (Nat → Int32) × (Nat → Int32) × (Nat → Int32) × (Nat → Int32) × (Nat → Int32) × (Nat → Int32))) (H : Heap) (locs : List Loc) (ls : Array Slot), lp_SkeletonClockModel_pattern_12 t_length t_text n x1 x2 t_sort t_code t_count t_around t_end t_size = some v → lv_has ls 5 [(0, .ref a_t), (1, .int x1), (2, .int x2)] → va_P D classes [(a_t, .inr (10, [.int t_length, .ref a_t_text, .int t_used, .ref a_t_page, .ref a_t_names, .ref a_t_sort, .ref a_t_code, .ref a_t_count, .ref a_t_around, .ref a_t_end, .ref a_t_size, .ref a_t_there, .ref a_t_wish, .ref a_t_have, .int t_far, .int t_momentParts, .long t_momentDay, .int t_momentSecond, .int t_momentNano, .int t_momentOffset, .int t_readParts, .long t_readDay, .int t_readSecond, .int t_readNano, .int t_readOffset, .ref a_t_known, .ref a_t_value, .ref a_t_before, .ref a_t_open, .ref a_t_from, .int t_alike])), (a_t_text, .inl (kk 1, 60, .inl t_text)), (a_t_sort, .inl (kk 0, 140, .inl t_sort)), (a_t_code, .inl (kk 0, 140, .inl t_code)), (a_t_count, .inl (kk 0, 140, .inl t_count)), (a_t_around, .inl (kk 0, 140, .inl t_around)), (a_t_end, .inl (kk 0, 140, .inl t_end)), (a_t_size, .inl (kk 0, 7, .inl t_size))] H → va_D A [(a_t, .inr (10, [.int t_length, .ref a_t_text, .int t_used, .ref a_t_page, .ref a_t_names, .ref a_t_sort, .ref a_t_code, .ref a_t_count, .ref a_t_around, .ref a_t_end, .ref a_t_size, .ref a_t_there, .ref a_t_wish, .ref a_t_have, .int t_far, .int t_momentParts, .long t_momentDay, .int t_momentSecond, .int t_momentNano, .int t_momentOffset, .int t_readParts, .long t_readDay, .int t_readSecond, .int t_readNano, .int t_readOffset, .ref a_t_known, .ref a_t_value, .ref a_t_before, .ref a_t_open, .ref a_t_from, .int t_alike])), (a_t_text, .inl (kk 1, 60, .inl t_text)), (a_t_sort, .inl (kk 0, 140, .inl t_sort)), (a_t_code, .inl (kk 0, 140, .inl t_code)), (a_t_count, .inl (kk 0, 140, .inl t_count)), (a_t_around, .inl (kk 0, 140, .inl t_around)), (a_t_end, .inl (kk 0, 140, .inl t_end)), (a_t_size, .inl (kk 0, 7, .inl t_size))] → va_S A s.heap H locs → (∀ o : Int32 × (Nat → Int32) × (Nat → Int32) × (Nat → Int32) × (Nat → Int32) × (Nat → Int32) × (Nat → Int32), v = .inl o → Q = MQ below (KQi D kk o.1 [(a_t, .inr (10, [.int t_length, .ref a_t_text, .int t_used, .ref a_t_page, .ref a_t_names, .ref a_t_sort, .ref a_t_code, .ref a_t_count, .ref a_t_around, .ref a_t_end, .ref a_t_size, .ref a_t_there, .ref a_t_wish, .ref a_t_have, .int t_far, .int t_momentParts, .long t_momentDay, .int t_momentSecond, .int t_momentNano, .int t_momentOffset, .int t_readParts, .long t_readDay, .int t_readSecond, .int t_readNano, .int t_readOffset, .ref a_t_known, .ref a_t_value, .ref a_t_before, .ref a_t_open, .ref a_t_from, .int t_alike])), (a_t_text, .inl (kk 1, 60, .inl t_text)), (a_t_sort, .inl (kk 0, 140, .inl o.2.1)), (a_t_code, .inl (kk 0, 140, .inl o.2.2.1)), (a_t_count, .inl (kk 0, 140, .inl o.2.2.2.1)), (a_t_around, .inl (kk 0, 140, .inl o.2.2.2.2.1)), (a_t_end, .inl (kk 0, 140, .inl o.2.2.2.2.2.1)), (a_t_size, .inl (kk 0, 7, .inl o.2.2.2.2.2.2))] A) args s 0 0 A) → (∀ v' : Int32 × Int32 × (Nat → Int32) × (Nat → Int32) × (Nat → Int32) × (Nat → Int32) × (Nat → Int32) × (Nat → Int32), v = .inr v' → ∀ (H : Heap) (locs : List Loc) (ls : Array Slot), lv_has ls 5 [(0, .ref a_t), (1, .int v'.1), (2, .int v'.2.1)] → va_P D classes [(a_t, .inr (10, [.int t_length, .ref a_t_text, .int t_used, .ref a_t_page, .ref a_t_names, .ref a_t_sort, .ref a_t_code, .ref a_t_count, .ref a_t_around, .ref a_t_end, .ref a_t_size, .ref a_t_there, .ref a_t_wish, .ref a_t_have, .int t_far, .int t_momentParts, .long t_momentDay, .int t_momentSecond, .int t_momentNano, .int t_momentOffset, .int t_readParts, .long t_readDay, .int t_readSecond, .int t_readNano, .int t_readOffset, .ref a_t_known, .ref a_t_value, .ref a_t_before, .ref a_t_open, .ref a_t_from, .int t_alike])), (a_t_text, .inl (kk 1, 60, .inl t_text)), (a_t_sort, .inl (kk 0, 140, .inl v'.2.2.1)), (a_t_code, .inl (kk 0, 140, .inl v'.2.2.2.1)), (a_t_count, .inl (kk 0, 140, .inl v'.2.2.2.2.1)), (a_t_around, .inl (kk 0, 140, .inl v'.2.2.2.2.2.1)), (a_t_end, .inl (kk 0, 140, .inl v'.2.2.2.2.2.2.1)), (a_t_size, .inl (kk 0, 7, .inl v'.2.2.2.2.2.2.2))] H → va_D A [(a_t, .inr (10, [.int t_length, .ref a_t_text, .int t_used, .ref a_t_page, .ref a_t_names, .ref a_t_sort, .ref a_t_code, .ref a_t_count, .ref a_t_around, .ref a_t_end, .ref a_t_size, .ref a_t_there, .ref a_t_wish, .ref a_t_have, .int t_far, .int t_momentParts, .long t_momentDay, .int t_momentSecond, .int t_momentNano, .int t_momentOffset, .int t_readParts, .long t_readDay, .int t_readSecond, .int t_readNano, .int t_readOffset, .ref a_t_known, .ref a_t_value, .ref a_t_before, .ref a_t_open, .ref a_t_from, .int t_alike])), (a_t_text, .inl (kk 1, 60, .inl t_text)), (a_t_sort, .inl (kk 0, 140, .inl v'.2.2.1)), (a_t_code, .inl (kk 0, 140, .inl v'.2.2.2.1)), (a_t_count, .inl (kk 0, 140, .inl v'.2.2.2.2.1)), (a_t_around, .inl (kk 0, 140, .inl v'.2.2.2.2.2.1)), (a_t_end, .inl (kk 0, 140, .inl v'.2.2.2.2.2.2.1)), (a_t_size, .inl (kk 0, 7, .inl v'.2.2.2.2.2.2.2))] → va_S A s.heap H locs → W p l e rm_SkeletonClockModel_pattern s m args below meth c H locs 0 0 Q (F0 m 268 ls [])) → W p l e rm_SkeletonClockModel_pattern s m args below meth c H locs 0 0 Q (F0 m 12 ls []) := by
  intro n
  induction n with
  | zero =>
    intro x1 x2 t_sort t_code t_count t_around t_end t_size v H locs ls he hl hP hD hS hret K
    exact ih_n he
  | succ n ih =>
    intro x1 x2 t_sort t_code t_count t_around t_end t_size v H locs ls he hl hP hD hS hret K
    have hx := S.1
    have hb := S.2.1
    have he : st_SkeletonClockModel_pattern_12 t_length t_text (lp_SkeletonClockModel_pattern_12 t_length t_text n) x1 x2 t_sort t_code t_count t_around t_end t_size = some v := he
    unfold st_SkeletonClockModel_pattern_12 at he
    refine lv_iload_n hx hb d_SkeletonClockModel_pattern_12 rfl (lv_at hl 2 rfl) ?_
    refine lv_aload_n hx hb d_SkeletonClockModel_pattern_13 rfl (lv_at hl 0 rfl) ?_
    refine k_get S X us_SkeletonClockModel hP 0 rfl rfl 0 (by decide) gm_4_151 rfl d_SkeletonClockModel_pattern_14 ?_
    refine lv_icmp_ge (tgt := 268) hx hb d_SkeletonClockModel_pattern_17 rfl (fun hc => ?_) (fun hc => ?_)
    · have he := ih_t hc he
      have hl : lv_has ls 5 [(0, .ref a_t), (1, .int x1), (2, .int x2)] := lv_sub hl [0, 1, 2] rfl
      cases he
      exact K _ rfl _ _ _ hl hP hD hS
    · have he := ih_f hc he
      refine lv_aload_n hx hb d_SkeletonClockModel_pattern_20 rfl (lv_at hl 0 rfl) ?_
      refine lv_iload_n hx hb d_SkeletonClockModel_pattern_21 rfl (lv_at hl 2 rfl) ?_
      obtain ⟨u1, e2, he⟩ := ih_b he
      refine k_io (r_V (As := [.int x2]) S X hA hP hD hS (c_SkeletonClockModel_at l D kk st a_t a_t_text a_t_page a_t_names a_t_sort a_t_code a_t_count a_t_around a_t_end a_t_size a_t_there a_t_wish a_t_have a_t_known a_t_value a_t_before a_t_open a_t_from _ t_length t_used t_far t_momentParts t_momentDay t_momentSecond t_momentNano t_momentOffset t_readParts t_readDay t_readSecond t_readNano t_readOffset t_alike t_text x2 u1 e2) gm_5_21 gm_5_18 gm_5_20 gm_p3_0 gm_1_13 ⟨rfl, rfl, by decide, by decide⟩ kd_SkeletonClockModel_at [0, 1] rfl rfl rfl 0 10 rfl rfl rfl rfl hl.1 rfl (Nat.le_of_ble_eq_true rfl) d_SkeletonClockModel_pattern_22 ⟨Nat.zero_le _, Nat.zero_le _⟩) hA hP hD hS [0, 1] rfl (fun H locs hP hS => ?_)
      refine lv_istore_n hx hb d_SkeletonClockModel_pattern_25 rfl hl (by decide) rfl (fun ls hl => ?_)
      have hl : lv_has ls 5 [(3, .int u1), (0, .ref a_t), (1, .int x1), (2, .int x2)] := hl
      refine lv_aload_n hx hb d_SkeletonClockModel_pattern_26 rfl (lv_at hl 1 rfl) ?_
      refine lv_iload_n hx hb d_SkeletonClockModel_pattern_27 rfl (lv_at hl 3 rfl) ?_
      obtain ⟨u3, e4, he⟩ := ih_b he
      refine k_io (r_V (As := [.int x2]) S X hA hP hD hS (c_SkeletonClockModel_isLetter l D kk st a_t a_t_text a_t_page a_t_names a_t_sort a_t_code a_t_count a_t_around a_t_end a_t_size a_t_there a_t_wish a_t_have a_t_known a_t_value a_t_before a_t_open a_t_from _ t_length t_used t_far t_momentParts t_momentDay t_momentSecond t_momentNano t_momentOffset t_readParts t_readDay t_readSecond t_readNano t_readOffset t_alike t_text x2 u3 e4) gm_5_25 gm_5_22 gm_5_24 gm_p3_1 gm_1_13 ⟨rfl, rfl, by decide, by decide⟩ kd_SkeletonClockModel_isLetter [0, 1] rfl rfl rfl 0 10 rfl rfl rfl rfl hl.1 rfl (Nat.le_of_ble_eq_true rfl) d_SkeletonClockModel_pattern_28 ⟨Nat.zero_le _, Nat.zero_le _⟩) hA hP hD hS [0, 1] rfl (fun H locs hP hS => ?_)
      refine lv_if_eq (tgt := 72) hx hb d_SkeletonClockModel_pattern_31 rfl (fun hc => ?_) (fun hc => ?_)
      · have he := ih_t hc he
        refine lv_iload_n hx hb d_SkeletonClockModel_pattern_72 rfl (lv_at hl 0 rfl) ?_
        refine lv_bipush (v := (39 : Int32)) hx hb d_SkeletonClockModel_pattern_73 (by decide) ?_
        refine lv_icmp_ne (tgt := 162) hx hb d_SkeletonClockModel_pattern_75 rfl (fun hc => ?_) (fun hc => ?_)
        · have he := ih_f hc he
          refine lv_iload_n hx hb d_SkeletonClockModel_pattern_162 rfl (lv_at hl 0 rfl) ?_
          refine lv_bipush (v := (93 : Int32)) hx hb d_SkeletonClockModel_pattern_163 (by decide) ?_
          refine lv_icmp_ne (tgt := 206) hx hb d_SkeletonClockModel_pattern_165 rfl (fun hc => ?_) (fun hc => ?_)
          · have he := ih_f hc he
            refine lv_aload_n hx hb d_SkeletonClockModel_pattern_206 rfl (lv_at hl 1 rfl) ?_
            refine lv_iload_n hx hb d_SkeletonClockModel_pattern_207 rfl (lv_at hl 0 rfl) ?_
            refine lv_bipush (v := (91 : Int32)) hx hb d_SkeletonClockModel_pattern_208 (by decide) ?_
            refine lv_icmp_ne (tgt := 217) hx hb d_SkeletonClockModel_pattern_210 rfl (fun hc => ?_) (fun hc => ?_)
            · have he := ih_f hc he
              refine lv_iconst (v := (0 : Int32)) hx hb d_SkeletonClockModel_pattern_217 (by decide) ?_
              refine lv_iload_n hx hb d_SkeletonClockModel_pattern_218 rfl (lv_at hl 0 rfl) ?_
              refine lv_iconst (v := (0 : Int32)) hx hb d_SkeletonClockModel_pattern_219 (by decide) ?_
              refine lv_iload_n hx hb d_SkeletonClockModel_pattern_220 rfl (lv_at hl 2 rfl) ?_
              obtain ⟨u5, e6, he⟩ := ih_b he
              refine k_i (wr := [(a_t_text, .inl (kk 1, 60, .inl t_text))]) (w1 := [(a_t, .inr (10, [.int t_length, .ref a_t_text, .int t_used, .ref a_t_page, .ref a_t_names, .ref a_t_sort, .ref a_t_code, .ref a_t_count, .ref a_t_around, .ref a_t_end, .ref a_t_size, .ref a_t_there, .ref a_t_wish, .ref a_t_have, .int t_far, .int t_momentParts, .long t_momentDay, .int t_momentSecond, .int t_momentNano, .int t_momentOffset, .int t_readParts, .long t_readDay, .int t_readSecond, .int t_readNano, .int t_readOffset, .ref a_t_known, .ref a_t_value, .ref a_t_before, .ref a_t_open, .ref a_t_from, .int t_alike])), (a_t_sort, .inl (kk 0, 140, .inl u5.2.1)), (a_t_code, .inl (kk 0, 140, .inl u5.2.2.1)), (a_t_count, .inl (kk 0, 140, .inl u5.2.2.2.1)), (a_t_around, .inl (kk 0, 140, .inl u5.2.2.2.2.1)), (a_t_end, .inl (kk 0, 140, .inl u5.2.2.2.2.2.1)), (a_t_size, .inl (kk 0, 7, .inl u5.2.2.2.2.2.2))]) (w2 := [(a_t, .inr (10, [.int t_length, .ref a_t_text, .int t_used, .ref a_t_page, .ref a_t_names, .ref a_t_sort, .ref a_t_code, .ref a_t_count, .ref a_t_around, .ref a_t_end, .ref a_t_size, .ref a_t_there, .ref a_t_wish, .ref a_t_have, .int t_far, .int t_momentParts, .long t_momentDay, .int t_momentSecond, .int t_momentNano, .int t_momentOffset, .int t_readParts, .long t_readDay, .int t_readSecond, .int t_readNano, .int t_readOffset, .ref a_t_known, .ref a_t_value, .ref a_t_before, .ref a_t_open, .ref a_t_from, .int t_alike])), (a_t_text, .inl (kk 1, 60, .inl t_text)), (a_t_sort, .inl (kk 0, 140, .inl u5.2.1)), (a_t_code, .inl (kk 0, 140, .inl u5.2.2.1)), (a_t_count, .inl (kk 0, 140, .inl u5.2.2.2.1)), (a_t_around, .inl (kk 0, 140, .inl u5.2.2.2.2.1)), (a_t_end, .inl (kk 0, 140, .inl u5.2.2.2.2.2.1)), (a_t_size, .inl (kk 0, 7, .inl u5.2.2.2.2.2.2))]) (r_V (As := [.int (0 : Int32), .int u1, .int (0 : Int32), .int x1]) S X hA hP hD hS (c_SkeletonClockModel_piece l D kk st a_t a_t_sort a_t_code a_t_count a_t_around a_t_end a_t_size a_t_text a_t_page a_t_names a_t_there a_t_wish a_t_have a_t_known a_t_value a_t_before a_t_open a_t_from _ t_length t_used t_far t_momentParts t_momentDay t_momentSecond t_momentNano t_momentOffset t_readParts t_readDay t_readSecond t_readNano t_readOffset t_alike t_sort t_code t_count t_around t_end t_size (0 : Int32) u1 (0 : Int32) x1 u5 e6) gm_5_39 gm_5_36 gm_5_38 gm_p3_3 gm_1_13 ⟨rfl, rfl, by decide, by decide⟩ kd_SkeletonClockModel_piece [0, 2, 3, 4, 5, 6, 7] rfl rfl rfl 0 10 rfl rfl rfl rfl hl.1 rfl (Nat.le_of_ble_eq_true rfl) d_SkeletonClockModel_pattern_221 ⟨Nat.zero_le _, Nat.zero_le _⟩) hA hP hD hS [0, 2, 3, 4, 5, 6, 7] [1] [1, 0, 2, 3, 4, 5, 6, 7] rfl rfl rfl (by decide) rfl rfl rfl (fun H locs hP hD hS => ?_)
              refine lv_if_ne (tgt := 229) hx hb d_SkeletonClockModel_pattern_224 rfl (fun hc => ?_) (fun hc => ?_)
              · have he := ih_f hc he
                refine lv_iload_n hx hb d_SkeletonClockModel_pattern_229 rfl (lv_at hl 0 rfl) ?_
                refine lv_bipush (v := (91 : Int32)) hx hb d_SkeletonClockModel_pattern_230 (by decide) ?_
                refine lv_icmp_ne (tgt := 247) hx hb d_SkeletonClockModel_pattern_232 rfl (fun hc => ?_) (fun hc => ?_)
                · have he := ih_f hc he
                  refine lv_iload_n hx hb d_SkeletonClockModel_pattern_247 rfl (lv_at hl 2 rfl) ?_
                  refine lv_istore_n hx hb d_SkeletonClockModel_pattern_248 rfl hl (by decide) rfl (fun ls hl => ?_)
                  have hl : lv_has ls 5 [(1, .int x1), (3, .int u1), (0, .ref a_t), (2, .int x2)] := hl
                  refine lv_iload_n hx hb d_SkeletonClockModel_pattern_249 rfl (lv_at hl 1 rfl) ?_
                  refine lv_bipush (v := (39 : Int32)) hx hb d_SkeletonClockModel_pattern_250 (by decide) ?_
                  refine lv_icmp_ne (tgt := 261) hx hb d_SkeletonClockModel_pattern_252 rfl (fun hc => ?_) (fun hc => ?_)
                  · have he := ih_f hc he
                    refine lv_iload_n hx hb d_SkeletonClockModel_pattern_261 rfl (lv_at hl 3 rfl) ?_
                    refine lv_iconst (v := (1 : Int32)) hx hb d_SkeletonClockModel_pattern_262 (by decide) ?_
                    refine lv_iadd hx hb d_SkeletonClockModel_pattern_263 ?_
                    refine lv_istore_n hx hb d_SkeletonClockModel_pattern_264 rfl hl (by decide) rfl (fun ls hl => ?_)
                    have hl : lv_has ls 5 [(2, .int (x2 + (1 : Int32))), (1, .int x1), (3, .int u1), (0, .ref a_t)] := hl
                    refine lv_goto (tgt := 12) hx hb d_SkeletonClockModel_pattern_265 rfl ?_
                    have hl : lv_has ls 5 [(0, .ref a_t), (1, .int x1), (2, .int (x2 + (1 : Int32)))] := lv_sub hl [3, 1, 0] rfl
                    exact ih _ _ _ _ _ _ _ _ _ _ _ _ he hl hP hD hS hret K
                  · have he := ih_t hc he
                    refine lv_iload_n hx hb d_SkeletonClockModel_pattern_255 rfl (lv_at hl 3 rfl) ?_
                    refine lv_iconst (v := (2 : Int32)) hx hb d_SkeletonClockModel_pattern_256 (by decide) ?_
                    refine lv_iadd hx hb d_SkeletonClockModel_pattern_257 ?_
                    refine lv_goto (tgt := 264) hx hb d_SkeletonClockModel_pattern_258 rfl ?_
                    refine lv_istore_n hx hb d_SkeletonClockModel_pattern_264 rfl hl (by decide) rfl (fun ls hl => ?_)
                    have hl : lv_has ls 5 [(2, .int (x2 + (2 : Int32))), (1, .int x1), (3, .int u1), (0, .ref a_t)] := hl
                    refine lv_goto (tgt := 12) hx hb d_SkeletonClockModel_pattern_265 rfl ?_
                    have hl : lv_has ls 5 [(0, .ref a_t), (1, .int x1), (2, .int (x2 + (2 : Int32)))] := lv_sub hl [3, 1, 0] rfl
                    exact ih _ _ _ _ _ _ _ _ _ _ _ _ he hl hP hD hS hret K
                · have he := ih_t hc he
                  refine lv_aload_n hx hb d_SkeletonClockModel_pattern_235 rfl (lv_at hl 1 rfl) ?_
                  refine k_get S X us_SkeletonClockModel hP 0 rfl rfl 10 (by decide) gm_4_161 rfl d_SkeletonClockModel_pattern_236 ?_
                  refine lv_bipush (v := (6 : Int32)) hx hb d_SkeletonClockModel_pattern_239 (by decide) ?_
                  refine va_iald hx hb X.1 hP 7 0 rfl rfl (show ¬ ((6 : Int32) < 0 ∨ 7 ≤ ((6 : Int32)).toNatClampNeg) by decide) d_SkeletonClockModel_pattern_241 ?_
                  refine lv_iconst (v := (1 : Int32)) hx hb d_SkeletonClockModel_pattern_242 (by decide) ?_
                  refine lv_isub hx hb d_SkeletonClockModel_pattern_243 ?_
                  refine lv_goto (tgt := 248) hx hb d_SkeletonClockModel_pattern_244 rfl ?_
                  refine lv_istore_n hx hb d_SkeletonClockModel_pattern_248 rfl hl (by decide) rfl (fun ls hl => ?_)
                  have hl : lv_has ls 5 [(1, .int ((u5.2.2.2.2.2.2 ((6 : Int32)).toNatClampNeg) - (1 : Int32))), (3, .int u1), (0, .ref a_t), (2, .int x2)] := hl
                  refine lv_iload_n hx hb d_SkeletonClockModel_pattern_249 rfl (lv_at hl 1 rfl) ?_
                  refine lv_bipush (v := (39 : Int32)) hx hb d_SkeletonClockModel_pattern_250 (by decide) ?_
                  refine lv_icmp_ne (tgt := 261) hx hb d_SkeletonClockModel_pattern_252 rfl (fun hc => ?_) (fun hc => ?_)
                  · have he := ih_f hc he
                    refine lv_iload_n hx hb d_SkeletonClockModel_pattern_261 rfl (lv_at hl 3 rfl) ?_
                    refine lv_iconst (v := (1 : Int32)) hx hb d_SkeletonClockModel_pattern_262 (by decide) ?_
                    refine lv_iadd hx hb d_SkeletonClockModel_pattern_263 ?_
                    refine lv_istore_n hx hb d_SkeletonClockModel_pattern_264 rfl hl (by decide) rfl (fun ls hl => ?_)
                    have hl : lv_has ls 5 [(2, .int (x2 + (1 : Int32))), (1, .int ((u5.2.2.2.2.2.2 ((6 : Int32)).toNatClampNeg) - (1 : Int32))), (3, .int u1), (0, .ref a_t)] := hl
                    refine lv_goto (tgt := 12) hx hb d_SkeletonClockModel_pattern_265 rfl ?_
                    have hl : lv_has ls 5 [(0, .ref a_t), (1, .int ((u5.2.2.2.2.2.2 ((6 : Int32)).toNatClampNeg) - (1 : Int32))), (2, .int (x2 + (1 : Int32)))] := lv_sub hl [3, 1, 0] rfl
                    exact ih _ _ _ _ _ _ _ _ _ _ _ _ he hl hP hD hS hret K
                  · have he := ih_t hc he
                    refine lv_iload_n hx hb d_SkeletonClockModel_pattern_255 rfl (lv_at hl 3 rfl) ?_
                    refine lv_iconst (v := (2 : Int32)) hx hb d_SkeletonClockModel_pattern_256 (by decide) ?_
                    refine lv_iadd hx hb d_SkeletonClockModel_pattern_257 ?_
                    refine lv_goto (tgt := 264) hx hb d_SkeletonClockModel_pattern_258 rfl ?_
                    refine lv_istore_n hx hb d_SkeletonClockModel_pattern_264 rfl hl (by decide) rfl (fun ls hl => ?_)
                    have hl : lv_has ls 5 [(2, .int (x2 + (2 : Int32))), (1, .int ((u5.2.2.2.2.2.2 ((6 : Int32)).toNatClampNeg) - (1 : Int32))), (3, .int u1), (0, .ref a_t)] := hl
                    refine lv_goto (tgt := 12) hx hb d_SkeletonClockModel_pattern_265 rfl ?_
                    have hl : lv_has ls 5 [(0, .ref a_t), (1, .int ((u5.2.2.2.2.2.2 ((6 : Int32)).toNatClampNeg) - (1 : Int32))), (2, .int (x2 + (2 : Int32)))] := lv_sub hl [3, 1, 0] rfl
                    exact ih _ _ _ _ _ _ _ _ _ _ _ _ he hl hP hD hS hret K
              · have he := ih_t hc he
                refine lv_iload_n hx hb d_SkeletonClockModel_pattern_227 rfl (lv_at hl 3 rfl) ?_
                cases he
                have hq := hret _ rfl
                subst hq
                exact k_ire hx hb hr hlk X hP hD hS d_SkeletonClockModel_pattern_228
            · have he := ih_t hc he
              refine lv_iconst (v := (2 : Int32)) hx hb d_SkeletonClockModel_pattern_213 (by decide) ?_
              refine lv_goto (tgt := 218) hx hb d_SkeletonClockModel_pattern_214 rfl ?_
              refine lv_iload_n hx hb d_SkeletonClockModel_pattern_218 rfl (lv_at hl 0 rfl) ?_
              refine lv_iconst (v := (0 : Int32)) hx hb d_SkeletonClockModel_pattern_219 (by decide) ?_
              refine lv_iload_n hx hb d_SkeletonClockModel_pattern_220 rfl (lv_at hl 2 rfl) ?_
              obtain ⟨u7, e8, he⟩ := ih_b he
              refine k_i (wr := [(a_t_text, .inl (kk 1, 60, .inl t_text))]) (w1 := [(a_t, .inr (10, [.int t_length, .ref a_t_text, .int t_used, .ref a_t_page, .ref a_t_names, .ref a_t_sort, .ref a_t_code, .ref a_t_count, .ref a_t_around, .ref a_t_end, .ref a_t_size, .ref a_t_there, .ref a_t_wish, .ref a_t_have, .int t_far, .int t_momentParts, .long t_momentDay, .int t_momentSecond, .int t_momentNano, .int t_momentOffset, .int t_readParts, .long t_readDay, .int t_readSecond, .int t_readNano, .int t_readOffset, .ref a_t_known, .ref a_t_value, .ref a_t_before, .ref a_t_open, .ref a_t_from, .int t_alike])), (a_t_sort, .inl (kk 0, 140, .inl u7.2.1)), (a_t_code, .inl (kk 0, 140, .inl u7.2.2.1)), (a_t_count, .inl (kk 0, 140, .inl u7.2.2.2.1)), (a_t_around, .inl (kk 0, 140, .inl u7.2.2.2.2.1)), (a_t_end, .inl (kk 0, 140, .inl u7.2.2.2.2.2.1)), (a_t_size, .inl (kk 0, 7, .inl u7.2.2.2.2.2.2))]) (w2 := [(a_t, .inr (10, [.int t_length, .ref a_t_text, .int t_used, .ref a_t_page, .ref a_t_names, .ref a_t_sort, .ref a_t_code, .ref a_t_count, .ref a_t_around, .ref a_t_end, .ref a_t_size, .ref a_t_there, .ref a_t_wish, .ref a_t_have, .int t_far, .int t_momentParts, .long t_momentDay, .int t_momentSecond, .int t_momentNano, .int t_momentOffset, .int t_readParts, .long t_readDay, .int t_readSecond, .int t_readNano, .int t_readOffset, .ref a_t_known, .ref a_t_value, .ref a_t_before, .ref a_t_open, .ref a_t_from, .int t_alike])), (a_t_text, .inl (kk 1, 60, .inl t_text)), (a_t_sort, .inl (kk 0, 140, .inl u7.2.1)), (a_t_code, .inl (kk 0, 140, .inl u7.2.2.1)), (a_t_count, .inl (kk 0, 140, .inl u7.2.2.2.1)), (a_t_around, .inl (kk 0, 140, .inl u7.2.2.2.2.1)), (a_t_end, .inl (kk 0, 140, .inl u7.2.2.2.2.2.1)), (a_t_size, .inl (kk 0, 7, .inl u7.2.2.2.2.2.2))]) (r_V (As := [.int (2 : Int32), .int u1, .int (0 : Int32), .int x1]) S X hA hP hD hS (c_SkeletonClockModel_piece l D kk st a_t a_t_sort a_t_code a_t_count a_t_around a_t_end a_t_size a_t_text a_t_page a_t_names a_t_there a_t_wish a_t_have a_t_known a_t_value a_t_before a_t_open a_t_from _ t_length t_used t_far t_momentParts t_momentDay t_momentSecond t_momentNano t_momentOffset t_readParts t_readDay t_readSecond t_readNano t_readOffset t_alike t_sort t_code t_count t_around t_end t_size (2 : Int32) u1 (0 : Int32) x1 u7 e8) gm_5_39 gm_5_36 gm_5_38 gm_p3_3 gm_1_13 ⟨rfl, rfl, by decide, by decide⟩ kd_SkeletonClockModel_piece [0, 2, 3, 4, 5, 6, 7] rfl rfl rfl 0 10 rfl rfl rfl rfl hl.1 rfl (Nat.le_of_ble_eq_true rfl) d_SkeletonClockModel_pattern_221 ⟨Nat.zero_le _, Nat.zero_le _⟩) hA hP hD hS [0, 2, 3, 4, 5, 6, 7] [1] [1, 0, 2, 3, 4, 5, 6, 7] rfl rfl rfl (by decide) rfl rfl rfl (fun H locs hP hD hS => ?_)
              refine lv_if_ne (tgt := 229) hx hb d_SkeletonClockModel_pattern_224 rfl (fun hc => ?_) (fun hc => ?_)
              · have he := ih_f hc he
                refine lv_iload_n hx hb d_SkeletonClockModel_pattern_229 rfl (lv_at hl 0 rfl) ?_
                refine lv_bipush (v := (91 : Int32)) hx hb d_SkeletonClockModel_pattern_230 (by decide) ?_
                refine lv_icmp_ne (tgt := 247) hx hb d_SkeletonClockModel_pattern_232 rfl (fun hc => ?_) (fun hc => ?_)
                · have he := ih_f hc he
                  refine lv_iload_n hx hb d_SkeletonClockModel_pattern_247 rfl (lv_at hl 2 rfl) ?_
                  refine lv_istore_n hx hb d_SkeletonClockModel_pattern_248 rfl hl (by decide) rfl (fun ls hl => ?_)
                  have hl : lv_has ls 5 [(1, .int x1), (3, .int u1), (0, .ref a_t), (2, .int x2)] := hl
                  refine lv_iload_n hx hb d_SkeletonClockModel_pattern_249 rfl (lv_at hl 1 rfl) ?_
                  refine lv_bipush (v := (39 : Int32)) hx hb d_SkeletonClockModel_pattern_250 (by decide) ?_
                  refine lv_icmp_ne (tgt := 261) hx hb d_SkeletonClockModel_pattern_252 rfl (fun hc => ?_) (fun hc => ?_)
                  · have he := ih_f hc he
                    refine lv_iload_n hx hb d_SkeletonClockModel_pattern_261 rfl (lv_at hl 3 rfl) ?_
                    refine lv_iconst (v := (1 : Int32)) hx hb d_SkeletonClockModel_pattern_262 (by decide) ?_
                    refine lv_iadd hx hb d_SkeletonClockModel_pattern_263 ?_
                    refine lv_istore_n hx hb d_SkeletonClockModel_pattern_264 rfl hl (by decide) rfl (fun ls hl => ?_)
                    have hl : lv_has ls 5 [(2, .int (x2 + (1 : Int32))), (1, .int x1), (3, .int u1), (0, .ref a_t)] := hl
                    refine lv_goto (tgt := 12) hx hb d_SkeletonClockModel_pattern_265 rfl ?_
                    have hl : lv_has ls 5 [(0, .ref a_t), (1, .int x1), (2, .int (x2 + (1 : Int32)))] := lv_sub hl [3, 1, 0] rfl
                    exact ih _ _ _ _ _ _ _ _ _ _ _ _ he hl hP hD hS hret K
                  · have he := ih_t hc he
                    refine lv_iload_n hx hb d_SkeletonClockModel_pattern_255 rfl (lv_at hl 3 rfl) ?_
                    refine lv_iconst (v := (2 : Int32)) hx hb d_SkeletonClockModel_pattern_256 (by decide) ?_
                    refine lv_iadd hx hb d_SkeletonClockModel_pattern_257 ?_
                    refine lv_goto (tgt := 264) hx hb d_SkeletonClockModel_pattern_258 rfl ?_
                    refine lv_istore_n hx hb d_SkeletonClockModel_pattern_264 rfl hl (by decide) rfl (fun ls hl => ?_)
                    have hl : lv_has ls 5 [(2, .int (x2 + (2 : Int32))), (1, .int x1), (3, .int u1), (0, .ref a_t)] := hl
                    refine lv_goto (tgt := 12) hx hb d_SkeletonClockModel_pattern_265 rfl ?_
                    have hl : lv_has ls 5 [(0, .ref a_t), (1, .int x1), (2, .int (x2 + (2 : Int32)))] := lv_sub hl [3, 1, 0] rfl
                    exact ih _ _ _ _ _ _ _ _ _ _ _ _ he hl hP hD hS hret K
                · have he := ih_t hc he
                  refine lv_aload_n hx hb d_SkeletonClockModel_pattern_235 rfl (lv_at hl 1 rfl) ?_
                  refine k_get S X us_SkeletonClockModel hP 0 rfl rfl 10 (by decide) gm_4_161 rfl d_SkeletonClockModel_pattern_236 ?_
                  refine lv_bipush (v := (6 : Int32)) hx hb d_SkeletonClockModel_pattern_239 (by decide) ?_
                  refine va_iald hx hb X.1 hP 7 0 rfl rfl (show ¬ ((6 : Int32) < 0 ∨ 7 ≤ ((6 : Int32)).toNatClampNeg) by decide) d_SkeletonClockModel_pattern_241 ?_
                  refine lv_iconst (v := (1 : Int32)) hx hb d_SkeletonClockModel_pattern_242 (by decide) ?_
                  refine lv_isub hx hb d_SkeletonClockModel_pattern_243 ?_
                  refine lv_goto (tgt := 248) hx hb d_SkeletonClockModel_pattern_244 rfl ?_
                  refine lv_istore_n hx hb d_SkeletonClockModel_pattern_248 rfl hl (by decide) rfl (fun ls hl => ?_)
                  have hl : lv_has ls 5 [(1, .int ((u7.2.2.2.2.2.2 ((6 : Int32)).toNatClampNeg) - (1 : Int32))), (3, .int u1), (0, .ref a_t), (2, .int x2)] := hl
                  refine lv_iload_n hx hb d_SkeletonClockModel_pattern_249 rfl (lv_at hl 1 rfl) ?_
                  refine lv_bipush (v := (39 : Int32)) hx hb d_SkeletonClockModel_pattern_250 (by decide) ?_
                  refine lv_icmp_ne (tgt := 261) hx hb d_SkeletonClockModel_pattern_252 rfl (fun hc => ?_) (fun hc => ?_)
                  · have he := ih_f hc he
                    refine lv_iload_n hx hb d_SkeletonClockModel_pattern_261 rfl (lv_at hl 3 rfl) ?_
                    refine lv_iconst (v := (1 : Int32)) hx hb d_SkeletonClockModel_pattern_262 (by decide) ?_
                    refine lv_iadd hx hb d_SkeletonClockModel_pattern_263 ?_
                    refine lv_istore_n hx hb d_SkeletonClockModel_pattern_264 rfl hl (by decide) rfl (fun ls hl => ?_)
                    have hl : lv_has ls 5 [(2, .int (x2 + (1 : Int32))), (1, .int ((u7.2.2.2.2.2.2 ((6 : Int32)).toNatClampNeg) - (1 : Int32))), (3, .int u1), (0, .ref a_t)] := hl
                    refine lv_goto (tgt := 12) hx hb d_SkeletonClockModel_pattern_265 rfl ?_
                    have hl : lv_has ls 5 [(0, .ref a_t), (1, .int ((u7.2.2.2.2.2.2 ((6 : Int32)).toNatClampNeg) - (1 : Int32))), (2, .int (x2 + (1 : Int32)))] := lv_sub hl [3, 1, 0] rfl
                    exact ih _ _ _ _ _ _ _ _ _ _ _ _ he hl hP hD hS hret K
                  · have he := ih_t hc he
                    refine lv_iload_n hx hb d_SkeletonClockModel_pattern_255 rfl (lv_at hl 3 rfl) ?_
                    refine lv_iconst (v := (2 : Int32)) hx hb d_SkeletonClockModel_pattern_256 (by decide) ?_
                    refine lv_iadd hx hb d_SkeletonClockModel_pattern_257 ?_
                    refine lv_goto (tgt := 264) hx hb d_SkeletonClockModel_pattern_258 rfl ?_
                    refine lv_istore_n hx hb d_SkeletonClockModel_pattern_264 rfl hl (by decide) rfl (fun ls hl => ?_)
                    have hl : lv_has ls 5 [(2, .int (x2 + (2 : Int32))), (1, .int ((u7.2.2.2.2.2.2 ((6 : Int32)).toNatClampNeg) - (1 : Int32))), (3, .int u1), (0, .ref a_t)] := hl
                    refine lv_goto (tgt := 12) hx hb d_SkeletonClockModel_pattern_265 rfl ?_
                    have hl : lv_has ls 5 [(0, .ref a_t), (1, .int ((u7.2.2.2.2.2.2 ((6 : Int32)).toNatClampNeg) - (1 : Int32))), (2, .int (x2 + (2 : Int32)))] := lv_sub hl [3, 1, 0] rfl
                    exact ih _ _ _ _ _ _ _ _ _ _ _ _ he hl hP hD hS hret K
              · have he := ih_t hc he
                refine lv_iload_n hx hb d_SkeletonClockModel_pattern_227 rfl (lv_at hl 3 rfl) ?_
                cases he
                have hq := hret _ rfl
                subst hq
                exact k_ire hx hb hr hlk X hP hD hS d_SkeletonClockModel_pattern_228
          · have he := ih_t hc he
            refine lv_iload_n hx hb d_SkeletonClockModel_pattern_168 rfl (lv_at hl 2 rfl) ?_
            refine lv_if_ge (tgt := 174) hx hb d_SkeletonClockModel_pattern_169 rfl (fun hc => ?_) (fun hc => ?_)
            · have he := ih_t hc he
              refine lv_aload_n hx hb d_SkeletonClockModel_pattern_174 rfl (lv_at hl 1 rfl) ?_
              refine k_get S X us_SkeletonClockModel hP 0 rfl rfl 9 (by decide) gm_4_160 rfl d_SkeletonClockModel_pattern_175 ?_
              refine lv_bipush (v := (120 : Int32)) hx hb d_SkeletonClockModel_pattern_178 (by decide) ?_
              refine lv_iload_n hx hb d_SkeletonClockModel_pattern_180 rfl (lv_at hl 2 rfl) ?_
              refine lv_iadd hx hb d_SkeletonClockModel_pattern_181 ?_
              refine lv_aload_n hx hb d_SkeletonClockModel_pattern_182 rfl (lv_at hl 1 rfl) ?_
              refine k_get S X us_SkeletonClockModel hP 0 rfl rfl 10 (by decide) gm_4_161 rfl d_SkeletonClockModel_pattern_183 ?_
              refine lv_bipush (v := (6 : Int32)) hx hb d_SkeletonClockModel_pattern_186 (by decide) ?_
              refine va_iald hx hb X.1 hP 7 0 rfl rfl (show ¬ ((6 : Int32) < 0 ∨ 7 ≤ ((6 : Int32)).toNatClampNeg) by decide) d_SkeletonClockModel_pattern_188 ?_
              obtain ⟨hi9, he⟩ := ih_g he
              refine va_iast hx hb X.1 hP hD hS 6 0 rfl rfl hi9 d_SkeletonClockModel_pattern_189 (fun H locs hP hD hS => ?_)
              have hP : va_P D classes [(a_t, .inr (10, [.int t_length, .ref a_t_text, .int t_used, .ref a_t_page, .ref a_t_names, .ref a_t_sort, .ref a_t_code, .ref a_t_count, .ref a_t_around, .ref a_t_end, .ref a_t_size, .ref a_t_there, .ref a_t_wish, .ref a_t_have, .int t_far, .int t_momentParts, .long t_momentDay, .int t_momentSecond, .int t_momentNano, .int t_momentOffset, .int t_readParts, .long t_readDay, .int t_readSecond, .int t_readNano, .int t_readOffset, .ref a_t_known, .ref a_t_value, .ref a_t_before, .ref a_t_open, .ref a_t_from, .int t_alike])), (a_t_text, .inl (kk 1, 60, .inl t_text)), (a_t_sort, .inl (kk 0, 140, .inl t_sort)), (a_t_code, .inl (kk 0, 140, .inl t_code)), (a_t_count, .inl (kk 0, 140, .inl t_count)), (a_t_around, .inl (kk 0, 140, .inl t_around)), (a_t_end, .inl (kk 0, 140, .inl (upd t_end (((120 : Int32) + x1)).toNatClampNeg (t_size ((6 : Int32)).toNatClampNeg)))), (a_t_size, .inl (kk 0, 7, .inl t_size))] H := hP
              have hD : va_D A [(a_t, .inr (10, [.int t_length, .ref a_t_text, .int t_used, .ref a_t_page, .ref a_t_names, .ref a_t_sort, .ref a_t_code, .ref a_t_count, .ref a_t_around, .ref a_t_end, .ref a_t_size, .ref a_t_there, .ref a_t_wish, .ref a_t_have, .int t_far, .int t_momentParts, .long t_momentDay, .int t_momentSecond, .int t_momentNano, .int t_momentOffset, .int t_readParts, .long t_readDay, .int t_readSecond, .int t_readNano, .int t_readOffset, .ref a_t_known, .ref a_t_value, .ref a_t_before, .ref a_t_open, .ref a_t_from, .int t_alike])), (a_t_text, .inl (kk 1, 60, .inl t_text)), (a_t_sort, .inl (kk 0, 140, .inl t_sort)), (a_t_code, .inl (kk 0, 140, .inl t_code)), (a_t_count, .inl (kk 0, 140, .inl t_count)), (a_t_around, .inl (kk 0, 140, .inl t_around)), (a_t_end, .inl (kk 0, 140, .inl (upd t_end (((120 : Int32) + x1)).toNatClampNeg (t_size ((6 : Int32)).toNatClampNeg)))), (a_t_size, .inl (kk 0, 7, .inl t_size))] := hD
              refine lv_aload_n hx hb d_SkeletonClockModel_pattern_190 rfl (lv_at hl 1 rfl) ?_
              refine k_get S X us_SkeletonClockModel hP 0 rfl rfl 8 (by decide) gm_4_159 rfl d_SkeletonClockModel_pattern_191 ?_
              refine lv_bipush (v := (120 : Int32)) hx hb d_SkeletonClockModel_pattern_194 (by decide) ?_
              refine lv_iload_n hx hb d_SkeletonClockModel_pattern_196 rfl (lv_at hl 2 rfl) ?_
              refine lv_iadd hx hb d_SkeletonClockModel_pattern_197 ?_
              obtain ⟨hi10, he⟩ := ih_g he
              refine va_iald hx hb X.1 hP 5 0 rfl rfl hi10 d_SkeletonClockModel_pattern_198 ?_
              refine lv_istore_n hx hb d_SkeletonClockModel_pattern_199 rfl hl (by decide) rfl (fun ls hl => ?_)
              have hl : lv_has ls 5 [(1, .int (t_around (((120 : Int32) + x1)).toNatClampNeg)), (3, .int u1), (0, .ref a_t), (2, .int x2)] := hl
              refine lv_iinc (k := 3) hx hb d_SkeletonClockModel_pattern_200 hl rfl (ii_ (v := (1 : Int32)) (by decide)) (by decide) rfl (fun ls hl => ?_)
              have hl : lv_has ls 5 [(2, .int (x2 + (1 : Int32))), (1, .int (t_around (((120 : Int32) + x1)).toNatClampNeg)), (3, .int u1), (0, .ref a_t)] := hl
              refine lv_goto (tgt := 265) hx hb d_SkeletonClockModel_pattern_203 rfl ?_
              refine lv_goto (tgt := 12) hx hb d_SkeletonClockModel_pattern_265 rfl ?_
              have hl : lv_has ls 5 [(0, .ref a_t), (1, .int (t_around (((120 : Int32) + x1)).toNatClampNeg)), (2, .int (x2 + (1 : Int32)))] := lv_sub hl [3, 1, 0] rfl
              exact ih _ _ _ _ _ _ _ _ _ _ _ _ he hl hP hD hS hret K
            · have he := ih_f hc he
              refine lv_iload_n hx hb d_SkeletonClockModel_pattern_172 rfl (lv_at hl 3 rfl) ?_
              cases he
              have hq := hret _ rfl
              subst hq
              exact k_ire hx hb hr hlk X hP hD hS d_SkeletonClockModel_pattern_173
        · have he := ih_t hc he
          refine lv_aload_n hx hb d_SkeletonClockModel_pattern_78 rfl (lv_at hl 1 rfl) ?_
          refine lv_iload_n hx hb d_SkeletonClockModel_pattern_79 rfl (lv_at hl 3 rfl) ?_
          refine lv_iconst (v := (1 : Int32)) hx hb d_SkeletonClockModel_pattern_80 (by decide) ?_
          refine lv_iadd hx hb d_SkeletonClockModel_pattern_81 ?_
          obtain ⟨u11, e12, he⟩ := ih_b he
          refine k_io (r_V (As := [.int (x2 + (1 : Int32))]) S X hA hP hD hS (c_SkeletonClockModel_at l D kk st a_t a_t_text a_t_page a_t_names a_t_sort a_t_code a_t_count a_t_around a_t_end a_t_size a_t_there a_t_wish a_t_have a_t_known a_t_value a_t_before a_t_open a_t_from _ t_length t_used t_far t_momentParts t_momentDay t_momentSecond t_momentNano t_momentOffset t_readParts t_readDay t_readSecond t_readNano t_readOffset t_alike t_text (x2 + (1 : Int32)) u11 e12) gm_5_21 gm_5_18 gm_5_20 gm_p3_0 gm_1_13 ⟨rfl, rfl, by decide, by decide⟩ kd_SkeletonClockModel_at [0, 1] rfl rfl rfl 0 10 rfl rfl rfl rfl hl.1 rfl (Nat.le_of_ble_eq_true rfl) d_SkeletonClockModel_pattern_82 ⟨Nat.zero_le _, Nat.zero_le _⟩) hA hP hD hS [0, 1] rfl (fun H locs hP hS => ?_)
          refine lv_bipush (v := (39 : Int32)) hx hb d_SkeletonClockModel_pattern_85 (by decide) ?_
          refine lv_icmp_eq (tgt := 162) hx hb d_SkeletonClockModel_pattern_87 rfl (fun hc => ?_) (fun hc => ?_)
          · have he := ih_t hc he
            refine lv_iload_n hx hb d_SkeletonClockModel_pattern_162 rfl (lv_at hl 0 rfl) ?_
            refine lv_bipush (v := (93 : Int32)) hx hb d_SkeletonClockModel_pattern_163 (by decide) ?_
            refine lv_icmp_ne (tgt := 206) hx hb d_SkeletonClockModel_pattern_165 rfl (fun hc => ?_) (fun hc => ?_)
            · have he := ih_f hc he
              refine lv_aload_n hx hb d_SkeletonClockModel_pattern_206 rfl (lv_at hl 1 rfl) ?_
              refine lv_iload_n hx hb d_SkeletonClockModel_pattern_207 rfl (lv_at hl 0 rfl) ?_
              refine lv_bipush (v := (91 : Int32)) hx hb d_SkeletonClockModel_pattern_208 (by decide) ?_
              refine lv_icmp_ne (tgt := 217) hx hb d_SkeletonClockModel_pattern_210 rfl (fun hc => ?_) (fun hc => ?_)
              · have he := ih_f hc he
                refine lv_iconst (v := (0 : Int32)) hx hb d_SkeletonClockModel_pattern_217 (by decide) ?_
                refine lv_iload_n hx hb d_SkeletonClockModel_pattern_218 rfl (lv_at hl 0 rfl) ?_
                refine lv_iconst (v := (0 : Int32)) hx hb d_SkeletonClockModel_pattern_219 (by decide) ?_
                refine lv_iload_n hx hb d_SkeletonClockModel_pattern_220 rfl (lv_at hl 2 rfl) ?_
                obtain ⟨u13, e14, he⟩ := ih_b he
                refine k_i (wr := [(a_t_text, .inl (kk 1, 60, .inl t_text))]) (w1 := [(a_t, .inr (10, [.int t_length, .ref a_t_text, .int t_used, .ref a_t_page, .ref a_t_names, .ref a_t_sort, .ref a_t_code, .ref a_t_count, .ref a_t_around, .ref a_t_end, .ref a_t_size, .ref a_t_there, .ref a_t_wish, .ref a_t_have, .int t_far, .int t_momentParts, .long t_momentDay, .int t_momentSecond, .int t_momentNano, .int t_momentOffset, .int t_readParts, .long t_readDay, .int t_readSecond, .int t_readNano, .int t_readOffset, .ref a_t_known, .ref a_t_value, .ref a_t_before, .ref a_t_open, .ref a_t_from, .int t_alike])), (a_t_sort, .inl (kk 0, 140, .inl u13.2.1)), (a_t_code, .inl (kk 0, 140, .inl u13.2.2.1)), (a_t_count, .inl (kk 0, 140, .inl u13.2.2.2.1)), (a_t_around, .inl (kk 0, 140, .inl u13.2.2.2.2.1)), (a_t_end, .inl (kk 0, 140, .inl u13.2.2.2.2.2.1)), (a_t_size, .inl (kk 0, 7, .inl u13.2.2.2.2.2.2))]) (w2 := [(a_t, .inr (10, [.int t_length, .ref a_t_text, .int t_used, .ref a_t_page, .ref a_t_names, .ref a_t_sort, .ref a_t_code, .ref a_t_count, .ref a_t_around, .ref a_t_end, .ref a_t_size, .ref a_t_there, .ref a_t_wish, .ref a_t_have, .int t_far, .int t_momentParts, .long t_momentDay, .int t_momentSecond, .int t_momentNano, .int t_momentOffset, .int t_readParts, .long t_readDay, .int t_readSecond, .int t_readNano, .int t_readOffset, .ref a_t_known, .ref a_t_value, .ref a_t_before, .ref a_t_open, .ref a_t_from, .int t_alike])), (a_t_text, .inl (kk 1, 60, .inl t_text)), (a_t_sort, .inl (kk 0, 140, .inl u13.2.1)), (a_t_code, .inl (kk 0, 140, .inl u13.2.2.1)), (a_t_count, .inl (kk 0, 140, .inl u13.2.2.2.1)), (a_t_around, .inl (kk 0, 140, .inl u13.2.2.2.2.1)), (a_t_end, .inl (kk 0, 140, .inl u13.2.2.2.2.2.1)), (a_t_size, .inl (kk 0, 7, .inl u13.2.2.2.2.2.2))]) (r_V (As := [.int (0 : Int32), .int u1, .int (0 : Int32), .int x1]) S X hA hP hD hS (c_SkeletonClockModel_piece l D kk st a_t a_t_sort a_t_code a_t_count a_t_around a_t_end a_t_size a_t_text a_t_page a_t_names a_t_there a_t_wish a_t_have a_t_known a_t_value a_t_before a_t_open a_t_from _ t_length t_used t_far t_momentParts t_momentDay t_momentSecond t_momentNano t_momentOffset t_readParts t_readDay t_readSecond t_readNano t_readOffset t_alike t_sort t_code t_count t_around t_end t_size (0 : Int32) u1 (0 : Int32) x1 u13 e14) gm_5_39 gm_5_36 gm_5_38 gm_p3_3 gm_1_13 ⟨rfl, rfl, by decide, by decide⟩ kd_SkeletonClockModel_piece [0, 2, 3, 4, 5, 6, 7] rfl rfl rfl 0 10 rfl rfl rfl rfl hl.1 rfl (Nat.le_of_ble_eq_true rfl) d_SkeletonClockModel_pattern_221 ⟨Nat.zero_le _, Nat.zero_le _⟩) hA hP hD hS [0, 2, 3, 4, 5, 6, 7] [1] [1, 0, 2, 3, 4, 5, 6, 7] rfl rfl rfl (by decide) rfl rfl rfl (fun H locs hP hD hS => ?_)
                refine lv_if_ne (tgt := 229) hx hb d_SkeletonClockModel_pattern_224 rfl (fun hc => ?_) (fun hc => ?_)
                · have he := ih_f hc he
                  refine lv_iload_n hx hb d_SkeletonClockModel_pattern_229 rfl (lv_at hl 0 rfl) ?_
                  refine lv_bipush (v := (91 : Int32)) hx hb d_SkeletonClockModel_pattern_230 (by decide) ?_
                  refine lv_icmp_ne (tgt := 247) hx hb d_SkeletonClockModel_pattern_232 rfl (fun hc => ?_) (fun hc => ?_)
                  · have he := ih_f hc he
                    refine lv_iload_n hx hb d_SkeletonClockModel_pattern_247 rfl (lv_at hl 2 rfl) ?_
                    refine lv_istore_n hx hb d_SkeletonClockModel_pattern_248 rfl hl (by decide) rfl (fun ls hl => ?_)
                    have hl : lv_has ls 5 [(1, .int x1), (3, .int u1), (0, .ref a_t), (2, .int x2)] := hl
                    refine lv_iload_n hx hb d_SkeletonClockModel_pattern_249 rfl (lv_at hl 1 rfl) ?_
                    refine lv_bipush (v := (39 : Int32)) hx hb d_SkeletonClockModel_pattern_250 (by decide) ?_
                    refine lv_icmp_ne (tgt := 261) hx hb d_SkeletonClockModel_pattern_252 rfl (fun hc => ?_) (fun hc => ?_)
                    · have he := ih_f hc he
                      refine lv_iload_n hx hb d_SkeletonClockModel_pattern_261 rfl (lv_at hl 3 rfl) ?_
                      refine lv_iconst (v := (1 : Int32)) hx hb d_SkeletonClockModel_pattern_262 (by decide) ?_
                      refine lv_iadd hx hb d_SkeletonClockModel_pattern_263 ?_
                      refine lv_istore_n hx hb d_SkeletonClockModel_pattern_264 rfl hl (by decide) rfl (fun ls hl => ?_)
                      have hl : lv_has ls 5 [(2, .int (x2 + (1 : Int32))), (1, .int x1), (3, .int u1), (0, .ref a_t)] := hl
                      refine lv_goto (tgt := 12) hx hb d_SkeletonClockModel_pattern_265 rfl ?_
                      have hl : lv_has ls 5 [(0, .ref a_t), (1, .int x1), (2, .int (x2 + (1 : Int32)))] := lv_sub hl [3, 1, 0] rfl
                      exact ih _ _ _ _ _ _ _ _ _ _ _ _ he hl hP hD hS hret K
                    · have he := ih_t hc he
                      refine lv_iload_n hx hb d_SkeletonClockModel_pattern_255 rfl (lv_at hl 3 rfl) ?_
                      refine lv_iconst (v := (2 : Int32)) hx hb d_SkeletonClockModel_pattern_256 (by decide) ?_
                      refine lv_iadd hx hb d_SkeletonClockModel_pattern_257 ?_
                      refine lv_goto (tgt := 264) hx hb d_SkeletonClockModel_pattern_258 rfl ?_
                      refine lv_istore_n hx hb d_SkeletonClockModel_pattern_264 rfl hl (by decide) rfl (fun ls hl => ?_)
                      have hl : lv_has ls 5 [(2, .int (x2 + (2 : Int32))), (1, .int x1), (3, .int u1), (0, .ref a_t)] := hl
                      refine lv_goto (tgt := 12) hx hb d_SkeletonClockModel_pattern_265 rfl ?_
                      have hl : lv_has ls 5 [(0, .ref a_t), (1, .int x1), (2, .int (x2 + (2 : Int32)))] := lv_sub hl [3, 1, 0] rfl
                      exact ih _ _ _ _ _ _ _ _ _ _ _ _ he hl hP hD hS hret K
                  · have he := ih_t hc he
                    refine lv_aload_n hx hb d_SkeletonClockModel_pattern_235 rfl (lv_at hl 1 rfl) ?_
                    refine k_get S X us_SkeletonClockModel hP 0 rfl rfl 10 (by decide) gm_4_161 rfl d_SkeletonClockModel_pattern_236 ?_
                    refine lv_bipush (v := (6 : Int32)) hx hb d_SkeletonClockModel_pattern_239 (by decide) ?_
                    refine va_iald hx hb X.1 hP 7 0 rfl rfl (show ¬ ((6 : Int32) < 0 ∨ 7 ≤ ((6 : Int32)).toNatClampNeg) by decide) d_SkeletonClockModel_pattern_241 ?_
                    refine lv_iconst (v := (1 : Int32)) hx hb d_SkeletonClockModel_pattern_242 (by decide) ?_
                    refine lv_isub hx hb d_SkeletonClockModel_pattern_243 ?_
                    refine lv_goto (tgt := 248) hx hb d_SkeletonClockModel_pattern_244 rfl ?_
                    refine lv_istore_n hx hb d_SkeletonClockModel_pattern_248 rfl hl (by decide) rfl (fun ls hl => ?_)
                    have hl : lv_has ls 5 [(1, .int ((u13.2.2.2.2.2.2 ((6 : Int32)).toNatClampNeg) - (1 : Int32))), (3, .int u1), (0, .ref a_t), (2, .int x2)] := hl
                    refine lv_iload_n hx hb d_SkeletonClockModel_pattern_249 rfl (lv_at hl 1 rfl) ?_
                    refine lv_bipush (v := (39 : Int32)) hx hb d_SkeletonClockModel_pattern_250 (by decide) ?_
                    refine lv_icmp_ne (tgt := 261) hx hb d_SkeletonClockModel_pattern_252 rfl (fun hc => ?_) (fun hc => ?_)
                    · have he := ih_f hc he
                      refine lv_iload_n hx hb d_SkeletonClockModel_pattern_261 rfl (lv_at hl 3 rfl) ?_
                      refine lv_iconst (v := (1 : Int32)) hx hb d_SkeletonClockModel_pattern_262 (by decide) ?_
                      refine lv_iadd hx hb d_SkeletonClockModel_pattern_263 ?_
                      refine lv_istore_n hx hb d_SkeletonClockModel_pattern_264 rfl hl (by decide) rfl (fun ls hl => ?_)
                      have hl : lv_has ls 5 [(2, .int (x2 + (1 : Int32))), (1, .int ((u13.2.2.2.2.2.2 ((6 : Int32)).toNatClampNeg) - (1 : Int32))), (3, .int u1), (0, .ref a_t)] := hl
                      refine lv_goto (tgt := 12) hx hb d_SkeletonClockModel_pattern_265 rfl ?_
                      have hl : lv_has ls 5 [(0, .ref a_t), (1, .int ((u13.2.2.2.2.2.2 ((6 : Int32)).toNatClampNeg) - (1 : Int32))), (2, .int (x2 + (1 : Int32)))] := lv_sub hl [3, 1, 0] rfl
                      exact ih _ _ _ _ _ _ _ _ _ _ _ _ he hl hP hD hS hret K
                    · have he := ih_t hc he
                      refine lv_iload_n hx hb d_SkeletonClockModel_pattern_255 rfl (lv_at hl 3 rfl) ?_
                      refine lv_iconst (v := (2 : Int32)) hx hb d_SkeletonClockModel_pattern_256 (by decide) ?_
                      refine lv_iadd hx hb d_SkeletonClockModel_pattern_257 ?_
                      refine lv_goto (tgt := 264) hx hb d_SkeletonClockModel_pattern_258 rfl ?_
                      refine lv_istore_n hx hb d_SkeletonClockModel_pattern_264 rfl hl (by decide) rfl (fun ls hl => ?_)
                      have hl : lv_has ls 5 [(2, .int (x2 + (2 : Int32))), (1, .int ((u13.2.2.2.2.2.2 ((6 : Int32)).toNatClampNeg) - (1 : Int32))), (3, .int u1), (0, .ref a_t)] := hl
                      refine lv_goto (tgt := 12) hx hb d_SkeletonClockModel_pattern_265 rfl ?_
                      have hl : lv_has ls 5 [(0, .ref a_t), (1, .int ((u13.2.2.2.2.2.2 ((6 : Int32)).toNatClampNeg) - (1 : Int32))), (2, .int (x2 + (2 : Int32)))] := lv_sub hl [3, 1, 0] rfl
                      exact ih _ _ _ _ _ _ _ _ _ _ _ _ he hl hP hD hS hret K
                · have he := ih_t hc he
                  refine lv_iload_n hx hb d_SkeletonClockModel_pattern_227 rfl (lv_at hl 3 rfl) ?_
                  cases he
                  have hq := hret _ rfl
                  subst hq
                  exact k_ire hx hb hr hlk X hP hD hS d_SkeletonClockModel_pattern_228
              · have he := ih_t hc he
                refine lv_iconst (v := (2 : Int32)) hx hb d_SkeletonClockModel_pattern_213 (by decide) ?_
                refine lv_goto (tgt := 218) hx hb d_SkeletonClockModel_pattern_214 rfl ?_
                refine lv_iload_n hx hb d_SkeletonClockModel_pattern_218 rfl (lv_at hl 0 rfl) ?_
                refine lv_iconst (v := (0 : Int32)) hx hb d_SkeletonClockModel_pattern_219 (by decide) ?_
                refine lv_iload_n hx hb d_SkeletonClockModel_pattern_220 rfl (lv_at hl 2 rfl) ?_
                obtain ⟨u15, e16, he⟩ := ih_b he
                refine k_i (wr := [(a_t_text, .inl (kk 1, 60, .inl t_text))]) (w1 := [(a_t, .inr (10, [.int t_length, .ref a_t_text, .int t_used, .ref a_t_page, .ref a_t_names, .ref a_t_sort, .ref a_t_code, .ref a_t_count, .ref a_t_around, .ref a_t_end, .ref a_t_size, .ref a_t_there, .ref a_t_wish, .ref a_t_have, .int t_far, .int t_momentParts, .long t_momentDay, .int t_momentSecond, .int t_momentNano, .int t_momentOffset, .int t_readParts, .long t_readDay, .int t_readSecond, .int t_readNano, .int t_readOffset, .ref a_t_known, .ref a_t_value, .ref a_t_before, .ref a_t_open, .ref a_t_from, .int t_alike])), (a_t_sort, .inl (kk 0, 140, .inl u15.2.1)), (a_t_code, .inl (kk 0, 140, .inl u15.2.2.1)), (a_t_count, .inl (kk 0, 140, .inl u15.2.2.2.1)), (a_t_around, .inl (kk 0, 140, .inl u15.2.2.2.2.1)), (a_t_end, .inl (kk 0, 140, .inl u15.2.2.2.2.2.1)), (a_t_size, .inl (kk 0, 7, .inl u15.2.2.2.2.2.2))]) (w2 := [(a_t, .inr (10, [.int t_length, .ref a_t_text, .int t_used, .ref a_t_page, .ref a_t_names, .ref a_t_sort, .ref a_t_code, .ref a_t_count, .ref a_t_around, .ref a_t_end, .ref a_t_size, .ref a_t_there, .ref a_t_wish, .ref a_t_have, .int t_far, .int t_momentParts, .long t_momentDay, .int t_momentSecond, .int t_momentNano, .int t_momentOffset, .int t_readParts, .long t_readDay, .int t_readSecond, .int t_readNano, .int t_readOffset, .ref a_t_known, .ref a_t_value, .ref a_t_before, .ref a_t_open, .ref a_t_from, .int t_alike])), (a_t_text, .inl (kk 1, 60, .inl t_text)), (a_t_sort, .inl (kk 0, 140, .inl u15.2.1)), (a_t_code, .inl (kk 0, 140, .inl u15.2.2.1)), (a_t_count, .inl (kk 0, 140, .inl u15.2.2.2.1)), (a_t_around, .inl (kk 0, 140, .inl u15.2.2.2.2.1)), (a_t_end, .inl (kk 0, 140, .inl u15.2.2.2.2.2.1)), (a_t_size, .inl (kk 0, 7, .inl u15.2.2.2.2.2.2))]) (r_V (As := [.int (2 : Int32), .int u1, .int (0 : Int32), .int x1]) S X hA hP hD hS (c_SkeletonClockModel_piece l D kk st a_t a_t_sort a_t_code a_t_count a_t_around a_t_end a_t_size a_t_text a_t_page a_t_names a_t_there a_t_wish a_t_have a_t_known a_t_value a_t_before a_t_open a_t_from _ t_length t_used t_far t_momentParts t_momentDay t_momentSecond t_momentNano t_momentOffset t_readParts t_readDay t_readSecond t_readNano t_readOffset t_alike t_sort t_code t_count t_around t_end t_size (2 : Int32) u1 (0 : Int32) x1 u15 e16) gm_5_39 gm_5_36 gm_5_38 gm_p3_3 gm_1_13 ⟨rfl, rfl, by decide, by decide⟩ kd_SkeletonClockModel_piece [0, 2, 3, 4, 5, 6, 7] rfl rfl rfl 0 10 rfl rfl rfl rfl hl.1 rfl (Nat.le_of_ble_eq_true rfl) d_SkeletonClockModel_pattern_221 ⟨Nat.zero_le _, Nat.zero_le _⟩) hA hP hD hS [0, 2, 3, 4, 5, 6, 7] [1] [1, 0, 2, 3, 4, 5, 6, 7] rfl rfl rfl (by decide) rfl rfl rfl (fun H locs hP hD hS => ?_)
                refine lv_if_ne (tgt := 229) hx hb d_SkeletonClockModel_pattern_224 rfl (fun hc => ?_) (fun hc => ?_)
                · have he := ih_f hc he
                  refine lv_iload_n hx hb d_SkeletonClockModel_pattern_229 rfl (lv_at hl 0 rfl) ?_
                  refine lv_bipush (v := (91 : Int32)) hx hb d_SkeletonClockModel_pattern_230 (by decide) ?_
                  refine lv_icmp_ne (tgt := 247) hx hb d_SkeletonClockModel_pattern_232 rfl (fun hc => ?_) (fun hc => ?_)
                  · have he := ih_f hc he
                    refine lv_iload_n hx hb d_SkeletonClockModel_pattern_247 rfl (lv_at hl 2 rfl) ?_
                    refine lv_istore_n hx hb d_SkeletonClockModel_pattern_248 rfl hl (by decide) rfl (fun ls hl => ?_)
                    have hl : lv_has ls 5 [(1, .int x1), (3, .int u1), (0, .ref a_t), (2, .int x2)] := hl
                    refine lv_iload_n hx hb d_SkeletonClockModel_pattern_249 rfl (lv_at hl 1 rfl) ?_
                    refine lv_bipush (v := (39 : Int32)) hx hb d_SkeletonClockModel_pattern_250 (by decide) ?_
                    refine lv_icmp_ne (tgt := 261) hx hb d_SkeletonClockModel_pattern_252 rfl (fun hc => ?_) (fun hc => ?_)
                    · have he := ih_f hc he
                      refine lv_iload_n hx hb d_SkeletonClockModel_pattern_261 rfl (lv_at hl 3 rfl) ?_
                      refine lv_iconst (v := (1 : Int32)) hx hb d_SkeletonClockModel_pattern_262 (by decide) ?_
                      refine lv_iadd hx hb d_SkeletonClockModel_pattern_263 ?_
                      refine lv_istore_n hx hb d_SkeletonClockModel_pattern_264 rfl hl (by decide) rfl (fun ls hl => ?_)
                      have hl : lv_has ls 5 [(2, .int (x2 + (1 : Int32))), (1, .int x1), (3, .int u1), (0, .ref a_t)] := hl
                      refine lv_goto (tgt := 12) hx hb d_SkeletonClockModel_pattern_265 rfl ?_
                      have hl : lv_has ls 5 [(0, .ref a_t), (1, .int x1), (2, .int (x2 + (1 : Int32)))] := lv_sub hl [3, 1, 0] rfl
                      exact ih _ _ _ _ _ _ _ _ _ _ _ _ he hl hP hD hS hret K
                    · have he := ih_t hc he
                      refine lv_iload_n hx hb d_SkeletonClockModel_pattern_255 rfl (lv_at hl 3 rfl) ?_
                      refine lv_iconst (v := (2 : Int32)) hx hb d_SkeletonClockModel_pattern_256 (by decide) ?_
                      refine lv_iadd hx hb d_SkeletonClockModel_pattern_257 ?_
                      refine lv_goto (tgt := 264) hx hb d_SkeletonClockModel_pattern_258 rfl ?_
                      refine lv_istore_n hx hb d_SkeletonClockModel_pattern_264 rfl hl (by decide) rfl (fun ls hl => ?_)
                      have hl : lv_has ls 5 [(2, .int (x2 + (2 : Int32))), (1, .int x1), (3, .int u1), (0, .ref a_t)] := hl
                      refine lv_goto (tgt := 12) hx hb d_SkeletonClockModel_pattern_265 rfl ?_
                      have hl : lv_has ls 5 [(0, .ref a_t), (1, .int x1), (2, .int (x2 + (2 : Int32)))] := lv_sub hl [3, 1, 0] rfl
                      exact ih _ _ _ _ _ _ _ _ _ _ _ _ he hl hP hD hS hret K
                  · have he := ih_t hc he
                    refine lv_aload_n hx hb d_SkeletonClockModel_pattern_235 rfl (lv_at hl 1 rfl) ?_
                    refine k_get S X us_SkeletonClockModel hP 0 rfl rfl 10 (by decide) gm_4_161 rfl d_SkeletonClockModel_pattern_236 ?_
                    refine lv_bipush (v := (6 : Int32)) hx hb d_SkeletonClockModel_pattern_239 (by decide) ?_
                    refine va_iald hx hb X.1 hP 7 0 rfl rfl (show ¬ ((6 : Int32) < 0 ∨ 7 ≤ ((6 : Int32)).toNatClampNeg) by decide) d_SkeletonClockModel_pattern_241 ?_
                    refine lv_iconst (v := (1 : Int32)) hx hb d_SkeletonClockModel_pattern_242 (by decide) ?_
                    refine lv_isub hx hb d_SkeletonClockModel_pattern_243 ?_
                    refine lv_goto (tgt := 248) hx hb d_SkeletonClockModel_pattern_244 rfl ?_
                    refine lv_istore_n hx hb d_SkeletonClockModel_pattern_248 rfl hl (by decide) rfl (fun ls hl => ?_)
                    have hl : lv_has ls 5 [(1, .int ((u15.2.2.2.2.2.2 ((6 : Int32)).toNatClampNeg) - (1 : Int32))), (3, .int u1), (0, .ref a_t), (2, .int x2)] := hl
                    refine lv_iload_n hx hb d_SkeletonClockModel_pattern_249 rfl (lv_at hl 1 rfl) ?_
                    refine lv_bipush (v := (39 : Int32)) hx hb d_SkeletonClockModel_pattern_250 (by decide) ?_
                    refine lv_icmp_ne (tgt := 261) hx hb d_SkeletonClockModel_pattern_252 rfl (fun hc => ?_) (fun hc => ?_)
                    · have he := ih_f hc he
                      refine lv_iload_n hx hb d_SkeletonClockModel_pattern_261 rfl (lv_at hl 3 rfl) ?_
                      refine lv_iconst (v := (1 : Int32)) hx hb d_SkeletonClockModel_pattern_262 (by decide) ?_
                      refine lv_iadd hx hb d_SkeletonClockModel_pattern_263 ?_
                      refine lv_istore_n hx hb d_SkeletonClockModel_pattern_264 rfl hl (by decide) rfl (fun ls hl => ?_)
                      have hl : lv_has ls 5 [(2, .int (x2 + (1 : Int32))), (1, .int ((u15.2.2.2.2.2.2 ((6 : Int32)).toNatClampNeg) - (1 : Int32))), (3, .int u1), (0, .ref a_t)] := hl
                      refine lv_goto (tgt := 12) hx hb d_SkeletonClockModel_pattern_265 rfl ?_
                      have hl : lv_has ls 5 [(0, .ref a_t), (1, .int ((u15.2.2.2.2.2.2 ((6 : Int32)).toNatClampNeg) - (1 : Int32))), (2, .int (x2 + (1 : Int32)))] := lv_sub hl [3, 1, 0] rfl
                      exact ih _ _ _ _ _ _ _ _ _ _ _ _ he hl hP hD hS hret K
                    · have he := ih_t hc he
                      refine lv_iload_n hx hb d_SkeletonClockModel_pattern_255 rfl (lv_at hl 3 rfl) ?_
                      refine lv_iconst (v := (2 : Int32)) hx hb d_SkeletonClockModel_pattern_256 (by decide) ?_
                      refine lv_iadd hx hb d_SkeletonClockModel_pattern_257 ?_
                      refine lv_goto (tgt := 264) hx hb d_SkeletonClockModel_pattern_258 rfl ?_
                      refine lv_istore_n hx hb d_SkeletonClockModel_pattern_264 rfl hl (by decide) rfl (fun ls hl => ?_)
                      have hl : lv_has ls 5 [(2, .int (x2 + (2 : Int32))), (1, .int ((u15.2.2.2.2.2.2 ((6 : Int32)).toNatClampNeg) - (1 : Int32))), (3, .int u1), (0, .ref a_t)] := hl
                      refine lv_goto (tgt := 12) hx hb d_SkeletonClockModel_pattern_265 rfl ?_
                      have hl : lv_has ls 5 [(0, .ref a_t), (1, .int ((u15.2.2.2.2.2.2 ((6 : Int32)).toNatClampNeg) - (1 : Int32))), (2, .int (x2 + (2 : Int32)))] := lv_sub hl [3, 1, 0] rfl
                      exact ih _ _ _ _ _ _ _ _ _ _ _ _ he hl hP hD hS hret K
                · have he := ih_t hc he
                  refine lv_iload_n hx hb d_SkeletonClockModel_pattern_227 rfl (lv_at hl 3 rfl) ?_
                  cases he
                  have hq := hret _ rfl
                  subst hq
                  exact k_ire hx hb hr hlk X hP hD hS d_SkeletonClockModel_pattern_228
            · have he := ih_t hc he
              refine lv_iload_n hx hb d_SkeletonClockModel_pattern_168 rfl (lv_at hl 2 rfl) ?_
              refine lv_if_ge (tgt := 174) hx hb d_SkeletonClockModel_pattern_169 rfl (fun hc => ?_) (fun hc => ?_)
              · have he := ih_t hc he
                refine lv_aload_n hx hb d_SkeletonClockModel_pattern_174 rfl (lv_at hl 1 rfl) ?_
                refine k_get S X us_SkeletonClockModel hP 0 rfl rfl 9 (by decide) gm_4_160 rfl d_SkeletonClockModel_pattern_175 ?_
                refine lv_bipush (v := (120 : Int32)) hx hb d_SkeletonClockModel_pattern_178 (by decide) ?_
                refine lv_iload_n hx hb d_SkeletonClockModel_pattern_180 rfl (lv_at hl 2 rfl) ?_
                refine lv_iadd hx hb d_SkeletonClockModel_pattern_181 ?_
                refine lv_aload_n hx hb d_SkeletonClockModel_pattern_182 rfl (lv_at hl 1 rfl) ?_
                refine k_get S X us_SkeletonClockModel hP 0 rfl rfl 10 (by decide) gm_4_161 rfl d_SkeletonClockModel_pattern_183 ?_
                refine lv_bipush (v := (6 : Int32)) hx hb d_SkeletonClockModel_pattern_186 (by decide) ?_
                refine va_iald hx hb X.1 hP 7 0 rfl rfl (show ¬ ((6 : Int32) < 0 ∨ 7 ≤ ((6 : Int32)).toNatClampNeg) by decide) d_SkeletonClockModel_pattern_188 ?_
                obtain ⟨hi17, he⟩ := ih_g he
                refine va_iast hx hb X.1 hP hD hS 6 0 rfl rfl hi17 d_SkeletonClockModel_pattern_189 (fun H locs hP hD hS => ?_)
                have hP : va_P D classes [(a_t, .inr (10, [.int t_length, .ref a_t_text, .int t_used, .ref a_t_page, .ref a_t_names, .ref a_t_sort, .ref a_t_code, .ref a_t_count, .ref a_t_around, .ref a_t_end, .ref a_t_size, .ref a_t_there, .ref a_t_wish, .ref a_t_have, .int t_far, .int t_momentParts, .long t_momentDay, .int t_momentSecond, .int t_momentNano, .int t_momentOffset, .int t_readParts, .long t_readDay, .int t_readSecond, .int t_readNano, .int t_readOffset, .ref a_t_known, .ref a_t_value, .ref a_t_before, .ref a_t_open, .ref a_t_from, .int t_alike])), (a_t_text, .inl (kk 1, 60, .inl t_text)), (a_t_sort, .inl (kk 0, 140, .inl t_sort)), (a_t_code, .inl (kk 0, 140, .inl t_code)), (a_t_count, .inl (kk 0, 140, .inl t_count)), (a_t_around, .inl (kk 0, 140, .inl t_around)), (a_t_end, .inl (kk 0, 140, .inl (upd t_end (((120 : Int32) + x1)).toNatClampNeg (t_size ((6 : Int32)).toNatClampNeg)))), (a_t_size, .inl (kk 0, 7, .inl t_size))] H := hP
                have hD : va_D A [(a_t, .inr (10, [.int t_length, .ref a_t_text, .int t_used, .ref a_t_page, .ref a_t_names, .ref a_t_sort, .ref a_t_code, .ref a_t_count, .ref a_t_around, .ref a_t_end, .ref a_t_size, .ref a_t_there, .ref a_t_wish, .ref a_t_have, .int t_far, .int t_momentParts, .long t_momentDay, .int t_momentSecond, .int t_momentNano, .int t_momentOffset, .int t_readParts, .long t_readDay, .int t_readSecond, .int t_readNano, .int t_readOffset, .ref a_t_known, .ref a_t_value, .ref a_t_before, .ref a_t_open, .ref a_t_from, .int t_alike])), (a_t_text, .inl (kk 1, 60, .inl t_text)), (a_t_sort, .inl (kk 0, 140, .inl t_sort)), (a_t_code, .inl (kk 0, 140, .inl t_code)), (a_t_count, .inl (kk 0, 140, .inl t_count)), (a_t_around, .inl (kk 0, 140, .inl t_around)), (a_t_end, .inl (kk 0, 140, .inl (upd t_end (((120 : Int32) + x1)).toNatClampNeg (t_size ((6 : Int32)).toNatClampNeg)))), (a_t_size, .inl (kk 0, 7, .inl t_size))] := hD
                refine lv_aload_n hx hb d_SkeletonClockModel_pattern_190 rfl (lv_at hl 1 rfl) ?_
                refine k_get S X us_SkeletonClockModel hP 0 rfl rfl 8 (by decide) gm_4_159 rfl d_SkeletonClockModel_pattern_191 ?_
                refine lv_bipush (v := (120 : Int32)) hx hb d_SkeletonClockModel_pattern_194 (by decide) ?_
                refine lv_iload_n hx hb d_SkeletonClockModel_pattern_196 rfl (lv_at hl 2 rfl) ?_
                refine lv_iadd hx hb d_SkeletonClockModel_pattern_197 ?_
                obtain ⟨hi18, he⟩ := ih_g he
                refine va_iald hx hb X.1 hP 5 0 rfl rfl hi18 d_SkeletonClockModel_pattern_198 ?_
                refine lv_istore_n hx hb d_SkeletonClockModel_pattern_199 rfl hl (by decide) rfl (fun ls hl => ?_)
                have hl : lv_has ls 5 [(1, .int (t_around (((120 : Int32) + x1)).toNatClampNeg)), (3, .int u1), (0, .ref a_t), (2, .int x2)] := hl
                refine lv_iinc (k := 3) hx hb d_SkeletonClockModel_pattern_200 hl rfl (ii_ (v := (1 : Int32)) (by decide)) (by decide) rfl (fun ls hl => ?_)
                have hl : lv_has ls 5 [(2, .int (x2 + (1 : Int32))), (1, .int (t_around (((120 : Int32) + x1)).toNatClampNeg)), (3, .int u1), (0, .ref a_t)] := hl
                refine lv_goto (tgt := 265) hx hb d_SkeletonClockModel_pattern_203 rfl ?_
                refine lv_goto (tgt := 12) hx hb d_SkeletonClockModel_pattern_265 rfl ?_
                have hl : lv_has ls 5 [(0, .ref a_t), (1, .int (t_around (((120 : Int32) + x1)).toNatClampNeg)), (2, .int (x2 + (1 : Int32)))] := lv_sub hl [3, 1, 0] rfl
                exact ih _ _ _ _ _ _ _ _ _ _ _ _ he hl hP hD hS hret K
              · have he := ih_f hc he
                refine lv_iload_n hx hb d_SkeletonClockModel_pattern_172 rfl (lv_at hl 3 rfl) ?_
                cases he
                have hq := hret _ rfl
                subst hq
                exact k_ire hx hb hr hlk X hP hD hS d_SkeletonClockModel_pattern_173
          · have he := ih_f hc he
            refine lv_aload_n hx hb d_SkeletonClockModel_pattern_90 rfl (lv_at hl 1 rfl) ?_
            refine lv_iload_n hx hb d_SkeletonClockModel_pattern_91 rfl (lv_at hl 3 rfl) ?_
            obtain ⟨u19, e20, he⟩ := ih_b he
            refine k_io (r_V (As := [.int x2]) S X hA hP hD hS (c_SkeletonClockModel_quoteEnd l D kk st a_t a_t_text a_t_page a_t_names a_t_sort a_t_code a_t_count a_t_around a_t_end a_t_size a_t_there a_t_wish a_t_have a_t_known a_t_value a_t_before a_t_open a_t_from _ t_length t_used t_far t_momentParts t_momentDay t_momentSecond t_momentNano t_momentOffset t_readParts t_readDay t_readSecond t_readNano t_readOffset t_alike t_text x2 u19 e20) gm_5_43 gm_5_40 gm_5_42 gm_p3_4 gm_1_13 ⟨rfl, rfl, by decide, by decide⟩ kd_SkeletonClockModel_quoteEnd [0, 1] rfl rfl rfl 0 10 rfl rfl rfl rfl hl.1 rfl (Nat.le_of_ble_eq_true rfl) d_SkeletonClockModel_pattern_92 ⟨Nat.zero_le _, Nat.zero_le _⟩) hA hP hD hS [0, 1] rfl (fun H locs hP hS => ?_)
            refine lv_istore hx hb d_SkeletonClockModel_pattern_95 hl (by decide) rfl (fun ls hl => ?_)
            have hl : lv_has ls 5 [(4, .int u19), (3, .int u1), (0, .ref a_t), (1, .int x1), (2, .int x2)] := hl
            refine lv_iload hx hb d_SkeletonClockModel_pattern_97 (lv_at hl 0 rfl) ?_
            refine lv_if_ge (tgt := 104) hx hb d_SkeletonClockModel_pattern_99 rfl (fun hc => ?_) (fun hc => ?_)
            · have he := ih_t hc he
              refine lv_iload_n hx hb d_SkeletonClockModel_pattern_104 rfl (lv_at hl 4 rfl) ?_
              refine lv_iconst (v := (1 : Int32)) hx hb d_SkeletonClockModel_pattern_105 (by decide) ?_
              refine lv_iadd hx hb d_SkeletonClockModel_pattern_106 ?_
              refine lv_istore_n hx hb d_SkeletonClockModel_pattern_107 rfl hl (by decide) rfl (fun ls hl => ?_)
              have hl : lv_has ls 5 [(2, .int (x2 + (1 : Int32))), (4, .int u19), (3, .int u1), (0, .ref a_t), (1, .int x1)] := hl
              obtain ⟨u27, e28, he⟩ := ih_b he
              have hl : lv_has ls 5 [(0, .ref a_t), (1, .int x1), (2, .int (x2 + (1 : Int32))), (4, .int u19)] := lv_sub hl [3, 4, 0, 1] rfl
              rcases u27 with o29 | v30
              · have he := sel_l he
                cases he
                exact w_SkeletonClockModel_pattern_108 a_t a_t_text a_t_sort a_t_code a_t_count a_t_around a_t_end a_t_size a_t_page a_t_names a_t_there a_t_wish a_t_have a_t_known a_t_value a_t_before a_t_open a_t_from t_length t_used t_far t_momentParts t_momentDay t_momentSecond t_momentNano t_momentOffset t_readParts t_readDay t_readSecond t_readNano t_readOffset t_alike t_text x1 u19 S hr hlk hA X FU (x2 + (1 : Int32)) t_sort t_code t_count t_around t_end t_size _ _ _ ls e28 hl hP hD hS (fun o h => by cases h; exact hret _ rfl) (fun v h => by cases h)
              · have he := sel_r he
                refine w_SkeletonClockModel_pattern_108 a_t a_t_text a_t_sort a_t_code a_t_count a_t_around a_t_end a_t_size a_t_page a_t_names a_t_there a_t_wish a_t_have a_t_known a_t_value a_t_before a_t_open a_t_from t_length t_used t_far t_momentParts t_momentDay t_momentSecond t_momentNano t_momentOffset t_readParts t_readDay t_readSecond t_readNano t_readOffset t_alike t_text x1 u19 S hr hlk hA X FU (x2 + (1 : Int32)) t_sort t_code t_count t_around t_end t_size _ _ _ ls e28 hl hP hD hS (fun o h => by cases h) (fun v h H locs ls hl hP hD hS => ?_)
                have h := Sum.inr.inj h
                subst h
                refine lv_iload hx hb d_SkeletonClockModel_pattern_154 (lv_at hl 3 rfl) ?_
                refine lv_iconst (v := (1 : Int32)) hx hb d_SkeletonClockModel_pattern_156 (by decide) ?_
                refine lv_iadd hx hb d_SkeletonClockModel_pattern_157 ?_
                refine lv_istore_n hx hb d_SkeletonClockModel_pattern_158 rfl hl (by decide) rfl (fun ls hl => ?_)
                have hl : lv_has ls 5 [(2, .int (u19 + (1 : Int32))), (0, .ref a_t), (1, .int x1), (4, .int u19)] := hl
                refine lv_goto (tgt := 265) hx hb d_SkeletonClockModel_pattern_159 rfl ?_
                refine lv_goto (tgt := 12) hx hb d_SkeletonClockModel_pattern_265 rfl ?_
                have hl : lv_has ls 5 [(0, .ref a_t), (1, .int x1), (2, .int (u19 + (1 : Int32)))] := lv_sub hl [1, 2, 0] rfl
                exact ih _ _ _ _ _ _ _ _ _ _ _ _ he hl hP hD hS hret K
            · have he := ih_f hc he
              refine lv_iload_n hx hb d_SkeletonClockModel_pattern_102 rfl (lv_at hl 4 rfl) ?_
              cases he
              have hq := hret _ rfl
              subst hq
              exact k_ire hx hb hr hlk X hP hD hS d_SkeletonClockModel_pattern_103
      · have he := ih_f hc he
        refine lv_aload_n hx hb d_SkeletonClockModel_pattern_34 rfl (lv_at hl 1 rfl) ?_
        refine lv_iload_n hx hb d_SkeletonClockModel_pattern_35 rfl (lv_at hl 3 rfl) ?_
        obtain ⟨u31, e32, he⟩ := ih_b he
        refine k_io (r_V (As := [.int x2]) S X hA hP hD hS (c_SkeletonClockModel_run l D kk st a_t a_t_text a_t_page a_t_names a_t_sort a_t_code a_t_count a_t_around a_t_end a_t_size a_t_there a_t_wish a_t_have a_t_known a_t_value a_t_before a_t_open a_t_from _ t_length t_used t_far t_momentParts t_momentDay t_momentSecond t_momentNano t_momentOffset t_readParts t_readDay t_readSecond t_readNano t_readOffset t_alike t_text x2 u31 e32) gm_5_29 gm_5_26 gm_5_28 gm_p3_2 gm_1_13 ⟨rfl, rfl, by decide, by decide⟩ kd_SkeletonClockModel_run [0, 1] rfl rfl rfl 0 10 rfl rfl rfl rfl hl.1 rfl (Nat.le_of_ble_eq_true rfl) d_SkeletonClockModel_pattern_36 ⟨Nat.zero_le _, Nat.zero_le _⟩) hA hP hD hS [0, 1] rfl (fun H locs hP hS => ?_)
        refine lv_istore hx hb d_SkeletonClockModel_pattern_39 hl (by decide) rfl (fun ls hl => ?_)
        have hl : lv_has ls 5 [(4, .int u31), (3, .int u1), (0, .ref a_t), (1, .int x1), (2, .int x2)] := hl
        refine lv_iload_n hx hb d_SkeletonClockModel_pattern_41 rfl (lv_at hl 1 rfl) ?_
        refine lv_iload hx hb d_SkeletonClockModel_pattern_42 (lv_at hl 0 rfl) ?_
        obtain ⟨u33, e34, he⟩ := ih_b he
        refine k_io (r_S (As := [.int u1, .int u31]) S X hA hP hD hS (c_SkeletonClockModel_allowed l D kk st _ u1 u31 u33 e34) gm_5_32 gm_5_30 gm_5_31 gm_1_13 ⟨rfl, rfl, by decide, by decide⟩ kd_SkeletonClockModel_allowed [] rfl rfl rfl rfl hl.1 rfl (Nat.le_of_ble_eq_true rfl) d_SkeletonClockModel_pattern_44 ⟨Nat.zero_le _, Nat.zero_le _⟩) hA hP hD hS [] rfl (fun H locs hP hS => ?_)
        refine lv_if_eq (tgt := 62) hx hb d_SkeletonClockModel_pattern_47 rfl (fun hc => ?_) (fun hc => ?_)
        · have he := ih_t hc he
          refine lv_iload_n hx hb d_SkeletonClockModel_pattern_62 rfl (lv_at hl 4 rfl) ?_
          cases he
          have hq := hret _ rfl
          subst hq
          exact k_ire hx hb hr hlk X hP hD hS d_SkeletonClockModel_pattern_63
        · have he := ih_f hc he
          refine lv_aload_n hx hb d_SkeletonClockModel_pattern_50 rfl (lv_at hl 2 rfl) ?_
          refine lv_iconst (v := (1 : Int32)) hx hb d_SkeletonClockModel_pattern_51 (by decide) ?_
          refine lv_iload_n hx hb d_SkeletonClockModel_pattern_52 rfl (lv_at hl 1 rfl) ?_
          refine lv_iload hx hb d_SkeletonClockModel_pattern_53 (lv_at hl 0 rfl) ?_
          refine lv_iload_n hx hb d_SkeletonClockModel_pattern_55 rfl (lv_at hl 3 rfl) ?_
          obtain ⟨u35, e36, he⟩ := ih_b he
          refine k_i (wr := [(a_t_text, .inl (kk 1, 60, .inl t_text))]) (w1 := [(a_t, .inr (10, [.int t_length, .ref a_t_text, .int t_used, .ref a_t_page, .ref a_t_names, .ref a_t_sort, .ref a_t_code, .ref a_t_count, .ref a_t_around, .ref a_t_end, .ref a_t_size, .ref a_t_there, .ref a_t_wish, .ref a_t_have, .int t_far, .int t_momentParts, .long t_momentDay, .int t_momentSecond, .int t_momentNano, .int t_momentOffset, .int t_readParts, .long t_readDay, .int t_readSecond, .int t_readNano, .int t_readOffset, .ref a_t_known, .ref a_t_value, .ref a_t_before, .ref a_t_open, .ref a_t_from, .int t_alike])), (a_t_sort, .inl (kk 0, 140, .inl u35.2.1)), (a_t_code, .inl (kk 0, 140, .inl u35.2.2.1)), (a_t_count, .inl (kk 0, 140, .inl u35.2.2.2.1)), (a_t_around, .inl (kk 0, 140, .inl u35.2.2.2.2.1)), (a_t_end, .inl (kk 0, 140, .inl u35.2.2.2.2.2.1)), (a_t_size, .inl (kk 0, 7, .inl u35.2.2.2.2.2.2))]) (w2 := [(a_t, .inr (10, [.int t_length, .ref a_t_text, .int t_used, .ref a_t_page, .ref a_t_names, .ref a_t_sort, .ref a_t_code, .ref a_t_count, .ref a_t_around, .ref a_t_end, .ref a_t_size, .ref a_t_there, .ref a_t_wish, .ref a_t_have, .int t_far, .int t_momentParts, .long t_momentDay, .int t_momentSecond, .int t_momentNano, .int t_momentOffset, .int t_readParts, .long t_readDay, .int t_readSecond, .int t_readNano, .int t_readOffset, .ref a_t_known, .ref a_t_value, .ref a_t_before, .ref a_t_open, .ref a_t_from, .int t_alike])), (a_t_text, .inl (kk 1, 60, .inl t_text)), (a_t_sort, .inl (kk 0, 140, .inl u35.2.1)), (a_t_code, .inl (kk 0, 140, .inl u35.2.2.1)), (a_t_count, .inl (kk 0, 140, .inl u35.2.2.2.1)), (a_t_around, .inl (kk 0, 140, .inl u35.2.2.2.2.1)), (a_t_end, .inl (kk 0, 140, .inl u35.2.2.2.2.2.1)), (a_t_size, .inl (kk 0, 7, .inl u35.2.2.2.2.2.2))]) (r_V (As := [.int (1 : Int32), .int u1, .int u31, .int x1]) S X hA hP hD hS (c_SkeletonClockModel_piece l D kk st a_t a_t_sort a_t_code a_t_count a_t_around a_t_end a_t_size a_t_text a_t_page a_t_names a_t_there a_t_wish a_t_have a_t_known a_t_value a_t_before a_t_open a_t_from _ t_length t_used t_far t_momentParts t_momentDay t_momentSecond t_momentNano t_momentOffset t_readParts t_readDay t_readSecond t_readNano t_readOffset t_alike t_sort t_code t_count t_around t_end t_size (1 : Int32) u1 u31 x1 u35 e36) gm_5_39 gm_5_36 gm_5_38 gm_p3_3 gm_1_13 ⟨rfl, rfl, by decide, by decide⟩ kd_SkeletonClockModel_piece [0, 2, 3, 4, 5, 6, 7] rfl rfl rfl 0 10 rfl rfl rfl rfl hl.1 rfl (Nat.le_of_ble_eq_true rfl) d_SkeletonClockModel_pattern_56 ⟨Nat.zero_le _, Nat.zero_le _⟩) hA hP hD hS [0, 2, 3, 4, 5, 6, 7] [1] [1, 0, 2, 3, 4, 5, 6, 7] rfl rfl rfl (by decide) rfl rfl rfl (fun H locs hP hD hS => ?_)
          refine lv_if_ne (tgt := 64) hx hb d_SkeletonClockModel_pattern_59 rfl (fun hc => ?_) (fun hc => ?_)
          · have he := ih_f hc he
            refine lv_iload_n hx hb d_SkeletonClockModel_pattern_64 rfl (lv_at hl 4 rfl) ?_
            refine lv_iload hx hb d_SkeletonClockModel_pattern_65 (lv_at hl 0 rfl) ?_
            refine lv_iadd hx hb d_SkeletonClockModel_pattern_67 ?_
            refine lv_istore_n hx hb d_SkeletonClockModel_pattern_68 rfl hl (by decide) rfl (fun ls hl => ?_)
            have hl : lv_has ls 5 [(2, .int (x2 + u31)), (4, .int u31), (3, .int u1), (0, .ref a_t), (1, .int x1)] := hl
            refine lv_goto (tgt := 265) hx hb d_SkeletonClockModel_pattern_69 rfl ?_
            refine lv_goto (tgt := 12) hx hb d_SkeletonClockModel_pattern_265 rfl ?_
            have hl : lv_has ls 5 [(0, .ref a_t), (1, .int x1), (2, .int (x2 + u31))] := lv_sub hl [3, 4, 0] rfl
            exact ih _ _ _ _ _ _ _ _ _ _ _ _ he hl hP hD hS hret K
          · have he := ih_t hc he
            refine lv_iload_n hx hb d_SkeletonClockModel_pattern_62 rfl (lv_at hl 4 rfl) ?_
            cases he
            have hq := hret _ rfl
            subst hq
            exact k_ire hx hb hr hlk X hP hD hS d_SkeletonClockModel_pattern_63
set_option maxHeartbeats 4000000 in
set_option maxRecDepth 100000 in
theorem c_SkeletonClockModel_pattern (l : Launch) (D : va_G) (kk : Nat → ClassId) (st : Nat → Nat) (a_t a_t_text a_t_sort a_t_code a_t_count a_t_around a_t_end a_t_size a_t_page a_t_names a_t_there a_t_wish a_t_have a_t_known a_t_value a_t_before a_t_open a_t_from : Nat) (sz : Nat) (t_length : Int32) (t_used : Int32) (t_far : Int32) (t_momentParts : Int32) (t_momentDay : Int64) (t_momentSecond : Int32) (t_momentNano : Int32) (t_momentOffset : Int32) (t_readParts : Int32) (t_readDay : Int64) (t_readSecond : Int32) (t_readNano : Int32) (t_readOffset : Int32) (t_alike : Int32) (t_text : Nat → Int32) (t_sort : Nat → Int32) (t_code : Nat → Int32) (t_count : Nat → Int32) (t_around : Nat → Int32) (t_end : Nat → Int32) (t_size : Nat → Int32) (o : Int32 × (Nat → Int32) × (Nat → Int32) × (Nat → Int32) × (Nat → Int32) × (Nat → Int32) × (Nat → Int32)) (he : f_SkeletonClockModel_pattern t_length t_text t_sort t_code t_count t_around t_end t_size = some o) : Met l y_SkeletonClockModel_pattern (Cond.code y_SkeletonClockModel_pattern b_SkeletonClockModel_pattern 5 (some .int) :: GW) rm_SkeletonClockModel_pattern (KPc D kk st [.ref a_t] [(a_t, .inr (10, [.int t_length, .ref a_t_text, .int t_used, .ref a_t_page, .ref a_t_names, .ref a_t_sort, .ref a_t_code, .ref a_t_count, .ref a_t_around, .ref a_t_end, .ref a_t_size, .ref a_t_there, .ref a_t_wish, .ref a_t_have, .int t_far, .int t_momentParts, .long t_momentDay, .int t_momentSecond, .int t_momentNano, .int t_momentOffset, .int t_readParts, .long t_readDay, .int t_readSecond, .int t_readNano, .int t_readOffset, .ref a_t_known, .ref a_t_value, .ref a_t_before, .ref a_t_open, .ref a_t_from, .int t_alike])), (a_t_text, .inl (kk 1, 60, .inl t_text)), (a_t_sort, .inl (kk 0, 140, .inl t_sort)), (a_t_code, .inl (kk 0, 140, .inl t_code)), (a_t_count, .inl (kk 0, 140, .inl t_count)), (a_t_around, .inl (kk 0, 140, .inl t_around)), (a_t_end, .inl (kk 0, 140, .inl t_end)), (a_t_size, .inl (kk 0, 7, .inl t_size))] sz) (KQi D kk o.1 [(a_t, .inr (10, [.int t_length, .ref a_t_text, .int t_used, .ref a_t_page, .ref a_t_names, .ref a_t_sort, .ref a_t_code, .ref a_t_count, .ref a_t_around, .ref a_t_end, .ref a_t_size, .ref a_t_there, .ref a_t_wish, .ref a_t_have, .int t_far, .int t_momentParts, .long t_momentDay, .int t_momentSecond, .int t_momentNano, .int t_momentOffset, .int t_readParts, .long t_readDay, .int t_readSecond, .int t_readNano, .int t_readOffset, .ref a_t_known, .ref a_t_value, .ref a_t_before, .ref a_t_open, .ref a_t_from, .int t_alike])), (a_t_text, .inl (kk 1, 60, .inl t_text)), (a_t_sort, .inl (kk 0, 140, .inl o.2.1)), (a_t_code, .inl (kk 0, 140, .inl o.2.2.1)), (a_t_count, .inl (kk 0, 140, .inl o.2.2.2.1)), (a_t_around, .inl (kk 0, 140, .inl o.2.2.2.2.1)), (a_t_end, .inl (kk 0, 140, .inl o.2.2.2.2.2.1)), (a_t_size, .inl (kk 0, 7, .inl o.2.2.2.2.2.2))] (va_A [(a_t, .inr (10, [.int t_length, .ref a_t_text, .int t_used, .ref a_t_page, .ref a_t_names, .ref a_t_sort, .ref a_t_code, .ref a_t_count, .ref a_t_around, .ref a_t_end, .ref a_t_size, .ref a_t_there, .ref a_t_wish, .ref a_t_have, .int t_far, .int t_momentParts, .long t_momentDay, .int t_momentSecond, .int t_momentNano, .int t_momentOffset, .int t_readParts, .long t_readDay, .int t_readSecond, .int t_readNano, .int t_readOffset, .ref a_t_known, .ref a_t_value, .ref a_t_before, .ref a_t_open, .ref a_t_from, .int t_alike])), (a_t_text, .inl (kk 1, 60, .inl t_text)), (a_t_sort, .inl (kk 0, 140, .inl t_sort)), (a_t_code, .inl (kk 0, 140, .inl t_code)), (a_t_count, .inl (kk 0, 140, .inl t_count)), (a_t_around, .inl (kk 0, 140, .inl t_around)), (a_t_end, .inl (kk 0, 140, .inl t_end)), (a_t_size, .inl (kk 0, 7, .inl t_size))] sz)) 0 0 (va_A [(a_t, .inr (10, [.int t_length, .ref a_t_text, .int t_used, .ref a_t_page, .ref a_t_names, .ref a_t_sort, .ref a_t_code, .ref a_t_count, .ref a_t_around, .ref a_t_end, .ref a_t_size, .ref a_t_there, .ref a_t_wish, .ref a_t_have, .int t_far, .int t_momentParts, .long t_momentDay, .int t_momentSecond, .int t_momentNano, .int t_momentOffset, .int t_readParts, .long t_readDay, .int t_readSecond, .int t_readNano, .int t_readOffset, .ref a_t_known, .ref a_t_value, .ref a_t_before, .ref a_t_open, .ref a_t_from, .int t_alike])), (a_t_text, .inl (kk 1, 60, .inl t_text)), (a_t_sort, .inl (kk 0, 140, .inl t_sort)), (a_t_code, .inl (kk 0, 140, .inl t_code)), (a_t_count, .inl (kk 0, 140, .inl t_count)), (a_t_around, .inl (kk 0, 140, .inl t_around)), (a_t_end, .inl (kk 0, 140, .inl t_end)), (a_t_size, .inl (kk 0, 7, .inl t_size))] sz) := by
  refine k_start (Qc := fun A => KQi D kk o.1 [(a_t, .inr (10, [.int t_length, .ref a_t_text, .int t_used, .ref a_t_page, .ref a_t_names, .ref a_t_sort, .ref a_t_code, .ref a_t_count, .ref a_t_around, .ref a_t_end, .ref a_t_size, .ref a_t_there, .ref a_t_wish, .ref a_t_have, .int t_far, .int t_momentParts, .long t_momentDay, .int t_momentSecond, .int t_momentNano, .int t_momentOffset, .int t_readParts, .long t_readDay, .int t_readSecond, .int t_readNano, .int t_readOffset, .ref a_t_known, .ref a_t_value, .ref a_t_before, .ref a_t_open, .ref a_t_from, .int t_alike])), (a_t_text, .inl (kk 1, 60, .inl t_text)), (a_t_sort, .inl (kk 0, 140, .inl o.2.1)), (a_t_code, .inl (kk 0, 140, .inl o.2.2.1)), (a_t_count, .inl (kk 0, 140, .inl o.2.2.2.1)), (a_t_around, .inl (kk 0, 140, .inl o.2.2.2.2.1)), (a_t_end, .inl (kk 0, 140, .inl o.2.2.2.2.2.1)), (a_t_size, .inl (kk 0, 7, .inl o.2.2.2.2.2.2))] A) (by decide) (Nat.le_of_ble_eq_true rfl) ?_
  intro p e s m below meth c A ls S hnm hr hlk hA X hP hD hS hl
  have hl : lv_has ls 5 [(0, .ref a_t)] := hl
  have hx := S.1
  have hb := S.2.1
  unfold f_SkeletonClockModel_pattern at he
  refine lv_aload_n hx hb d_SkeletonClockModel_pattern_0 rfl (lv_at hl 0 rfl) ?_
  refine k_get S X us_SkeletonClockModel hP 0 rfl rfl 10 (by decide) gm_4_161 rfl d_SkeletonClockModel_pattern_1 ?_
  refine lv_bipush (v := (6 : Int32)) hx hb d_SkeletonClockModel_pattern_4 (by decide) ?_
  refine lv_iconst (v := (0 : Int32)) hx hb d_SkeletonClockModel_pattern_6 (by decide) ?_
  refine va_iast hx hb X.1 hP hD hS 7 0 rfl rfl (show ¬ ((6 : Int32) < 0 ∨ 7 ≤ ((6 : Int32)).toNatClampNeg) by decide) d_SkeletonClockModel_pattern_7 (fun H locs hP hD hS => ?_)
  have hP : va_P D classes [(a_t, .inr (10, [.int t_length, .ref a_t_text, .int t_used, .ref a_t_page, .ref a_t_names, .ref a_t_sort, .ref a_t_code, .ref a_t_count, .ref a_t_around, .ref a_t_end, .ref a_t_size, .ref a_t_there, .ref a_t_wish, .ref a_t_have, .int t_far, .int t_momentParts, .long t_momentDay, .int t_momentSecond, .int t_momentNano, .int t_momentOffset, .int t_readParts, .long t_readDay, .int t_readSecond, .int t_readNano, .int t_readOffset, .ref a_t_known, .ref a_t_value, .ref a_t_before, .ref a_t_open, .ref a_t_from, .int t_alike])), (a_t_text, .inl (kk 1, 60, .inl t_text)), (a_t_sort, .inl (kk 0, 140, .inl t_sort)), (a_t_code, .inl (kk 0, 140, .inl t_code)), (a_t_count, .inl (kk 0, 140, .inl t_count)), (a_t_around, .inl (kk 0, 140, .inl t_around)), (a_t_end, .inl (kk 0, 140, .inl t_end)), (a_t_size, .inl (kk 0, 7, .inl (upd t_size ((6 : Int32)).toNatClampNeg (0 : Int32))))] H := hP
  have hD : va_D A [(a_t, .inr (10, [.int t_length, .ref a_t_text, .int t_used, .ref a_t_page, .ref a_t_names, .ref a_t_sort, .ref a_t_code, .ref a_t_count, .ref a_t_around, .ref a_t_end, .ref a_t_size, .ref a_t_there, .ref a_t_wish, .ref a_t_have, .int t_far, .int t_momentParts, .long t_momentDay, .int t_momentSecond, .int t_momentNano, .int t_momentOffset, .int t_readParts, .long t_readDay, .int t_readSecond, .int t_readNano, .int t_readOffset, .ref a_t_known, .ref a_t_value, .ref a_t_before, .ref a_t_open, .ref a_t_from, .int t_alike])), (a_t_text, .inl (kk 1, 60, .inl t_text)), (a_t_sort, .inl (kk 0, 140, .inl t_sort)), (a_t_code, .inl (kk 0, 140, .inl t_code)), (a_t_count, .inl (kk 0, 140, .inl t_count)), (a_t_around, .inl (kk 0, 140, .inl t_around)), (a_t_end, .inl (kk 0, 140, .inl t_end)), (a_t_size, .inl (kk 0, 7, .inl (upd t_size ((6 : Int32)).toNatClampNeg (0 : Int32))))] := hD
  refine lv_iconst (v := (-1 : Int32)) hx hb d_SkeletonClockModel_pattern_8 (by decide) ?_
  refine lv_istore_n hx hb d_SkeletonClockModel_pattern_9 rfl hl (by decide) rfl (fun ls hl => ?_)
  have hl : lv_has ls 5 [(1, .int (-1 : Int32)), (0, .ref a_t)] := hl
  refine lv_iconst (v := (0 : Int32)) hx hb d_SkeletonClockModel_pattern_10 (by decide) ?_
  refine lv_istore_n hx hb d_SkeletonClockModel_pattern_11 rfl hl (by decide) rfl (fun ls hl => ?_)
  have hl : lv_has ls 5 [(2, .int (0 : Int32)), (1, .int (-1 : Int32)), (0, .ref a_t)] := hl
  obtain ⟨u37, e38, he⟩ := ih_b he
  have hl : lv_has ls 5 [(0, .ref a_t), (1, .int (-1 : Int32)), (2, .int (0 : Int32))] := lv_sub hl [2, 1, 0] rfl
  rcases u37 with o39 | v40
  · have he := sel_l he
    cases he
    exact w_SkeletonClockModel_pattern_12 a_t a_t_text a_t_sort a_t_code a_t_count a_t_around a_t_end a_t_size a_t_page a_t_names a_t_there a_t_wish a_t_have a_t_known a_t_value a_t_before a_t_open a_t_from t_length t_used t_far t_momentParts t_momentDay t_momentSecond t_momentNano t_momentOffset t_readParts t_readDay t_readSecond t_readNano t_readOffset t_alike t_text S hr hlk hA X FU (-1 : Int32) (0 : Int32) t_sort t_code t_count t_around t_end (upd t_size ((6 : Int32)).toNatClampNeg (0 : Int32)) _ _ _ ls e38 hl hP hD hS (fun o h => by cases h; rfl) (fun v h => by cases h)
  · have he := sel_r he
    refine w_SkeletonClockModel_pattern_12 a_t a_t_text a_t_sort a_t_code a_t_count a_t_around a_t_end a_t_size a_t_page a_t_names a_t_there a_t_wish a_t_have a_t_known a_t_value a_t_before a_t_open a_t_from t_length t_used t_far t_momentParts t_momentDay t_momentSecond t_momentNano t_momentOffset t_readParts t_readDay t_readSecond t_readNano t_readOffset t_alike t_text S hr hlk hA X FU (-1 : Int32) (0 : Int32) t_sort t_code t_count t_around t_end (upd t_size ((6 : Int32)).toNatClampNeg (0 : Int32)) _ _ _ ls e38 hl hP hD hS (fun o h => by cases h) (fun v h H locs ls hl hP hD hS => ?_)
    have h := Sum.inr.inj h
    subst h
    refine lv_iload_n hx hb d_SkeletonClockModel_pattern_268 rfl (lv_at hl 1 rfl) ?_
    refine lv_if_ge (tgt := 276) hx hb d_SkeletonClockModel_pattern_269 rfl (fun hc => ?_) (fun hc => ?_)
    · have he := ih_t hc he
      refine lv_aload_n hx hb d_SkeletonClockModel_pattern_276 rfl (lv_at hl 0 rfl) ?_
      refine k_get S X us_SkeletonClockModel hP 0 rfl rfl 0 (by decide) gm_4_151 rfl d_SkeletonClockModel_pattern_277 ?_
      cases he
      exact k_ire hx hb hr hlk X hP hD hS d_SkeletonClockModel_pattern_280
    · have he := ih_f hc he
      refine lv_iconst (v := (-1 : Int32)) hx hb d_SkeletonClockModel_pattern_272 (by decide) ?_
      refine lv_goto (tgt := 280) hx hb d_SkeletonClockModel_pattern_273 rfl ?_
      cases he
      exact k_ire hx hb hr hlk X hP hD hS d_SkeletonClockModel_pattern_280
