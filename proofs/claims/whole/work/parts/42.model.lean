abbrev b_SkeletonClockModel_through : ByteArray := prog_14_method_52_code
def y_SkeletonClockModel_through : MethodName := ⟨"SkeletonClockModel", "through", "(I)I"⟩
theorem kd_SkeletonClockModel_through : kd_ok y_SkeletonClockModel_through 1 := by decide +kernel
abbrev b_SkeletonClockModel_within : ByteArray := prog_14_method_53_code
def y_SkeletonClockModel_within : MethodName := ⟨"SkeletonClockModel", "within", "(IJJ)Z"⟩
theorem kd_SkeletonClockModel_within : kd_ok y_SkeletonClockModel_within 3 := by decide +kernel
abbrev b_SkeletonClockModel_some : ByteArray := prog_14_method_54_code
def y_SkeletonClockModel_some : MethodName := ⟨"SkeletonClockModel", "some", "(II)Z"⟩
theorem kd_SkeletonClockModel_some : kd_ok y_SkeletonClockModel_some 2 := by decide +kernel
abbrev b_SkeletonClockModel_rule : ByteArray := prog_14_method_55_code
def y_SkeletonClockModel_rule : MethodName := ⟨"SkeletonClockModel", "rule", "()I"⟩
theorem kd_SkeletonClockModel_rule : kd_ok y_SkeletonClockModel_rule 0 := by decide +kernel
theorem gm_5_180 : Cond.code ({ cls := "SkeletonClockModel", name := "pass", desc := "(III)I" } : MethodName) prog_14_method_48_code (10 : Nat) (Option.some FieldType.int) ∈ GW := gw_5 (i := 180) rfl rfl
theorem gm_5_177 : Cond.methodLink "SkeletonClockModel" (321 : Nat) ({ cls := "SkeletonClockModel", name := "pass", desc := "(III)I" } : MethodName) ∈ GW := gw_5 (i := 177) rfl rfl
theorem gm_5_179 : Cond.instanceMethod ({ cls := "SkeletonClockModel", name := "pass", desc := "(III)I" } : MethodName) ∈ GW := gw_5 (i := 179) rfl rfl
theorem gm_p4_1 : Cond.selects "SkeletonClockModel" ⟨"SkeletonClockModel", "pass", "(III)I"⟩ ⟨"SkeletonClockModel", "pass", "(III)I"⟩ ∈ GW := gs_4 (i := 1) rfl
theorem gm_4_179 : Cond.fieldLink "SkeletonClockModel" (65 : Nat) "SkeletonClockModel" "open" "[I" ∈ GW := gw_4 (i := 179) rfl rfl
theorem gm_4_180 : Cond.fieldLink "SkeletonClockModel" (68 : Nat) "SkeletonClockModel" "from" "[I" ∈ GW := gw_4 (i := 180) rfl rfl
theorem gm_4_178 : Cond.fieldLink "SkeletonClockModel" (62 : Nat) "SkeletonClockModel" "before" "[Z" ∈ GW := gw_4 (i := 178) rfl rfl
theorem d_SkeletonClockModel_through_0 : decode b_SkeletonClockModel_through 0 = .ok (.iconst 0, 1) := by decide +kernel
theorem d_SkeletonClockModel_through_1 : decode b_SkeletonClockModel_through 1 = .ok (.istore_n 2, 1) := by decide +kernel
theorem d_SkeletonClockModel_through_2 : decode b_SkeletonClockModel_through 2 = .ok (.iconst 0, 1) := by decide +kernel
theorem d_SkeletonClockModel_through_3 : decode b_SkeletonClockModel_through 3 = .ok (.istore_n 3, 1) := by decide +kernel
theorem d_SkeletonClockModel_through_4 : decode b_SkeletonClockModel_through 4 = .ok (.iconst 0, 1) := by decide +kernel
theorem d_SkeletonClockModel_through_5 : decode b_SkeletonClockModel_through 5 = .ok (.istore 4, 2) := by decide +kernel
theorem d_SkeletonClockModel_through_7 : decode b_SkeletonClockModel_through 7 = .ok (.iconst 0, 1) := by decide +kernel
theorem d_SkeletonClockModel_through_8 : decode b_SkeletonClockModel_through 8 = .ok (.istore 5, 2) := by decide +kernel
theorem d_SkeletonClockModel_through_10 : decode b_SkeletonClockModel_through 10 = .ok (.iload 5, 2) := by decide +kernel
theorem d_SkeletonClockModel_through_12 : decode b_SkeletonClockModel_through 12 = .ok (.bipush 14, 2) := by decide +kernel
theorem d_SkeletonClockModel_through_14 : decode b_SkeletonClockModel_through 14 = .ok (.if_icmp .ge 17, 3) := by decide +kernel
theorem d_SkeletonClockModel_through_17 : decode b_SkeletonClockModel_through 17 = .ok (.aload_n 0, 1) := by decide +kernel
theorem d_SkeletonClockModel_through_18 : decode b_SkeletonClockModel_through 18 = .ok (.getfield 56, 3) := by decide +kernel
theorem d_SkeletonClockModel_through_21 : decode b_SkeletonClockModel_through 21 = .ok (.iload 5, 2) := by decide +kernel
theorem d_SkeletonClockModel_through_23 : decode b_SkeletonClockModel_through 23 = .ok (.iconst 0, 1) := by decide +kernel
theorem d_SkeletonClockModel_through_24 : decode b_SkeletonClockModel_through 24 = .ok (.bastore, 1) := by decide +kernel
theorem d_SkeletonClockModel_through_25 : decode b_SkeletonClockModel_through 25 = .ok (.iinc 5 1, 3) := by decide +kernel
theorem d_SkeletonClockModel_through_28 : decode b_SkeletonClockModel_through 28 = .ok (.goto (-18), 3) := by decide +kernel
theorem d_SkeletonClockModel_through_31 : decode b_SkeletonClockModel_through 31 = .ok (.iload_n 3, 1) := by decide +kernel
theorem d_SkeletonClockModel_through_32 : decode b_SkeletonClockModel_through 32 = .ok (.aload_n 0, 1) := by decide +kernel
theorem d_SkeletonClockModel_through_33 : decode b_SkeletonClockModel_through 33 = .ok (.getfield 36, 3) := by decide +kernel
theorem d_SkeletonClockModel_through_36 : decode b_SkeletonClockModel_through 36 = .ok (.iload_n 1, 1) := by decide +kernel
theorem d_SkeletonClockModel_through_37 : decode b_SkeletonClockModel_through 37 = .ok (.iaload, 1) := by decide +kernel
theorem d_SkeletonClockModel_through_38 : decode b_SkeletonClockModel_through 38 = .ok (.if_icmp .ge 218, 3) := by decide +kernel
theorem d_SkeletonClockModel_through_41 : decode b_SkeletonClockModel_through 41 = .ok (.aload_n 0, 1) := by decide +kernel
theorem d_SkeletonClockModel_through_42 : decode b_SkeletonClockModel_through 42 = .ok (.getfield 20, 3) := by decide +kernel
theorem d_SkeletonClockModel_through_45 : decode b_SkeletonClockModel_through 45 = .ok (.bipush 20, 2) := by decide +kernel
theorem d_SkeletonClockModel_through_47 : decode b_SkeletonClockModel_through 47 = .ok (.iload_n 1, 1) := by decide +kernel
theorem d_SkeletonClockModel_through_48 : decode b_SkeletonClockModel_through 48 = .ok (.imul, 1) := by decide +kernel
theorem d_SkeletonClockModel_through_49 : decode b_SkeletonClockModel_through 49 = .ok (.iload_n 3, 1) := by decide +kernel
theorem d_SkeletonClockModel_through_50 : decode b_SkeletonClockModel_through 50 = .ok (.iadd, 1) := by decide +kernel
theorem d_SkeletonClockModel_through_51 : decode b_SkeletonClockModel_through 51 = .ok (.iaload, 1) := by decide +kernel
theorem d_SkeletonClockModel_through_52 : decode b_SkeletonClockModel_through 52 = .ok (.iconst 2, 1) := by decide +kernel
theorem d_SkeletonClockModel_through_53 : decode b_SkeletonClockModel_through 53 = .ok (.if_icmp .ne 64, 3) := by decide +kernel
theorem d_SkeletonClockModel_through_56 : decode b_SkeletonClockModel_through 56 = .ok (.aload_n 0, 1) := by decide +kernel
theorem d_SkeletonClockModel_through_57 : decode b_SkeletonClockModel_through 57 = .ok (.getfield 65, 3) := by decide +kernel
theorem d_SkeletonClockModel_through_60 : decode b_SkeletonClockModel_through 60 = .ok (.iload 4, 2) := by decide +kernel
theorem d_SkeletonClockModel_through_62 : decode b_SkeletonClockModel_through 62 = .ok (.iload_n 3, 1) := by decide +kernel
theorem d_SkeletonClockModel_through_63 : decode b_SkeletonClockModel_through 63 = .ok (.iastore, 1) := by decide +kernel
theorem d_SkeletonClockModel_through_64 : decode b_SkeletonClockModel_through 64 = .ok (.aload_n 0, 1) := by decide +kernel
theorem d_SkeletonClockModel_through_65 : decode b_SkeletonClockModel_through 65 = .ok (.getfield 68, 3) := by decide +kernel
theorem d_SkeletonClockModel_through_68 : decode b_SkeletonClockModel_through 68 = .ok (.iload 4, 2) := by decide +kernel
theorem d_SkeletonClockModel_through_70 : decode b_SkeletonClockModel_through 70 = .ok (.iload_n 2, 1) := by decide +kernel
theorem d_SkeletonClockModel_through_71 : decode b_SkeletonClockModel_through 71 = .ok (.iastore, 1) := by decide +kernel
theorem d_SkeletonClockModel_through_72 : decode b_SkeletonClockModel_through 72 = .ok (.iconst 0, 1) := by decide +kernel
theorem d_SkeletonClockModel_through_73 : decode b_SkeletonClockModel_through 73 = .ok (.istore 5, 2) := by decide +kernel
theorem d_SkeletonClockModel_through_75 : decode b_SkeletonClockModel_through 75 = .ok (.iload 5, 2) := by decide +kernel
theorem d_SkeletonClockModel_through_77 : decode b_SkeletonClockModel_through 77 = .ok (.bipush 14, 2) := by decide +kernel
theorem d_SkeletonClockModel_through_79 : decode b_SkeletonClockModel_through 79 = .ok (.if_icmp .ge 29, 3) := by decide +kernel
theorem d_SkeletonClockModel_through_82 : decode b_SkeletonClockModel_through 82 = .ok (.aload_n 0, 1) := by decide +kernel
theorem d_SkeletonClockModel_through_83 : decode b_SkeletonClockModel_through 83 = .ok (.getfield 62, 3) := by decide +kernel
theorem d_SkeletonClockModel_through_86 : decode b_SkeletonClockModel_through 86 = .ok (.bipush 14, 2) := by decide +kernel
theorem d_SkeletonClockModel_through_88 : decode b_SkeletonClockModel_through 88 = .ok (.iload 4, 2) := by decide +kernel
theorem d_SkeletonClockModel_through_90 : decode b_SkeletonClockModel_through 90 = .ok (.imul, 1) := by decide +kernel
theorem d_SkeletonClockModel_through_91 : decode b_SkeletonClockModel_through 91 = .ok (.iload 5, 2) := by decide +kernel
theorem d_SkeletonClockModel_through_93 : decode b_SkeletonClockModel_through 93 = .ok (.iadd, 1) := by decide +kernel
theorem d_SkeletonClockModel_through_94 : decode b_SkeletonClockModel_through 94 = .ok (.aload_n 0, 1) := by decide +kernel
theorem d_SkeletonClockModel_through_95 : decode b_SkeletonClockModel_through 95 = .ok (.getfield 56, 3) := by decide +kernel
theorem d_SkeletonClockModel_through_98 : decode b_SkeletonClockModel_through 98 = .ok (.iload 5, 2) := by decide +kernel
theorem d_SkeletonClockModel_through_100 : decode b_SkeletonClockModel_through 100 = .ok (.baload, 1) := by decide +kernel
theorem d_SkeletonClockModel_through_101 : decode b_SkeletonClockModel_through 101 = .ok (.bastore, 1) := by decide +kernel
theorem d_SkeletonClockModel_through_102 : decode b_SkeletonClockModel_through 102 = .ok (.iinc 5 1, 3) := by decide +kernel
theorem d_SkeletonClockModel_through_105 : decode b_SkeletonClockModel_through 105 = .ok (.goto (-30), 3) := by decide +kernel
theorem d_SkeletonClockModel_through_108 : decode b_SkeletonClockModel_through 108 = .ok (.iinc 4 1, 3) := by decide +kernel
theorem d_SkeletonClockModel_through_111 : decode b_SkeletonClockModel_through 111 = .ok (.iinc 3 1, 3) := by decide +kernel
theorem d_SkeletonClockModel_through_114 : decode b_SkeletonClockModel_through 114 = .ok (.goto 108, 3) := by decide +kernel
theorem d_SkeletonClockModel_through_117 : decode b_SkeletonClockModel_through 117 = .ok (.aload_n 0, 1) := by decide +kernel
theorem d_SkeletonClockModel_through_118 : decode b_SkeletonClockModel_through 118 = .ok (.iload_n 1, 1) := by decide +kernel
theorem d_SkeletonClockModel_through_119 : decode b_SkeletonClockModel_through 119 = .ok (.bipush 20, 2) := by decide +kernel
theorem d_SkeletonClockModel_through_121 : decode b_SkeletonClockModel_through 121 = .ok (.iload_n 1, 1) := by decide +kernel
theorem d_SkeletonClockModel_through_122 : decode b_SkeletonClockModel_through 122 = .ok (.imul, 1) := by decide +kernel
theorem d_SkeletonClockModel_through_123 : decode b_SkeletonClockModel_through 123 = .ok (.iload_n 3, 1) := by decide +kernel
theorem d_SkeletonClockModel_through_124 : decode b_SkeletonClockModel_through 124 = .ok (.iadd, 1) := by decide +kernel
theorem d_SkeletonClockModel_through_125 : decode b_SkeletonClockModel_through 125 = .ok (.iload_n 2, 1) := by decide +kernel
theorem d_SkeletonClockModel_through_126 : decode b_SkeletonClockModel_through 126 = .ok (.invokevirtual 321, 3) := by decide +kernel
theorem d_SkeletonClockModel_through_129 : decode b_SkeletonClockModel_through 129 = .ok (.istore 5, 2) := by decide +kernel
theorem d_SkeletonClockModel_through_131 : decode b_SkeletonClockModel_through 131 = .ok (.iload 5, 2) := by decide +kernel
theorem d_SkeletonClockModel_through_133 : decode b_SkeletonClockModel_through 133 = .ok (.ifCond .ge 10, 3) := by decide +kernel
theorem d_SkeletonClockModel_through_136 : decode b_SkeletonClockModel_through 136 = .ok (.iload 4, 2) := by decide +kernel
theorem d_SkeletonClockModel_through_138 : decode b_SkeletonClockModel_through 138 = .ok (.ifCond .ne 5, 3) := by decide +kernel
theorem d_SkeletonClockModel_through_141 : decode b_SkeletonClockModel_through 141 = .ok (.iload_n 2, 1) := by decide +kernel
theorem d_SkeletonClockModel_through_142 : decode b_SkeletonClockModel_through 142 = .ok (.ireturn, 1) := by decide +kernel
theorem d_SkeletonClockModel_through_143 : decode b_SkeletonClockModel_through 143 = .ok (.iinc 3 1, 3) := by decide +kernel
theorem d_SkeletonClockModel_through_146 : decode b_SkeletonClockModel_through 146 = .ok (.iload 5, 2) := by decide +kernel
theorem d_SkeletonClockModel_through_148 : decode b_SkeletonClockModel_through 148 = .ok (.ifCond .ge 71, 3) := by decide +kernel
theorem d_SkeletonClockModel_through_151 : decode b_SkeletonClockModel_through 151 = .ok (.iinc 4 (-1), 3) := by decide +kernel
theorem d_SkeletonClockModel_through_154 : decode b_SkeletonClockModel_through 154 = .ok (.aload_n 0, 1) := by decide +kernel
theorem d_SkeletonClockModel_through_155 : decode b_SkeletonClockModel_through 155 = .ok (.getfield 68, 3) := by decide +kernel
theorem d_SkeletonClockModel_through_158 : decode b_SkeletonClockModel_through 158 = .ok (.iload 4, 2) := by decide +kernel
theorem d_SkeletonClockModel_through_160 : decode b_SkeletonClockModel_through 160 = .ok (.iaload, 1) := by decide +kernel
theorem d_SkeletonClockModel_through_161 : decode b_SkeletonClockModel_through 161 = .ok (.istore_n 2, 1) := by decide +kernel
theorem d_SkeletonClockModel_through_162 : decode b_SkeletonClockModel_through 162 = .ok (.aload_n 0, 1) := by decide +kernel
theorem d_SkeletonClockModel_through_163 : decode b_SkeletonClockModel_through 163 = .ok (.getfield 33, 3) := by decide +kernel
theorem d_SkeletonClockModel_through_166 : decode b_SkeletonClockModel_through 166 = .ok (.bipush 20, 2) := by decide +kernel
theorem d_SkeletonClockModel_through_168 : decode b_SkeletonClockModel_through 168 = .ok (.iload_n 1, 1) := by decide +kernel
theorem d_SkeletonClockModel_through_169 : decode b_SkeletonClockModel_through 169 = .ok (.imul, 1) := by decide +kernel
theorem d_SkeletonClockModel_through_170 : decode b_SkeletonClockModel_through 170 = .ok (.aload_n 0, 1) := by decide +kernel
theorem d_SkeletonClockModel_through_171 : decode b_SkeletonClockModel_through 171 = .ok (.getfield 65, 3) := by decide +kernel
theorem d_SkeletonClockModel_through_174 : decode b_SkeletonClockModel_through 174 = .ok (.iload 4, 2) := by decide +kernel
theorem d_SkeletonClockModel_through_176 : decode b_SkeletonClockModel_through 176 = .ok (.iaload, 1) := by decide +kernel
theorem d_SkeletonClockModel_through_177 : decode b_SkeletonClockModel_through 177 = .ok (.iadd, 1) := by decide +kernel
theorem d_SkeletonClockModel_through_178 : decode b_SkeletonClockModel_through 178 = .ok (.iaload, 1) := by decide +kernel
theorem d_SkeletonClockModel_through_179 : decode b_SkeletonClockModel_through 179 = .ok (.istore_n 3, 1) := by decide +kernel
theorem d_SkeletonClockModel_through_180 : decode b_SkeletonClockModel_through 180 = .ok (.iconst 0, 1) := by decide +kernel
theorem d_SkeletonClockModel_through_181 : decode b_SkeletonClockModel_through 181 = .ok (.istore 6, 2) := by decide +kernel
theorem d_SkeletonClockModel_through_183 : decode b_SkeletonClockModel_through 183 = .ok (.iload 6, 2) := by decide +kernel
theorem d_SkeletonClockModel_through_185 : decode b_SkeletonClockModel_through 185 = .ok (.bipush 14, 2) := by decide +kernel
theorem d_SkeletonClockModel_through_187 : decode b_SkeletonClockModel_through 187 = .ok (.if_icmp .ge 29, 3) := by decide +kernel
theorem d_SkeletonClockModel_through_190 : decode b_SkeletonClockModel_through 190 = .ok (.aload_n 0, 1) := by decide +kernel
theorem d_SkeletonClockModel_through_191 : decode b_SkeletonClockModel_through 191 = .ok (.getfield 56, 3) := by decide +kernel
theorem d_SkeletonClockModel_through_194 : decode b_SkeletonClockModel_through 194 = .ok (.iload 6, 2) := by decide +kernel
theorem d_SkeletonClockModel_through_196 : decode b_SkeletonClockModel_through 196 = .ok (.aload_n 0, 1) := by decide +kernel
theorem d_SkeletonClockModel_through_197 : decode b_SkeletonClockModel_through 197 = .ok (.getfield 62, 3) := by decide +kernel
theorem d_SkeletonClockModel_through_200 : decode b_SkeletonClockModel_through 200 = .ok (.bipush 14, 2) := by decide +kernel
theorem d_SkeletonClockModel_through_202 : decode b_SkeletonClockModel_through 202 = .ok (.iload 4, 2) := by decide +kernel
theorem d_SkeletonClockModel_through_204 : decode b_SkeletonClockModel_through 204 = .ok (.imul, 1) := by decide +kernel
theorem d_SkeletonClockModel_through_205 : decode b_SkeletonClockModel_through 205 = .ok (.iload 6, 2) := by decide +kernel
theorem d_SkeletonClockModel_through_207 : decode b_SkeletonClockModel_through 207 = .ok (.iadd, 1) := by decide +kernel
theorem d_SkeletonClockModel_through_208 : decode b_SkeletonClockModel_through 208 = .ok (.baload, 1) := by decide +kernel
theorem d_SkeletonClockModel_through_209 : decode b_SkeletonClockModel_through 209 = .ok (.bastore, 1) := by decide +kernel
theorem d_SkeletonClockModel_through_210 : decode b_SkeletonClockModel_through 210 = .ok (.iinc 6 1, 3) := by decide +kernel
theorem d_SkeletonClockModel_through_213 : decode b_SkeletonClockModel_through 213 = .ok (.goto (-30), 3) := by decide +kernel
theorem d_SkeletonClockModel_through_216 : decode b_SkeletonClockModel_through 216 = .ok (.goto 6, 3) := by decide +kernel
theorem d_SkeletonClockModel_through_219 : decode b_SkeletonClockModel_through 219 = .ok (.iload 5, 2) := by decide +kernel
theorem d_SkeletonClockModel_through_221 : decode b_SkeletonClockModel_through 221 = .ok (.istore_n 2, 1) := by decide +kernel
theorem d_SkeletonClockModel_through_222 : decode b_SkeletonClockModel_through 222 = .ok (.iload 4, 2) := by decide +kernel
theorem d_SkeletonClockModel_through_224 : decode b_SkeletonClockModel_through 224 = .ok (.ifCond .le (-193), 3) := by decide +kernel
theorem d_SkeletonClockModel_through_227 : decode b_SkeletonClockModel_through 227 = .ok (.aload_n 0, 1) := by decide +kernel
theorem d_SkeletonClockModel_through_228 : decode b_SkeletonClockModel_through 228 = .ok (.getfield 33, 3) := by decide +kernel
theorem d_SkeletonClockModel_through_231 : decode b_SkeletonClockModel_through 231 = .ok (.bipush 20, 2) := by decide +kernel
theorem d_SkeletonClockModel_through_233 : decode b_SkeletonClockModel_through 233 = .ok (.iload_n 1, 1) := by decide +kernel
theorem d_SkeletonClockModel_through_234 : decode b_SkeletonClockModel_through 234 = .ok (.imul, 1) := by decide +kernel
theorem d_SkeletonClockModel_through_235 : decode b_SkeletonClockModel_through 235 = .ok (.aload_n 0, 1) := by decide +kernel
theorem d_SkeletonClockModel_through_236 : decode b_SkeletonClockModel_through 236 = .ok (.getfield 65, 3) := by decide +kernel
theorem d_SkeletonClockModel_through_239 : decode b_SkeletonClockModel_through 239 = .ok (.iload 4, 2) := by decide +kernel
theorem d_SkeletonClockModel_through_241 : decode b_SkeletonClockModel_through 241 = .ok (.iconst 1, 1) := by decide +kernel
theorem d_SkeletonClockModel_through_242 : decode b_SkeletonClockModel_through 242 = .ok (.isub, 1) := by decide +kernel
theorem d_SkeletonClockModel_through_243 : decode b_SkeletonClockModel_through 243 = .ok (.iaload, 1) := by decide +kernel
theorem d_SkeletonClockModel_through_244 : decode b_SkeletonClockModel_through 244 = .ok (.iadd, 1) := by decide +kernel
theorem d_SkeletonClockModel_through_245 : decode b_SkeletonClockModel_through 245 = .ok (.iaload, 1) := by decide +kernel
theorem d_SkeletonClockModel_through_246 : decode b_SkeletonClockModel_through 246 = .ok (.iload_n 3, 1) := by decide +kernel
theorem d_SkeletonClockModel_through_247 : decode b_SkeletonClockModel_through 247 = .ok (.if_icmp .ne (-216), 3) := by decide +kernel
theorem d_SkeletonClockModel_through_250 : decode b_SkeletonClockModel_through 250 = .ok (.iinc 4 (-1), 3) := by decide +kernel
theorem d_SkeletonClockModel_through_253 : decode b_SkeletonClockModel_through 253 = .ok (.goto (-31), 3) := by decide +kernel
theorem d_SkeletonClockModel_through_256 : decode b_SkeletonClockModel_through 256 = .ok (.iload_n 2, 1) := by decide +kernel
theorem d_SkeletonClockModel_through_257 : decode b_SkeletonClockModel_through 257 = .ok (.aload_n 0, 1) := by decide +kernel
theorem d_SkeletonClockModel_through_258 : decode b_SkeletonClockModel_through 258 = .ok (.getfield 181, 3) := by decide +kernel
theorem d_SkeletonClockModel_through_261 : decode b_SkeletonClockModel_through 261 = .ok (.if_icmp .ne 7, 3) := by decide +kernel
theorem d_SkeletonClockModel_through_264 : decode b_SkeletonClockModel_through 264 = .ok (.iconst (-1), 1) := by decide +kernel
theorem d_SkeletonClockModel_through_265 : decode b_SkeletonClockModel_through 265 = .ok (.goto 4, 3) := by decide +kernel
theorem d_SkeletonClockModel_through_268 : decode b_SkeletonClockModel_through 268 = .ok (.iload_n 2, 1) := by decide +kernel
theorem d_SkeletonClockModel_through_269 : decode b_SkeletonClockModel_through 269 = .ok (.ireturn, 1) := by decide +kernel
theorem d_SkeletonClockModel_within_0 : decode b_SkeletonClockModel_within 0 = .ok (.aload_n 0, 1) := by decide +kernel
theorem d_SkeletonClockModel_within_1 : decode b_SkeletonClockModel_within 1 = .ok (.getfield 56, 3) := by decide +kernel
theorem d_SkeletonClockModel_within_4 : decode b_SkeletonClockModel_within 4 = .ok (.iload_n 1, 1) := by decide +kernel
theorem d_SkeletonClockModel_within_5 : decode b_SkeletonClockModel_within 5 = .ok (.baload, 1) := by decide +kernel
theorem d_SkeletonClockModel_within_6 : decode b_SkeletonClockModel_within 6 = .ok (.ifCond .eq 26, 3) := by decide +kernel
theorem d_SkeletonClockModel_within_9 : decode b_SkeletonClockModel_within 9 = .ok (.aload_n 0, 1) := by decide +kernel
theorem d_SkeletonClockModel_within_10 : decode b_SkeletonClockModel_within 10 = .ok (.getfield 59, 3) := by decide +kernel
theorem d_SkeletonClockModel_within_13 : decode b_SkeletonClockModel_within 13 = .ok (.iload_n 1, 1) := by decide +kernel
theorem d_SkeletonClockModel_within_14 : decode b_SkeletonClockModel_within 14 = .ok (.laload, 1) := by decide +kernel
theorem d_SkeletonClockModel_within_15 : decode b_SkeletonClockModel_within 15 = .ok (.lload_n 2, 1) := by decide +kernel
theorem d_SkeletonClockModel_within_16 : decode b_SkeletonClockModel_within 16 = .ok (.lcmp, 1) := by decide +kernel
theorem d_SkeletonClockModel_within_17 : decode b_SkeletonClockModel_within 17 = .ok (.ifCond .lt 19, 3) := by decide +kernel
theorem d_SkeletonClockModel_within_20 : decode b_SkeletonClockModel_within 20 = .ok (.aload_n 0, 1) := by decide +kernel
theorem d_SkeletonClockModel_within_21 : decode b_SkeletonClockModel_within 21 = .ok (.getfield 59, 3) := by decide +kernel
theorem d_SkeletonClockModel_within_24 : decode b_SkeletonClockModel_within 24 = .ok (.iload_n 1, 1) := by decide +kernel
theorem d_SkeletonClockModel_within_25 : decode b_SkeletonClockModel_within 25 = .ok (.laload, 1) := by decide +kernel
theorem d_SkeletonClockModel_within_26 : decode b_SkeletonClockModel_within 26 = .ok (.lload 4, 2) := by decide +kernel
theorem d_SkeletonClockModel_within_28 : decode b_SkeletonClockModel_within 28 = .ok (.lcmp, 1) := by decide +kernel
theorem d_SkeletonClockModel_within_29 : decode b_SkeletonClockModel_within 29 = .ok (.ifCond .gt 7, 3) := by decide +kernel
theorem d_SkeletonClockModel_within_32 : decode b_SkeletonClockModel_within 32 = .ok (.iconst 1, 1) := by decide +kernel
theorem d_SkeletonClockModel_within_33 : decode b_SkeletonClockModel_within 33 = .ok (.goto 4, 3) := by decide +kernel
theorem d_SkeletonClockModel_within_36 : decode b_SkeletonClockModel_within 36 = .ok (.iconst 0, 1) := by decide +kernel
theorem d_SkeletonClockModel_within_37 : decode b_SkeletonClockModel_within 37 = .ok (.ireturn, 1) := by decide +kernel
theorem d_SkeletonClockModel_some_0 : decode b_SkeletonClockModel_some 0 = .ok (.iconst 0, 1) := by decide +kernel
theorem d_SkeletonClockModel_some_1 : decode b_SkeletonClockModel_some 1 = .ok (.istore_n 3, 1) := by decide +kernel
theorem d_SkeletonClockModel_some_2 : decode b_SkeletonClockModel_some 2 = .ok (.iload_n 1, 1) := by decide +kernel
theorem d_SkeletonClockModel_some_3 : decode b_SkeletonClockModel_some 3 = .ok (.istore 4, 2) := by decide +kernel
theorem d_SkeletonClockModel_some_5 : decode b_SkeletonClockModel_some 5 = .ok (.iload 4, 2) := by decide +kernel
theorem d_SkeletonClockModel_some_7 : decode b_SkeletonClockModel_some 7 = .ok (.iload_n 2, 1) := by decide +kernel
theorem d_SkeletonClockModel_some_8 : decode b_SkeletonClockModel_some 8 = .ok (.if_icmp .gt 29, 3) := by decide +kernel
theorem d_SkeletonClockModel_some_11 : decode b_SkeletonClockModel_some 11 = .ok (.iload_n 3, 1) := by decide +kernel
theorem d_SkeletonClockModel_some_12 : decode b_SkeletonClockModel_some 12 = .ok (.ifCond .ne 13, 3) := by decide +kernel
theorem d_SkeletonClockModel_some_15 : decode b_SkeletonClockModel_some 15 = .ok (.aload_n 0, 1) := by decide +kernel
theorem d_SkeletonClockModel_some_16 : decode b_SkeletonClockModel_some 16 = .ok (.getfield 56, 3) := by decide +kernel
theorem d_SkeletonClockModel_some_19 : decode b_SkeletonClockModel_some 19 = .ok (.iload 4, 2) := by decide +kernel
theorem d_SkeletonClockModel_some_21 : decode b_SkeletonClockModel_some 21 = .ok (.baload, 1) := by decide +kernel
theorem d_SkeletonClockModel_some_22 : decode b_SkeletonClockModel_some 22 = .ok (.ifCond .eq 7, 3) := by decide +kernel
theorem d_SkeletonClockModel_some_25 : decode b_SkeletonClockModel_some 25 = .ok (.iconst 1, 1) := by decide +kernel
theorem d_SkeletonClockModel_some_26 : decode b_SkeletonClockModel_some 26 = .ok (.goto 4, 3) := by decide +kernel
theorem d_SkeletonClockModel_some_29 : decode b_SkeletonClockModel_some 29 = .ok (.iconst 0, 1) := by decide +kernel
theorem d_SkeletonClockModel_some_30 : decode b_SkeletonClockModel_some 30 = .ok (.istore_n 3, 1) := by decide +kernel
theorem d_SkeletonClockModel_some_31 : decode b_SkeletonClockModel_some 31 = .ok (.iinc 4 1, 3) := by decide +kernel
theorem d_SkeletonClockModel_some_34 : decode b_SkeletonClockModel_some 34 = .ok (.goto (-29), 3) := by decide +kernel
theorem d_SkeletonClockModel_some_37 : decode b_SkeletonClockModel_some 37 = .ok (.iload_n 3, 1) := by decide +kernel
theorem d_SkeletonClockModel_some_38 : decode b_SkeletonClockModel_some 38 = .ok (.ireturn, 1) := by decide +kernel
theorem d_SkeletonClockModel_rule_0 : decode b_SkeletonClockModel_rule 0 = .ok (.aload_n 0, 1) := by decide +kernel
theorem d_SkeletonClockModel_rule_1 : decode b_SkeletonClockModel_rule 1 = .ok (.getfield 56, 3) := by decide +kernel
theorem d_SkeletonClockModel_rule_4 : decode b_SkeletonClockModel_rule 4 = .ok (.iconst 0, 1) := by decide +kernel
theorem d_SkeletonClockModel_rule_5 : decode b_SkeletonClockModel_rule 5 = .ok (.baload, 1) := by decide +kernel
theorem d_SkeletonClockModel_rule_6 : decode b_SkeletonClockModel_rule 6 = .ok (.ifCond .eq 23, 3) := by decide +kernel
theorem d_SkeletonClockModel_rule_9 : decode b_SkeletonClockModel_rule 9 = .ok (.aload_n 0, 1) := by decide +kernel
theorem d_SkeletonClockModel_rule_10 : decode b_SkeletonClockModel_rule 10 = .ok (.getfield 56, 3) := by decide +kernel
theorem d_SkeletonClockModel_rule_13 : decode b_SkeletonClockModel_rule 13 = .ok (.iconst 1, 1) := by decide +kernel
theorem d_SkeletonClockModel_rule_14 : decode b_SkeletonClockModel_rule 14 = .ok (.baload, 1) := by decide +kernel
theorem d_SkeletonClockModel_rule_15 : decode b_SkeletonClockModel_rule 15 = .ok (.ifCond .eq 14, 3) := by decide +kernel
theorem d_SkeletonClockModel_rule_18 : decode b_SkeletonClockModel_rule 18 = .ok (.aload_n 0, 1) := by decide +kernel
theorem d_SkeletonClockModel_rule_19 : decode b_SkeletonClockModel_rule 19 = .ok (.getfield 56, 3) := by decide +kernel
theorem d_SkeletonClockModel_rule_22 : decode b_SkeletonClockModel_rule 22 = .ok (.iconst 2, 1) := by decide +kernel
theorem d_SkeletonClockModel_rule_23 : decode b_SkeletonClockModel_rule 23 = .ok (.baload, 1) := by decide +kernel
theorem d_SkeletonClockModel_rule_24 : decode b_SkeletonClockModel_rule 24 = .ok (.ifCond .eq 5, 3) := by decide +kernel
theorem d_SkeletonClockModel_rule_27 : decode b_SkeletonClockModel_rule 27 = .ok (.iconst 1, 1) := by decide +kernel
theorem d_SkeletonClockModel_rule_28 : decode b_SkeletonClockModel_rule 28 = .ok (.ireturn, 1) := by decide +kernel
theorem d_SkeletonClockModel_rule_29 : decode b_SkeletonClockModel_rule 29 = .ok (.aload_n 0, 1) := by decide +kernel
theorem d_SkeletonClockModel_rule_30 : decode b_SkeletonClockModel_rule 30 = .ok (.getfield 56, 3) := by decide +kernel
theorem d_SkeletonClockModel_rule_33 : decode b_SkeletonClockModel_rule 33 = .ok (.iconst 0, 1) := by decide +kernel
theorem d_SkeletonClockModel_rule_34 : decode b_SkeletonClockModel_rule 34 = .ok (.baload, 1) := by decide +kernel
theorem d_SkeletonClockModel_rule_35 : decode b_SkeletonClockModel_rule 35 = .ok (.ifCond .eq 16, 3) := by decide +kernel
theorem d_SkeletonClockModel_rule_38 : decode b_SkeletonClockModel_rule 38 = .ok (.aload_n 0, 1) := by decide +kernel
theorem d_SkeletonClockModel_rule_39 : decode b_SkeletonClockModel_rule 39 = .ok (.getfield 56, 3) := by decide +kernel
theorem d_SkeletonClockModel_rule_42 : decode b_SkeletonClockModel_rule 42 = .ok (.iconst 3, 1) := by decide +kernel
theorem d_SkeletonClockModel_rule_43 : decode b_SkeletonClockModel_rule 43 = .ok (.baload, 1) := by decide +kernel
theorem d_SkeletonClockModel_rule_44 : decode b_SkeletonClockModel_rule 44 = .ok (.ifCond .eq 7, 3) := by decide +kernel
theorem d_SkeletonClockModel_rule_47 : decode b_SkeletonClockModel_rule 47 = .ok (.iconst 2, 1) := by decide +kernel
theorem d_SkeletonClockModel_rule_48 : decode b_SkeletonClockModel_rule 48 = .ok (.goto 36, 3) := by decide +kernel
theorem d_SkeletonClockModel_rule_51 : decode b_SkeletonClockModel_rule 51 = .ok (.aload_n 0, 1) := by decide +kernel
theorem d_SkeletonClockModel_rule_52 : decode b_SkeletonClockModel_rule 52 = .ok (.getfield 56, 3) := by decide +kernel
theorem d_SkeletonClockModel_rule_55 : decode b_SkeletonClockModel_rule 55 = .ok (.bipush 6, 2) := by decide +kernel
theorem d_SkeletonClockModel_rule_57 : decode b_SkeletonClockModel_rule 57 = .ok (.baload, 1) := by decide +kernel
theorem d_SkeletonClockModel_rule_58 : decode b_SkeletonClockModel_rule 58 = .ok (.ifCond .eq 25, 3) := by decide +kernel
theorem d_SkeletonClockModel_rule_61 : decode b_SkeletonClockModel_rule 61 = .ok (.aload_n 0, 1) := by decide +kernel
theorem d_SkeletonClockModel_rule_62 : decode b_SkeletonClockModel_rule 62 = .ok (.getfield 56, 3) := by decide +kernel
theorem d_SkeletonClockModel_rule_65 : decode b_SkeletonClockModel_rule 65 = .ok (.iconst 5, 1) := by decide +kernel
theorem d_SkeletonClockModel_rule_66 : decode b_SkeletonClockModel_rule 66 = .ok (.baload, 1) := by decide +kernel
theorem d_SkeletonClockModel_rule_67 : decode b_SkeletonClockModel_rule 67 = .ok (.ifCond .eq 16, 3) := by decide +kernel
theorem d_SkeletonClockModel_rule_70 : decode b_SkeletonClockModel_rule 70 = .ok (.aload_n 0, 1) := by decide +kernel
theorem d_SkeletonClockModel_rule_71 : decode b_SkeletonClockModel_rule 71 = .ok (.getfield 56, 3) := by decide +kernel
theorem d_SkeletonClockModel_rule_74 : decode b_SkeletonClockModel_rule 74 = .ok (.iconst 4, 1) := by decide +kernel
theorem d_SkeletonClockModel_rule_75 : decode b_SkeletonClockModel_rule 75 = .ok (.baload, 1) := by decide +kernel
theorem d_SkeletonClockModel_rule_76 : decode b_SkeletonClockModel_rule 76 = .ok (.ifCond .eq 7, 3) := by decide +kernel
theorem d_SkeletonClockModel_rule_79 : decode b_SkeletonClockModel_rule 79 = .ok (.iconst 3, 1) := by decide +kernel
theorem d_SkeletonClockModel_rule_80 : decode b_SkeletonClockModel_rule 80 = .ok (.goto 4, 3) := by decide +kernel
theorem d_SkeletonClockModel_rule_83 : decode b_SkeletonClockModel_rule 83 = .ok (.iconst 0, 1) := by decide +kernel
theorem d_SkeletonClockModel_rule_84 : decode b_SkeletonClockModel_rule 84 = .ok (.ireturn, 1) := by decide +kernel
abbrev rm_SkeletonClockModel_through : Room := { frames := 4, cells := 0, slots := 0, locals := 108 }
set_option maxHeartbeats 4000000 in
set_option maxRecDepth 100000 in
theorem w_SkeletonClockModel_through_10 {p : Program} {l : Launch} {e : Env} {s : State} {m : MethodId} {args : Array Value} {below : List Frame} {meth : Method} {c : Code} {Q : State → Prop} {A : Nat → Prop} {D : va_G} {kk : Nat → ClassId} {st : Nat → Nat} (a_t a_t_text a_t_names a_t_sort a_t_code a_t_count a_t_around a_t_end a_t_size a_t_known a_t_value a_t_before a_t_open a_t_from a_t_page a_t_there a_t_wish a_t_have : Nat) (t_length : Int32) (t_used : Int32) (t_far : Int32) (t_momentParts : Int32) (t_momentDay : Int64) (t_momentSecond : Int32) (t_momentNano : Int32) (t_momentOffset : Int32) (t_readParts : Int32) (t_readDay : Int64) (t_readSecond : Int32) (t_readNano : Int32) (t_readOffset : Int32) (t_alike : Int32) (t_text : Nat → Int32) (t_names : Nat → Int64) (t_sort : Nat → Int32) (t_code : Nat → Int32) (t_count : Nat → Int32) (t_around : Nat → Int32) (t_end : Nat → Int32) (t_size : Nat → Int32) (t_value : Nat → Int64) (t_before : Nat → Int32) (t_open : Nat → Int32) (t_from : Nat → Int32) (x1 : Int32) (x2 : Int32) (x3 : Int32) (x4 : Int32) (S : CallFix p m c b_SkeletonClockModel_through 7 s args GW y_SkeletonClockModel_through.cls) (hr : meth.sig.returnType = (some .int)) (hlk : meth.locks = false) (hA : ∀ q, s.heap.size ≤ q → A q) (X : KX D kk st A s) : ∀ (n : Nat) (x5 : Int32) (t_known : Nat → Int32) (v : Int32 × (Nat → Int32)) (H : Heap) (locs : List Loc) (ls : Array Slot), lp_SkeletonClockModel_through_10 x1 x2 x3 x4 n x5 t_known = some v → lv_has ls 7 [(0, .ref a_t), (1, .int x1), (2, .int x2), (3, .int x3), (4, .int x4), (5, .int x5)] → va_P D classes [(a_t, .inr (10, [.int t_length, .ref a_t_text, .int t_used, .ref a_t_page, .ref a_t_names, .ref a_t_sort, .ref a_t_code, .ref a_t_count, .ref a_t_around, .ref a_t_end, .ref a_t_size, .ref a_t_there, .ref a_t_wish, .ref a_t_have, .int t_far, .int t_momentParts, .long t_momentDay, .int t_momentSecond, .int t_momentNano, .int t_momentOffset, .int t_readParts, .long t_readDay, .int t_readSecond, .int t_readNano, .int t_readOffset, .ref a_t_known, .ref a_t_value, .ref a_t_before, .ref a_t_open, .ref a_t_from, .int t_alike])), (a_t_text, .inl (kk 1, 60, .inl t_text)), (a_t_names, .inl (kk 3, 21, .inr (.inl t_names))), (a_t_sort, .inl (kk 0, 140, .inl t_sort)), (a_t_code, .inl (kk 0, 140, .inl t_code)), (a_t_count, .inl (kk 0, 140, .inl t_count)), (a_t_around, .inl (kk 0, 140, .inl t_around)), (a_t_end, .inl (kk 0, 140, .inl t_end)), (a_t_size, .inl (kk 0, 7, .inl t_size)), (a_t_known, .inl (kk 2, 14, .inl t_known)), (a_t_value, .inl (kk 3, 14, .inr (.inl t_value))), (a_t_before, .inl (kk 2, 280, .inl t_before)), (a_t_open, .inl (kk 0, 20, .inl t_open)), (a_t_from, .inl (kk 0, 20, .inl t_from))] H → va_D A [(a_t, .inr (10, [.int t_length, .ref a_t_text, .int t_used, .ref a_t_page, .ref a_t_names, .ref a_t_sort, .ref a_t_code, .ref a_t_count, .ref a_t_around, .ref a_t_end, .ref a_t_size, .ref a_t_there, .ref a_t_wish, .ref a_t_have, .int t_far, .int t_momentParts, .long t_momentDay, .int t_momentSecond, .int t_momentNano, .int t_momentOffset, .int t_readParts, .long t_readDay, .int t_readSecond, .int t_readNano, .int t_readOffset, .ref a_t_known, .ref a_t_value, .ref a_t_before, .ref a_t_open, .ref a_t_from, .int t_alike])), (a_t_text, .inl (kk 1, 60, .inl t_text)), (a_t_names, .inl (kk 3, 21, .inr (.inl t_names))), (a_t_sort, .inl (kk 0, 140, .inl t_sort)), (a_t_code, .inl (kk 0, 140, .inl t_code)), (a_t_count, .inl (kk 0, 140, .inl t_count)), (a_t_around, .inl (kk 0, 140, .inl t_around)), (a_t_end, .inl (kk 0, 140, .inl t_end)), (a_t_size, .inl (kk 0, 7, .inl t_size)), (a_t_known, .inl (kk 2, 14, .inl t_known)), (a_t_value, .inl (kk 3, 14, .inr (.inl t_value))), (a_t_before, .inl (kk 2, 280, .inl t_before)), (a_t_open, .inl (kk 0, 20, .inl t_open)), (a_t_from, .inl (kk 0, 20, .inl t_from))] → va_S A s.heap H locs → (∀ (H : Heap) (locs : List Loc) (ls : Array Slot), lv_has ls 7 [(0, .ref a_t), (1, .int x1), (2, .int x2), (3, .int x3), (4, .int x4), (5, .int v.1)] → va_P D classes [(a_t, .inr (10, [.int t_length, .ref a_t_text, .int t_used, .ref a_t_page, .ref a_t_names, .ref a_t_sort, .ref a_t_code, .ref a_t_count, .ref a_t_around, .ref a_t_end, .ref a_t_size, .ref a_t_there, .ref a_t_wish, .ref a_t_have, .int t_far, .int t_momentParts, .long t_momentDay, .int t_momentSecond, .int t_momentNano, .int t_momentOffset, .int t_readParts, .long t_readDay, .int t_readSecond, .int t_readNano, .int t_readOffset, .ref a_t_known, .ref a_t_value, .ref a_t_before, .ref a_t_open, .ref a_t_from, .int t_alike])), (a_t_text, .inl (kk 1, 60, .inl t_text)), (a_t_names, .inl (kk 3, 21, .inr (.inl t_names))), (a_t_sort, .inl (kk 0, 140, .inl t_sort)), (a_t_code, .inl (kk 0, 140, .inl t_code)), (a_t_count, .inl (kk 0, 140, .inl t_count)), (a_t_around, .inl (kk 0, 140, .inl t_around)), (a_t_end, .inl (kk 0, 140, .inl t_end)), (a_t_size, .inl (kk 0, 7, .inl t_size)), (a_t_known, .inl (kk 2, 14, .inl v.2)), (a_t_value, .inl (kk 3, 14, .inr (.inl t_value))), (a_t_before, .inl (kk 2, 280, .inl t_before)), (a_t_open, .inl (kk 0, 20, .inl t_open)), (a_t_from, .inl (kk 0, 20, .inl t_from))] H → va_D A [(a_t, .inr (10, [.int t_length, .ref a_t_text, .int t_used, .ref a_t_page, .ref a_t_names, .ref a_t_sort, .ref a_t_code, .ref a_t_count, .ref a_t_around, .ref a_t_end, .ref a_t_size, .ref a_t_there, .ref a_t_wish, .ref a_t_have, .int t_far, .int t_momentParts, .long t_momentDay, .int t_momentSecond, .int t_momentNano, .int t_momentOffset, .int t_readParts, .long t_readDay, .int t_readSecond, .int t_readNano, .int t_readOffset, .ref a_t_known, .ref a_t_value, .ref a_t_before, .ref a_t_open, .ref a_t_from, .int t_alike])), (a_t_text, .inl (kk 1, 60, .inl t_text)), (a_t_names, .inl (kk 3, 21, .inr (.inl t_names))), (a_t_sort, .inl (kk 0, 140, .inl t_sort)), (a_t_code, .inl (kk 0, 140, .inl t_code)), (a_t_count, .inl (kk 0, 140, .inl t_count)), (a_t_around, .inl (kk 0, 140, .inl t_around)), (a_t_end, .inl (kk 0, 140, .inl t_end)), (a_t_size, .inl (kk 0, 7, .inl t_size)), (a_t_known, .inl (kk 2, 14, .inl v.2)), (a_t_value, .inl (kk 3, 14, .inr (.inl t_value))), (a_t_before, .inl (kk 2, 280, .inl t_before)), (a_t_open, .inl (kk 0, 20, .inl t_open)), (a_t_from, .inl (kk 0, 20, .inl t_from))] → va_S A s.heap H locs → W p l e rm_SkeletonClockModel_through s m args below meth c H locs 0 0 Q (F0 m 31 ls [])) → W p l e rm_SkeletonClockModel_through s m args below meth c H locs 0 0 Q (F0 m 10 ls []) := by
  intro n
  induction n with
  | zero =>
    intro x5 t_known v H locs ls he hl hP hD hS K
    exact ih_n he
  | succ n ih =>
    intro x5 t_known v H locs ls he hl hP hD hS K
    have hx := S.1
    have hb := S.2.1
    have he : st_SkeletonClockModel_through_10 x1 x2 x3 x4 (lp_SkeletonClockModel_through_10 x1 x2 x3 x4 n) x5 t_known = some v := he
    unfold st_SkeletonClockModel_through_10 at he
    refine lv_iload hx hb d_SkeletonClockModel_through_10 (lv_at hl 5 rfl) ?_
    refine lv_bipush (v := (14 : Int32)) hx hb d_SkeletonClockModel_through_12 (by decide) ?_
    refine lv_icmp_ge (tgt := 31) hx hb d_SkeletonClockModel_through_14 rfl (fun hc => ?_) (fun hc => ?_)
    · have he := ih_t hc he
      have hl : lv_has ls 7 [(0, .ref a_t), (1, .int x1), (2, .int x2), (3, .int x3), (4, .int x4), (5, .int x5)] := lv_sub hl [0, 1, 2, 3, 4, 5] rfl
      cases he
      exact K _ _ _ hl hP hD hS
    · have he := ih_f hc he
      refine lv_aload_n hx hb d_SkeletonClockModel_through_17 rfl (lv_at hl 0 rfl) ?_
      refine k_get S X us_SkeletonClockModel hP 0 rfl rfl 25 (by decide) gm_4_176 rfl d_SkeletonClockModel_through_18 ?_
      refine lv_iload hx hb d_SkeletonClockModel_through_21 (lv_at hl 5 rfl) ?_
      refine lv_iconst (v := (0 : Int32)) hx hb d_SkeletonClockModel_through_23 (by decide) ?_
      obtain ⟨hi1, he⟩ := ih_g he
      refine va_zast hx hb X.1 hP hD hS 9 2 rfl rfl hi1 d_SkeletonClockModel_through_24 (fun H locs hP hD hS => ?_)
      have hP : va_P D classes [(a_t, .inr (10, [.int t_length, .ref a_t_text, .int t_used, .ref a_t_page, .ref a_t_names, .ref a_t_sort, .ref a_t_code, .ref a_t_count, .ref a_t_around, .ref a_t_end, .ref a_t_size, .ref a_t_there, .ref a_t_wish, .ref a_t_have, .int t_far, .int t_momentParts, .long t_momentDay, .int t_momentSecond, .int t_momentNano, .int t_momentOffset, .int t_readParts, .long t_readDay, .int t_readSecond, .int t_readNano, .int t_readOffset, .ref a_t_known, .ref a_t_value, .ref a_t_before, .ref a_t_open, .ref a_t_from, .int t_alike])), (a_t_text, .inl (kk 1, 60, .inl t_text)), (a_t_names, .inl (kk 3, 21, .inr (.inl t_names))), (a_t_sort, .inl (kk 0, 140, .inl t_sort)), (a_t_code, .inl (kk 0, 140, .inl t_code)), (a_t_count, .inl (kk 0, 140, .inl t_count)), (a_t_around, .inl (kk 0, 140, .inl t_around)), (a_t_end, .inl (kk 0, 140, .inl t_end)), (a_t_size, .inl (kk 0, 7, .inl t_size)), (a_t_known, .inl (kk 2, 14, .inl (upd t_known (x5).toNatClampNeg (vp_nar .boolean (0 : Int32))))), (a_t_value, .inl (kk 3, 14, .inr (.inl t_value))), (a_t_before, .inl (kk 2, 280, .inl t_before)), (a_t_open, .inl (kk 0, 20, .inl t_open)), (a_t_from, .inl (kk 0, 20, .inl t_from))] H := hP
      have hD : va_D A [(a_t, .inr (10, [.int t_length, .ref a_t_text, .int t_used, .ref a_t_page, .ref a_t_names, .ref a_t_sort, .ref a_t_code, .ref a_t_count, .ref a_t_around, .ref a_t_end, .ref a_t_size, .ref a_t_there, .ref a_t_wish, .ref a_t_have, .int t_far, .int t_momentParts, .long t_momentDay, .int t_momentSecond, .int t_momentNano, .int t_momentOffset, .int t_readParts, .long t_readDay, .int t_readSecond, .int t_readNano, .int t_readOffset, .ref a_t_known, .ref a_t_value, .ref a_t_before, .ref a_t_open, .ref a_t_from, .int t_alike])), (a_t_text, .inl (kk 1, 60, .inl t_text)), (a_t_names, .inl (kk 3, 21, .inr (.inl t_names))), (a_t_sort, .inl (kk 0, 140, .inl t_sort)), (a_t_code, .inl (kk 0, 140, .inl t_code)), (a_t_count, .inl (kk 0, 140, .inl t_count)), (a_t_around, .inl (kk 0, 140, .inl t_around)), (a_t_end, .inl (kk 0, 140, .inl t_end)), (a_t_size, .inl (kk 0, 7, .inl t_size)), (a_t_known, .inl (kk 2, 14, .inl (upd t_known (x5).toNatClampNeg (vp_nar .boolean (0 : Int32))))), (a_t_value, .inl (kk 3, 14, .inr (.inl t_value))), (a_t_before, .inl (kk 2, 280, .inl t_before)), (a_t_open, .inl (kk 0, 20, .inl t_open)), (a_t_from, .inl (kk 0, 20, .inl t_from))] := hD
      refine lv_iinc (k := 5) hx hb d_SkeletonClockModel_through_25 hl rfl (ii_ (v := (1 : Int32)) (by decide)) (by decide) rfl (fun ls hl => ?_)
      have hl : lv_has ls 7 [(5, .int (x5 + (1 : Int32))), (0, .ref a_t), (1, .int x1), (2, .int x2), (3, .int x3), (4, .int x4)] := hl
      refine lv_goto (tgt := 10) hx hb d_SkeletonClockModel_through_28 rfl ?_
      have hl : lv_has ls 7 [(0, .ref a_t), (1, .int x1), (2, .int x2), (3, .int x3), (4, .int x4), (5, .int (x5 + (1 : Int32)))] := lv_sub hl [1, 2, 3, 4, 5, 0] rfl
      exact ih _ _ _ _ _ _ he hl hP hD hS K
set_option maxHeartbeats 4000000 in
set_option maxRecDepth 100000 in
theorem w_SkeletonClockModel_through_222 {p : Program} {l : Launch} {e : Env} {s : State} {m : MethodId} {args : Array Value} {below : List Frame} {meth : Method} {c : Code} {Q : State → Prop} {A : Nat → Prop} {D : va_G} {kk : Nat → ClassId} {st : Nat → Nat} (a_t a_t_text a_t_names a_t_sort a_t_code a_t_count a_t_around a_t_end a_t_size a_t_known a_t_value a_t_before a_t_open a_t_from a_t_page a_t_there a_t_wish a_t_have : Nat) (t_length : Int32) (t_used : Int32) (t_far : Int32) (t_momentParts : Int32) (t_momentDay : Int64) (t_momentSecond : Int32) (t_momentNano : Int32) (t_momentOffset : Int32) (t_readParts : Int32) (t_readDay : Int64) (t_readSecond : Int32) (t_readNano : Int32) (t_readOffset : Int32) (t_alike : Int32) (t_text : Nat → Int32) (t_names : Nat → Int64) (t_sort : Nat → Int32) (t_code : Nat → Int32) (t_count : Nat → Int32) (t_around : Nat → Int32) (t_end : Nat → Int32) (t_size : Nat → Int32) (t_known : Nat → Int32) (t_value : Nat → Int64) (t_before : Nat → Int32) (t_open : Nat → Int32) (t_from : Nat → Int32) (x1 : Int32) (x2 : Int32) (x3 : Int32) (S : CallFix p m c b_SkeletonClockModel_through 7 s args GW y_SkeletonClockModel_through.cls) (hr : meth.sig.returnType = (some .int)) (hlk : meth.locks = false) (hA : ∀ q, s.heap.size ≤ q → A q) (X : KX D kk st A s) : ∀ (n : Nat) (x4 : Int32) (v : Int32) (H : Heap) (locs : List Loc) (ls : Array Slot), lp_SkeletonClockModel_through_222 t_end t_open x1 x2 x3 n x4 = some v → lv_has ls 7 [(0, .ref a_t), (1, .int x1), (2, .int x2), (3, .int x3), (4, .int x4)] → va_P D classes [(a_t, .inr (10, [.int t_length, .ref a_t_text, .int t_used, .ref a_t_page, .ref a_t_names, .ref a_t_sort, .ref a_t_code, .ref a_t_count, .ref a_t_around, .ref a_t_end, .ref a_t_size, .ref a_t_there, .ref a_t_wish, .ref a_t_have, .int t_far, .int t_momentParts, .long t_momentDay, .int t_momentSecond, .int t_momentNano, .int t_momentOffset, .int t_readParts, .long t_readDay, .int t_readSecond, .int t_readNano, .int t_readOffset, .ref a_t_known, .ref a_t_value, .ref a_t_before, .ref a_t_open, .ref a_t_from, .int t_alike])), (a_t_text, .inl (kk 1, 60, .inl t_text)), (a_t_names, .inl (kk 3, 21, .inr (.inl t_names))), (a_t_sort, .inl (kk 0, 140, .inl t_sort)), (a_t_code, .inl (kk 0, 140, .inl t_code)), (a_t_count, .inl (kk 0, 140, .inl t_count)), (a_t_around, .inl (kk 0, 140, .inl t_around)), (a_t_end, .inl (kk 0, 140, .inl t_end)), (a_t_size, .inl (kk 0, 7, .inl t_size)), (a_t_known, .inl (kk 2, 14, .inl t_known)), (a_t_value, .inl (kk 3, 14, .inr (.inl t_value))), (a_t_before, .inl (kk 2, 280, .inl t_before)), (a_t_open, .inl (kk 0, 20, .inl t_open)), (a_t_from, .inl (kk 0, 20, .inl t_from))] H → va_D A [(a_t, .inr (10, [.int t_length, .ref a_t_text, .int t_used, .ref a_t_page, .ref a_t_names, .ref a_t_sort, .ref a_t_code, .ref a_t_count, .ref a_t_around, .ref a_t_end, .ref a_t_size, .ref a_t_there, .ref a_t_wish, .ref a_t_have, .int t_far, .int t_momentParts, .long t_momentDay, .int t_momentSecond, .int t_momentNano, .int t_momentOffset, .int t_readParts, .long t_readDay, .int t_readSecond, .int t_readNano, .int t_readOffset, .ref a_t_known, .ref a_t_value, .ref a_t_before, .ref a_t_open, .ref a_t_from, .int t_alike])), (a_t_text, .inl (kk 1, 60, .inl t_text)), (a_t_names, .inl (kk 3, 21, .inr (.inl t_names))), (a_t_sort, .inl (kk 0, 140, .inl t_sort)), (a_t_code, .inl (kk 0, 140, .inl t_code)), (a_t_count, .inl (kk 0, 140, .inl t_count)), (a_t_around, .inl (kk 0, 140, .inl t_around)), (a_t_end, .inl (kk 0, 140, .inl t_end)), (a_t_size, .inl (kk 0, 7, .inl t_size)), (a_t_known, .inl (kk 2, 14, .inl t_known)), (a_t_value, .inl (kk 3, 14, .inr (.inl t_value))), (a_t_before, .inl (kk 2, 280, .inl t_before)), (a_t_open, .inl (kk 0, 20, .inl t_open)), (a_t_from, .inl (kk 0, 20, .inl t_from))] → va_S A s.heap H locs → (∀ (H : Heap) (locs : List Loc) (ls : Array Slot), lv_has ls 7 [(0, .ref a_t), (1, .int x1), (2, .int x2), (3, .int x3), (4, .int v)] → va_P D classes [(a_t, .inr (10, [.int t_length, .ref a_t_text, .int t_used, .ref a_t_page, .ref a_t_names, .ref a_t_sort, .ref a_t_code, .ref a_t_count, .ref a_t_around, .ref a_t_end, .ref a_t_size, .ref a_t_there, .ref a_t_wish, .ref a_t_have, .int t_far, .int t_momentParts, .long t_momentDay, .int t_momentSecond, .int t_momentNano, .int t_momentOffset, .int t_readParts, .long t_readDay, .int t_readSecond, .int t_readNano, .int t_readOffset, .ref a_t_known, .ref a_t_value, .ref a_t_before, .ref a_t_open, .ref a_t_from, .int t_alike])), (a_t_text, .inl (kk 1, 60, .inl t_text)), (a_t_names, .inl (kk 3, 21, .inr (.inl t_names))), (a_t_sort, .inl (kk 0, 140, .inl t_sort)), (a_t_code, .inl (kk 0, 140, .inl t_code)), (a_t_count, .inl (kk 0, 140, .inl t_count)), (a_t_around, .inl (kk 0, 140, .inl t_around)), (a_t_end, .inl (kk 0, 140, .inl t_end)), (a_t_size, .inl (kk 0, 7, .inl t_size)), (a_t_known, .inl (kk 2, 14, .inl t_known)), (a_t_value, .inl (kk 3, 14, .inr (.inl t_value))), (a_t_before, .inl (kk 2, 280, .inl t_before)), (a_t_open, .inl (kk 0, 20, .inl t_open)), (a_t_from, .inl (kk 0, 20, .inl t_from))] H → va_D A [(a_t, .inr (10, [.int t_length, .ref a_t_text, .int t_used, .ref a_t_page, .ref a_t_names, .ref a_t_sort, .ref a_t_code, .ref a_t_count, .ref a_t_around, .ref a_t_end, .ref a_t_size, .ref a_t_there, .ref a_t_wish, .ref a_t_have, .int t_far, .int t_momentParts, .long t_momentDay, .int t_momentSecond, .int t_momentNano, .int t_momentOffset, .int t_readParts, .long t_readDay, .int t_readSecond, .int t_readNano, .int t_readOffset, .ref a_t_known, .ref a_t_value, .ref a_t_before, .ref a_t_open, .ref a_t_from, .int t_alike])), (a_t_text, .inl (kk 1, 60, .inl t_text)), (a_t_names, .inl (kk 3, 21, .inr (.inl t_names))), (a_t_sort, .inl (kk 0, 140, .inl t_sort)), (a_t_code, .inl (kk 0, 140, .inl t_code)), (a_t_count, .inl (kk 0, 140, .inl t_count)), (a_t_around, .inl (kk 0, 140, .inl t_around)), (a_t_end, .inl (kk 0, 140, .inl t_end)), (a_t_size, .inl (kk 0, 7, .inl t_size)), (a_t_known, .inl (kk 2, 14, .inl t_known)), (a_t_value, .inl (kk 3, 14, .inr (.inl t_value))), (a_t_before, .inl (kk 2, 280, .inl t_before)), (a_t_open, .inl (kk 0, 20, .inl t_open)), (a_t_from, .inl (kk 0, 20, .inl t_from))] → va_S A s.heap H locs → W p l e rm_SkeletonClockModel_through s m args below meth c H locs 0 0 Q (F0 m 31 ls [])) → W p l e rm_SkeletonClockModel_through s m args below meth c H locs 0 0 Q (F0 m 222 ls []) := by
  intro n
  induction n with
  | zero =>
    intro x4 v H locs ls he hl hP hD hS K
    exact ih_n he
  | succ n ih =>
    intro x4 v H locs ls he hl hP hD hS K
    have hx := S.1
    have hb := S.2.1
    have he : st_SkeletonClockModel_through_222 t_end t_open x1 x2 x3 (lp_SkeletonClockModel_through_222 t_end t_open x1 x2 x3 n) x4 = some v := he
    unfold st_SkeletonClockModel_through_222 at he
    refine lv_iload hx hb d_SkeletonClockModel_through_222 (lv_at hl 4 rfl) ?_
    refine lv_if_le (tgt := 31) hx hb d_SkeletonClockModel_through_224 rfl (fun hc => ?_) (fun hc => ?_)
    · have he := ih_t hc he
      have hl : lv_has ls 7 [(0, .ref a_t), (1, .int x1), (2, .int x2), (3, .int x3), (4, .int x4)] := lv_sub hl [0, 1, 2, 3, 4] rfl
      cases he
      exact K _ _ _ hl hP hD hS
    · have he := ih_f hc he
      refine lv_aload_n hx hb d_SkeletonClockModel_through_227 rfl (lv_at hl 0 rfl) ?_
      refine k_get S X us_SkeletonClockModel hP 0 rfl rfl 9 (by decide) gm_4_160 rfl d_SkeletonClockModel_through_228 ?_
      refine lv_bipush (v := (20 : Int32)) hx hb d_SkeletonClockModel_through_231 (by decide) ?_
      refine lv_iload_n hx hb d_SkeletonClockModel_through_233 rfl (lv_at hl 1 rfl) ?_
      refine lv_imul hx hb d_SkeletonClockModel_through_234 ?_
      refine lv_aload_n hx hb d_SkeletonClockModel_through_235 rfl (lv_at hl 0 rfl) ?_
      refine k_get S X us_SkeletonClockModel hP 0 rfl rfl 28 (by decide) gm_4_179 rfl d_SkeletonClockModel_through_236 ?_
      refine lv_iload hx hb d_SkeletonClockModel_through_239 (lv_at hl 4 rfl) ?_
      refine lv_iconst (v := (1 : Int32)) hx hb d_SkeletonClockModel_through_241 (by decide) ?_
      refine lv_isub hx hb d_SkeletonClockModel_through_242 ?_
      obtain ⟨hi8, he⟩ := ih_g he
      refine va_iald hx hb X.1 hP 12 0 rfl rfl hi8 d_SkeletonClockModel_through_243 ?_
      refine lv_iadd hx hb d_SkeletonClockModel_through_244 ?_
      obtain ⟨hi9, he⟩ := ih_g he
      refine va_iald hx hb X.1 hP 7 0 rfl rfl hi9 d_SkeletonClockModel_through_245 ?_
      refine lv_iload_n hx hb d_SkeletonClockModel_through_246 rfl (lv_at hl 3 rfl) ?_
      refine lv_icmp_ne (tgt := 31) hx hb d_SkeletonClockModel_through_247 rfl (fun hc => ?_) (fun hc => ?_)
      · have he := ih_f hc he
        have hl : lv_has ls 7 [(0, .ref a_t), (1, .int x1), (2, .int x2), (3, .int x3), (4, .int x4)] := lv_sub hl [0, 1, 2, 3, 4] rfl
        cases he
        exact K _ _ _ hl hP hD hS
      · have he := ih_t hc he
        refine lv_iinc (k := 4) hx hb d_SkeletonClockModel_through_250 hl rfl (ii_ (v := (-1 : Int32)) (by decide)) (by decide) rfl (fun ls hl => ?_)
        have hl : lv_has ls 7 [(4, .int (x4 + (-1 : Int32))), (0, .ref a_t), (1, .int x1), (2, .int x2), (3, .int x3)] := hl
        refine lv_goto (tgt := 222) hx hb d_SkeletonClockModel_through_253 rfl ?_
        have hl : lv_has ls 7 [(0, .ref a_t), (1, .int x1), (2, .int x2), (3, .int x3), (4, .int (x4 + (-1 : Int32)))] := lv_sub hl [1, 2, 3, 4, 0] rfl
        exact ih _ _ _ _ _ he hl hP hD hS K
set_option maxHeartbeats 4000000 in
set_option maxRecDepth 100000 in
theorem w_SkeletonClockModel_through_183 {p : Program} {l : Launch} {e : Env} {s : State} {m : MethodId} {args : Array Value} {below : List Frame} {meth : Method} {c : Code} {Q : State → Prop} {A : Nat → Prop} {D : va_G} {kk : Nat → ClassId} {st : Nat → Nat} (a_t a_t_text a_t_names a_t_sort a_t_code a_t_count a_t_around a_t_end a_t_size a_t_known a_t_value a_t_before a_t_open a_t_from a_t_page a_t_there a_t_wish a_t_have : Nat) (t_length : Int32) (t_used : Int32) (t_far : Int32) (t_momentParts : Int32) (t_momentDay : Int64) (t_momentSecond : Int32) (t_momentNano : Int32) (t_momentOffset : Int32) (t_readParts : Int32) (t_readDay : Int64) (t_readSecond : Int32) (t_readNano : Int32) (t_readOffset : Int32) (t_alike : Int32) (t_text : Nat → Int32) (t_names : Nat → Int64) (t_sort : Nat → Int32) (t_code : Nat → Int32) (t_count : Nat → Int32) (t_around : Nat → Int32) (t_end : Nat → Int32) (t_size : Nat → Int32) (t_value : Nat → Int64) (t_before : Nat → Int32) (t_open : Nat → Int32) (t_from : Nat → Int32) (x1 : Int32) (x2 : Int32) (x3 : Int32) (x4 : Int32) (S : CallFix p m c b_SkeletonClockModel_through 7 s args GW y_SkeletonClockModel_through.cls) (hr : meth.sig.returnType = (some .int)) (hlk : meth.locks = false) (hA : ∀ q, s.heap.size ≤ q → A q) (X : KX D kk st A s) : ∀ (n : Nat) (x6 : Int32) (t_known : Nat → Int32) (v : Int32 × (Nat → Int32)) (H : Heap) (locs : List Loc) (ls : Array Slot), lp_SkeletonClockModel_through_183 t_before x1 x2 x3 x4 n x6 t_known = some v → lv_has ls 7 [(0, .ref a_t), (1, .int x1), (2, .int x2), (3, .int x3), (4, .int x4), (6, .int x6)] → va_P D classes [(a_t, .inr (10, [.int t_length, .ref a_t_text, .int t_used, .ref a_t_page, .ref a_t_names, .ref a_t_sort, .ref a_t_code, .ref a_t_count, .ref a_t_around, .ref a_t_end, .ref a_t_size, .ref a_t_there, .ref a_t_wish, .ref a_t_have, .int t_far, .int t_momentParts, .long t_momentDay, .int t_momentSecond, .int t_momentNano, .int t_momentOffset, .int t_readParts, .long t_readDay, .int t_readSecond, .int t_readNano, .int t_readOffset, .ref a_t_known, .ref a_t_value, .ref a_t_before, .ref a_t_open, .ref a_t_from, .int t_alike])), (a_t_text, .inl (kk 1, 60, .inl t_text)), (a_t_names, .inl (kk 3, 21, .inr (.inl t_names))), (a_t_sort, .inl (kk 0, 140, .inl t_sort)), (a_t_code, .inl (kk 0, 140, .inl t_code)), (a_t_count, .inl (kk 0, 140, .inl t_count)), (a_t_around, .inl (kk 0, 140, .inl t_around)), (a_t_end, .inl (kk 0, 140, .inl t_end)), (a_t_size, .inl (kk 0, 7, .inl t_size)), (a_t_known, .inl (kk 2, 14, .inl t_known)), (a_t_value, .inl (kk 3, 14, .inr (.inl t_value))), (a_t_before, .inl (kk 2, 280, .inl t_before)), (a_t_open, .inl (kk 0, 20, .inl t_open)), (a_t_from, .inl (kk 0, 20, .inl t_from))] H → va_D A [(a_t, .inr (10, [.int t_length, .ref a_t_text, .int t_used, .ref a_t_page, .ref a_t_names, .ref a_t_sort, .ref a_t_code, .ref a_t_count, .ref a_t_around, .ref a_t_end, .ref a_t_size, .ref a_t_there, .ref a_t_wish, .ref a_t_have, .int t_far, .int t_momentParts, .long t_momentDay, .int t_momentSecond, .int t_momentNano, .int t_momentOffset, .int t_readParts, .long t_readDay, .int t_readSecond, .int t_readNano, .int t_readOffset, .ref a_t_known, .ref a_t_value, .ref a_t_before, .ref a_t_open, .ref a_t_from, .int t_alike])), (a_t_text, .inl (kk 1, 60, .inl t_text)), (a_t_names, .inl (kk 3, 21, .inr (.inl t_names))), (a_t_sort, .inl (kk 0, 140, .inl t_sort)), (a_t_code, .inl (kk 0, 140, .inl t_code)), (a_t_count, .inl (kk 0, 140, .inl t_count)), (a_t_around, .inl (kk 0, 140, .inl t_around)), (a_t_end, .inl (kk 0, 140, .inl t_end)), (a_t_size, .inl (kk 0, 7, .inl t_size)), (a_t_known, .inl (kk 2, 14, .inl t_known)), (a_t_value, .inl (kk 3, 14, .inr (.inl t_value))), (a_t_before, .inl (kk 2, 280, .inl t_before)), (a_t_open, .inl (kk 0, 20, .inl t_open)), (a_t_from, .inl (kk 0, 20, .inl t_from))] → va_S A s.heap H locs → (∀ (H : Heap) (locs : List Loc) (ls : Array Slot), lv_has ls 7 [(0, .ref a_t), (1, .int x1), (2, .int x2), (3, .int x3), (4, .int x4), (6, .int v.1)] → va_P D classes [(a_t, .inr (10, [.int t_length, .ref a_t_text, .int t_used, .ref a_t_page, .ref a_t_names, .ref a_t_sort, .ref a_t_code, .ref a_t_count, .ref a_t_around, .ref a_t_end, .ref a_t_size, .ref a_t_there, .ref a_t_wish, .ref a_t_have, .int t_far, .int t_momentParts, .long t_momentDay, .int t_momentSecond, .int t_momentNano, .int t_momentOffset, .int t_readParts, .long t_readDay, .int t_readSecond, .int t_readNano, .int t_readOffset, .ref a_t_known, .ref a_t_value, .ref a_t_before, .ref a_t_open, .ref a_t_from, .int t_alike])), (a_t_text, .inl (kk 1, 60, .inl t_text)), (a_t_names, .inl (kk 3, 21, .inr (.inl t_names))), (a_t_sort, .inl (kk 0, 140, .inl t_sort)), (a_t_code, .inl (kk 0, 140, .inl t_code)), (a_t_count, .inl (kk 0, 140, .inl t_count)), (a_t_around, .inl (kk 0, 140, .inl t_around)), (a_t_end, .inl (kk 0, 140, .inl t_end)), (a_t_size, .inl (kk 0, 7, .inl t_size)), (a_t_known, .inl (kk 2, 14, .inl v.2)), (a_t_value, .inl (kk 3, 14, .inr (.inl t_value))), (a_t_before, .inl (kk 2, 280, .inl t_before)), (a_t_open, .inl (kk 0, 20, .inl t_open)), (a_t_from, .inl (kk 0, 20, .inl t_from))] H → va_D A [(a_t, .inr (10, [.int t_length, .ref a_t_text, .int t_used, .ref a_t_page, .ref a_t_names, .ref a_t_sort, .ref a_t_code, .ref a_t_count, .ref a_t_around, .ref a_t_end, .ref a_t_size, .ref a_t_there, .ref a_t_wish, .ref a_t_have, .int t_far, .int t_momentParts, .long t_momentDay, .int t_momentSecond, .int t_momentNano, .int t_momentOffset, .int t_readParts, .long t_readDay, .int t_readSecond, .int t_readNano, .int t_readOffset, .ref a_t_known, .ref a_t_value, .ref a_t_before, .ref a_t_open, .ref a_t_from, .int t_alike])), (a_t_text, .inl (kk 1, 60, .inl t_text)), (a_t_names, .inl (kk 3, 21, .inr (.inl t_names))), (a_t_sort, .inl (kk 0, 140, .inl t_sort)), (a_t_code, .inl (kk 0, 140, .inl t_code)), (a_t_count, .inl (kk 0, 140, .inl t_count)), (a_t_around, .inl (kk 0, 140, .inl t_around)), (a_t_end, .inl (kk 0, 140, .inl t_end)), (a_t_size, .inl (kk 0, 7, .inl t_size)), (a_t_known, .inl (kk 2, 14, .inl v.2)), (a_t_value, .inl (kk 3, 14, .inr (.inl t_value))), (a_t_before, .inl (kk 2, 280, .inl t_before)), (a_t_open, .inl (kk 0, 20, .inl t_open)), (a_t_from, .inl (kk 0, 20, .inl t_from))] → va_S A s.heap H locs → W p l e rm_SkeletonClockModel_through s m args below meth c H locs 0 0 Q (F0 m 216 ls [])) → W p l e rm_SkeletonClockModel_through s m args below meth c H locs 0 0 Q (F0 m 183 ls []) := by
  intro n
  induction n with
  | zero =>
    intro x6 t_known v H locs ls he hl hP hD hS K
    exact ih_n he
  | succ n ih =>
    intro x6 t_known v H locs ls he hl hP hD hS K
    have hx := S.1
    have hb := S.2.1
    have he : st_SkeletonClockModel_through_183 t_before x1 x2 x3 x4 (lp_SkeletonClockModel_through_183 t_before x1 x2 x3 x4 n) x6 t_known = some v := he
    unfold st_SkeletonClockModel_through_183 at he
    refine lv_iload hx hb d_SkeletonClockModel_through_183 (lv_at hl 5 rfl) ?_
    refine lv_bipush (v := (14 : Int32)) hx hb d_SkeletonClockModel_through_185 (by decide) ?_
    refine lv_icmp_ge (tgt := 216) hx hb d_SkeletonClockModel_through_187 rfl (fun hc => ?_) (fun hc => ?_)
    · have he := ih_t hc he
      have hl : lv_has ls 7 [(0, .ref a_t), (1, .int x1), (2, .int x2), (3, .int x3), (4, .int x4), (6, .int x6)] := lv_sub hl [0, 1, 2, 3, 4, 5] rfl
      cases he
      exact K _ _ _ hl hP hD hS
    · have he := ih_f hc he
      refine lv_aload_n hx hb d_SkeletonClockModel_through_190 rfl (lv_at hl 0 rfl) ?_
      refine k_get S X us_SkeletonClockModel hP 0 rfl rfl 25 (by decide) gm_4_176 rfl d_SkeletonClockModel_through_191 ?_
      refine lv_iload hx hb d_SkeletonClockModel_through_194 (lv_at hl 5 rfl) ?_
      refine lv_aload_n hx hb d_SkeletonClockModel_through_196 rfl (lv_at hl 0 rfl) ?_
      refine k_get S X us_SkeletonClockModel hP 0 rfl rfl 27 (by decide) gm_4_178 rfl d_SkeletonClockModel_through_197 ?_
      refine lv_bipush (v := (14 : Int32)) hx hb d_SkeletonClockModel_through_200 (by decide) ?_
      refine lv_iload hx hb d_SkeletonClockModel_through_202 (lv_at hl 4 rfl) ?_
      refine lv_imul hx hb d_SkeletonClockModel_through_204 ?_
      refine lv_iload hx hb d_SkeletonClockModel_through_205 (lv_at hl 5 rfl) ?_
      refine lv_iadd hx hb d_SkeletonClockModel_through_207 ?_
      obtain ⟨hi15, he⟩ := ih_g he
      refine va_zald hx hb X.1 hP 11 2 rfl rfl hi15 d_SkeletonClockModel_through_208 ?_
      obtain ⟨hi16, he⟩ := ih_g he
      refine va_zast hx hb X.1 hP hD hS 9 2 rfl rfl hi16 d_SkeletonClockModel_through_209 (fun H locs hP hD hS => ?_)
      have hP : va_P D classes [(a_t, .inr (10, [.int t_length, .ref a_t_text, .int t_used, .ref a_t_page, .ref a_t_names, .ref a_t_sort, .ref a_t_code, .ref a_t_count, .ref a_t_around, .ref a_t_end, .ref a_t_size, .ref a_t_there, .ref a_t_wish, .ref a_t_have, .int t_far, .int t_momentParts, .long t_momentDay, .int t_momentSecond, .int t_momentNano, .int t_momentOffset, .int t_readParts, .long t_readDay, .int t_readSecond, .int t_readNano, .int t_readOffset, .ref a_t_known, .ref a_t_value, .ref a_t_before, .ref a_t_open, .ref a_t_from, .int t_alike])), (a_t_text, .inl (kk 1, 60, .inl t_text)), (a_t_names, .inl (kk 3, 21, .inr (.inl t_names))), (a_t_sort, .inl (kk 0, 140, .inl t_sort)), (a_t_code, .inl (kk 0, 140, .inl t_code)), (a_t_count, .inl (kk 0, 140, .inl t_count)), (a_t_around, .inl (kk 0, 140, .inl t_around)), (a_t_end, .inl (kk 0, 140, .inl t_end)), (a_t_size, .inl (kk 0, 7, .inl t_size)), (a_t_known, .inl (kk 2, 14, .inl (upd t_known (x6).toNatClampNeg (vp_nar .boolean (t_before ((((14 : Int32) * x4) + x6)).toNatClampNeg))))), (a_t_value, .inl (kk 3, 14, .inr (.inl t_value))), (a_t_before, .inl (kk 2, 280, .inl t_before)), (a_t_open, .inl (kk 0, 20, .inl t_open)), (a_t_from, .inl (kk 0, 20, .inl t_from))] H := hP
      have hD : va_D A [(a_t, .inr (10, [.int t_length, .ref a_t_text, .int t_used, .ref a_t_page, .ref a_t_names, .ref a_t_sort, .ref a_t_code, .ref a_t_count, .ref a_t_around, .ref a_t_end, .ref a_t_size, .ref a_t_there, .ref a_t_wish, .ref a_t_have, .int t_far, .int t_momentParts, .long t_momentDay, .int t_momentSecond, .int t_momentNano, .int t_momentOffset, .int t_readParts, .long t_readDay, .int t_readSecond, .int t_readNano, .int t_readOffset, .ref a_t_known, .ref a_t_value, .ref a_t_before, .ref a_t_open, .ref a_t_from, .int t_alike])), (a_t_text, .inl (kk 1, 60, .inl t_text)), (a_t_names, .inl (kk 3, 21, .inr (.inl t_names))), (a_t_sort, .inl (kk 0, 140, .inl t_sort)), (a_t_code, .inl (kk 0, 140, .inl t_code)), (a_t_count, .inl (kk 0, 140, .inl t_count)), (a_t_around, .inl (kk 0, 140, .inl t_around)), (a_t_end, .inl (kk 0, 140, .inl t_end)), (a_t_size, .inl (kk 0, 7, .inl t_size)), (a_t_known, .inl (kk 2, 14, .inl (upd t_known (x6).toNatClampNeg (vp_nar .boolean (t_before ((((14 : Int32) * x4) + x6)).toNatClampNeg))))), (a_t_value, .inl (kk 3, 14, .inr (.inl t_value))), (a_t_before, .inl (kk 2, 280, .inl t_before)), (a_t_open, .inl (kk 0, 20, .inl t_open)), (a_t_from, .inl (kk 0, 20, .inl t_from))] := hD
      refine lv_iinc (k := 5) hx hb d_SkeletonClockModel_through_210 hl rfl (ii_ (v := (1 : Int32)) (by decide)) (by decide) rfl (fun ls hl => ?_)
      have hl : lv_has ls 7 [(6, .int (x6 + (1 : Int32))), (0, .ref a_t), (1, .int x1), (2, .int x2), (3, .int x3), (4, .int x4)] := hl
      refine lv_goto (tgt := 183) hx hb d_SkeletonClockModel_through_213 rfl ?_
      have hl : lv_has ls 7 [(0, .ref a_t), (1, .int x1), (2, .int x2), (3, .int x3), (4, .int x4), (6, .int (x6 + (1 : Int32)))] := lv_sub hl [1, 2, 3, 4, 5, 0] rfl
      exact ih _ _ _ _ _ _ he hl hP hD hS K
set_option maxHeartbeats 4000000 in
set_option maxRecDepth 100000 in
theorem w_SkeletonClockModel_through_75 {p : Program} {l : Launch} {e : Env} {s : State} {m : MethodId} {args : Array Value} {below : List Frame} {meth : Method} {c : Code} {Q : State → Prop} {A : Nat → Prop} {D : va_G} {kk : Nat → ClassId} {st : Nat → Nat} (a_t a_t_text a_t_names a_t_sort a_t_code a_t_count a_t_around a_t_end a_t_size a_t_known a_t_value a_t_before a_t_open a_t_from a_t_page a_t_there a_t_wish a_t_have : Nat) (t_length : Int32) (t_used : Int32) (t_far : Int32) (t_momentParts : Int32) (t_momentDay : Int64) (t_momentSecond : Int32) (t_momentNano : Int32) (t_momentOffset : Int32) (t_readParts : Int32) (t_readDay : Int64) (t_readSecond : Int32) (t_readNano : Int32) (t_readOffset : Int32) (t_alike : Int32) (t_text : Nat → Int32) (t_names : Nat → Int64) (t_sort : Nat → Int32) (t_code : Nat → Int32) (t_count : Nat → Int32) (t_around : Nat → Int32) (t_end : Nat → Int32) (t_size : Nat → Int32) (t_known : Nat → Int32) (t_value : Nat → Int64) (t_open : Nat → Int32) (t_from : Nat → Int32) (x1 : Int32) (x2 : Int32) (x3 : Int32) (x4 : Int32) (S : CallFix p m c b_SkeletonClockModel_through 7 s args GW y_SkeletonClockModel_through.cls) (hr : meth.sig.returnType = (some .int)) (hlk : meth.locks = false) (hA : ∀ q, s.heap.size ≤ q → A q) (X : KX D kk st A s) : ∀ (n : Nat) (x5 : Int32) (t_before : Nat → Int32) (v : Int32 × (Nat → Int32)) (H : Heap) (locs : List Loc) (ls : Array Slot), lp_SkeletonClockModel_through_75 t_known x1 x2 x3 x4 n x5 t_before = some v → lv_has ls 7 [(0, .ref a_t), (1, .int x1), (2, .int x2), (3, .int x3), (4, .int x4), (5, .int x5)] → va_P D classes [(a_t, .inr (10, [.int t_length, .ref a_t_text, .int t_used, .ref a_t_page, .ref a_t_names, .ref a_t_sort, .ref a_t_code, .ref a_t_count, .ref a_t_around, .ref a_t_end, .ref a_t_size, .ref a_t_there, .ref a_t_wish, .ref a_t_have, .int t_far, .int t_momentParts, .long t_momentDay, .int t_momentSecond, .int t_momentNano, .int t_momentOffset, .int t_readParts, .long t_readDay, .int t_readSecond, .int t_readNano, .int t_readOffset, .ref a_t_known, .ref a_t_value, .ref a_t_before, .ref a_t_open, .ref a_t_from, .int t_alike])), (a_t_text, .inl (kk 1, 60, .inl t_text)), (a_t_names, .inl (kk 3, 21, .inr (.inl t_names))), (a_t_sort, .inl (kk 0, 140, .inl t_sort)), (a_t_code, .inl (kk 0, 140, .inl t_code)), (a_t_count, .inl (kk 0, 140, .inl t_count)), (a_t_around, .inl (kk 0, 140, .inl t_around)), (a_t_end, .inl (kk 0, 140, .inl t_end)), (a_t_size, .inl (kk 0, 7, .inl t_size)), (a_t_known, .inl (kk 2, 14, .inl t_known)), (a_t_value, .inl (kk 3, 14, .inr (.inl t_value))), (a_t_before, .inl (kk 2, 280, .inl t_before)), (a_t_open, .inl (kk 0, 20, .inl t_open)), (a_t_from, .inl (kk 0, 20, .inl t_from))] H → va_D A [(a_t, .inr (10, [.int t_length, .ref a_t_text, .int t_used, .ref a_t_page, .ref a_t_names, .ref a_t_sort, .ref a_t_code, .ref a_t_count, .ref a_t_around, .ref a_t_end, .ref a_t_size, .ref a_t_there, .ref a_t_wish, .ref a_t_have, .int t_far, .int t_momentParts, .long t_momentDay, .int t_momentSecond, .int t_momentNano, .int t_momentOffset, .int t_readParts, .long t_readDay, .int t_readSecond, .int t_readNano, .int t_readOffset, .ref a_t_known, .ref a_t_value, .ref a_t_before, .ref a_t_open, .ref a_t_from, .int t_alike])), (a_t_text, .inl (kk 1, 60, .inl t_text)), (a_t_names, .inl (kk 3, 21, .inr (.inl t_names))), (a_t_sort, .inl (kk 0, 140, .inl t_sort)), (a_t_code, .inl (kk 0, 140, .inl t_code)), (a_t_count, .inl (kk 0, 140, .inl t_count)), (a_t_around, .inl (kk 0, 140, .inl t_around)), (a_t_end, .inl (kk 0, 140, .inl t_end)), (a_t_size, .inl (kk 0, 7, .inl t_size)), (a_t_known, .inl (kk 2, 14, .inl t_known)), (a_t_value, .inl (kk 3, 14, .inr (.inl t_value))), (a_t_before, .inl (kk 2, 280, .inl t_before)), (a_t_open, .inl (kk 0, 20, .inl t_open)), (a_t_from, .inl (kk 0, 20, .inl t_from))] → va_S A s.heap H locs → (∀ (H : Heap) (locs : List Loc) (ls : Array Slot), lv_has ls 7 [(0, .ref a_t), (1, .int x1), (2, .int x2), (3, .int x3), (4, .int x4), (5, .int v.1)] → va_P D classes [(a_t, .inr (10, [.int t_length, .ref a_t_text, .int t_used, .ref a_t_page, .ref a_t_names, .ref a_t_sort, .ref a_t_code, .ref a_t_count, .ref a_t_around, .ref a_t_end, .ref a_t_size, .ref a_t_there, .ref a_t_wish, .ref a_t_have, .int t_far, .int t_momentParts, .long t_momentDay, .int t_momentSecond, .int t_momentNano, .int t_momentOffset, .int t_readParts, .long t_readDay, .int t_readSecond, .int t_readNano, .int t_readOffset, .ref a_t_known, .ref a_t_value, .ref a_t_before, .ref a_t_open, .ref a_t_from, .int t_alike])), (a_t_text, .inl (kk 1, 60, .inl t_text)), (a_t_names, .inl (kk 3, 21, .inr (.inl t_names))), (a_t_sort, .inl (kk 0, 140, .inl t_sort)), (a_t_code, .inl (kk 0, 140, .inl t_code)), (a_t_count, .inl (kk 0, 140, .inl t_count)), (a_t_around, .inl (kk 0, 140, .inl t_around)), (a_t_end, .inl (kk 0, 140, .inl t_end)), (a_t_size, .inl (kk 0, 7, .inl t_size)), (a_t_known, .inl (kk 2, 14, .inl t_known)), (a_t_value, .inl (kk 3, 14, .inr (.inl t_value))), (a_t_before, .inl (kk 2, 280, .inl v.2)), (a_t_open, .inl (kk 0, 20, .inl t_open)), (a_t_from, .inl (kk 0, 20, .inl t_from))] H → va_D A [(a_t, .inr (10, [.int t_length, .ref a_t_text, .int t_used, .ref a_t_page, .ref a_t_names, .ref a_t_sort, .ref a_t_code, .ref a_t_count, .ref a_t_around, .ref a_t_end, .ref a_t_size, .ref a_t_there, .ref a_t_wish, .ref a_t_have, .int t_far, .int t_momentParts, .long t_momentDay, .int t_momentSecond, .int t_momentNano, .int t_momentOffset, .int t_readParts, .long t_readDay, .int t_readSecond, .int t_readNano, .int t_readOffset, .ref a_t_known, .ref a_t_value, .ref a_t_before, .ref a_t_open, .ref a_t_from, .int t_alike])), (a_t_text, .inl (kk 1, 60, .inl t_text)), (a_t_names, .inl (kk 3, 21, .inr (.inl t_names))), (a_t_sort, .inl (kk 0, 140, .inl t_sort)), (a_t_code, .inl (kk 0, 140, .inl t_code)), (a_t_count, .inl (kk 0, 140, .inl t_count)), (a_t_around, .inl (kk 0, 140, .inl t_around)), (a_t_end, .inl (kk 0, 140, .inl t_end)), (a_t_size, .inl (kk 0, 7, .inl t_size)), (a_t_known, .inl (kk 2, 14, .inl t_known)), (a_t_value, .inl (kk 3, 14, .inr (.inl t_value))), (a_t_before, .inl (kk 2, 280, .inl v.2)), (a_t_open, .inl (kk 0, 20, .inl t_open)), (a_t_from, .inl (kk 0, 20, .inl t_from))] → va_S A s.heap H locs → W p l e rm_SkeletonClockModel_through s m args below meth c H locs 0 0 Q (F0 m 108 ls [])) → W p l e rm_SkeletonClockModel_through s m args below meth c H locs 0 0 Q (F0 m 75 ls []) := by
  intro n
  induction n with
  | zero =>
    intro x5 t_before v H locs ls he hl hP hD hS K
    exact ih_n he
  | succ n ih =>
    intro x5 t_before v H locs ls he hl hP hD hS K
    have hx := S.1
    have hb := S.2.1
    have he : st_SkeletonClockModel_through_75 t_known x1 x2 x3 x4 (lp_SkeletonClockModel_through_75 t_known x1 x2 x3 x4 n) x5 t_before = some v := he
    unfold st_SkeletonClockModel_through_75 at he
    refine lv_iload hx hb d_SkeletonClockModel_through_75 (lv_at hl 5 rfl) ?_
    refine lv_bipush (v := (14 : Int32)) hx hb d_SkeletonClockModel_through_77 (by decide) ?_
    refine lv_icmp_ge (tgt := 108) hx hb d_SkeletonClockModel_through_79 rfl (fun hc => ?_) (fun hc => ?_)
    · have he := ih_t hc he
      have hl : lv_has ls 7 [(0, .ref a_t), (1, .int x1), (2, .int x2), (3, .int x3), (4, .int x4), (5, .int x5)] := lv_sub hl [0, 1, 2, 3, 4, 5] rfl
      cases he
      exact K _ _ _ hl hP hD hS
    · have he := ih_f hc he
      refine lv_aload_n hx hb d_SkeletonClockModel_through_82 rfl (lv_at hl 0 rfl) ?_
      refine k_get S X us_SkeletonClockModel hP 0 rfl rfl 27 (by decide) gm_4_178 rfl d_SkeletonClockModel_through_83 ?_
      refine lv_bipush (v := (14 : Int32)) hx hb d_SkeletonClockModel_through_86 (by decide) ?_
      refine lv_iload hx hb d_SkeletonClockModel_through_88 (lv_at hl 4 rfl) ?_
      refine lv_imul hx hb d_SkeletonClockModel_through_90 ?_
      refine lv_iload hx hb d_SkeletonClockModel_through_91 (lv_at hl 5 rfl) ?_
      refine lv_iadd hx hb d_SkeletonClockModel_through_93 ?_
      refine lv_aload_n hx hb d_SkeletonClockModel_through_94 rfl (lv_at hl 0 rfl) ?_
      refine k_get S X us_SkeletonClockModel hP 0 rfl rfl 25 (by decide) gm_4_176 rfl d_SkeletonClockModel_through_95 ?_
      refine lv_iload hx hb d_SkeletonClockModel_through_98 (lv_at hl 5 rfl) ?_
      obtain ⟨hi32, he⟩ := ih_g he
      refine va_zald hx hb X.1 hP 9 2 rfl rfl hi32 d_SkeletonClockModel_through_100 ?_
      obtain ⟨hi33, he⟩ := ih_g he
      refine va_zast hx hb X.1 hP hD hS 11 2 rfl rfl hi33 d_SkeletonClockModel_through_101 (fun H locs hP hD hS => ?_)
      have hP : va_P D classes [(a_t, .inr (10, [.int t_length, .ref a_t_text, .int t_used, .ref a_t_page, .ref a_t_names, .ref a_t_sort, .ref a_t_code, .ref a_t_count, .ref a_t_around, .ref a_t_end, .ref a_t_size, .ref a_t_there, .ref a_t_wish, .ref a_t_have, .int t_far, .int t_momentParts, .long t_momentDay, .int t_momentSecond, .int t_momentNano, .int t_momentOffset, .int t_readParts, .long t_readDay, .int t_readSecond, .int t_readNano, .int t_readOffset, .ref a_t_known, .ref a_t_value, .ref a_t_before, .ref a_t_open, .ref a_t_from, .int t_alike])), (a_t_text, .inl (kk 1, 60, .inl t_text)), (a_t_names, .inl (kk 3, 21, .inr (.inl t_names))), (a_t_sort, .inl (kk 0, 140, .inl t_sort)), (a_t_code, .inl (kk 0, 140, .inl t_code)), (a_t_count, .inl (kk 0, 140, .inl t_count)), (a_t_around, .inl (kk 0, 140, .inl t_around)), (a_t_end, .inl (kk 0, 140, .inl t_end)), (a_t_size, .inl (kk 0, 7, .inl t_size)), (a_t_known, .inl (kk 2, 14, .inl t_known)), (a_t_value, .inl (kk 3, 14, .inr (.inl t_value))), (a_t_before, .inl (kk 2, 280, .inl (upd t_before ((((14 : Int32) * x4) + x5)).toNatClampNeg (vp_nar .boolean (t_known (x5).toNatClampNeg))))), (a_t_open, .inl (kk 0, 20, .inl t_open)), (a_t_from, .inl (kk 0, 20, .inl t_from))] H := hP
      have hD : va_D A [(a_t, .inr (10, [.int t_length, .ref a_t_text, .int t_used, .ref a_t_page, .ref a_t_names, .ref a_t_sort, .ref a_t_code, .ref a_t_count, .ref a_t_around, .ref a_t_end, .ref a_t_size, .ref a_t_there, .ref a_t_wish, .ref a_t_have, .int t_far, .int t_momentParts, .long t_momentDay, .int t_momentSecond, .int t_momentNano, .int t_momentOffset, .int t_readParts, .long t_readDay, .int t_readSecond, .int t_readNano, .int t_readOffset, .ref a_t_known, .ref a_t_value, .ref a_t_before, .ref a_t_open, .ref a_t_from, .int t_alike])), (a_t_text, .inl (kk 1, 60, .inl t_text)), (a_t_names, .inl (kk 3, 21, .inr (.inl t_names))), (a_t_sort, .inl (kk 0, 140, .inl t_sort)), (a_t_code, .inl (kk 0, 140, .inl t_code)), (a_t_count, .inl (kk 0, 140, .inl t_count)), (a_t_around, .inl (kk 0, 140, .inl t_around)), (a_t_end, .inl (kk 0, 140, .inl t_end)), (a_t_size, .inl (kk 0, 7, .inl t_size)), (a_t_known, .inl (kk 2, 14, .inl t_known)), (a_t_value, .inl (kk 3, 14, .inr (.inl t_value))), (a_t_before, .inl (kk 2, 280, .inl (upd t_before ((((14 : Int32) * x4) + x5)).toNatClampNeg (vp_nar .boolean (t_known (x5).toNatClampNeg))))), (a_t_open, .inl (kk 0, 20, .inl t_open)), (a_t_from, .inl (kk 0, 20, .inl t_from))] := hD
      refine lv_iinc (k := 5) hx hb d_SkeletonClockModel_through_102 hl rfl (ii_ (v := (1 : Int32)) (by decide)) (by decide) rfl (fun ls hl => ?_)
      have hl : lv_has ls 7 [(5, .int (x5 + (1 : Int32))), (0, .ref a_t), (1, .int x1), (2, .int x2), (3, .int x3), (4, .int x4)] := hl
      refine lv_goto (tgt := 75) hx hb d_SkeletonClockModel_through_105 rfl ?_
      have hl : lv_has ls 7 [(0, .ref a_t), (1, .int x1), (2, .int x2), (3, .int x3), (4, .int x4), (5, .int (x5 + (1 : Int32)))] := lv_sub hl [1, 2, 3, 4, 5, 0] rfl
      exact ih _ _ _ _ _ _ he hl hP hD hS K
set_option maxHeartbeats 4000000 in
set_option maxRecDepth 100000 in
theorem w_SkeletonClockModel_through_31 {p : Program} {l : Launch} {e : Env} {s : State} {m : MethodId} {args : Array Value} {below : List Frame} {meth : Method} {c : Code} {Q : State → Prop} {A : Nat → Prop} {D : va_G} {kk : Nat → ClassId} {st : Nat → Nat} (a_t a_t_text a_t_names a_t_sort a_t_code a_t_count a_t_around a_t_end a_t_size a_t_known a_t_value a_t_before a_t_open a_t_from a_t_page a_t_there a_t_wish a_t_have : Nat) (t_length : Int32) (t_used : Int32) (t_far : Int32) (t_momentParts : Int32) (t_momentDay : Int64) (t_momentSecond : Int32) (t_momentNano : Int32) (t_momentOffset : Int32) (t_readParts : Int32) (t_readDay : Int64) (t_readSecond : Int32) (t_readNano : Int32) (t_readOffset : Int32) (t_alike : Int32) (t_text : Nat → Int32) (t_names : Nat → Int64) (t_sort : Nat → Int32) (t_code : Nat → Int32) (t_count : Nat → Int32) (t_around : Nat → Int32) (t_end : Nat → Int32) (t_size : Nat → Int32) (x1 : Int32) (S : CallFix p m c b_SkeletonClockModel_through 7 s args GW y_SkeletonClockModel_through.cls) (hr : meth.sig.returnType = (some .int)) (hlk : meth.locks = false) (hA : ∀ q, s.heap.size ≤ q → A q) (X : KX D kk st A s) : ∀ (n : Nat) (x2 : Int32) (x3 : Int32) (x4 : Int32) (t_known : Nat → Int32) (t_value : Nat → Int64) (t_before : Nat → Int32) (t_open : Nat → Int32) (t_from : Nat → Int32) (v : (Int32 × (Nat → Int32) × (Nat → Int64) × (Nat → Int32) × (Nat → Int32) × (Nat → Int32)) ⊕ (Int32 × Int32 × Int32 × (Nat → Int32) × (Nat → Int64) × (Nat → Int32) × (Nat → Int32) × (Nat → Int32))) (H : Heap) (locs : List Loc) (ls : Array Slot), lp_SkeletonClockModel_through_31 t_length t_alike t_text t_names t_sort t_code t_count t_around t_end t_size x1 n x2 x3 x4 t_known t_value t_before t_open t_from = some v → lv_has ls 7 [(0, .ref a_t), (1, .int x1), (2, .int x2), (3, .int x3), (4, .int x4)] → va_P D classes [(a_t, .inr (10, [.int t_length, .ref a_t_text, .int t_used, .ref a_t_page, .ref a_t_names, .ref a_t_sort, .ref a_t_code, .ref a_t_count, .ref a_t_around, .ref a_t_end, .ref a_t_size, .ref a_t_there, .ref a_t_wish, .ref a_t_have, .int t_far, .int t_momentParts, .long t_momentDay, .int t_momentSecond, .int t_momentNano, .int t_momentOffset, .int t_readParts, .long t_readDay, .int t_readSecond, .int t_readNano, .int t_readOffset, .ref a_t_known, .ref a_t_value, .ref a_t_before, .ref a_t_open, .ref a_t_from, .int t_alike])), (a_t_text, .inl (kk 1, 60, .inl t_text)), (a_t_names, .inl (kk 3, 21, .inr (.inl t_names))), (a_t_sort, .inl (kk 0, 140, .inl t_sort)), (a_t_code, .inl (kk 0, 140, .inl t_code)), (a_t_count, .inl (kk 0, 140, .inl t_count)), (a_t_around, .inl (kk 0, 140, .inl t_around)), (a_t_end, .inl (kk 0, 140, .inl t_end)), (a_t_size, .inl (kk 0, 7, .inl t_size)), (a_t_known, .inl (kk 2, 14, .inl t_known)), (a_t_value, .inl (kk 3, 14, .inr (.inl t_value))), (a_t_before, .inl (kk 2, 280, .inl t_before)), (a_t_open, .inl (kk 0, 20, .inl t_open)), (a_t_from, .inl (kk 0, 20, .inl t_from))] H → va_D A [(a_t, .inr (10, [.int t_length, .ref a_t_text, .int t_used, .ref a_t_page, .ref a_t_names, .ref a_t_sort, .ref a_t_code, .ref a_t_count, .ref a_t_around, .ref a_t_end, .ref a_t_size, .ref a_t_there, .ref a_t_wish, .ref a_t_have, .int t_far, .int t_momentParts, .long t_momentDay, .int t_momentSecond, .int t_momentNano, .int t_momentOffset, .int t_readParts, .long t_readDay, .int t_readSecond, .int t_readNano, .int t_readOffset, .ref a_t_known, .ref a_t_value, .ref a_t_before, .ref a_t_open, .ref a_t_from, .int t_alike])), (a_t_text, .inl (kk 1, 60, .inl t_text)), (a_t_names, .inl (kk 3, 21, .inr (.inl t_names))), (a_t_sort, .inl (kk 0, 140, .inl t_sort)), (a_t_code, .inl (kk 0, 140, .inl t_code)), (a_t_count, .inl (kk 0, 140, .inl t_count)), (a_t_around, .inl (kk 0, 140, .inl t_around)), (a_t_end, .inl (kk 0, 140, .inl t_end)), (a_t_size, .inl (kk 0, 7, .inl t_size)), (a_t_known, .inl (kk 2, 14, .inl t_known)), (a_t_value, .inl (kk 3, 14, .inr (.inl t_value))), (a_t_before, .inl (kk 2, 280, .inl t_before)), (a_t_open, .inl (kk 0, 20, .inl t_open)), (a_t_from, .inl (kk 0, 20, .inl t_from))] → va_S A s.heap H locs → (∀ o : Int32 × (Nat → Int32) × (Nat → Int64) × (Nat → Int32) × (Nat → Int32) × (Nat → Int32), v = .inl o → Q = MQ below (KQi D kk o.1 [(a_t, .inr (10, [.int t_length, .ref a_t_text, .int t_used, .ref a_t_page, .ref a_t_names, .ref a_t_sort, .ref a_t_code, .ref a_t_count, .ref a_t_around, .ref a_t_end, .ref a_t_size, .ref a_t_there, .ref a_t_wish, .ref a_t_have, .int t_far, .int t_momentParts, .long t_momentDay, .int t_momentSecond, .int t_momentNano, .int t_momentOffset, .int t_readParts, .long t_readDay, .int t_readSecond, .int t_readNano, .int t_readOffset, .ref a_t_known, .ref a_t_value, .ref a_t_before, .ref a_t_open, .ref a_t_from, .int t_alike])), (a_t_text, .inl (kk 1, 60, .inl t_text)), (a_t_names, .inl (kk 3, 21, .inr (.inl t_names))), (a_t_sort, .inl (kk 0, 140, .inl t_sort)), (a_t_code, .inl (kk 0, 140, .inl t_code)), (a_t_count, .inl (kk 0, 140, .inl t_count)), (a_t_around, .inl (kk 0, 140, .inl t_around)), (a_t_end, .inl (kk 0, 140, .inl t_end)), (a_t_size, .inl (kk 0, 7, .inl t_size)), (a_t_known, .inl (kk 2, 14, .inl o.2.1)), (a_t_value, .inl (kk 3, 14, .inr (.inl o.2.2.1))), (a_t_before, .inl (kk 2, 280, .inl o.2.2.2.1)), (a_t_open, .inl (kk 0, 20, .inl o.2.2.2.2.1)), (a_t_from, .inl (kk 0, 20, .inl o.2.2.2.2.2))] A) args s 0 0 A) → (∀ v' : Int32 × Int32 × Int32 × (Nat → Int32) × (Nat → Int64) × (Nat → Int32) × (Nat → Int32) × (Nat → Int32), v = .inr v' → ∀ (H : Heap) (locs : List Loc) (ls : Array Slot), lv_has ls 7 [(0, .ref a_t), (1, .int x1), (2, .int v'.1), (3, .int v'.2.1), (4, .int v'.2.2.1)] → va_P D classes [(a_t, .inr (10, [.int t_length, .ref a_t_text, .int t_used, .ref a_t_page, .ref a_t_names, .ref a_t_sort, .ref a_t_code, .ref a_t_count, .ref a_t_around, .ref a_t_end, .ref a_t_size, .ref a_t_there, .ref a_t_wish, .ref a_t_have, .int t_far, .int t_momentParts, .long t_momentDay, .int t_momentSecond, .int t_momentNano, .int t_momentOffset, .int t_readParts, .long t_readDay, .int t_readSecond, .int t_readNano, .int t_readOffset, .ref a_t_known, .ref a_t_value, .ref a_t_before, .ref a_t_open, .ref a_t_from, .int t_alike])), (a_t_text, .inl (kk 1, 60, .inl t_text)), (a_t_names, .inl (kk 3, 21, .inr (.inl t_names))), (a_t_sort, .inl (kk 0, 140, .inl t_sort)), (a_t_code, .inl (kk 0, 140, .inl t_code)), (a_t_count, .inl (kk 0, 140, .inl t_count)), (a_t_around, .inl (kk 0, 140, .inl t_around)), (a_t_end, .inl (kk 0, 140, .inl t_end)), (a_t_size, .inl (kk 0, 7, .inl t_size)), (a_t_known, .inl (kk 2, 14, .inl v'.2.2.2.1)), (a_t_value, .inl (kk 3, 14, .inr (.inl v'.2.2.2.2.1))), (a_t_before, .inl (kk 2, 280, .inl v'.2.2.2.2.2.1)), (a_t_open, .inl (kk 0, 20, .inl v'.2.2.2.2.2.2.1)), (a_t_from, .inl (kk 0, 20, .inl v'.2.2.2.2.2.2.2))] H → va_D A [(a_t, .inr (10, [.int t_length, .ref a_t_text, .int t_used, .ref a_t_page, .ref a_t_names, .ref a_t_sort, .ref a_t_code, .ref a_t_count, .ref a_t_around, .ref a_t_end, .ref a_t_size, .ref a_t_there, .ref a_t_wish, .ref a_t_have, .int t_far, .int t_momentParts, .long t_momentDay, .int t_momentSecond, .int t_momentNano, .int t_momentOffset, .int t_readParts, .long t_readDay, .int t_readSecond, .int t_readNano, .int t_readOffset, .ref a_t_known, .ref a_t_value, .ref a_t_before, .ref a_t_open, .ref a_t_from, .int t_alike])), (a_t_text, .inl (kk 1, 60, .inl t_text)), (a_t_names, .inl (kk 3, 21, .inr (.inl t_names))), (a_t_sort, .inl (kk 0, 140, .inl t_sort)), (a_t_code, .inl (kk 0, 140, .inl t_code)), (a_t_count, .inl (kk 0, 140, .inl t_count)), (a_t_around, .inl (kk 0, 140, .inl t_around)), (a_t_end, .inl (kk 0, 140, .inl t_end)), (a_t_size, .inl (kk 0, 7, .inl t_size)), (a_t_known, .inl (kk 2, 14, .inl v'.2.2.2.1)), (a_t_value, .inl (kk 3, 14, .inr (.inl v'.2.2.2.2.1))), (a_t_before, .inl (kk 2, 280, .inl v'.2.2.2.2.2.1)), (a_t_open, .inl (kk 0, 20, .inl v'.2.2.2.2.2.2.1)), (a_t_from, .inl (kk 0, 20, .inl v'.2.2.2.2.2.2.2))] → va_S A s.heap H locs → W p l e rm_SkeletonClockModel_through s m args below meth c H locs 0 0 Q (F0 m 256 ls [])) → W p l e rm_SkeletonClockModel_through s m args below meth c H locs 0 0 Q (F0 m 31 ls []) := by
  intro n
  induction n with
  | zero =>
    intro x2 x3 x4 t_known t_value t_before t_open t_from v H locs ls he hl hP hD hS hret K
    exact ih_n he
  | succ n ih =>
    intro x2 x3 x4 t_known t_value t_before t_open t_from v H locs ls he hl hP hD hS hret K
    have hx := S.1
    have hb := S.2.1
    have he : st_SkeletonClockModel_through_31 t_length t_alike t_text t_names t_sort t_code t_count t_around t_end t_size x1 (lp_SkeletonClockModel_through_31 t_length t_alike t_text t_names t_sort t_code t_count t_around t_end t_size x1 n) x2 x3 x4 t_known t_value t_before t_open t_from = some v := he
    unfold st_SkeletonClockModel_through_31 at he
    refine lv_iload_n hx hb d_SkeletonClockModel_through_31 rfl (lv_at hl 3 rfl) ?_
    refine lv_aload_n hx hb d_SkeletonClockModel_through_32 rfl (lv_at hl 0 rfl) ?_
    refine k_get S X us_SkeletonClockModel hP 0 rfl rfl 10 (by decide) gm_4_161 rfl d_SkeletonClockModel_through_33 ?_
    refine lv_iload_n hx hb d_SkeletonClockModel_through_36 rfl (lv_at hl 1 rfl) ?_
    obtain ⟨hi4, he⟩ := ih_g he
    refine va_iald hx hb X.1 hP 8 0 rfl rfl hi4 d_SkeletonClockModel_through_37 ?_
    refine lv_icmp_ge (tgt := 256) hx hb d_SkeletonClockModel_through_38 rfl (fun hc => ?_) (fun hc => ?_)
    · have he := ih_t hc he
      have hl : lv_has ls 7 [(0, .ref a_t), (1, .int x1), (2, .int x2), (3, .int x3), (4, .int x4)] := lv_sub hl [0, 1, 2, 3, 4] rfl
      cases he
      exact K _ rfl _ _ _ hl hP hD hS
    · have he := ih_f hc he
      refine lv_aload_n hx hb d_SkeletonClockModel_through_41 rfl (lv_at hl 0 rfl) ?_
      refine k_get S X us_SkeletonClockModel hP 0 rfl rfl 5 (by decide) gm_4_156 rfl d_SkeletonClockModel_through_42 ?_
      refine lv_bipush (v := (20 : Int32)) hx hb d_SkeletonClockModel_through_45 (by decide) ?_
      refine lv_iload_n hx hb d_SkeletonClockModel_through_47 rfl (lv_at hl 1 rfl) ?_
      refine lv_imul hx hb d_SkeletonClockModel_through_48 ?_
      refine lv_iload_n hx hb d_SkeletonClockModel_through_49 rfl (lv_at hl 3 rfl) ?_
      refine lv_iadd hx hb d_SkeletonClockModel_through_50 ?_
      obtain ⟨hi5, he⟩ := ih_g he
      refine va_iald hx hb X.1 hP 3 0 rfl rfl hi5 d_SkeletonClockModel_through_51 ?_
      refine lv_iconst (v := (2 : Int32)) hx hb d_SkeletonClockModel_through_52 (by decide) ?_
      refine lv_icmp_ne (tgt := 117) hx hb d_SkeletonClockModel_through_53 rfl (fun hc => ?_) (fun hc => ?_)
      · have he := ih_f hc he
        refine lv_aload_n hx hb d_SkeletonClockModel_through_117 rfl (lv_at hl 0 rfl) ?_
        refine lv_iload_n hx hb d_SkeletonClockModel_through_118 rfl (lv_at hl 1 rfl) ?_
        refine lv_bipush (v := (20 : Int32)) hx hb d_SkeletonClockModel_through_119 (by decide) ?_
        refine lv_iload_n hx hb d_SkeletonClockModel_through_121 rfl (lv_at hl 1 rfl) ?_
        refine lv_imul hx hb d_SkeletonClockModel_through_122 ?_
        refine lv_iload_n hx hb d_SkeletonClockModel_through_123 rfl (lv_at hl 3 rfl) ?_
        refine lv_iadd hx hb d_SkeletonClockModel_through_124 ?_
        refine lv_iload_n hx hb d_SkeletonClockModel_through_125 rfl (lv_at hl 2 rfl) ?_
        obtain ⟨u6, e7, he⟩ := ih_b he
        refine k_i (wr := [(a_t_end, .inl (kk 0, 140, .inl t_end)), (a_t_before, .inl (kk 2, 280, .inl t_before)), (a_t_open, .inl (kk 0, 20, .inl t_open)), (a_t_from, .inl (kk 0, 20, .inl t_from))]) (w1 := [(a_t, .inr (10, [.int t_length, .ref a_t_text, .int t_used, .ref a_t_page, .ref a_t_names, .ref a_t_sort, .ref a_t_code, .ref a_t_count, .ref a_t_around, .ref a_t_end, .ref a_t_size, .ref a_t_there, .ref a_t_wish, .ref a_t_have, .int t_far, .int t_momentParts, .long t_momentDay, .int t_momentSecond, .int t_momentNano, .int t_momentOffset, .int t_readParts, .long t_readDay, .int t_readSecond, .int t_readNano, .int t_readOffset, .ref a_t_known, .ref a_t_value, .ref a_t_before, .ref a_t_open, .ref a_t_from, .int t_alike])), (a_t_text, .inl (kk 1, 60, .inl t_text)), (a_t_names, .inl (kk 3, 21, .inr (.inl t_names))), (a_t_sort, .inl (kk 0, 140, .inl t_sort)), (a_t_code, .inl (kk 0, 140, .inl t_code)), (a_t_count, .inl (kk 0, 140, .inl t_count)), (a_t_around, .inl (kk 0, 140, .inl t_around)), (a_t_size, .inl (kk 0, 7, .inl t_size)), (a_t_known, .inl (kk 2, 14, .inl u6.2.1)), (a_t_value, .inl (kk 3, 14, .inr (.inl u6.2.2)))]) (w2 := [(a_t, .inr (10, [.int t_length, .ref a_t_text, .int t_used, .ref a_t_page, .ref a_t_names, .ref a_t_sort, .ref a_t_code, .ref a_t_count, .ref a_t_around, .ref a_t_end, .ref a_t_size, .ref a_t_there, .ref a_t_wish, .ref a_t_have, .int t_far, .int t_momentParts, .long t_momentDay, .int t_momentSecond, .int t_momentNano, .int t_momentOffset, .int t_readParts, .long t_readDay, .int t_readSecond, .int t_readNano, .int t_readOffset, .ref a_t_known, .ref a_t_value, .ref a_t_before, .ref a_t_open, .ref a_t_from, .int t_alike])), (a_t_text, .inl (kk 1, 60, .inl t_text)), (a_t_names, .inl (kk 3, 21, .inr (.inl t_names))), (a_t_sort, .inl (kk 0, 140, .inl t_sort)), (a_t_code, .inl (kk 0, 140, .inl t_code)), (a_t_count, .inl (kk 0, 140, .inl t_count)), (a_t_around, .inl (kk 0, 140, .inl t_around)), (a_t_end, .inl (kk 0, 140, .inl t_end)), (a_t_size, .inl (kk 0, 7, .inl t_size)), (a_t_known, .inl (kk 2, 14, .inl u6.2.1)), (a_t_value, .inl (kk 3, 14, .inr (.inl u6.2.2))), (a_t_before, .inl (kk 2, 280, .inl t_before)), (a_t_open, .inl (kk 0, 20, .inl t_open)), (a_t_from, .inl (kk 0, 20, .inl t_from))]) (r_V (As := [.int x1, .int (((20 : Int32) * x1) + x3), .int x2]) S X hA hP hD hS (c_SkeletonClockModel_pass l D kk st a_t a_t_text a_t_names a_t_sort a_t_code a_t_count a_t_around a_t_size a_t_known a_t_value a_t_page a_t_end a_t_there a_t_wish a_t_have a_t_before a_t_open a_t_from _ t_length t_used t_far t_momentParts t_momentDay t_momentSecond t_momentNano t_momentOffset t_readParts t_readDay t_readSecond t_readNano t_readOffset t_alike t_text t_names t_sort t_code t_count t_around t_size t_known t_value x1 (((20 : Int32) * x1) + x3) x2 u6 e7) gm_5_180 gm_5_177 gm_5_179 gm_p4_1 gm_1_13 ⟨rfl, rfl, by decide, by decide⟩ kd_SkeletonClockModel_pass [0, 1, 2, 3, 4, 5, 6, 8, 9, 10] rfl rfl rfl 0 10 rfl rfl rfl rfl hl.1 rfl (Nat.le_of_ble_eq_true rfl) d_SkeletonClockModel_through_126 ⟨Nat.zero_le _, Nat.zero_le _⟩) hA hP hD hS [0, 1, 2, 3, 4, 5, 6, 8, 9, 10] [7, 11, 12, 13] [4, 5, 6, 7, 8, 9, 10, 0, 11, 12, 13, 1, 2, 3] rfl rfl rfl (by decide) rfl rfl rfl (fun H locs hP hD hS => ?_)
        refine lv_istore hx hb d_SkeletonClockModel_through_129 hl (by decide) rfl (fun ls hl => ?_)
        have hl : lv_has ls 7 [(5, .int u6.1), (0, .ref a_t), (1, .int x1), (2, .int x2), (3, .int x3), (4, .int x4)] := hl
        refine lv_iload hx hb d_SkeletonClockModel_through_131 (lv_at hl 0 rfl) ?_
        refine lv_if_ge (tgt := 143) hx hb d_SkeletonClockModel_through_133 rfl (fun hc => ?_) (fun hc => ?_)
        · have he := ih_t hc he
          refine lv_iinc (k := 4) hx hb d_SkeletonClockModel_through_143 hl rfl (ii_ (v := (1 : Int32)) (by decide)) (by decide) rfl (fun ls hl => ?_)
          have hl : lv_has ls 7 [(3, .int (x3 + (1 : Int32))), (5, .int u6.1), (0, .ref a_t), (1, .int x1), (2, .int x2), (4, .int x4)] := hl
          refine lv_iload hx hb d_SkeletonClockModel_through_146 (lv_at hl 1 rfl) ?_
          refine lv_if_ge (tgt := 219) hx hb d_SkeletonClockModel_through_148 rfl (fun hc => ?_) (fun hc => ?_)
          · have he := ih_t hc he
            refine lv_iload hx hb d_SkeletonClockModel_through_219 (lv_at hl 1 rfl) ?_
            refine lv_istore_n hx hb d_SkeletonClockModel_through_221 rfl hl (by decide) rfl (fun ls hl => ?_)
            have hl : lv_has ls 7 [(2, .int u6.1), (3, .int (x3 + (1 : Int32))), (5, .int u6.1), (0, .ref a_t), (1, .int x1), (4, .int x4)] := hl
            obtain ⟨u10, e11, he⟩ := ih_b he
            have hl : lv_has ls 7 [(0, .ref a_t), (1, .int x1), (2, .int u6.1), (3, .int (x3 + (1 : Int32))), (4, .int x4)] := lv_sub hl [3, 4, 0, 1, 5] rfl
            refine w_SkeletonClockModel_through_222 a_t a_t_text a_t_names a_t_sort a_t_code a_t_count a_t_around a_t_end a_t_size a_t_known a_t_value a_t_before a_t_open a_t_from a_t_page a_t_there a_t_wish a_t_have t_length t_used t_far t_momentParts t_momentDay t_momentSecond t_momentNano t_momentOffset t_readParts t_readDay t_readSecond t_readNano t_readOffset t_alike t_text t_names t_sort t_code t_count t_around t_end t_size u6.2.1 u6.2.2 t_before t_open t_from x1 u6.1 (x3 + (1 : Int32)) S hr hlk hA X FU x4 u10 _ _ ls e11 hl hP hD hS (fun H locs ls hl hP hD hS => ?_)
            have hl : lv_has ls 7 [(0, .ref a_t), (1, .int x1), (2, .int u6.1), (3, .int (x3 + (1 : Int32))), (4, .int u10)] := lv_sub hl [0, 1, 2, 3, 4] rfl
            exact ih _ _ _ _ _ _ _ _ _ _ _ _ he hl hP hD hS hret K
          · have he := ih_f hc he
            refine lv_iinc (k := 5) hx hb d_SkeletonClockModel_through_151 hl rfl (ii_ (v := (-1 : Int32)) (by decide)) (by decide) rfl (fun ls hl => ?_)
            have hl : lv_has ls 7 [(4, .int (x4 + (-1 : Int32))), (3, .int (x3 + (1 : Int32))), (5, .int u6.1), (0, .ref a_t), (1, .int x1), (2, .int x2)] := hl
            refine lv_aload_n hx hb d_SkeletonClockModel_through_154 rfl (lv_at hl 3 rfl) ?_
            refine k_get S X us_SkeletonClockModel hP 0 rfl rfl 29 (by decide) gm_4_180 rfl d_SkeletonClockModel_through_155 ?_
            refine lv_iload hx hb d_SkeletonClockModel_through_158 (lv_at hl 0 rfl) ?_
            obtain ⟨hi12, he⟩ := ih_g he
            refine va_iald hx hb X.1 hP 13 0 rfl rfl hi12 d_SkeletonClockModel_through_160 ?_
            refine lv_istore_n hx hb d_SkeletonClockModel_through_161 rfl hl (by decide) rfl (fun ls hl => ?_)
            have hl : lv_has ls 7 [(2, .int (t_from ((x4 + (-1 : Int32))).toNatClampNeg)), (4, .int (x4 + (-1 : Int32))), (3, .int (x3 + (1 : Int32))), (5, .int u6.1), (0, .ref a_t), (1, .int x1)] := hl
            refine lv_aload_n hx hb d_SkeletonClockModel_through_162 rfl (lv_at hl 4 rfl) ?_
            refine k_get S X us_SkeletonClockModel hP 0 rfl rfl 9 (by decide) gm_4_160 rfl d_SkeletonClockModel_through_163 ?_
            refine lv_bipush (v := (20 : Int32)) hx hb d_SkeletonClockModel_through_166 (by decide) ?_
            refine lv_iload_n hx hb d_SkeletonClockModel_through_168 rfl (lv_at hl 5 rfl) ?_
            refine lv_imul hx hb d_SkeletonClockModel_through_169 ?_
            refine lv_aload_n hx hb d_SkeletonClockModel_through_170 rfl (lv_at hl 4 rfl) ?_
            refine k_get S X us_SkeletonClockModel hP 0 rfl rfl 28 (by decide) gm_4_179 rfl d_SkeletonClockModel_through_171 ?_
            refine lv_iload hx hb d_SkeletonClockModel_through_174 (lv_at hl 1 rfl) ?_
            obtain ⟨hi13, he⟩ := ih_g he
            refine va_iald hx hb X.1 hP 12 0 rfl rfl hi13 d_SkeletonClockModel_through_176 ?_
            refine lv_iadd hx hb d_SkeletonClockModel_through_177 ?_
            obtain ⟨hi14, he⟩ := ih_g he
            refine va_iald hx hb X.1 hP 7 0 rfl rfl hi14 d_SkeletonClockModel_through_178 ?_
            refine lv_istore_n hx hb d_SkeletonClockModel_through_179 rfl hl (by decide) rfl (fun ls hl => ?_)
            have hl : lv_has ls 7 [(3, .int (t_end ((((20 : Int32) * x1) + (t_open ((x4 + (-1 : Int32))).toNatClampNeg))).toNatClampNeg)), (2, .int (t_from ((x4 + (-1 : Int32))).toNatClampNeg)), (4, .int (x4 + (-1 : Int32))), (5, .int u6.1), (0, .ref a_t), (1, .int x1)] := hl
            refine lv_iconst (v := (0 : Int32)) hx hb d_SkeletonClockModel_through_180 (by decide) ?_
            refine lv_istore hx hb d_SkeletonClockModel_through_181 hl (by decide) rfl (fun ls hl => ?_)
            have hl : lv_has ls 7 [(6, .int (0 : Int32)), (3, .int (t_end ((((20 : Int32) * x1) + (t_open ((x4 + (-1 : Int32))).toNatClampNeg))).toNatClampNeg)), (2, .int (t_from ((x4 + (-1 : Int32))).toNatClampNeg)), (4, .int (x4 + (-1 : Int32))), (5, .int u6.1), (0, .ref a_t), (1, .int x1)] := hl
            obtain ⟨u17, e18, he⟩ := ih_b he
            have hl : lv_has ls 7 [(0, .ref a_t), (1, .int x1), (2, .int (t_from ((x4 + (-1 : Int32))).toNatClampNeg)), (3, .int (t_end ((((20 : Int32) * x1) + (t_open ((x4 + (-1 : Int32))).toNatClampNeg))).toNatClampNeg)), (4, .int (x4 + (-1 : Int32))), (6, .int (0 : Int32))] := lv_sub hl [5, 6, 2, 1, 3, 0] rfl
            refine w_SkeletonClockModel_through_183 a_t a_t_text a_t_names a_t_sort a_t_code a_t_count a_t_around a_t_end a_t_size a_t_known a_t_value a_t_before a_t_open a_t_from a_t_page a_t_there a_t_wish a_t_have t_length t_used t_far t_momentParts t_momentDay t_momentSecond t_momentNano t_momentOffset t_readParts t_readDay t_readSecond t_readNano t_readOffset t_alike t_text t_names t_sort t_code t_count t_around t_end t_size u6.2.2 t_before t_open t_from x1 (t_from ((x4 + (-1 : Int32))).toNatClampNeg) (t_end ((((20 : Int32) * x1) + (t_open ((x4 + (-1 : Int32))).toNatClampNeg))).toNatClampNeg) (x4 + (-1 : Int32)) S hr hlk hA X FU (0 : Int32) u6.2.1 u17 _ _ ls e18 hl hP hD hS (fun H locs ls hl hP hD hS => ?_)
            refine lv_goto (tgt := 222) hx hb d_SkeletonClockModel_through_216 rfl ?_
            obtain ⟨u19, e20, he⟩ := ih_b he
            have hl : lv_has ls 7 [(0, .ref a_t), (1, .int x1), (2, .int (t_from ((x4 + (-1 : Int32))).toNatClampNeg)), (3, .int (t_end ((((20 : Int32) * x1) + (t_open ((x4 + (-1 : Int32))).toNatClampNeg))).toNatClampNeg)), (4, .int (x4 + (-1 : Int32)))] := lv_sub hl [0, 1, 2, 3, 4] rfl
            refine w_SkeletonClockModel_through_222 a_t a_t_text a_t_names a_t_sort a_t_code a_t_count a_t_around a_t_end a_t_size a_t_known a_t_value a_t_before a_t_open a_t_from a_t_page a_t_there a_t_wish a_t_have t_length t_used t_far t_momentParts t_momentDay t_momentSecond t_momentNano t_momentOffset t_readParts t_readDay t_readSecond t_readNano t_readOffset t_alike t_text t_names t_sort t_code t_count t_around t_end t_size u17.2 u6.2.2 t_before t_open t_from x1 (t_from ((x4 + (-1 : Int32))).toNatClampNeg) (t_end ((((20 : Int32) * x1) + (t_open ((x4 + (-1 : Int32))).toNatClampNeg))).toNatClampNeg) S hr hlk hA X FU (x4 + (-1 : Int32)) u19 _ _ ls e20 hl hP hD hS (fun H locs ls hl hP hD hS => ?_)
            have hl : lv_has ls 7 [(0, .ref a_t), (1, .int x1), (2, .int (t_from ((x4 + (-1 : Int32))).toNatClampNeg)), (3, .int (t_end ((((20 : Int32) * x1) + (t_open ((x4 + (-1 : Int32))).toNatClampNeg))).toNatClampNeg)), (4, .int u19)] := lv_sub hl [0, 1, 2, 3, 4] rfl
            exact ih _ _ _ _ _ _ _ _ _ _ _ _ he hl hP hD hS hret K
        · have he := ih_f hc he
          refine lv_iload hx hb d_SkeletonClockModel_through_136 (lv_at hl 5 rfl) ?_
          refine lv_if_ne (tgt := 143) hx hb d_SkeletonClockModel_through_138 rfl (fun hc => ?_) (fun hc => ?_)
          · have he := ih_f hc he
            refine lv_iinc (k := 4) hx hb d_SkeletonClockModel_through_143 hl rfl (ii_ (v := (1 : Int32)) (by decide)) (by decide) rfl (fun ls hl => ?_)
            have hl : lv_has ls 7 [(3, .int (x3 + (1 : Int32))), (5, .int u6.1), (0, .ref a_t), (1, .int x1), (2, .int x2), (4, .int x4)] := hl
            refine lv_iload hx hb d_SkeletonClockModel_through_146 (lv_at hl 1 rfl) ?_
            refine lv_if_ge (tgt := 219) hx hb d_SkeletonClockModel_through_148 rfl (fun hc => ?_) (fun hc => ?_)
            · have he := ih_t hc he
              refine lv_iload hx hb d_SkeletonClockModel_through_219 (lv_at hl 1 rfl) ?_
              refine lv_istore_n hx hb d_SkeletonClockModel_through_221 rfl hl (by decide) rfl (fun ls hl => ?_)
              have hl : lv_has ls 7 [(2, .int u6.1), (3, .int (x3 + (1 : Int32))), (5, .int u6.1), (0, .ref a_t), (1, .int x1), (4, .int x4)] := hl
              obtain ⟨u21, e22, he⟩ := ih_b he
              have hl : lv_has ls 7 [(0, .ref a_t), (1, .int x1), (2, .int u6.1), (3, .int (x3 + (1 : Int32))), (4, .int x4)] := lv_sub hl [3, 4, 0, 1, 5] rfl
              refine w_SkeletonClockModel_through_222 a_t a_t_text a_t_names a_t_sort a_t_code a_t_count a_t_around a_t_end a_t_size a_t_known a_t_value a_t_before a_t_open a_t_from a_t_page a_t_there a_t_wish a_t_have t_length t_used t_far t_momentParts t_momentDay t_momentSecond t_momentNano t_momentOffset t_readParts t_readDay t_readSecond t_readNano t_readOffset t_alike t_text t_names t_sort t_code t_count t_around t_end t_size u6.2.1 u6.2.2 t_before t_open t_from x1 u6.1 (x3 + (1 : Int32)) S hr hlk hA X FU x4 u21 _ _ ls e22 hl hP hD hS (fun H locs ls hl hP hD hS => ?_)
              have hl : lv_has ls 7 [(0, .ref a_t), (1, .int x1), (2, .int u6.1), (3, .int (x3 + (1 : Int32))), (4, .int u21)] := lv_sub hl [0, 1, 2, 3, 4] rfl
              exact ih _ _ _ _ _ _ _ _ _ _ _ _ he hl hP hD hS hret K
            · have he := ih_f hc he
              refine lv_iinc (k := 5) hx hb d_SkeletonClockModel_through_151 hl rfl (ii_ (v := (-1 : Int32)) (by decide)) (by decide) rfl (fun ls hl => ?_)
              have hl : lv_has ls 7 [(4, .int (x4 + (-1 : Int32))), (3, .int (x3 + (1 : Int32))), (5, .int u6.1), (0, .ref a_t), (1, .int x1), (2, .int x2)] := hl
              refine lv_aload_n hx hb d_SkeletonClockModel_through_154 rfl (lv_at hl 3 rfl) ?_
              refine k_get S X us_SkeletonClockModel hP 0 rfl rfl 29 (by decide) gm_4_180 rfl d_SkeletonClockModel_through_155 ?_
              refine lv_iload hx hb d_SkeletonClockModel_through_158 (lv_at hl 0 rfl) ?_
              obtain ⟨hi23, he⟩ := ih_g he
              refine va_iald hx hb X.1 hP 13 0 rfl rfl hi23 d_SkeletonClockModel_through_160 ?_
              refine lv_istore_n hx hb d_SkeletonClockModel_through_161 rfl hl (by decide) rfl (fun ls hl => ?_)
              have hl : lv_has ls 7 [(2, .int (t_from ((x4 + (-1 : Int32))).toNatClampNeg)), (4, .int (x4 + (-1 : Int32))), (3, .int (x3 + (1 : Int32))), (5, .int u6.1), (0, .ref a_t), (1, .int x1)] := hl
              refine lv_aload_n hx hb d_SkeletonClockModel_through_162 rfl (lv_at hl 4 rfl) ?_
              refine k_get S X us_SkeletonClockModel hP 0 rfl rfl 9 (by decide) gm_4_160 rfl d_SkeletonClockModel_through_163 ?_
              refine lv_bipush (v := (20 : Int32)) hx hb d_SkeletonClockModel_through_166 (by decide) ?_
              refine lv_iload_n hx hb d_SkeletonClockModel_through_168 rfl (lv_at hl 5 rfl) ?_
              refine lv_imul hx hb d_SkeletonClockModel_through_169 ?_
              refine lv_aload_n hx hb d_SkeletonClockModel_through_170 rfl (lv_at hl 4 rfl) ?_
              refine k_get S X us_SkeletonClockModel hP 0 rfl rfl 28 (by decide) gm_4_179 rfl d_SkeletonClockModel_through_171 ?_
              refine lv_iload hx hb d_SkeletonClockModel_through_174 (lv_at hl 1 rfl) ?_
              obtain ⟨hi24, he⟩ := ih_g he
              refine va_iald hx hb X.1 hP 12 0 rfl rfl hi24 d_SkeletonClockModel_through_176 ?_
              refine lv_iadd hx hb d_SkeletonClockModel_through_177 ?_
              obtain ⟨hi25, he⟩ := ih_g he
              refine va_iald hx hb X.1 hP 7 0 rfl rfl hi25 d_SkeletonClockModel_through_178 ?_
              refine lv_istore_n hx hb d_SkeletonClockModel_through_179 rfl hl (by decide) rfl (fun ls hl => ?_)
              have hl : lv_has ls 7 [(3, .int (t_end ((((20 : Int32) * x1) + (t_open ((x4 + (-1 : Int32))).toNatClampNeg))).toNatClampNeg)), (2, .int (t_from ((x4 + (-1 : Int32))).toNatClampNeg)), (4, .int (x4 + (-1 : Int32))), (5, .int u6.1), (0, .ref a_t), (1, .int x1)] := hl
              refine lv_iconst (v := (0 : Int32)) hx hb d_SkeletonClockModel_through_180 (by decide) ?_
              refine lv_istore hx hb d_SkeletonClockModel_through_181 hl (by decide) rfl (fun ls hl => ?_)
              have hl : lv_has ls 7 [(6, .int (0 : Int32)), (3, .int (t_end ((((20 : Int32) * x1) + (t_open ((x4 + (-1 : Int32))).toNatClampNeg))).toNatClampNeg)), (2, .int (t_from ((x4 + (-1 : Int32))).toNatClampNeg)), (4, .int (x4 + (-1 : Int32))), (5, .int u6.1), (0, .ref a_t), (1, .int x1)] := hl
              obtain ⟨u26, e27, he⟩ := ih_b he
              have hl : lv_has ls 7 [(0, .ref a_t), (1, .int x1), (2, .int (t_from ((x4 + (-1 : Int32))).toNatClampNeg)), (3, .int (t_end ((((20 : Int32) * x1) + (t_open ((x4 + (-1 : Int32))).toNatClampNeg))).toNatClampNeg)), (4, .int (x4 + (-1 : Int32))), (6, .int (0 : Int32))] := lv_sub hl [5, 6, 2, 1, 3, 0] rfl
              refine w_SkeletonClockModel_through_183 a_t a_t_text a_t_names a_t_sort a_t_code a_t_count a_t_around a_t_end a_t_size a_t_known a_t_value a_t_before a_t_open a_t_from a_t_page a_t_there a_t_wish a_t_have t_length t_used t_far t_momentParts t_momentDay t_momentSecond t_momentNano t_momentOffset t_readParts t_readDay t_readSecond t_readNano t_readOffset t_alike t_text t_names t_sort t_code t_count t_around t_end t_size u6.2.2 t_before t_open t_from x1 (t_from ((x4 + (-1 : Int32))).toNatClampNeg) (t_end ((((20 : Int32) * x1) + (t_open ((x4 + (-1 : Int32))).toNatClampNeg))).toNatClampNeg) (x4 + (-1 : Int32)) S hr hlk hA X FU (0 : Int32) u6.2.1 u26 _ _ ls e27 hl hP hD hS (fun H locs ls hl hP hD hS => ?_)
              refine lv_goto (tgt := 222) hx hb d_SkeletonClockModel_through_216 rfl ?_
              obtain ⟨u28, e29, he⟩ := ih_b he
              have hl : lv_has ls 7 [(0, .ref a_t), (1, .int x1), (2, .int (t_from ((x4 + (-1 : Int32))).toNatClampNeg)), (3, .int (t_end ((((20 : Int32) * x1) + (t_open ((x4 + (-1 : Int32))).toNatClampNeg))).toNatClampNeg)), (4, .int (x4 + (-1 : Int32)))] := lv_sub hl [0, 1, 2, 3, 4] rfl
              refine w_SkeletonClockModel_through_222 a_t a_t_text a_t_names a_t_sort a_t_code a_t_count a_t_around a_t_end a_t_size a_t_known a_t_value a_t_before a_t_open a_t_from a_t_page a_t_there a_t_wish a_t_have t_length t_used t_far t_momentParts t_momentDay t_momentSecond t_momentNano t_momentOffset t_readParts t_readDay t_readSecond t_readNano t_readOffset t_alike t_text t_names t_sort t_code t_count t_around t_end t_size u26.2 u6.2.2 t_before t_open t_from x1 (t_from ((x4 + (-1 : Int32))).toNatClampNeg) (t_end ((((20 : Int32) * x1) + (t_open ((x4 + (-1 : Int32))).toNatClampNeg))).toNatClampNeg) S hr hlk hA X FU (x4 + (-1 : Int32)) u28 _ _ ls e29 hl hP hD hS (fun H locs ls hl hP hD hS => ?_)
              have hl : lv_has ls 7 [(0, .ref a_t), (1, .int x1), (2, .int (t_from ((x4 + (-1 : Int32))).toNatClampNeg)), (3, .int (t_end ((((20 : Int32) * x1) + (t_open ((x4 + (-1 : Int32))).toNatClampNeg))).toNatClampNeg)), (4, .int u28)] := lv_sub hl [0, 1, 2, 3, 4] rfl
              exact ih _ _ _ _ _ _ _ _ _ _ _ _ he hl hP hD hS hret K
          · have he := ih_t hc he
            refine lv_iload_n hx hb d_SkeletonClockModel_through_141 rfl (lv_at hl 3 rfl) ?_
            cases he
            have hq := hret _ rfl
            subst hq
            exact k_ire hx hb hr hlk X hP hD hS d_SkeletonClockModel_through_142
      · have he := ih_t hc he
        refine lv_aload_n hx hb d_SkeletonClockModel_through_56 rfl (lv_at hl 0 rfl) ?_
        refine k_get S X us_SkeletonClockModel hP 0 rfl rfl 28 (by decide) gm_4_179 rfl d_SkeletonClockModel_through_57 ?_
        refine lv_iload hx hb d_SkeletonClockModel_through_60 (lv_at hl 4 rfl) ?_
        refine lv_iload_n hx hb d_SkeletonClockModel_through_62 rfl (lv_at hl 3 rfl) ?_
        obtain ⟨hi30, he⟩ := ih_g he
        refine va_iast hx hb X.1 hP hD hS 12 0 rfl rfl hi30 d_SkeletonClockModel_through_63 (fun H locs hP hD hS => ?_)
        have hP : va_P D classes [(a_t, .inr (10, [.int t_length, .ref a_t_text, .int t_used, .ref a_t_page, .ref a_t_names, .ref a_t_sort, .ref a_t_code, .ref a_t_count, .ref a_t_around, .ref a_t_end, .ref a_t_size, .ref a_t_there, .ref a_t_wish, .ref a_t_have, .int t_far, .int t_momentParts, .long t_momentDay, .int t_momentSecond, .int t_momentNano, .int t_momentOffset, .int t_readParts, .long t_readDay, .int t_readSecond, .int t_readNano, .int t_readOffset, .ref a_t_known, .ref a_t_value, .ref a_t_before, .ref a_t_open, .ref a_t_from, .int t_alike])), (a_t_text, .inl (kk 1, 60, .inl t_text)), (a_t_names, .inl (kk 3, 21, .inr (.inl t_names))), (a_t_sort, .inl (kk 0, 140, .inl t_sort)), (a_t_code, .inl (kk 0, 140, .inl t_code)), (a_t_count, .inl (kk 0, 140, .inl t_count)), (a_t_around, .inl (kk 0, 140, .inl t_around)), (a_t_end, .inl (kk 0, 140, .inl t_end)), (a_t_size, .inl (kk 0, 7, .inl t_size)), (a_t_known, .inl (kk 2, 14, .inl t_known)), (a_t_value, .inl (kk 3, 14, .inr (.inl t_value))), (a_t_before, .inl (kk 2, 280, .inl t_before)), (a_t_open, .inl (kk 0, 20, .inl (upd t_open (x4).toNatClampNeg x3))), (a_t_from, .inl (kk 0, 20, .inl t_from))] H := hP
        have hD : va_D A [(a_t, .inr (10, [.int t_length, .ref a_t_text, .int t_used, .ref a_t_page, .ref a_t_names, .ref a_t_sort, .ref a_t_code, .ref a_t_count, .ref a_t_around, .ref a_t_end, .ref a_t_size, .ref a_t_there, .ref a_t_wish, .ref a_t_have, .int t_far, .int t_momentParts, .long t_momentDay, .int t_momentSecond, .int t_momentNano, .int t_momentOffset, .int t_readParts, .long t_readDay, .int t_readSecond, .int t_readNano, .int t_readOffset, .ref a_t_known, .ref a_t_value, .ref a_t_before, .ref a_t_open, .ref a_t_from, .int t_alike])), (a_t_text, .inl (kk 1, 60, .inl t_text)), (a_t_names, .inl (kk 3, 21, .inr (.inl t_names))), (a_t_sort, .inl (kk 0, 140, .inl t_sort)), (a_t_code, .inl (kk 0, 140, .inl t_code)), (a_t_count, .inl (kk 0, 140, .inl t_count)), (a_t_around, .inl (kk 0, 140, .inl t_around)), (a_t_end, .inl (kk 0, 140, .inl t_end)), (a_t_size, .inl (kk 0, 7, .inl t_size)), (a_t_known, .inl (kk 2, 14, .inl t_known)), (a_t_value, .inl (kk 3, 14, .inr (.inl t_value))), (a_t_before, .inl (kk 2, 280, .inl t_before)), (a_t_open, .inl (kk 0, 20, .inl (upd t_open (x4).toNatClampNeg x3))), (a_t_from, .inl (kk 0, 20, .inl t_from))] := hD
        refine lv_aload_n hx hb d_SkeletonClockModel_through_64 rfl (lv_at hl 0 rfl) ?_
        refine k_get S X us_SkeletonClockModel hP 0 rfl rfl 29 (by decide) gm_4_180 rfl d_SkeletonClockModel_through_65 ?_
        refine lv_iload hx hb d_SkeletonClockModel_through_68 (lv_at hl 4 rfl) ?_
        refine lv_iload_n hx hb d_SkeletonClockModel_through_70 rfl (lv_at hl 2 rfl) ?_
        obtain ⟨hi31, he⟩ := ih_g he
        refine va_iast hx hb X.1 hP hD hS 13 0 rfl rfl hi31 d_SkeletonClockModel_through_71 (fun H locs hP hD hS => ?_)
        have hP : va_P D classes [(a_t, .inr (10, [.int t_length, .ref a_t_text, .int t_used, .ref a_t_page, .ref a_t_names, .ref a_t_sort, .ref a_t_code, .ref a_t_count, .ref a_t_around, .ref a_t_end, .ref a_t_size, .ref a_t_there, .ref a_t_wish, .ref a_t_have, .int t_far, .int t_momentParts, .long t_momentDay, .int t_momentSecond, .int t_momentNano, .int t_momentOffset, .int t_readParts, .long t_readDay, .int t_readSecond, .int t_readNano, .int t_readOffset, .ref a_t_known, .ref a_t_value, .ref a_t_before, .ref a_t_open, .ref a_t_from, .int t_alike])), (a_t_text, .inl (kk 1, 60, .inl t_text)), (a_t_names, .inl (kk 3, 21, .inr (.inl t_names))), (a_t_sort, .inl (kk 0, 140, .inl t_sort)), (a_t_code, .inl (kk 0, 140, .inl t_code)), (a_t_count, .inl (kk 0, 140, .inl t_count)), (a_t_around, .inl (kk 0, 140, .inl t_around)), (a_t_end, .inl (kk 0, 140, .inl t_end)), (a_t_size, .inl (kk 0, 7, .inl t_size)), (a_t_known, .inl (kk 2, 14, .inl t_known)), (a_t_value, .inl (kk 3, 14, .inr (.inl t_value))), (a_t_before, .inl (kk 2, 280, .inl t_before)), (a_t_open, .inl (kk 0, 20, .inl (upd t_open (x4).toNatClampNeg x3))), (a_t_from, .inl (kk 0, 20, .inl (upd t_from (x4).toNatClampNeg x2)))] H := hP
        have hD : va_D A [(a_t, .inr (10, [.int t_length, .ref a_t_text, .int t_used, .ref a_t_page, .ref a_t_names, .ref a_t_sort, .ref a_t_code, .ref a_t_count, .ref a_t_around, .ref a_t_end, .ref a_t_size, .ref a_t_there, .ref a_t_wish, .ref a_t_have, .int t_far, .int t_momentParts, .long t_momentDay, .int t_momentSecond, .int t_momentNano, .int t_momentOffset, .int t_readParts, .long t_readDay, .int t_readSecond, .int t_readNano, .int t_readOffset, .ref a_t_known, .ref a_t_value, .ref a_t_before, .ref a_t_open, .ref a_t_from, .int t_alike])), (a_t_text, .inl (kk 1, 60, .inl t_text)), (a_t_names, .inl (kk 3, 21, .inr (.inl t_names))), (a_t_sort, .inl (kk 0, 140, .inl t_sort)), (a_t_code, .inl (kk 0, 140, .inl t_code)), (a_t_count, .inl (kk 0, 140, .inl t_count)), (a_t_around, .inl (kk 0, 140, .inl t_around)), (a_t_end, .inl (kk 0, 140, .inl t_end)), (a_t_size, .inl (kk 0, 7, .inl t_size)), (a_t_known, .inl (kk 2, 14, .inl t_known)), (a_t_value, .inl (kk 3, 14, .inr (.inl t_value))), (a_t_before, .inl (kk 2, 280, .inl t_before)), (a_t_open, .inl (kk 0, 20, .inl (upd t_open (x4).toNatClampNeg x3))), (a_t_from, .inl (kk 0, 20, .inl (upd t_from (x4).toNatClampNeg x2)))] := hD
        refine lv_iconst (v := (0 : Int32)) hx hb d_SkeletonClockModel_through_72 (by decide) ?_
        refine lv_istore hx hb d_SkeletonClockModel_through_73 hl (by decide) rfl (fun ls hl => ?_)
        have hl : lv_has ls 7 [(5, .int (0 : Int32)), (0, .ref a_t), (1, .int x1), (2, .int x2), (3, .int x3), (4, .int x4)] := hl
        obtain ⟨u34, e35, he⟩ := ih_b he
        have hl : lv_has ls 7 [(0, .ref a_t), (1, .int x1), (2, .int x2), (3, .int x3), (4, .int x4), (5, .int (0 : Int32))] := lv_sub hl [1, 2, 3, 4, 5, 0] rfl
        refine w_SkeletonClockModel_through_75 a_t a_t_text a_t_names a_t_sort a_t_code a_t_count a_t_around a_t_end a_t_size a_t_known a_t_value a_t_before a_t_open a_t_from a_t_page a_t_there a_t_wish a_t_have t_length t_used t_far t_momentParts t_momentDay t_momentSecond t_momentNano t_momentOffset t_readParts t_readDay t_readSecond t_readNano t_readOffset t_alike t_text t_names t_sort t_code t_count t_around t_end t_size t_known t_value (upd t_open (x4).toNatClampNeg x3) (upd t_from (x4).toNatClampNeg x2) x1 x2 x3 x4 S hr hlk hA X FU (0 : Int32) t_before u34 _ _ ls e35 hl hP hD hS (fun H locs ls hl hP hD hS => ?_)
        refine lv_iinc (k := 4) hx hb d_SkeletonClockModel_through_108 hl rfl (ii_ (v := (1 : Int32)) (by decide)) (by decide) rfl (fun ls hl => ?_)
        have hl : lv_has ls 7 [(4, .int (x4 + (1 : Int32))), (0, .ref a_t), (1, .int x1), (2, .int x2), (3, .int x3), (5, .int u34.1)] := hl
        refine lv_iinc (k := 4) hx hb d_SkeletonClockModel_through_111 hl rfl (ii_ (v := (1 : Int32)) (by decide)) (by decide) rfl (fun ls hl => ?_)
        have hl : lv_has ls 7 [(3, .int (x3 + (1 : Int32))), (4, .int (x4 + (1 : Int32))), (0, .ref a_t), (1, .int x1), (2, .int x2), (5, .int u34.1)] := hl
        refine lv_goto (tgt := 222) hx hb d_SkeletonClockModel_through_114 rfl ?_
        obtain ⟨u36, e37, he⟩ := ih_b he
        have hl : lv_has ls 7 [(0, .ref a_t), (1, .int x1), (2, .int x2), (3, .int (x3 + (1 : Int32))), (4, .int (x4 + (1 : Int32)))] := lv_sub hl [2, 3, 4, 0, 1] rfl
        refine w_SkeletonClockModel_through_222 a_t a_t_text a_t_names a_t_sort a_t_code a_t_count a_t_around a_t_end a_t_size a_t_known a_t_value a_t_before a_t_open a_t_from a_t_page a_t_there a_t_wish a_t_have t_length t_used t_far t_momentParts t_momentDay t_momentSecond t_momentNano t_momentOffset t_readParts t_readDay t_readSecond t_readNano t_readOffset t_alike t_text t_names t_sort t_code t_count t_around t_end t_size t_known t_value u34.2 (upd t_open (x4).toNatClampNeg x3) (upd t_from (x4).toNatClampNeg x2) x1 x2 (x3 + (1 : Int32)) S hr hlk hA X FU (x4 + (1 : Int32)) u36 _ _ ls e37 hl hP hD hS (fun H locs ls hl hP hD hS => ?_)
        have hl : lv_has ls 7 [(0, .ref a_t), (1, .int x1), (2, .int x2), (3, .int (x3 + (1 : Int32))), (4, .int u36)] := lv_sub hl [0, 1, 2, 3, 4] rfl
        exact ih _ _ _ _ _ _ _ _ _ _ _ _ he hl hP hD hS hret K
set_option maxHeartbeats 4000000 in
set_option maxRecDepth 100000 in
theorem c_SkeletonClockModel_through (l : Launch) (D : va_G) (kk : Nat → ClassId) (st : Nat → Nat) (a_t a_t_text a_t_names a_t_sort a_t_code a_t_count a_t_around a_t_end a_t_size a_t_known a_t_value a_t_before a_t_open a_t_from a_t_page a_t_there a_t_wish a_t_have : Nat) (sz : Nat) (t_length : Int32) (t_used : Int32) (t_far : Int32) (t_momentParts : Int32) (t_momentDay : Int64) (t_momentSecond : Int32) (t_momentNano : Int32) (t_momentOffset : Int32) (t_readParts : Int32) (t_readDay : Int64) (t_readSecond : Int32) (t_readNano : Int32) (t_readOffset : Int32) (t_alike : Int32) (t_text : Nat → Int32) (t_names : Nat → Int64) (t_sort : Nat → Int32) (t_code : Nat → Int32) (t_count : Nat → Int32) (t_around : Nat → Int32) (t_end : Nat → Int32) (t_size : Nat → Int32) (t_known : Nat → Int32) (t_value : Nat → Int64) (t_before : Nat → Int32) (t_open : Nat → Int32) (t_from : Nat → Int32) (x1 : Int32) (o : Int32 × (Nat → Int32) × (Nat → Int64) × (Nat → Int32) × (Nat → Int32) × (Nat → Int32)) (he : f_SkeletonClockModel_through t_length t_alike t_text t_names t_sort t_code t_count t_around t_end t_size t_known t_value t_before t_open t_from x1 = some o) : Met l y_SkeletonClockModel_through (Cond.code y_SkeletonClockModel_through b_SkeletonClockModel_through 7 (some .int) :: GW) rm_SkeletonClockModel_through (KPc D kk st [.ref a_t, .int x1] [(a_t, .inr (10, [.int t_length, .ref a_t_text, .int t_used, .ref a_t_page, .ref a_t_names, .ref a_t_sort, .ref a_t_code, .ref a_t_count, .ref a_t_around, .ref a_t_end, .ref a_t_size, .ref a_t_there, .ref a_t_wish, .ref a_t_have, .int t_far, .int t_momentParts, .long t_momentDay, .int t_momentSecond, .int t_momentNano, .int t_momentOffset, .int t_readParts, .long t_readDay, .int t_readSecond, .int t_readNano, .int t_readOffset, .ref a_t_known, .ref a_t_value, .ref a_t_before, .ref a_t_open, .ref a_t_from, .int t_alike])), (a_t_text, .inl (kk 1, 60, .inl t_text)), (a_t_names, .inl (kk 3, 21, .inr (.inl t_names))), (a_t_sort, .inl (kk 0, 140, .inl t_sort)), (a_t_code, .inl (kk 0, 140, .inl t_code)), (a_t_count, .inl (kk 0, 140, .inl t_count)), (a_t_around, .inl (kk 0, 140, .inl t_around)), (a_t_end, .inl (kk 0, 140, .inl t_end)), (a_t_size, .inl (kk 0, 7, .inl t_size)), (a_t_known, .inl (kk 2, 14, .inl t_known)), (a_t_value, .inl (kk 3, 14, .inr (.inl t_value))), (a_t_before, .inl (kk 2, 280, .inl t_before)), (a_t_open, .inl (kk 0, 20, .inl t_open)), (a_t_from, .inl (kk 0, 20, .inl t_from))] sz) (KQi D kk o.1 [(a_t, .inr (10, [.int t_length, .ref a_t_text, .int t_used, .ref a_t_page, .ref a_t_names, .ref a_t_sort, .ref a_t_code, .ref a_t_count, .ref a_t_around, .ref a_t_end, .ref a_t_size, .ref a_t_there, .ref a_t_wish, .ref a_t_have, .int t_far, .int t_momentParts, .long t_momentDay, .int t_momentSecond, .int t_momentNano, .int t_momentOffset, .int t_readParts, .long t_readDay, .int t_readSecond, .int t_readNano, .int t_readOffset, .ref a_t_known, .ref a_t_value, .ref a_t_before, .ref a_t_open, .ref a_t_from, .int t_alike])), (a_t_text, .inl (kk 1, 60, .inl t_text)), (a_t_names, .inl (kk 3, 21, .inr (.inl t_names))), (a_t_sort, .inl (kk 0, 140, .inl t_sort)), (a_t_code, .inl (kk 0, 140, .inl t_code)), (a_t_count, .inl (kk 0, 140, .inl t_count)), (a_t_around, .inl (kk 0, 140, .inl t_around)), (a_t_end, .inl (kk 0, 140, .inl t_end)), (a_t_size, .inl (kk 0, 7, .inl t_size)), (a_t_known, .inl (kk 2, 14, .inl o.2.1)), (a_t_value, .inl (kk 3, 14, .inr (.inl o.2.2.1))), (a_t_before, .inl (kk 2, 280, .inl o.2.2.2.1)), (a_t_open, .inl (kk 0, 20, .inl o.2.2.2.2.1)), (a_t_from, .inl (kk 0, 20, .inl o.2.2.2.2.2))] (va_A [(a_t, .inr (10, [.int t_length, .ref a_t_text, .int t_used, .ref a_t_page, .ref a_t_names, .ref a_t_sort, .ref a_t_code, .ref a_t_count, .ref a_t_around, .ref a_t_end, .ref a_t_size, .ref a_t_there, .ref a_t_wish, .ref a_t_have, .int t_far, .int t_momentParts, .long t_momentDay, .int t_momentSecond, .int t_momentNano, .int t_momentOffset, .int t_readParts, .long t_readDay, .int t_readSecond, .int t_readNano, .int t_readOffset, .ref a_t_known, .ref a_t_value, .ref a_t_before, .ref a_t_open, .ref a_t_from, .int t_alike])), (a_t_text, .inl (kk 1, 60, .inl t_text)), (a_t_names, .inl (kk 3, 21, .inr (.inl t_names))), (a_t_sort, .inl (kk 0, 140, .inl t_sort)), (a_t_code, .inl (kk 0, 140, .inl t_code)), (a_t_count, .inl (kk 0, 140, .inl t_count)), (a_t_around, .inl (kk 0, 140, .inl t_around)), (a_t_end, .inl (kk 0, 140, .inl t_end)), (a_t_size, .inl (kk 0, 7, .inl t_size)), (a_t_known, .inl (kk 2, 14, .inl t_known)), (a_t_value, .inl (kk 3, 14, .inr (.inl t_value))), (a_t_before, .inl (kk 2, 280, .inl t_before)), (a_t_open, .inl (kk 0, 20, .inl t_open)), (a_t_from, .inl (kk 0, 20, .inl t_from))] sz)) 0 0 (va_A [(a_t, .inr (10, [.int t_length, .ref a_t_text, .int t_used, .ref a_t_page, .ref a_t_names, .ref a_t_sort, .ref a_t_code, .ref a_t_count, .ref a_t_around, .ref a_t_end, .ref a_t_size, .ref a_t_there, .ref a_t_wish, .ref a_t_have, .int t_far, .int t_momentParts, .long t_momentDay, .int t_momentSecond, .int t_momentNano, .int t_momentOffset, .int t_readParts, .long t_readDay, .int t_readSecond, .int t_readNano, .int t_readOffset, .ref a_t_known, .ref a_t_value, .ref a_t_before, .ref a_t_open, .ref a_t_from, .int t_alike])), (a_t_text, .inl (kk 1, 60, .inl t_text)), (a_t_names, .inl (kk 3, 21, .inr (.inl t_names))), (a_t_sort, .inl (kk 0, 140, .inl t_sort)), (a_t_code, .inl (kk 0, 140, .inl t_code)), (a_t_count, .inl (kk 0, 140, .inl t_count)), (a_t_around, .inl (kk 0, 140, .inl t_around)), (a_t_end, .inl (kk 0, 140, .inl t_end)), (a_t_size, .inl (kk 0, 7, .inl t_size)), (a_t_known, .inl (kk 2, 14, .inl t_known)), (a_t_value, .inl (kk 3, 14, .inr (.inl t_value))), (a_t_before, .inl (kk 2, 280, .inl t_before)), (a_t_open, .inl (kk 0, 20, .inl t_open)), (a_t_from, .inl (kk 0, 20, .inl t_from))] sz) := by
  refine k_start (Qc := fun A => KQi D kk o.1 [(a_t, .inr (10, [.int t_length, .ref a_t_text, .int t_used, .ref a_t_page, .ref a_t_names, .ref a_t_sort, .ref a_t_code, .ref a_t_count, .ref a_t_around, .ref a_t_end, .ref a_t_size, .ref a_t_there, .ref a_t_wish, .ref a_t_have, .int t_far, .int t_momentParts, .long t_momentDay, .int t_momentSecond, .int t_momentNano, .int t_momentOffset, .int t_readParts, .long t_readDay, .int t_readSecond, .int t_readNano, .int t_readOffset, .ref a_t_known, .ref a_t_value, .ref a_t_before, .ref a_t_open, .ref a_t_from, .int t_alike])), (a_t_text, .inl (kk 1, 60, .inl t_text)), (a_t_names, .inl (kk 3, 21, .inr (.inl t_names))), (a_t_sort, .inl (kk 0, 140, .inl t_sort)), (a_t_code, .inl (kk 0, 140, .inl t_code)), (a_t_count, .inl (kk 0, 140, .inl t_count)), (a_t_around, .inl (kk 0, 140, .inl t_around)), (a_t_end, .inl (kk 0, 140, .inl t_end)), (a_t_size, .inl (kk 0, 7, .inl t_size)), (a_t_known, .inl (kk 2, 14, .inl o.2.1)), (a_t_value, .inl (kk 3, 14, .inr (.inl o.2.2.1))), (a_t_before, .inl (kk 2, 280, .inl o.2.2.2.1)), (a_t_open, .inl (kk 0, 20, .inl o.2.2.2.2.1)), (a_t_from, .inl (kk 0, 20, .inl o.2.2.2.2.2))] A) (by decide) (Nat.le_of_ble_eq_true rfl) ?_
  intro p e s m below meth c A ls S hnm hr hlk hA X hP hD hS hl
  have hl : lv_has ls 7 [(0, .ref a_t), (1, .int x1)] := hl
  have hx := S.1
  have hb := S.2.1
  unfold f_SkeletonClockModel_through at he
  refine lv_iconst (v := (0 : Int32)) hx hb d_SkeletonClockModel_through_0 (by decide) ?_
  refine lv_istore_n hx hb d_SkeletonClockModel_through_1 rfl hl (by decide) rfl (fun ls hl => ?_)
  have hl : lv_has ls 7 [(2, .int (0 : Int32)), (0, .ref a_t), (1, .int x1)] := hl
  refine lv_iconst (v := (0 : Int32)) hx hb d_SkeletonClockModel_through_2 (by decide) ?_
  refine lv_istore_n hx hb d_SkeletonClockModel_through_3 rfl hl (by decide) rfl (fun ls hl => ?_)
  have hl : lv_has ls 7 [(3, .int (0 : Int32)), (2, .int (0 : Int32)), (0, .ref a_t), (1, .int x1)] := hl
  refine lv_iconst (v := (0 : Int32)) hx hb d_SkeletonClockModel_through_4 (by decide) ?_
  refine lv_istore hx hb d_SkeletonClockModel_through_5 hl (by decide) rfl (fun ls hl => ?_)
  have hl : lv_has ls 7 [(4, .int (0 : Int32)), (3, .int (0 : Int32)), (2, .int (0 : Int32)), (0, .ref a_t), (1, .int x1)] := hl
  refine lv_iconst (v := (0 : Int32)) hx hb d_SkeletonClockModel_through_7 (by decide) ?_
  refine lv_istore hx hb d_SkeletonClockModel_through_8 hl (by decide) rfl (fun ls hl => ?_)
  have hl : lv_has ls 7 [(5, .int (0 : Int32)), (4, .int (0 : Int32)), (3, .int (0 : Int32)), (2, .int (0 : Int32)), (0, .ref a_t), (1, .int x1)] := hl
  obtain ⟨u2, e3, he⟩ := ih_b he
  have hl : lv_has ls 7 [(0, .ref a_t), (1, .int x1), (2, .int (0 : Int32)), (3, .int (0 : Int32)), (4, .int (0 : Int32)), (5, .int (0 : Int32))] := lv_sub hl [4, 5, 3, 2, 1, 0] rfl
  refine w_SkeletonClockModel_through_10 a_t a_t_text a_t_names a_t_sort a_t_code a_t_count a_t_around a_t_end a_t_size a_t_known a_t_value a_t_before a_t_open a_t_from a_t_page a_t_there a_t_wish a_t_have t_length t_used t_far t_momentParts t_momentDay t_momentSecond t_momentNano t_momentOffset t_readParts t_readDay t_readSecond t_readNano t_readOffset t_alike t_text t_names t_sort t_code t_count t_around t_end t_size t_value t_before t_open t_from x1 (0 : Int32) (0 : Int32) (0 : Int32) S hr hlk hA X FU (0 : Int32) t_known u2 _ _ ls e3 hl hP hD hS (fun H locs ls hl hP hD hS => ?_)
  obtain ⟨u38, e39, he⟩ := ih_b he
  have hl : lv_has ls 7 [(0, .ref a_t), (1, .int x1), (2, .int (0 : Int32)), (3, .int (0 : Int32)), (4, .int (0 : Int32))] := lv_sub hl [0, 1, 2, 3, 4] rfl
  rcases u38 with o40 | v41
  · have he := sel_l he
    cases he
    exact w_SkeletonClockModel_through_31 a_t a_t_text a_t_names a_t_sort a_t_code a_t_count a_t_around a_t_end a_t_size a_t_known a_t_value a_t_before a_t_open a_t_from a_t_page a_t_there a_t_wish a_t_have t_length t_used t_far t_momentParts t_momentDay t_momentSecond t_momentNano t_momentOffset t_readParts t_readDay t_readSecond t_readNano t_readOffset t_alike t_text t_names t_sort t_code t_count t_around t_end t_size x1 S hr hlk hA X FU (0 : Int32) (0 : Int32) (0 : Int32) u2.2 t_value t_before t_open t_from _ _ _ ls e39 hl hP hD hS (fun o h => by cases h; rfl) (fun v h => by cases h)
  · have he := sel_r he
    refine w_SkeletonClockModel_through_31 a_t a_t_text a_t_names a_t_sort a_t_code a_t_count a_t_around a_t_end a_t_size a_t_known a_t_value a_t_before a_t_open a_t_from a_t_page a_t_there a_t_wish a_t_have t_length t_used t_far t_momentParts t_momentDay t_momentSecond t_momentNano t_momentOffset t_readParts t_readDay t_readSecond t_readNano t_readOffset t_alike t_text t_names t_sort t_code t_count t_around t_end t_size x1 S hr hlk hA X FU (0 : Int32) (0 : Int32) (0 : Int32) u2.2 t_value t_before t_open t_from _ _ _ ls e39 hl hP hD hS (fun o h => by cases h) (fun v h H locs ls hl hP hD hS => ?_)
    have h := Sum.inr.inj h
    subst h
    refine lv_iload_n hx hb d_SkeletonClockModel_through_256 rfl (lv_at hl 2 rfl) ?_
    refine lv_aload_n hx hb d_SkeletonClockModel_through_257 rfl (lv_at hl 0 rfl) ?_
    refine k_get S X us_SkeletonClockModel hP 0 rfl rfl 0 (by decide) gm_4_151 rfl d_SkeletonClockModel_through_258 ?_
    refine lv_icmp_ne (tgt := 268) hx hb d_SkeletonClockModel_through_261 rfl (fun hc => ?_) (fun hc => ?_)
    · have he := ih_f hc he
      refine lv_iload_n hx hb d_SkeletonClockModel_through_268 rfl (lv_at hl 2 rfl) ?_
      cases he
      exact k_ire hx hb hr hlk X hP hD hS d_SkeletonClockModel_through_269
    · have he := ih_t hc he
      refine lv_iconst (v := (-1 : Int32)) hx hb d_SkeletonClockModel_through_264 (by decide) ?_
      refine lv_goto (tgt := 269) hx hb d_SkeletonClockModel_through_265 rfl ?_
      cases he
      exact k_ire hx hb hr hlk X hP hD hS d_SkeletonClockModel_through_269
abbrev rm_SkeletonClockModel_within : Room := { frames := 0, cells := 0, slots := 0, locals := 0 }
set_option maxHeartbeats 4000000 in
set_option maxRecDepth 100000 in
theorem c_SkeletonClockModel_within (l : Launch) (D : va_G) (kk : Nat → ClassId) (st : Nat → Nat) (a_t a_t_known a_t_value a_t_text a_t_page a_t_names a_t_sort a_t_code a_t_count a_t_around a_t_end a_t_size a_t_there a_t_wish a_t_have a_t_before a_t_open a_t_from : Nat) (sz : Nat) (t_length : Int32) (t_used : Int32) (t_far : Int32) (t_momentParts : Int32) (t_momentDay : Int64) (t_momentSecond : Int32) (t_momentNano : Int32) (t_momentOffset : Int32) (t_readParts : Int32) (t_readDay : Int64) (t_readSecond : Int32) (t_readNano : Int32) (t_readOffset : Int32) (t_alike : Int32) (t_known : Nat → Int32) (t_value : Nat → Int64) (x1 : Int32) (x2 : Int64) (x4 : Int64) (o : Int32) (he : f_SkeletonClockModel_within t_known t_value x1 x2 x4 = some o) : Met l y_SkeletonClockModel_within (Cond.code y_SkeletonClockModel_within b_SkeletonClockModel_within 6 (some .boolean) :: GW) rm_SkeletonClockModel_within (KPc D kk st [.ref a_t, .int x1, .long x2, .long x4] [(a_t, .inr (10, [.int t_length, .ref a_t_text, .int t_used, .ref a_t_page, .ref a_t_names, .ref a_t_sort, .ref a_t_code, .ref a_t_count, .ref a_t_around, .ref a_t_end, .ref a_t_size, .ref a_t_there, .ref a_t_wish, .ref a_t_have, .int t_far, .int t_momentParts, .long t_momentDay, .int t_momentSecond, .int t_momentNano, .int t_momentOffset, .int t_readParts, .long t_readDay, .int t_readSecond, .int t_readNano, .int t_readOffset, .ref a_t_known, .ref a_t_value, .ref a_t_before, .ref a_t_open, .ref a_t_from, .int t_alike])), (a_t_known, .inl (kk 2, 14, .inl t_known)), (a_t_value, .inl (kk 3, 14, .inr (.inl t_value)))] sz) (KQi D kk o [(a_t, .inr (10, [.int t_length, .ref a_t_text, .int t_used, .ref a_t_page, .ref a_t_names, .ref a_t_sort, .ref a_t_code, .ref a_t_count, .ref a_t_around, .ref a_t_end, .ref a_t_size, .ref a_t_there, .ref a_t_wish, .ref a_t_have, .int t_far, .int t_momentParts, .long t_momentDay, .int t_momentSecond, .int t_momentNano, .int t_momentOffset, .int t_readParts, .long t_readDay, .int t_readSecond, .int t_readNano, .int t_readOffset, .ref a_t_known, .ref a_t_value, .ref a_t_before, .ref a_t_open, .ref a_t_from, .int t_alike])), (a_t_known, .inl (kk 2, 14, .inl t_known)), (a_t_value, .inl (kk 3, 14, .inr (.inl t_value)))] (va_A [(a_t, .inr (10, [.int t_length, .ref a_t_text, .int t_used, .ref a_t_page, .ref a_t_names, .ref a_t_sort, .ref a_t_code, .ref a_t_count, .ref a_t_around, .ref a_t_end, .ref a_t_size, .ref a_t_there, .ref a_t_wish, .ref a_t_have, .int t_far, .int t_momentParts, .long t_momentDay, .int t_momentSecond, .int t_momentNano, .int t_momentOffset, .int t_readParts, .long t_readDay, .int t_readSecond, .int t_readNano, .int t_readOffset, .ref a_t_known, .ref a_t_value, .ref a_t_before, .ref a_t_open, .ref a_t_from, .int t_alike])), (a_t_known, .inl (kk 2, 14, .inl t_known)), (a_t_value, .inl (kk 3, 14, .inr (.inl t_value)))] sz)) 0 0 (va_A [(a_t, .inr (10, [.int t_length, .ref a_t_text, .int t_used, .ref a_t_page, .ref a_t_names, .ref a_t_sort, .ref a_t_code, .ref a_t_count, .ref a_t_around, .ref a_t_end, .ref a_t_size, .ref a_t_there, .ref a_t_wish, .ref a_t_have, .int t_far, .int t_momentParts, .long t_momentDay, .int t_momentSecond, .int t_momentNano, .int t_momentOffset, .int t_readParts, .long t_readDay, .int t_readSecond, .int t_readNano, .int t_readOffset, .ref a_t_known, .ref a_t_value, .ref a_t_before, .ref a_t_open, .ref a_t_from, .int t_alike])), (a_t_known, .inl (kk 2, 14, .inl t_known)), (a_t_value, .inl (kk 3, 14, .inr (.inl t_value)))] sz) := by
  refine k_start (Qc := fun A => KQi D kk o [(a_t, .inr (10, [.int t_length, .ref a_t_text, .int t_used, .ref a_t_page, .ref a_t_names, .ref a_t_sort, .ref a_t_code, .ref a_t_count, .ref a_t_around, .ref a_t_end, .ref a_t_size, .ref a_t_there, .ref a_t_wish, .ref a_t_have, .int t_far, .int t_momentParts, .long t_momentDay, .int t_momentSecond, .int t_momentNano, .int t_momentOffset, .int t_readParts, .long t_readDay, .int t_readSecond, .int t_readNano, .int t_readOffset, .ref a_t_known, .ref a_t_value, .ref a_t_before, .ref a_t_open, .ref a_t_from, .int t_alike])), (a_t_known, .inl (kk 2, 14, .inl t_known)), (a_t_value, .inl (kk 3, 14, .inr (.inl t_value)))] A) (by decide) (Nat.le_of_ble_eq_true rfl) ?_
  intro p e s m below meth c A ls S hnm hr hlk hA X hP hD hS hl
  have hl : lv_has ls 6 [(0, .ref a_t), (1, .int x1), (2, .long x2), (4, .long x4)] := hl
  have hx := S.1
  have hb := S.2.1
  unfold f_SkeletonClockModel_within at he
  refine lv_aload_n hx hb d_SkeletonClockModel_within_0 rfl (lv_at hl 0 rfl) ?_
  refine k_get S X us_SkeletonClockModel hP 0 rfl rfl 25 (by decide) gm_4_176 rfl d_SkeletonClockModel_within_1 ?_
  refine lv_iload_n hx hb d_SkeletonClockModel_within_4 rfl (lv_at hl 1 rfl) ?_
  obtain ⟨hi1, he⟩ := ih_g he
  refine va_zald hx hb X.1 hP 1 2 rfl rfl hi1 d_SkeletonClockModel_within_5 ?_
  refine lv_if_eq (tgt := 32) hx hb d_SkeletonClockModel_within_6 rfl (fun hc => ?_) (fun hc => ?_)
  · have he := ih_t hc he
    refine lv_iconst (v := (1 : Int32)) hx hb d_SkeletonClockModel_within_32 (by decide) ?_
    refine lv_goto (tgt := 37) hx hb d_SkeletonClockModel_within_33 rfl ?_
    cases he
    exact k_zre hx hb hr hlk X hP hD hS (Or.inr rfl) d_SkeletonClockModel_within_37
  · have he := ih_f hc he
    refine lv_aload_n hx hb d_SkeletonClockModel_within_9 rfl (lv_at hl 0 rfl) ?_
    refine k_get S X us_SkeletonClockModel hP 0 rfl rfl 26 (by decide) gm_4_177 rfl d_SkeletonClockModel_within_10 ?_
    refine lv_iload_n hx hb d_SkeletonClockModel_within_13 rfl (lv_at hl 1 rfl) ?_
    obtain ⟨hi2, he⟩ := ih_g he
    refine va_lald hx hb X.1 hP 2 3 rfl rfl hi2 d_SkeletonClockModel_within_14 ?_
    refine lv_lload_n hx hb d_SkeletonClockModel_within_15 rfl (lv_at hl 2 rfl) ?_
    refine lq_lt (tgt := 36) hx hb d_SkeletonClockModel_within_16 d_SkeletonClockModel_within_17 rfl (fun hc => ?_) (fun hc => ?_)
    · have he := ih_t hc he
      refine lv_iconst (v := (0 : Int32)) hx hb d_SkeletonClockModel_within_36 (by decide) ?_
      cases he
      exact k_zre hx hb hr hlk X hP hD hS (Or.inl rfl) d_SkeletonClockModel_within_37
    · have he := ih_f hc he
      refine lv_aload_n hx hb d_SkeletonClockModel_within_20 rfl (lv_at hl 0 rfl) ?_
      refine k_get S X us_SkeletonClockModel hP 0 rfl rfl 26 (by decide) gm_4_177 rfl d_SkeletonClockModel_within_21 ?_
      refine lv_iload_n hx hb d_SkeletonClockModel_within_24 rfl (lv_at hl 1 rfl) ?_
      obtain ⟨hi3, he⟩ := ih_g he
      refine va_lald hx hb X.1 hP 2 3 rfl rfl hi3 d_SkeletonClockModel_within_25 ?_
      refine lv_lload hx hb d_SkeletonClockModel_within_26 (lv_at hl 3 rfl) ?_
      refine lq_gt (tgt := 36) hx hb d_SkeletonClockModel_within_28 d_SkeletonClockModel_within_29 rfl (fun hc => ?_) (fun hc => ?_)
      · have he := ih_t hc he
        refine lv_iconst (v := (0 : Int32)) hx hb d_SkeletonClockModel_within_36 (by decide) ?_
        cases he
        exact k_zre hx hb hr hlk X hP hD hS (Or.inl rfl) d_SkeletonClockModel_within_37
      · have he := ih_f hc he
        refine lv_iconst (v := (1 : Int32)) hx hb d_SkeletonClockModel_within_32 (by decide) ?_
        refine lv_goto (tgt := 37) hx hb d_SkeletonClockModel_within_33 rfl ?_
        cases he
        exact k_zre hx hb hr hlk X hP hD hS (Or.inr rfl) d_SkeletonClockModel_within_37
abbrev rm_SkeletonClockModel_some : Room := { frames := 0, cells := 0, slots := 0, locals := 0 }
set_option maxHeartbeats 4000000 in
set_option maxRecDepth 100000 in
theorem w_SkeletonClockModel_some_5 {p : Program} {l : Launch} {e : Env} {s : State} {m : MethodId} {args : Array Value} {below : List Frame} {meth : Method} {c : Code} {Q : State → Prop} {A : Nat → Prop} {D : va_G} {kk : Nat → ClassId} {st : Nat → Nat} (a_t a_t_known a_t_text a_t_page a_t_names a_t_sort a_t_code a_t_count a_t_around a_t_end a_t_size a_t_there a_t_wish a_t_have a_t_value a_t_before a_t_open a_t_from : Nat) (t_length : Int32) (t_used : Int32) (t_far : Int32) (t_momentParts : Int32) (t_momentDay : Int64) (t_momentSecond : Int32) (t_momentNano : Int32) (t_momentOffset : Int32) (t_readParts : Int32) (t_readDay : Int64) (t_readSecond : Int32) (t_readNano : Int32) (t_readOffset : Int32) (t_alike : Int32) (t_known : Nat → Int32) (x2 : Int32) (S : CallFix p m c b_SkeletonClockModel_some 5 s args GW y_SkeletonClockModel_some.cls) (hr : meth.sig.returnType = (some .boolean)) (hlk : meth.locks = false) (hA : ∀ q, s.heap.size ≤ q → A q) (X : KX D kk st A s) : ∀ (n : Nat) (x3 : Int32) (x4 : Int32) (v : Int32 × Int32) (H : Heap) (locs : List Loc) (ls : Array Slot), lp_SkeletonClockModel_some_5 t_known x2 n x3 x4 = some v → lv_has ls 5 [(0, .ref a_t), (2, .int x2), (3, .int x3), (4, .int x4)] → va_P D classes [(a_t, .inr (10, [.int t_length, .ref a_t_text, .int t_used, .ref a_t_page, .ref a_t_names, .ref a_t_sort, .ref a_t_code, .ref a_t_count, .ref a_t_around, .ref a_t_end, .ref a_t_size, .ref a_t_there, .ref a_t_wish, .ref a_t_have, .int t_far, .int t_momentParts, .long t_momentDay, .int t_momentSecond, .int t_momentNano, .int t_momentOffset, .int t_readParts, .long t_readDay, .int t_readSecond, .int t_readNano, .int t_readOffset, .ref a_t_known, .ref a_t_value, .ref a_t_before, .ref a_t_open, .ref a_t_from, .int t_alike])), (a_t_known, .inl (kk 2, 14, .inl t_known))] H → va_D A [(a_t, .inr (10, [.int t_length, .ref a_t_text, .int t_used, .ref a_t_page, .ref a_t_names, .ref a_t_sort, .ref a_t_code, .ref a_t_count, .ref a_t_around, .ref a_t_end, .ref a_t_size, .ref a_t_there, .ref a_t_wish, .ref a_t_have, .int t_far, .int t_momentParts, .long t_momentDay, .int t_momentSecond, .int t_momentNano, .int t_momentOffset, .int t_readParts, .long t_readDay, .int t_readSecond, .int t_readNano, .int t_readOffset, .ref a_t_known, .ref a_t_value, .ref a_t_before, .ref a_t_open, .ref a_t_from, .int t_alike])), (a_t_known, .inl (kk 2, 14, .inl t_known))] → va_S A s.heap H locs → (∀ (H : Heap) (locs : List Loc) (ls : Array Slot), lv_has ls 5 [(0, .ref a_t), (2, .int x2), (3, .int v.1), (4, .int v.2)] → va_P D classes [(a_t, .inr (10, [.int t_length, .ref a_t_text, .int t_used, .ref a_t_page, .ref a_t_names, .ref a_t_sort, .ref a_t_code, .ref a_t_count, .ref a_t_around, .ref a_t_end, .ref a_t_size, .ref a_t_there, .ref a_t_wish, .ref a_t_have, .int t_far, .int t_momentParts, .long t_momentDay, .int t_momentSecond, .int t_momentNano, .int t_momentOffset, .int t_readParts, .long t_readDay, .int t_readSecond, .int t_readNano, .int t_readOffset, .ref a_t_known, .ref a_t_value, .ref a_t_before, .ref a_t_open, .ref a_t_from, .int t_alike])), (a_t_known, .inl (kk 2, 14, .inl t_known))] H → va_D A [(a_t, .inr (10, [.int t_length, .ref a_t_text, .int t_used, .ref a_t_page, .ref a_t_names, .ref a_t_sort, .ref a_t_code, .ref a_t_count, .ref a_t_around, .ref a_t_end, .ref a_t_size, .ref a_t_there, .ref a_t_wish, .ref a_t_have, .int t_far, .int t_momentParts, .long t_momentDay, .int t_momentSecond, .int t_momentNano, .int t_momentOffset, .int t_readParts, .long t_readDay, .int t_readSecond, .int t_readNano, .int t_readOffset, .ref a_t_known, .ref a_t_value, .ref a_t_before, .ref a_t_open, .ref a_t_from, .int t_alike])), (a_t_known, .inl (kk 2, 14, .inl t_known))] → va_S A s.heap H locs → W p l e rm_SkeletonClockModel_some s m args below meth c H locs 0 0 Q (F0 m 37 ls [])) → W p l e rm_SkeletonClockModel_some s m args below meth c H locs 0 0 Q (F0 m 5 ls []) := by
  intro n
  induction n with
  | zero =>
    intro x3 x4 v H locs ls he hl hP hD hS K
    exact ih_n he
  | succ n ih =>
    intro x3 x4 v H locs ls he hl hP hD hS K
    have hx := S.1
    have hb := S.2.1
    have he : st_SkeletonClockModel_some_5 t_known x2 (lp_SkeletonClockModel_some_5 t_known x2 n) x3 x4 = some v := he
    unfold st_SkeletonClockModel_some_5 at he
    refine lv_iload hx hb d_SkeletonClockModel_some_5 (lv_at hl 3 rfl) ?_
    refine lv_iload_n hx hb d_SkeletonClockModel_some_7 rfl (lv_at hl 1 rfl) ?_
    refine lv_icmp_gt (tgt := 37) hx hb d_SkeletonClockModel_some_8 rfl (fun hc => ?_) (fun hc => ?_)
    · have he := ih_t hc he
      have hl : lv_has ls 5 [(0, .ref a_t), (2, .int x2), (3, .int x3), (4, .int x4)] := lv_sub hl [0, 1, 2, 3] rfl
      cases he
      exact K _ _ _ hl hP hD hS
    · have he := ih_f hc he
      refine lv_iload_n hx hb d_SkeletonClockModel_some_11 rfl (lv_at hl 2 rfl) ?_
      refine lv_if_ne (tgt := 25) hx hb d_SkeletonClockModel_some_12 rfl (fun hc => ?_) (fun hc => ?_)
      · have he := ih_f hc he
        refine lv_iconst (v := (1 : Int32)) hx hb d_SkeletonClockModel_some_25 (by decide) ?_
        refine lv_goto (tgt := 30) hx hb d_SkeletonClockModel_some_26 rfl ?_
        refine lv_istore_n hx hb d_SkeletonClockModel_some_30 rfl hl (by decide) rfl (fun ls hl => ?_)
        have hl : lv_has ls 5 [(3, .int (1 : Int32)), (0, .ref a_t), (2, .int x2), (4, .int x4)] := hl
        refine lv_iinc (k := 3) hx hb d_SkeletonClockModel_some_31 hl rfl (ii_ (v := (1 : Int32)) (by decide)) (by decide) rfl (fun ls hl => ?_)
        have hl : lv_has ls 5 [(4, .int (x4 + (1 : Int32))), (3, .int (1 : Int32)), (0, .ref a_t), (2, .int x2)] := hl
        refine lv_goto (tgt := 5) hx hb d_SkeletonClockModel_some_34 rfl ?_
        have hl : lv_has ls 5 [(0, .ref a_t), (2, .int x2), (3, .int (1 : Int32)), (4, .int (x4 + (1 : Int32)))] := lv_sub hl [2, 3, 1, 0] rfl
        exact ih _ _ _ _ _ _ he hl hP hD hS K
      · have he := ih_t hc he
        refine lv_aload_n hx hb d_SkeletonClockModel_some_15 rfl (lv_at hl 0 rfl) ?_
        refine k_get S X us_SkeletonClockModel hP 0 rfl rfl 25 (by decide) gm_4_176 rfl d_SkeletonClockModel_some_16 ?_
        refine lv_iload hx hb d_SkeletonClockModel_some_19 (lv_at hl 3 rfl) ?_
        obtain ⟨hi1, he⟩ := ih_g he
        refine va_zald hx hb X.1 hP 1 2 rfl rfl hi1 d_SkeletonClockModel_some_21 ?_
        refine lv_if_eq (tgt := 29) hx hb d_SkeletonClockModel_some_22 rfl (fun hc => ?_) (fun hc => ?_)
        · have he := ih_t hc he
          refine lv_iconst (v := (0 : Int32)) hx hb d_SkeletonClockModel_some_29 (by decide) ?_
          refine lv_istore_n hx hb d_SkeletonClockModel_some_30 rfl hl (by decide) rfl (fun ls hl => ?_)
          have hl : lv_has ls 5 [(3, .int (0 : Int32)), (0, .ref a_t), (2, .int x2), (4, .int x4)] := hl
          refine lv_iinc (k := 3) hx hb d_SkeletonClockModel_some_31 hl rfl (ii_ (v := (1 : Int32)) (by decide)) (by decide) rfl (fun ls hl => ?_)
          have hl : lv_has ls 5 [(4, .int (x4 + (1 : Int32))), (3, .int (0 : Int32)), (0, .ref a_t), (2, .int x2)] := hl
          refine lv_goto (tgt := 5) hx hb d_SkeletonClockModel_some_34 rfl ?_
          have hl : lv_has ls 5 [(0, .ref a_t), (2, .int x2), (3, .int (0 : Int32)), (4, .int (x4 + (1 : Int32)))] := lv_sub hl [2, 3, 1, 0] rfl
          exact ih _ _ _ _ _ _ he hl hP hD hS K
        · have he := ih_f hc he
          refine lv_iconst (v := (1 : Int32)) hx hb d_SkeletonClockModel_some_25 (by decide) ?_
          refine lv_goto (tgt := 30) hx hb d_SkeletonClockModel_some_26 rfl ?_
          refine lv_istore_n hx hb d_SkeletonClockModel_some_30 rfl hl (by decide) rfl (fun ls hl => ?_)
          have hl : lv_has ls 5 [(3, .int (1 : Int32)), (0, .ref a_t), (2, .int x2), (4, .int x4)] := hl
          refine lv_iinc (k := 3) hx hb d_SkeletonClockModel_some_31 hl rfl (ii_ (v := (1 : Int32)) (by decide)) (by decide) rfl (fun ls hl => ?_)
          have hl : lv_has ls 5 [(4, .int (x4 + (1 : Int32))), (3, .int (1 : Int32)), (0, .ref a_t), (2, .int x2)] := hl
          refine lv_goto (tgt := 5) hx hb d_SkeletonClockModel_some_34 rfl ?_
          have hl : lv_has ls 5 [(0, .ref a_t), (2, .int x2), (3, .int (1 : Int32)), (4, .int (x4 + (1 : Int32)))] := lv_sub hl [2, 3, 1, 0] rfl
          exact ih _ _ _ _ _ _ he hl hP hD hS K
set_option maxHeartbeats 4000000 in
set_option maxRecDepth 100000 in
theorem c_SkeletonClockModel_some (l : Launch) (D : va_G) (kk : Nat → ClassId) (st : Nat → Nat) (a_t a_t_known a_t_text a_t_page a_t_names a_t_sort a_t_code a_t_count a_t_around a_t_end a_t_size a_t_there a_t_wish a_t_have a_t_value a_t_before a_t_open a_t_from : Nat) (sz : Nat) (t_length : Int32) (t_used : Int32) (t_far : Int32) (t_momentParts : Int32) (t_momentDay : Int64) (t_momentSecond : Int32) (t_momentNano : Int32) (t_momentOffset : Int32) (t_readParts : Int32) (t_readDay : Int64) (t_readSecond : Int32) (t_readNano : Int32) (t_readOffset : Int32) (t_alike : Int32) (t_known : Nat → Int32) (x1 : Int32) (x2 : Int32) (o : Int32) (he : f_SkeletonClockModel_some t_known x1 x2 = some o) : Met l y_SkeletonClockModel_some (Cond.code y_SkeletonClockModel_some b_SkeletonClockModel_some 5 (some .boolean) :: GW) rm_SkeletonClockModel_some (KPc D kk st [.ref a_t, .int x1, .int x2] [(a_t, .inr (10, [.int t_length, .ref a_t_text, .int t_used, .ref a_t_page, .ref a_t_names, .ref a_t_sort, .ref a_t_code, .ref a_t_count, .ref a_t_around, .ref a_t_end, .ref a_t_size, .ref a_t_there, .ref a_t_wish, .ref a_t_have, .int t_far, .int t_momentParts, .long t_momentDay, .int t_momentSecond, .int t_momentNano, .int t_momentOffset, .int t_readParts, .long t_readDay, .int t_readSecond, .int t_readNano, .int t_readOffset, .ref a_t_known, .ref a_t_value, .ref a_t_before, .ref a_t_open, .ref a_t_from, .int t_alike])), (a_t_known, .inl (kk 2, 14, .inl t_known))] sz) (KQi D kk o [(a_t, .inr (10, [.int t_length, .ref a_t_text, .int t_used, .ref a_t_page, .ref a_t_names, .ref a_t_sort, .ref a_t_code, .ref a_t_count, .ref a_t_around, .ref a_t_end, .ref a_t_size, .ref a_t_there, .ref a_t_wish, .ref a_t_have, .int t_far, .int t_momentParts, .long t_momentDay, .int t_momentSecond, .int t_momentNano, .int t_momentOffset, .int t_readParts, .long t_readDay, .int t_readSecond, .int t_readNano, .int t_readOffset, .ref a_t_known, .ref a_t_value, .ref a_t_before, .ref a_t_open, .ref a_t_from, .int t_alike])), (a_t_known, .inl (kk 2, 14, .inl t_known))] (va_A [(a_t, .inr (10, [.int t_length, .ref a_t_text, .int t_used, .ref a_t_page, .ref a_t_names, .ref a_t_sort, .ref a_t_code, .ref a_t_count, .ref a_t_around, .ref a_t_end, .ref a_t_size, .ref a_t_there, .ref a_t_wish, .ref a_t_have, .int t_far, .int t_momentParts, .long t_momentDay, .int t_momentSecond, .int t_momentNano, .int t_momentOffset, .int t_readParts, .long t_readDay, .int t_readSecond, .int t_readNano, .int t_readOffset, .ref a_t_known, .ref a_t_value, .ref a_t_before, .ref a_t_open, .ref a_t_from, .int t_alike])), (a_t_known, .inl (kk 2, 14, .inl t_known))] sz)) 0 0 (va_A [(a_t, .inr (10, [.int t_length, .ref a_t_text, .int t_used, .ref a_t_page, .ref a_t_names, .ref a_t_sort, .ref a_t_code, .ref a_t_count, .ref a_t_around, .ref a_t_end, .ref a_t_size, .ref a_t_there, .ref a_t_wish, .ref a_t_have, .int t_far, .int t_momentParts, .long t_momentDay, .int t_momentSecond, .int t_momentNano, .int t_momentOffset, .int t_readParts, .long t_readDay, .int t_readSecond, .int t_readNano, .int t_readOffset, .ref a_t_known, .ref a_t_value, .ref a_t_before, .ref a_t_open, .ref a_t_from, .int t_alike])), (a_t_known, .inl (kk 2, 14, .inl t_known))] sz) := by
  refine k_start (Qc := fun A => KQi D kk o [(a_t, .inr (10, [.int t_length, .ref a_t_text, .int t_used, .ref a_t_page, .ref a_t_names, .ref a_t_sort, .ref a_t_code, .ref a_t_count, .ref a_t_around, .ref a_t_end, .ref a_t_size, .ref a_t_there, .ref a_t_wish, .ref a_t_have, .int t_far, .int t_momentParts, .long t_momentDay, .int t_momentSecond, .int t_momentNano, .int t_momentOffset, .int t_readParts, .long t_readDay, .int t_readSecond, .int t_readNano, .int t_readOffset, .ref a_t_known, .ref a_t_value, .ref a_t_before, .ref a_t_open, .ref a_t_from, .int t_alike])), (a_t_known, .inl (kk 2, 14, .inl t_known))] A) (by decide) (Nat.le_of_ble_eq_true rfl) ?_
  intro p e s m below meth c A ls S hnm hr hlk hA X hP hD hS hl
  have hl : lv_has ls 5 [(0, .ref a_t), (1, .int x1), (2, .int x2)] := hl
  have hx := S.1
  have hb := S.2.1
  unfold f_SkeletonClockModel_some at he
  refine lv_iconst (v := (0 : Int32)) hx hb d_SkeletonClockModel_some_0 (by decide) ?_
  refine lv_istore_n hx hb d_SkeletonClockModel_some_1 rfl hl (by decide) rfl (fun ls hl => ?_)
  have hl : lv_has ls 5 [(3, .int (0 : Int32)), (0, .ref a_t), (1, .int x1), (2, .int x2)] := hl
  refine lv_iload_n hx hb d_SkeletonClockModel_some_2 rfl (lv_at hl 2 rfl) ?_
  refine lv_istore hx hb d_SkeletonClockModel_some_3 hl (by decide) rfl (fun ls hl => ?_)
  have hl : lv_has ls 5 [(4, .int x1), (3, .int (0 : Int32)), (0, .ref a_t), (1, .int x1), (2, .int x2)] := hl
  obtain ⟨u2, e3, he⟩ := ih_b he
  have hl : lv_has ls 5 [(0, .ref a_t), (2, .int x2), (3, .int (0 : Int32)), (4, .int x1)] := lv_sub hl [2, 4, 1, 0] rfl
  refine w_SkeletonClockModel_some_5 a_t a_t_known a_t_text a_t_page a_t_names a_t_sort a_t_code a_t_count a_t_around a_t_end a_t_size a_t_there a_t_wish a_t_have a_t_value a_t_before a_t_open a_t_from t_length t_used t_far t_momentParts t_momentDay t_momentSecond t_momentNano t_momentOffset t_readParts t_readDay t_readSecond t_readNano t_readOffset t_alike t_known x2 S hr hlk hA X FU (0 : Int32) x1 u2 _ _ ls e3 hl hP hD hS (fun H locs ls hl hP hD hS => ?_)
  refine lv_iload_n hx hb d_SkeletonClockModel_some_37 rfl (lv_at hl 2 rfl) ?_
  obtain ⟨hv4, he⟩ := ih_g he
  cases he
  exact k_zre hx hb hr hlk X hP hD hS hv4 d_SkeletonClockModel_some_38
abbrev rm_SkeletonClockModel_rule : Room := { frames := 0, cells := 0, slots := 0, locals := 0 }
set_option maxHeartbeats 4000000 in
set_option maxRecDepth 100000 in
theorem w_SkeletonClockModel_rule_51 {p : Program} {l : Launch} {e : Env} {s : State} {m : MethodId} {args : Array Value} {below : List Frame} {meth : Method} {c : Code} {A : Nat → Prop} {D : va_G} {kk : Nat → ClassId} {st : Nat → Nat} (a_t a_t_known a_t_text a_t_page a_t_names a_t_sort a_t_code a_t_count a_t_around a_t_end a_t_size a_t_there a_t_wish a_t_have a_t_value a_t_before a_t_open a_t_from : Nat) (t_length : Int32) (t_used : Int32) (t_far : Int32) (t_momentParts : Int32) (t_momentDay : Int64) (t_momentSecond : Int32) (t_momentNano : Int32) (t_momentOffset : Int32) (t_readParts : Int32) (t_readDay : Int64) (t_readSecond : Int32) (t_readNano : Int32) (t_readOffset : Int32) (t_alike : Int32) (t_known : Nat → Int32) (o : Int32) (S : CallFix p m c b_SkeletonClockModel_rule 1 s args GW y_SkeletonClockModel_rule.cls) (hr : meth.sig.returnType = (some .int)) (hlk : meth.locks = false) (hA : ∀ q, s.heap.size ≤ q → A q) (X : KX D kk st A s) (H : Heap) (locs : List Loc) (ls : Array Slot) (he : jn_SkeletonClockModel_rule_51 t_known = some o) (hl : lv_has ls 1 [(0, .ref a_t)]) (hP : va_P D classes [(a_t, .inr (10, [.int t_length, .ref a_t_text, .int t_used, .ref a_t_page, .ref a_t_names, .ref a_t_sort, .ref a_t_code, .ref a_t_count, .ref a_t_around, .ref a_t_end, .ref a_t_size, .ref a_t_there, .ref a_t_wish, .ref a_t_have, .int t_far, .int t_momentParts, .long t_momentDay, .int t_momentSecond, .int t_momentNano, .int t_momentOffset, .int t_readParts, .long t_readDay, .int t_readSecond, .int t_readNano, .int t_readOffset, .ref a_t_known, .ref a_t_value, .ref a_t_before, .ref a_t_open, .ref a_t_from, .int t_alike])), (a_t_known, .inl (kk 2, 14, .inl t_known))] H) (hD : va_D A [(a_t, .inr (10, [.int t_length, .ref a_t_text, .int t_used, .ref a_t_page, .ref a_t_names, .ref a_t_sort, .ref a_t_code, .ref a_t_count, .ref a_t_around, .ref a_t_end, .ref a_t_size, .ref a_t_there, .ref a_t_wish, .ref a_t_have, .int t_far, .int t_momentParts, .long t_momentDay, .int t_momentSecond, .int t_momentNano, .int t_momentOffset, .int t_readParts, .long t_readDay, .int t_readSecond, .int t_readNano, .int t_readOffset, .ref a_t_known, .ref a_t_value, .ref a_t_before, .ref a_t_open, .ref a_t_from, .int t_alike])), (a_t_known, .inl (kk 2, 14, .inl t_known))]) (hS : va_S A s.heap H locs) : W p l e rm_SkeletonClockModel_rule s m args below meth c H locs 0 0 (MQ below (KQi D kk o [(a_t, .inr (10, [.int t_length, .ref a_t_text, .int t_used, .ref a_t_page, .ref a_t_names, .ref a_t_sort, .ref a_t_code, .ref a_t_count, .ref a_t_around, .ref a_t_end, .ref a_t_size, .ref a_t_there, .ref a_t_wish, .ref a_t_have, .int t_far, .int t_momentParts, .long t_momentDay, .int t_momentSecond, .int t_momentNano, .int t_momentOffset, .int t_readParts, .long t_readDay, .int t_readSecond, .int t_readNano, .int t_readOffset, .ref a_t_known, .ref a_t_value, .ref a_t_before, .ref a_t_open, .ref a_t_from, .int t_alike])), (a_t_known, .inl (kk 2, 14, .inl t_known))] A) args s 0 0 A) (F0 m 51 ls []) := by
  have hx := S.1
  have hb := S.2.1
  unfold jn_SkeletonClockModel_rule_51 at he
  refine lv_aload_n hx hb d_SkeletonClockModel_rule_51 rfl (lv_at hl 0 rfl) ?_
  refine k_get S X us_SkeletonClockModel hP 0 rfl rfl 25 (by decide) gm_4_176 rfl d_SkeletonClockModel_rule_52 ?_
  refine lv_bipush (v := (6 : Int32)) hx hb d_SkeletonClockModel_rule_55 (by decide) ?_
  refine va_zald hx hb X.1 hP 1 2 rfl rfl (show ¬ ((6 : Int32) < 0 ∨ 14 ≤ ((6 : Int32)).toNatClampNeg) by decide) d_SkeletonClockModel_rule_57 ?_
  refine lv_if_eq (tgt := 83) hx hb d_SkeletonClockModel_rule_58 rfl (fun hc => ?_) (fun hc => ?_)
  · have he := ih_t hc he
    refine lv_iconst (v := (0 : Int32)) hx hb d_SkeletonClockModel_rule_83 (by decide) ?_
    cases he
    exact k_ire hx hb hr hlk X hP hD hS d_SkeletonClockModel_rule_84
  · have he := ih_f hc he
    refine lv_aload_n hx hb d_SkeletonClockModel_rule_61 rfl (lv_at hl 0 rfl) ?_
    refine k_get S X us_SkeletonClockModel hP 0 rfl rfl 25 (by decide) gm_4_176 rfl d_SkeletonClockModel_rule_62 ?_
    refine lv_iconst (v := (5 : Int32)) hx hb d_SkeletonClockModel_rule_65 (by decide) ?_
    refine va_zald hx hb X.1 hP 1 2 rfl rfl (show ¬ ((5 : Int32) < 0 ∨ 14 ≤ ((5 : Int32)).toNatClampNeg) by decide) d_SkeletonClockModel_rule_66 ?_
    refine lv_if_eq (tgt := 83) hx hb d_SkeletonClockModel_rule_67 rfl (fun hc => ?_) (fun hc => ?_)
    · have he := ih_t hc he
      refine lv_iconst (v := (0 : Int32)) hx hb d_SkeletonClockModel_rule_83 (by decide) ?_
      cases he
      exact k_ire hx hb hr hlk X hP hD hS d_SkeletonClockModel_rule_84
    · have he := ih_f hc he
      refine lv_aload_n hx hb d_SkeletonClockModel_rule_70 rfl (lv_at hl 0 rfl) ?_
      refine k_get S X us_SkeletonClockModel hP 0 rfl rfl 25 (by decide) gm_4_176 rfl d_SkeletonClockModel_rule_71 ?_
      refine lv_iconst (v := (4 : Int32)) hx hb d_SkeletonClockModel_rule_74 (by decide) ?_
      refine va_zald hx hb X.1 hP 1 2 rfl rfl (show ¬ ((4 : Int32) < 0 ∨ 14 ≤ ((4 : Int32)).toNatClampNeg) by decide) d_SkeletonClockModel_rule_75 ?_
      refine lv_if_eq (tgt := 83) hx hb d_SkeletonClockModel_rule_76 rfl (fun hc => ?_) (fun hc => ?_)
      · have he := ih_t hc he
        refine lv_iconst (v := (0 : Int32)) hx hb d_SkeletonClockModel_rule_83 (by decide) ?_
        cases he
        exact k_ire hx hb hr hlk X hP hD hS d_SkeletonClockModel_rule_84
      · have he := ih_f hc he
        refine lv_iconst (v := (3 : Int32)) hx hb d_SkeletonClockModel_rule_79 (by decide) ?_
        refine lv_goto (tgt := 84) hx hb d_SkeletonClockModel_rule_80 rfl ?_
        cases he
        exact k_ire hx hb hr hlk X hP hD hS d_SkeletonClockModel_rule_84
set_option maxHeartbeats 4000000 in
set_option maxRecDepth 100000 in
theorem w_SkeletonClockModel_rule_29 {p : Program} {l : Launch} {e : Env} {s : State} {m : MethodId} {args : Array Value} {below : List Frame} {meth : Method} {c : Code} {A : Nat → Prop} {D : va_G} {kk : Nat → ClassId} {st : Nat → Nat} (a_t a_t_known a_t_text a_t_page a_t_names a_t_sort a_t_code a_t_count a_t_around a_t_end a_t_size a_t_there a_t_wish a_t_have a_t_value a_t_before a_t_open a_t_from : Nat) (t_length : Int32) (t_used : Int32) (t_far : Int32) (t_momentParts : Int32) (t_momentDay : Int64) (t_momentSecond : Int32) (t_momentNano : Int32) (t_momentOffset : Int32) (t_readParts : Int32) (t_readDay : Int64) (t_readSecond : Int32) (t_readNano : Int32) (t_readOffset : Int32) (t_alike : Int32) (t_known : Nat → Int32) (o : Int32) (S : CallFix p m c b_SkeletonClockModel_rule 1 s args GW y_SkeletonClockModel_rule.cls) (hr : meth.sig.returnType = (some .int)) (hlk : meth.locks = false) (hA : ∀ q, s.heap.size ≤ q → A q) (X : KX D kk st A s) (H : Heap) (locs : List Loc) (ls : Array Slot) (he : jn_SkeletonClockModel_rule_29 t_known = some o) (hl : lv_has ls 1 [(0, .ref a_t)]) (hP : va_P D classes [(a_t, .inr (10, [.int t_length, .ref a_t_text, .int t_used, .ref a_t_page, .ref a_t_names, .ref a_t_sort, .ref a_t_code, .ref a_t_count, .ref a_t_around, .ref a_t_end, .ref a_t_size, .ref a_t_there, .ref a_t_wish, .ref a_t_have, .int t_far, .int t_momentParts, .long t_momentDay, .int t_momentSecond, .int t_momentNano, .int t_momentOffset, .int t_readParts, .long t_readDay, .int t_readSecond, .int t_readNano, .int t_readOffset, .ref a_t_known, .ref a_t_value, .ref a_t_before, .ref a_t_open, .ref a_t_from, .int t_alike])), (a_t_known, .inl (kk 2, 14, .inl t_known))] H) (hD : va_D A [(a_t, .inr (10, [.int t_length, .ref a_t_text, .int t_used, .ref a_t_page, .ref a_t_names, .ref a_t_sort, .ref a_t_code, .ref a_t_count, .ref a_t_around, .ref a_t_end, .ref a_t_size, .ref a_t_there, .ref a_t_wish, .ref a_t_have, .int t_far, .int t_momentParts, .long t_momentDay, .int t_momentSecond, .int t_momentNano, .int t_momentOffset, .int t_readParts, .long t_readDay, .int t_readSecond, .int t_readNano, .int t_readOffset, .ref a_t_known, .ref a_t_value, .ref a_t_before, .ref a_t_open, .ref a_t_from, .int t_alike])), (a_t_known, .inl (kk 2, 14, .inl t_known))]) (hS : va_S A s.heap H locs) : W p l e rm_SkeletonClockModel_rule s m args below meth c H locs 0 0 (MQ below (KQi D kk o [(a_t, .inr (10, [.int t_length, .ref a_t_text, .int t_used, .ref a_t_page, .ref a_t_names, .ref a_t_sort, .ref a_t_code, .ref a_t_count, .ref a_t_around, .ref a_t_end, .ref a_t_size, .ref a_t_there, .ref a_t_wish, .ref a_t_have, .int t_far, .int t_momentParts, .long t_momentDay, .int t_momentSecond, .int t_momentNano, .int t_momentOffset, .int t_readParts, .long t_readDay, .int t_readSecond, .int t_readNano, .int t_readOffset, .ref a_t_known, .ref a_t_value, .ref a_t_before, .ref a_t_open, .ref a_t_from, .int t_alike])), (a_t_known, .inl (kk 2, 14, .inl t_known))] A) args s 0 0 A) (F0 m 29 ls []) := by
  have hx := S.1
  have hb := S.2.1
  unfold jn_SkeletonClockModel_rule_29 at he
  refine lv_aload_n hx hb d_SkeletonClockModel_rule_29 rfl (lv_at hl 0 rfl) ?_
  refine k_get S X us_SkeletonClockModel hP 0 rfl rfl 25 (by decide) gm_4_176 rfl d_SkeletonClockModel_rule_30 ?_
  refine lv_iconst (v := (0 : Int32)) hx hb d_SkeletonClockModel_rule_33 (by decide) ?_
  refine va_zald hx hb X.1 hP 1 2 rfl rfl (show ¬ ((0 : Int32) < 0 ∨ 14 ≤ ((0 : Int32)).toNatClampNeg) by decide) d_SkeletonClockModel_rule_34 ?_
  refine lv_if_eq (tgt := 51) hx hb d_SkeletonClockModel_rule_35 rfl (fun hc => ?_) (fun hc => ?_)
  · have he := ih_t hc he
    have hl : lv_has ls 1 [(0, .ref a_t)] := lv_sub hl [0] rfl
    exact w_SkeletonClockModel_rule_51 a_t a_t_known a_t_text a_t_page a_t_names a_t_sort a_t_code a_t_count a_t_around a_t_end a_t_size a_t_there a_t_wish a_t_have a_t_value a_t_before a_t_open a_t_from t_length t_used t_far t_momentParts t_momentDay t_momentSecond t_momentNano t_momentOffset t_readParts t_readDay t_readSecond t_readNano t_readOffset t_alike t_known o S hr hlk hA X _ _ ls he hl hP hD hS
  · have he := ih_f hc he
    refine lv_aload_n hx hb d_SkeletonClockModel_rule_38 rfl (lv_at hl 0 rfl) ?_
    refine k_get S X us_SkeletonClockModel hP 0 rfl rfl 25 (by decide) gm_4_176 rfl d_SkeletonClockModel_rule_39 ?_
    refine lv_iconst (v := (3 : Int32)) hx hb d_SkeletonClockModel_rule_42 (by decide) ?_
    refine va_zald hx hb X.1 hP 1 2 rfl rfl (show ¬ ((3 : Int32) < 0 ∨ 14 ≤ ((3 : Int32)).toNatClampNeg) by decide) d_SkeletonClockModel_rule_43 ?_
    refine lv_if_eq (tgt := 51) hx hb d_SkeletonClockModel_rule_44 rfl (fun hc => ?_) (fun hc => ?_)
    · have he := ih_t hc he
      have hl : lv_has ls 1 [(0, .ref a_t)] := lv_sub hl [0] rfl
      exact w_SkeletonClockModel_rule_51 a_t a_t_known a_t_text a_t_page a_t_names a_t_sort a_t_code a_t_count a_t_around a_t_end a_t_size a_t_there a_t_wish a_t_have a_t_value a_t_before a_t_open a_t_from t_length t_used t_far t_momentParts t_momentDay t_momentSecond t_momentNano t_momentOffset t_readParts t_readDay t_readSecond t_readNano t_readOffset t_alike t_known o S hr hlk hA X _ _ ls he hl hP hD hS
    · have he := ih_f hc he
      refine lv_iconst (v := (2 : Int32)) hx hb d_SkeletonClockModel_rule_47 (by decide) ?_
      refine lv_goto (tgt := 84) hx hb d_SkeletonClockModel_rule_48 rfl ?_
      cases he
      exact k_ire hx hb hr hlk X hP hD hS d_SkeletonClockModel_rule_84
set_option maxHeartbeats 4000000 in
set_option maxRecDepth 100000 in
theorem c_SkeletonClockModel_rule (l : Launch) (D : va_G) (kk : Nat → ClassId) (st : Nat → Nat) (a_t a_t_known a_t_text a_t_page a_t_names a_t_sort a_t_code a_t_count a_t_around a_t_end a_t_size a_t_there a_t_wish a_t_have a_t_value a_t_before a_t_open a_t_from : Nat) (sz : Nat) (t_length : Int32) (t_used : Int32) (t_far : Int32) (t_momentParts : Int32) (t_momentDay : Int64) (t_momentSecond : Int32) (t_momentNano : Int32) (t_momentOffset : Int32) (t_readParts : Int32) (t_readDay : Int64) (t_readSecond : Int32) (t_readNano : Int32) (t_readOffset : Int32) (t_alike : Int32) (t_known : Nat → Int32) (o : Int32) (he : f_SkeletonClockModel_rule t_known = some o) : Met l y_SkeletonClockModel_rule (Cond.code y_SkeletonClockModel_rule b_SkeletonClockModel_rule 1 (some .int) :: GW) rm_SkeletonClockModel_rule (KPc D kk st [.ref a_t] [(a_t, .inr (10, [.int t_length, .ref a_t_text, .int t_used, .ref a_t_page, .ref a_t_names, .ref a_t_sort, .ref a_t_code, .ref a_t_count, .ref a_t_around, .ref a_t_end, .ref a_t_size, .ref a_t_there, .ref a_t_wish, .ref a_t_have, .int t_far, .int t_momentParts, .long t_momentDay, .int t_momentSecond, .int t_momentNano, .int t_momentOffset, .int t_readParts, .long t_readDay, .int t_readSecond, .int t_readNano, .int t_readOffset, .ref a_t_known, .ref a_t_value, .ref a_t_before, .ref a_t_open, .ref a_t_from, .int t_alike])), (a_t_known, .inl (kk 2, 14, .inl t_known))] sz) (KQi D kk o [(a_t, .inr (10, [.int t_length, .ref a_t_text, .int t_used, .ref a_t_page, .ref a_t_names, .ref a_t_sort, .ref a_t_code, .ref a_t_count, .ref a_t_around, .ref a_t_end, .ref a_t_size, .ref a_t_there, .ref a_t_wish, .ref a_t_have, .int t_far, .int t_momentParts, .long t_momentDay, .int t_momentSecond, .int t_momentNano, .int t_momentOffset, .int t_readParts, .long t_readDay, .int t_readSecond, .int t_readNano, .int t_readOffset, .ref a_t_known, .ref a_t_value, .ref a_t_before, .ref a_t_open, .ref a_t_from, .int t_alike])), (a_t_known, .inl (kk 2, 14, .inl t_known))] (va_A [(a_t, .inr (10, [.int t_length, .ref a_t_text, .int t_used, .ref a_t_page, .ref a_t_names, .ref a_t_sort, .ref a_t_code, .ref a_t_count, .ref a_t_around, .ref a_t_end, .ref a_t_size, .ref a_t_there, .ref a_t_wish, .ref a_t_have, .int t_far, .int t_momentParts, .long t_momentDay, .int t_momentSecond, .int t_momentNano, .int t_momentOffset, .int t_readParts, .long t_readDay, .int t_readSecond, .int t_readNano, .int t_readOffset, .ref a_t_known, .ref a_t_value, .ref a_t_before, .ref a_t_open, .ref a_t_from, .int t_alike])), (a_t_known, .inl (kk 2, 14, .inl t_known))] sz)) 0 0 (va_A [(a_t, .inr (10, [.int t_length, .ref a_t_text, .int t_used, .ref a_t_page, .ref a_t_names, .ref a_t_sort, .ref a_t_code, .ref a_t_count, .ref a_t_around, .ref a_t_end, .ref a_t_size, .ref a_t_there, .ref a_t_wish, .ref a_t_have, .int t_far, .int t_momentParts, .long t_momentDay, .int t_momentSecond, .int t_momentNano, .int t_momentOffset, .int t_readParts, .long t_readDay, .int t_readSecond, .int t_readNano, .int t_readOffset, .ref a_t_known, .ref a_t_value, .ref a_t_before, .ref a_t_open, .ref a_t_from, .int t_alike])), (a_t_known, .inl (kk 2, 14, .inl t_known))] sz) := by
  refine k_start (Qc := fun A => KQi D kk o [(a_t, .inr (10, [.int t_length, .ref a_t_text, .int t_used, .ref a_t_page, .ref a_t_names, .ref a_t_sort, .ref a_t_code, .ref a_t_count, .ref a_t_around, .ref a_t_end, .ref a_t_size, .ref a_t_there, .ref a_t_wish, .ref a_t_have, .int t_far, .int t_momentParts, .long t_momentDay, .int t_momentSecond, .int t_momentNano, .int t_momentOffset, .int t_readParts, .long t_readDay, .int t_readSecond, .int t_readNano, .int t_readOffset, .ref a_t_known, .ref a_t_value, .ref a_t_before, .ref a_t_open, .ref a_t_from, .int t_alike])), (a_t_known, .inl (kk 2, 14, .inl t_known))] A) (by decide) (Nat.le_of_ble_eq_true rfl) ?_
  intro p e s m below meth c A ls S hnm hr hlk hA X hP hD hS hl
  have hl : lv_has ls 1 [(0, .ref a_t)] := hl
  have hx := S.1
  have hb := S.2.1
  unfold f_SkeletonClockModel_rule at he
  refine lv_aload_n hx hb d_SkeletonClockModel_rule_0 rfl (lv_at hl 0 rfl) ?_
  refine k_get S X us_SkeletonClockModel hP 0 rfl rfl 25 (by decide) gm_4_176 rfl d_SkeletonClockModel_rule_1 ?_
  refine lv_iconst (v := (0 : Int32)) hx hb d_SkeletonClockModel_rule_4 (by decide) ?_
  refine va_zald hx hb X.1 hP 1 2 rfl rfl (show ¬ ((0 : Int32) < 0 ∨ 14 ≤ ((0 : Int32)).toNatClampNeg) by decide) d_SkeletonClockModel_rule_5 ?_
  refine lv_if_eq (tgt := 29) hx hb d_SkeletonClockModel_rule_6 rfl (fun hc => ?_) (fun hc => ?_)
  · have he := ih_t hc he
    have hl : lv_has ls 1 [(0, .ref a_t)] := lv_sub hl [0] rfl
    exact w_SkeletonClockModel_rule_29 a_t a_t_known a_t_text a_t_page a_t_names a_t_sort a_t_code a_t_count a_t_around a_t_end a_t_size a_t_there a_t_wish a_t_have a_t_value a_t_before a_t_open a_t_from t_length t_used t_far t_momentParts t_momentDay t_momentSecond t_momentNano t_momentOffset t_readParts t_readDay t_readSecond t_readNano t_readOffset t_alike t_known o S hr hlk hA X _ _ ls he hl hP hD hS
  · have he := ih_f hc he
    refine lv_aload_n hx hb d_SkeletonClockModel_rule_9 rfl (lv_at hl 0 rfl) ?_
    refine k_get S X us_SkeletonClockModel hP 0 rfl rfl 25 (by decide) gm_4_176 rfl d_SkeletonClockModel_rule_10 ?_
    refine lv_iconst (v := (1 : Int32)) hx hb d_SkeletonClockModel_rule_13 (by decide) ?_
    refine va_zald hx hb X.1 hP 1 2 rfl rfl (show ¬ ((1 : Int32) < 0 ∨ 14 ≤ ((1 : Int32)).toNatClampNeg) by decide) d_SkeletonClockModel_rule_14 ?_
    refine lv_if_eq (tgt := 29) hx hb d_SkeletonClockModel_rule_15 rfl (fun hc => ?_) (fun hc => ?_)
    · have he := ih_t hc he
      have hl : lv_has ls 1 [(0, .ref a_t)] := lv_sub hl [0] rfl
      exact w_SkeletonClockModel_rule_29 a_t a_t_known a_t_text a_t_page a_t_names a_t_sort a_t_code a_t_count a_t_around a_t_end a_t_size a_t_there a_t_wish a_t_have a_t_value a_t_before a_t_open a_t_from t_length t_used t_far t_momentParts t_momentDay t_momentSecond t_momentNano t_momentOffset t_readParts t_readDay t_readSecond t_readNano t_readOffset t_alike t_known o S hr hlk hA X _ _ ls he hl hP hD hS
    · have he := ih_f hc he
      refine lv_aload_n hx hb d_SkeletonClockModel_rule_18 rfl (lv_at hl 0 rfl) ?_
      refine k_get S X us_SkeletonClockModel hP 0 rfl rfl 25 (by decide) gm_4_176 rfl d_SkeletonClockModel_rule_19 ?_
      refine lv_iconst (v := (2 : Int32)) hx hb d_SkeletonClockModel_rule_22 (by decide) ?_
      refine va_zald hx hb X.1 hP 1 2 rfl rfl (show ¬ ((2 : Int32) < 0 ∨ 14 ≤ ((2 : Int32)).toNatClampNeg) by decide) d_SkeletonClockModel_rule_23 ?_
      refine lv_if_eq (tgt := 29) hx hb d_SkeletonClockModel_rule_24 rfl (fun hc => ?_) (fun hc => ?_)
      · have he := ih_t hc he
        have hl : lv_has ls 1 [(0, .ref a_t)] := lv_sub hl [0] rfl
        exact w_SkeletonClockModel_rule_29 a_t a_t_known a_t_text a_t_page a_t_names a_t_sort a_t_code a_t_count a_t_around a_t_end a_t_size a_t_there a_t_wish a_t_have a_t_value a_t_before a_t_open a_t_from t_length t_used t_far t_momentParts t_momentDay t_momentSecond t_momentNano t_momentOffset t_readParts t_readDay t_readSecond t_readNano t_readOffset t_alike t_known o S hr hlk hA X _ _ ls he hl hP hD hS
      · have he := ih_f hc he
        refine lv_iconst (v := (1 : Int32)) hx hb d_SkeletonClockModel_rule_27 (by decide) ?_
        cases he
        exact k_ire hx hb hr hlk X hP hD hS d_SkeletonClockModel_rule_28
