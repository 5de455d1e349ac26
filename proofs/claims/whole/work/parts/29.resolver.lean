abbrev b_Resolver_resolve : ByteArray := prog_10_method_2_code
def y_Resolver_resolve : MethodName := ⟨"SkeletonClock$Resolver", "resolve", "(LSkeletonClock$Known;I)Z"⟩
theorem kd_Resolver_resolve : kd_ok y_Resolver_resolve 2 := by decide +kernel
theorem gm_4_35 : Cond.code ({ cls := "SkeletonClock$Known", name := "hasOneOf", desc := "(II)Z" } : MethodName) prog_3_method_5_code (4 : Nat) (Option.some FieldType.boolean) ∈ GW := gw_4 (i := 35) rfl rfl
theorem gm_4_32 : Cond.methodLink "SkeletonClock$Resolver" (32 : Nat) ({ cls := "SkeletonClock$Known", name := "hasOneOf", desc := "(II)Z" } : MethodName) ∈ GW := gw_4 (i := 32) rfl rfl
theorem gm_4_33 : Cond.instanceMethod ({ cls := "SkeletonClock$Known", name := "hasOneOf", desc := "(II)Z" } : MethodName) ∈ GW := gw_4 (i := 33) rfl rfl
theorem gm_4_34 : Cond.selects "SkeletonClock$Known" ({ cls := "SkeletonClock$Known", name := "hasOneOf", desc := "(II)Z" } : MethodName) ({ cls := "SkeletonClock$Known", name := "hasOneOf", desc := "(II)Z" } : MethodName) ∈ GW := gw_4 (i := 34) rfl rfl
theorem gm_4_90 : Cond.constantLong "SkeletonClock$Resolver" (49 : Nat) (86400 : Int64) ∈ GW := gw_4 (i := 90) rfl rfl
theorem gm_4_91 : Cond.constantLong "SkeletonClock$Resolver" (55 : Nat) (60 : Int64) ∈ GW := gw_4 (i := 91) rfl rfl
theorem gm_4_92 : Cond.methodLink "SkeletonClock$Resolver" (57 : Nat) ({ cls := "SkeletonClock$Moment", name := "settle", desc := "(JIII)V" } : MethodName) ∈ GW := gw_4 (i := 92) rfl rfl
theorem gm_4_96 : Cond.code ({ cls := "SkeletonClock$Resolver", name := "agrees", desc := "(LSkeletonClock$Known;)Z" } : MethodName) prog_10_method_9_code (4 : Nat) (Option.some FieldType.boolean) ∈ GW := gw_4 (i := 96) rfl rfl
theorem gm_4_93 : Cond.methodLink "SkeletonClock$Resolver" (61 : Nat) ({ cls := "SkeletonClock$Resolver", name := "agrees", desc := "(LSkeletonClock$Known;)Z" } : MethodName) ∈ GW := gw_4 (i := 93) rfl rfl
theorem gm_4_95 : Cond.instanceMethod ({ cls := "SkeletonClock$Resolver", name := "agrees", desc := "(LSkeletonClock$Known;)Z" } : MethodName) ∈ GW := gw_4 (i := 95) rfl rfl
theorem gm_p2_14 : Cond.selects "SkeletonClock$Resolver" ⟨"SkeletonClock$Resolver", "agrees", "(LSkeletonClock$Known;)Z"⟩ ⟨"SkeletonClock$Resolver", "agrees", "(LSkeletonClock$Known;)Z"⟩ ∈ GW := gs_2 (i := 14) rfl
theorem gm_4_89 : Cond.code ({ cls := "SkeletonClock$Resolver", name := "findTime", desc := "(LSkeletonClock$Known;)Z" } : MethodName) prog_10_method_8_code (6 : Nat) (Option.some FieldType.boolean) ∈ GW := gw_4 (i := 89) rfl rfl
theorem gm_4_86 : Cond.methodLink "SkeletonClock$Resolver" (46 : Nat) ({ cls := "SkeletonClock$Resolver", name := "findTime", desc := "(LSkeletonClock$Known;)Z" } : MethodName) ∈ GW := gw_4 (i := 86) rfl rfl
theorem gm_4_88 : Cond.instanceMethod ({ cls := "SkeletonClock$Resolver", name := "findTime", desc := "(LSkeletonClock$Known;)Z" } : MethodName) ∈ GW := gw_4 (i := 88) rfl rfl
theorem gm_p2_13 : Cond.selects "SkeletonClock$Resolver" ⟨"SkeletonClock$Resolver", "findTime", "(LSkeletonClock$Known;)Z"⟩ ⟨"SkeletonClock$Resolver", "findTime", "(LSkeletonClock$Known;)Z"⟩ ∈ GW := gs_2 (i := 13) rfl
theorem gm_4_44 : Cond.code ({ cls := "SkeletonClock$Resolver", name := "findDate", desc := "(LSkeletonClock$Known;)Z" } : MethodName) prog_10_method_4_code (2 : Nat) (Option.some FieldType.boolean) ∈ GW := gw_4 (i := 44) rfl rfl
theorem gm_4_41 : Cond.methodLink "SkeletonClock$Resolver" (42 : Nat) ({ cls := "SkeletonClock$Resolver", name := "findDate", desc := "(LSkeletonClock$Known;)Z" } : MethodName) ∈ GW := gw_4 (i := 41) rfl rfl
theorem gm_4_43 : Cond.instanceMethod ({ cls := "SkeletonClock$Resolver", name := "findDate", desc := "(LSkeletonClock$Known;)Z" } : MethodName) ∈ GW := gw_4 (i := 43) rfl rfl
theorem gm_p2_8 : Cond.selects "SkeletonClock$Resolver" ⟨"SkeletonClock$Resolver", "findDate", "(LSkeletonClock$Known;)Z"⟩ ⟨"SkeletonClock$Resolver", "findDate", "(LSkeletonClock$Known;)Z"⟩ ∈ GW := gs_2 (i := 8) rfl
theorem d_Resolver_resolve_0 : decode b_Resolver_resolve 0 = .ok (.aload_n 0, 1) := by decide +kernel
theorem d_Resolver_resolve_1 : decode b_Resolver_resolve 1 = .ok (.iload_n 2, 1) := by decide +kernel
theorem d_Resolver_resolve_2 : decode b_Resolver_resolve 2 = .ok (.putfield 18, 3) := by decide +kernel
theorem d_Resolver_resolve_5 : decode b_Resolver_resolve 5 = .ok (.aload_n 0, 1) := by decide +kernel
theorem d_Resolver_resolve_6 : decode b_Resolver_resolve 6 = .ok (.iconst 0, 1) := by decide +kernel
theorem d_Resolver_resolve_7 : decode b_Resolver_resolve 7 = .ok (.putfield 22, 3) := by decide +kernel
theorem d_Resolver_resolve_10 : decode b_Resolver_resolve 10 = .ok (.aload_n 0, 1) := by decide +kernel
theorem d_Resolver_resolve_11 : decode b_Resolver_resolve 11 = .ok (.lconst 0, 1) := by decide +kernel
theorem d_Resolver_resolve_12 : decode b_Resolver_resolve 12 = .ok (.putfield 25, 3) := by decide +kernel
theorem d_Resolver_resolve_15 : decode b_Resolver_resolve 15 = .ok (.aload_n 0, 1) := by decide +kernel
theorem d_Resolver_resolve_16 : decode b_Resolver_resolve 16 = .ok (.iconst 0, 1) := by decide +kernel
theorem d_Resolver_resolve_17 : decode b_Resolver_resolve 17 = .ok (.putfield 29, 3) := by decide +kernel
theorem d_Resolver_resolve_20 : decode b_Resolver_resolve 20 = .ok (.aload_n 1, 1) := by decide +kernel
theorem d_Resolver_resolve_21 : decode b_Resolver_resolve 21 = .ok (.iconst 0, 1) := by decide +kernel
theorem d_Resolver_resolve_22 : decode b_Resolver_resolve 22 = .ok (.bipush 6, 2) := by decide +kernel
theorem d_Resolver_resolve_24 : decode b_Resolver_resolve 24 = .ok (.invokevirtual 32, 3) := by decide +kernel
theorem d_Resolver_resolve_27 : decode b_Resolver_resolve 27 = .ok (.ifCond .eq 7, 3) := by decide +kernel
theorem d_Resolver_resolve_30 : decode b_Resolver_resolve 30 = .ok (.iconst 1, 1) := by decide +kernel
theorem d_Resolver_resolve_31 : decode b_Resolver_resolve 31 = .ok (.goto 4, 3) := by decide +kernel
theorem d_Resolver_resolve_34 : decode b_Resolver_resolve 34 = .ok (.iconst 0, 1) := by decide +kernel
theorem d_Resolver_resolve_35 : decode b_Resolver_resolve 35 = .ok (.aload_n 1, 1) := by decide +kernel
theorem d_Resolver_resolve_36 : decode b_Resolver_resolve 36 = .ok (.bipush 7, 2) := by decide +kernel
theorem d_Resolver_resolve_38 : decode b_Resolver_resolve 38 = .ok (.bipush 12, 2) := by decide +kernel
theorem d_Resolver_resolve_40 : decode b_Resolver_resolve 40 = .ok (.invokevirtual 32, 3) := by decide +kernel
theorem d_Resolver_resolve_43 : decode b_Resolver_resolve 43 = .ok (.ifCond .eq 7, 3) := by decide +kernel
theorem d_Resolver_resolve_46 : decode b_Resolver_resolve 46 = .ok (.iconst 2, 1) := by decide +kernel
theorem d_Resolver_resolve_47 : decode b_Resolver_resolve 47 = .ok (.goto 4, 3) := by decide +kernel
theorem d_Resolver_resolve_50 : decode b_Resolver_resolve 50 = .ok (.iconst 0, 1) := by decide +kernel
theorem d_Resolver_resolve_51 : decode b_Resolver_resolve 51 = .ok (.iadd, 1) := by decide +kernel
theorem d_Resolver_resolve_52 : decode b_Resolver_resolve 52 = .ok (.aload_n 1, 1) := by decide +kernel
theorem d_Resolver_resolve_53 : decode b_Resolver_resolve 53 = .ok (.bipush 13, 2) := by decide +kernel
theorem d_Resolver_resolve_55 : decode b_Resolver_resolve 55 = .ok (.invokevirtual 38, 3) := by decide +kernel
theorem d_Resolver_resolve_58 : decode b_Resolver_resolve 58 = .ok (.ifCond .eq 7, 3) := by decide +kernel
theorem d_Resolver_resolve_61 : decode b_Resolver_resolve 61 = .ok (.iconst 4, 1) := by decide +kernel
theorem d_Resolver_resolve_62 : decode b_Resolver_resolve 62 = .ok (.goto 4, 3) := by decide +kernel
theorem d_Resolver_resolve_65 : decode b_Resolver_resolve 65 = .ok (.iconst 0, 1) := by decide +kernel
theorem d_Resolver_resolve_66 : decode b_Resolver_resolve 66 = .ok (.iadd, 1) := by decide +kernel
theorem d_Resolver_resolve_67 : decode b_Resolver_resolve 67 = .ok (.istore_n 3, 1) := by decide +kernel
theorem d_Resolver_resolve_68 : decode b_Resolver_resolve 68 = .ok (.iload_n 3, 1) := by decide +kernel
theorem d_Resolver_resolve_69 : decode b_Resolver_resolve 69 = .ok (.iconst 1, 1) := by decide +kernel
theorem d_Resolver_resolve_70 : decode b_Resolver_resolve 70 = .ok (.iand, 1) := by decide +kernel
theorem d_Resolver_resolve_71 : decode b_Resolver_resolve 71 = .ok (.ifCond .eq 7, 3) := by decide +kernel
theorem d_Resolver_resolve_74 : decode b_Resolver_resolve 74 = .ok (.iconst 1, 1) := by decide +kernel
theorem d_Resolver_resolve_75 : decode b_Resolver_resolve 75 = .ok (.goto 4, 3) := by decide +kernel
theorem d_Resolver_resolve_78 : decode b_Resolver_resolve 78 = .ok (.iconst 0, 1) := by decide +kernel
theorem d_Resolver_resolve_79 : decode b_Resolver_resolve 79 = .ok (.istore 4, 2) := by decide +kernel
theorem d_Resolver_resolve_81 : decode b_Resolver_resolve 81 = .ok (.iload_n 3, 1) := by decide +kernel
theorem d_Resolver_resolve_82 : decode b_Resolver_resolve 82 = .ok (.iconst 2, 1) := by decide +kernel
theorem d_Resolver_resolve_83 : decode b_Resolver_resolve 83 = .ok (.iand, 1) := by decide +kernel
theorem d_Resolver_resolve_84 : decode b_Resolver_resolve 84 = .ok (.ifCond .eq 7, 3) := by decide +kernel
theorem d_Resolver_resolve_87 : decode b_Resolver_resolve 87 = .ok (.iconst 1, 1) := by decide +kernel
theorem d_Resolver_resolve_88 : decode b_Resolver_resolve 88 = .ok (.goto 4, 3) := by decide +kernel
theorem d_Resolver_resolve_91 : decode b_Resolver_resolve 91 = .ok (.iconst 0, 1) := by decide +kernel
theorem d_Resolver_resolve_92 : decode b_Resolver_resolve 92 = .ok (.istore 5, 2) := by decide +kernel
theorem d_Resolver_resolve_94 : decode b_Resolver_resolve 94 = .ok (.iload_n 3, 1) := by decide +kernel
theorem d_Resolver_resolve_95 : decode b_Resolver_resolve 95 = .ok (.ifCond .eq 29, 3) := by decide +kernel
theorem d_Resolver_resolve_98 : decode b_Resolver_resolve 98 = .ok (.iload 4, 2) := by decide +kernel
theorem d_Resolver_resolve_100 : decode b_Resolver_resolve 100 = .ok (.ifCond .eq 11, 3) := by decide +kernel
theorem d_Resolver_resolve_103 : decode b_Resolver_resolve 103 = .ok (.aload_n 0, 1) := by decide +kernel
theorem d_Resolver_resolve_104 : decode b_Resolver_resolve 104 = .ok (.aload_n 1, 1) := by decide +kernel
theorem d_Resolver_resolve_105 : decode b_Resolver_resolve 105 = .ok (.invokevirtual 42, 3) := by decide +kernel
theorem d_Resolver_resolve_108 : decode b_Resolver_resolve 108 = .ok (.ifCond .eq 16, 3) := by decide +kernel
theorem d_Resolver_resolve_111 : decode b_Resolver_resolve 111 = .ok (.iload 5, 2) := by decide +kernel
theorem d_Resolver_resolve_113 : decode b_Resolver_resolve 113 = .ok (.ifCond .eq 13, 3) := by decide +kernel
theorem d_Resolver_resolve_116 : decode b_Resolver_resolve 116 = .ok (.aload_n 0, 1) := by decide +kernel
theorem d_Resolver_resolve_117 : decode b_Resolver_resolve 117 = .ok (.aload_n 1, 1) := by decide +kernel
theorem d_Resolver_resolve_118 : decode b_Resolver_resolve 118 = .ok (.invokevirtual 46, 3) := by decide +kernel
theorem d_Resolver_resolve_121 : decode b_Resolver_resolve 121 = .ok (.ifCond .ne 5, 3) := by decide +kernel
theorem d_Resolver_resolve_124 : decode b_Resolver_resolve 124 = .ok (.iconst 0, 1) := by decide +kernel
theorem d_Resolver_resolve_125 : decode b_Resolver_resolve 125 = .ok (.ireturn, 1) := by decide +kernel
theorem d_Resolver_resolve_126 : decode b_Resolver_resolve 126 = .ok (.iload 4, 2) := by decide +kernel
theorem d_Resolver_resolve_128 : decode b_Resolver_resolve 128 = .ok (.ifCond .eq 21, 3) := by decide +kernel
theorem d_Resolver_resolve_131 : decode b_Resolver_resolve 131 = .ok (.aload_n 0, 1) := by decide +kernel
theorem d_Resolver_resolve_132 : decode b_Resolver_resolve 132 = .ok (.dup, 1) := by decide +kernel
theorem d_Resolver_resolve_133 : decode b_Resolver_resolve 133 = .ok (.getfield 25, 3) := by decide +kernel
theorem d_Resolver_resolve_136 : decode b_Resolver_resolve 136 = .ok (.aload_n 0, 1) := by decide +kernel
theorem d_Resolver_resolve_137 : decode b_Resolver_resolve 137 = .ok (.getfield 29, 3) := by decide +kernel
theorem d_Resolver_resolve_140 : decode b_Resolver_resolve 140 = .ok (.i2l, 1) := by decide +kernel
theorem d_Resolver_resolve_141 : decode b_Resolver_resolve 141 = .ok (.ldc2_w 49, 3) := by decide +kernel
theorem d_Resolver_resolve_144 : decode b_Resolver_resolve 144 = .ok (.ldiv, 1) := by decide +kernel
theorem d_Resolver_resolve_145 : decode b_Resolver_resolve 145 = .ok (.ladd, 1) := by decide +kernel
theorem d_Resolver_resolve_146 : decode b_Resolver_resolve 146 = .ok (.putfield 25, 3) := by decide +kernel
theorem d_Resolver_resolve_149 : decode b_Resolver_resolve 149 = .ok (.aload_n 0, 1) := by decide +kernel
theorem d_Resolver_resolve_150 : decode b_Resolver_resolve 150 = .ok (.getfield 25, 3) := by decide +kernel
theorem d_Resolver_resolve_153 : decode b_Resolver_resolve 153 = .ok (.ldc2_w 49, 3) := by decide +kernel
theorem d_Resolver_resolve_156 : decode b_Resolver_resolve 156 = .ok (.lmul, 1) := by decide +kernel
theorem d_Resolver_resolve_157 : decode b_Resolver_resolve 157 = .ok (.aload_n 0, 1) := by decide +kernel
theorem d_Resolver_resolve_158 : decode b_Resolver_resolve 158 = .ok (.getfield 29, 3) := by decide +kernel
theorem d_Resolver_resolve_161 : decode b_Resolver_resolve 161 = .ok (.i2l, 1) := by decide +kernel
theorem d_Resolver_resolve_162 : decode b_Resolver_resolve 162 = .ok (.ldc2_w 49, 3) := by decide +kernel
theorem d_Resolver_resolve_165 : decode b_Resolver_resolve 165 = .ok (.lrem, 1) := by decide +kernel
theorem d_Resolver_resolve_166 : decode b_Resolver_resolve 166 = .ok (.ladd, 1) := by decide +kernel
theorem d_Resolver_resolve_167 : decode b_Resolver_resolve 167 = .ok (.lstore 6, 2) := by decide +kernel
theorem d_Resolver_resolve_169 : decode b_Resolver_resolve 169 = .ok (.aload_n 1, 1) := by decide +kernel
theorem d_Resolver_resolve_170 : decode b_Resolver_resolve 170 = .ok (.bipush 13, 2) := by decide +kernel
theorem d_Resolver_resolve_172 : decode b_Resolver_resolve 172 = .ok (.invokevirtual 51, 3) := by decide +kernel
theorem d_Resolver_resolve_175 : decode b_Resolver_resolve 175 = .ok (.istore 8, 2) := by decide +kernel
theorem d_Resolver_resolve_177 : decode b_Resolver_resolve 177 = .ok (.aload_n 0, 1) := by decide +kernel
theorem d_Resolver_resolve_178 : decode b_Resolver_resolve 178 = .ok (.getfield 12, 3) := by decide +kernel
theorem d_Resolver_resolve_181 : decode b_Resolver_resolve 181 = .ok (.lload 6, 2) := by decide +kernel
theorem d_Resolver_resolve_183 : decode b_Resolver_resolve 183 = .ok (.ldc2_w 55, 3) := by decide +kernel
theorem d_Resolver_resolve_186 : decode b_Resolver_resolve 186 = .ok (.iload 8, 2) := by decide +kernel
theorem d_Resolver_resolve_188 : decode b_Resolver_resolve 188 = .ok (.i2l, 1) := by decide +kernel
theorem d_Resolver_resolve_189 : decode b_Resolver_resolve 189 = .ok (.lmul, 1) := by decide +kernel
theorem d_Resolver_resolve_190 : decode b_Resolver_resolve 190 = .ok (.lsub, 1) := by decide +kernel
theorem d_Resolver_resolve_191 : decode b_Resolver_resolve 191 = .ok (.aload_n 1, 1) := by decide +kernel
theorem d_Resolver_resolve_192 : decode b_Resolver_resolve 192 = .ok (.bipush 12, 2) := by decide +kernel
theorem d_Resolver_resolve_194 : decode b_Resolver_resolve 194 = .ok (.invokevirtual 51, 3) := by decide +kernel
theorem d_Resolver_resolve_197 : decode b_Resolver_resolve 197 = .ok (.iload 8, 2) := by decide +kernel
theorem d_Resolver_resolve_199 : decode b_Resolver_resolve 199 = .ok (.iload_n 3, 1) := by decide +kernel
theorem d_Resolver_resolve_200 : decode b_Resolver_resolve 200 = .ok (.invokevirtual 57, 3) := by decide +kernel
theorem d_Resolver_resolve_203 : decode b_Resolver_resolve 203 = .ok (.aload_n 0, 1) := by decide +kernel
theorem d_Resolver_resolve_204 : decode b_Resolver_resolve 204 = .ok (.aload_n 1, 1) := by decide +kernel
theorem d_Resolver_resolve_205 : decode b_Resolver_resolve 205 = .ok (.invokevirtual 61, 3) := by decide +kernel
theorem d_Resolver_resolve_208 : decode b_Resolver_resolve 208 = .ok (.ireturn, 1) := by decide +kernel
abbrev rm_Resolver_resolve : Room := { frames := 5, cells := 0, slots := 0, locals := 130 }
set_option maxHeartbeats 4000000 in
set_option maxRecDepth 100000 in
theorem w_Resolver_resolve_149 {p : Program} {l : Launch} {e : Env} {s : State} {m : MethodId} {args : Array Value} {below : List Frame} {meth : Method} {c : Code} {A : Nat → Prop} {D : va_G} {kk : Nat → ClassId} {st : Nat → Nat} (a_t a_t_moment a_t_moment_values a_q1 a_q1_values a_q1_flags a_q1_order : Nat) (t_style : Int32) (t_used : Int32) (t_day : Int64) (t_second : Int32) (t_moment_seconds : Int64) (t_moment_parts : Int32) (t_moment_values : Nat → Int32) (q1_size : Int32) (q1_values : Nat → Int32) (q1_flags : Nat → Int32) (x3 : Int32) (o : Int32 × Int32 × Int32 × Int64 × Int32 × Int64 × Int32 × (Nat → Int32)) (S : CallFix p m c b_Resolver_resolve 9 s args GW y_Resolver_resolve.cls) (hr : meth.sig.returnType = (some .boolean)) (hlk : meth.locks = false) (hA : ∀ q, s.heap.size ≤ q → A q) (X : KX D kk st A s) (H : Heap) (locs : List Loc) (ls : Array Slot) (he : jn_Resolver_resolve_149 t_style t_used t_day t_second t_moment_seconds t_moment_parts t_moment_values q1_values q1_flags x3 = some o) (hl : lv_has ls 9 [(0, .ref a_t), (1, .ref a_q1), (3, .int x3)]) (hP : va_P D classes [(a_t, .inr (9, [.ref a_t_moment, .int t_style, .int t_used, .long t_day, .int t_second])), (a_t_moment, .inr (5, [.ref a_t_moment_values, .long t_moment_seconds, .int t_moment_parts])), (a_t_moment_values, .inl (kk 0, 14, .inl t_moment_values)), (a_q1, .inr (7, [.ref a_q1_values, .ref a_q1_flags, .ref a_q1_order, .int q1_size])), (a_q1_values, .inl (kk 0, 14, .inl q1_values)), (a_q1_flags, .inl (kk 2, 14, .inl q1_flags))] H) (hD : va_D A [(a_t, .inr (9, [.ref a_t_moment, .int t_style, .int t_used, .long t_day, .int t_second])), (a_t_moment, .inr (5, [.ref a_t_moment_values, .long t_moment_seconds, .int t_moment_parts])), (a_t_moment_values, .inl (kk 0, 14, .inl t_moment_values)), (a_q1, .inr (7, [.ref a_q1_values, .ref a_q1_flags, .ref a_q1_order, .int q1_size])), (a_q1_values, .inl (kk 0, 14, .inl q1_values)), (a_q1_flags, .inl (kk 2, 14, .inl q1_flags))]) (hS : va_S A s.heap H locs) : W p l e rm_Resolver_resolve s m args below meth c H locs 0 0 (MQ below (KQi D kk o.1 [(a_t, .inr (9, [.ref a_t_moment, .int o.2.1, .int o.2.2.1, .long o.2.2.2.1, .int o.2.2.2.2.1])), (a_t_moment, .inr (5, [.ref a_t_moment_values, .long o.2.2.2.2.2.1, .int o.2.2.2.2.2.2.1])), (a_t_moment_values, .inl (kk 0, 14, .inl o.2.2.2.2.2.2.2)), (a_q1, .inr (7, [.ref a_q1_values, .ref a_q1_flags, .ref a_q1_order, .int q1_size])), (a_q1_values, .inl (kk 0, 14, .inl q1_values)), (a_q1_flags, .inl (kk 2, 14, .inl q1_flags))] A) args s 0 0 A) (F0 m 149 ls []) := by
  have hx := S.1
  have hb := S.2.1
  unfold jn_Resolver_resolve_149 at he
  refine lv_aload_n hx hb d_Resolver_resolve_149 rfl (lv_at hl 0 rfl) ?_
  refine k_get S X us_Resolver hP 0 rfl rfl 3 (by decide) gm_1_194 rfl d_Resolver_resolve_150 ?_
  refine lv_ldc2 (v := (86400 : Int64)) hx hb S.2.2.2.1 (S.2.2.2.2 _ gm_4_90) d_Resolver_resolve_153 ?_
  refine lv_lmul hx hb d_Resolver_resolve_156 ?_
  refine lv_aload_n hx hb d_Resolver_resolve_157 rfl (lv_at hl 0 rfl) ?_
  refine k_get S X us_Resolver hP 0 rfl rfl 4 (by decide) gm_1_195 rfl d_Resolver_resolve_158 ?_
  refine lv_i2l hx hb d_Resolver_resolve_161 rfl ?_
  refine lv_ldc2 (v := (86400 : Int64)) hx hb S.2.2.2.1 (S.2.2.2.2 _ gm_4_90) d_Resolver_resolve_162 ?_
  refine lv_lrem hx hb d_Resolver_resolve_165 (by decide) ?_
  refine lv_ladd hx hb d_Resolver_resolve_166 ?_
  refine lv_lstore hx hb d_Resolver_resolve_167 hl (by decide) rfl (fun ls hl => ?_)
  have hl : lv_has ls 9 [(6, .long ((t_day * (86400 : Int64)) + ((Int32.toInt64 t_second) - (Int32.toInt64 t_second) / (86400 : Int64) * (86400 : Int64)))), (0, .ref a_t), (1, .ref a_q1), (3, .int x3)] := hl
  refine lv_aload_n hx hb d_Resolver_resolve_169 rfl (lv_at hl 2 rfl) ?_
  refine lv_bipush (v := (13 : Int32)) hx hb d_Resolver_resolve_170 (by decide) ?_
  obtain ⟨u7, e8, he⟩ := ih_b he
  refine k_io (r_V (As := [.int (13 : Int32)]) S X hA hP hD hS (c_Known_value l D kk st a_q1 a_q1_values a_q1_flags a_q1_order _ q1_size q1_values q1_flags (13 : Int32) u7 e8) gm_4_52 gm_4_49 gm_4_50 gm_4_51 gm_1_8 ⟨rfl, rfl, by decide, by decide⟩ kd_Known_value [3, 4, 5] rfl rfl rfl 3 7 rfl rfl rfl rfl hl.1 rfl (Nat.le_of_ble_eq_true rfl) d_Resolver_resolve_172 ⟨Nat.zero_le _, Nat.zero_le _⟩) hA hP hD hS [3, 4, 5] rfl (fun H locs hP hS => ?_)
  refine lv_istore hx hb d_Resolver_resolve_175 hl (by decide) rfl (fun ls hl => ?_)
  have hl : lv_has ls 9 [(8, .int u7), (6, .long ((t_day * (86400 : Int64)) + ((Int32.toInt64 t_second) - (Int32.toInt64 t_second) / (86400 : Int64) * (86400 : Int64)))), (0, .ref a_t), (1, .ref a_q1), (3, .int x3)] := hl
  refine lv_aload_n hx hb d_Resolver_resolve_177 rfl (lv_at hl 2 rfl) ?_
  refine k_get S X us_Resolver hP 0 rfl rfl 0 (by decide) gm_1_190 rfl d_Resolver_resolve_178 ?_
  refine lv_lload hx hb d_Resolver_resolve_181 (lv_at hl 1 rfl) ?_
  refine lv_ldc2 (v := (60 : Int64)) hx hb S.2.2.2.1 (S.2.2.2.2 _ gm_4_91) d_Resolver_resolve_183 ?_
  refine lv_iload hx hb d_Resolver_resolve_186 (lv_at hl 0 rfl) ?_
  refine lv_i2l hx hb d_Resolver_resolve_188 rfl ?_
  refine lv_lmul hx hb d_Resolver_resolve_189 ?_
  refine lv_lsub hx hb d_Resolver_resolve_190 ?_
  refine lv_aload_n hx hb d_Resolver_resolve_191 rfl (lv_at hl 3 rfl) ?_
  refine lv_bipush (v := (12 : Int32)) hx hb d_Resolver_resolve_192 (by decide) ?_
  obtain ⟨u9, e10, he⟩ := ih_b he
  refine k_io (r_V (As := [.int (12 : Int32)]) S X hA hP hD hS (c_Known_value l D kk st a_q1 a_q1_values a_q1_flags a_q1_order _ q1_size q1_values q1_flags (12 : Int32) u9 e10) gm_4_52 gm_4_49 gm_4_50 gm_4_51 gm_1_8 ⟨rfl, rfl, by decide, by decide⟩ kd_Known_value [3, 4, 5] rfl rfl rfl 3 7 rfl rfl rfl rfl hl.1 rfl (Nat.le_of_ble_eq_true rfl) d_Resolver_resolve_194 ⟨Nat.zero_le _, Nat.zero_le _⟩) hA hP hD hS [3, 4, 5] rfl (fun H locs hP hS => ?_)
  refine lv_iload hx hb d_Resolver_resolve_197 (lv_at hl 0 rfl) ?_
  refine lv_iload_n hx hb d_Resolver_resolve_199 rfl (lv_at hl 4 rfl) ?_
  obtain ⟨u11, e12, he⟩ := ih_b he
  refine k_v (wr := [(a_t, .inr (9, [.ref a_t_moment, .int t_style, .int t_used, .long t_day, .int t_second])), (a_q1, .inr (7, [.ref a_q1_values, .ref a_q1_flags, .ref a_q1_order, .int q1_size])), (a_q1_values, .inl (kk 0, 14, .inl q1_values)), (a_q1_flags, .inl (kk 2, 14, .inl q1_flags))]) (w1 := [(a_t_moment, .inr (5, [.ref a_t_moment_values, .long u11.1, .int u11.2.1])), (a_t_moment_values, .inl (kk 0, 14, .inl u11.2.2))]) (w2 := [(a_t, .inr (9, [.ref a_t_moment, .int t_style, .int t_used, .long t_day, .int t_second])), (a_t_moment, .inr (5, [.ref a_t_moment_values, .long u11.1, .int u11.2.1])), (a_t_moment_values, .inl (kk 0, 14, .inl u11.2.2)), (a_q1, .inr (7, [.ref a_q1_values, .ref a_q1_flags, .ref a_q1_order, .int q1_size])), (a_q1_values, .inl (kk 0, 14, .inl q1_values)), (a_q1_flags, .inl (kk 2, 14, .inl q1_flags))]) (r_V (As := [.long (((t_day * (86400 : Int64)) + ((Int32.toInt64 t_second) - (Int32.toInt64 t_second) / (86400 : Int64) * (86400 : Int64))) - ((60 : Int64) * (Int32.toInt64 u7))), .int u9, .int u7, .int x3]) S X hA hP hD hS (c_Moment_settle l D kk st a_t_moment a_t_moment_values _ t_moment_seconds t_moment_parts t_moment_values (((t_day * (86400 : Int64)) + ((Int32.toInt64 t_second) - (Int32.toInt64 t_second) / (86400 : Int64) * (86400 : Int64))) - ((60 : Int64) * (Int32.toInt64 u7))) u9 u7 x3 u11 e12) gm_1_212 gm_4_92 gm_1_210 gm_1_211 gm_1_10 ⟨rfl, rfl, by decide, by decide⟩ kd_Moment_settle [1, 2] rfl rfl rfl 1 5 rfl rfl rfl rfl hl.1 rfl (Nat.le_of_ble_eq_true rfl) d_Resolver_resolve_200 ⟨Nat.zero_le _, Nat.zero_le _⟩) hA hP hD hS [1, 2] [0, 3, 4, 5] [0, 4, 5, 1, 2, 3] rfl rfl rfl (by decide) rfl rfl rfl (fun H locs hP hD hS => ?_)
  refine lv_aload_n hx hb d_Resolver_resolve_203 rfl (lv_at hl 2 rfl) ?_
  refine lv_aload_n hx hb d_Resolver_resolve_204 rfl (lv_at hl 3 rfl) ?_
  obtain ⟨u13, e14, he⟩ := ih_b he
  refine k_io (r_V (As := [.ref a_q1]) S X hA hP hD hS (c_Resolver_agrees l D kk st a_t a_t_moment a_t_moment_values a_q1 a_q1_values a_q1_flags a_q1_order _ t_style t_used t_day t_second u11.1 u11.2.1 u11.2.2 q1_size q1_values q1_flags u13 e14) gm_4_96 gm_4_93 gm_4_95 gm_p2_14 gm_1_9 ⟨rfl, rfl, by decide, by decide⟩ kd_Resolver_agrees [0, 1, 2, 3, 4, 5] rfl rfl rfl 0 9 rfl rfl rfl rfl hl.1 rfl (Nat.le_of_ble_eq_true rfl) d_Resolver_resolve_205 ⟨Nat.zero_le _, Nat.zero_le _⟩) hA hP hD hS [0, 1, 2, 3, 4, 5] rfl (fun H locs hP hS => ?_)
  obtain ⟨hv15, he⟩ := ih_g he
  cases he
  exact k_zre hx hb hr hlk X hP hD hS hv15 d_Resolver_resolve_208
set_option maxHeartbeats 4000000 in
set_option maxRecDepth 100000 in
theorem w_Resolver_resolve_126 {p : Program} {l : Launch} {e : Env} {s : State} {m : MethodId} {args : Array Value} {below : List Frame} {meth : Method} {c : Code} {A : Nat → Prop} {D : va_G} {kk : Nat → ClassId} {st : Nat → Nat} (a_t a_t_moment a_t_moment_values a_q1 a_q1_values a_q1_flags a_q1_order : Nat) (t_style : Int32) (t_used : Int32) (t_day : Int64) (t_second : Int32) (t_moment_seconds : Int64) (t_moment_parts : Int32) (t_moment_values : Nat → Int32) (q1_size : Int32) (q1_values : Nat → Int32) (q1_flags : Nat → Int32) (x3 : Int32) (x4 : Int32) (o : Int32 × Int32 × Int32 × Int64 × Int32 × Int64 × Int32 × (Nat → Int32)) (S : CallFix p m c b_Resolver_resolve 9 s args GW y_Resolver_resolve.cls) (hr : meth.sig.returnType = (some .boolean)) (hlk : meth.locks = false) (hA : ∀ q, s.heap.size ≤ q → A q) (X : KX D kk st A s) (H : Heap) (locs : List Loc) (ls : Array Slot) (he : jn_Resolver_resolve_126 t_style t_used t_day t_second t_moment_seconds t_moment_parts t_moment_values q1_values q1_flags x3 x4 = some o) (hl : lv_has ls 9 [(0, .ref a_t), (1, .ref a_q1), (3, .int x3), (4, .int x4)]) (hP : va_P D classes [(a_t, .inr (9, [.ref a_t_moment, .int t_style, .int t_used, .long t_day, .int t_second])), (a_t_moment, .inr (5, [.ref a_t_moment_values, .long t_moment_seconds, .int t_moment_parts])), (a_t_moment_values, .inl (kk 0, 14, .inl t_moment_values)), (a_q1, .inr (7, [.ref a_q1_values, .ref a_q1_flags, .ref a_q1_order, .int q1_size])), (a_q1_values, .inl (kk 0, 14, .inl q1_values)), (a_q1_flags, .inl (kk 2, 14, .inl q1_flags))] H) (hD : va_D A [(a_t, .inr (9, [.ref a_t_moment, .int t_style, .int t_used, .long t_day, .int t_second])), (a_t_moment, .inr (5, [.ref a_t_moment_values, .long t_moment_seconds, .int t_moment_parts])), (a_t_moment_values, .inl (kk 0, 14, .inl t_moment_values)), (a_q1, .inr (7, [.ref a_q1_values, .ref a_q1_flags, .ref a_q1_order, .int q1_size])), (a_q1_values, .inl (kk 0, 14, .inl q1_values)), (a_q1_flags, .inl (kk 2, 14, .inl q1_flags))]) (hS : va_S A s.heap H locs) : W p l e rm_Resolver_resolve s m args below meth c H locs 0 0 (MQ below (KQi D kk o.1 [(a_t, .inr (9, [.ref a_t_moment, .int o.2.1, .int o.2.2.1, .long o.2.2.2.1, .int o.2.2.2.2.1])), (a_t_moment, .inr (5, [.ref a_t_moment_values, .long o.2.2.2.2.2.1, .int o.2.2.2.2.2.2.1])), (a_t_moment_values, .inl (kk 0, 14, .inl o.2.2.2.2.2.2.2)), (a_q1, .inr (7, [.ref a_q1_values, .ref a_q1_flags, .ref a_q1_order, .int q1_size])), (a_q1_values, .inl (kk 0, 14, .inl q1_values)), (a_q1_flags, .inl (kk 2, 14, .inl q1_flags))] A) args s 0 0 A) (F0 m 126 ls []) := by
  have hx := S.1
  have hb := S.2.1
  unfold jn_Resolver_resolve_126 at he
  refine lv_iload hx hb d_Resolver_resolve_126 (lv_at hl 3 rfl) ?_
  refine lv_if_eq (tgt := 149) hx hb d_Resolver_resolve_128 rfl (fun hc => ?_) (fun hc => ?_)
  · have he := ih_t hc he
    have hl : lv_has ls 9 [(0, .ref a_t), (1, .ref a_q1), (3, .int x3)] := lv_sub hl [0, 1, 2] rfl
    exact w_Resolver_resolve_149 a_t a_t_moment a_t_moment_values a_q1 a_q1_values a_q1_flags a_q1_order t_style t_used t_day t_second t_moment_seconds t_moment_parts t_moment_values q1_size q1_values q1_flags x3 o S hr hlk hA X _ _ ls he hl hP hD hS
  · have he := ih_f hc he
    refine lv_aload_n hx hb d_Resolver_resolve_131 rfl (lv_at hl 0 rfl) ?_
    refine lv_dup hx hb d_Resolver_resolve_132 rfl ?_
    refine k_get S X us_Resolver hP 0 rfl rfl 3 (by decide) gm_1_194 rfl d_Resolver_resolve_133 ?_
    refine lv_aload_n hx hb d_Resolver_resolve_136 rfl (lv_at hl 0 rfl) ?_
    refine k_get S X us_Resolver hP 0 rfl rfl 4 (by decide) gm_1_195 rfl d_Resolver_resolve_137 ?_
    refine lv_i2l hx hb d_Resolver_resolve_140 rfl ?_
    refine lv_ldc2 (v := (86400 : Int64)) hx hb S.2.2.2.1 (S.2.2.2.2 _ gm_4_90) d_Resolver_resolve_141 ?_
    refine lv_ldiv hx hb d_Resolver_resolve_144 (by decide) ?_
    refine lv_ladd hx hb d_Resolver_resolve_145 ?_
    refine k_put S X us_Resolver t_Resolver t_Resolver_ok n_Resolver hP hD hS 0 rfl rfl 3 (by decide) gm_1_194 rfl rfl rfl (Nat.le_of_ble_eq_true rfl) d_Resolver_resolve_146 (fun H locs hP hD hS => ?_)
    have hP : va_P D classes [(a_t, .inr (9, [.ref a_t_moment, .int t_style, .int t_used, .long (t_day + ((Int32.toInt64 t_second) / (86400 : Int64))), .int t_second])), (a_t_moment, .inr (5, [.ref a_t_moment_values, .long t_moment_seconds, .int t_moment_parts])), (a_t_moment_values, .inl (kk 0, 14, .inl t_moment_values)), (a_q1, .inr (7, [.ref a_q1_values, .ref a_q1_flags, .ref a_q1_order, .int q1_size])), (a_q1_values, .inl (kk 0, 14, .inl q1_values)), (a_q1_flags, .inl (kk 2, 14, .inl q1_flags))] H := hP
    have hD : va_D A [(a_t, .inr (9, [.ref a_t_moment, .int t_style, .int t_used, .long (t_day + ((Int32.toInt64 t_second) / (86400 : Int64))), .int t_second])), (a_t_moment, .inr (5, [.ref a_t_moment_values, .long t_moment_seconds, .int t_moment_parts])), (a_t_moment_values, .inl (kk 0, 14, .inl t_moment_values)), (a_q1, .inr (7, [.ref a_q1_values, .ref a_q1_flags, .ref a_q1_order, .int q1_size])), (a_q1_values, .inl (kk 0, 14, .inl q1_values)), (a_q1_flags, .inl (kk 2, 14, .inl q1_flags))] := hD
    have hl : lv_has ls 9 [(0, .ref a_t), (1, .ref a_q1), (3, .int x3)] := lv_sub hl [0, 1, 2] rfl
    exact w_Resolver_resolve_149 a_t a_t_moment a_t_moment_values a_q1 a_q1_values a_q1_flags a_q1_order t_style t_used (t_day + ((Int32.toInt64 t_second) / (86400 : Int64))) t_second t_moment_seconds t_moment_parts t_moment_values q1_size q1_values q1_flags x3 o S hr hlk hA X _ _ ls he hl hP hD hS
set_option maxHeartbeats 4000000 in
set_option maxRecDepth 100000 in
theorem w_Resolver_resolve_111 {p : Program} {l : Launch} {e : Env} {s : State} {m : MethodId} {args : Array Value} {below : List Frame} {meth : Method} {c : Code} {A : Nat → Prop} {D : va_G} {kk : Nat → ClassId} {st : Nat → Nat} (a_t a_t_moment a_t_moment_values a_q1 a_q1_values a_q1_flags a_q1_order : Nat) (t_style : Int32) (t_used : Int32) (t_day : Int64) (t_second : Int32) (t_moment_seconds : Int64) (t_moment_parts : Int32) (t_moment_values : Nat → Int32) (q1_size : Int32) (q1_values : Nat → Int32) (q1_flags : Nat → Int32) (x3 : Int32) (x4 : Int32) (x5 : Int32) (o : Int32 × Int32 × Int32 × Int64 × Int32 × Int64 × Int32 × (Nat → Int32)) (S : CallFix p m c b_Resolver_resolve 9 s args GW y_Resolver_resolve.cls) (hr : meth.sig.returnType = (some .boolean)) (hlk : meth.locks = false) (hA : ∀ q, s.heap.size ≤ q → A q) (X : KX D kk st A s) (H : Heap) (locs : List Loc) (ls : Array Slot) (he : jn_Resolver_resolve_111 t_style t_used t_day t_second t_moment_seconds t_moment_parts t_moment_values q1_values q1_flags x3 x4 x5 = some o) (hl : lv_has ls 9 [(0, .ref a_t), (1, .ref a_q1), (3, .int x3), (4, .int x4), (5, .int x5)]) (hP : va_P D classes [(a_t, .inr (9, [.ref a_t_moment, .int t_style, .int t_used, .long t_day, .int t_second])), (a_t_moment, .inr (5, [.ref a_t_moment_values, .long t_moment_seconds, .int t_moment_parts])), (a_t_moment_values, .inl (kk 0, 14, .inl t_moment_values)), (a_q1, .inr (7, [.ref a_q1_values, .ref a_q1_flags, .ref a_q1_order, .int q1_size])), (a_q1_values, .inl (kk 0, 14, .inl q1_values)), (a_q1_flags, .inl (kk 2, 14, .inl q1_flags))] H) (hD : va_D A [(a_t, .inr (9, [.ref a_t_moment, .int t_style, .int t_used, .long t_day, .int t_second])), (a_t_moment, .inr (5, [.ref a_t_moment_values, .long t_moment_seconds, .int t_moment_parts])), (a_t_moment_values, .inl (kk 0, 14, .inl t_moment_values)), (a_q1, .inr (7, [.ref a_q1_values, .ref a_q1_flags, .ref a_q1_order, .int q1_size])), (a_q1_values, .inl (kk 0, 14, .inl q1_values)), (a_q1_flags, .inl (kk 2, 14, .inl q1_flags))]) (hS : va_S A s.heap H locs) : W p l e rm_Resolver_resolve s m args below meth c H locs 0 0 (MQ below (KQi D kk o.1 [(a_t, .inr (9, [.ref a_t_moment, .int o.2.1, .int o.2.2.1, .long o.2.2.2.1, .int o.2.2.2.2.1])), (a_t_moment, .inr (5, [.ref a_t_moment_values, .long o.2.2.2.2.2.1, .int o.2.2.2.2.2.2.1])), (a_t_moment_values, .inl (kk 0, 14, .inl o.2.2.2.2.2.2.2)), (a_q1, .inr (7, [.ref a_q1_values, .ref a_q1_flags, .ref a_q1_order, .int q1_size])), (a_q1_values, .inl (kk 0, 14, .inl q1_values)), (a_q1_flags, .inl (kk 2, 14, .inl q1_flags))] A) args s 0 0 A) (F0 m 111 ls []) := by
  have hx := S.1
  have hb := S.2.1
  unfold jn_Resolver_resolve_111 at he
  refine lv_iload hx hb d_Resolver_resolve_111 (lv_at hl 4 rfl) ?_
  refine lv_if_eq (tgt := 126) hx hb d_Resolver_resolve_113 rfl (fun hc => ?_) (fun hc => ?_)
  · have he := ih_t hc he
    have hl : lv_has ls 9 [(0, .ref a_t), (1, .ref a_q1), (3, .int x3), (4, .int x4)] := lv_sub hl [0, 1, 2, 3] rfl
    exact w_Resolver_resolve_126 a_t a_t_moment a_t_moment_values a_q1 a_q1_values a_q1_flags a_q1_order t_style t_used t_day t_second t_moment_seconds t_moment_parts t_moment_values q1_size q1_values q1_flags x3 x4 o S hr hlk hA X _ _ ls he hl hP hD hS
  · have he := ih_f hc he
    refine lv_aload_n hx hb d_Resolver_resolve_116 rfl (lv_at hl 0 rfl) ?_
    refine lv_aload_n hx hb d_Resolver_resolve_117 rfl (lv_at hl 1 rfl) ?_
    obtain ⟨u16, e17, he⟩ := ih_b he
    refine k_i (wr := [(a_t_moment, .inr (5, [.ref a_t_moment_values, .long t_moment_seconds, .int t_moment_parts])), (a_t_moment_values, .inl (kk 0, 14, .inl t_moment_values))]) (w1 := [(a_t, .inr (9, [.ref a_t_moment, .int t_style, .int u16.2.1, .long t_day, .int u16.2.2])), (a_q1, .inr (7, [.ref a_q1_values, .ref a_q1_flags, .ref a_q1_order, .int q1_size])), (a_q1_values, .inl (kk 0, 14, .inl q1_values)), (a_q1_flags, .inl (kk 2, 14, .inl q1_flags))]) (w2 := [(a_t, .inr (9, [.ref a_t_moment, .int t_style, .int u16.2.1, .long t_day, .int u16.2.2])), (a_t_moment, .inr (5, [.ref a_t_moment_values, .long t_moment_seconds, .int t_moment_parts])), (a_t_moment_values, .inl (kk 0, 14, .inl t_moment_values)), (a_q1, .inr (7, [.ref a_q1_values, .ref a_q1_flags, .ref a_q1_order, .int q1_size])), (a_q1_values, .inl (kk 0, 14, .inl q1_values)), (a_q1_flags, .inl (kk 2, 14, .inl q1_flags))]) (r_V (As := [.ref a_q1]) S X hA hP hD hS (c_Resolver_findTime l D kk st a_t a_q1 a_q1_values a_q1_flags a_t_moment a_q1_order _ t_style t_used t_day t_second q1_size q1_values q1_flags u16 e17) gm_4_89 gm_4_86 gm_4_88 gm_p2_13 gm_1_9 ⟨rfl, rfl, by decide, by decide⟩ kd_Resolver_findTime [0, 3, 4, 5] rfl rfl rfl 0 9 rfl rfl rfl rfl hl.1 rfl (Nat.le_of_ble_eq_true rfl) d_Resolver_resolve_118 ⟨Nat.zero_le _, Nat.zero_le _⟩) hA hP hD hS [0, 3, 4, 5] [1, 2] [2, 0, 1, 3, 4, 5] rfl rfl rfl (by decide) rfl rfl rfl (fun H locs hP hD hS => ?_)
    refine lv_if_ne (tgt := 126) hx hb d_Resolver_resolve_121 rfl (fun hc => ?_) (fun hc => ?_)
    · have he := ih_f hc he
      have hl : lv_has ls 9 [(0, .ref a_t), (1, .ref a_q1), (3, .int x3), (4, .int x4)] := lv_sub hl [0, 1, 2, 3] rfl
      exact w_Resolver_resolve_126 a_t a_t_moment a_t_moment_values a_q1 a_q1_values a_q1_flags a_q1_order t_style u16.2.1 t_day u16.2.2 t_moment_seconds t_moment_parts t_moment_values q1_size q1_values q1_flags x3 x4 o S hr hlk hA X _ _ ls he hl hP hD hS
    · have he := ih_t hc he
      refine lv_iconst (v := (0 : Int32)) hx hb d_Resolver_resolve_124 (by decide) ?_
      cases he
      exact k_zre hx hb hr hlk X hP hD hS (Or.inl rfl) d_Resolver_resolve_125
set_option maxHeartbeats 4000000 in
set_option maxRecDepth 100000 in
theorem w_Resolver_resolve_92 {p : Program} {l : Launch} {e : Env} {s : State} {m : MethodId} {args : Array Value} {below : List Frame} {meth : Method} {c : Code} {A : Nat → Prop} {D : va_G} {kk : Nat → ClassId} {st : Nat → Nat} (a_t a_t_moment a_t_moment_values a_q1 a_q1_values a_q1_flags a_q1_order : Nat) (t_style : Int32) (t_used : Int32) (t_day : Int64) (t_second : Int32) (t_moment_seconds : Int64) (t_moment_parts : Int32) (t_moment_values : Nat → Int32) (q1_size : Int32) (q1_values : Nat → Int32) (q1_flags : Nat → Int32) (x3 : Int32) (x4 : Int32) (s0 : Int32) (o : Int32 × Int32 × Int32 × Int64 × Int32 × Int64 × Int32 × (Nat → Int32)) (S : CallFix p m c b_Resolver_resolve 9 s args GW y_Resolver_resolve.cls) (hr : meth.sig.returnType = (some .boolean)) (hlk : meth.locks = false) (hA : ∀ q, s.heap.size ≤ q → A q) (X : KX D kk st A s) (H : Heap) (locs : List Loc) (ls : Array Slot) (he : jn_Resolver_resolve_92 t_style t_used t_day t_second t_moment_seconds t_moment_parts t_moment_values q1_values q1_flags x3 x4 s0 = some o) (hl : lv_has ls 9 [(0, .ref a_t), (1, .ref a_q1), (3, .int x3), (4, .int x4)]) (hP : va_P D classes [(a_t, .inr (9, [.ref a_t_moment, .int t_style, .int t_used, .long t_day, .int t_second])), (a_t_moment, .inr (5, [.ref a_t_moment_values, .long t_moment_seconds, .int t_moment_parts])), (a_t_moment_values, .inl (kk 0, 14, .inl t_moment_values)), (a_q1, .inr (7, [.ref a_q1_values, .ref a_q1_flags, .ref a_q1_order, .int q1_size])), (a_q1_values, .inl (kk 0, 14, .inl q1_values)), (a_q1_flags, .inl (kk 2, 14, .inl q1_flags))] H) (hD : va_D A [(a_t, .inr (9, [.ref a_t_moment, .int t_style, .int t_used, .long t_day, .int t_second])), (a_t_moment, .inr (5, [.ref a_t_moment_values, .long t_moment_seconds, .int t_moment_parts])), (a_t_moment_values, .inl (kk 0, 14, .inl t_moment_values)), (a_q1, .inr (7, [.ref a_q1_values, .ref a_q1_flags, .ref a_q1_order, .int q1_size])), (a_q1_values, .inl (kk 0, 14, .inl q1_values)), (a_q1_flags, .inl (kk 2, 14, .inl q1_flags))]) (hS : va_S A s.heap H locs) : W p l e rm_Resolver_resolve s m args below meth c H locs 0 0 (MQ below (KQi D kk o.1 [(a_t, .inr (9, [.ref a_t_moment, .int o.2.1, .int o.2.2.1, .long o.2.2.2.1, .int o.2.2.2.2.1])), (a_t_moment, .inr (5, [.ref a_t_moment_values, .long o.2.2.2.2.2.1, .int o.2.2.2.2.2.2.1])), (a_t_moment_values, .inl (kk 0, 14, .inl o.2.2.2.2.2.2.2)), (a_q1, .inr (7, [.ref a_q1_values, .ref a_q1_flags, .ref a_q1_order, .int q1_size])), (a_q1_values, .inl (kk 0, 14, .inl q1_values)), (a_q1_flags, .inl (kk 2, 14, .inl q1_flags))] A) args s 0 0 A) (F0 m 92 ls [.int s0]) := by
  have hx := S.1
  have hb := S.2.1
  unfold jn_Resolver_resolve_92 at he
  refine lv_istore hx hb d_Resolver_resolve_92 hl (by decide) rfl (fun ls hl => ?_)
  have hl : lv_has ls 9 [(5, .int s0), (0, .ref a_t), (1, .ref a_q1), (3, .int x3), (4, .int x4)] := hl
  refine lv_iload_n hx hb d_Resolver_resolve_94 rfl (lv_at hl 3 rfl) ?_
  refine lv_if_eq (tgt := 124) hx hb d_Resolver_resolve_95 rfl (fun hc => ?_) (fun hc => ?_)
  · have he := ih_t hc he
    refine lv_iconst (v := (0 : Int32)) hx hb d_Resolver_resolve_124 (by decide) ?_
    cases he
    exact k_zre hx hb hr hlk X hP hD hS (Or.inl rfl) d_Resolver_resolve_125
  · have he := ih_f hc he
    refine lv_iload hx hb d_Resolver_resolve_98 (lv_at hl 4 rfl) ?_
    refine lv_if_eq (tgt := 111) hx hb d_Resolver_resolve_100 rfl (fun hc => ?_) (fun hc => ?_)
    · have he := ih_t hc he
      have hl : lv_has ls 9 [(0, .ref a_t), (1, .ref a_q1), (3, .int x3), (4, .int x4), (5, .int s0)] := lv_sub hl [1, 2, 3, 4, 0] rfl
      exact w_Resolver_resolve_111 a_t a_t_moment a_t_moment_values a_q1 a_q1_values a_q1_flags a_q1_order t_style t_used t_day t_second t_moment_seconds t_moment_parts t_moment_values q1_size q1_values q1_flags x3 x4 s0 o S hr hlk hA X _ _ ls he hl hP hD hS
    · have he := ih_f hc he
      refine lv_aload_n hx hb d_Resolver_resolve_103 rfl (lv_at hl 1 rfl) ?_
      refine lv_aload_n hx hb d_Resolver_resolve_104 rfl (lv_at hl 2 rfl) ?_
      obtain ⟨u18, e19, he⟩ := ih_b he
      refine k_i (wr := [(a_t_moment, .inr (5, [.ref a_t_moment_values, .long t_moment_seconds, .int t_moment_parts])), (a_t_moment_values, .inl (kk 0, 14, .inl t_moment_values))]) (w1 := [(a_t, .inr (9, [.ref a_t_moment, .int t_style, .int u18.2.1, .long u18.2.2, .int t_second])), (a_q1, .inr (7, [.ref a_q1_values, .ref a_q1_flags, .ref a_q1_order, .int q1_size])), (a_q1_values, .inl (kk 0, 14, .inl q1_values)), (a_q1_flags, .inl (kk 2, 14, .inl q1_flags))]) (w2 := [(a_t, .inr (9, [.ref a_t_moment, .int t_style, .int u18.2.1, .long u18.2.2, .int t_second])), (a_t_moment, .inr (5, [.ref a_t_moment_values, .long t_moment_seconds, .int t_moment_parts])), (a_t_moment_values, .inl (kk 0, 14, .inl t_moment_values)), (a_q1, .inr (7, [.ref a_q1_values, .ref a_q1_flags, .ref a_q1_order, .int q1_size])), (a_q1_values, .inl (kk 0, 14, .inl q1_values)), (a_q1_flags, .inl (kk 2, 14, .inl q1_flags))]) (r_V (As := [.ref a_q1]) S X hA hP hD hS (c_Resolver_findDate l D kk st a_t a_q1 a_q1_values a_q1_flags a_t_moment a_q1_order _ t_style t_used t_day t_second q1_size q1_values q1_flags u18 e19) gm_4_44 gm_4_41 gm_4_43 gm_p2_8 gm_1_9 ⟨rfl, rfl, by decide, by decide⟩ kd_Resolver_findDate [0, 3, 4, 5] rfl rfl rfl 0 9 rfl rfl rfl rfl hl.1 rfl (Nat.le_of_ble_eq_true rfl) d_Resolver_resolve_105 ⟨Nat.zero_le _, Nat.zero_le _⟩) hA hP hD hS [0, 3, 4, 5] [1, 2] [2, 0, 1, 3, 4, 5] rfl rfl rfl (by decide) rfl rfl rfl (fun H locs hP hD hS => ?_)
      refine lv_if_eq (tgt := 124) hx hb d_Resolver_resolve_108 rfl (fun hc => ?_) (fun hc => ?_)
      · have he := ih_t hc he
        refine lv_iconst (v := (0 : Int32)) hx hb d_Resolver_resolve_124 (by decide) ?_
        cases he
        exact k_zre hx hb hr hlk X hP hD hS (Or.inl rfl) d_Resolver_resolve_125
      · have he := ih_f hc he
        have hl : lv_has ls 9 [(0, .ref a_t), (1, .ref a_q1), (3, .int x3), (4, .int x4), (5, .int s0)] := lv_sub hl [1, 2, 3, 4, 0] rfl
        exact w_Resolver_resolve_111 a_t a_t_moment a_t_moment_values a_q1 a_q1_values a_q1_flags a_q1_order t_style u18.2.1 u18.2.2 t_second t_moment_seconds t_moment_parts t_moment_values q1_size q1_values q1_flags x3 x4 s0 o S hr hlk hA X _ _ ls he hl hP hD hS
set_option maxHeartbeats 4000000 in
set_option maxRecDepth 100000 in
theorem w_Resolver_resolve_79 {p : Program} {l : Launch} {e : Env} {s : State} {m : MethodId} {args : Array Value} {below : List Frame} {meth : Method} {c : Code} {A : Nat → Prop} {D : va_G} {kk : Nat → ClassId} {st : Nat → Nat} (a_t a_t_moment a_t_moment_values a_q1 a_q1_values a_q1_flags a_q1_order : Nat) (t_style : Int32) (t_used : Int32) (t_day : Int64) (t_second : Int32) (t_moment_seconds : Int64) (t_moment_parts : Int32) (t_moment_values : Nat → Int32) (q1_size : Int32) (q1_values : Nat → Int32) (q1_flags : Nat → Int32) (x3 : Int32) (s0 : Int32) (o : Int32 × Int32 × Int32 × Int64 × Int32 × Int64 × Int32 × (Nat → Int32)) (S : CallFix p m c b_Resolver_resolve 9 s args GW y_Resolver_resolve.cls) (hr : meth.sig.returnType = (some .boolean)) (hlk : meth.locks = false) (hA : ∀ q, s.heap.size ≤ q → A q) (X : KX D kk st A s) (H : Heap) (locs : List Loc) (ls : Array Slot) (he : jn_Resolver_resolve_79 t_style t_used t_day t_second t_moment_seconds t_moment_parts t_moment_values q1_values q1_flags x3 s0 = some o) (hl : lv_has ls 9 [(0, .ref a_t), (1, .ref a_q1), (3, .int x3)]) (hP : va_P D classes [(a_t, .inr (9, [.ref a_t_moment, .int t_style, .int t_used, .long t_day, .int t_second])), (a_t_moment, .inr (5, [.ref a_t_moment_values, .long t_moment_seconds, .int t_moment_parts])), (a_t_moment_values, .inl (kk 0, 14, .inl t_moment_values)), (a_q1, .inr (7, [.ref a_q1_values, .ref a_q1_flags, .ref a_q1_order, .int q1_size])), (a_q1_values, .inl (kk 0, 14, .inl q1_values)), (a_q1_flags, .inl (kk 2, 14, .inl q1_flags))] H) (hD : va_D A [(a_t, .inr (9, [.ref a_t_moment, .int t_style, .int t_used, .long t_day, .int t_second])), (a_t_moment, .inr (5, [.ref a_t_moment_values, .long t_moment_seconds, .int t_moment_parts])), (a_t_moment_values, .inl (kk 0, 14, .inl t_moment_values)), (a_q1, .inr (7, [.ref a_q1_values, .ref a_q1_flags, .ref a_q1_order, .int q1_size])), (a_q1_values, .inl (kk 0, 14, .inl q1_values)), (a_q1_flags, .inl (kk 2, 14, .inl q1_flags))]) (hS : va_S A s.heap H locs) : W p l e rm_Resolver_resolve s m args below meth c H locs 0 0 (MQ below (KQi D kk o.1 [(a_t, .inr (9, [.ref a_t_moment, .int o.2.1, .int o.2.2.1, .long o.2.2.2.1, .int o.2.2.2.2.1])), (a_t_moment, .inr (5, [.ref a_t_moment_values, .long o.2.2.2.2.2.1, .int o.2.2.2.2.2.2.1])), (a_t_moment_values, .inl (kk 0, 14, .inl o.2.2.2.2.2.2.2)), (a_q1, .inr (7, [.ref a_q1_values, .ref a_q1_flags, .ref a_q1_order, .int q1_size])), (a_q1_values, .inl (kk 0, 14, .inl q1_values)), (a_q1_flags, .inl (kk 2, 14, .inl q1_flags))] A) args s 0 0 A) (F0 m 79 ls [.int s0]) := by
  have hx := S.1
  have hb := S.2.1
  unfold jn_Resolver_resolve_79 at he
  refine lv_istore hx hb d_Resolver_resolve_79 hl (by decide) rfl (fun ls hl => ?_)
  have hl : lv_has ls 9 [(4, .int s0), (0, .ref a_t), (1, .ref a_q1), (3, .int x3)] := hl
  refine lv_iload_n hx hb d_Resolver_resolve_81 rfl (lv_at hl 3 rfl) ?_
  refine lv_iconst (v := (2 : Int32)) hx hb d_Resolver_resolve_82 (by decide) ?_
  refine lv_iand hx hb d_Resolver_resolve_83 ?_
  refine lv_if_eq (tgt := 91) hx hb d_Resolver_resolve_84 rfl (fun hc => ?_) (fun hc => ?_)
  · have he := ih_t hc he
    refine lv_iconst (v := (0 : Int32)) hx hb d_Resolver_resolve_91 (by decide) ?_
    have hl : lv_has ls 9 [(0, .ref a_t), (1, .ref a_q1), (3, .int x3), (4, .int s0)] := lv_sub hl [1, 2, 3, 0] rfl
    exact w_Resolver_resolve_92 a_t a_t_moment a_t_moment_values a_q1 a_q1_values a_q1_flags a_q1_order t_style t_used t_day t_second t_moment_seconds t_moment_parts t_moment_values q1_size q1_values q1_flags x3 s0 (0 : Int32) o S hr hlk hA X _ _ ls he hl hP hD hS
  · have he := ih_f hc he
    refine lv_iconst (v := (1 : Int32)) hx hb d_Resolver_resolve_87 (by decide) ?_
    refine lv_goto (tgt := 92) hx hb d_Resolver_resolve_88 rfl ?_
    have hl : lv_has ls 9 [(0, .ref a_t), (1, .ref a_q1), (3, .int x3), (4, .int s0)] := lv_sub hl [1, 2, 3, 0] rfl
    exact w_Resolver_resolve_92 a_t a_t_moment a_t_moment_values a_q1 a_q1_values a_q1_flags a_q1_order t_style t_used t_day t_second t_moment_seconds t_moment_parts t_moment_values q1_size q1_values q1_flags x3 s0 (1 : Int32) o S hr hlk hA X _ _ ls he hl hP hD hS
set_option maxHeartbeats 4000000 in
set_option maxRecDepth 100000 in
theorem w_Resolver_resolve_66 {p : Program} {l : Launch} {e : Env} {s : State} {m : MethodId} {args : Array Value} {below : List Frame} {meth : Method} {c : Code} {A : Nat → Prop} {D : va_G} {kk : Nat → ClassId} {st : Nat → Nat} (a_t a_t_moment a_t_moment_values a_q1 a_q1_values a_q1_flags a_q1_order : Nat) (t_style : Int32) (t_used : Int32) (t_day : Int64) (t_second : Int32) (t_moment_seconds : Int64) (t_moment_parts : Int32) (t_moment_values : Nat → Int32) (q1_size : Int32) (q1_values : Nat → Int32) (q1_flags : Nat → Int32) (s0 : Int32) (s1 : Int32) (o : Int32 × Int32 × Int32 × Int64 × Int32 × Int64 × Int32 × (Nat → Int32)) (S : CallFix p m c b_Resolver_resolve 9 s args GW y_Resolver_resolve.cls) (hr : meth.sig.returnType = (some .boolean)) (hlk : meth.locks = false) (hA : ∀ q, s.heap.size ≤ q → A q) (X : KX D kk st A s) (H : Heap) (locs : List Loc) (ls : Array Slot) (he : jn_Resolver_resolve_66 t_style t_used t_day t_second t_moment_seconds t_moment_parts t_moment_values q1_values q1_flags s0 s1 = some o) (hl : lv_has ls 9 [(0, .ref a_t), (1, .ref a_q1)]) (hP : va_P D classes [(a_t, .inr (9, [.ref a_t_moment, .int t_style, .int t_used, .long t_day, .int t_second])), (a_t_moment, .inr (5, [.ref a_t_moment_values, .long t_moment_seconds, .int t_moment_parts])), (a_t_moment_values, .inl (kk 0, 14, .inl t_moment_values)), (a_q1, .inr (7, [.ref a_q1_values, .ref a_q1_flags, .ref a_q1_order, .int q1_size])), (a_q1_values, .inl (kk 0, 14, .inl q1_values)), (a_q1_flags, .inl (kk 2, 14, .inl q1_flags))] H) (hD : va_D A [(a_t, .inr (9, [.ref a_t_moment, .int t_style, .int t_used, .long t_day, .int t_second])), (a_t_moment, .inr (5, [.ref a_t_moment_values, .long t_moment_seconds, .int t_moment_parts])), (a_t_moment_values, .inl (kk 0, 14, .inl t_moment_values)), (a_q1, .inr (7, [.ref a_q1_values, .ref a_q1_flags, .ref a_q1_order, .int q1_size])), (a_q1_values, .inl (kk 0, 14, .inl q1_values)), (a_q1_flags, .inl (kk 2, 14, .inl q1_flags))]) (hS : va_S A s.heap H locs) : W p l e rm_Resolver_resolve s m args below meth c H locs 0 0 (MQ below (KQi D kk o.1 [(a_t, .inr (9, [.ref a_t_moment, .int o.2.1, .int o.2.2.1, .long o.2.2.2.1, .int o.2.2.2.2.1])), (a_t_moment, .inr (5, [.ref a_t_moment_values, .long o.2.2.2.2.2.1, .int o.2.2.2.2.2.2.1])), (a_t_moment_values, .inl (kk 0, 14, .inl o.2.2.2.2.2.2.2)), (a_q1, .inr (7, [.ref a_q1_values, .ref a_q1_flags, .ref a_q1_order, .int q1_size])), (a_q1_values, .inl (kk 0, 14, .inl q1_values)), (a_q1_flags, .inl (kk 2, 14, .inl q1_flags))] A) args s 0 0 A) (F0 m 66 ls [.int s1, .int s0]) := by
  have hx := S.1
  have hb := S.2.1
  unfold jn_Resolver_resolve_66 at he
  refine lv_iadd hx hb d_Resolver_resolve_66 ?_
  refine lv_istore_n hx hb d_Resolver_resolve_67 rfl hl (by decide) rfl (fun ls hl => ?_)
  have hl : lv_has ls 9 [(3, .int (s0 + s1)), (0, .ref a_t), (1, .ref a_q1)] := hl
  refine lv_iload_n hx hb d_Resolver_resolve_68 rfl (lv_at hl 0 rfl) ?_
  refine lv_iconst (v := (1 : Int32)) hx hb d_Resolver_resolve_69 (by decide) ?_
  refine lv_iand hx hb d_Resolver_resolve_70 ?_
  refine lv_if_eq (tgt := 78) hx hb d_Resolver_resolve_71 rfl (fun hc => ?_) (fun hc => ?_)
  · have he := ih_t hc he
    refine lv_iconst (v := (0 : Int32)) hx hb d_Resolver_resolve_78 (by decide) ?_
    have hl : lv_has ls 9 [(0, .ref a_t), (1, .ref a_q1), (3, .int (s0 + s1))] := lv_sub hl [1, 2, 0] rfl
    exact w_Resolver_resolve_79 a_t a_t_moment a_t_moment_values a_q1 a_q1_values a_q1_flags a_q1_order t_style t_used t_day t_second t_moment_seconds t_moment_parts t_moment_values q1_size q1_values q1_flags (s0 + s1) (0 : Int32) o S hr hlk hA X _ _ ls he hl hP hD hS
  · have he := ih_f hc he
    refine lv_iconst (v := (1 : Int32)) hx hb d_Resolver_resolve_74 (by decide) ?_
    refine lv_goto (tgt := 79) hx hb d_Resolver_resolve_75 rfl ?_
    have hl : lv_has ls 9 [(0, .ref a_t), (1, .ref a_q1), (3, .int (s0 + s1))] := lv_sub hl [1, 2, 0] rfl
    exact w_Resolver_resolve_79 a_t a_t_moment a_t_moment_values a_q1 a_q1_values a_q1_flags a_q1_order t_style t_used t_day t_second t_moment_seconds t_moment_parts t_moment_values q1_size q1_values q1_flags (s0 + s1) (1 : Int32) o S hr hlk hA X _ _ ls he hl hP hD hS
set_option maxHeartbeats 4000000 in
set_option maxRecDepth 100000 in
theorem w_Resolver_resolve_51 {p : Program} {l : Launch} {e : Env} {s : State} {m : MethodId} {args : Array Value} {below : List Frame} {meth : Method} {c : Code} {A : Nat → Prop} {D : va_G} {kk : Nat → ClassId} {st : Nat → Nat} (a_t a_t_moment a_t_moment_values a_q1 a_q1_values a_q1_flags a_q1_order : Nat) (t_style : Int32) (t_used : Int32) (t_day : Int64) (t_second : Int32) (t_moment_seconds : Int64) (t_moment_parts : Int32) (t_moment_values : Nat → Int32) (q1_size : Int32) (q1_values : Nat → Int32) (q1_flags : Nat → Int32) (s0 : Int32) (s1 : Int32) (o : Int32 × Int32 × Int32 × Int64 × Int32 × Int64 × Int32 × (Nat → Int32)) (S : CallFix p m c b_Resolver_resolve 9 s args GW y_Resolver_resolve.cls) (hr : meth.sig.returnType = (some .boolean)) (hlk : meth.locks = false) (hA : ∀ q, s.heap.size ≤ q → A q) (X : KX D kk st A s) (H : Heap) (locs : List Loc) (ls : Array Slot) (he : jn_Resolver_resolve_51 t_style t_used t_day t_second t_moment_seconds t_moment_parts t_moment_values q1_values q1_flags s0 s1 = some o) (hl : lv_has ls 9 [(0, .ref a_t), (1, .ref a_q1)]) (hP : va_P D classes [(a_t, .inr (9, [.ref a_t_moment, .int t_style, .int t_used, .long t_day, .int t_second])), (a_t_moment, .inr (5, [.ref a_t_moment_values, .long t_moment_seconds, .int t_moment_parts])), (a_t_moment_values, .inl (kk 0, 14, .inl t_moment_values)), (a_q1, .inr (7, [.ref a_q1_values, .ref a_q1_flags, .ref a_q1_order, .int q1_size])), (a_q1_values, .inl (kk 0, 14, .inl q1_values)), (a_q1_flags, .inl (kk 2, 14, .inl q1_flags))] H) (hD : va_D A [(a_t, .inr (9, [.ref a_t_moment, .int t_style, .int t_used, .long t_day, .int t_second])), (a_t_moment, .inr (5, [.ref a_t_moment_values, .long t_moment_seconds, .int t_moment_parts])), (a_t_moment_values, .inl (kk 0, 14, .inl t_moment_values)), (a_q1, .inr (7, [.ref a_q1_values, .ref a_q1_flags, .ref a_q1_order, .int q1_size])), (a_q1_values, .inl (kk 0, 14, .inl q1_values)), (a_q1_flags, .inl (kk 2, 14, .inl q1_flags))]) (hS : va_S A s.heap H locs) : W p l e rm_Resolver_resolve s m args below meth c H locs 0 0 (MQ below (KQi D kk o.1 [(a_t, .inr (9, [.ref a_t_moment, .int o.2.1, .int o.2.2.1, .long o.2.2.2.1, .int o.2.2.2.2.1])), (a_t_moment, .inr (5, [.ref a_t_moment_values, .long o.2.2.2.2.2.1, .int o.2.2.2.2.2.2.1])), (a_t_moment_values, .inl (kk 0, 14, .inl o.2.2.2.2.2.2.2)), (a_q1, .inr (7, [.ref a_q1_values, .ref a_q1_flags, .ref a_q1_order, .int q1_size])), (a_q1_values, .inl (kk 0, 14, .inl q1_values)), (a_q1_flags, .inl (kk 2, 14, .inl q1_flags))] A) args s 0 0 A) (F0 m 51 ls [.int s1, .int s0]) := by
  have hx := S.1
  have hb := S.2.1
  unfold jn_Resolver_resolve_51 at he
  refine lv_iadd hx hb d_Resolver_resolve_51 ?_
  refine lv_aload_n hx hb d_Resolver_resolve_52 rfl (lv_at hl 1 rfl) ?_
  refine lv_bipush (v := (13 : Int32)) hx hb d_Resolver_resolve_53 (by decide) ?_
  obtain ⟨u5, e6, he⟩ := ih_b he
  refine k_io (r_V (As := [.int (13 : Int32)]) S X hA hP hD hS (c_Known_has l D kk st a_q1 a_q1_flags a_q1_values a_q1_order _ q1_size q1_flags (13 : Int32) u5 e6) gm_4_39 gm_4_40 gm_4_37 gm_4_38 gm_1_8 ⟨rfl, rfl, by decide, by decide⟩ kd_Known_has [3, 5] rfl rfl rfl 3 7 rfl rfl rfl rfl hl.1 rfl (Nat.le_of_ble_eq_true rfl) d_Resolver_resolve_55 ⟨Nat.zero_le _, Nat.zero_le _⟩) hA hP hD hS [3, 5] rfl (fun H locs hP hS => ?_)
  refine lv_if_eq (tgt := 65) hx hb d_Resolver_resolve_58 rfl (fun hc => ?_) (fun hc => ?_)
  · have he := ih_t hc he
    refine lv_iconst (v := (0 : Int32)) hx hb d_Resolver_resolve_65 (by decide) ?_
    have hl : lv_has ls 9 [(0, .ref a_t), (1, .ref a_q1)] := lv_sub hl [0, 1] rfl
    exact w_Resolver_resolve_66 a_t a_t_moment a_t_moment_values a_q1 a_q1_values a_q1_flags a_q1_order t_style t_used t_day t_second t_moment_seconds t_moment_parts t_moment_values q1_size q1_values q1_flags (s0 + s1) (0 : Int32) o S hr hlk hA X _ _ ls he hl hP hD hS
  · have he := ih_f hc he
    refine lv_iconst (v := (4 : Int32)) hx hb d_Resolver_resolve_61 (by decide) ?_
    refine lv_goto (tgt := 66) hx hb d_Resolver_resolve_62 rfl ?_
    have hl : lv_has ls 9 [(0, .ref a_t), (1, .ref a_q1)] := lv_sub hl [0, 1] rfl
    exact w_Resolver_resolve_66 a_t a_t_moment a_t_moment_values a_q1 a_q1_values a_q1_flags a_q1_order t_style t_used t_day t_second t_moment_seconds t_moment_parts t_moment_values q1_size q1_values q1_flags (s0 + s1) (4 : Int32) o S hr hlk hA X _ _ ls he hl hP hD hS
set_option maxHeartbeats 4000000 in
set_option maxRecDepth 100000 in
theorem w_Resolver_resolve_35 {p : Program} {l : Launch} {e : Env} {s : State} {m : MethodId} {args : Array Value} {below : List Frame} {meth : Method} {c : Code} {A : Nat → Prop} {D : va_G} {kk : Nat → ClassId} {st : Nat → Nat} (a_t a_t_moment a_t_moment_values a_q1 a_q1_values a_q1_flags a_q1_order : Nat) (t_style : Int32) (t_used : Int32) (t_day : Int64) (t_second : Int32) (t_moment_seconds : Int64) (t_moment_parts : Int32) (t_moment_values : Nat → Int32) (q1_size : Int32) (q1_values : Nat → Int32) (q1_flags : Nat → Int32) (s0 : Int32) (o : Int32 × Int32 × Int32 × Int64 × Int32 × Int64 × Int32 × (Nat → Int32)) (S : CallFix p m c b_Resolver_resolve 9 s args GW y_Resolver_resolve.cls) (hr : meth.sig.returnType = (some .boolean)) (hlk : meth.locks = false) (hA : ∀ q, s.heap.size ≤ q → A q) (X : KX D kk st A s) (H : Heap) (locs : List Loc) (ls : Array Slot) (he : jn_Resolver_resolve_35 t_style t_used t_day t_second t_moment_seconds t_moment_parts t_moment_values q1_values q1_flags s0 = some o) (hl : lv_has ls 9 [(0, .ref a_t), (1, .ref a_q1)]) (hP : va_P D classes [(a_t, .inr (9, [.ref a_t_moment, .int t_style, .int t_used, .long t_day, .int t_second])), (a_t_moment, .inr (5, [.ref a_t_moment_values, .long t_moment_seconds, .int t_moment_parts])), (a_t_moment_values, .inl (kk 0, 14, .inl t_moment_values)), (a_q1, .inr (7, [.ref a_q1_values, .ref a_q1_flags, .ref a_q1_order, .int q1_size])), (a_q1_values, .inl (kk 0, 14, .inl q1_values)), (a_q1_flags, .inl (kk 2, 14, .inl q1_flags))] H) (hD : va_D A [(a_t, .inr (9, [.ref a_t_moment, .int t_style, .int t_used, .long t_day, .int t_second])), (a_t_moment, .inr (5, [.ref a_t_moment_values, .long t_moment_seconds, .int t_moment_parts])), (a_t_moment_values, .inl (kk 0, 14, .inl t_moment_values)), (a_q1, .inr (7, [.ref a_q1_values, .ref a_q1_flags, .ref a_q1_order, .int q1_size])), (a_q1_values, .inl (kk 0, 14, .inl q1_values)), (a_q1_flags, .inl (kk 2, 14, .inl q1_flags))]) (hS : va_S A s.heap H locs) : W p l e rm_Resolver_resolve s m args below meth c H locs 0 0 (MQ below (KQi D kk o.1 [(a_t, .inr (9, [.ref a_t_moment, .int o.2.1, .int o.2.2.1, .long o.2.2.2.1, .int o.2.2.2.2.1])), (a_t_moment, .inr (5, [.ref a_t_moment_values, .long o.2.2.2.2.2.1, .int o.2.2.2.2.2.2.1])), (a_t_moment_values, .inl (kk 0, 14, .inl o.2.2.2.2.2.2.2)), (a_q1, .inr (7, [.ref a_q1_values, .ref a_q1_flags, .ref a_q1_order, .int q1_size])), (a_q1_values, .inl (kk 0, 14, .inl q1_values)), (a_q1_flags, .inl (kk 2, 14, .inl q1_flags))] A) args s 0 0 A) (F0 m 35 ls [.int s0]) := by
  have hx := S.1
  have hb := S.2.1
  unfold jn_Resolver_resolve_35 at he
  refine lv_aload_n hx hb d_Resolver_resolve_35 rfl (lv_at hl 1 rfl) ?_
  refine lv_bipush (v := (7 : Int32)) hx hb d_Resolver_resolve_36 (by decide) ?_
  refine lv_bipush (v := (12 : Int32)) hx hb d_Resolver_resolve_38 (by decide) ?_
  obtain ⟨u3, e4, he⟩ := ih_b he
  refine k_io (r_V (As := [.int (7 : Int32), .int (12 : Int32)]) S X hA hP hD hS (c_Known_hasOneOf l D kk st a_q1 a_q1_flags a_q1_values a_q1_order _ q1_size q1_flags (7 : Int32) (12 : Int32) u3 e4) gm_4_35 gm_4_32 gm_4_33 gm_4_34 gm_1_8 ⟨rfl, rfl, by decide, by decide⟩ kd_Known_hasOneOf [3, 5] rfl rfl rfl 3 7 rfl rfl rfl rfl hl.1 rfl (Nat.le_of_ble_eq_true rfl) d_Resolver_resolve_40 ⟨Nat.zero_le _, Nat.zero_le _⟩) hA hP hD hS [3, 5] rfl (fun H locs hP hS => ?_)
  refine lv_if_eq (tgt := 50) hx hb d_Resolver_resolve_43 rfl (fun hc => ?_) (fun hc => ?_)
  · have he := ih_t hc he
    refine lv_iconst (v := (0 : Int32)) hx hb d_Resolver_resolve_50 (by decide) ?_
    have hl : lv_has ls 9 [(0, .ref a_t), (1, .ref a_q1)] := lv_sub hl [0, 1] rfl
    exact w_Resolver_resolve_51 a_t a_t_moment a_t_moment_values a_q1 a_q1_values a_q1_flags a_q1_order t_style t_used t_day t_second t_moment_seconds t_moment_parts t_moment_values q1_size q1_values q1_flags s0 (0 : Int32) o S hr hlk hA X _ _ ls he hl hP hD hS
  · have he := ih_f hc he
    refine lv_iconst (v := (2 : Int32)) hx hb d_Resolver_resolve_46 (by decide) ?_
    refine lv_goto (tgt := 51) hx hb d_Resolver_resolve_47 rfl ?_
    have hl : lv_has ls 9 [(0, .ref a_t), (1, .ref a_q1)] := lv_sub hl [0, 1] rfl
    exact w_Resolver_resolve_51 a_t a_t_moment a_t_moment_values a_q1 a_q1_values a_q1_flags a_q1_order t_style t_used t_day t_second t_moment_seconds t_moment_parts t_moment_values q1_size q1_values q1_flags s0 (2 : Int32) o S hr hlk hA X _ _ ls he hl hP hD hS
set_option maxHeartbeats 4000000 in
set_option maxRecDepth 100000 in
theorem c_Resolver_resolve (l : Launch) (D : va_G) (kk : Nat → ClassId) (st : Nat → Nat) (a_t a_t_moment a_t_moment_values a_q1 a_q1_values a_q1_flags a_q1_order : Nat) (sz : Nat) (t_style : Int32) (t_used : Int32) (t_day : Int64) (t_second : Int32) (t_moment_seconds : Int64) (t_moment_parts : Int32) (t_moment_values : Nat → Int32) (q1_size : Int32) (q1_values : Nat → Int32) (q1_flags : Nat → Int32) (x2 : Int32) (o : Int32 × Int32 × Int32 × Int64 × Int32 × Int64 × Int32 × (Nat → Int32)) (he : f_Resolver_resolve t_style t_used t_day t_second t_moment_seconds t_moment_parts t_moment_values q1_values q1_flags x2 = some o) : Met l y_Resolver_resolve (Cond.code y_Resolver_resolve b_Resolver_resolve 9 (some .boolean) :: GW) rm_Resolver_resolve (KPc D kk st [.ref a_t, .ref a_q1, .int x2] [(a_t, .inr (9, [.ref a_t_moment, .int t_style, .int t_used, .long t_day, .int t_second])), (a_t_moment, .inr (5, [.ref a_t_moment_values, .long t_moment_seconds, .int t_moment_parts])), (a_t_moment_values, .inl (kk 0, 14, .inl t_moment_values)), (a_q1, .inr (7, [.ref a_q1_values, .ref a_q1_flags, .ref a_q1_order, .int q1_size])), (a_q1_values, .inl (kk 0, 14, .inl q1_values)), (a_q1_flags, .inl (kk 2, 14, .inl q1_flags))] sz) (KQi D kk o.1 [(a_t, .inr (9, [.ref a_t_moment, .int o.2.1, .int o.2.2.1, .long o.2.2.2.1, .int o.2.2.2.2.1])), (a_t_moment, .inr (5, [.ref a_t_moment_values, .long o.2.2.2.2.2.1, .int o.2.2.2.2.2.2.1])), (a_t_moment_values, .inl (kk 0, 14, .inl o.2.2.2.2.2.2.2)), (a_q1, .inr (7, [.ref a_q1_values, .ref a_q1_flags, .ref a_q1_order, .int q1_size])), (a_q1_values, .inl (kk 0, 14, .inl q1_values)), (a_q1_flags, .inl (kk 2, 14, .inl q1_flags))] (va_A [(a_t, .inr (9, [.ref a_t_moment, .int t_style, .int t_used, .long t_day, .int t_second])), (a_t_moment, .inr (5, [.ref a_t_moment_values, .long t_moment_seconds, .int t_moment_parts])), (a_t_moment_values, .inl (kk 0, 14, .inl t_moment_values)), (a_q1, .inr (7, [.ref a_q1_values, .ref a_q1_flags, .ref a_q1_order, .int q1_size])), (a_q1_values, .inl (kk 0, 14, .inl q1_values)), (a_q1_flags, .inl (kk 2, 14, .inl q1_flags))] sz)) 0 0 (va_A [(a_t, .inr (9, [.ref a_t_moment, .int t_style, .int t_used, .long t_day, .int t_second])), (a_t_moment, .inr (5, [.ref a_t_moment_values, .long t_moment_seconds, .int t_moment_parts])), (a_t_moment_values, .inl (kk 0, 14, .inl t_moment_values)), (a_q1, .inr (7, [.ref a_q1_values, .ref a_q1_flags, .ref a_q1_order, .int q1_size])), (a_q1_values, .inl (kk 0, 14, .inl q1_values)), (a_q1_flags, .inl (kk 2, 14, .inl q1_flags))] sz) := by
  refine k_start (Qc := fun A => KQi D kk o.1 [(a_t, .inr (9, [.ref a_t_moment, .int o.2.1, .int o.2.2.1, .long o.2.2.2.1, .int o.2.2.2.2.1])), (a_t_moment, .inr (5, [.ref a_t_moment_values, .long o.2.2.2.2.2.1, .int o.2.2.2.2.2.2.1])), (a_t_moment_values, .inl (kk 0, 14, .inl o.2.2.2.2.2.2.2)), (a_q1, .inr (7, [.ref a_q1_values, .ref a_q1_flags, .ref a_q1_order, .int q1_size])), (a_q1_values, .inl (kk 0, 14, .inl q1_values)), (a_q1_flags, .inl (kk 2, 14, .inl q1_flags))] A) (by decide) (Nat.le_of_ble_eq_true rfl) ?_
  intro p e s m below meth c A ls S hnm hr hlk hA X hP hD hS hl
  have hl : lv_has ls 9 [(0, .ref a_t), (1, .ref a_q1), (2, .int x2)] := hl
  have hx := S.1
  have hb := S.2.1
  unfold f_Resolver_resolve at he
  refine lv_aload_n hx hb d_Resolver_resolve_0 rfl (lv_at hl 0 rfl) ?_
  refine lv_iload_n hx hb d_Resolver_resolve_1 rfl (lv_at hl 2 rfl) ?_
  refine k_put S X us_Resolver t_Resolver t_Resolver_ok n_Resolver hP hD hS 0 rfl rfl 1 (by decide) gm_1_192 rfl rfl rfl (Nat.le_of_ble_eq_true rfl) d_Resolver_resolve_2 (fun H locs hP hD hS => ?_)
  have hP : va_P D classes [(a_t, .inr (9, [.ref a_t_moment, .int x2, .int t_used, .long t_day, .int t_second])), (a_t_moment, .inr (5, [.ref a_t_moment_values, .long t_moment_seconds, .int t_moment_parts])), (a_t_moment_values, .inl (kk 0, 14, .inl t_moment_values)), (a_q1, .inr (7, [.ref a_q1_values, .ref a_q1_flags, .ref a_q1_order, .int q1_size])), (a_q1_values, .inl (kk 0, 14, .inl q1_values)), (a_q1_flags, .inl (kk 2, 14, .inl q1_flags))] H := hP
  have hD : va_D A [(a_t, .inr (9, [.ref a_t_moment, .int x2, .int t_used, .long t_day, .int t_second])), (a_t_moment, .inr (5, [.ref a_t_moment_values, .long t_moment_seconds, .int t_moment_parts])), (a_t_moment_values, .inl (kk 0, 14, .inl t_moment_values)), (a_q1, .inr (7, [.ref a_q1_values, .ref a_q1_flags, .ref a_q1_order, .int q1_size])), (a_q1_values, .inl (kk 0, 14, .inl q1_values)), (a_q1_flags, .inl (kk 2, 14, .inl q1_flags))] := hD
  refine lv_aload_n hx hb d_Resolver_resolve_5 rfl (lv_at hl 0 rfl) ?_
  refine lv_iconst (v := (0 : Int32)) hx hb d_Resolver_resolve_6 (by decide) ?_
  refine k_put S X us_Resolver t_Resolver t_Resolver_ok n_Resolver hP hD hS 0 rfl rfl 2 (by decide) gm_1_193 rfl rfl rfl (Nat.le_of_ble_eq_true rfl) d_Resolver_resolve_7 (fun H locs hP hD hS => ?_)
  have hP : va_P D classes [(a_t, .inr (9, [.ref a_t_moment, .int x2, .int (0 : Int32), .long t_day, .int t_second])), (a_t_moment, .inr (5, [.ref a_t_moment_values, .long t_moment_seconds, .int t_moment_parts])), (a_t_moment_values, .inl (kk 0, 14, .inl t_moment_values)), (a_q1, .inr (7, [.ref a_q1_values, .ref a_q1_flags, .ref a_q1_order, .int q1_size])), (a_q1_values, .inl (kk 0, 14, .inl q1_values)), (a_q1_flags, .inl (kk 2, 14, .inl q1_flags))] H := hP
  have hD : va_D A [(a_t, .inr (9, [.ref a_t_moment, .int x2, .int (0 : Int32), .long t_day, .int t_second])), (a_t_moment, .inr (5, [.ref a_t_moment_values, .long t_moment_seconds, .int t_moment_parts])), (a_t_moment_values, .inl (kk 0, 14, .inl t_moment_values)), (a_q1, .inr (7, [.ref a_q1_values, .ref a_q1_flags, .ref a_q1_order, .int q1_size])), (a_q1_values, .inl (kk 0, 14, .inl q1_values)), (a_q1_flags, .inl (kk 2, 14, .inl q1_flags))] := hD
  refine lv_aload_n hx hb d_Resolver_resolve_10 rfl (lv_at hl 0 rfl) ?_
  refine lv_lconst (v := (0 : Int64)) hx hb d_Resolver_resolve_11 (by decide) ?_
  refine k_put S X us_Resolver t_Resolver t_Resolver_ok n_Resolver hP hD hS 0 rfl rfl 3 (by decide) gm_1_194 rfl rfl rfl (Nat.le_of_ble_eq_true rfl) d_Resolver_resolve_12 (fun H locs hP hD hS => ?_)
  have hP : va_P D classes [(a_t, .inr (9, [.ref a_t_moment, .int x2, .int (0 : Int32), .long (0 : Int64), .int t_second])), (a_t_moment, .inr (5, [.ref a_t_moment_values, .long t_moment_seconds, .int t_moment_parts])), (a_t_moment_values, .inl (kk 0, 14, .inl t_moment_values)), (a_q1, .inr (7, [.ref a_q1_values, .ref a_q1_flags, .ref a_q1_order, .int q1_size])), (a_q1_values, .inl (kk 0, 14, .inl q1_values)), (a_q1_flags, .inl (kk 2, 14, .inl q1_flags))] H := hP
  have hD : va_D A [(a_t, .inr (9, [.ref a_t_moment, .int x2, .int (0 : Int32), .long (0 : Int64), .int t_second])), (a_t_moment, .inr (5, [.ref a_t_moment_values, .long t_moment_seconds, .int t_moment_parts])), (a_t_moment_values, .inl (kk 0, 14, .inl t_moment_values)), (a_q1, .inr (7, [.ref a_q1_values, .ref a_q1_flags, .ref a_q1_order, .int q1_size])), (a_q1_values, .inl (kk 0, 14, .inl q1_values)), (a_q1_flags, .inl (kk 2, 14, .inl q1_flags))] := hD
  refine lv_aload_n hx hb d_Resolver_resolve_15 rfl (lv_at hl 0 rfl) ?_
  refine lv_iconst (v := (0 : Int32)) hx hb d_Resolver_resolve_16 (by decide) ?_
  refine k_put S X us_Resolver t_Resolver t_Resolver_ok n_Resolver hP hD hS 0 rfl rfl 4 (by decide) gm_1_195 rfl rfl rfl (Nat.le_of_ble_eq_true rfl) d_Resolver_resolve_17 (fun H locs hP hD hS => ?_)
  have hP : va_P D classes [(a_t, .inr (9, [.ref a_t_moment, .int x2, .int (0 : Int32), .long (0 : Int64), .int (0 : Int32)])), (a_t_moment, .inr (5, [.ref a_t_moment_values, .long t_moment_seconds, .int t_moment_parts])), (a_t_moment_values, .inl (kk 0, 14, .inl t_moment_values)), (a_q1, .inr (7, [.ref a_q1_values, .ref a_q1_flags, .ref a_q1_order, .int q1_size])), (a_q1_values, .inl (kk 0, 14, .inl q1_values)), (a_q1_flags, .inl (kk 2, 14, .inl q1_flags))] H := hP
  have hD : va_D A [(a_t, .inr (9, [.ref a_t_moment, .int x2, .int (0 : Int32), .long (0 : Int64), .int (0 : Int32)])), (a_t_moment, .inr (5, [.ref a_t_moment_values, .long t_moment_seconds, .int t_moment_parts])), (a_t_moment_values, .inl (kk 0, 14, .inl t_moment_values)), (a_q1, .inr (7, [.ref a_q1_values, .ref a_q1_flags, .ref a_q1_order, .int q1_size])), (a_q1_values, .inl (kk 0, 14, .inl q1_values)), (a_q1_flags, .inl (kk 2, 14, .inl q1_flags))] := hD
  refine lv_aload_n hx hb d_Resolver_resolve_20 rfl (lv_at hl 1 rfl) ?_
  refine lv_iconst (v := (0 : Int32)) hx hb d_Resolver_resolve_21 (by decide) ?_
  refine lv_bipush (v := (6 : Int32)) hx hb d_Resolver_resolve_22 (by decide) ?_
  obtain ⟨u1, e2, he⟩ := ih_b he
  refine k_io (r_V (As := [.int (0 : Int32), .int (6 : Int32)]) S X hA hP hD hS (c_Known_hasOneOf l D kk st a_q1 a_q1_flags a_q1_values a_q1_order _ q1_size q1_flags (0 : Int32) (6 : Int32) u1 e2) gm_4_35 gm_4_32 gm_4_33 gm_4_34 gm_1_8 ⟨rfl, rfl, by decide, by decide⟩ kd_Known_hasOneOf [3, 5] rfl rfl rfl 3 7 rfl rfl rfl rfl hl.1 rfl (Nat.le_of_ble_eq_true rfl) d_Resolver_resolve_24 ⟨Nat.zero_le _, Nat.zero_le _⟩) hA hP hD hS [3, 5] rfl (fun H locs hP hS => ?_)
  refine lv_if_eq (tgt := 34) hx hb d_Resolver_resolve_27 rfl (fun hc => ?_) (fun hc => ?_)
  · have he := ih_t hc he
    refine lv_iconst (v := (0 : Int32)) hx hb d_Resolver_resolve_34 (by decide) ?_
    have hl : lv_has ls 9 [(0, .ref a_t), (1, .ref a_q1)] := lv_sub hl [0, 1] rfl
    exact w_Resolver_resolve_35 a_t a_t_moment a_t_moment_values a_q1 a_q1_values a_q1_flags a_q1_order x2 (0 : Int32) (0 : Int64) (0 : Int32) t_moment_seconds t_moment_parts t_moment_values q1_size q1_values q1_flags (0 : Int32) o S hr hlk hA X _ _ ls he hl hP hD hS
  · have he := ih_f hc he
    refine lv_iconst (v := (1 : Int32)) hx hb d_Resolver_resolve_30 (by decide) ?_
    refine lv_goto (tgt := 35) hx hb d_Resolver_resolve_31 rfl ?_
    have hl : lv_has ls 9 [(0, .ref a_t), (1, .ref a_q1)] := lv_sub hl [0, 1] rfl
    exact w_Resolver_resolve_35 a_t a_t_moment a_t_moment_values a_q1 a_q1_values a_q1_flags a_q1_order x2 (0 : Int32) (0 : Int64) (0 : Int32) t_moment_seconds t_moment_parts t_moment_values q1_size q1_values q1_flags (1 : Int32) o S hr hlk hA X _ _ ls he hl hP hD hS
