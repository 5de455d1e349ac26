abbrev b_TextReader_endOfOffset : ByteArray := prog_12_method_13_code
def y_TextReader_endOfOffset : MethodName := ⟨"SkeletonClock$TextReader", "endOfOffset", "(LSkeletonClock$Row;II)I"⟩
theorem kd_TextReader_endOfOffset : kd_ok y_TextReader_endOfOffset 3 := by decide +kernel
theorem gm_3_197 : Cond.code ({ cls := "SkeletonClock$TextReader", name := "isAlike", desc := "(II)Z" } : MethodName) prog_12_method_5_code (3 : Nat) (Option.some FieldType.boolean) ∈ GW := gw_3 (i := 197) rfl rfl
theorem gm_3_194 : Cond.methodLink "SkeletonClock$TextReader" (89 : Nat) ({ cls := "SkeletonClock$TextReader", name := "isAlike", desc := "(II)Z" } : MethodName) ∈ GW := gw_3 (i := 194) rfl rfl
theorem gm_3_196 : Cond.instanceMethod ({ cls := "SkeletonClock$TextReader", name := "isAlike", desc := "(II)Z" } : MethodName) ∈ GW := gw_3 (i := 196) rfl rfl
theorem gm_p2_0 : Cond.selects "SkeletonClock$TextReader" ⟨"SkeletonClock$TextReader", "isAlike", "(II)Z"⟩ ⟨"SkeletonClock$TextReader", "isAlike", "(II)Z"⟩ ∈ GW := gs_2 (i := 0) rfl
theorem d_TextReader_endOfOffset_0 : decode b_TextReader_endOfOffset 0 = .ok (.aload_n 1, 1) := by decide +kernel
theorem d_TextReader_endOfOffset_1 : decode b_TextReader_endOfOffset 1 = .ok (.aload_n 0, 1) := by decide +kernel
theorem d_TextReader_endOfOffset_2 : decode b_TextReader_endOfOffset 2 = .ok (.getfield 29, 3) := by decide +kernel
theorem d_TextReader_endOfOffset_5 : decode b_TextReader_endOfOffset 5 = .ok (.invokevirtual 86, 3) := by decide +kernel
theorem d_TextReader_endOfOffset_8 : decode b_TextReader_endOfOffset 8 = .ok (.istore 4, 2) := by decide +kernel
theorem d_TextReader_endOfOffset_10 : decode b_TextReader_endOfOffset 10 = .ok (.iload_n 2, 1) := by decide +kernel
theorem d_TextReader_endOfOffset_11 : decode b_TextReader_endOfOffset 11 = .ok (.bipush 13, 2) := by decide +kernel
theorem d_TextReader_endOfOffset_13 : decode b_TextReader_endOfOffset 13 = .ok (.if_icmp .ne 28, 3) := by decide +kernel
theorem d_TextReader_endOfOffset_16 : decode b_TextReader_endOfOffset 16 = .ok (.aload_n 0, 1) := by decide +kernel
theorem d_TextReader_endOfOffset_17 : decode b_TextReader_endOfOffset 17 = .ok (.iload 4, 2) := by decide +kernel
theorem d_TextReader_endOfOffset_19 : decode b_TextReader_endOfOffset 19 = .ok (.bipush 90, 2) := by decide +kernel
theorem d_TextReader_endOfOffset_21 : decode b_TextReader_endOfOffset 21 = .ok (.invokevirtual 89, 3) := by decide +kernel
theorem d_TextReader_endOfOffset_24 : decode b_TextReader_endOfOffset 24 = .ok (.ifCond .eq 17, 3) := by decide +kernel
theorem d_TextReader_endOfOffset_27 : decode b_TextReader_endOfOffset 27 = .ok (.aload_n 0, 1) := by decide +kernel
theorem d_TextReader_endOfOffset_28 : decode b_TextReader_endOfOffset 28 = .ok (.bipush 13, 2) := by decide +kernel
theorem d_TextReader_endOfOffset_30 : decode b_TextReader_endOfOffset 30 = .ok (.iconst 0, 1) := by decide +kernel
theorem d_TextReader_endOfOffset_31 : decode b_TextReader_endOfOffset 31 = .ok (.aload_n 0, 1) := by decide +kernel
theorem d_TextReader_endOfOffset_32 : decode b_TextReader_endOfOffset 32 = .ok (.getfield 29, 3) := by decide +kernel
theorem d_TextReader_endOfOffset_35 : decode b_TextReader_endOfOffset 35 = .ok (.iconst 1, 1) := by decide +kernel
theorem d_TextReader_endOfOffset_36 : decode b_TextReader_endOfOffset 36 = .ok (.iadd, 1) := by decide +kernel
theorem d_TextReader_endOfOffset_37 : decode b_TextReader_endOfOffset 37 = .ok (.invokevirtual 131, 3) := by decide +kernel
theorem d_TextReader_endOfOffset_40 : decode b_TextReader_endOfOffset 40 = .ok (.ireturn, 1) := by decide +kernel
theorem d_TextReader_endOfOffset_41 : decode b_TextReader_endOfOffset 41 = .ok (.iload 4, 2) := by decide +kernel
theorem d_TextReader_endOfOffset_43 : decode b_TextReader_endOfOffset 43 = .ok (.bipush 43, 2) := by decide +kernel
theorem d_TextReader_endOfOffset_45 : decode b_TextReader_endOfOffset 45 = .ok (.if_icmp .eq 10, 3) := by decide +kernel
theorem d_TextReader_endOfOffset_48 : decode b_TextReader_endOfOffset 48 = .ok (.iload 4, 2) := by decide +kernel
theorem d_TextReader_endOfOffset_50 : decode b_TextReader_endOfOffset 50 = .ok (.bipush 45, 2) := by decide +kernel
theorem d_TextReader_endOfOffset_52 : decode b_TextReader_endOfOffset 52 = .ok (.if_icmp .ne 18, 3) := by decide +kernel
theorem d_TextReader_endOfOffset_55 : decode b_TextReader_endOfOffset 55 = .ok (.aload_n 1, 1) := by decide +kernel
theorem d_TextReader_endOfOffset_56 : decode b_TextReader_endOfOffset 56 = .ok (.aload_n 0, 1) := by decide +kernel
theorem d_TextReader_endOfOffset_57 : decode b_TextReader_endOfOffset 57 = .ok (.getfield 29, 3) := by decide +kernel
theorem d_TextReader_endOfOffset_60 : decode b_TextReader_endOfOffset 60 = .ok (.iconst 1, 1) := by decide +kernel
theorem d_TextReader_endOfOffset_61 : decode b_TextReader_endOfOffset 61 = .ok (.iadd, 1) := by decide +kernel
theorem d_TextReader_endOfOffset_62 : decode b_TextReader_endOfOffset 62 = .ok (.iconst 2, 1) := by decide +kernel
theorem d_TextReader_endOfOffset_63 : decode b_TextReader_endOfOffset 63 = .ok (.invokevirtual 139, 3) := by decide +kernel
theorem d_TextReader_endOfOffset_66 : decode b_TextReader_endOfOffset 66 = .ok (.iconst 2, 1) := by decide +kernel
theorem d_TextReader_endOfOffset_67 : decode b_TextReader_endOfOffset 67 = .ok (.if_icmp .ge 5, 3) := by decide +kernel
theorem d_TextReader_endOfOffset_70 : decode b_TextReader_endOfOffset 70 = .ok (.iconst (-1), 1) := by decide +kernel
theorem d_TextReader_endOfOffset_71 : decode b_TextReader_endOfOffset 71 = .ok (.ireturn, 1) := by decide +kernel
theorem d_TextReader_endOfOffset_72 : decode b_TextReader_endOfOffset 72 = .ok (.aload_n 0, 1) := by decide +kernel
theorem d_TextReader_endOfOffset_73 : decode b_TextReader_endOfOffset 73 = .ok (.getfield 29, 3) := by decide +kernel
theorem d_TextReader_endOfOffset_76 : decode b_TextReader_endOfOffset 76 = .ok (.iconst 3, 1) := by decide +kernel
theorem d_TextReader_endOfOffset_77 : decode b_TextReader_endOfOffset 77 = .ok (.iadd, 1) := by decide +kernel
theorem d_TextReader_endOfOffset_78 : decode b_TextReader_endOfOffset 78 = .ok (.istore 5, 2) := by decide +kernel
theorem d_TextReader_endOfOffset_80 : decode b_TextReader_endOfOffset 80 = .ok (.iload_n 3, 1) := by decide +kernel
theorem d_TextReader_endOfOffset_81 : decode b_TextReader_endOfOffset 81 = .ok (.iconst 3, 1) := by decide +kernel
theorem d_TextReader_endOfOffset_82 : decode b_TextReader_endOfOffset 82 = .ok (.if_icmp .ne 19, 3) := by decide +kernel
theorem d_TextReader_endOfOffset_85 : decode b_TextReader_endOfOffset 85 = .ok (.aload_n 1, 1) := by decide +kernel
theorem d_TextReader_endOfOffset_86 : decode b_TextReader_endOfOffset 86 = .ok (.iload 5, 2) := by decide +kernel
theorem d_TextReader_endOfOffset_88 : decode b_TextReader_endOfOffset 88 = .ok (.invokevirtual 86, 3) := by decide +kernel
theorem d_TextReader_endOfOffset_91 : decode b_TextReader_endOfOffset 91 = .ok (.bipush 58, 2) := by decide +kernel
theorem d_TextReader_endOfOffset_93 : decode b_TextReader_endOfOffset 93 = .ok (.if_icmp .eq 5, 3) := by decide +kernel
theorem d_TextReader_endOfOffset_96 : decode b_TextReader_endOfOffset 96 = .ok (.iconst (-1), 1) := by decide +kernel
theorem d_TextReader_endOfOffset_97 : decode b_TextReader_endOfOffset 97 = .ok (.ireturn, 1) := by decide +kernel
theorem d_TextReader_endOfOffset_98 : decode b_TextReader_endOfOffset 98 = .ok (.iinc 5 1, 3) := by decide +kernel
theorem d_TextReader_endOfOffset_101 : decode b_TextReader_endOfOffset 101 = .ok (.iconst 0, 1) := by decide +kernel
theorem d_TextReader_endOfOffset_102 : decode b_TextReader_endOfOffset 102 = .ok (.istore 6, 2) := by decide +kernel
theorem d_TextReader_endOfOffset_104 : decode b_TextReader_endOfOffset 104 = .ok (.aload_n 1, 1) := by decide +kernel
theorem d_TextReader_endOfOffset_105 : decode b_TextReader_endOfOffset 105 = .ok (.iload 5, 2) := by decide +kernel
theorem d_TextReader_endOfOffset_107 : decode b_TextReader_endOfOffset 107 = .ok (.iconst 2, 1) := by decide +kernel
theorem d_TextReader_endOfOffset_108 : decode b_TextReader_endOfOffset 108 = .ok (.invokevirtual 139, 3) := by decide +kernel
theorem d_TextReader_endOfOffset_111 : decode b_TextReader_endOfOffset 111 = .ok (.iconst 2, 1) := by decide +kernel
theorem d_TextReader_endOfOffset_112 : decode b_TextReader_endOfOffset 112 = .ok (.if_icmp .ne 18, 3) := by decide +kernel
theorem d_TextReader_endOfOffset_115 : decode b_TextReader_endOfOffset 115 = .ok (.aload_n 1, 1) := by decide +kernel
theorem d_TextReader_endOfOffset_116 : decode b_TextReader_endOfOffset 116 = .ok (.iload 5, 2) := by decide +kernel
theorem d_TextReader_endOfOffset_118 : decode b_TextReader_endOfOffset 118 = .ok (.iconst 2, 1) := by decide +kernel
theorem d_TextReader_endOfOffset_119 : decode b_TextReader_endOfOffset 119 = .ok (.invokevirtual 142, 3) := by decide +kernel
theorem d_TextReader_endOfOffset_122 : decode b_TextReader_endOfOffset 122 = .ok (.istore 6, 2) := by decide +kernel
theorem d_TextReader_endOfOffset_124 : decode b_TextReader_endOfOffset 124 = .ok (.iinc 5 2, 3) := by decide +kernel
theorem d_TextReader_endOfOffset_127 : decode b_TextReader_endOfOffset 127 = .ok (.goto 10, 3) := by decide +kernel
theorem d_TextReader_endOfOffset_130 : decode b_TextReader_endOfOffset 130 = .ok (.iload_n 3, 1) := by decide +kernel
theorem d_TextReader_endOfOffset_131 : decode b_TextReader_endOfOffset 131 = .ok (.iconst 1, 1) := by decide +kernel
theorem d_TextReader_endOfOffset_132 : decode b_TextReader_endOfOffset 132 = .ok (.if_icmp .eq 5, 3) := by decide +kernel
theorem d_TextReader_endOfOffset_135 : decode b_TextReader_endOfOffset 135 = .ok (.iconst (-1), 1) := by decide +kernel
theorem d_TextReader_endOfOffset_136 : decode b_TextReader_endOfOffset 136 = .ok (.ireturn, 1) := by decide +kernel
theorem d_TextReader_endOfOffset_137 : decode b_TextReader_endOfOffset 137 = .ok (.bipush 60, 2) := by decide +kernel
theorem d_TextReader_endOfOffset_139 : decode b_TextReader_endOfOffset 139 = .ok (.aload_n 1, 1) := by decide +kernel
theorem d_TextReader_endOfOffset_140 : decode b_TextReader_endOfOffset 140 = .ok (.aload_n 0, 1) := by decide +kernel
theorem d_TextReader_endOfOffset_141 : decode b_TextReader_endOfOffset 141 = .ok (.getfield 29, 3) := by decide +kernel
theorem d_TextReader_endOfOffset_144 : decode b_TextReader_endOfOffset 144 = .ok (.iconst 1, 1) := by decide +kernel
theorem d_TextReader_endOfOffset_145 : decode b_TextReader_endOfOffset 145 = .ok (.iadd, 1) := by decide +kernel
theorem d_TextReader_endOfOffset_146 : decode b_TextReader_endOfOffset 146 = .ok (.iconst 2, 1) := by decide +kernel
theorem d_TextReader_endOfOffset_147 : decode b_TextReader_endOfOffset 147 = .ok (.invokevirtual 142, 3) := by decide +kernel
theorem d_TextReader_endOfOffset_150 : decode b_TextReader_endOfOffset 150 = .ok (.imul, 1) := by decide +kernel
theorem d_TextReader_endOfOffset_151 : decode b_TextReader_endOfOffset 151 = .ok (.iload 6, 2) := by decide +kernel
theorem d_TextReader_endOfOffset_153 : decode b_TextReader_endOfOffset 153 = .ok (.iadd, 1) := by decide +kernel
theorem d_TextReader_endOfOffset_154 : decode b_TextReader_endOfOffset 154 = .ok (.istore 7, 2) := by decide +kernel
theorem d_TextReader_endOfOffset_156 : decode b_TextReader_endOfOffset 156 = .ok (.iload 6, 2) := by decide +kernel
theorem d_TextReader_endOfOffset_158 : decode b_TextReader_endOfOffset 158 = .ok (.bipush 59, 2) := by decide +kernel
theorem d_TextReader_endOfOffset_160 : decode b_TextReader_endOfOffset 160 = .ok (.if_icmp .gt 11, 3) := by decide +kernel
theorem d_TextReader_endOfOffset_163 : decode b_TextReader_endOfOffset 163 = .ok (.iload 7, 2) := by decide +kernel
theorem d_TextReader_endOfOffset_165 : decode b_TextReader_endOfOffset 165 = .ok (.sipush 1080, 3) := by decide +kernel
theorem d_TextReader_endOfOffset_168 : decode b_TextReader_endOfOffset 168 = .ok (.if_icmp .le 5, 3) := by decide +kernel
theorem d_TextReader_endOfOffset_171 : decode b_TextReader_endOfOffset 171 = .ok (.iconst (-1), 1) := by decide +kernel
theorem d_TextReader_endOfOffset_172 : decode b_TextReader_endOfOffset 172 = .ok (.ireturn, 1) := by decide +kernel
theorem d_TextReader_endOfOffset_173 : decode b_TextReader_endOfOffset 173 = .ok (.aload_n 0, 1) := by decide +kernel
theorem d_TextReader_endOfOffset_174 : decode b_TextReader_endOfOffset 174 = .ok (.bipush 13, 2) := by decide +kernel
theorem d_TextReader_endOfOffset_176 : decode b_TextReader_endOfOffset 176 = .ok (.iload 4, 2) := by decide +kernel
theorem d_TextReader_endOfOffset_178 : decode b_TextReader_endOfOffset 178 = .ok (.bipush 45, 2) := by decide +kernel
theorem d_TextReader_endOfOffset_180 : decode b_TextReader_endOfOffset 180 = .ok (.if_icmp .ne 9, 3) := by decide +kernel
theorem d_TextReader_endOfOffset_183 : decode b_TextReader_endOfOffset 183 = .ok (.iload 7, 2) := by decide +kernel
theorem d_TextReader_endOfOffset_185 : decode b_TextReader_endOfOffset 185 = .ok (.ineg, 1) := by decide +kernel
theorem d_TextReader_endOfOffset_186 : decode b_TextReader_endOfOffset 186 = .ok (.goto 5, 3) := by decide +kernel
theorem d_TextReader_endOfOffset_189 : decode b_TextReader_endOfOffset 189 = .ok (.iload 7, 2) := by decide +kernel
theorem d_TextReader_endOfOffset_191 : decode b_TextReader_endOfOffset 191 = .ok (.iload 5, 2) := by decide +kernel
theorem d_TextReader_endOfOffset_193 : decode b_TextReader_endOfOffset 193 = .ok (.invokevirtual 131, 3) := by decide +kernel
theorem d_TextReader_endOfOffset_196 : decode b_TextReader_endOfOffset 196 = .ok (.ireturn, 1) := by decide +kernel
def jn_TextReader_endOfOffset_137 (n_q1_cells : Nat) (t_loose : Int32) (t_place : Int32) (t_known_size : Int32) (t_known_values : Nat → Int32) (t_known_flags : Nat → Int32) (t_known_order : Nat → Int32) (q1_size : Int32) (q1_cells : Nat → Int32) (x4 : Int32) (x5 : Int32) (x6 : Int32) : Option (Int32 × Int32 × (Nat → Int32) × (Nat → Int32) × (Nat → Int32)) :=
  ((f_Row_number n_q1_cells q1_size q1_cells (t_place + (1 : Int32)) (2 : Int32)).bind fun u7 => (if (59 : Int32) < x6 then (some ((-1 : Int32), t_known_size, t_known_values, t_known_flags, t_known_order)) else (if (((60 : Int32) * u7) + x6) ≤ (1080 : Int32) then (if x4 = (45 : Int32) then ((f_TextReader_endWith t_known_size t_known_values t_known_flags t_known_order (13 : Int32) (-(((60 : Int32) * u7) + x6)) x5).bind fun u11 => (some (u11.1, u11.2.1, u11.2.2.1, u11.2.2.2.1, u11.2.2.2.2))) else ((f_TextReader_endWith t_known_size t_known_values t_known_flags t_known_order (13 : Int32) (((60 : Int32) * u7) + x6) x5).bind fun u9 => (some (u9.1, u9.2.1, u9.2.2.1, u9.2.2.2.1, u9.2.2.2.2)))) else (some ((-1 : Int32), t_known_size, t_known_values, t_known_flags, t_known_order)))))
def jn_TextReader_endOfOffset_101 (n_q1_cells : Nat) (t_loose : Int32) (t_place : Int32) (t_known_size : Int32) (t_known_values : Nat → Int32) (t_known_flags : Nat → Int32) (t_known_order : Nat → Int32) (q1_size : Int32) (q1_cells : Nat → Int32) (x3 : Int32) (x4 : Int32) (x5 : Int32) : Option (Int32 × Int32 × (Nat → Int32) × (Nat → Int32) × (Nat → Int32)) :=
  ((f_Row_digits n_q1_cells q1_size q1_cells x5 (2 : Int32)).bind fun u5 => (if u5 = (2 : Int32) then ((f_Row_number n_q1_cells q1_size q1_cells x5 (2 : Int32)).bind fun u13 => (jn_TextReader_endOfOffset_137 n_q1_cells t_loose t_place t_known_size t_known_values t_known_flags t_known_order q1_size q1_cells x4 (x5 + (2 : Int32)) u13)) else (if x3 = (1 : Int32) then (jn_TextReader_endOfOffset_137 n_q1_cells t_loose t_place t_known_size t_known_values t_known_flags t_known_order q1_size q1_cells x4 x5 (0 : Int32)) else (some ((-1 : Int32), t_known_size, t_known_values, t_known_flags, t_known_order)))))
def jn_TextReader_endOfOffset_55 (n_q1_cells : Nat) (t_loose : Int32) (t_place : Int32) (t_known_size : Int32) (t_known_values : Nat → Int32) (t_known_flags : Nat → Int32) (t_known_order : Nat → Int32) (q1_size : Int32) (q1_cells : Nat → Int32) (x3 : Int32) (x4 : Int32) : Option (Int32 × Int32 × (Nat → Int32) × (Nat → Int32) × (Nat → Int32)) :=
  ((f_Row_digits n_q1_cells q1_size q1_cells (t_place + (1 : Int32)) (2 : Int32)).bind fun u3 => (if (2 : Int32) ≤ u3 then (if x3 = (3 : Int32) then ((f_Row_codeAt n_q1_cells q1_size q1_cells (t_place + (3 : Int32))).bind fun u15 => (if u15 = (58 : Int32) then (jn_TextReader_endOfOffset_101 n_q1_cells t_loose t_place t_known_size t_known_values t_known_flags t_known_order q1_size q1_cells x3 x4 ((t_place + (3 : Int32)) + (1 : Int32))) else (some ((-1 : Int32), t_known_size, t_known_values, t_known_flags, t_known_order)))) else (jn_TextReader_endOfOffset_101 n_q1_cells t_loose t_place t_known_size t_known_values t_known_flags t_known_order q1_size q1_cells x3 x4 (t_place + (3 : Int32)))) else (some ((-1 : Int32), t_known_size, t_known_values, t_known_flags, t_known_order))))
def jn_TextReader_endOfOffset_41 (n_q1_cells : Nat) (t_loose : Int32) (t_place : Int32) (t_known_size : Int32) (t_known_values : Nat → Int32) (t_known_flags : Nat → Int32) (t_known_order : Nat → Int32) (q1_size : Int32) (q1_cells : Nat → Int32) (x3 : Int32) (x4 : Int32) : Option (Int32 × Int32 × (Nat → Int32) × (Nat → Int32) × (Nat → Int32)) :=
  (if x4 = (43 : Int32) then (jn_TextReader_endOfOffset_55 n_q1_cells t_loose t_place t_known_size t_known_values t_known_flags t_known_order q1_size q1_cells x3 x4) else (if x4 = (45 : Int32) then (jn_TextReader_endOfOffset_55 n_q1_cells t_loose t_place t_known_size t_known_values t_known_flags t_known_order q1_size q1_cells x3 x4) else (some ((-1 : Int32), t_known_size, t_known_values, t_known_flags, t_known_order))))
def f_TextReader_endOfOffset (n_q1_cells : Nat) (t_loose : Int32) (t_place : Int32) (t_known_size : Int32) (t_known_values : Nat → Int32) (t_known_flags : Nat → Int32) (t_known_order : Nat → Int32) (q1_size : Int32) (q1_cells : Nat → Int32) (x2 : Int32) (x3 : Int32) : Option (Int32 × Int32 × (Nat → Int32) × (Nat → Int32) × (Nat → Int32)) :=
  ((f_Row_codeAt n_q1_cells q1_size q1_cells t_place).bind fun u1 => (if x2 = (13 : Int32) then ((f_TextReader_isAlike t_loose u1 (90 : Int32)).bind fun u17 => (if u17 = 0 then (jn_TextReader_endOfOffset_41 n_q1_cells t_loose t_place t_known_size t_known_values t_known_flags t_known_order q1_size q1_cells x3 u1) else ((f_TextReader_endWith t_known_size t_known_values t_known_flags t_known_order (13 : Int32) (0 : Int32) (t_place + (1 : Int32))).bind fun u19 => (some (u19.1, u19.2.1, u19.2.2.1, u19.2.2.2.1, u19.2.2.2.2))))) else (jn_TextReader_endOfOffset_41 n_q1_cells t_loose t_place t_known_size t_known_values t_known_flags t_known_order q1_size q1_cells x3 u1)))
abbrev rm_TextReader_endOfOffset : Room := { frames := 2, cells := 0, slots := 0, locals := 45 }
set_option maxHeartbeats 4000000 in
set_option maxRecDepth 100000 in
theorem w_TextReader_endOfOffset_137 {p : Program} {l : Launch} {e : Env} {s : State} {m : MethodId} {args : Array Value} {below : List Frame} {meth : Method} {c : Code} {A : Nat → Prop} {D : va_G} {kk : Nat → ClassId} {st : Nat → Nat} (a_t a_t_known a_t_known_values a_t_known_flags a_t_known_order a_q1 a_q1_cells a_t_nest : Nat) (n_q1_cells : Nat) (t_loose : Int32) (t_place : Int32) (t_known_size : Int32) (t_known_values : Nat → Int32) (t_known_flags : Nat → Int32) (t_known_order : Nat → Int32) (q1_size : Int32) (q1_cells : Nat → Int32) (x4 : Int32) (x5 : Int32) (x6 : Int32) (o : Int32 × Int32 × (Nat → Int32) × (Nat → Int32) × (Nat → Int32)) (S : CallFix p m c b_TextReader_endOfOffset 8 s args GW y_TextReader_endOfOffset.cls) (hr : meth.sig.returnType = (some .int)) (hlk : meth.locks = false) (hA : ∀ q, s.heap.size ≤ q → A q) (X : KX D kk st A s) (H : Heap) (locs : List Loc) (ls : Array Slot) (he : jn_TextReader_endOfOffset_137 n_q1_cells t_loose t_place t_known_size t_known_values t_known_flags t_known_order q1_size q1_cells x4 x5 x6 = some o) (hl : lv_has ls 8 [(0, .ref a_t), (1, .ref a_q1), (4, .int x4), (5, .int x5), (6, .int x6)]) (hP : va_P D classes [(a_t, .inr (8, [.ref a_t_known, .ref a_t_nest, .int t_loose, .int t_place])), (a_t_known, .inr (7, [.ref a_t_known_values, .ref a_t_known_flags, .ref a_t_known_order, .int t_known_size])), (a_t_known_values, .inl (kk 0, 14, .inl t_known_values)), (a_t_known_flags, .inl (kk 2, 14, .inl t_known_flags)), (a_t_known_order, .inl (kk 0, 14, .inl t_known_order)), (a_q1, .inr (1, [.ref a_q1_cells, .int q1_size])), (a_q1_cells, .inl (kk 1, n_q1_cells, .inl q1_cells))] H) (hD : va_D A [(a_t, .inr (8, [.ref a_t_known, .ref a_t_nest, .int t_loose, .int t_place])), (a_t_known, .inr (7, [.ref a_t_known_values, .ref a_t_known_flags, .ref a_t_known_order, .int t_known_size])), (a_t_known_values, .inl (kk 0, 14, .inl t_known_values)), (a_t_known_flags, .inl (kk 2, 14, .inl t_known_flags)), (a_t_known_order, .inl (kk 0, 14, .inl t_known_order)), (a_q1, .inr (1, [.ref a_q1_cells, .int q1_size])), (a_q1_cells, .inl (kk 1, n_q1_cells, .inl q1_cells))]) (hS : va_S A s.heap H locs) : W p l e rm_TextReader_endOfOffset s m args below meth c H locs 0 0 (MQ below (KQi D kk o.1 [(a_t, .inr (8, [.ref a_t_known, .ref a_t_nest, .int t_loose, .int t_place])), (a_t_known, .inr (7, [.ref a_t_known_values, .ref a_t_known_flags, .ref a_t_known_order, .int o.2.1])), (a_t_known_values, .inl (kk 0, 14, .inl o.2.2.1)), (a_t_known_flags, .inl (kk 2, 14, .inl o.2.2.2.1)), (a_t_known_order, .inl (kk 0, 14, .inl o.2.2.2.2)), (a_q1, .inr (1, [.ref a_q1_cells, .int q1_size])), (a_q1_cells, .inl (kk 1, n_q1_cells, .inl q1_cells))] A) args s 0 0 A) (F0 m 137 ls []) := by
  have hx := S.1
  have hb := S.2.1
  unfold jn_TextReader_endOfOffset_137 at he
  refine lv_bipush (v := (60 : Int32)) hx hb d_TextReader_endOfOffset_137 (by decide) ?_
  refine lv_aload_n hx hb d_TextReader_endOfOffset_139 rfl (lv_at hl 1 rfl) ?_
  refine lv_aload_n hx hb d_TextReader_endOfOffset_140 rfl (lv_at hl 0 rfl) ?_
  refine k_get S X us_TextReader hP 0 rfl rfl 3 (by decide) gm_1_156 rfl d_TextReader_endOfOffset_141 ?_
  refine lv_iconst (v := (1 : Int32)) hx hb d_TextReader_endOfOffset_144 (by decide) ?_
  refine lv_iadd hx hb d_TextReader_endOfOffset_145 ?_
  refine lv_iconst (v := (2 : Int32)) hx hb d_TextReader_endOfOffset_146 (by decide) ?_
  obtain ⟨u7, e8, he⟩ := ih_b he
  refine k_io (r_V (As := [.int (t_place + (1 : Int32)), .int (2 : Int32)]) S X hA hP hD hS (c_Row_number l D kk st a_q1 a_q1_cells _ n_q1_cells q1_size q1_cells (t_place + (1 : Int32)) (2 : Int32) u7 e8) gm_3_234 gm_3_231 gm_3_232 gm_3_233 gm_1_2 ⟨rfl, rfl, by decide, by decide⟩ kd_Row_number [5, 6] rfl rfl rfl 5 1 rfl rfl rfl rfl hl.1 rfl (Nat.le_of_ble_eq_true rfl) d_TextReader_endOfOffset_147 ⟨Nat.zero_le _, Nat.zero_le _⟩) hA hP hD hS [5, 6] rfl (fun H locs hP hS => ?_)
  refine lv_imul hx hb d_TextReader_endOfOffset_150 ?_
  refine lv_iload hx hb d_TextReader_endOfOffset_151 (lv_at hl 4 rfl) ?_
  refine lv_iadd hx hb d_TextReader_endOfOffset_153 ?_
  refine lv_istore hx hb d_TextReader_endOfOffset_154 hl (by decide) rfl (fun ls hl => ?_)
  have hl : lv_has ls 8 [(7, .int (((60 : Int32) * u7) + x6)), (0, .ref a_t), (1, .ref a_q1), (4, .int x4), (5, .int x5), (6, .int x6)] := hl
  refine lv_iload hx hb d_TextReader_endOfOffset_156 (lv_at hl 5 rfl) ?_
  refine lv_bipush (v := (59 : Int32)) hx hb d_TextReader_endOfOffset_158 (by decide) ?_
  refine lv_icmp_gt (tgt := 171) hx hb d_TextReader_endOfOffset_160 rfl (fun hc => ?_) (fun hc => ?_)
  · have he := ih_t hc he
    refine lv_iconst (v := (-1 : Int32)) hx hb d_TextReader_endOfOffset_171 (by decide) ?_
    cases he
    exact k_ire hx hb hr hlk X hP hD hS d_TextReader_endOfOffset_172
  · have he := ih_f hc he
    refine lv_iload hx hb d_TextReader_endOfOffset_163 (lv_at hl 0 rfl) ?_
    refine lv_sipush (v := (1080 : Int32)) hx hb d_TextReader_endOfOffset_165 (by decide) ?_
    refine lv_icmp_le (tgt := 173) hx hb d_TextReader_endOfOffset_168 rfl (fun hc => ?_) (fun hc => ?_)
    · have he := ih_t hc he
      refine lv_aload_n hx hb d_TextReader_endOfOffset_173 rfl (lv_at hl 1 rfl) ?_
      refine lv_bipush (v := (13 : Int32)) hx hb d_TextReader_endOfOffset_174 (by decide) ?_
      refine lv_iload hx hb d_TextReader_endOfOffset_176 (lv_at hl 3 rfl) ?_
      refine lv_bipush (v := (45 : Int32)) hx hb d_TextReader_endOfOffset_178 (by decide) ?_
      refine lv_icmp_ne (tgt := 189) hx hb d_TextReader_endOfOffset_180 rfl (fun hc => ?_) (fun hc => ?_)
      · have he := ih_f hc he
        refine lv_iload hx hb d_TextReader_endOfOffset_189 (lv_at hl 0 rfl) ?_
        refine lv_iload hx hb d_TextReader_endOfOffset_191 (lv_at hl 4 rfl) ?_
        obtain ⟨u9, e10, he⟩ := ih_b he
        refine k_i (wr := [(a_q1, .inr (1, [.ref a_q1_cells, .int q1_size])), (a_q1_cells, .inl (kk 1, n_q1_cells, .inl q1_cells))]) (w1 := [(a_t, .inr (8, [.ref a_t_known, .ref a_t_nest, .int t_loose, .int t_place])), (a_t_known, .inr (7, [.ref a_t_known_values, .ref a_t_known_flags, .ref a_t_known_order, .int u9.2.1])), (a_t_known_values, .inl (kk 0, 14, .inl u9.2.2.1)), (a_t_known_flags, .inl (kk 2, 14, .inl u9.2.2.2.1)), (a_t_known_order, .inl (kk 0, 14, .inl u9.2.2.2.2))]) (w2 := [(a_t, .inr (8, [.ref a_t_known, .ref a_t_nest, .int t_loose, .int t_place])), (a_t_known, .inr (7, [.ref a_t_known_values, .ref a_t_known_flags, .ref a_t_known_order, .int u9.2.1])), (a_t_known_values, .inl (kk 0, 14, .inl u9.2.2.1)), (a_t_known_flags, .inl (kk 2, 14, .inl u9.2.2.2.1)), (a_t_known_order, .inl (kk 0, 14, .inl u9.2.2.2.2)), (a_q1, .inr (1, [.ref a_q1_cells, .int q1_size])), (a_q1_cells, .inl (kk 1, n_q1_cells, .inl q1_cells))]) (r_V (As := [.int (13 : Int32), .int (((60 : Int32) * u7) + x6), .int x5]) S X hA hP hD hS (c_TextReader_endWith l D kk st a_t a_t_known a_t_known_values a_t_known_flags a_t_known_order a_t_nest _ t_loose t_place t_known_size t_known_values t_known_flags t_known_order (13 : Int32) (((60 : Int32) * u7) + x6) x5 u9 e10) gm_3_218 gm_3_215 gm_3_217 gm_p2_3 gm_1_7 ⟨rfl, rfl, by decide, by decide⟩ kd_TextReader_endWith [0, 1, 2, 3, 4] rfl rfl rfl 0 8 rfl rfl rfl rfl hl.1 rfl (Nat.le_of_ble_eq_true rfl) d_TextReader_endOfOffset_193 ⟨Nat.zero_le _, Nat.zero_le _⟩) hA hP hD hS [0, 1, 2, 3, 4] [5, 6] [2, 3, 4, 5, 6, 0, 1] rfl rfl rfl (by decide) rfl rfl rfl (fun H locs hP hD hS => ?_)
        cases he
        exact k_ire hx hb hr hlk X hP hD hS d_TextReader_endOfOffset_196
      · have he := ih_t hc he
        refine lv_iload hx hb d_TextReader_endOfOffset_183 (lv_at hl 0 rfl) ?_
        refine lv_ineg hx hb d_TextReader_endOfOffset_185 ?_
        refine lv_goto (tgt := 191) hx hb d_TextReader_endOfOffset_186 rfl ?_
        refine lv_iload hx hb d_TextReader_endOfOffset_191 (lv_at hl 4 rfl) ?_
        obtain ⟨u11, e12, he⟩ := ih_b he
        refine k_i (wr := [(a_q1, .inr (1, [.ref a_q1_cells, .int q1_size])), (a_q1_cells, .inl (kk 1, n_q1_cells, .inl q1_cells))]) (w1 := [(a_t, .inr (8, [.ref a_t_known, .ref a_t_nest, .int t_loose, .int t_place])), (a_t_known, .inr (7, [.ref a_t_known_values, .ref a_t_known_flags, .ref a_t_known_order, .int u11.2.1])), (a_t_known_values, .inl (kk 0, 14, .inl u11.2.2.1)), (a_t_known_flags, .inl (kk 2, 14, .inl u11.2.2.2.1)), (a_t_known_order, .inl (kk 0, 14, .inl u11.2.2.2.2))]) (w2 := [(a_t, .inr (8, [.ref a_t_known, .ref a_t_nest, .int t_loose, .int t_place])), (a_t_known, .inr (7, [.ref a_t_known_values, .ref a_t_known_flags, .ref a_t_known_order, .int u11.2.1])), (a_t_known_values, .inl (kk 0, 14, .inl u11.2.2.1)), (a_t_known_flags, .inl (kk 2, 14, .inl u11.2.2.2.1)), (a_t_known_order, .inl (kk 0, 14, .inl u11.2.2.2.2)), (a_q1, .inr (1, [.ref a_q1_cells, .int q1_size])), (a_q1_cells, .inl (kk 1, n_q1_cells, .inl q1_cells))]) (r_V (As := [.int (13 : Int32), .int (-(((60 : Int32) * u7) + x6)), .int x5]) S X hA hP hD hS (c_TextReader_endWith l D kk st a_t a_t_known a_t_known_values a_t_known_flags a_t_known_order a_t_nest _ t_loose t_place t_known_size t_known_values t_known_flags t_known_order (13 : Int32) (-(((60 : Int32) * u7) + x6)) x5 u11 e12) gm_3_218 gm_3_215 gm_3_217 gm_p2_3 gm_1_7 ⟨rfl, rfl, by decide, by decide⟩ kd_TextReader_endWith [0, 1, 2, 3, 4] rfl rfl rfl 0 8 rfl rfl rfl rfl hl.1 rfl (Nat.le_of_ble_eq_true rfl) d_TextReader_endOfOffset_193 ⟨Nat.zero_le _, Nat.zero_le _⟩) hA hP hD hS [0, 1, 2, 3, 4] [5, 6] [2, 3, 4, 5, 6, 0, 1] rfl rfl rfl (by decide) rfl rfl rfl (fun H locs hP hD hS => ?_)
        cases he
        exact k_ire hx hb hr hlk X hP hD hS d_TextReader_endOfOffset_196
    · have he := ih_f hc he
      refine lv_iconst (v := (-1 : Int32)) hx hb d_TextReader_endOfOffset_171 (by decide) ?_
      cases he
      exact k_ire hx hb hr hlk X hP hD hS d_TextReader_endOfOffset_172
set_option maxHeartbeats 4000000 in
set_option maxRecDepth 100000 in
theorem w_TextReader_endOfOffset_101 {p : Program} {l : Launch} {e : Env} {s : State} {m : MethodId} {args : Array Value} {below : List Frame} {meth : Method} {c : Code} {A : Nat → Prop} {D : va_G} {kk : Nat → ClassId} {st : Nat → Nat} (a_t a_t_known a_t_known_values a_t_known_flags a_t_known_order a_q1 a_q1_cells a_t_nest : Nat) (n_q1_cells : Nat) (t_loose : Int32) (t_place : Int32) (t_known_size : Int32) (t_known_values : Nat → Int32) (t_known_flags : Nat → Int32) (t_known_order : Nat → Int32) (q1_size : Int32) (q1_cells : Nat → Int32) (x3 : Int32) (x4 : Int32) (x5 : Int32) (o : Int32 × Int32 × (Nat → Int32) × (Nat → Int32) × (Nat → Int32)) (S : CallFix p m c b_TextReader_endOfOffset 8 s args GW y_TextReader_endOfOffset.cls) (hr : meth.sig.returnType = (some .int)) (hlk : meth.locks = false) (hA : ∀ q, s.heap.size ≤ q → A q) (X : KX D kk st A s) (H : Heap) (locs : List Loc) (ls : Array Slot) (he : jn_TextReader_endOfOffset_101 n_q1_cells t_loose t_place t_known_size t_known_values t_known_flags t_known_order q1_size q1_cells x3 x4 x5 = some o) (hl : lv_has ls 8 [(0, .ref a_t), (1, .ref a_q1), (3, .int x3), (4, .int x4), (5, .int x5)]) (hP : va_P D classes [(a_t, .inr (8, [.ref a_t_known, .ref a_t_nest, .int t_loose, .int t_place])), (a_t_known, .inr (7, [.ref a_t_known_values, .ref a_t_known_flags, .ref a_t_known_order, .int t_known_size])), (a_t_known_values, .inl (kk 0, 14, .inl t_known_values)), (a_t_known_flags, .inl (kk 2, 14, .inl t_known_flags)), (a_t_known_order, .inl (kk 0, 14, .inl t_known_order)), (a_q1, .inr (1, [.ref a_q1_cells, .int q1_size])), (a_q1_cells, .inl (kk 1, n_q1_cells, .inl q1_cells))] H) (hD : va_D A [(a_t, .inr (8, [.ref a_t_known, .ref a_t_nest, .int t_loose, .int t_place])), (a_t_known, .inr (7, [.ref a_t_known_values, .ref a_t_known_flags, .ref a_t_known_order, .int t_known_size])), (a_t_known_values, .inl (kk 0, 14, .inl t_known_values)), (a_t_known_flags, .inl (kk 2, 14, .inl t_known_flags)), (a_t_known_order, .inl (kk 0, 14, .inl t_known_order)), (a_q1, .inr (1, [.ref a_q1_cells, .int q1_size])), (a_q1_cells, .inl (kk 1, n_q1_cells, .inl q1_cells))]) (hS : va_S A s.heap H locs) : W p l e rm_TextReader_endOfOffset s m args below meth c H locs 0 0 (MQ below (KQi D kk o.1 [(a_t, .inr (8, [.ref a_t_known, .ref a_t_nest, .int t_loose, .int t_place])), (a_t_known, .inr (7, [.ref a_t_known_values, .ref a_t_known_flags, .ref a_t_known_order, .int o.2.1])), (a_t_known_values, .inl (kk 0, 14, .inl o.2.2.1)), (a_t_known_flags, .inl (kk 2, 14, .inl o.2.2.2.1)), (a_t_known_order, .inl (kk 0, 14, .inl o.2.2.2.2)), (a_q1, .inr (1, [.ref a_q1_cells, .int q1_size])), (a_q1_cells, .inl (kk 1, n_q1_cells, .inl q1_cells))] A) args s 0 0 A) (F0 m 101 ls []) := by
  have hx := S.1
  have hb := S.2.1
  unfold jn_TextReader_endOfOffset_101 at he
  refine lv_iconst (v := (0 : Int32)) hx hb d_TextReader_endOfOffset_101 (by decide) ?_
  refine lv_istore hx hb d_TextReader_endOfOffset_102 hl (by decide) rfl (fun ls hl => ?_)
  have hl : lv_has ls 8 [(6, .int (0 : Int32)), (0, .ref a_t), (1, .ref a_q1), (3, .int x3), (4, .int x4), (5, .int x5)] := hl
  refine lv_aload_n hx hb d_TextReader_endOfOffset_104 rfl (lv_at hl 2 rfl) ?_
  refine lv_iload hx hb d_TextReader_endOfOffset_105 (lv_at hl 5 rfl) ?_
  refine lv_iconst (v := (2 : Int32)) hx hb d_TextReader_endOfOffset_107 (by decide) ?_
  obtain ⟨u5, e6, he⟩ := ih_b he
  refine k_io (r_V (As := [.int x5, .int (2 : Int32)]) S X hA hP hD hS (c_Row_digits l D kk st a_q1 a_q1_cells _ n_q1_cells q1_size q1_cells x5 (2 : Int32) u5 e6) gm_3_230 gm_3_227 gm_3_228 gm_3_229 gm_1_2 ⟨rfl, rfl, by decide, by decide⟩ kd_Row_digits [5, 6] rfl rfl rfl 5 1 rfl rfl rfl rfl hl.1 rfl (Nat.le_of_ble_eq_true rfl) d_TextReader_endOfOffset_108 ⟨Nat.zero_le _, Nat.zero_le _⟩) hA hP hD hS [5, 6] rfl (fun H locs hP hS => ?_)
  refine lv_iconst (v := (2 : Int32)) hx hb d_TextReader_endOfOffset_111 (by decide) ?_
  refine lv_icmp_ne (tgt := 130) hx hb d_TextReader_endOfOffset_112 rfl (fun hc => ?_) (fun hc => ?_)
  · have he := ih_f hc he
    refine lv_iload_n hx hb d_TextReader_endOfOffset_130 rfl (lv_at hl 3 rfl) ?_
    refine lv_iconst (v := (1 : Int32)) hx hb d_TextReader_endOfOffset_131 (by decide) ?_
    refine lv_icmp_eq (tgt := 137) hx hb d_TextReader_endOfOffset_132 rfl (fun hc => ?_) (fun hc => ?_)
    · have he := ih_t hc he
      have hl : lv_has ls 8 [(0, .ref a_t), (1, .ref a_q1), (4, .int x4), (5, .int x5), (6, .int (0 : Int32))] := lv_sub hl [1, 2, 4, 5, 0] rfl
      exact w_TextReader_endOfOffset_137 a_t a_t_known a_t_known_values a_t_known_flags a_t_known_order a_q1 a_q1_cells a_t_nest n_q1_cells t_loose t_place t_known_size t_known_values t_known_flags t_known_order q1_size q1_cells x4 x5 (0 : Int32) o S hr hlk hA X _ _ ls he hl hP hD hS
    · have he := ih_f hc he
      refine lv_iconst (v := (-1 : Int32)) hx hb d_TextReader_endOfOffset_135 (by decide) ?_
      cases he
      exact k_ire hx hb hr hlk X hP hD hS d_TextReader_endOfOffset_136
  · have he := ih_t hc he
    refine lv_aload_n hx hb d_TextReader_endOfOffset_115 rfl (lv_at hl 2 rfl) ?_
    refine lv_iload hx hb d_TextReader_endOfOffset_116 (lv_at hl 5 rfl) ?_
    refine lv_iconst (v := (2 : Int32)) hx hb d_TextReader_endOfOffset_118 (by decide) ?_
    obtain ⟨u13, e14, he⟩ := ih_b he
    refine k_io (r_V (As := [.int x5, .int (2 : Int32)]) S X hA hP hD hS (c_Row_number l D kk st a_q1 a_q1_cells _ n_q1_cells q1_size q1_cells x5 (2 : Int32) u13 e14) gm_3_234 gm_3_231 gm_3_232 gm_3_233 gm_1_2 ⟨rfl, rfl, by decide, by decide⟩ kd_Row_number [5, 6] rfl rfl rfl 5 1 rfl rfl rfl rfl hl.1 rfl (Nat.le_of_ble_eq_true rfl) d_TextReader_endOfOffset_119 ⟨Nat.zero_le _, Nat.zero_le _⟩) hA hP hD hS [5, 6] rfl (fun H locs hP hS => ?_)
    refine lv_istore hx hb d_TextReader_endOfOffset_122 hl (by decide) rfl (fun ls hl => ?_)
    have hl : lv_has ls 8 [(6, .int u13), (0, .ref a_t), (1, .ref a_q1), (3, .int x3), (4, .int x4), (5, .int x5)] := hl
    refine lv_iinc (k := 5) hx hb d_TextReader_endOfOffset_124 hl rfl (ii_ (v := (2 : Int32)) (by decide)) (by decide) rfl (fun ls hl => ?_)
    have hl : lv_has ls 8 [(5, .int (x5 + (2 : Int32))), (6, .int u13), (0, .ref a_t), (1, .ref a_q1), (3, .int x3), (4, .int x4)] := hl
    refine lv_goto (tgt := 137) hx hb d_TextReader_endOfOffset_127 rfl ?_
    have hl : lv_has ls 8 [(0, .ref a_t), (1, .ref a_q1), (4, .int x4), (5, .int (x5 + (2 : Int32))), (6, .int u13)] := lv_sub hl [2, 3, 5, 0, 1] rfl
    exact w_TextReader_endOfOffset_137 a_t a_t_known a_t_known_values a_t_known_flags a_t_known_order a_q1 a_q1_cells a_t_nest n_q1_cells t_loose t_place t_known_size t_known_values t_known_flags t_known_order q1_size q1_cells x4 (x5 + (2 : Int32)) u13 o S hr hlk hA X _ _ ls he hl hP hD hS
set_option maxHeartbeats 4000000 in
set_option maxRecDepth 100000 in
theorem w_TextReader_endOfOffset_55 {p : Program} {l : Launch} {e : Env} {s : State} {m : MethodId} {args : Array Value} {below : List Frame} {meth : Method} {c : Code} {A : Nat → Prop} {D : va_G} {kk : Nat → ClassId} {st : Nat → Nat} (a_t a_t_known a_t_known_values a_t_known_flags a_t_known_order a_q1 a_q1_cells a_t_nest : Nat) (n_q1_cells : Nat) (t_loose : Int32) (t_place : Int32) (t_known_size : Int32) (t_known_values : Nat → Int32) (t_known_flags : Nat → Int32) (t_known_order : Nat → Int32) (q1_size : Int32) (q1_cells : Nat → Int32) (x3 : Int32) (x4 : Int32) (o : Int32 × Int32 × (Nat → Int32) × (Nat → Int32) × (Nat → Int32)) (S : CallFix p m c b_TextReader_endOfOffset 8 s args GW y_TextReader_endOfOffset.cls) (hr : meth.sig.returnType = (some .int)) (hlk : meth.locks = false) (hA : ∀ q, s.heap.size ≤ q → A q) (X : KX D kk st A s) (H : Heap) (locs : List Loc) (ls : Array Slot) (he : jn_TextReader_endOfOffset_55 n_q1_cells t_loose t_place t_known_size t_known_values t_known_flags t_known_order q1_size q1_cells x3 x4 = some o) (hl : lv_has ls 8 [(0, .ref a_t), (1, .ref a_q1), (3, .int x3), (4, .int x4)]) (hP : va_P D classes [(a_t, .inr (8, [.ref a_t_known, .ref a_t_nest, .int t_loose, .int t_place])), (a_t_known, .inr (7, [.ref a_t_known_values, .ref a_t_known_flags, .ref a_t_known_order, .int t_known_size])), (a_t_known_values, .inl (kk 0, 14, .inl t_known_values)), (a_t_known_flags, .inl (kk 2, 14, .inl t_known_flags)), (a_t_known_order, .inl (kk 0, 14, .inl t_known_order)), (a_q1, .inr (1, [.ref a_q1_cells, .int q1_size])), (a_q1_cells, .inl (kk 1, n_q1_cells, .inl q1_cells))] H) (hD : va_D A [(a_t, .inr (8, [.ref a_t_known, .ref a_t_nest, .int t_loose, .int t_place])), (a_t_known, .inr (7, [.ref a_t_known_values, .ref a_t_known_flags, .ref a_t_known_order, .int t_known_size])), (a_t_known_values, .inl (kk 0, 14, .inl t_known_values)), (a_t_known_flags, .inl (kk 2, 14, .inl t_known_flags)), (a_t_known_order, .inl (kk 0, 14, .inl t_known_order)), (a_q1, .inr (1, [.ref a_q1_cells, .int q1_size])), (a_q1_cells, .inl (kk 1, n_q1_cells, .inl q1_cells))]) (hS : va_S A s.heap H locs) : W p l e rm_TextReader_endOfOffset s m args below meth c H locs 0 0 (MQ below (KQi D kk o.1 [(a_t, .inr (8, [.ref a_t_known, .ref a_t_nest, .int t_loose, .int t_place])), (a_t_known, .inr (7, [.ref a_t_known_values, .ref a_t_known_flags, .ref a_t_known_order, .int o.2.1])), (a_t_known_values, .inl (kk 0, 14, .inl o.2.2.1)), (a_t_known_flags, .inl (kk 2, 14, .inl o.2.2.2.1)), (a_t_known_order, .inl (kk 0, 14, .inl o.2.2.2.2)), (a_q1, .inr (1, [.ref a_q1_cells, .int q1_size])), (a_q1_cells, .inl (kk 1, n_q1_cells, .inl q1_cells))] A) args s 0 0 A) (F0 m 55 ls []) := by
  have hx := S.1
  have hb := S.2.1
  unfold jn_TextReader_endOfOffset_55 at he
  refine lv_aload_n hx hb d_TextReader_endOfOffset_55 rfl (lv_at hl 1 rfl) ?_
  refine lv_aload_n hx hb d_TextReader_endOfOffset_56 rfl (lv_at hl 0 rfl) ?_
  refine k_get S X us_TextReader hP 0 rfl rfl 3 (by decide) gm_1_156 rfl d_TextReader_endOfOffset_57 ?_
  refine lv_iconst (v := (1 : Int32)) hx hb d_TextReader_endOfOffset_60 (by decide) ?_
  refine lv_iadd hx hb d_TextReader_endOfOffset_61 ?_
  refine lv_iconst (v := (2 : Int32)) hx hb d_TextReader_endOfOffset_62 (by decide) ?_
  obtain ⟨u3, e4, he⟩ := ih_b he
  refine k_io (r_V (As := [.int (t_place + (1 : Int32)), .int (2 : Int32)]) S X hA hP hD hS (c_Row_digits l D kk st a_q1 a_q1_cells _ n_q1_cells q1_size q1_cells (t_place + (1 : Int32)) (2 : Int32) u3 e4) gm_3_230 gm_3_227 gm_3_228 gm_3_229 gm_1_2 ⟨rfl, rfl, by decide, by decide⟩ kd_Row_digits [5, 6] rfl rfl rfl 5 1 rfl rfl rfl rfl hl.1 rfl (Nat.le_of_ble_eq_true rfl) d_TextReader_endOfOffset_63 ⟨Nat.zero_le _, Nat.zero_le _⟩) hA hP hD hS [5, 6] rfl (fun H locs hP hS => ?_)
  refine lv_iconst (v := (2 : Int32)) hx hb d_TextReader_endOfOffset_66 (by decide) ?_
  refine lv_icmp_ge (tgt := 72) hx hb d_TextReader_endOfOffset_67 rfl (fun hc => ?_) (fun hc => ?_)
  · have he := ih_t hc he
    refine lv_aload_n hx hb d_TextReader_endOfOffset_72 rfl (lv_at hl 0 rfl) ?_
    refine k_get S X us_TextReader hP 0 rfl rfl 3 (by decide) gm_1_156 rfl d_TextReader_endOfOffset_73 ?_
    refine lv_iconst (v := (3 : Int32)) hx hb d_TextReader_endOfOffset_76 (by decide) ?_
    refine lv_iadd hx hb d_TextReader_endOfOffset_77 ?_
    refine lv_istore hx hb d_TextReader_endOfOffset_78 hl (by decide) rfl (fun ls hl => ?_)
    have hl : lv_has ls 8 [(5, .int (t_place + (3 : Int32))), (0, .ref a_t), (1, .ref a_q1), (3, .int x3), (4, .int x4)] := hl
    refine lv_iload_n hx hb d_TextReader_endOfOffset_80 rfl (lv_at hl 3 rfl) ?_
    refine lv_iconst (v := (3 : Int32)) hx hb d_TextReader_endOfOffset_81 (by decide) ?_
    refine lv_icmp_ne (tgt := 101) hx hb d_TextReader_endOfOffset_82 rfl (fun hc => ?_) (fun hc => ?_)
    · have he := ih_f hc he
      have hl : lv_has ls 8 [(0, .ref a_t), (1, .ref a_q1), (3, .int x3), (4, .int x4), (5, .int (t_place + (3 : Int32)))] := lv_sub hl [1, 2, 3, 4, 0] rfl
      exact w_TextReader_endOfOffset_101 a_t a_t_known a_t_known_values a_t_known_flags a_t_known_order a_q1 a_q1_cells a_t_nest n_q1_cells t_loose t_place t_known_size t_known_values t_known_flags t_known_order q1_size q1_cells x3 x4 (t_place + (3 : Int32)) o S hr hlk hA X _ _ ls he hl hP hD hS
    · have he := ih_t hc he
      refine lv_aload_n hx hb d_TextReader_endOfOffset_85 rfl (lv_at hl 2 rfl) ?_
      refine lv_iload hx hb d_TextReader_endOfOffset_86 (lv_at hl 0 rfl) ?_
      obtain ⟨u15, e16, he⟩ := ih_b he
      refine k_io (r_V (As := [.int (t_place + (3 : Int32))]) S X hA hP hD hS (c_Row_codeAt l D kk st a_q1 a_q1_cells _ n_q1_cells q1_size q1_cells (t_place + (3 : Int32)) u15 e16) gm_2_76 gm_3_193 gm_2_74 gm_2_75 gm_1_2 ⟨rfl, rfl, by decide, by decide⟩ kd_Row_codeAt [5, 6] rfl rfl rfl 5 1 rfl rfl rfl rfl hl.1 rfl (Nat.le_of_ble_eq_true rfl) d_TextReader_endOfOffset_88 ⟨Nat.zero_le _, Nat.zero_le _⟩) hA hP hD hS [5, 6] rfl (fun H locs hP hS => ?_)
      refine lv_bipush (v := (58 : Int32)) hx hb d_TextReader_endOfOffset_91 (by decide) ?_
      refine lv_icmp_eq (tgt := 98) hx hb d_TextReader_endOfOffset_93 rfl (fun hc => ?_) (fun hc => ?_)
      · have he := ih_t hc he
        refine lv_iinc (k := 0) hx hb d_TextReader_endOfOffset_98 hl rfl (ii_ (v := (1 : Int32)) (by decide)) (by decide) rfl (fun ls hl => ?_)
        have hl : lv_has ls 8 [(5, .int ((t_place + (3 : Int32)) + (1 : Int32))), (0, .ref a_t), (1, .ref a_q1), (3, .int x3), (4, .int x4)] := hl
        have hl : lv_has ls 8 [(0, .ref a_t), (1, .ref a_q1), (3, .int x3), (4, .int x4), (5, .int ((t_place + (3 : Int32)) + (1 : Int32)))] := lv_sub hl [1, 2, 3, 4, 0] rfl
        exact w_TextReader_endOfOffset_101 a_t a_t_known a_t_known_values a_t_known_flags a_t_known_order a_q1 a_q1_cells a_t_nest n_q1_cells t_loose t_place t_known_size t_known_values t_known_flags t_known_order q1_size q1_cells x3 x4 ((t_place + (3 : Int32)) + (1 : Int32)) o S hr hlk hA X _ _ ls he hl hP hD hS
      · have he := ih_f hc he
        refine lv_iconst (v := (-1 : Int32)) hx hb d_TextReader_endOfOffset_96 (by decide) ?_
        cases he
        exact k_ire hx hb hr hlk X hP hD hS d_TextReader_endOfOffset_97
  · have he := ih_f hc he
    refine lv_iconst (v := (-1 : Int32)) hx hb d_TextReader_endOfOffset_70 (by decide) ?_
    cases he
    exact k_ire hx hb hr hlk X hP hD hS d_TextReader_endOfOffset_71
set_option maxHeartbeats 4000000 in
set_option maxRecDepth 100000 in
theorem w_TextReader_endOfOffset_41 {p : Program} {l : Launch} {e : Env} {s : State} {m : MethodId} {args : Array Value} {below : List Frame} {meth : Method} {c : Code} {A : Nat → Prop} {D : va_G} {kk : Nat → ClassId} {st : Nat → Nat} (a_t a_t_known a_t_known_values a_t_known_flags a_t_known_order a_q1 a_q1_cells a_t_nest : Nat) (n_q1_cells : Nat) (t_loose : Int32) (t_place : Int32) (t_known_size : Int32) (t_known_values : Nat → Int32) (t_known_flags : Nat → Int32) (t_known_order : Nat → Int32) (q1_size : Int32) (q1_cells : Nat → Int32) (x3 : Int32) (x4 : Int32) (o : Int32 × Int32 × (Nat → Int32) × (Nat → Int32) × (Nat → Int32)) (S : CallFix p m c b_TextReader_endOfOffset 8 s args GW y_TextReader_endOfOffset.cls) (hr : meth.sig.returnType = (some .int)) (hlk : meth.locks = false) (hA : ∀ q, s.heap.size ≤ q → A q) (X : KX D kk st A s) (H : Heap) (locs : List Loc) (ls : Array Slot) (he : jn_TextReader_endOfOffset_41 n_q1_cells t_loose t_place t_known_size t_known_values t_known_flags t_known_order q1_size q1_cells x3 x4 = some o) (hl : lv_has ls 8 [(0, .ref a_t), (1, .ref a_q1), (3, .int x3), (4, .int x4)]) (hP : va_P D classes [(a_t, .inr (8, [.ref a_t_known, .ref a_t_nest, .int t_loose, .int t_place])), (a_t_known, .inr (7, [.ref a_t_known_values, .ref a_t_known_flags, .ref a_t_known_order, .int t_known_size])), (a_t_known_values, .inl (kk 0, 14, .inl t_known_values)), (a_t_known_flags, .inl (kk 2, 14, .inl t_known_flags)), (a_t_known_order, .inl (kk 0, 14, .inl t_known_order)), (a_q1, .inr (1, [.ref a_q1_cells, .int q1_size])), (a_q1_cells, .inl (kk 1, n_q1_cells, .inl q1_cells))] H) (hD : va_D A [(a_t, .inr (8, [.ref a_t_known, .ref a_t_nest, .int t_loose, .int t_place])), (a_t_known, .inr (7, [.ref a_t_known_values, .ref a_t_known_flags, .ref a_t_known_order, .int t_known_size])), (a_t_known_values, .inl (kk 0, 14, .inl t_known_values)), (a_t_known_flags, .inl (kk 2, 14, .inl t_known_flags)), (a_t_known_order, .inl (kk 0, 14, .inl t_known_order)), (a_q1, .inr (1, [.ref a_q1_cells, .int q1_size])), (a_q1_cells, .inl (kk 1, n_q1_cells, .inl q1_cells))]) (hS : va_S A s.heap H locs) : W p l e rm_TextReader_endOfOffset s m args below meth c H locs 0 0 (MQ below (KQi D kk o.1 [(a_t, .inr (8, [.ref a_t_known, .ref a_t_nest, .int t_loose, .int t_place])), (a_t_known, .inr (7, [.ref a_t_known_values, .ref a_t_known_flags, .ref a_t_known_order, .int o.2.1])), (a_t_known_values, .inl (kk 0, 14, .inl o.2.2.1)), (a_t_known_flags, .inl (kk 2, 14, .inl o.2.2.2.1)), (a_t_known_order, .inl (kk 0, 14, .inl o.2.2.2.2)), (a_q1, .inr (1, [.ref a_q1_cells, .int q1_size])), (a_q1_cells, .inl (kk 1, n_q1_cells, .inl q1_cells))] A) args s 0 0 A) (F0 m 41 ls []) := by
  have hx := S.1
  have hb := S.2.1
  unfold jn_TextReader_endOfOffset_41 at he
  refine lv_iload hx hb d_TextReader_endOfOffset_41 (lv_at hl 3 rfl) ?_
  refine lv_bipush (v := (43 : Int32)) hx hb d_TextReader_endOfOffset_43 (by decide) ?_
  refine lv_icmp_eq (tgt := 55) hx hb d_TextReader_endOfOffset_45 rfl (fun hc => ?_) (fun hc => ?_)
  · have he := ih_t hc he
    have hl : lv_has ls 8 [(0, .ref a_t), (1, .ref a_q1), (3, .int x3), (4, .int x4)] := lv_sub hl [0, 1, 2, 3] rfl
    exact w_TextReader_endOfOffset_55 a_t a_t_known a_t_known_values a_t_known_flags a_t_known_order a_q1 a_q1_cells a_t_nest n_q1_cells t_loose t_place t_known_size t_known_values t_known_flags t_known_order q1_size q1_cells x3 x4 o S hr hlk hA X _ _ ls he hl hP hD hS
  · have he := ih_f hc he
    refine lv_iload hx hb d_TextReader_endOfOffset_48 (lv_at hl 3 rfl) ?_
    refine lv_bipush (v := (45 : Int32)) hx hb d_TextReader_endOfOffset_50 (by decide) ?_
    refine lv_icmp_ne (tgt := 70) hx hb d_TextReader_endOfOffset_52 rfl (fun hc => ?_) (fun hc => ?_)
    · have he := ih_f hc he
      refine lv_iconst (v := (-1 : Int32)) hx hb d_TextReader_endOfOffset_70 (by decide) ?_
      cases he
      exact k_ire hx hb hr hlk X hP hD hS d_TextReader_endOfOffset_71
    · have he := ih_t hc he
      have hl : lv_has ls 8 [(0, .ref a_t), (1, .ref a_q1), (3, .int x3), (4, .int x4)] := lv_sub hl [0, 1, 2, 3] rfl
      exact w_TextReader_endOfOffset_55 a_t a_t_known a_t_known_values a_t_known_flags a_t_known_order a_q1 a_q1_cells a_t_nest n_q1_cells t_loose t_place t_known_size t_known_values t_known_flags t_known_order q1_size q1_cells x3 x4 o S hr hlk hA X _ _ ls he hl hP hD hS
set_option maxHeartbeats 4000000 in
set_option maxRecDepth 100000 in
theorem c_TextReader_endOfOffset (l : Launch) (D : va_G) (kk : Nat → ClassId) (st : Nat → Nat) (a_t a_t_known a_t_known_values a_t_known_flags a_t_known_order a_q1 a_q1_cells a_t_nest : Nat) (sz : Nat) (n_q1_cells : Nat) (t_loose : Int32) (t_place : Int32) (t_known_size : Int32) (t_known_values : Nat → Int32) (t_known_flags : Nat → Int32) (t_known_order : Nat → Int32) (q1_size : Int32) (q1_cells : Nat → Int32) (x2 : Int32) (x3 : Int32) (o : Int32 × Int32 × (Nat → Int32) × (Nat → Int32) × (Nat → Int32)) (he : f_TextReader_endOfOffset n_q1_cells t_loose t_place t_known_size t_known_values t_known_flags t_known_order q1_size q1_cells x2 x3 = some o) : Met l y_TextReader_endOfOffset (Cond.code y_TextReader_endOfOffset b_TextReader_endOfOffset 8 (some .int) :: GW) rm_TextReader_endOfOffset (KPc D kk st [.ref a_t, .ref a_q1, .int x2, .int x3] [(a_t, .inr (8, [.ref a_t_known, .ref a_t_nest, .int t_loose, .int t_place])), (a_t_known, .inr (7, [.ref a_t_known_values, .ref a_t_known_flags, .ref a_t_known_order, .int t_known_size])), (a_t_known_values, .inl (kk 0, 14, .inl t_known_values)), (a_t_known_flags, .inl (kk 2, 14, .inl t_known_flags)), (a_t_known_order, .inl (kk 0, 14, .inl t_known_order)), (a_q1, .inr (1, [.ref a_q1_cells, .int q1_size])), (a_q1_cells, .inl (kk 1, n_q1_cells, .inl q1_cells))] sz) (KQi D kk o.1 [(a_t, .inr (8, [.ref a_t_known, .ref a_t_nest, .int t_loose, .int t_place])), (a_t_known, .inr (7, [.ref a_t_known_values, .ref a_t_known_flags, .ref a_t_known_order, .int o.2.1])), (a_t_known_values, .inl (kk 0, 14, .inl o.2.2.1)), (a_t_known_flags, .inl (kk 2, 14, .inl o.2.2.2.1)), (a_t_known_order, .inl (kk 0, 14, .inl o.2.2.2.2)), (a_q1, .inr (1, [.ref a_q1_cells, .int q1_size])), (a_q1_cells, .inl (kk 1, n_q1_cells, .inl q1_cells))] (va_A [(a_t, .inr (8, [.ref a_t_known, .ref a_t_nest, .int t_loose, .int t_place])), (a_t_known, .inr (7, [.ref a_t_known_values, .ref a_t_known_flags, .ref a_t_known_order, .int t_known_size])), (a_t_known_values, .inl (kk 0, 14, .inl t_known_values)), (a_t_known_flags, .inl (kk 2, 14, .inl t_known_flags)), (a_t_known_order, .inl (kk 0, 14, .inl t_known_order)), (a_q1, .inr (1, [.ref a_q1_cells, .int q1_size])), (a_q1_cells, .inl (kk 1, n_q1_cells, .inl q1_cells))] sz)) 0 0 (va_A [(a_t, .inr (8, [.ref a_t_known, .ref a_t_nest, .int t_loose, .int t_place])), (a_t_known, .inr (7, [.ref a_t_known_values, .ref a_t_known_flags, .ref a_t_known_order, .int t_known_size])), (a_t_known_values, .inl (kk 0, 14, .inl t_known_values)), (a_t_known_flags, .inl (kk 2, 14, .inl t_known_flags)), (a_t_known_order, .inl (kk 0, 14, .inl t_known_order)), (a_q1, .inr (1, [.ref a_q1_cells, .int q1_size])), (a_q1_cells, .inl (kk 1, n_q1_cells, .inl q1_cells))] sz) := by
  refine k_start (Qc := fun A => KQi D kk o.1 [(a_t, .inr (8, [.ref a_t_known, .ref a_t_nest, .int t_loose, .int t_place])), (a_t_known, .inr (7, [.ref a_t_known_values, .ref a_t_known_flags, .ref a_t_known_order, .int o.2.1])), (a_t_known_values, .inl (kk 0, 14, .inl o.2.2.1)), (a_t_known_flags, .inl (kk 2, 14, .inl o.2.2.2.1)), (a_t_known_order, .inl (kk 0, 14, .inl o.2.2.2.2)), (a_q1, .inr (1, [.ref a_q1_cells, .int q1_size])), (a_q1_cells, .inl (kk 1, n_q1_cells, .inl q1_cells))] A) (by decide) (Nat.le_of_ble_eq_true rfl) ?_
  intro p e s m below meth c A ls S hnm hr hlk hA X hP hD hS hl
  have hl : lv_has ls 8 [(0, .ref a_t), (1, .ref a_q1), (2, .int x2), (3, .int x3)] := hl
  have hx := S.1
  have hb := S.2.1
  unfold f_TextReader_endOfOffset at he
  refine lv_aload_n hx hb d_TextReader_endOfOffset_0 rfl (lv_at hl 1 rfl) ?_
  refine lv_aload_n hx hb d_TextReader_endOfOffset_1 rfl (lv_at hl 0 rfl) ?_
  refine k_get S X us_TextReader hP 0 rfl rfl 3 (by decide) gm_1_156 rfl d_TextReader_endOfOffset_2 ?_
  obtain ⟨u1, e2, he⟩ := ih_b he
  refine k_io (r_V (As := [.int t_place]) S X hA hP hD hS (c_Row_codeAt l D kk st a_q1 a_q1_cells _ n_q1_cells q1_size q1_cells t_place u1 e2) gm_2_76 gm_3_193 gm_2_74 gm_2_75 gm_1_2 ⟨rfl, rfl, by decide, by decide⟩ kd_Row_codeAt [5, 6] rfl rfl rfl 5 1 rfl rfl rfl rfl hl.1 rfl (Nat.le_of_ble_eq_true rfl) d_TextReader_endOfOffset_5 ⟨Nat.zero_le _, Nat.zero_le _⟩) hA hP hD hS [5, 6] rfl (fun H locs hP hS => ?_)
  refine lv_istore hx hb d_TextReader_endOfOffset_8 hl (by decide) rfl (fun ls hl => ?_)
  have hl : lv_has ls 8 [(4, .int u1), (0, .ref a_t), (1, .ref a_q1), (2, .int x2), (3, .int x3)] := hl
  refine lv_iload_n hx hb d_TextReader_endOfOffset_10 rfl (lv_at hl 3 rfl) ?_
  refine lv_bipush (v := (13 : Int32)) hx hb d_TextReader_endOfOffset_11 (by decide) ?_
  refine lv_icmp_ne (tgt := 41) hx hb d_TextReader_endOfOffset_13 rfl (fun hc => ?_) (fun hc => ?_)
  · have he := ih_f hc he
    have hl : lv_has ls 8 [(0, .ref a_t), (1, .ref a_q1), (3, .int x3), (4, .int u1)] := lv_sub hl [1, 2, 4, 0] rfl
    exact w_TextReader_endOfOffset_41 a_t a_t_known a_t_known_values a_t_known_flags a_t_known_order a_q1 a_q1_cells a_t_nest n_q1_cells t_loose t_place t_known_size t_known_values t_known_flags t_known_order q1_size q1_cells x3 u1 o S hr hlk hA X _ _ ls he hl hP hD hS
  · have he := ih_t hc he
    refine lv_aload_n hx hb d_TextReader_endOfOffset_16 rfl (lv_at hl 1 rfl) ?_
    refine lv_iload hx hb d_TextReader_endOfOffset_17 (lv_at hl 0 rfl) ?_
    refine lv_bipush (v := (90 : Int32)) hx hb d_TextReader_endOfOffset_19 (by decide) ?_
    obtain ⟨u17, e18, he⟩ := ih_b he
    refine k_io (r_V (As := [.int u1, .int (90 : Int32)]) S X hA hP hD hS (c_TextReader_isAlike l D kk st a_t a_t_known a_t_nest _ t_loose t_place u1 (90 : Int32) u17 e18) gm_3_197 gm_3_194 gm_3_196 gm_p2_0 gm_1_7 ⟨rfl, rfl, by decide, by decide⟩ kd_TextReader_isAlike [0] rfl rfl rfl 0 8 rfl rfl rfl rfl hl.1 rfl (Nat.le_of_ble_eq_true rfl) d_TextReader_endOfOffset_21 ⟨Nat.zero_le _, Nat.zero_le _⟩) hA hP hD hS [0] rfl (fun H locs hP hS => ?_)
    refine lv_if_eq (tgt := 41) hx hb d_TextReader_endOfOffset_24 rfl (fun hc => ?_) (fun hc => ?_)
    · have he := ih_t hc he
      have hl : lv_has ls 8 [(0, .ref a_t), (1, .ref a_q1), (3, .int x3), (4, .int u1)] := lv_sub hl [1, 2, 4, 0] rfl
      exact w_TextReader_endOfOffset_41 a_t a_t_known a_t_known_values a_t_known_flags a_t_known_order a_q1 a_q1_cells a_t_nest n_q1_cells t_loose t_place t_known_size t_known_values t_known_flags t_known_order q1_size q1_cells x3 u1 o S hr hlk hA X _ _ ls he hl hP hD hS
    · have he := ih_f hc he
      refine lv_aload_n hx hb d_TextReader_endOfOffset_27 rfl (lv_at hl 1 rfl) ?_
      refine lv_bipush (v := (13 : Int32)) hx hb d_TextReader_endOfOffset_28 (by decide) ?_
      refine lv_iconst (v := (0 : Int32)) hx hb d_TextReader_endOfOffset_30 (by decide) ?_
      refine lv_aload_n hx hb d_TextReader_endOfOffset_31 rfl (lv_at hl 1 rfl) ?_
      refine k_get S X us_TextReader hP 0 rfl rfl 3 (by decide) gm_1_156 rfl d_TextReader_endOfOffset_32 ?_
      refine lv_iconst (v := (1 : Int32)) hx hb d_TextReader_endOfOffset_35 (by decide) ?_
      refine lv_iadd hx hb d_TextReader_endOfOffset_36 ?_
      obtain ⟨u19, e20, he⟩ := ih_b he
      refine k_i (wr := [(a_q1, .inr (1, [.ref a_q1_cells, .int q1_size])), (a_q1_cells, .inl (kk 1, n_q1_cells, .inl q1_cells))]) (w1 := [(a_t, .inr (8, [.ref a_t_known, .ref a_t_nest, .int t_loose, .int t_place])), (a_t_known, .inr (7, [.ref a_t_known_values, .ref a_t_known_flags, .ref a_t_known_order, .int u19.2.1])), (a_t_known_values, .inl (kk 0, 14, .inl u19.2.2.1)), (a_t_known_flags, .inl (kk 2, 14, .inl u19.2.2.2.1)), (a_t_known_order, .inl (kk 0, 14, .inl u19.2.2.2.2))]) (w2 := [(a_t, .inr (8, [.ref a_t_known, .ref a_t_nest, .int t_loose, .int t_place])), (a_t_known, .inr (7, [.ref a_t_known_values, .ref a_t_known_flags, .ref a_t_known_order, .int u19.2.1])), (a_t_known_values, .inl (kk 0, 14, .inl u19.2.2.1)), (a_t_known_flags, .inl (kk 2, 14, .inl u19.2.2.2.1)), (a_t_known_order, .inl (kk 0, 14, .inl u19.2.2.2.2)), (a_q1, .inr (1, [.ref a_q1_cells, .int q1_size])), (a_q1_cells, .inl (kk 1, n_q1_cells, .inl q1_cells))]) (r_V (As := [.int (13 : Int32), .int (0 : Int32), .int (t_place + (1 : Int32))]) S X hA hP hD hS (c_TextReader_endWith l D kk st a_t a_t_known a_t_known_values a_t_known_flags a_t_known_order a_t_nest _ t_loose t_place t_known_size t_known_values t_known_flags t_known_order (13 : Int32) (0 : Int32) (t_place + (1 : Int32)) u19 e20) gm_3_218 gm_3_215 gm_3_217 gm_p2_3 gm_1_7 ⟨rfl, rfl, by decide, by decide⟩ kd_TextReader_endWith [0, 1, 2, 3, 4] rfl rfl rfl 0 8 rfl rfl rfl rfl hl.1 rfl (Nat.le_of_ble_eq_true rfl) d_TextReader_endOfOffset_37 ⟨Nat.zero_le _, Nat.zero_le _⟩) hA hP hD hS [0, 1, 2, 3, 4] [5, 6] [2, 3, 4, 5, 6, 0, 1] rfl rfl rfl (by decide) rfl rfl rfl (fun H locs hP hD hS => ?_)
      cases he
      exact k_ire hx hb hr hlk X hP hD hS d_TextReader_endOfOffset_40
