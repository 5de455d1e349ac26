abbrev b_SkeletonClockModel_distanceTo : ByteArray := prog_14_method_26_code
def y_SkeletonClockModel_distanceTo : MethodName := ⟨"SkeletonClockModel", "distanceTo", "(I)I"⟩
theorem kd_SkeletonClockModel_distanceTo : kd_ok y_SkeletonClockModel_distanceTo 1 := by decide +kernel
theorem gm_4_164 : Cond.fieldLink "SkeletonClockModel" (46 : Nat) "SkeletonClockModel" "have" "[I" ∈ GW := gw_4 (i := 164) rfl rfl
theorem d_SkeletonClockModel_distanceTo_0 : decode b_SkeletonClockModel_distanceTo 0 = .ok (.iconst 0, 1) := by decide +kernel
theorem d_SkeletonClockModel_distanceTo_1 : decode b_SkeletonClockModel_distanceTo 1 = .ok (.istore_n 2, 1) := by decide +kernel
theorem d_SkeletonClockModel_distanceTo_2 : decode b_SkeletonClockModel_distanceTo 2 = .ok (.iload_n 2, 1) := by decide +kernel
theorem d_SkeletonClockModel_distanceTo_3 : decode b_SkeletonClockModel_distanceTo 3 = .ok (.sipush 128, 3) := by decide +kernel
theorem d_SkeletonClockModel_distanceTo_6 : decode b_SkeletonClockModel_distanceTo 6 = .ok (.if_icmp .ge 16, 3) := by decide +kernel
theorem d_SkeletonClockModel_distanceTo_9 : decode b_SkeletonClockModel_distanceTo 9 = .ok (.aload_n 0, 1) := by decide +kernel
theorem d_SkeletonClockModel_distanceTo_10 : decode b_SkeletonClockModel_distanceTo 10 = .ok (.getfield 46, 3) := by decide +kernel
theorem d_SkeletonClockModel_distanceTo_13 : decode b_SkeletonClockModel_distanceTo 13 = .ok (.iload_n 2, 1) := by decide +kernel
theorem d_SkeletonClockModel_distanceTo_14 : decode b_SkeletonClockModel_distanceTo 14 = .ok (.iconst 0, 1) := by decide +kernel
theorem d_SkeletonClockModel_distanceTo_15 : decode b_SkeletonClockModel_distanceTo 15 = .ok (.iastore, 1) := by decide +kernel
theorem d_SkeletonClockModel_distanceTo_16 : decode b_SkeletonClockModel_distanceTo 16 = .ok (.iinc 2 1, 3) := by decide +kernel
theorem d_SkeletonClockModel_distanceTo_19 : decode b_SkeletonClockModel_distanceTo 19 = .ok (.goto (-17), 3) := by decide +kernel
theorem d_SkeletonClockModel_distanceTo_22 : decode b_SkeletonClockModel_distanceTo 22 = .ok (.bipush 20, 2) := by decide +kernel
theorem d_SkeletonClockModel_distanceTo_24 : decode b_SkeletonClockModel_distanceTo 24 = .ok (.iload_n 1, 1) := by decide +kernel
theorem d_SkeletonClockModel_distanceTo_25 : decode b_SkeletonClockModel_distanceTo 25 = .ok (.imul, 1) := by decide +kernel
theorem d_SkeletonClockModel_distanceTo_26 : decode b_SkeletonClockModel_distanceTo 26 = .ok (.aload_n 0, 1) := by decide +kernel
theorem d_SkeletonClockModel_distanceTo_27 : decode b_SkeletonClockModel_distanceTo 27 = .ok (.getfield 36, 3) := by decide +kernel
theorem d_SkeletonClockModel_distanceTo_30 : decode b_SkeletonClockModel_distanceTo 30 = .ok (.iload_n 1, 1) := by decide +kernel
theorem d_SkeletonClockModel_distanceTo_31 : decode b_SkeletonClockModel_distanceTo 31 = .ok (.iaload, 1) := by decide +kernel
theorem d_SkeletonClockModel_distanceTo_32 : decode b_SkeletonClockModel_distanceTo 32 = .ok (.iadd, 1) := by decide +kernel
theorem d_SkeletonClockModel_distanceTo_33 : decode b_SkeletonClockModel_distanceTo 33 = .ok (.iconst 1, 1) := by decide +kernel
theorem d_SkeletonClockModel_distanceTo_34 : decode b_SkeletonClockModel_distanceTo 34 = .ok (.isub, 1) := by decide +kernel
theorem d_SkeletonClockModel_distanceTo_35 : decode b_SkeletonClockModel_distanceTo 35 = .ok (.istore_n 2, 1) := by decide +kernel
theorem d_SkeletonClockModel_distanceTo_36 : decode b_SkeletonClockModel_distanceTo 36 = .ok (.iload_n 2, 1) := by decide +kernel
theorem d_SkeletonClockModel_distanceTo_37 : decode b_SkeletonClockModel_distanceTo 37 = .ok (.bipush 20, 2) := by decide +kernel
theorem d_SkeletonClockModel_distanceTo_39 : decode b_SkeletonClockModel_distanceTo 39 = .ok (.iload_n 1, 1) := by decide +kernel
theorem d_SkeletonClockModel_distanceTo_40 : decode b_SkeletonClockModel_distanceTo 40 = .ok (.imul, 1) := by decide +kernel
theorem d_SkeletonClockModel_distanceTo_41 : decode b_SkeletonClockModel_distanceTo 41 = .ok (.if_icmp .lt 36, 3) := by decide +kernel
theorem d_SkeletonClockModel_distanceTo_44 : decode b_SkeletonClockModel_distanceTo 44 = .ok (.aload_n 0, 1) := by decide +kernel
theorem d_SkeletonClockModel_distanceTo_45 : decode b_SkeletonClockModel_distanceTo 45 = .ok (.getfield 20, 3) := by decide +kernel
theorem d_SkeletonClockModel_distanceTo_48 : decode b_SkeletonClockModel_distanceTo 48 = .ok (.iload_n 2, 1) := by decide +kernel
theorem d_SkeletonClockModel_distanceTo_49 : decode b_SkeletonClockModel_distanceTo 49 = .ok (.iaload, 1) := by decide +kernel
theorem d_SkeletonClockModel_distanceTo_50 : decode b_SkeletonClockModel_distanceTo 50 = .ok (.iconst 1, 1) := by decide +kernel
theorem d_SkeletonClockModel_distanceTo_51 : decode b_SkeletonClockModel_distanceTo 51 = .ok (.if_icmp .ne 20, 3) := by decide +kernel
theorem d_SkeletonClockModel_distanceTo_54 : decode b_SkeletonClockModel_distanceTo 54 = .ok (.aload_n 0, 1) := by decide +kernel
theorem d_SkeletonClockModel_distanceTo_55 : decode b_SkeletonClockModel_distanceTo 55 = .ok (.getfield 46, 3) := by decide +kernel
theorem d_SkeletonClockModel_distanceTo_58 : decode b_SkeletonClockModel_distanceTo 58 = .ok (.aload_n 0, 1) := by decide +kernel
theorem d_SkeletonClockModel_distanceTo_59 : decode b_SkeletonClockModel_distanceTo 59 = .ok (.getfield 24, 3) := by decide +kernel
theorem d_SkeletonClockModel_distanceTo_62 : decode b_SkeletonClockModel_distanceTo 62 = .ok (.iload_n 2, 1) := by decide +kernel
theorem d_SkeletonClockModel_distanceTo_63 : decode b_SkeletonClockModel_distanceTo 63 = .ok (.iaload, 1) := by decide +kernel
theorem d_SkeletonClockModel_distanceTo_64 : decode b_SkeletonClockModel_distanceTo 64 = .ok (.aload_n 0, 1) := by decide +kernel
theorem d_SkeletonClockModel_distanceTo_65 : decode b_SkeletonClockModel_distanceTo 65 = .ok (.getfield 27, 3) := by decide +kernel
theorem d_SkeletonClockModel_distanceTo_68 : decode b_SkeletonClockModel_distanceTo 68 = .ok (.iload_n 2, 1) := by decide +kernel
theorem d_SkeletonClockModel_distanceTo_69 : decode b_SkeletonClockModel_distanceTo 69 = .ok (.iaload, 1) := by decide +kernel
theorem d_SkeletonClockModel_distanceTo_70 : decode b_SkeletonClockModel_distanceTo 70 = .ok (.iastore, 1) := by decide +kernel
theorem d_SkeletonClockModel_distanceTo_71 : decode b_SkeletonClockModel_distanceTo 71 = .ok (.iinc 2 (-1), 3) := by decide +kernel
theorem d_SkeletonClockModel_distanceTo_74 : decode b_SkeletonClockModel_distanceTo 74 = .ok (.goto (-38), 3) := by decide +kernel
theorem d_SkeletonClockModel_distanceTo_77 : decode b_SkeletonClockModel_distanceTo 77 = .ok (.iconst 0, 1) := by decide +kernel
theorem d_SkeletonClockModel_distanceTo_78 : decode b_SkeletonClockModel_distanceTo 78 = .ok (.istore_n 2, 1) := by decide +kernel
theorem d_SkeletonClockModel_distanceTo_79 : decode b_SkeletonClockModel_distanceTo 79 = .ok (.iconst 0, 1) := by decide +kernel
theorem d_SkeletonClockModel_distanceTo_80 : decode b_SkeletonClockModel_distanceTo 80 = .ok (.istore_n 3, 1) := by decide +kernel
theorem d_SkeletonClockModel_distanceTo_81 : decode b_SkeletonClockModel_distanceTo 81 = .ok (.iload_n 3, 1) := by decide +kernel
theorem d_SkeletonClockModel_distanceTo_82 : decode b_SkeletonClockModel_distanceTo 82 = .ok (.sipush 128, 3) := by decide +kernel
theorem d_SkeletonClockModel_distanceTo_85 : decode b_SkeletonClockModel_distanceTo 85 = .ok (.if_icmp .ge 121, 3) := by decide +kernel
theorem d_SkeletonClockModel_distanceTo_88 : decode b_SkeletonClockModel_distanceTo 88 = .ok (.aload_n 0, 1) := by decide +kernel
theorem d_SkeletonClockModel_distanceTo_89 : decode b_SkeletonClockModel_distanceTo 89 = .ok (.getfield 43, 3) := by decide +kernel
theorem d_SkeletonClockModel_distanceTo_92 : decode b_SkeletonClockModel_distanceTo 92 = .ok (.iload_n 3, 1) := by decide +kernel
theorem d_SkeletonClockModel_distanceTo_93 : decode b_SkeletonClockModel_distanceTo 93 = .ok (.iaload, 1) := by decide +kernel
theorem d_SkeletonClockModel_distanceTo_94 : decode b_SkeletonClockModel_distanceTo 94 = .ok (.istore 4, 2) := by decide +kernel
theorem d_SkeletonClockModel_distanceTo_96 : decode b_SkeletonClockModel_distanceTo 96 = .ok (.aload_n 0, 1) := by decide +kernel
theorem d_SkeletonClockModel_distanceTo_97 : decode b_SkeletonClockModel_distanceTo 97 = .ok (.getfield 46, 3) := by decide +kernel
theorem d_SkeletonClockModel_distanceTo_100 : decode b_SkeletonClockModel_distanceTo 100 = .ok (.iload_n 3, 1) := by decide +kernel
theorem d_SkeletonClockModel_distanceTo_101 : decode b_SkeletonClockModel_distanceTo 101 = .ok (.iaload, 1) := by decide +kernel
theorem d_SkeletonClockModel_distanceTo_102 : decode b_SkeletonClockModel_distanceTo 102 = .ok (.istore 5, 2) := by decide +kernel
theorem d_SkeletonClockModel_distanceTo_104 : decode b_SkeletonClockModel_distanceTo 104 = .ok (.iload 4, 2) := by decide +kernel
theorem d_SkeletonClockModel_distanceTo_106 : decode b_SkeletonClockModel_distanceTo 106 = .ok (.ifCond .ne 11, 3) := by decide +kernel
theorem d_SkeletonClockModel_distanceTo_109 : decode b_SkeletonClockModel_distanceTo 109 = .ok (.iload 5, 2) := by decide +kernel
theorem d_SkeletonClockModel_distanceTo_111 : decode b_SkeletonClockModel_distanceTo 111 = .ok (.ifCond .ne 6, 3) := by decide +kernel
theorem d_SkeletonClockModel_distanceTo_114 : decode b_SkeletonClockModel_distanceTo 114 = .ok (.goto 86, 3) := by decide +kernel
theorem d_SkeletonClockModel_distanceTo_117 : decode b_SkeletonClockModel_distanceTo 117 = .ok (.iload_n 2, 1) := by decide +kernel
theorem d_SkeletonClockModel_distanceTo_118 : decode b_SkeletonClockModel_distanceTo 118 = .ok (.iload 4, 2) := by decide +kernel
theorem d_SkeletonClockModel_distanceTo_120 : decode b_SkeletonClockModel_distanceTo 120 = .ok (.ifCond .eq 8, 3) := by decide +kernel
theorem d_SkeletonClockModel_distanceTo_123 : decode b_SkeletonClockModel_distanceTo 123 = .ok (.iload 5, 2) := by decide +kernel
theorem d_SkeletonClockModel_distanceTo_125 : decode b_SkeletonClockModel_distanceTo 125 = .ok (.ifCond .ne 9, 3) := by decide +kernel
theorem d_SkeletonClockModel_distanceTo_128 : decode b_SkeletonClockModel_distanceTo 128 = .ok (.sipush 1000, 3) := by decide +kernel
theorem d_SkeletonClockModel_distanceTo_131 : decode b_SkeletonClockModel_distanceTo 131 = .ok (.goto 23, 3) := by decide +kernel
theorem d_SkeletonClockModel_distanceTo_134 : decode b_SkeletonClockModel_distanceTo 134 = .ok (.iload 4, 2) := by decide +kernel
theorem d_SkeletonClockModel_distanceTo_136 : decode b_SkeletonClockModel_distanceTo 136 = .ok (.iload 5, 2) := by decide +kernel
theorem d_SkeletonClockModel_distanceTo_138 : decode b_SkeletonClockModel_distanceTo 138 = .ok (.if_icmp .le 11, 3) := by decide +kernel
theorem d_SkeletonClockModel_distanceTo_141 : decode b_SkeletonClockModel_distanceTo 141 = .ok (.iload 4, 2) := by decide +kernel
theorem d_SkeletonClockModel_distanceTo_143 : decode b_SkeletonClockModel_distanceTo 143 = .ok (.iload 5, 2) := by decide +kernel
theorem d_SkeletonClockModel_distanceTo_145 : decode b_SkeletonClockModel_distanceTo 145 = .ok (.isub, 1) := by decide +kernel
theorem d_SkeletonClockModel_distanceTo_146 : decode b_SkeletonClockModel_distanceTo 146 = .ok (.goto 8, 3) := by decide +kernel
theorem d_SkeletonClockModel_distanceTo_149 : decode b_SkeletonClockModel_distanceTo 149 = .ok (.iload 5, 2) := by decide +kernel
theorem d_SkeletonClockModel_distanceTo_151 : decode b_SkeletonClockModel_distanceTo 151 = .ok (.iload 4, 2) := by decide +kernel
theorem d_SkeletonClockModel_distanceTo_153 : decode b_SkeletonClockModel_distanceTo 153 = .ok (.isub, 1) := by decide +kernel
theorem d_SkeletonClockModel_distanceTo_154 : decode b_SkeletonClockModel_distanceTo 154 = .ok (.iadd, 1) := by decide +kernel
theorem d_SkeletonClockModel_distanceTo_155 : decode b_SkeletonClockModel_distanceTo 155 = .ok (.istore_n 2, 1) := by decide +kernel
theorem d_SkeletonClockModel_distanceTo_156 : decode b_SkeletonClockModel_distanceTo 156 = .ok (.iload_n 3, 1) := by decide +kernel
theorem d_SkeletonClockModel_distanceTo_157 : decode b_SkeletonClockModel_distanceTo 157 = .ok (.bipush 77, 2) := by decide +kernel
theorem d_SkeletonClockModel_distanceTo_159 : decode b_SkeletonClockModel_distanceTo 159 = .ok (.if_icmp .ne 41, 3) := by decide +kernel
theorem d_SkeletonClockModel_distanceTo_162 : decode b_SkeletonClockModel_distanceTo 162 = .ok (.iload 4, 2) := by decide +kernel
theorem d_SkeletonClockModel_distanceTo_164 : decode b_SkeletonClockModel_distanceTo 164 = .ok (.ifCond .le 36, 3) := by decide +kernel
theorem d_SkeletonClockModel_distanceTo_167 : decode b_SkeletonClockModel_distanceTo 167 = .ok (.iload 5, 2) := by decide +kernel
theorem d_SkeletonClockModel_distanceTo_169 : decode b_SkeletonClockModel_distanceTo 169 = .ok (.ifCond .le 31, 3) := by decide +kernel
theorem d_SkeletonClockModel_distanceTo_172 : decode b_SkeletonClockModel_distanceTo 172 = .ok (.iload 4, 2) := by decide +kernel
theorem d_SkeletonClockModel_distanceTo_174 : decode b_SkeletonClockModel_distanceTo 174 = .ok (.iconst 2, 1) := by decide +kernel
theorem d_SkeletonClockModel_distanceTo_175 : decode b_SkeletonClockModel_distanceTo 175 = .ok (.if_icmp .le 7, 3) := by decide +kernel
theorem d_SkeletonClockModel_distanceTo_178 : decode b_SkeletonClockModel_distanceTo 178 = .ok (.iconst 1, 1) := by decide +kernel
theorem d_SkeletonClockModel_distanceTo_179 : decode b_SkeletonClockModel_distanceTo 179 = .ok (.goto 4, 3) := by decide +kernel
theorem d_SkeletonClockModel_distanceTo_182 : decode b_SkeletonClockModel_distanceTo 182 = .ok (.iconst 0, 1) := by decide +kernel
theorem d_SkeletonClockModel_distanceTo_183 : decode b_SkeletonClockModel_distanceTo 183 = .ok (.iload 5, 2) := by decide +kernel
theorem d_SkeletonClockModel_distanceTo_185 : decode b_SkeletonClockModel_distanceTo 185 = .ok (.iconst 2, 1) := by decide +kernel
theorem d_SkeletonClockModel_distanceTo_186 : decode b_SkeletonClockModel_distanceTo 186 = .ok (.if_icmp .le 7, 3) := by decide +kernel
theorem d_SkeletonClockModel_distanceTo_189 : decode b_SkeletonClockModel_distanceTo 189 = .ok (.iconst 1, 1) := by decide +kernel
theorem d_SkeletonClockModel_distanceTo_190 : decode b_SkeletonClockModel_distanceTo 190 = .ok (.goto 4, 3) := by decide +kernel
theorem d_SkeletonClockModel_distanceTo_193 : decode b_SkeletonClockModel_distanceTo 193 = .ok (.iconst 0, 1) := by decide +kernel
theorem d_SkeletonClockModel_distanceTo_194 : decode b_SkeletonClockModel_distanceTo 194 = .ok (.if_icmp .eq 6, 3) := by decide +kernel
theorem d_SkeletonClockModel_distanceTo_197 : decode b_SkeletonClockModel_distanceTo 197 = .ok (.iinc 2 100, 3) := by decide +kernel
theorem d_SkeletonClockModel_distanceTo_200 : decode b_SkeletonClockModel_distanceTo 200 = .ok (.iinc 3 1, 3) := by decide +kernel
theorem d_SkeletonClockModel_distanceTo_203 : decode b_SkeletonClockModel_distanceTo 203 = .ok (.goto (-122), 3) := by decide +kernel
theorem d_SkeletonClockModel_distanceTo_206 : decode b_SkeletonClockModel_distanceTo 206 = .ok (.iload_n 2, 1) := by decide +kernel
theorem d_SkeletonClockModel_distanceTo_207 : decode b_SkeletonClockModel_distanceTo 207 = .ok (.ireturn, 1) := by decide +kernel
abbrev rm_SkeletonClockModel_distanceTo : Room := { frames := 0, cells := 0, slots := 0, locals := 0 }
set_option maxHeartbeats 4000000 in
set_option maxRecDepth 100000 in
theorem w_SkeletonClockModel_distanceTo_2 {p : Program} {l : Launch} {e : Env} {s : State} {m : MethodId} {args : Array Value} {below : List Frame} {meth : Method} {c : Code} {Q : State → Prop} {A : Nat → Prop} {D : va_G} {kk : Nat → ClassId} {st : Nat → Nat} (a_t a_t_sort a_t_code a_t_count a_t_size a_t_wish a_t_have a_t_text a_t_page a_t_names a_t_around a_t_end a_t_there a_t_known a_t_value a_t_before a_t_open a_t_from : Nat) (t_length : Int32) (t_used : Int32) (t_far : Int32) (t_momentParts : Int32) (t_momentDay : Int64) (t_momentSecond : Int32) (t_momentNano : Int32) (t_momentOffset : Int32) (t_readParts : Int32) (t_readDay : Int64) (t_readSecond : Int32) (t_readNano : Int32) (t_readOffset : Int32) (t_alike : Int32) (t_sort : Nat → Int32) (t_code : Nat → Int32) (t_count : Nat → Int32) (t_size : Nat → Int32) (t_wish : Nat → Int32) (x1 : Int32) (S : CallFix p m c b_SkeletonClockModel_distanceTo 6 s args GW y_SkeletonClockModel_distanceTo.cls) (hr : meth.sig.returnType = (some .int)) (hlk : meth.locks = false) (hA : ∀ q, s.heap.size ≤ q → A q) (X : KX D kk st A s) : ∀ (n : Nat) (x2 : Int32) (t_have : Nat → Int32) (v : Int32 × (Nat → Int32)) (H : Heap) (locs : List Loc) (ls : Array Slot), lp_SkeletonClockModel_distanceTo_2 x1 n x2 t_have = some v → lv_has ls 6 [(0, .ref a_t), (1, .int x1), (2, .int x2)] → va_P D classes [(a_t, .inr (10, [.int t_length, .ref a_t_text, .int t_used, .ref a_t_page, .ref a_t_names, .ref a_t_sort, .ref a_t_code, .ref a_t_count, .ref a_t_around, .ref a_t_end, .ref a_t_size, .ref a_t_there, .ref a_t_wish, .ref a_t_have, .int t_far, .int t_momentParts, .long t_momentDay, .int t_momentSecond, .int t_momentNano, .int t_momentOffset, .int t_readParts, .long t_readDay, .int t_readSecond, .int t_readNano, .int t_readOffset, .ref a_t_known, .ref a_t_value, .ref a_t_before, .ref a_t_open, .ref a_t_from, .int t_alike])), (a_t_sort, .inl (kk 0, 140, .inl t_sort)), (a_t_code, .inl (kk 0, 140, .inl t_code)), (a_t_count, .inl (kk 0, 140, .inl t_count)), (a_t_size, .inl (kk 0, 7, .inl t_size)), (a_t_wish, .inl (kk 0, 128, .inl t_wish)), (a_t_have, .inl (kk 0, 128, .inl t_have))] H → va_D A [(a_t, .inr (10, [.int t_length, .ref a_t_text, .int t_used, .ref a_t_page, .ref a_t_names, .ref a_t_sort, .ref a_t_code, .ref a_t_count, .ref a_t_around, .ref a_t_end, .ref a_t_size, .ref a_t_there, .ref a_t_wish, .ref a_t_have, .int t_far, .int t_momentParts, .long t_momentDay, .int t_momentSecond, .int t_momentNano, .int t_momentOffset, .int t_readParts, .long t_readDay, .int t_readSecond, .int t_readNano, .int t_readOffset, .ref a_t_known, .ref a_t_value, .ref a_t_before, .ref a_t_open, .ref a_t_from, .int t_alike])), (a_t_sort, .inl (kk 0, 140, .inl t_sort)), (a_t_code, .inl (kk 0, 140, .inl t_code)), (a_t_count, .inl (kk 0, 140, .inl t_count)), (a_t_size, .inl (kk 0, 7, .inl t_size)), (a_t_wish, .inl (kk 0, 128, .inl t_wish)), (a_t_have, .inl (kk 0, 128, .inl t_have))] → va_S A s.heap H locs → (∀ (H : Heap) (locs : List Loc) (ls : Array Slot), lv_has ls 6 [(0, .ref a_t), (1, .int x1), (2, .int v.1)] → va_P D classes [(a_t, .inr (10, [.int t_length, .ref a_t_text, .int t_used, .ref a_t_page, .ref a_t_names, .ref a_t_sort, .ref a_t_code, .ref a_t_count, .ref a_t_around, .ref a_t_end, .ref a_t_size, .ref a_t_there, .ref a_t_wish, .ref a_t_have, .int t_far, .int t_momentParts, .long t_momentDay, .int t_momentSecond, .int t_momentNano, .int t_momentOffset, .int t_readParts, .long t_readDay, .int t_readSecond, .int t_readNano, .int t_readOffset, .ref a_t_known, .ref a_t_value, .ref a_t_before, .ref a_t_open, .ref a_t_from, .int t_alike])), (a_t_sort, .inl (kk 0, 140, .inl t_sort)), (a_t_code, .inl (kk 0, 140, .inl t_code)), (a_t_count, .inl (kk 0, 140, .inl t_count)), (a_t_size, .inl (kk 0, 7, .inl t_size)), (a_t_wish, .inl (kk 0, 128, .inl t_wish)), (a_t_have, .inl (kk 0, 128, .inl v.2))] H → va_D A [(a_t, .inr (10, [.int t_length, .ref a_t_text, .int t_used, .ref a_t_page, .ref a_t_names, .ref a_t_sort, .ref a_t_code, .ref a_t_count, .ref a_t_around, .ref a_t_end, .ref a_t_size, .ref a_t_there, .ref a_t_wish, .ref a_t_have, .int t_far, .int t_momentParts, .long t_momentDay, .int t_momentSecond, .int t_momentNano, .int t_momentOffset, .int t_readParts, .long t_readDay, .int t_readSecond, .int t_readNano, .int t_readOffset, .ref a_t_known, .ref a_t_value, .ref a_t_before, .ref a_t_open, .ref a_t_from, .int t_alike])), (a_t_sort, .inl (kk 0, 140, .inl t_sort)), (a_t_code, .inl (kk 0, 140, .inl t_code)), (a_t_count, .inl (kk 0, 140, .inl t_count)), (a_t_size, .inl (kk 0, 7, .inl t_size)), (a_t_wish, .inl (kk 0, 128, .inl t_wish)), (a_t_have, .inl (kk 0, 128, .inl v.2))] → va_S A s.heap H locs → W p l e rm_SkeletonClockModel_distanceTo s m args below meth c H locs 0 0 Q (F0 m 22 ls [])) → W p l e rm_SkeletonClockModel_distanceTo s m args below meth c H locs 0 0 Q (F0 m 2 ls []) := by
  intro n
  induction n with
  | zero =>
    intro x2 t_have v H locs ls he hl hP hD hS K
    exact ih_n he
  | succ n ih =>
    intro x2 t_have v H locs ls he hl hP hD hS K
    have hx := S.1
    have hb := S.2.1
    have he : st_SkeletonClockModel_distanceTo_2 x1 (lp_SkeletonClockModel_distanceTo_2 x1 n) x2 t_have = some v := he
    unfold st_SkeletonClockModel_distanceTo_2 at he
    refine lv_iload_n hx hb d_SkeletonClockModel_distanceTo_2 rfl (lv_at hl 2 rfl) ?_
    refine lv_sipush (v := (128 : Int32)) hx hb d_SkeletonClockModel_distanceTo_3 (by decide) ?_
    refine lv_icmp_ge (tgt := 22) hx hb d_SkeletonClockModel_distanceTo_6 rfl (fun hc => ?_) (fun hc => ?_)
    · have he := ih_t hc he
      have hl : lv_has ls 6 [(0, .ref a_t), (1, .int x1), (2, .int x2)] := lv_sub hl [0, 1, 2] rfl
      cases he
      exact K _ _ _ hl hP hD hS
    · have he := ih_f hc he
      refine lv_aload_n hx hb d_SkeletonClockModel_distanceTo_9 rfl (lv_at hl 0 rfl) ?_
      refine k_get S X us_SkeletonClockModel hP 0 rfl rfl 13 (by decide) gm_4_164 rfl d_SkeletonClockModel_distanceTo_10 ?_
      refine lv_iload_n hx hb d_SkeletonClockModel_distanceTo_13 rfl (lv_at hl 2 rfl) ?_
      refine lv_iconst (v := (0 : Int32)) hx hb d_SkeletonClockModel_distanceTo_14 (by decide) ?_
      obtain ⟨hi1, he⟩ := ih_g he
      refine va_iast hx hb X.1 hP hD hS 6 0 rfl rfl hi1 d_SkeletonClockModel_distanceTo_15 (fun H locs hP hD hS => ?_)
      have hP : va_P D classes [(a_t, .inr (10, [.int t_length, .ref a_t_text, .int t_used, .ref a_t_page, .ref a_t_names, .ref a_t_sort, .ref a_t_code, .ref a_t_count, .ref a_t_around, .ref a_t_end, .ref a_t_size, .ref a_t_there, .ref a_t_wish, .ref a_t_have, .int t_far, .int t_momentParts, .long t_momentDay, .int t_momentSecond, .int t_momentNano, .int t_momentOffset, .int t_readParts, .long t_readDay, .int t_readSecond, .int t_readNano, .int t_readOffset, .ref a_t_known, .ref a_t_value, .ref a_t_before, .ref a_t_open, .ref a_t_from, .int t_alike])), (a_t_sort, .inl (kk 0, 140, .inl t_sort)), (a_t_code, .inl (kk 0, 140, .inl t_code)), (a_t_count, .inl (kk 0, 140, .inl t_count)), (a_t_size, .inl (kk 0, 7, .inl t_size)), (a_t_wish, .inl (kk 0, 128, .inl t_wish)), (a_t_have, .inl (kk 0, 128, .inl (upd t_have (x2).toNatClampNeg (0 : Int32))))] H := hP
      have hD : va_D A [(a_t, .inr (10, [.int t_length, .ref a_t_text, .int t_used, .ref a_t_page, .ref a_t_names, .ref a_t_sort, .ref a_t_code, .ref a_t_count, .ref a_t_around, .ref a_t_end, .ref a_t_size, .ref a_t_there, .ref a_t_wish, .ref a_t_have, .int t_far, .int t_momentParts, .long t_momentDay, .int t_momentSecond, .int t_momentNano, .int t_momentOffset, .int t_readParts, .long t_readDay, .int t_readSecond, .int t_readNano, .int t_readOffset, .ref a_t_known, .ref a_t_value, .ref a_t_before, .ref a_t_open, .ref a_t_from, .int t_alike])), (a_t_sort, .inl (kk 0, 140, .inl t_sort)), (a_t_code, .inl (kk 0, 140, .inl t_code)), (a_t_count, .inl (kk 0, 140, .inl t_count)), (a_t_size, .inl (kk 0, 7, .inl t_size)), (a_t_wish, .inl (kk 0, 128, .inl t_wish)), (a_t_have, .inl (kk 0, 128, .inl (upd t_have (x2).toNatClampNeg (0 : Int32))))] := hD
      refine lv_iinc (k := 2) hx hb d_SkeletonClockModel_distanceTo_16 hl rfl (ii_ (v := (1 : Int32)) (by decide)) (by decide) rfl (fun ls hl => ?_)
      have hl : lv_has ls 6 [(2, .int (x2 + (1 : Int32))), (0, .ref a_t), (1, .int x1)] := hl
      refine lv_goto (tgt := 2) hx hb d_SkeletonClockModel_distanceTo_19 rfl ?_
      have hl : lv_has ls 6 [(0, .ref a_t), (1, .int x1), (2, .int (x2 + (1 : Int32)))] := lv_sub hl [1, 2, 0] rfl
      exact ih _ _ _ _ _ _ he hl hP hD hS K
set_option maxHeartbeats 4000000 in
set_option maxRecDepth 100000 in
theorem w_SkeletonClockModel_distanceTo_36 {p : Program} {l : Launch} {e : Env} {s : State} {m : MethodId} {args : Array Value} {below : List Frame} {meth : Method} {c : Code} {Q : State → Prop} {A : Nat → Prop} {D : va_G} {kk : Nat → ClassId} {st : Nat → Nat} (a_t a_t_sort a_t_code a_t_count a_t_size a_t_wish a_t_have a_t_text a_t_page a_t_names a_t_around a_t_end a_t_there a_t_known a_t_value a_t_before a_t_open a_t_from : Nat) (t_length : Int32) (t_used : Int32) (t_far : Int32) (t_momentParts : Int32) (t_momentDay : Int64) (t_momentSecond : Int32) (t_momentNano : Int32) (t_momentOffset : Int32) (t_readParts : Int32) (t_readDay : Int64) (t_readSecond : Int32) (t_readNano : Int32) (t_readOffset : Int32) (t_alike : Int32) (t_sort : Nat → Int32) (t_code : Nat → Int32) (t_count : Nat → Int32) (t_size : Nat → Int32) (t_wish : Nat → Int32) (x1 : Int32) (S : CallFix p m c b_SkeletonClockModel_distanceTo 6 s args GW y_SkeletonClockModel_distanceTo.cls) (hr : meth.sig.returnType = (some .int)) (hlk : meth.locks = false) (hA : ∀ q, s.heap.size ≤ q → A q) (X : KX D kk st A s) : ∀ (n : Nat) (x2 : Int32) (t_have : Nat → Int32) (v : Int32 × (Nat → Int32)) (H : Heap) (locs : List Loc) (ls : Array Slot), lp_SkeletonClockModel_distanceTo_36 t_sort t_code t_count x1 n x2 t_have = some v → lv_has ls 6 [(0, .ref a_t), (1, .int x1), (2, .int x2)] → va_P D classes [(a_t, .inr (10, [.int t_length, .ref a_t_text, .int t_used, .ref a_t_page, .ref a_t_names, .ref a_t_sort, .ref a_t_code, .ref a_t_count, .ref a_t_around, .ref a_t_end, .ref a_t_size, .ref a_t_there, .ref a_t_wish, .ref a_t_have, .int t_far, .int t_momentParts, .long t_momentDay, .int t_momentSecond, .int t_momentNano, .int t_momentOffset, .int t_readParts, .long t_readDay, .int t_readSecond, .int t_readNano, .int t_readOffset, .ref a_t_known, .ref a_t_value, .ref a_t_before, .ref a_t_open, .ref a_t_from, .int t_alike])), (a_t_sort, .inl (kk 0, 140, .inl t_sort)), (a_t_code, .inl (kk 0, 140, .inl t_code)), (a_t_count, .inl (kk 0, 140, .inl t_count)), (a_t_size, .inl (kk 0, 7, .inl t_size)), (a_t_wish, .inl (kk 0, 128, .inl t_wish)), (a_t_have, .inl (kk 0, 128, .inl t_have))] H → va_D A [(a_t, .inr (10, [.int t_length, .ref a_t_text, .int t_used, .ref a_t_page, .ref a_t_names, .ref a_t_sort, .ref a_t_code, .ref a_t_count, .ref a_t_around, .ref a_t_end, .ref a_t_size, .ref a_t_there, .ref a_t_wish, .ref a_t_have, .int t_far, .int t_momentParts, .long t_momentDay, .int t_momentSecond, .int t_momentNano, .int t_momentOffset, .int t_readParts, .long t_readDay, .int t_readSecond, .int t_readNano, .int t_readOffset, .ref a_t_known, .ref a_t_value, .ref a_t_before, .ref a_t_open, .ref a_t_from, .int t_alike])), (a_t_sort, .inl (kk 0, 140, .inl t_sort)), (a_t_code, .inl (kk 0, 140, .inl t_code)), (a_t_count, .inl (kk 0, 140, .inl t_count)), (a_t_size, .inl (kk 0, 7, .inl t_size)), (a_t_wish, .inl (kk 0, 128, .inl t_wish)), (a_t_have, .inl (kk 0, 128, .inl t_have))] → va_S A s.heap H locs → (∀ (H : Heap) (locs : List Loc) (ls : Array Slot), lv_has ls 6 [(0, .ref a_t), (1, .int x1), (2, .int v.1)] → va_P D classes [(a_t, .inr (10, [.int t_length, .ref a_t_text, .int t_used, .ref a_t_page, .ref a_t_names, .ref a_t_sort, .ref a_t_code, .ref a_t_count, .ref a_t_around, .ref a_t_end, .ref a_t_size, .ref a_t_there, .ref a_t_wish, .ref a_t_have, .int t_far, .int t_momentParts, .long t_momentDay, .int t_momentSecond, .int t_momentNano, .int t_momentOffset, .int t_readParts, .long t_readDay, .int t_readSecond, .int t_readNano, .int t_readOffset, .ref a_t_known, .ref a_t_value, .ref a_t_before, .ref a_t_open, .ref a_t_from, .int t_alike])), (a_t_sort, .inl (kk 0, 140, .inl t_sort)), (a_t_code, .inl (kk 0, 140, .inl t_code)), (a_t_count, .inl (kk 0, 140, .inl t_count)), (a_t_size, .inl (kk 0, 7, .inl t_size)), (a_t_wish, .inl (kk 0, 128, .inl t_wish)), (a_t_have, .inl (kk 0, 128, .inl v.2))] H → va_D A [(a_t, .inr (10, [.int t_length, .ref a_t_text, .int t_used, .ref a_t_page, .ref a_t_names, .ref a_t_sort, .ref a_t_code, .ref a_t_count, .ref a_t_around, .ref a_t_end, .ref a_t_size, .ref a_t_there, .ref a_t_wish, .ref a_t_have, .int t_far, .int t_momentParts, .long t_momentDay, .int t_momentSecond, .int t_momentNano, .int t_momentOffset, .int t_readParts, .long t_readDay, .int t_readSecond, .int t_readNano, .int t_readOffset, .ref a_t_known, .ref a_t_value, .ref a_t_before, .ref a_t_open, .ref a_t_from, .int t_alike])), (a_t_sort, .inl (kk 0, 140, .inl t_sort)), (a_t_code, .inl (kk 0, 140, .inl t_code)), (a_t_count, .inl (kk 0, 140, .inl t_count)), (a_t_size, .inl (kk 0, 7, .inl t_size)), (a_t_wish, .inl (kk 0, 128, .inl t_wish)), (a_t_have, .inl (kk 0, 128, .inl v.2))] → va_S A s.heap H locs → W p l e rm_SkeletonClockModel_distanceTo s m args below meth c H locs 0 0 Q (F0 m 77 ls [])) → W p l e rm_SkeletonClockModel_distanceTo s m args below meth c H locs 0 0 Q (F0 m 36 ls []) := by
  intro n
  induction n with
  | zero =>
    intro x2 t_have v H locs ls he hl hP hD hS K
    exact ih_n he
  | succ n ih =>
    intro x2 t_have v H locs ls he hl hP hD hS K
    have hx := S.1
    have hb := S.2.1
    have he : st_SkeletonClockModel_distanceTo_36 t_sort t_code t_count x1 (lp_SkeletonClockModel_distanceTo_36 t_sort t_code t_count x1 n) x2 t_have = some v := he
    unfold st_SkeletonClockModel_distanceTo_36 at he
    refine lv_iload_n hx hb d_SkeletonClockModel_distanceTo_36 rfl (lv_at hl 2 rfl) ?_
    refine lv_bipush (v := (20 : Int32)) hx hb d_SkeletonClockModel_distanceTo_37 (by decide) ?_
    refine lv_iload_n hx hb d_SkeletonClockModel_distanceTo_39 rfl (lv_at hl 1 rfl) ?_
    refine lv_imul hx hb d_SkeletonClockModel_distanceTo_40 ?_
    refine lv_icmp_lt (tgt := 77) hx hb d_SkeletonClockModel_distanceTo_41 rfl (fun hc => ?_) (fun hc => ?_)
    · have he := ih_t hc he
      have hl : lv_has ls 6 [(0, .ref a_t), (1, .int x1), (2, .int x2)] := lv_sub hl [0, 1, 2] rfl
      cases he
      exact K _ _ _ hl hP hD hS
    · have he := ih_f hc he
      refine lv_aload_n hx hb d_SkeletonClockModel_distanceTo_44 rfl (lv_at hl 0 rfl) ?_
      refine k_get S X us_SkeletonClockModel hP 0 rfl rfl 5 (by decide) gm_4_156 rfl d_SkeletonClockModel_distanceTo_45 ?_
      refine lv_iload_n hx hb d_SkeletonClockModel_distanceTo_48 rfl (lv_at hl 2 rfl) ?_
      obtain ⟨hi5, he⟩ := ih_g he
      refine va_iald hx hb X.1 hP 1 0 rfl rfl hi5 d_SkeletonClockModel_distanceTo_49 ?_
      refine lv_iconst (v := (1 : Int32)) hx hb d_SkeletonClockModel_distanceTo_50 (by decide) ?_
      refine lv_icmp_ne (tgt := 71) hx hb d_SkeletonClockModel_distanceTo_51 rfl (fun hc => ?_) (fun hc => ?_)
      · have he := ih_f hc he
        refine lv_iinc (k := 2) hx hb d_SkeletonClockModel_distanceTo_71 hl rfl (ii_ (v := (-1 : Int32)) (by decide)) (by decide) rfl (fun ls hl => ?_)
        have hl : lv_has ls 6 [(2, .int (x2 + (-1 : Int32))), (0, .ref a_t), (1, .int x1)] := hl
        refine lv_goto (tgt := 36) hx hb d_SkeletonClockModel_distanceTo_74 rfl ?_
        have hl : lv_has ls 6 [(0, .ref a_t), (1, .int x1), (2, .int (x2 + (-1 : Int32)))] := lv_sub hl [1, 2, 0] rfl
        exact ih _ _ _ _ _ _ he hl hP hD hS K
      · have he := ih_t hc he
        refine lv_aload_n hx hb d_SkeletonClockModel_distanceTo_54 rfl (lv_at hl 0 rfl) ?_
        refine k_get S X us_SkeletonClockModel hP 0 rfl rfl 13 (by decide) gm_4_164 rfl d_SkeletonClockModel_distanceTo_55 ?_
        refine lv_aload_n hx hb d_SkeletonClockModel_distanceTo_58 rfl (lv_at hl 0 rfl) ?_
        refine k_get S X us_SkeletonClockModel hP 0 rfl rfl 6 (by decide) gm_4_157 rfl d_SkeletonClockModel_distanceTo_59 ?_
        refine lv_iload_n hx hb d_SkeletonClockModel_distanceTo_62 rfl (lv_at hl 2 rfl) ?_
        obtain ⟨hi6, he⟩ := ih_g he
        refine va_iald hx hb X.1 hP 2 0 rfl rfl hi6 d_SkeletonClockModel_distanceTo_63 ?_
        refine lv_aload_n hx hb d_SkeletonClockModel_distanceTo_64 rfl (lv_at hl 0 rfl) ?_
        refine k_get S X us_SkeletonClockModel hP 0 rfl rfl 7 (by decide) gm_4_158 rfl d_SkeletonClockModel_distanceTo_65 ?_
        refine lv_iload_n hx hb d_SkeletonClockModel_distanceTo_68 rfl (lv_at hl 2 rfl) ?_
        obtain ⟨hi7, he⟩ := ih_g he
        refine va_iald hx hb X.1 hP 3 0 rfl rfl hi7 d_SkeletonClockModel_distanceTo_69 ?_
        obtain ⟨hi8, he⟩ := ih_g he
        refine va_iast hx hb X.1 hP hD hS 6 0 rfl rfl hi8 d_SkeletonClockModel_distanceTo_70 (fun H locs hP hD hS => ?_)
        have hP : va_P D classes [(a_t, .inr (10, [.int t_length, .ref a_t_text, .int t_used, .ref a_t_page, .ref a_t_names, .ref a_t_sort, .ref a_t_code, .ref a_t_count, .ref a_t_around, .ref a_t_end, .ref a_t_size, .ref a_t_there, .ref a_t_wish, .ref a_t_have, .int t_far, .int t_momentParts, .long t_momentDay, .int t_momentSecond, .int t_momentNano, .int t_momentOffset, .int t_readParts, .long t_readDay, .int t_readSecond, .int t_readNano, .int t_readOffset, .ref a_t_known, .ref a_t_value, .ref a_t_before, .ref a_t_open, .ref a_t_from, .int t_alike])), (a_t_sort, .inl (kk 0, 140, .inl t_sort)), (a_t_code, .inl (kk 0, 140, .inl t_code)), (a_t_count, .inl (kk 0, 140, .inl t_count)), (a_t_size, .inl (kk 0, 7, .inl t_size)), (a_t_wish, .inl (kk 0, 128, .inl t_wish)), (a_t_have, .inl (kk 0, 128, .inl (upd t_have ((t_code (x2).toNatClampNeg)).toNatClampNeg (t_count (x2).toNatClampNeg))))] H := hP
        have hD : va_D A [(a_t, .inr (10, [.int t_length, .ref a_t_text, .int t_used, .ref a_t_page, .ref a_t_names, .ref a_t_sort, .ref a_t_code, .ref a_t_count, .ref a_t_around, .ref a_t_end, .ref a_t_size, .ref a_t_there, .ref a_t_wish, .ref a_t_have, .int t_far, .int t_momentParts, .long t_momentDay, .int t_momentSecond, .int t_momentNano, .int t_momentOffset, .int t_readParts, .long t_readDay, .int t_readSecond, .int t_readNano, .int t_readOffset, .ref a_t_known, .ref a_t_value, .ref a_t_before, .ref a_t_open, .ref a_t_from, .int t_alike])), (a_t_sort, .inl (kk 0, 140, .inl t_sort)), (a_t_code, .inl (kk 0, 140, .inl t_code)), (a_t_count, .inl (kk 0, 140, .inl t_count)), (a_t_size, .inl (kk 0, 7, .inl t_size)), (a_t_wish, .inl (kk 0, 128, .inl t_wish)), (a_t_have, .inl (kk 0, 128, .inl (upd t_have ((t_code (x2).toNatClampNeg)).toNatClampNeg (t_count (x2).toNatClampNeg))))] := hD
        refine lv_iinc (k := 2) hx hb d_SkeletonClockModel_distanceTo_71 hl rfl (ii_ (v := (-1 : Int32)) (by decide)) (by decide) rfl (fun ls hl => ?_)
        have hl : lv_has ls 6 [(2, .int (x2 + (-1 : Int32))), (0, .ref a_t), (1, .int x1)] := hl
        refine lv_goto (tgt := 36) hx hb d_SkeletonClockModel_distanceTo_74 rfl ?_
        have hl : lv_has ls 6 [(0, .ref a_t), (1, .int x1), (2, .int (x2 + (-1 : Int32)))] := lv_sub hl [1, 2, 0] rfl
        exact ih _ _ _ _ _ _ he hl hP hD hS K
set_option maxHeartbeats 4000000 in
set_option maxRecDepth 100000 in
theorem w_SkeletonClockModel_distanceTo_81 {p : Program} {l : Launch} {e : Env} {s : State} {m : MethodId} {args : Array Value} {below : List Frame} {meth : Method} {c : Code} {Q : State → Prop} {A : Nat → Prop} {D : va_G} {kk : Nat → ClassId} {st : Nat → Nat} (a_t a_t_sort a_t_code a_t_count a_t_size a_t_wish a_t_have a_t_text a_t_page a_t_names a_t_around a_t_end a_t_there a_t_known a_t_value a_t_before a_t_open a_t_from : Nat) (t_length : Int32) (t_used : Int32) (t_far : Int32) (t_momentParts : Int32) (t_momentDay : Int64) (t_momentSecond : Int32) (t_momentNano : Int32) (t_momentOffset : Int32) (t_readParts : Int32) (t_readDay : Int64) (t_readSecond : Int32) (t_readNano : Int32) (t_readOffset : Int32) (t_alike : Int32) (t_sort : Nat → Int32) (t_code : Nat → Int32) (t_count : Nat → Int32) (t_size : Nat → Int32) (t_wish : Nat → Int32) (t_have : Nat → Int32) (S : CallFix p m c b_SkeletonClockModel_distanceTo 6 s args GW y_SkeletonClockModel_distanceTo.cls) (hr : meth.sig.returnType = (some .int)) (hlk : meth.locks = false) (hA : ∀ q, s.heap.size ≤ q → A q) (X : KX D kk st A s) : ∀ (n : Nat) (x2 : Int32) (x3 : Int32) (v : Int32 × Int32) (H : Heap) (locs : List Loc) (ls : Array Slot), lp_SkeletonClockModel_distanceTo_81 t_wish t_have n x2 x3 = some v → lv_has ls 6 [(0, .ref a_t), (2, .int x2), (3, .int x3)] → va_P D classes [(a_t, .inr (10, [.int t_length, .ref a_t_text, .int t_used, .ref a_t_page, .ref a_t_names, .ref a_t_sort, .ref a_t_code, .ref a_t_count, .ref a_t_around, .ref a_t_end, .ref a_t_size, .ref a_t_there, .ref a_t_wish, .ref a_t_have, .int t_far, .int t_momentParts, .long t_momentDay, .int t_momentSecond, .int t_momentNano, .int t_momentOffset, .int t_readParts, .long t_readDay, .int t_readSecond, .int t_readNano, .int t_readOffset, .ref a_t_known, .ref a_t_value, .ref a_t_before, .ref a_t_open, .ref a_t_from, .int t_alike])), (a_t_sort, .inl (kk 0, 140, .inl t_sort)), (a_t_code, .inl (kk 0, 140, .inl t_code)), (a_t_count, .inl (kk 0, 140, .inl t_count)), (a_t_size, .inl (kk 0, 7, .inl t_size)), (a_t_wish, .inl (kk 0, 128, .inl t_wish)), (a_t_have, .inl (kk 0, 128, .inl t_have))] H → va_D A [(a_t, .inr (10, [.int t_length, .ref a_t_text, .int t_used, .ref a_t_page, .ref a_t_names, .ref a_t_sort, .ref a_t_code, .ref a_t_count, .ref a_t_around, .ref a_t_end, .ref a_t_size, .ref a_t_there, .ref a_t_wish, .ref a_t_have, .int t_far, .int t_momentParts, .long t_momentDay, .int t_momentSecond, .int t_momentNano, .int t_momentOffset, .int t_readParts, .long t_readDay, .int t_readSecond, .int t_readNano, .int t_readOffset, .ref a_t_known, .ref a_t_value, .ref a_t_before, .ref a_t_open, .ref a_t_from, .int t_alike])), (a_t_sort, .inl (kk 0, 140, .inl t_sort)), (a_t_code, .inl (kk 0, 140, .inl t_code)), (a_t_count, .inl (kk 0, 140, .inl t_count)), (a_t_size, .inl (kk 0, 7, .inl t_size)), (a_t_wish, .inl (kk 0, 128, .inl t_wish)), (a_t_have, .inl (kk 0, 128, .inl t_have))] → va_S A s.heap H locs → (∀ (H : Heap) (locs : List Loc) (ls : Array Slot), lv_has ls 6 [(0, .ref a_t), (2, .int v.1), (3, .int v.2)] → va_P D classes [(a_t, .inr (10, [.int t_length, .ref a_t_text, .int t_used, .ref a_t_page, .ref a_t_names, .ref a_t_sort, .ref a_t_code, .ref a_t_count, .ref a_t_around, .ref a_t_end, .ref a_t_size, .ref a_t_there, .ref a_t_wish, .ref a_t_have, .int t_far, .int t_momentParts, .long t_momentDay, .int t_momentSecond, .int t_momentNano, .int t_momentOffset, .int t_readParts, .long t_readDay, .int t_readSecond, .int t_readNano, .int t_readOffset, .ref a_t_known, .ref a_t_value, .ref a_t_before, .ref a_t_open, .ref a_t_from, .int t_alike])), (a_t_sort, .inl (kk 0, 140, .inl t_sort)), (a_t_code, .inl (kk 0, 140, .inl t_code)), (a_t_count, .inl (kk 0, 140, .inl t_count)), (a_t_size, .inl (kk 0, 7, .inl t_size)), (a_t_wish, .inl (kk 0, 128, .inl t_wish)), (a_t_have, .inl (kk 0, 128, .inl t_have))] H → va_D A [(a_t, .inr (10, [.int t_length, .ref a_t_text, .int t_used, .ref a_t_page, .ref a_t_names, .ref a_t_sort, .ref a_t_code, .ref a_t_count, .ref a_t_around, .ref a_t_end, .ref a_t_size, .ref a_t_there, .ref a_t_wish, .ref a_t_have, .int t_far, .int t_momentParts, .long t_momentDay, .int t_momentSecond, .int t_momentNano, .int t_momentOffset, .int t_readParts, .long t_readDay, .int t_readSecond, .int t_readNano, .int t_readOffset, .ref a_t_known, .ref a_t_value, .ref a_t_before, .ref a_t_open, .ref a_t_from, .int t_alike])), (a_t_sort, .inl (kk 0, 140, .inl t_sort)), (a_t_code, .inl (kk 0, 140, .inl t_code)), (a_t_count, .inl (kk 0, 140, .inl t_count)), (a_t_size, .inl (kk 0, 7, .inl t_size)), (a_t_wish, .inl (kk 0, 128, .inl t_wish)), (a_t_have, .inl (kk 0, 128, .inl t_have))] → va_S A s.heap H locs → W p l e rm_SkeletonClockModel_distanceTo s m args below meth c H locs 0 0 Q (F0 m 206 ls [])) → W p l e rm_SkeletonClockModel_distanceTo s m args below meth c H locs 0 0 Q (F0 m 81 ls []) := by
  intro n
  induction n with
  | zero =>
    intro x2 x3 v H locs ls he hl hP hD hS K
    exact ih_n he
  | succ n ih =>
    intro x2 x3 v H locs ls he hl hP hD hS K
    have hx := S.1
    have hb := S.2.1
    have he : st_SkeletonClockModel_distanceTo_81 t_wish t_have (lp_SkeletonClockModel_distanceTo_81 t_wish t_have n) x2 x3 = some v := he
    unfold st_SkeletonClockModel_distanceTo_81 at he
    refine lv_iload_n hx hb d_SkeletonClockModel_distanceTo_81 rfl (lv_at hl 2 rfl) ?_
    refine lv_sipush (v := (128 : Int32)) hx hb d_SkeletonClockModel_distanceTo_82 (by decide) ?_
    refine lv_icmp_ge (tgt := 206) hx hb d_SkeletonClockModel_distanceTo_85 rfl (fun hc => ?_) (fun hc => ?_)
    · have he := ih_t hc he
      have hl : lv_has ls 6 [(0, .ref a_t), (2, .int x2), (3, .int x3)] := lv_sub hl [0, 1, 2] rfl
      cases he
      exact K _ _ _ hl hP hD hS
    · have he := ih_f hc he
      refine lv_aload_n hx hb d_SkeletonClockModel_distanceTo_88 rfl (lv_at hl 0 rfl) ?_
      refine k_get S X us_SkeletonClockModel hP 0 rfl rfl 12 (by decide) gm_4_163 rfl d_SkeletonClockModel_distanceTo_89 ?_
      refine lv_iload_n hx hb d_SkeletonClockModel_distanceTo_92 rfl (lv_at hl 2 rfl) ?_
      obtain ⟨hi11, he⟩ := ih_g he
      refine va_iald hx hb X.1 hP 5 0 rfl rfl hi11 d_SkeletonClockModel_distanceTo_93 ?_
      refine lv_istore hx hb d_SkeletonClockModel_distanceTo_94 hl (by decide) rfl (fun ls hl => ?_)
      have hl : lv_has ls 6 [(4, .int (t_wish (x3).toNatClampNeg)), (0, .ref a_t), (2, .int x2), (3, .int x3)] := hl
      refine lv_aload_n hx hb d_SkeletonClockModel_distanceTo_96 rfl (lv_at hl 1 rfl) ?_
      refine k_get S X us_SkeletonClockModel hP 0 rfl rfl 13 (by decide) gm_4_164 rfl d_SkeletonClockModel_distanceTo_97 ?_
      refine lv_iload_n hx hb d_SkeletonClockModel_distanceTo_100 rfl (lv_at hl 3 rfl) ?_
      obtain ⟨hi12, he⟩ := ih_g he
      refine va_iald hx hb X.1 hP 6 0 rfl rfl hi12 d_SkeletonClockModel_distanceTo_101 ?_
      refine lv_istore hx hb d_SkeletonClockModel_distanceTo_102 hl (by decide) rfl (fun ls hl => ?_)
      have hl : lv_has ls 6 [(5, .int (t_have (x3).toNatClampNeg)), (4, .int (t_wish (x3).toNatClampNeg)), (0, .ref a_t), (2, .int x2), (3, .int x3)] := hl
      refine lv_iload hx hb d_SkeletonClockModel_distanceTo_104 (lv_at hl 1 rfl) ?_
      refine lv_if_ne (tgt := 117) hx hb d_SkeletonClockModel_distanceTo_106 rfl (fun hc => ?_) (fun hc => ?_)
      · have he := ih_f hc he
        refine lv_iload_n hx hb d_SkeletonClockModel_distanceTo_117 rfl (lv_at hl 3 rfl) ?_
        refine lv_iload hx hb d_SkeletonClockModel_distanceTo_118 (lv_at hl 1 rfl) ?_
        refine lv_if_eq (tgt := 128) hx hb d_SkeletonClockModel_distanceTo_120 rfl (fun hc => ?_) (fun hc => ?_)
        · have he := ih_t hc he
          refine lv_sipush (v := (1000 : Int32)) hx hb d_SkeletonClockModel_distanceTo_128 (by decide) ?_
          refine lv_goto (tgt := 154) hx hb d_SkeletonClockModel_distanceTo_131 rfl ?_
          refine lv_iadd hx hb d_SkeletonClockModel_distanceTo_154 ?_
          refine lv_istore_n hx hb d_SkeletonClockModel_distanceTo_155 rfl hl (by decide) rfl (fun ls hl => ?_)
          have hl : lv_has ls 6 [(2, .int (x2 + (1000 : Int32))), (5, .int (t_have (x3).toNatClampNeg)), (4, .int (t_wish (x3).toNatClampNeg)), (0, .ref a_t), (3, .int x3)] := hl
          refine lv_iload_n hx hb d_SkeletonClockModel_distanceTo_156 rfl (lv_at hl 4 rfl) ?_
          refine lv_bipush (v := (77 : Int32)) hx hb d_SkeletonClockModel_distanceTo_157 (by decide) ?_
          refine lv_icmp_ne (tgt := 200) hx hb d_SkeletonClockModel_distanceTo_159 rfl (fun hc => ?_) (fun hc => ?_)
          · have he := ih_f hc he
            refine lv_iinc (k := 4) hx hb d_SkeletonClockModel_distanceTo_200 hl rfl (ii_ (v := (1 : Int32)) (by decide)) (by decide) rfl (fun ls hl => ?_)
            have hl : lv_has ls 6 [(3, .int (x3 + (1 : Int32))), (2, .int (x2 + (1000 : Int32))), (5, .int (t_have (x3).toNatClampNeg)), (4, .int (t_wish (x3).toNatClampNeg)), (0, .ref a_t)] := hl
            refine lv_goto (tgt := 81) hx hb d_SkeletonClockModel_distanceTo_203 rfl ?_
            have hl : lv_has ls 6 [(0, .ref a_t), (2, .int (x2 + (1000 : Int32))), (3, .int (x3 + (1 : Int32)))] := lv_sub hl [4, 1, 0] rfl
            exact ih _ _ _ _ _ _ he hl hP hD hS K
          · have he := ih_t hc he
            refine lv_iload hx hb d_SkeletonClockModel_distanceTo_162 (lv_at hl 2 rfl) ?_
            refine lv_if_le (tgt := 200) hx hb d_SkeletonClockModel_distanceTo_164 rfl (fun hc => ?_) (fun hc => ?_)
            · have he := ih_t hc he
              refine lv_iinc (k := 4) hx hb d_SkeletonClockModel_distanceTo_200 hl rfl (ii_ (v := (1 : Int32)) (by decide)) (by decide) rfl (fun ls hl => ?_)
              have hl : lv_has ls 6 [(3, .int (x3 + (1 : Int32))), (2, .int (x2 + (1000 : Int32))), (5, .int (t_have (x3).toNatClampNeg)), (4, .int (t_wish (x3).toNatClampNeg)), (0, .ref a_t)] := hl
              refine lv_goto (tgt := 81) hx hb d_SkeletonClockModel_distanceTo_203 rfl ?_
              have hl : lv_has ls 6 [(0, .ref a_t), (2, .int (x2 + (1000 : Int32))), (3, .int (x3 + (1 : Int32)))] := lv_sub hl [4, 1, 0] rfl
              exact ih _ _ _ _ _ _ he hl hP hD hS K
            · have he := ih_f hc he
              refine lv_iload hx hb d_SkeletonClockModel_distanceTo_167 (lv_at hl 1 rfl) ?_
              refine lv_if_le (tgt := 200) hx hb d_SkeletonClockModel_distanceTo_169 rfl (fun hc => ?_) (fun hc => ?_)
              · have he := ih_t hc he
                refine lv_iinc (k := 4) hx hb d_SkeletonClockModel_distanceTo_200 hl rfl (ii_ (v := (1 : Int32)) (by decide)) (by decide) rfl (fun ls hl => ?_)
                have hl : lv_has ls 6 [(3, .int (x3 + (1 : Int32))), (2, .int (x2 + (1000 : Int32))), (5, .int (t_have (x3).toNatClampNeg)), (4, .int (t_wish (x3).toNatClampNeg)), (0, .ref a_t)] := hl
                refine lv_goto (tgt := 81) hx hb d_SkeletonClockModel_distanceTo_203 rfl ?_
                have hl : lv_has ls 6 [(0, .ref a_t), (2, .int (x2 + (1000 : Int32))), (3, .int (x3 + (1 : Int32)))] := lv_sub hl [4, 1, 0] rfl
                exact ih _ _ _ _ _ _ he hl hP hD hS K
              · have he := ih_f hc he
                refine lv_iload hx hb d_SkeletonClockModel_distanceTo_172 (lv_at hl 2 rfl) ?_
                refine lv_iconst (v := (2 : Int32)) hx hb d_SkeletonClockModel_distanceTo_174 (by decide) ?_
                refine lv_icmp_le (tgt := 182) hx hb d_SkeletonClockModel_distanceTo_175 rfl (fun hc => ?_) (fun hc => ?_)
                · have he := ih_t hc he
                  refine lv_iconst (v := (0 : Int32)) hx hb d_SkeletonClockModel_distanceTo_182 (by decide) ?_
                  refine lv_iload hx hb d_SkeletonClockModel_distanceTo_183 (lv_at hl 1 rfl) ?_
                  refine lv_iconst (v := (2 : Int32)) hx hb d_SkeletonClockModel_distanceTo_185 (by decide) ?_
                  refine lv_icmp_le (tgt := 193) hx hb d_SkeletonClockModel_distanceTo_186 rfl (fun hc => ?_) (fun hc => ?_)
                  · have he := ih_t hc he
                    refine lv_iconst (v := (0 : Int32)) hx hb d_SkeletonClockModel_distanceTo_193 (by decide) ?_
                    refine lv_icmp_eq (tgt := 200) hx hb d_SkeletonClockModel_distanceTo_194 rfl (fun hc => ?_) (fun hc => ?_)
                    · refine lv_iinc (k := 4) hx hb d_SkeletonClockModel_distanceTo_200 hl rfl (ii_ (v := (1 : Int32)) (by decide)) (by decide) rfl (fun ls hl => ?_)
                      have hl : lv_has ls 6 [(3, .int (x3 + (1 : Int32))), (2, .int (x2 + (1000 : Int32))), (5, .int (t_have (x3).toNatClampNeg)), (4, .int (t_wish (x3).toNatClampNeg)), (0, .ref a_t)] := hl
                      refine lv_goto (tgt := 81) hx hb d_SkeletonClockModel_distanceTo_203 rfl ?_
                      have hl : lv_has ls 6 [(0, .ref a_t), (2, .int (x2 + (1000 : Int32))), (3, .int (x3 + (1 : Int32)))] := lv_sub hl [4, 1, 0] rfl
                      exact ih _ _ _ _ _ _ he hl hP hD hS K
                    · exact absurd (by decide) hc
                  · have he := ih_f hc he
                    refine lv_iconst (v := (1 : Int32)) hx hb d_SkeletonClockModel_distanceTo_189 (by decide) ?_
                    refine lv_goto (tgt := 194) hx hb d_SkeletonClockModel_distanceTo_190 rfl ?_
                    refine lv_icmp_eq (tgt := 200) hx hb d_SkeletonClockModel_distanceTo_194 rfl (fun hc => ?_) (fun hc => ?_)
                    · exact absurd hc (by decide)
                    · refine lv_iinc (k := 0) hx hb d_SkeletonClockModel_distanceTo_197 hl rfl (ii_ (v := (100 : Int32)) (by decide)) (by decide) rfl (fun ls hl => ?_)
                      have hl : lv_has ls 6 [(2, .int ((x2 + (1000 : Int32)) + (100 : Int32))), (5, .int (t_have (x3).toNatClampNeg)), (4, .int (t_wish (x3).toNatClampNeg)), (0, .ref a_t), (3, .int x3)] := hl
                      refine lv_iinc (k := 4) hx hb d_SkeletonClockModel_distanceTo_200 hl rfl (ii_ (v := (1 : Int32)) (by decide)) (by decide) rfl (fun ls hl => ?_)
                      have hl : lv_has ls 6 [(3, .int (x3 + (1 : Int32))), (2, .int ((x2 + (1000 : Int32)) + (100 : Int32))), (5, .int (t_have (x3).toNatClampNeg)), (4, .int (t_wish (x3).toNatClampNeg)), (0, .ref a_t)] := hl
                      refine lv_goto (tgt := 81) hx hb d_SkeletonClockModel_distanceTo_203 rfl ?_
                      have hl : lv_has ls 6 [(0, .ref a_t), (2, .int ((x2 + (1000 : Int32)) + (100 : Int32))), (3, .int (x3 + (1 : Int32)))] := lv_sub hl [4, 1, 0] rfl
                      exact ih _ _ _ _ _ _ he hl hP hD hS K
                · have he := ih_f hc he
                  refine lv_iconst (v := (1 : Int32)) hx hb d_SkeletonClockModel_distanceTo_178 (by decide) ?_
                  refine lv_goto (tgt := 183) hx hb d_SkeletonClockModel_distanceTo_179 rfl ?_
                  refine lv_iload hx hb d_SkeletonClockModel_distanceTo_183 (lv_at hl 1 rfl) ?_
                  refine lv_iconst (v := (2 : Int32)) hx hb d_SkeletonClockModel_distanceTo_185 (by decide) ?_
                  refine lv_icmp_le (tgt := 193) hx hb d_SkeletonClockModel_distanceTo_186 rfl (fun hc => ?_) (fun hc => ?_)
                  · have he := ih_t hc he
                    refine lv_iconst (v := (0 : Int32)) hx hb d_SkeletonClockModel_distanceTo_193 (by decide) ?_
                    refine lv_icmp_eq (tgt := 200) hx hb d_SkeletonClockModel_distanceTo_194 rfl (fun hc => ?_) (fun hc => ?_)
                    · exact absurd hc (by decide)
                    · refine lv_iinc (k := 0) hx hb d_SkeletonClockModel_distanceTo_197 hl rfl (ii_ (v := (100 : Int32)) (by decide)) (by decide) rfl (fun ls hl => ?_)
                      have hl : lv_has ls 6 [(2, .int ((x2 + (1000 : Int32)) + (100 : Int32))), (5, .int (t_have (x3).toNatClampNeg)), (4, .int (t_wish (x3).toNatClampNeg)), (0, .ref a_t), (3, .int x3)] := hl
                      refine lv_iinc (k := 4) hx hb d_SkeletonClockModel_distanceTo_200 hl rfl (ii_ (v := (1 : Int32)) (by decide)) (by decide) rfl (fun ls hl => ?_)
                      have hl : lv_has ls 6 [(3, .int (x3 + (1 : Int32))), (2, .int ((x2 + (1000 : Int32)) + (100 : Int32))), (5, .int (t_have (x3).toNatClampNeg)), (4, .int (t_wish (x3).toNatClampNeg)), (0, .ref a_t)] := hl
                      refine lv_goto (tgt := 81) hx hb d_SkeletonClockModel_distanceTo_203 rfl ?_
                      have hl : lv_has ls 6 [(0, .ref a_t), (2, .int ((x2 + (1000 : Int32)) + (100 : Int32))), (3, .int (x3 + (1 : Int32)))] := lv_sub hl [4, 1, 0] rfl
                      exact ih _ _ _ _ _ _ he hl hP hD hS K
                  · have he := ih_f hc he
                    refine lv_iconst (v := (1 : Int32)) hx hb d_SkeletonClockModel_distanceTo_189 (by decide) ?_
                    refine lv_goto (tgt := 194) hx hb d_SkeletonClockModel_distanceTo_190 rfl ?_
                    refine lv_icmp_eq (tgt := 200) hx hb d_SkeletonClockModel_distanceTo_194 rfl (fun hc => ?_) (fun hc => ?_)
                    · refine lv_iinc (k := 4) hx hb d_SkeletonClockModel_distanceTo_200 hl rfl (ii_ (v := (1 : Int32)) (by decide)) (by decide) rfl (fun ls hl => ?_)
                      have hl : lv_has ls 6 [(3, .int (x3 + (1 : Int32))), (2, .int (x2 + (1000 : Int32))), (5, .int (t_have (x3).toNatClampNeg)), (4, .int (t_wish (x3).toNatClampNeg)), (0, .ref a_t)] := hl
                      refine lv_goto (tgt := 81) hx hb d_SkeletonClockModel_distanceTo_203 rfl ?_
                      have hl : lv_has ls 6 [(0, .ref a_t), (2, .int (x2 + (1000 : Int32))), (3, .int (x3 + (1 : Int32)))] := lv_sub hl [4, 1, 0] rfl
                      exact ih _ _ _ _ _ _ he hl hP hD hS K
                    · exact absurd (by decide) hc
        · have he := ih_f hc he
          refine lv_iload hx hb d_SkeletonClockModel_distanceTo_123 (lv_at hl 0 rfl) ?_
          refine lv_if_ne (tgt := 134) hx hb d_SkeletonClockModel_distanceTo_125 rfl (fun hc => ?_) (fun hc => ?_)
          · have he := ih_f hc he
            refine lv_iload hx hb d_SkeletonClockModel_distanceTo_134 (lv_at hl 1 rfl) ?_
            refine lv_iload hx hb d_SkeletonClockModel_distanceTo_136 (lv_at hl 0 rfl) ?_
            refine lv_icmp_le (tgt := 149) hx hb d_SkeletonClockModel_distanceTo_138 rfl (fun hc => ?_) (fun hc => ?_)
            · have he := ih_t hc he
              refine lv_iload hx hb d_SkeletonClockModel_distanceTo_149 (lv_at hl 0 rfl) ?_
              refine lv_iload hx hb d_SkeletonClockModel_distanceTo_151 (lv_at hl 1 rfl) ?_
              refine lv_isub hx hb d_SkeletonClockModel_distanceTo_153 ?_
              refine lv_iadd hx hb d_SkeletonClockModel_distanceTo_154 ?_
              refine lv_istore_n hx hb d_SkeletonClockModel_distanceTo_155 rfl hl (by decide) rfl (fun ls hl => ?_)
              have hl : lv_has ls 6 [(2, .int (x2 + ((t_have (x3).toNatClampNeg) - (t_wish (x3).toNatClampNeg)))), (5, .int (t_have (x3).toNatClampNeg)), (4, .int (t_wish (x3).toNatClampNeg)), (0, .ref a_t), (3, .int x3)] := hl
              refine lv_iload_n hx hb d_SkeletonClockModel_distanceTo_156 rfl (lv_at hl 4 rfl) ?_
              refine lv_bipush (v := (77 : Int32)) hx hb d_SkeletonClockModel_distanceTo_157 (by decide) ?_
              refine lv_icmp_ne (tgt := 200) hx hb d_SkeletonClockModel_distanceTo_159 rfl (fun hc => ?_) (fun hc => ?_)
              · have he := ih_f hc he
                refine lv_iinc (k := 4) hx hb d_SkeletonClockModel_distanceTo_200 hl rfl (ii_ (v := (1 : Int32)) (by decide)) (by decide) rfl (fun ls hl => ?_)
                have hl : lv_has ls 6 [(3, .int (x3 + (1 : Int32))), (2, .int (x2 + ((t_have (x3).toNatClampNeg) - (t_wish (x3).toNatClampNeg)))), (5, .int (t_have (x3).toNatClampNeg)), (4, .int (t_wish (x3).toNatClampNeg)), (0, .ref a_t)] := hl
                refine lv_goto (tgt := 81) hx hb d_SkeletonClockModel_distanceTo_203 rfl ?_
                have hl : lv_has ls 6 [(0, .ref a_t), (2, .int (x2 + ((t_have (x3).toNatClampNeg) - (t_wish (x3).toNatClampNeg)))), (3, .int (x3 + (1 : Int32)))] := lv_sub hl [4, 1, 0] rfl
                exact ih _ _ _ _ _ _ he hl hP hD hS K
              · have he := ih_t hc he
                refine lv_iload hx hb d_SkeletonClockModel_distanceTo_162 (lv_at hl 2 rfl) ?_
                refine lv_if_le (tgt := 200) hx hb d_SkeletonClockModel_distanceTo_164 rfl (fun hc => ?_) (fun hc => ?_)
                · have he := ih_t hc he
                  refine lv_iinc (k := 4) hx hb d_SkeletonClockModel_distanceTo_200 hl rfl (ii_ (v := (1 : Int32)) (by decide)) (by decide) rfl (fun ls hl => ?_)
                  have hl : lv_has ls 6 [(3, .int (x3 + (1 : Int32))), (2, .int (x2 + ((t_have (x3).toNatClampNeg) - (t_wish (x3).toNatClampNeg)))), (5, .int (t_have (x3).toNatClampNeg)), (4, .int (t_wish (x3).toNatClampNeg)), (0, .ref a_t)] := hl
                  refine lv_goto (tgt := 81) hx hb d_SkeletonClockModel_distanceTo_203 rfl ?_
                  have hl : lv_has ls 6 [(0, .ref a_t), (2, .int (x2 + ((t_have (x3).toNatClampNeg) - (t_wish (x3).toNatClampNeg)))), (3, .int (x3 + (1 : Int32)))] := lv_sub hl [4, 1, 0] rfl
                  exact ih _ _ _ _ _ _ he hl hP hD hS K
                · have he := ih_f hc he
                  refine lv_iload hx hb d_SkeletonClockModel_distanceTo_167 (lv_at hl 1 rfl) ?_
                  refine lv_if_le (tgt := 200) hx hb d_SkeletonClockModel_distanceTo_169 rfl (fun hc => ?_) (fun hc => ?_)
                  · have he := ih_t hc he
                    refine lv_iinc (k := 4) hx hb d_SkeletonClockModel_distanceTo_200 hl rfl (ii_ (v := (1 : Int32)) (by decide)) (by decide) rfl (fun ls hl => ?_)
                    have hl : lv_has ls 6 [(3, .int (x3 + (1 : Int32))), (2, .int (x2 + ((t_have (x3).toNatClampNeg) - (t_wish (x3).toNatClampNeg)))), (5, .int (t_have (x3).toNatClampNeg)), (4, .int (t_wish (x3).toNatClampNeg)), (0, .ref a_t)] := hl
                    refine lv_goto (tgt := 81) hx hb d_SkeletonClockModel_distanceTo_203 rfl ?_
                    have hl : lv_has ls 6 [(0, .ref a_t), (2, .int (x2 + ((t_have (x3).toNatClampNeg) - (t_wish (x3).toNatClampNeg)))), (3, .int (x3 + (1 : Int32)))] := lv_sub hl [4, 1, 0] rfl
                    exact ih _ _ _ _ _ _ he hl hP hD hS K
                  · have he := ih_f hc he
                    refine lv_iload hx hb d_SkeletonClockModel_distanceTo_172 (lv_at hl 2 rfl) ?_
                    refine lv_iconst (v := (2 : Int32)) hx hb d_SkeletonClockModel_distanceTo_174 (by decide) ?_
                    refine lv_icmp_le (tgt := 182) hx hb d_SkeletonClockModel_distanceTo_175 rfl (fun hc => ?_) (fun hc => ?_)
                    · have he := ih_t hc he
                      refine lv_iconst (v := (0 : Int32)) hx hb d_SkeletonClockModel_distanceTo_182 (by decide) ?_
                      refine lv_iload hx hb d_SkeletonClockModel_distanceTo_183 (lv_at hl 1 rfl) ?_
                      refine lv_iconst (v := (2 : Int32)) hx hb d_SkeletonClockModel_distanceTo_185 (by decide) ?_
                      refine lv_icmp_le (tgt := 193) hx hb d_SkeletonClockModel_distanceTo_186 rfl (fun hc => ?_) (fun hc => ?_)
                      · have he := ih_t hc he
                        refine lv_iconst (v := (0 : Int32)) hx hb d_SkeletonClockModel_distanceTo_193 (by decide) ?_
                        refine lv_icmp_eq (tgt := 200) hx hb d_SkeletonClockModel_distanceTo_194 rfl (fun hc => ?_) (fun hc => ?_)
                        · refine lv_iinc (k := 4) hx hb d_SkeletonClockModel_distanceTo_200 hl rfl (ii_ (v := (1 : Int32)) (by decide)) (by decide) rfl (fun ls hl => ?_)
                          have hl : lv_has ls 6 [(3, .int (x3 + (1 : Int32))), (2, .int (x2 + ((t_have (x3).toNatClampNeg) - (t_wish (x3).toNatClampNeg)))), (5, .int (t_have (x3).toNatClampNeg)), (4, .int (t_wish (x3).toNatClampNeg)), (0, .ref a_t)] := hl
                          refine lv_goto (tgt := 81) hx hb d_SkeletonClockModel_distanceTo_203 rfl ?_
                          have hl : lv_has ls 6 [(0, .ref a_t), (2, .int (x2 + ((t_have (x3).toNatClampNeg) - (t_wish (x3).toNatClampNeg)))), (3, .int (x3 + (1 : Int32)))] := lv_sub hl [4, 1, 0] rfl
                          exact ih _ _ _ _ _ _ he hl hP hD hS K
                        · exact absurd (by decide) hc
                      · have he := ih_f hc he
                        refine lv_iconst (v := (1 : Int32)) hx hb d_SkeletonClockModel_distanceTo_189 (by decide) ?_
                        refine lv_goto (tgt := 194) hx hb d_SkeletonClockModel_distanceTo_190 rfl ?_
                        refine lv_icmp_eq (tgt := 200) hx hb d_SkeletonClockModel_distanceTo_194 rfl (fun hc => ?_) (fun hc => ?_)
                        · exact absurd hc (by decide)
                        · refine lv_iinc (k := 0) hx hb d_SkeletonClockModel_distanceTo_197 hl rfl (ii_ (v := (100 : Int32)) (by decide)) (by decide) rfl (fun ls hl => ?_)
                          have hl : lv_has ls 6 [(2, .int ((x2 + ((t_have (x3).toNatClampNeg) - (t_wish (x3).toNatClampNeg))) + (100 : Int32))), (5, .int (t_have (x3).toNatClampNeg)), (4, .int (t_wish (x3).toNatClampNeg)), (0, .ref a_t), (3, .int x3)] := hl
                          refine lv_iinc (k := 4) hx hb d_SkeletonClockModel_distanceTo_200 hl rfl (ii_ (v := (1 : Int32)) (by decide)) (by decide) rfl (fun ls hl => ?_)
                          have hl : lv_has ls 6 [(3, .int (x3 + (1 : Int32))), (2, .int ((x2 + ((t_have (x3).toNatClampNeg) - (t_wish (x3).toNatClampNeg))) + (100 : Int32))), (5, .int (t_have (x3).toNatClampNeg)), (4, .int (t_wish (x3).toNatClampNeg)), (0, .ref a_t)] := hl
                          refine lv_goto (tgt := 81) hx hb d_SkeletonClockModel_distanceTo_203 rfl ?_
                          have hl : lv_has ls 6 [(0, .ref a_t), (2, .int ((x2 + ((t_have (x3).toNatClampNeg) - (t_wish (x3).toNatClampNeg))) + (100 : Int32))), (3, .int (x3 + (1 : Int32)))] := lv_sub hl [4, 1, 0] rfl
                          exact ih _ _ _ _ _ _ he hl hP hD hS K
                    · have he := ih_f hc he
                      refine lv_iconst (v := (1 : Int32)) hx hb d_SkeletonClockModel_distanceTo_178 (by decide) ?_
                      refine lv_goto (tgt := 183) hx hb d_SkeletonClockModel_distanceTo_179 rfl ?_
                      refine lv_iload hx hb d_SkeletonClockModel_distanceTo_183 (lv_at hl 1 rfl) ?_
                      refine lv_iconst (v := (2 : Int32)) hx hb d_SkeletonClockModel_distanceTo_185 (by decide) ?_
                      refine lv_icmp_le (tgt := 193) hx hb d_SkeletonClockModel_distanceTo_186 rfl (fun hc => ?_) (fun hc => ?_)
                      · have he := ih_t hc he
                        refine lv_iconst (v := (0 : Int32)) hx hb d_SkeletonClockModel_distanceTo_193 (by decide) ?_
                        refine lv_icmp_eq (tgt := 200) hx hb d_SkeletonClockModel_distanceTo_194 rfl (fun hc => ?_) (fun hc => ?_)
                        · exact absurd hc (by decide)
                        · refine lv_iinc (k := 0) hx hb d_SkeletonClockModel_distanceTo_197 hl rfl (ii_ (v := (100 : Int32)) (by decide)) (by decide) rfl (fun ls hl => ?_)
                          have hl : lv_has ls 6 [(2, .int ((x2 + ((t_have (x3).toNatClampNeg) - (t_wish (x3).toNatClampNeg))) + (100 : Int32))), (5, .int (t_have (x3).toNatClampNeg)), (4, .int (t_wish (x3).toNatClampNeg)), (0, .ref a_t), (3, .int x3)] := hl
                          refine lv_iinc (k := 4) hx hb d_SkeletonClockModel_distanceTo_200 hl rfl (ii_ (v := (1 : Int32)) (by decide)) (by decide) rfl (fun ls hl => ?_)
                          have hl : lv_has ls 6 [(3, .int (x3 + (1 : Int32))), (2, .int ((x2 + ((t_have (x3).toNatClampNeg) - (t_wish (x3).toNatClampNeg))) + (100 : Int32))), (5, .int (t_have (x3).toNatClampNeg)), (4, .int (t_wish (x3).toNatClampNeg)), (0, .ref a_t)] := hl
                          refine lv_goto (tgt := 81) hx hb d_SkeletonClockModel_distanceTo_203 rfl ?_
                          have hl : lv_has ls 6 [(0, .ref a_t), (2, .int ((x2 + ((t_have (x3).toNatClampNeg) - (t_wish (x3).toNatClampNeg))) + (100 : Int32))), (3, .int (x3 + (1 : Int32)))] := lv_sub hl [4, 1, 0] rfl
                          exact ih _ _ _ _ _ _ he hl hP hD hS K
                      · have he := ih_f hc he
                        refine lv_iconst (v := (1 : Int32)) hx hb d_SkeletonClockModel_distanceTo_189 (by decide) ?_
                        refine lv_goto (tgt := 194) hx hb d_SkeletonClockModel_distanceTo_190 rfl ?_
                        refine lv_icmp_eq (tgt := 200) hx hb d_SkeletonClockModel_distanceTo_194 rfl (fun hc => ?_) (fun hc => ?_)
                        · refine lv_iinc (k := 4) hx hb d_SkeletonClockModel_distanceTo_200 hl rfl (ii_ (v := (1 : Int32)) (by decide)) (by decide) rfl (fun ls hl => ?_)
                          have hl : lv_has ls 6 [(3, .int (x3 + (1 : Int32))), (2, .int (x2 + ((t_have (x3).toNatClampNeg) - (t_wish (x3).toNatClampNeg)))), (5, .int (t_have (x3).toNatClampNeg)), (4, .int (t_wish (x3).toNatClampNeg)), (0, .ref a_t)] := hl
                          refine lv_goto (tgt := 81) hx hb d_SkeletonClockModel_distanceTo_203 rfl ?_
                          have hl : lv_has ls 6 [(0, .ref a_t), (2, .int (x2 + ((t_have (x3).toNatClampNeg) - (t_wish (x3).toNatClampNeg)))), (3, .int (x3 + (1 : Int32)))] := lv_sub hl [4, 1, 0] rfl
                          exact ih _ _ _ _ _ _ he hl hP hD hS K
                        · exact absurd (by decide) hc
            · have he := ih_f hc he
              refine lv_iload hx hb d_SkeletonClockModel_distanceTo_141 (lv_at hl 1 rfl) ?_
              refine lv_iload hx hb d_SkeletonClockModel_distanceTo_143 (lv_at hl 0 rfl) ?_
              refine lv_isub hx hb d_SkeletonClockModel_distanceTo_145 ?_
              refine lv_goto (tgt := 154) hx hb d_SkeletonClockModel_distanceTo_146 rfl ?_
              refine lv_iadd hx hb d_SkeletonClockModel_distanceTo_154 ?_
              refine lv_istore_n hx hb d_SkeletonClockModel_distanceTo_155 rfl hl (by decide) rfl (fun ls hl => ?_)
              have hl : lv_has ls 6 [(2, .int (x2 + ((t_wish (x3).toNatClampNeg) - (t_have (x3).toNatClampNeg)))), (5, .int (t_have (x3).toNatClampNeg)), (4, .int (t_wish (x3).toNatClampNeg)), (0, .ref a_t), (3, .int x3)] := hl
              refine lv_iload_n hx hb d_SkeletonClockModel_distanceTo_156 rfl (lv_at hl 4 rfl) ?_
              refine lv_bipush (v := (77 : Int32)) hx hb d_SkeletonClockModel_distanceTo_157 (by decide) ?_
              refine lv_icmp_ne (tgt := 200) hx hb d_SkeletonClockModel_distanceTo_159 rfl (fun hc => ?_) (fun hc => ?_)
              · have he := ih_f hc he
                refine lv_iinc (k := 4) hx hb d_SkeletonClockModel_distanceTo_200 hl rfl (ii_ (v := (1 : Int32)) (by decide)) (by decide) rfl (fun ls hl => ?_)
                have hl : lv_has ls 6 [(3, .int (x3 + (1 : Int32))), (2, .int (x2 + ((t_wish (x3).toNatClampNeg) - (t_have (x3).toNatClampNeg)))), (5, .int (t_have (x3).toNatClampNeg)), (4, .int (t_wish (x3).toNatClampNeg)), (0, .ref a_t)] := hl
                refine lv_goto (tgt := 81) hx hb d_SkeletonClockModel_distanceTo_203 rfl ?_
                have hl : lv_has ls 6 [(0, .ref a_t), (2, .int (x2 + ((t_wish (x3).toNatClampNeg) - (t_have (x3).toNatClampNeg)))), (3, .int (x3 + (1 : Int32)))] := lv_sub hl [4, 1, 0] rfl
                exact ih _ _ _ _ _ _ he hl hP hD hS K
              · have he := ih_t hc he
                refine lv_iload hx hb d_SkeletonClockModel_distanceTo_162 (lv_at hl 2 rfl) ?_
                refine lv_if_le (tgt := 200) hx hb d_SkeletonClockModel_distanceTo_164 rfl (fun hc => ?_) (fun hc => ?_)
                · have he := ih_t hc he
                  refine lv_iinc (k := 4) hx hb d_SkeletonClockModel_distanceTo_200 hl rfl (ii_ (v := (1 : Int32)) (by decide)) (by decide) rfl (fun ls hl => ?_)
                  have hl : lv_has ls 6 [(3, .int (x3 + (1 : Int32))), (2, .int (x2 + ((t_wish (x3).toNatClampNeg) - (t_have (x3).toNatClampNeg)))), (5, .int (t_have (x3).toNatClampNeg)), (4, .int (t_wish (x3).toNatClampNeg)), (0, .ref a_t)] := hl
                  refine lv_goto (tgt := 81) hx hb d_SkeletonClockModel_distanceTo_203 rfl ?_
                  have hl : lv_has ls 6 [(0, .ref a_t), (2, .int (x2 + ((t_wish (x3).toNatClampNeg) - (t_have (x3).toNatClampNeg)))), (3, .int (x3 + (1 : Int32)))] := lv_sub hl [4, 1, 0] rfl
                  exact ih _ _ _ _ _ _ he hl hP hD hS K
                · have he := ih_f hc he
                  refine lv_iload hx hb d_SkeletonClockModel_distanceTo_167 (lv_at hl 1 rfl) ?_
                  refine lv_if_le (tgt := 200) hx hb d_SkeletonClockModel_distanceTo_169 rfl (fun hc => ?_) (fun hc => ?_)
                  · have he := ih_t hc he
                    refine lv_iinc (k := 4) hx hb d_SkeletonClockModel_distanceTo_200 hl rfl (ii_ (v := (1 : Int32)) (by decide)) (by decide) rfl (fun ls hl => ?_)
                    have hl : lv_has ls 6 [(3, .int (x3 + (1 : Int32))), (2, .int (x2 + ((t_wish (x3).toNatClampNeg) - (t_have (x3).toNatClampNeg)))), (5, .int (t_have (x3).toNatClampNeg)), (4, .int (t_wish (x3).toNatClampNeg)), (0, .ref a_t)] := hl
                    refine lv_goto (tgt := 81) hx hb d_SkeletonClockModel_distanceTo_203 rfl ?_
                    have hl : lv_has ls 6 [(0, .ref a_t), (2, .int (x2 + ((t_wish (x3).toNatClampNeg) - (t_have (x3).toNatClampNeg)))), (3, .int (x3 + (1 : Int32)))] := lv_sub hl [4, 1, 0] rfl
                    exact ih _ _ _ _ _ _ he hl hP hD hS K
                  · have he := ih_f hc he
                    refine lv_iload hx hb d_SkeletonClockModel_distanceTo_172 (lv_at hl 2 rfl) ?_
                    refine lv_iconst (v := (2 : Int32)) hx hb d_SkeletonClockModel_distanceTo_174 (by decide) ?_
                    refine lv_icmp_le (tgt := 182) hx hb d_SkeletonClockModel_distanceTo_175 rfl (fun hc => ?_) (fun hc => ?_)
                    · have he := ih_t hc he
                      refine lv_iconst (v := (0 : Int32)) hx hb d_SkeletonClockModel_distanceTo_182 (by decide) ?_
                      refine lv_iload hx hb d_SkeletonClockModel_distanceTo_183 (lv_at hl 1 rfl) ?_
                      refine lv_iconst (v := (2 : Int32)) hx hb d_SkeletonClockModel_distanceTo_185 (by decide) ?_
                      refine lv_icmp_le (tgt := 193) hx hb d_SkeletonClockModel_distanceTo_186 rfl (fun hc => ?_) (fun hc => ?_)
                      · have he := ih_t hc he
                        refine lv_iconst (v := (0 : Int32)) hx hb d_SkeletonClockModel_distanceTo_193 (by decide) ?_
                        refine lv_icmp_eq (tgt := 200) hx hb d_SkeletonClockModel_distanceTo_194 rfl (fun hc => ?_) (fun hc => ?_)
                        · refine lv_iinc (k := 4) hx hb d_SkeletonClockModel_distanceTo_200 hl rfl (ii_ (v := (1 : Int32)) (by decide)) (by decide) rfl (fun ls hl => ?_)
                          have hl : lv_has ls 6 [(3, .int (x3 + (1 : Int32))), (2, .int (x2 + ((t_wish (x3).toNatClampNeg) - (t_have (x3).toNatClampNeg)))), (5, .int (t_have (x3).toNatClampNeg)), (4, .int (t_wish (x3).toNatClampNeg)), (0, .ref a_t)] := hl
                          refine lv_goto (tgt := 81) hx hb d_SkeletonClockModel_distanceTo_203 rfl ?_
                          have hl : lv_has ls 6 [(0, .ref a_t), (2, .int (x2 + ((t_wish (x3).toNatClampNeg) - (t_have (x3).toNatClampNeg)))), (3, .int (x3 + (1 : Int32)))] := lv_sub hl [4, 1, 0] rfl
                          exact ih _ _ _ _ _ _ he hl hP hD hS K
                        · exact absurd (by decide) hc
                      · have he := ih_f hc he
                        refine lv_iconst (v := (1 : Int32)) hx hb d_SkeletonClockModel_distanceTo_189 (by decide) ?_
                        refine lv_goto (tgt := 194) hx hb d_SkeletonClockModel_distanceTo_190 rfl ?_
                        refine lv_icmp_eq (tgt := 200) hx hb d_SkeletonClockModel_distanceTo_194 rfl (fun hc => ?_) (fun hc => ?_)
                        · exact absurd hc (by decide)
                        · refine lv_iinc (k := 0) hx hb d_SkeletonClockModel_distanceTo_197 hl rfl (ii_ (v := (100 : Int32)) (by decide)) (by decide) rfl (fun ls hl => ?_)
                          have hl : lv_has ls 6 [(2, .int ((x2 + ((t_wish (x3).toNatClampNeg) - (t_have (x3).toNatClampNeg))) + (100 : Int32))), (5, .int (t_have (x3).toNatClampNeg)), (4, .int (t_wish (x3).toNatClampNeg)), (0, .ref a_t), (3, .int x3)] := hl
                          refine lv_iinc (k := 4) hx hb d_SkeletonClockModel_distanceTo_200 hl rfl (ii_ (v := (1 : Int32)) (by decide)) (by decide) rfl (fun ls hl => ?_)
                          have hl : lv_has ls 6 [(3, .int (x3 + (1 : Int32))), (2, .int ((x2 + ((t_wish (x3).toNatClampNeg) - (t_have (x3).toNatClampNeg))) + (100 : Int32))), (5, .int (t_have (x3).toNatClampNeg)), (4, .int (t_wish (x3).toNatClampNeg)), (0, .ref a_t)] := hl
                          refine lv_goto (tgt := 81) hx hb d_SkeletonClockModel_distanceTo_203 rfl ?_
                          have hl : lv_has ls 6 [(0, .ref a_t), (2, .int ((x2 + ((t_wish (x3).toNatClampNeg) - (t_have (x3).toNatClampNeg))) + (100 : Int32))), (3, .int (x3 + (1 : Int32)))] := lv_sub hl [4, 1, 0] rfl
                          exact ih _ _ _ _ _ _ he hl hP hD hS K
                    · have he := ih_f hc he
                      refine lv_iconst (v := (1 : Int32)) hx hb d_SkeletonClockModel_distanceTo_178 (by decide) ?_
                      refine lv_goto (tgt := 183) hx hb d_SkeletonClockModel_distanceTo_179 rfl ?_
                      refine lv_iload hx hb d_SkeletonClockModel_distanceTo_183 (lv_at hl 1 rfl) ?_
                      refine lv_iconst (v := (2 : Int32)) hx hb d_SkeletonClockModel_distanceTo_185 (by decide) ?_
                      refine lv_icmp_le (tgt := 193) hx hb d_SkeletonClockModel_distanceTo_186 rfl (fun hc => ?_) (fun hc => ?_)
                      · have he := ih_t hc he
                        refine lv_iconst (v := (0 : Int32)) hx hb d_SkeletonClockModel_distanceTo_193 (by decide) ?_
                        refine lv_icmp_eq (tgt := 200) hx hb d_SkeletonClockModel_distanceTo_194 rfl (fun hc => ?_) (fun hc => ?_)
                        · exact absurd hc (by decide)
                        · refine lv_iinc (k := 0) hx hb d_SkeletonClockModel_distanceTo_197 hl rfl (ii_ (v := (100 : Int32)) (by decide)) (by decide) rfl (fun ls hl => ?_)
                          have hl : lv_has ls 6 [(2, .int ((x2 + ((t_wish (x3).toNatClampNeg) - (t_have (x3).toNatClampNeg))) + (100 : Int32))), (5, .int (t_have (x3).toNatClampNeg)), (4, .int (t_wish (x3).toNatClampNeg)), (0, .ref a_t), (3, .int x3)] := hl
                          refine lv_iinc (k := 4) hx hb d_SkeletonClockModel_distanceTo_200 hl rfl (ii_ (v := (1 : Int32)) (by decide)) (by decide) rfl (fun ls hl => ?_)
                          have hl : lv_has ls 6 [(3, .int (x3 + (1 : Int32))), (2, .int ((x2 + ((t_wish (x3).toNatClampNeg) - (t_have (x3).toNatClampNeg))) + (100 : Int32))), (5, .int (t_have (x3).toNatClampNeg)), (4, .int (t_wish (x3).toNatClampNeg)), (0, .ref a_t)] := hl
                          refine lv_goto (tgt := 81) hx hb d_SkeletonClockModel_distanceTo_203 rfl ?_
                          have hl : lv_has ls 6 [(0, .ref a_t), (2, .int ((x2 + ((t_wish (x3).toNatClampNeg) - (t_have (x3).toNatClampNeg))) + (100 : Int32))), (3, .int (x3 + (1 : Int32)))] := lv_sub hl [4, 1, 0] rfl
                          exact ih _ _ _ _ _ _ he hl hP hD hS K
                      · have he := ih_f hc he
                        refine lv_iconst (v := (1 : Int32)) hx hb d_SkeletonClockModel_distanceTo_189 (by decide) ?_
                        refine lv_goto (tgt := 194) hx hb d_SkeletonClockModel_distanceTo_190 rfl ?_
                        refine lv_icmp_eq (tgt := 200) hx hb d_SkeletonClockModel_distanceTo_194 rfl (fun hc => ?_) (fun hc => ?_)
                        · refine lv_iinc (k := 4) hx hb d_SkeletonClockModel_distanceTo_200 hl rfl (ii_ (v := (1 : Int32)) (by decide)) (by decide) rfl (fun ls hl => ?_)
                          have hl : lv_has ls 6 [(3, .int (x3 + (1 : Int32))), (2, .int (x2 + ((t_wish (x3).toNatClampNeg) - (t_have (x3).toNatClampNeg)))), (5, .int (t_have (x3).toNatClampNeg)), (4, .int (t_wish (x3).toNatClampNeg)), (0, .ref a_t)] := hl
                          refine lv_goto (tgt := 81) hx hb d_SkeletonClockModel_distanceTo_203 rfl ?_
                          have hl : lv_has ls 6 [(0, .ref a_t), (2, .int (x2 + ((t_wish (x3).toNatClampNeg) - (t_have (x3).toNatClampNeg)))), (3, .int (x3 + (1 : Int32)))] := lv_sub hl [4, 1, 0] rfl
                          exact ih _ _ _ _ _ _ he hl hP hD hS K
                        · exact absurd (by decide) hc
          · have he := ih_t hc he
            refine lv_sipush (v := (1000 : Int32)) hx hb d_SkeletonClockModel_distanceTo_128 (by decide) ?_
            refine lv_goto (tgt := 154) hx hb d_SkeletonClockModel_distanceTo_131 rfl ?_
            refine lv_iadd hx hb d_SkeletonClockModel_distanceTo_154 ?_
            refine lv_istore_n hx hb d_SkeletonClockModel_distanceTo_155 rfl hl (by decide) rfl (fun ls hl => ?_)
            have hl : lv_has ls 6 [(2, .int (x2 + (1000 : Int32))), (5, .int (t_have (x3).toNatClampNeg)), (4, .int (t_wish (x3).toNatClampNeg)), (0, .ref a_t), (3, .int x3)] := hl
            refine lv_iload_n hx hb d_SkeletonClockModel_distanceTo_156 rfl (lv_at hl 4 rfl) ?_
            refine lv_bipush (v := (77 : Int32)) hx hb d_SkeletonClockModel_distanceTo_157 (by decide) ?_
            refine lv_icmp_ne (tgt := 200) hx hb d_SkeletonClockModel_distanceTo_159 rfl (fun hc => ?_) (fun hc => ?_)
            · have he := ih_f hc he
              refine lv_iinc (k := 4) hx hb d_SkeletonClockModel_distanceTo_200 hl rfl (ii_ (v := (1 : Int32)) (by decide)) (by decide) rfl (fun ls hl => ?_)
              have hl : lv_has ls 6 [(3, .int (x3 + (1 : Int32))), (2, .int (x2 + (1000 : Int32))), (5, .int (t_have (x3).toNatClampNeg)), (4, .int (t_wish (x3).toNatClampNeg)), (0, .ref a_t)] := hl
              refine lv_goto (tgt := 81) hx hb d_SkeletonClockModel_distanceTo_203 rfl ?_
              have hl : lv_has ls 6 [(0, .ref a_t), (2, .int (x2 + (1000 : Int32))), (3, .int (x3 + (1 : Int32)))] := lv_sub hl [4, 1, 0] rfl
              exact ih _ _ _ _ _ _ he hl hP hD hS K
            · have he := ih_t hc he
              refine lv_iload hx hb d_SkeletonClockModel_distanceTo_162 (lv_at hl 2 rfl) ?_
              refine lv_if_le (tgt := 200) hx hb d_SkeletonClockModel_distanceTo_164 rfl (fun hc => ?_) (fun hc => ?_)
              · have he := ih_t hc he
                refine lv_iinc (k := 4) hx hb d_SkeletonClockModel_distanceTo_200 hl rfl (ii_ (v := (1 : Int32)) (by decide)) (by decide) rfl (fun ls hl => ?_)
                have hl : lv_has ls 6 [(3, .int (x3 + (1 : Int32))), (2, .int (x2 + (1000 : Int32))), (5, .int (t_have (x3).toNatClampNeg)), (4, .int (t_wish (x3).toNatClampNeg)), (0, .ref a_t)] := hl
                refine lv_goto (tgt := 81) hx hb d_SkeletonClockModel_distanceTo_203 rfl ?_
                have hl : lv_has ls 6 [(0, .ref a_t), (2, .int (x2 + (1000 : Int32))), (3, .int (x3 + (1 : Int32)))] := lv_sub hl [4, 1, 0] rfl
                exact ih _ _ _ _ _ _ he hl hP hD hS K
              · have he := ih_f hc he
                refine lv_iload hx hb d_SkeletonClockModel_distanceTo_167 (lv_at hl 1 rfl) ?_
                refine lv_if_le (tgt := 200) hx hb d_SkeletonClockModel_distanceTo_169 rfl (fun hc => ?_) (fun hc => ?_)
                · have he := ih_t hc he
                  refine lv_iinc (k := 4) hx hb d_SkeletonClockModel_distanceTo_200 hl rfl (ii_ (v := (1 : Int32)) (by decide)) (by decide) rfl (fun ls hl => ?_)
                  have hl : lv_has ls 6 [(3, .int (x3 + (1 : Int32))), (2, .int (x2 + (1000 : Int32))), (5, .int (t_have (x3).toNatClampNeg)), (4, .int (t_wish (x3).toNatClampNeg)), (0, .ref a_t)] := hl
                  refine lv_goto (tgt := 81) hx hb d_SkeletonClockModel_distanceTo_203 rfl ?_
                  have hl : lv_has ls 6 [(0, .ref a_t), (2, .int (x2 + (1000 : Int32))), (3, .int (x3 + (1 : Int32)))] := lv_sub hl [4, 1, 0] rfl
                  exact ih _ _ _ _ _ _ he hl hP hD hS K
                · have he := ih_f hc he
                  refine lv_iload hx hb d_SkeletonClockModel_distanceTo_172 (lv_at hl 2 rfl) ?_
                  refine lv_iconst (v := (2 : Int32)) hx hb d_SkeletonClockModel_distanceTo_174 (by decide) ?_
                  refine lv_icmp_le (tgt := 182) hx hb d_SkeletonClockModel_distanceTo_175 rfl (fun hc => ?_) (fun hc => ?_)
                  · have he := ih_t hc he
                    refine lv_iconst (v := (0 : Int32)) hx hb d_SkeletonClockModel_distanceTo_182 (by decide) ?_
                    refine lv_iload hx hb d_SkeletonClockModel_distanceTo_183 (lv_at hl 1 rfl) ?_
                    refine lv_iconst (v := (2 : Int32)) hx hb d_SkeletonClockModel_distanceTo_185 (by decide) ?_
                    refine lv_icmp_le (tgt := 193) hx hb d_SkeletonClockModel_distanceTo_186 rfl (fun hc => ?_) (fun hc => ?_)
                    · have he := ih_t hc he
                      refine lv_iconst (v := (0 : Int32)) hx hb d_SkeletonClockModel_distanceTo_193 (by decide) ?_
                      refine lv_icmp_eq (tgt := 200) hx hb d_SkeletonClockModel_distanceTo_194 rfl (fun hc => ?_) (fun hc => ?_)
                      · refine lv_iinc (k := 4) hx hb d_SkeletonClockModel_distanceTo_200 hl rfl (ii_ (v := (1 : Int32)) (by decide)) (by decide) rfl (fun ls hl => ?_)
                        have hl : lv_has ls 6 [(3, .int (x3 + (1 : Int32))), (2, .int (x2 + (1000 : Int32))), (5, .int (t_have (x3).toNatClampNeg)), (4, .int (t_wish (x3).toNatClampNeg)), (0, .ref a_t)] := hl
                        refine lv_goto (tgt := 81) hx hb d_SkeletonClockModel_distanceTo_203 rfl ?_
                        have hl : lv_has ls 6 [(0, .ref a_t), (2, .int (x2 + (1000 : Int32))), (3, .int (x3 + (1 : Int32)))] := lv_sub hl [4, 1, 0] rfl
                        exact ih _ _ _ _ _ _ he hl hP hD hS K
                      · exact absurd (by decide) hc
                    · have he := ih_f hc he
                      refine lv_iconst (v := (1 : Int32)) hx hb d_SkeletonClockModel_distanceTo_189 (by decide) ?_
                      refine lv_goto (tgt := 194) hx hb d_SkeletonClockModel_distanceTo_190 rfl ?_
                      refine lv_icmp_eq (tgt := 200) hx hb d_SkeletonClockModel_distanceTo_194 rfl (fun hc => ?_) (fun hc => ?_)
                      · exact absurd hc (by decide)
                      · refine lv_iinc (k := 0) hx hb d_SkeletonClockModel_distanceTo_197 hl rfl (ii_ (v := (100 : Int32)) (by decide)) (by decide) rfl (fun ls hl => ?_)
                        have hl : lv_has ls 6 [(2, .int ((x2 + (1000 : Int32)) + (100 : Int32))), (5, .int (t_have (x3).toNatClampNeg)), (4, .int (t_wish (x3).toNatClampNeg)), (0, .ref a_t), (3, .int x3)] := hl
                        refine lv_iinc (k := 4) hx hb d_SkeletonClockModel_distanceTo_200 hl rfl (ii_ (v := (1 : Int32)) (by decide)) (by decide) rfl (fun ls hl => ?_)
                        have hl : lv_has ls 6 [(3, .int (x3 + (1 : Int32))), (2, .int ((x2 + (1000 : Int32)) + (100 : Int32))), (5, .int (t_have (x3).toNatClampNeg)), (4, .int (t_wish (x3).toNatClampNeg)), (0, .ref a_t)] := hl
                        refine lv_goto (tgt := 81) hx hb d_SkeletonClockModel_distanceTo_203 rfl ?_
                        have hl : lv_has ls 6 [(0, .ref a_t), (2, .int ((x2 + (1000 : Int32)) + (100 : Int32))), (3, .int (x3 + (1 : Int32)))] := lv_sub hl [4, 1, 0] rfl
                        exact ih _ _ _ _ _ _ he hl hP hD hS K
                  · have he := ih_f hc he
                    refine lv_iconst (v := (1 : Int32)) hx hb d_SkeletonClockModel_distanceTo_178 (by decide) ?_
                    refine lv_goto (tgt := 183) hx hb d_SkeletonClockModel_distanceTo_179 rfl ?_
                    refine lv_iload hx hb d_SkeletonClockModel_distanceTo_183 (lv_at hl 1 rfl) ?_
                    refine lv_iconst (v := (2 : Int32)) hx hb d_SkeletonClockModel_distanceTo_185 (by decide) ?_
                    refine lv_icmp_le (tgt := 193) hx hb d_SkeletonClockModel_distanceTo_186 rfl (fun hc => ?_) (fun hc => ?_)
                    · have he := ih_t hc he
                      refine lv_iconst (v := (0 : Int32)) hx hb d_SkeletonClockModel_distanceTo_193 (by decide) ?_
                      refine lv_icmp_eq (tgt := 200) hx hb d_SkeletonClockModel_distanceTo_194 rfl (fun hc => ?_) (fun hc => ?_)
                      · exact absurd hc (by decide)
                      · refine lv_iinc (k := 0) hx hb d_SkeletonClockModel_distanceTo_197 hl rfl (ii_ (v := (100 : Int32)) (by decide)) (by decide) rfl (fun ls hl => ?_)
                        have hl : lv_has ls 6 [(2, .int ((x2 + (1000 : Int32)) + (100 : Int32))), (5, .int (t_have (x3).toNatClampNeg)), (4, .int (t_wish (x3).toNatClampNeg)), (0, .ref a_t), (3, .int x3)] := hl
                        refine lv_iinc (k := 4) hx hb d_SkeletonClockModel_distanceTo_200 hl rfl (ii_ (v := (1 : Int32)) (by decide)) (by decide) rfl (fun ls hl => ?_)
                        have hl : lv_has ls 6 [(3, .int (x3 + (1 : Int32))), (2, .int ((x2 + (1000 : Int32)) + (100 : Int32))), (5, .int (t_have (x3).toNatClampNeg)), (4, .int (t_wish (x3).toNatClampNeg)), (0, .ref a_t)] := hl
                        refine lv_goto (tgt := 81) hx hb d_SkeletonClockModel_distanceTo_203 rfl ?_
                        have hl : lv_has ls 6 [(0, .ref a_t), (2, .int ((x2 + (1000 : Int32)) + (100 : Int32))), (3, .int (x3 + (1 : Int32)))] := lv_sub hl [4, 1, 0] rfl
                        exact ih _ _ _ _ _ _ he hl hP hD hS K
                    · have he := ih_f hc he
                      refine lv_iconst (v := (1 : Int32)) hx hb d_SkeletonClockModel_distanceTo_189 (by decide) ?_
                      refine lv_goto (tgt := 194) hx hb d_SkeletonClockModel_distanceTo_190 rfl ?_
                      refine lv_icmp_eq (tgt := 200) hx hb d_SkeletonClockModel_distanceTo_194 rfl (fun hc => ?_) (fun hc => ?_)
                      · refine lv_iinc (k := 4) hx hb d_SkeletonClockModel_distanceTo_200 hl rfl (ii_ (v := (1 : Int32)) (by decide)) (by decide) rfl (fun ls hl => ?_)
                        have hl : lv_has ls 6 [(3, .int (x3 + (1 : Int32))), (2, .int (x2 + (1000 : Int32))), (5, .int (t_have (x3).toNatClampNeg)), (4, .int (t_wish (x3).toNatClampNeg)), (0, .ref a_t)] := hl
                        refine lv_goto (tgt := 81) hx hb d_SkeletonClockModel_distanceTo_203 rfl ?_
                        have hl : lv_has ls 6 [(0, .ref a_t), (2, .int (x2 + (1000 : Int32))), (3, .int (x3 + (1 : Int32)))] := lv_sub hl [4, 1, 0] rfl
                        exact ih _ _ _ _ _ _ he hl hP hD hS K
                      · exact absurd (by decide) hc
      · have he := ih_t hc he
        refine lv_iload hx hb d_SkeletonClockModel_distanceTo_109 (lv_at hl 0 rfl) ?_
        refine lv_if_ne (tgt := 117) hx hb d_SkeletonClockModel_distanceTo_111 rfl (fun hc => ?_) (fun hc => ?_)
        · have he := ih_f hc he
          refine lv_iload_n hx hb d_SkeletonClockModel_distanceTo_117 rfl (lv_at hl 3 rfl) ?_
          refine lv_iload hx hb d_SkeletonClockModel_distanceTo_118 (lv_at hl 1 rfl) ?_
          refine lv_if_eq (tgt := 128) hx hb d_SkeletonClockModel_distanceTo_120 rfl (fun hc => ?_) (fun hc => ?_)
          · have he := ih_t hc he
            refine lv_sipush (v := (1000 : Int32)) hx hb d_SkeletonClockModel_distanceTo_128 (by decide) ?_
            refine lv_goto (tgt := 154) hx hb d_SkeletonClockModel_distanceTo_131 rfl ?_
            refine lv_iadd hx hb d_SkeletonClockModel_distanceTo_154 ?_
            refine lv_istore_n hx hb d_SkeletonClockModel_distanceTo_155 rfl hl (by decide) rfl (fun ls hl => ?_)
            have hl : lv_has ls 6 [(2, .int (x2 + (1000 : Int32))), (5, .int (t_have (x3).toNatClampNeg)), (4, .int (t_wish (x3).toNatClampNeg)), (0, .ref a_t), (3, .int x3)] := hl
            refine lv_iload_n hx hb d_SkeletonClockModel_distanceTo_156 rfl (lv_at hl 4 rfl) ?_
            refine lv_bipush (v := (77 : Int32)) hx hb d_SkeletonClockModel_distanceTo_157 (by decide) ?_
            refine lv_icmp_ne (tgt := 200) hx hb d_SkeletonClockModel_distanceTo_159 rfl (fun hc => ?_) (fun hc => ?_)
            · have he := ih_f hc he
              refine lv_iinc (k := 4) hx hb d_SkeletonClockModel_distanceTo_200 hl rfl (ii_ (v := (1 : Int32)) (by decide)) (by decide) rfl (fun ls hl => ?_)
              have hl : lv_has ls 6 [(3, .int (x3 + (1 : Int32))), (2, .int (x2 + (1000 : Int32))), (5, .int (t_have (x3).toNatClampNeg)), (4, .int (t_wish (x3).toNatClampNeg)), (0, .ref a_t)] := hl
              refine lv_goto (tgt := 81) hx hb d_SkeletonClockModel_distanceTo_203 rfl ?_
              have hl : lv_has ls 6 [(0, .ref a_t), (2, .int (x2 + (1000 : Int32))), (3, .int (x3 + (1 : Int32)))] := lv_sub hl [4, 1, 0] rfl
              exact ih _ _ _ _ _ _ he hl hP hD hS K
            · have he := ih_t hc he
              refine lv_iload hx hb d_SkeletonClockModel_distanceTo_162 (lv_at hl 2 rfl) ?_
              refine lv_if_le (tgt := 200) hx hb d_SkeletonClockModel_distanceTo_164 rfl (fun hc => ?_) (fun hc => ?_)
              · have he := ih_t hc he
                refine lv_iinc (k := 4) hx hb d_SkeletonClockModel_distanceTo_200 hl rfl (ii_ (v := (1 : Int32)) (by decide)) (by decide) rfl (fun ls hl => ?_)
                have hl : lv_has ls 6 [(3, .int (x3 + (1 : Int32))), (2, .int (x2 + (1000 : Int32))), (5, .int (t_have (x3).toNatClampNeg)), (4, .int (t_wish (x3).toNatClampNeg)), (0, .ref a_t)] := hl
                refine lv_goto (tgt := 81) hx hb d_SkeletonClockModel_distanceTo_203 rfl ?_
                have hl : lv_has ls 6 [(0, .ref a_t), (2, .int (x2 + (1000 : Int32))), (3, .int (x3 + (1 : Int32)))] := lv_sub hl [4, 1, 0] rfl
                exact ih _ _ _ _ _ _ he hl hP hD hS K
              · have he := ih_f hc he
                refine lv_iload hx hb d_SkeletonClockModel_distanceTo_167 (lv_at hl 1 rfl) ?_
                refine lv_if_le (tgt := 200) hx hb d_SkeletonClockModel_distanceTo_169 rfl (fun hc => ?_) (fun hc => ?_)
                · have he := ih_t hc he
                  refine lv_iinc (k := 4) hx hb d_SkeletonClockModel_distanceTo_200 hl rfl (ii_ (v := (1 : Int32)) (by decide)) (by decide) rfl (fun ls hl => ?_)
                  have hl : lv_has ls 6 [(3, .int (x3 + (1 : Int32))), (2, .int (x2 + (1000 : Int32))), (5, .int (t_have (x3).toNatClampNeg)), (4, .int (t_wish (x3).toNatClampNeg)), (0, .ref a_t)] := hl
                  refine lv_goto (tgt := 81) hx hb d_SkeletonClockModel_distanceTo_203 rfl ?_
                  have hl : lv_has ls 6 [(0, .ref a_t), (2, .int (x2 + (1000 : Int32))), (3, .int (x3 + (1 : Int32)))] := lv_sub hl [4, 1, 0] rfl
                  exact ih _ _ _ _ _ _ he hl hP hD hS K
                · have he := ih_f hc he
                  refine lv_iload hx hb d_SkeletonClockModel_distanceTo_172 (lv_at hl 2 rfl) ?_
                  refine lv_iconst (v := (2 : Int32)) hx hb d_SkeletonClockModel_distanceTo_174 (by decide) ?_
                  refine lv_icmp_le (tgt := 182) hx hb d_SkeletonClockModel_distanceTo_175 rfl (fun hc => ?_) (fun hc => ?_)
                  · have he := ih_t hc he
                    refine lv_iconst (v := (0 : Int32)) hx hb d_SkeletonClockModel_distanceTo_182 (by decide) ?_
                    refine lv_iload hx hb d_SkeletonClockModel_distanceTo_183 (lv_at hl 1 rfl) ?_
                    refine lv_iconst (v := (2 : Int32)) hx hb d_SkeletonClockModel_distanceTo_185 (by decide) ?_
                    refine lv_icmp_le (tgt := 193) hx hb d_SkeletonClockModel_distanceTo_186 rfl (fun hc => ?_) (fun hc => ?_)
                    · have he := ih_t hc he
                      refine lv_iconst (v := (0 : Int32)) hx hb d_SkeletonClockModel_distanceTo_193 (by decide) ?_
                      refine lv_icmp_eq (tgt := 200) hx hb d_SkeletonClockModel_distanceTo_194 rfl (fun hc => ?_) (fun hc => ?_)
                      · refine lv_iinc (k := 4) hx hb d_SkeletonClockModel_distanceTo_200 hl rfl (ii_ (v := (1 : Int32)) (by decide)) (by decide) rfl (fun ls hl => ?_)
                        have hl : lv_has ls 6 [(3, .int (x3 + (1 : Int32))), (2, .int (x2 + (1000 : Int32))), (5, .int (t_have (x3).toNatClampNeg)), (4, .int (t_wish (x3).toNatClampNeg)), (0, .ref a_t)] := hl
                        refine lv_goto (tgt := 81) hx hb d_SkeletonClockModel_distanceTo_203 rfl ?_
                        have hl : lv_has ls 6 [(0, .ref a_t), (2, .int (x2 + (1000 : Int32))), (3, .int (x3 + (1 : Int32)))] := lv_sub hl [4, 1, 0] rfl
                        exact ih _ _ _ _ _ _ he hl hP hD hS K
                      · exact absurd (by decide) hc
                    · have he := ih_f hc he
                      refine lv_iconst (v := (1 : Int32)) hx hb d_SkeletonClockModel_distanceTo_189 (by decide) ?_
                      refine lv_goto (tgt := 194) hx hb d_SkeletonClockModel_distanceTo_190 rfl ?_
                      refine lv_icmp_eq (tgt := 200) hx hb d_SkeletonClockModel_distanceTo_194 rfl (fun hc => ?_) (fun hc => ?_)
                      · exact absurd hc (by decide)
                      · refine lv_iinc (k := 0) hx hb d_SkeletonClockModel_distanceTo_197 hl rfl (ii_ (v := (100 : Int32)) (by decide)) (by decide) rfl (fun ls hl => ?_)
                        have hl : lv_has ls 6 [(2, .int ((x2 + (1000 : Int32)) + (100 : Int32))), (5, .int (t_have (x3).toNatClampNeg)), (4, .int (t_wish (x3).toNatClampNeg)), (0, .ref a_t), (3, .int x3)] := hl
                        refine lv_iinc (k := 4) hx hb d_SkeletonClockModel_distanceTo_200 hl rfl (ii_ (v := (1 : Int32)) (by decide)) (by decide) rfl (fun ls hl => ?_)
                        have hl : lv_has ls 6 [(3, .int (x3 + (1 : Int32))), (2, .int ((x2 + (1000 : Int32)) + (100 : Int32))), (5, .int (t_have (x3).toNatClampNeg)), (4, .int (t_wish (x3).toNatClampNeg)), (0, .ref a_t)] := hl
                        refine lv_goto (tgt := 81) hx hb d_SkeletonClockModel_distanceTo_203 rfl ?_
                        have hl : lv_has ls 6 [(0, .ref a_t), (2, .int ((x2 + (1000 : Int32)) + (100 : Int32))), (3, .int (x3 + (1 : Int32)))] := lv_sub hl [4, 1, 0] rfl
                        exact ih _ _ _ _ _ _ he hl hP hD hS K
                  · have he := ih_f hc he
                    refine lv_iconst (v := (1 : Int32)) hx hb d_SkeletonClockModel_distanceTo_178 (by decide) ?_
                    refine lv_goto (tgt := 183) hx hb d_SkeletonClockModel_distanceTo_179 rfl ?_
                    refine lv_iload hx hb d_SkeletonClockModel_distanceTo_183 (lv_at hl 1 rfl) ?_
                    refine lv_iconst (v := (2 : Int32)) hx hb d_SkeletonClockModel_distanceTo_185 (by decide) ?_
                    refine lv_icmp_le (tgt := 193) hx hb d_SkeletonClockModel_distanceTo_186 rfl (fun hc => ?_) (fun hc => ?_)
                    · have he := ih_t hc he
                      refine lv_iconst (v := (0 : Int32)) hx hb d_SkeletonClockModel_distanceTo_193 (by decide) ?_
                      refine lv_icmp_eq (tgt := 200) hx hb d_SkeletonClockModel_distanceTo_194 rfl (fun hc => ?_) (fun hc => ?_)
                      · exact absurd hc (by decide)
                      · refine lv_iinc (k := 0) hx hb d_SkeletonClockModel_distanceTo_197 hl rfl (ii_ (v := (100 : Int32)) (by decide)) (by decide) rfl (fun ls hl => ?_)
                        have hl : lv_has ls 6 [(2, .int ((x2 + (1000 : Int32)) + (100 : Int32))), (5, .int (t_have (x3).toNatClampNeg)), (4, .int (t_wish (x3).toNatClampNeg)), (0, .ref a_t), (3, .int x3)] := hl
                        refine lv_iinc (k := 4) hx hb d_SkeletonClockModel_distanceTo_200 hl rfl (ii_ (v := (1 : Int32)) (by decide)) (by decide) rfl (fun ls hl => ?_)
                        have hl : lv_has ls 6 [(3, .int (x3 + (1 : Int32))), (2, .int ((x2 + (1000 : Int32)) + (100 : Int32))), (5, .int (t_have (x3).toNatClampNeg)), (4, .int (t_wish (x3).toNatClampNeg)), (0, .ref a_t)] := hl
                        refine lv_goto (tgt := 81) hx hb d_SkeletonClockModel_distanceTo_203 rfl ?_
                        have hl : lv_has ls 6 [(0, .ref a_t), (2, .int ((x2 + (1000 : Int32)) + (100 : Int32))), (3, .int (x3 + (1 : Int32)))] := lv_sub hl [4, 1, 0] rfl
                        exact ih _ _ _ _ _ _ he hl hP hD hS K
                    · have he := ih_f hc he
                      refine lv_iconst (v := (1 : Int32)) hx hb d_SkeletonClockModel_distanceTo_189 (by decide) ?_
                      refine lv_goto (tgt := 194) hx hb d_SkeletonClockModel_distanceTo_190 rfl ?_
                      refine lv_icmp_eq (tgt := 200) hx hb d_SkeletonClockModel_distanceTo_194 rfl (fun hc => ?_) (fun hc => ?_)
                      · refine lv_iinc (k := 4) hx hb d_SkeletonClockModel_distanceTo_200 hl rfl (ii_ (v := (1 : Int32)) (by decide)) (by decide) rfl (fun ls hl => ?_)
                        have hl : lv_has ls 6 [(3, .int (x3 + (1 : Int32))), (2, .int (x2 + (1000 : Int32))), (5, .int (t_have (x3).toNatClampNeg)), (4, .int (t_wish (x3).toNatClampNeg)), (0, .ref a_t)] := hl
                        refine lv_goto (tgt := 81) hx hb d_SkeletonClockModel_distanceTo_203 rfl ?_
                        have hl : lv_has ls 6 [(0, .ref a_t), (2, .int (x2 + (1000 : Int32))), (3, .int (x3 + (1 : Int32)))] := lv_sub hl [4, 1, 0] rfl
                        exact ih _ _ _ _ _ _ he hl hP hD hS K
                      · exact absurd (by decide) hc
          · have he := ih_f hc he
            refine lv_iload hx hb d_SkeletonClockModel_distanceTo_123 (lv_at hl 0 rfl) ?_
            refine lv_if_ne (tgt := 134) hx hb d_SkeletonClockModel_distanceTo_125 rfl (fun hc => ?_) (fun hc => ?_)
            · have he := ih_f hc he
              refine lv_iload hx hb d_SkeletonClockModel_distanceTo_134 (lv_at hl 1 rfl) ?_
              refine lv_iload hx hb d_SkeletonClockModel_distanceTo_136 (lv_at hl 0 rfl) ?_
              refine lv_icmp_le (tgt := 149) hx hb d_SkeletonClockModel_distanceTo_138 rfl (fun hc => ?_) (fun hc => ?_)
              · have he := ih_t hc he
                refine lv_iload hx hb d_SkeletonClockModel_distanceTo_149 (lv_at hl 0 rfl) ?_
                refine lv_iload hx hb d_SkeletonClockModel_distanceTo_151 (lv_at hl 1 rfl) ?_
                refine lv_isub hx hb d_SkeletonClockModel_distanceTo_153 ?_
                refine lv_iadd hx hb d_SkeletonClockModel_distanceTo_154 ?_
                refine lv_istore_n hx hb d_SkeletonClockModel_distanceTo_155 rfl hl (by decide) rfl (fun ls hl => ?_)
                have hl : lv_has ls 6 [(2, .int (x2 + ((t_have (x3).toNatClampNeg) - (t_wish (x3).toNatClampNeg)))), (5, .int (t_have (x3).toNatClampNeg)), (4, .int (t_wish (x3).toNatClampNeg)), (0, .ref a_t), (3, .int x3)] := hl
                refine lv_iload_n hx hb d_SkeletonClockModel_distanceTo_156 rfl (lv_at hl 4 rfl) ?_
                refine lv_bipush (v := (77 : Int32)) hx hb d_SkeletonClockModel_distanceTo_157 (by decide) ?_
                refine lv_icmp_ne (tgt := 200) hx hb d_SkeletonClockModel_distanceTo_159 rfl (fun hc => ?_) (fun hc => ?_)
                · have he := ih_f hc he
                  refine lv_iinc (k := 4) hx hb d_SkeletonClockModel_distanceTo_200 hl rfl (ii_ (v := (1 : Int32)) (by decide)) (by decide) rfl (fun ls hl => ?_)
                  have hl : lv_has ls 6 [(3, .int (x3 + (1 : Int32))), (2, .int (x2 + ((t_have (x3).toNatClampNeg) - (t_wish (x3).toNatClampNeg)))), (5, .int (t_have (x3).toNatClampNeg)), (4, .int (t_wish (x3).toNatClampNeg)), (0, .ref a_t)] := hl
                  refine lv_goto (tgt := 81) hx hb d_SkeletonClockModel_distanceTo_203 rfl ?_
                  have hl : lv_has ls 6 [(0, .ref a_t), (2, .int (x2 + ((t_have (x3).toNatClampNeg) - (t_wish (x3).toNatClampNeg)))), (3, .int (x3 + (1 : Int32)))] := lv_sub hl [4, 1, 0] rfl
                  exact ih _ _ _ _ _ _ he hl hP hD hS K
                · have he := ih_t hc he
                  refine lv_iload hx hb d_SkeletonClockModel_distanceTo_162 (lv_at hl 2 rfl) ?_
                  refine lv_if_le (tgt := 200) hx hb d_SkeletonClockModel_distanceTo_164 rfl (fun hc => ?_) (fun hc => ?_)
                  · have he := ih_t hc he
                    refine lv_iinc (k := 4) hx hb d_SkeletonClockModel_distanceTo_200 hl rfl (ii_ (v := (1 : Int32)) (by decide)) (by decide) rfl (fun ls hl => ?_)
                    have hl : lv_has ls 6 [(3, .int (x3 + (1 : Int32))), (2, .int (x2 + ((t_have (x3).toNatClampNeg) - (t_wish (x3).toNatClampNeg)))), (5, .int (t_have (x3).toNatClampNeg)), (4, .int (t_wish (x3).toNatClampNeg)), (0, .ref a_t)] := hl
                    refine lv_goto (tgt := 81) hx hb d_SkeletonClockModel_distanceTo_203 rfl ?_
                    have hl : lv_has ls 6 [(0, .ref a_t), (2, .int (x2 + ((t_have (x3).toNatClampNeg) - (t_wish (x3).toNatClampNeg)))), (3, .int (x3 + (1 : Int32)))] := lv_sub hl [4, 1, 0] rfl
                    exact ih _ _ _ _ _ _ he hl hP hD hS K
                  · have he := ih_f hc he
                    refine lv_iload hx hb d_SkeletonClockModel_distanceTo_167 (lv_at hl 1 rfl) ?_
                    refine lv_if_le (tgt := 200) hx hb d_SkeletonClockModel_distanceTo_169 rfl (fun hc => ?_) (fun hc => ?_)
                    · have he := ih_t hc he
                      refine lv_iinc (k := 4) hx hb d_SkeletonClockModel_distanceTo_200 hl rfl (ii_ (v := (1 : Int32)) (by decide)) (by decide) rfl (fun ls hl => ?_)
                      have hl : lv_has ls 6 [(3, .int (x3 + (1 : Int32))), (2, .int (x2 + ((t_have (x3).toNatClampNeg) - (t_wish (x3).toNatClampNeg)))), (5, .int (t_have (x3).toNatClampNeg)), (4, .int (t_wish (x3).toNatClampNeg)), (0, .ref a_t)] := hl
                      refine lv_goto (tgt := 81) hx hb d_SkeletonClockModel_distanceTo_203 rfl ?_
                      have hl : lv_has ls 6 [(0, .ref a_t), (2, .int (x2 + ((t_have (x3).toNatClampNeg) - (t_wish (x3).toNatClampNeg)))), (3, .int (x3 + (1 : Int32)))] := lv_sub hl [4, 1, 0] rfl
                      exact ih _ _ _ _ _ _ he hl hP hD hS K
                    · have he := ih_f hc he
                      refine lv_iload hx hb d_SkeletonClockModel_distanceTo_172 (lv_at hl 2 rfl) ?_
                      refine lv_iconst (v := (2 : Int32)) hx hb d_SkeletonClockModel_distanceTo_174 (by decide) ?_
                      refine lv_icmp_le (tgt := 182) hx hb d_SkeletonClockModel_distanceTo_175 rfl (fun hc => ?_) (fun hc => ?_)
                      · have he := ih_t hc he
                        refine lv_iconst (v := (0 : Int32)) hx hb d_SkeletonClockModel_distanceTo_182 (by decide) ?_
                        refine lv_iload hx hb d_SkeletonClockModel_distanceTo_183 (lv_at hl 1 rfl) ?_
                        refine lv_iconst (v := (2 : Int32)) hx hb d_SkeletonClockModel_distanceTo_185 (by decide) ?_
                        refine lv_icmp_le (tgt := 193) hx hb d_SkeletonClockModel_distanceTo_186 rfl (fun hc => ?_) (fun hc => ?_)
                        · have he := ih_t hc he
                          refine lv_iconst (v := (0 : Int32)) hx hb d_SkeletonClockModel_distanceTo_193 (by decide) ?_
                          refine lv_icmp_eq (tgt := 200) hx hb d_SkeletonClockModel_distanceTo_194 rfl (fun hc => ?_) (fun hc => ?_)
                          · refine lv_iinc (k := 4) hx hb d_SkeletonClockModel_distanceTo_200 hl rfl (ii_ (v := (1 : Int32)) (by decide)) (by decide) rfl (fun ls hl => ?_)
                            have hl : lv_has ls 6 [(3, .int (x3 + (1 : Int32))), (2, .int (x2 + ((t_have (x3).toNatClampNeg) - (t_wish (x3).toNatClampNeg)))), (5, .int (t_have (x3).toNatClampNeg)), (4, .int (t_wish (x3).toNatClampNeg)), (0, .ref a_t)] := hl
                            refine lv_goto (tgt := 81) hx hb d_SkeletonClockModel_distanceTo_203 rfl ?_
                            have hl : lv_has ls 6 [(0, .ref a_t), (2, .int (x2 + ((t_have (x3).toNatClampNeg) - (t_wish (x3).toNatClampNeg)))), (3, .int (x3 + (1 : Int32)))] := lv_sub hl [4, 1, 0] rfl
                            exact ih _ _ _ _ _ _ he hl hP hD hS K
                          · exact absurd (by decide) hc
                        · have he := ih_f hc he
                          refine lv_iconst (v := (1 : Int32)) hx hb d_SkeletonClockModel_distanceTo_189 (by decide) ?_
                          refine lv_goto (tgt := 194) hx hb d_SkeletonClockModel_distanceTo_190 rfl ?_
                          refine lv_icmp_eq (tgt := 200) hx hb d_SkeletonClockModel_distanceTo_194 rfl (fun hc => ?_) (fun hc => ?_)
                          · exact absurd hc (by decide)
                          · refine lv_iinc (k := 0) hx hb d_SkeletonClockModel_distanceTo_197 hl rfl (ii_ (v := (100 : Int32)) (by decide)) (by decide) rfl (fun ls hl => ?_)
                            have hl : lv_has ls 6 [(2, .int ((x2 + ((t_have (x3).toNatClampNeg) - (t_wish (x3).toNatClampNeg))) + (100 : Int32))), (5, .int (t_have (x3).toNatClampNeg)), (4, .int (t_wish (x3).toNatClampNeg)), (0, .ref a_t), (3, .int x3)] := hl
                            refine lv_iinc (k := 4) hx hb d_SkeletonClockModel_distanceTo_200 hl rfl (ii_ (v := (1 : Int32)) (by decide)) (by decide) rfl (fun ls hl => ?_)
                            have hl : lv_has ls 6 [(3, .int (x3 + (1 : Int32))), (2, .int ((x2 + ((t_have (x3).toNatClampNeg) - (t_wish (x3).toNatClampNeg))) + (100 : Int32))), (5, .int (t_have (x3).toNatClampNeg)), (4, .int (t_wish (x3).toNatClampNeg)), (0, .ref a_t)] := hl
                            refine lv_goto (tgt := 81) hx hb d_SkeletonClockModel_distanceTo_203 rfl ?_
                            have hl : lv_has ls 6 [(0, .ref a_t), (2, .int ((x2 + ((t_have (x3).toNatClampNeg) - (t_wish (x3).toNatClampNeg))) + (100 : Int32))), (3, .int (x3 + (1 : Int32)))] := lv_sub hl [4, 1, 0] rfl
                            exact ih _ _ _ _ _ _ he hl hP hD hS K
                      · have he := ih_f hc he
                        refine lv_iconst (v := (1 : Int32)) hx hb d_SkeletonClockModel_distanceTo_178 (by decide) ?_
                        refine lv_goto (tgt := 183) hx hb d_SkeletonClockModel_distanceTo_179 rfl ?_
                        refine lv_iload hx hb d_SkeletonClockModel_distanceTo_183 (lv_at hl 1 rfl) ?_
                        refine lv_iconst (v := (2 : Int32)) hx hb d_SkeletonClockModel_distanceTo_185 (by decide) ?_
                        refine lv_icmp_le (tgt := 193) hx hb d_SkeletonClockModel_distanceTo_186 rfl (fun hc => ?_) (fun hc => ?_)
                        · have he := ih_t hc he
                          refine lv_iconst (v := (0 : Int32)) hx hb d_SkeletonClockModel_distanceTo_193 (by decide) ?_
                          refine lv_icmp_eq (tgt := 200) hx hb d_SkeletonClockModel_distanceTo_194 rfl (fun hc => ?_) (fun hc => ?_)
                          · exact absurd hc (by decide)
                          · refine lv_iinc (k := 0) hx hb d_SkeletonClockModel_distanceTo_197 hl rfl (ii_ (v := (100 : Int32)) (by decide)) (by decide) rfl (fun ls hl => ?_)
                            have hl : lv_has ls 6 [(2, .int ((x2 + ((t_have (x3).toNatClampNeg) - (t_wish (x3).toNatClampNeg))) + (100 : Int32))), (5, .int (t_have (x3).toNatClampNeg)), (4, .int (t_wish (x3).toNatClampNeg)), (0, .ref a_t), (3, .int x3)] := hl
                            refine lv_iinc (k := 4) hx hb d_SkeletonClockModel_distanceTo_200 hl rfl (ii_ (v := (1 : Int32)) (by decide)) (by decide) rfl (fun ls hl => ?_)
                            have hl : lv_has ls 6 [(3, .int (x3 + (1 : Int32))), (2, .int ((x2 + ((t_have (x3).toNatClampNeg) - (t_wish (x3).toNatClampNeg))) + (100 : Int32))), (5, .int (t_have (x3).toNatClampNeg)), (4, .int (t_wish (x3).toNatClampNeg)), (0, .ref a_t)] := hl
                            refine lv_goto (tgt := 81) hx hb d_SkeletonClockModel_distanceTo_203 rfl ?_
                            have hl : lv_has ls 6 [(0, .ref a_t), (2, .int ((x2 + ((t_have (x3).toNatClampNeg) - (t_wish (x3).toNatClampNeg))) + (100 : Int32))), (3, .int (x3 + (1 : Int32)))] := lv_sub hl [4, 1, 0] rfl
                            exact ih _ _ _ _ _ _ he hl hP hD hS K
                        · have he := ih_f hc he
                          refine lv_iconst (v := (1 : Int32)) hx hb d_SkeletonClockModel_distanceTo_189 (by decide) ?_
                          refine lv_goto (tgt := 194) hx hb d_SkeletonClockModel_distanceTo_190 rfl ?_
                          refine lv_icmp_eq (tgt := 200) hx hb d_SkeletonClockModel_distanceTo_194 rfl (fun hc => ?_) (fun hc => ?_)
                          · refine lv_iinc (k := 4) hx hb d_SkeletonClockModel_distanceTo_200 hl rfl (ii_ (v := (1 : Int32)) (by decide)) (by decide) rfl (fun ls hl => ?_)
                            have hl : lv_has ls 6 [(3, .int (x3 + (1 : Int32))), (2, .int (x2 + ((t_have (x3).toNatClampNeg) - (t_wish (x3).toNatClampNeg)))), (5, .int (t_have (x3).toNatClampNeg)), (4, .int (t_wish (x3).toNatClampNeg)), (0, .ref a_t)] := hl
                            refine lv_goto (tgt := 81) hx hb d_SkeletonClockModel_distanceTo_203 rfl ?_
                            have hl : lv_has ls 6 [(0, .ref a_t), (2, .int (x2 + ((t_have (x3).toNatClampNeg) - (t_wish (x3).toNatClampNeg)))), (3, .int (x3 + (1 : Int32)))] := lv_sub hl [4, 1, 0] rfl
                            exact ih _ _ _ _ _ _ he hl hP hD hS K
                          · exact absurd (by decide) hc
              · have he := ih_f hc he
                refine lv_iload hx hb d_SkeletonClockModel_distanceTo_141 (lv_at hl 1 rfl) ?_
                refine lv_iload hx hb d_SkeletonClockModel_distanceTo_143 (lv_at hl 0 rfl) ?_
                refine lv_isub hx hb d_SkeletonClockModel_distanceTo_145 ?_
                refine lv_goto (tgt := 154) hx hb d_SkeletonClockModel_distanceTo_146 rfl ?_
                refine lv_iadd hx hb d_SkeletonClockModel_distanceTo_154 ?_
                refine lv_istore_n hx hb d_SkeletonClockModel_distanceTo_155 rfl hl (by decide) rfl (fun ls hl => ?_)
                have hl : lv_has ls 6 [(2, .int (x2 + ((t_wish (x3).toNatClampNeg) - (t_have (x3).toNatClampNeg)))), (5, .int (t_have (x3).toNatClampNeg)), (4, .int (t_wish (x3).toNatClampNeg)), (0, .ref a_t), (3, .int x3)] := hl
                refine lv_iload_n hx hb d_SkeletonClockModel_distanceTo_156 rfl (lv_at hl 4 rfl) ?_
                refine lv_bipush (v := (77 : Int32)) hx hb d_SkeletonClockModel_distanceTo_157 (by decide) ?_
                refine lv_icmp_ne (tgt := 200) hx hb d_SkeletonClockModel_distanceTo_159 rfl (fun hc => ?_) (fun hc => ?_)
                · have he := ih_f hc he
                  refine lv_iinc (k := 4) hx hb d_SkeletonClockModel_distanceTo_200 hl rfl (ii_ (v := (1 : Int32)) (by decide)) (by decide) rfl (fun ls hl => ?_)
                  have hl : lv_has ls 6 [(3, .int (x3 + (1 : Int32))), (2, .int (x2 + ((t_wish (x3).toNatClampNeg) - (t_have (x3).toNatClampNeg)))), (5, .int (t_have (x3).toNatClampNeg)), (4, .int (t_wish (x3).toNatClampNeg)), (0, .ref a_t)] := hl
                  refine lv_goto (tgt := 81) hx hb d_SkeletonClockModel_distanceTo_203 rfl ?_
                  have hl : lv_has ls 6 [(0, .ref a_t), (2, .int (x2 + ((t_wish (x3).toNatClampNeg) - (t_have (x3).toNatClampNeg)))), (3, .int (x3 + (1 : Int32)))] := lv_sub hl [4, 1, 0] rfl
                  exact ih _ _ _ _ _ _ he hl hP hD hS K
                · have he := ih_t hc he
                  refine lv_iload hx hb d_SkeletonClockModel_distanceTo_162 (lv_at hl 2 rfl) ?_
                  refine lv_if_le (tgt := 200) hx hb d_SkeletonClockModel_distanceTo_164 rfl (fun hc => ?_) (fun hc => ?_)
                  · have he := ih_t hc he
                    refine lv_iinc (k := 4) hx hb d_SkeletonClockModel_distanceTo_200 hl rfl (ii_ (v := (1 : Int32)) (by decide)) (by decide) rfl (fun ls hl => ?_)
                    have hl : lv_has ls 6 [(3, .int (x3 + (1 : Int32))), (2, .int (x2 + ((t_wish (x3).toNatClampNeg) - (t_have (x3).toNatClampNeg)))), (5, .int (t_have (x3).toNatClampNeg)), (4, .int (t_wish (x3).toNatClampNeg)), (0, .ref a_t)] := hl
                    refine lv_goto (tgt := 81) hx hb d_SkeletonClockModel_distanceTo_203 rfl ?_
                    have hl : lv_has ls 6 [(0, .ref a_t), (2, .int (x2 + ((t_wish (x3).toNatClampNeg) - (t_have (x3).toNatClampNeg)))), (3, .int (x3 + (1 : Int32)))] := lv_sub hl [4, 1, 0] rfl
                    exact ih _ _ _ _ _ _ he hl hP hD hS K
                  · have he := ih_f hc he
                    refine lv_iload hx hb d_SkeletonClockModel_distanceTo_167 (lv_at hl 1 rfl) ?_
                    refine lv_if_le (tgt := 200) hx hb d_SkeletonClockModel_distanceTo_169 rfl (fun hc => ?_) (fun hc => ?_)
                    · have he := ih_t hc he
                      refine lv_iinc (k := 4) hx hb d_SkeletonClockModel_distanceTo_200 hl rfl (ii_ (v := (1 : Int32)) (by decide)) (by decide) rfl (fun ls hl => ?_)
                      have hl : lv_has ls 6 [(3, .int (x3 + (1 : Int32))), (2, .int (x2 + ((t_wish (x3).toNatClampNeg) - (t_have (x3).toNatClampNeg)))), (5, .int (t_have (x3).toNatClampNeg)), (4, .int (t_wish (x3).toNatClampNeg)), (0, .ref a_t)] := hl
                      refine lv_goto (tgt := 81) hx hb d_SkeletonClockModel_distanceTo_203 rfl ?_
                      have hl : lv_has ls 6 [(0, .ref a_t), (2, .int (x2 + ((t_wish (x3).toNatClampNeg) - (t_have (x3).toNatClampNeg)))), (3, .int (x3 + (1 : Int32)))] := lv_sub hl [4, 1, 0] rfl
                      exact ih _ _ _ _ _ _ he hl hP hD hS K
                    · have he := ih_f hc he
                      refine lv_iload hx hb d_SkeletonClockModel_distanceTo_172 (lv_at hl 2 rfl) ?_
                      refine lv_iconst (v := (2 : Int32)) hx hb d_SkeletonClockModel_distanceTo_174 (by decide) ?_
                      refine lv_icmp_le (tgt := 182) hx hb d_SkeletonClockModel_distanceTo_175 rfl (fun hc => ?_) (fun hc => ?_)
                      · have he := ih_t hc he
                        refine lv_iconst (v := (0 : Int32)) hx hb d_SkeletonClockModel_distanceTo_182 (by decide) ?_
                        refine lv_iload hx hb d_SkeletonClockModel_distanceTo_183 (lv_at hl 1 rfl) ?_
                        refine lv_iconst (v := (2 : Int32)) hx hb d_SkeletonClockModel_distanceTo_185 (by decide) ?_
                        refine lv_icmp_le (tgt := 193) hx hb d_SkeletonClockModel_distanceTo_186 rfl (fun hc => ?_) (fun hc => ?_)
                        · have he := ih_t hc he
                          refine lv_iconst (v := (0 : Int32)) hx hb d_SkeletonClockModel_distanceTo_193 (by decide) ?_
                          refine lv_icmp_eq (tgt := 200) hx hb d_SkeletonClockModel_distanceTo_194 rfl (fun hc => ?_) (fun hc => ?_)
                          · refine lv_iinc (k := 4) hx hb d_SkeletonClockModel_distanceTo_200 hl rfl (ii_ (v := (1 : Int32)) (by decide)) (by decide) rfl (fun ls hl => ?_)
                            have hl : lv_has ls 6 [(3, .int (x3 + (1 : Int32))), (2, .int (x2 + ((t_wish (x3).toNatClampNeg) - (t_have (x3).toNatClampNeg)))), (5, .int (t_have (x3).toNatClampNeg)), (4, .int (t_wish (x3).toNatClampNeg)), (0, .ref a_t)] := hl
                            refine lv_goto (tgt := 81) hx hb d_SkeletonClockModel_distanceTo_203 rfl ?_
                            have hl : lv_has ls 6 [(0, .ref a_t), (2, .int (x2 + ((t_wish (x3).toNatClampNeg) - (t_have (x3).toNatClampNeg)))), (3, .int (x3 + (1 : Int32)))] := lv_sub hl [4, 1, 0] rfl
                            exact ih _ _ _ _ _ _ he hl hP hD hS K
                          · exact absurd (by decide) hc
                        · have he := ih_f hc he
                          refine lv_iconst (v := (1 : Int32)) hx hb d_SkeletonClockModel_distanceTo_189 (by decide) ?_
                          refine lv_goto (tgt := 194) hx hb d_SkeletonClockModel_distanceTo_190 rfl ?_
                          refine lv_icmp_eq (tgt := 200) hx hb d_SkeletonClockModel_distanceTo_194 rfl (fun hc => ?_) (fun hc => ?_)
                          · exact absurd hc (by decide)
                          · refine lv_iinc (k := 0) hx hb d_SkeletonClockModel_distanceTo_197 hl rfl (ii_ (v := (100 : Int32)) (by decide)) (by decide) rfl (fun ls hl => ?_)
                            have hl : lv_has ls 6 [(2, .int ((x2 + ((t_wish (x3).toNatClampNeg) - (t_have (x3).toNatClampNeg))) + (100 : Int32))), (5, .int (t_have (x3).toNatClampNeg)), (4, .int (t_wish (x3).toNatClampNeg)), (0, .ref a_t), (3, .int x3)] := hl
                            refine lv_iinc (k := 4) hx hb d_SkeletonClockModel_distanceTo_200 hl rfl (ii_ (v := (1 : Int32)) (by decide)) (by decide) rfl (fun ls hl => ?_)
                            have hl : lv_has ls 6 [(3, .int (x3 + (1 : Int32))), (2, .int ((x2 + ((t_wish (x3).toNatClampNeg) - (t_have (x3).toNatClampNeg))) + (100 : Int32))), (5, .int (t_have (x3).toNatClampNeg)), (4, .int (t_wish (x3).toNatClampNeg)), (0, .ref a_t)] := hl
                            refine lv_goto (tgt := 81) hx hb d_SkeletonClockModel_distanceTo_203 rfl ?_
                            have hl : lv_has ls 6 [(0, .ref a_t), (2, .int ((x2 + ((t_wish (x3).toNatClampNeg) - (t_have (x3).toNatClampNeg))) + (100 : Int32))), (3, .int (x3 + (1 : Int32)))] := lv_sub hl [4, 1, 0] rfl
                            exact ih _ _ _ _ _ _ he hl hP hD hS K
                      · have he := ih_f hc he
                        refine lv_iconst (v := (1 : Int32)) hx hb d_SkeletonClockModel_distanceTo_178 (by decide) ?_
                        refine lv_goto (tgt := 183) hx hb d_SkeletonClockModel_distanceTo_179 rfl ?_
                        refine lv_iload hx hb d_SkeletonClockModel_distanceTo_183 (lv_at hl 1 rfl) ?_
                        refine lv_iconst (v := (2 : Int32)) hx hb d_SkeletonClockModel_distanceTo_185 (by decide) ?_
                        refine lv_icmp_le (tgt := 193) hx hb d_SkeletonClockModel_distanceTo_186 rfl (fun hc => ?_) (fun hc => ?_)
                        · have he := ih_t hc he
                          refine lv_iconst (v := (0 : Int32)) hx hb d_SkeletonClockModel_distanceTo_193 (by decide) ?_
                          refine lv_icmp_eq (tgt := 200) hx hb d_SkeletonClockModel_distanceTo_194 rfl (fun hc => ?_) (fun hc => ?_)
                          · exact absurd hc (by decide)
                          · refine lv_iinc (k := 0) hx hb d_SkeletonClockModel_distanceTo_197 hl rfl (ii_ (v := (100 : Int32)) (by decide)) (by decide) rfl (fun ls hl => ?_)
                            have hl : lv_has ls 6 [(2, .int ((x2 + ((t_wish (x3).toNatClampNeg) - (t_have (x3).toNatClampNeg))) + (100 : Int32))), (5, .int (t_have (x3).toNatClampNeg)), (4, .int (t_wish (x3).toNatClampNeg)), (0, .ref a_t), (3, .int x3)] := hl
                            refine lv_iinc (k := 4) hx hb d_SkeletonClockModel_distanceTo_200 hl rfl (ii_ (v := (1 : Int32)) (by decide)) (by decide) rfl (fun ls hl => ?_)
                            have hl : lv_has ls 6 [(3, .int (x3 + (1 : Int32))), (2, .int ((x2 + ((t_wish (x3).toNatClampNeg) - (t_have (x3).toNatClampNeg))) + (100 : Int32))), (5, .int (t_have (x3).toNatClampNeg)), (4, .int (t_wish (x3).toNatClampNeg)), (0, .ref a_t)] := hl
                            refine lv_goto (tgt := 81) hx hb d_SkeletonClockModel_distanceTo_203 rfl ?_
                            have hl : lv_has ls 6 [(0, .ref a_t), (2, .int ((x2 + ((t_wish (x3).toNatClampNeg) - (t_have (x3).toNatClampNeg))) + (100 : Int32))), (3, .int (x3 + (1 : Int32)))] := lv_sub hl [4, 1, 0] rfl
                            exact ih _ _ _ _ _ _ he hl hP hD hS K
                        · have he := ih_f hc he
                          refine lv_iconst (v := (1 : Int32)) hx hb d_SkeletonClockModel_distanceTo_189 (by decide) ?_
                          refine lv_goto (tgt := 194) hx hb d_SkeletonClockModel_distanceTo_190 rfl ?_
                          refine lv_icmp_eq (tgt := 200) hx hb d_SkeletonClockModel_distanceTo_194 rfl (fun hc => ?_) (fun hc => ?_)
                          · refine lv_iinc (k := 4) hx hb d_SkeletonClockModel_distanceTo_200 hl rfl (ii_ (v := (1 : Int32)) (by decide)) (by decide) rfl (fun ls hl => ?_)
                            have hl : lv_has ls 6 [(3, .int (x3 + (1 : Int32))), (2, .int (x2 + ((t_wish (x3).toNatClampNeg) - (t_have (x3).toNatClampNeg)))), (5, .int (t_have (x3).toNatClampNeg)), (4, .int (t_wish (x3).toNatClampNeg)), (0, .ref a_t)] := hl
                            refine lv_goto (tgt := 81) hx hb d_SkeletonClockModel_distanceTo_203 rfl ?_
                            have hl : lv_has ls 6 [(0, .ref a_t), (2, .int (x2 + ((t_wish (x3).toNatClampNeg) - (t_have (x3).toNatClampNeg)))), (3, .int (x3 + (1 : Int32)))] := lv_sub hl [4, 1, 0] rfl
                            exact ih _ _ _ _ _ _ he hl hP hD hS K
                          · exact absurd (by decide) hc
            · have he := ih_t hc he
              refine lv_sipush (v := (1000 : Int32)) hx hb d_SkeletonClockModel_distanceTo_128 (by decide) ?_
              refine lv_goto (tgt := 154) hx hb d_SkeletonClockModel_distanceTo_131 rfl ?_
              refine lv_iadd hx hb d_SkeletonClockModel_distanceTo_154 ?_
              refine lv_istore_n hx hb d_SkeletonClockModel_distanceTo_155 rfl hl (by decide) rfl (fun ls hl => ?_)
              have hl : lv_has ls 6 [(2, .int (x2 + (1000 : Int32))), (5, .int (t_have (x3).toNatClampNeg)), (4, .int (t_wish (x3).toNatClampNeg)), (0, .ref a_t), (3, .int x3)] := hl
              refine lv_iload_n hx hb d_SkeletonClockModel_distanceTo_156 rfl (lv_at hl 4 rfl) ?_
              refine lv_bipush (v := (77 : Int32)) hx hb d_SkeletonClockModel_distanceTo_157 (by decide) ?_
              refine lv_icmp_ne (tgt := 200) hx hb d_SkeletonClockModel_distanceTo_159 rfl (fun hc => ?_) (fun hc => ?_)
              · have he := ih_f hc he
                refine lv_iinc (k := 4) hx hb d_SkeletonClockModel_distanceTo_200 hl rfl (ii_ (v := (1 : Int32)) (by decide)) (by decide) rfl (fun ls hl => ?_)
                have hl : lv_has ls 6 [(3, .int (x3 + (1 : Int32))), (2, .int (x2 + (1000 : Int32))), (5, .int (t_have (x3).toNatClampNeg)), (4, .int (t_wish (x3).toNatClampNeg)), (0, .ref a_t)] := hl
                refine lv_goto (tgt := 81) hx hb d_SkeletonClockModel_distanceTo_203 rfl ?_
                have hl : lv_has ls 6 [(0, .ref a_t), (2, .int (x2 + (1000 : Int32))), (3, .int (x3 + (1 : Int32)))] := lv_sub hl [4, 1, 0] rfl
                exact ih _ _ _ _ _ _ he hl hP hD hS K
              · have he := ih_t hc he
                refine lv_iload hx hb d_SkeletonClockModel_distanceTo_162 (lv_at hl 2 rfl) ?_
                refine lv_if_le (tgt := 200) hx hb d_SkeletonClockModel_distanceTo_164 rfl (fun hc => ?_) (fun hc => ?_)
                · have he := ih_t hc he
                  refine lv_iinc (k := 4) hx hb d_SkeletonClockModel_distanceTo_200 hl rfl (ii_ (v := (1 : Int32)) (by decide)) (by decide) rfl (fun ls hl => ?_)
                  have hl : lv_has ls 6 [(3, .int (x3 + (1 : Int32))), (2, .int (x2 + (1000 : Int32))), (5, .int (t_have (x3).toNatClampNeg)), (4, .int (t_wish (x3).toNatClampNeg)), (0, .ref a_t)] := hl
                  refine lv_goto (tgt := 81) hx hb d_SkeletonClockModel_distanceTo_203 rfl ?_
                  have hl : lv_has ls 6 [(0, .ref a_t), (2, .int (x2 + (1000 : Int32))), (3, .int (x3 + (1 : Int32)))] := lv_sub hl [4, 1, 0] rfl
                  exact ih _ _ _ _ _ _ he hl hP hD hS K
                · have he := ih_f hc he
                  refine lv_iload hx hb d_SkeletonClockModel_distanceTo_167 (lv_at hl 1 rfl) ?_
                  refine lv_if_le (tgt := 200) hx hb d_SkeletonClockModel_distanceTo_169 rfl (fun hc => ?_) (fun hc => ?_)
                  · have he := ih_t hc he
                    refine lv_iinc (k := 4) hx hb d_SkeletonClockModel_distanceTo_200 hl rfl (ii_ (v := (1 : Int32)) (by decide)) (by decide) rfl (fun ls hl => ?_)
                    have hl : lv_has ls 6 [(3, .int (x3 + (1 : Int32))), (2, .int (x2 + (1000 : Int32))), (5, .int (t_have (x3).toNatClampNeg)), (4, .int (t_wish (x3).toNatClampNeg)), (0, .ref a_t)] := hl
                    refine lv_goto (tgt := 81) hx hb d_SkeletonClockModel_distanceTo_203 rfl ?_
                    have hl : lv_has ls 6 [(0, .ref a_t), (2, .int (x2 + (1000 : Int32))), (3, .int (x3 + (1 : Int32)))] := lv_sub hl [4, 1, 0] rfl
                    exact ih _ _ _ _ _ _ he hl hP hD hS K
                  · have he := ih_f hc he
                    refine lv_iload hx hb d_SkeletonClockModel_distanceTo_172 (lv_at hl 2 rfl) ?_
                    refine lv_iconst (v := (2 : Int32)) hx hb d_SkeletonClockModel_distanceTo_174 (by decide) ?_
                    refine lv_icmp_le (tgt := 182) hx hb d_SkeletonClockModel_distanceTo_175 rfl (fun hc => ?_) (fun hc => ?_)
                    · have he := ih_t hc he
                      refine lv_iconst (v := (0 : Int32)) hx hb d_SkeletonClockModel_distanceTo_182 (by decide) ?_
                      refine lv_iload hx hb d_SkeletonClockModel_distanceTo_183 (lv_at hl 1 rfl) ?_
                      refine lv_iconst (v := (2 : Int32)) hx hb d_SkeletonClockModel_distanceTo_185 (by decide) ?_
                      refine lv_icmp_le (tgt := 193) hx hb d_SkeletonClockModel_distanceTo_186 rfl (fun hc => ?_) (fun hc => ?_)
                      · have he := ih_t hc he
                        refine lv_iconst (v := (0 : Int32)) hx hb d_SkeletonClockModel_distanceTo_193 (by decide) ?_
                        refine lv_icmp_eq (tgt := 200) hx hb d_SkeletonClockModel_distanceTo_194 rfl (fun hc => ?_) (fun hc => ?_)
                        · refine lv_iinc (k := 4) hx hb d_SkeletonClockModel_distanceTo_200 hl rfl (ii_ (v := (1 : Int32)) (by decide)) (by decide) rfl (fun ls hl => ?_)
                          have hl : lv_has ls 6 [(3, .int (x3 + (1 : Int32))), (2, .int (x2 + (1000 : Int32))), (5, .int (t_have (x3).toNatClampNeg)), (4, .int (t_wish (x3).toNatClampNeg)), (0, .ref a_t)] := hl
                          refine lv_goto (tgt := 81) hx hb d_SkeletonClockModel_distanceTo_203 rfl ?_
                          have hl : lv_has ls 6 [(0, .ref a_t), (2, .int (x2 + (1000 : Int32))), (3, .int (x3 + (1 : Int32)))] := lv_sub hl [4, 1, 0] rfl
                          exact ih _ _ _ _ _ _ he hl hP hD hS K
                        · exact absurd (by decide) hc
                      · have he := ih_f hc he
                        refine lv_iconst (v := (1 : Int32)) hx hb d_SkeletonClockModel_distanceTo_189 (by decide) ?_
                        refine lv_goto (tgt := 194) hx hb d_SkeletonClockModel_distanceTo_190 rfl ?_
                        refine lv_icmp_eq (tgt := 200) hx hb d_SkeletonClockModel_distanceTo_194 rfl (fun hc => ?_) (fun hc => ?_)
                        · exact absurd hc (by decide)
                        · refine lv_iinc (k := 0) hx hb d_SkeletonClockModel_distanceTo_197 hl rfl (ii_ (v := (100 : Int32)) (by decide)) (by decide) rfl (fun ls hl => ?_)
                          have hl : lv_has ls 6 [(2, .int ((x2 + (1000 : Int32)) + (100 : Int32))), (5, .int (t_have (x3).toNatClampNeg)), (4, .int (t_wish (x3).toNatClampNeg)), (0, .ref a_t), (3, .int x3)] := hl
                          refine lv_iinc (k := 4) hx hb d_SkeletonClockModel_distanceTo_200 hl rfl (ii_ (v := (1 : Int32)) (by decide)) (by decide) rfl (fun ls hl => ?_)
                          have hl : lv_has ls 6 [(3, .int (x3 + (1 : Int32))), (2, .int ((x2 + (1000 : Int32)) + (100 : Int32))), (5, .int (t_have (x3).toNatClampNeg)), (4, .int (t_wish (x3).toNatClampNeg)), (0, .ref a_t)] := hl
                          refine lv_goto (tgt := 81) hx hb d_SkeletonClockModel_distanceTo_203 rfl ?_
                          have hl : lv_has ls 6 [(0, .ref a_t), (2, .int ((x2 + (1000 : Int32)) + (100 : Int32))), (3, .int (x3 + (1 : Int32)))] := lv_sub hl [4, 1, 0] rfl
                          exact ih _ _ _ _ _ _ he hl hP hD hS K
                    · have he := ih_f hc he
                      refine lv_iconst (v := (1 : Int32)) hx hb d_SkeletonClockModel_distanceTo_178 (by decide) ?_
                      refine lv_goto (tgt := 183) hx hb d_SkeletonClockModel_distanceTo_179 rfl ?_
                      refine lv_iload hx hb d_SkeletonClockModel_distanceTo_183 (lv_at hl 1 rfl) ?_
                      refine lv_iconst (v := (2 : Int32)) hx hb d_SkeletonClockModel_distanceTo_185 (by decide) ?_
                      refine lv_icmp_le (tgt := 193) hx hb d_SkeletonClockModel_distanceTo_186 rfl (fun hc => ?_) (fun hc => ?_)
                      · have he := ih_t hc he
                        refine lv_iconst (v := (0 : Int32)) hx hb d_SkeletonClockModel_distanceTo_193 (by decide) ?_
                        refine lv_icmp_eq (tgt := 200) hx hb d_SkeletonClockModel_distanceTo_194 rfl (fun hc => ?_) (fun hc => ?_)
                        · exact absurd hc (by decide)
                        · refine lv_iinc (k := 0) hx hb d_SkeletonClockModel_distanceTo_197 hl rfl (ii_ (v := (100 : Int32)) (by decide)) (by decide) rfl (fun ls hl => ?_)
                          have hl : lv_has ls 6 [(2, .int ((x2 + (1000 : Int32)) + (100 : Int32))), (5, .int (t_have (x3).toNatClampNeg)), (4, .int (t_wish (x3).toNatClampNeg)), (0, .ref a_t), (3, .int x3)] := hl
                          refine lv_iinc (k := 4) hx hb d_SkeletonClockModel_distanceTo_200 hl rfl (ii_ (v := (1 : Int32)) (by decide)) (by decide) rfl (fun ls hl => ?_)
                          have hl : lv_has ls 6 [(3, .int (x3 + (1 : Int32))), (2, .int ((x2 + (1000 : Int32)) + (100 : Int32))), (5, .int (t_have (x3).toNatClampNeg)), (4, .int (t_wish (x3).toNatClampNeg)), (0, .ref a_t)] := hl
                          refine lv_goto (tgt := 81) hx hb d_SkeletonClockModel_distanceTo_203 rfl ?_
                          have hl : lv_has ls 6 [(0, .ref a_t), (2, .int ((x2 + (1000 : Int32)) + (100 : Int32))), (3, .int (x3 + (1 : Int32)))] := lv_sub hl [4, 1, 0] rfl
                          exact ih _ _ _ _ _ _ he hl hP hD hS K
                      · have he := ih_f hc he
                        refine lv_iconst (v := (1 : Int32)) hx hb d_SkeletonClockModel_distanceTo_189 (by decide) ?_
                        refine lv_goto (tgt := 194) hx hb d_SkeletonClockModel_distanceTo_190 rfl ?_
                        refine lv_icmp_eq (tgt := 200) hx hb d_SkeletonClockModel_distanceTo_194 rfl (fun hc => ?_) (fun hc => ?_)
                        · refine lv_iinc (k := 4) hx hb d_SkeletonClockModel_distanceTo_200 hl rfl (ii_ (v := (1 : Int32)) (by decide)) (by decide) rfl (fun ls hl => ?_)
                          have hl : lv_has ls 6 [(3, .int (x3 + (1 : Int32))), (2, .int (x2 + (1000 : Int32))), (5, .int (t_have (x3).toNatClampNeg)), (4, .int (t_wish (x3).toNatClampNeg)), (0, .ref a_t)] := hl
                          refine lv_goto (tgt := 81) hx hb d_SkeletonClockModel_distanceTo_203 rfl ?_
                          have hl : lv_has ls 6 [(0, .ref a_t), (2, .int (x2 + (1000 : Int32))), (3, .int (x3 + (1 : Int32)))] := lv_sub hl [4, 1, 0] rfl
                          exact ih _ _ _ _ _ _ he hl hP hD hS K
                        · exact absurd (by decide) hc
        · have he := ih_t hc he
          refine lv_goto (tgt := 200) hx hb d_SkeletonClockModel_distanceTo_114 rfl ?_
          refine lv_iinc (k := 4) hx hb d_SkeletonClockModel_distanceTo_200 hl rfl (ii_ (v := (1 : Int32)) (by decide)) (by decide) rfl (fun ls hl => ?_)
          have hl : lv_has ls 6 [(3, .int (x3 + (1 : Int32))), (5, .int (t_have (x3).toNatClampNeg)), (4, .int (t_wish (x3).toNatClampNeg)), (0, .ref a_t), (2, .int x2)] := hl
          refine lv_goto (tgt := 81) hx hb d_SkeletonClockModel_distanceTo_203 rfl ?_
          have hl : lv_has ls 6 [(0, .ref a_t), (2, .int x2), (3, .int (x3 + (1 : Int32)))] := lv_sub hl [3, 4, 0] rfl
          exact ih _ _ _ _ _ _ he hl hP hD hS K
set_option maxHeartbeats 4000000 in
set_option maxRecDepth 100000 in
theorem c_SkeletonClockModel_distanceTo (l : Launch) (D : va_G) (kk : Nat → ClassId) (st : Nat → Nat) (a_t a_t_sort a_t_code a_t_count a_t_size a_t_wish a_t_have a_t_text a_t_page a_t_names a_t_around a_t_end a_t_there a_t_known a_t_value a_t_before a_t_open a_t_from : Nat) (sz : Nat) (t_length : Int32) (t_used : Int32) (t_far : Int32) (t_momentParts : Int32) (t_momentDay : Int64) (t_momentSecond : Int32) (t_momentNano : Int32) (t_momentOffset : Int32) (t_readParts : Int32) (t_readDay : Int64) (t_readSecond : Int32) (t_readNano : Int32) (t_readOffset : Int32) (t_alike : Int32) (t_sort : Nat → Int32) (t_code : Nat → Int32) (t_count : Nat → Int32) (t_size : Nat → Int32) (t_wish : Nat → Int32) (t_have : Nat → Int32) (x1 : Int32) (o : Int32 × (Nat → Int32)) (he : f_SkeletonClockModel_distanceTo t_sort t_code t_count t_size t_wish t_have x1 = some o) : Met l y_SkeletonClockModel_distanceTo (Cond.code y_SkeletonClockModel_distanceTo b_SkeletonClockModel_distanceTo 6 (some .int) :: GW) rm_SkeletonClockModel_distanceTo (KPc D kk st [.ref a_t, .int x1] [(a_t, .inr (10, [.int t_length, .ref a_t_text, .int t_used, .ref a_t_page, .ref a_t_names, .ref a_t_sort, .ref a_t_code, .ref a_t_count, .ref a_t_around, .ref a_t_end, .ref a_t_size, .ref a_t_there, .ref a_t_wish, .ref a_t_have, .int t_far, .int t_momentParts, .long t_momentDay, .int t_momentSecond, .int t_momentNano, .int t_momentOffset, .int t_readParts, .long t_readDay, .int t_readSecond, .int t_readNano, .int t_readOffset, .ref a_t_known, .ref a_t_value, .ref a_t_before, .ref a_t_open, .ref a_t_from, .int t_alike])), (a_t_sort, .inl (kk 0, 140, .inl t_sort)), (a_t_code, .inl (kk 0, 140, .inl t_code)), (a_t_count, .inl (kk 0, 140, .inl t_count)), (a_t_size, .inl (kk 0, 7, .inl t_size)), (a_t_wish, .inl (kk 0, 128, .inl t_wish)), (a_t_have, .inl (kk 0, 128, .inl t_have))] sz) (KQi D kk o.1 [(a_t, .inr (10, [.int t_length, .ref a_t_text, .int t_used, .ref a_t_page, .ref a_t_names, .ref a_t_sort, .ref a_t_code, .ref a_t_count, .ref a_t_around, .ref a_t_end, .ref a_t_size, .ref a_t_there, .ref a_t_wish, .ref a_t_have, .int t_far, .int t_momentParts, .long t_momentDay, .int t_momentSecond, .int t_momentNano, .int t_momentOffset, .int t_readParts, .long t_readDay, .int t_readSecond, .int t_readNano, .int t_readOffset, .ref a_t_known, .ref a_t_value, .ref a_t_before, .ref a_t_open, .ref a_t_from, .int t_alike])), (a_t_sort, .inl (kk 0, 140, .inl t_sort)), (a_t_code, .inl (kk 0, 140, .inl t_code)), (a_t_count, .inl (kk 0, 140, .inl t_count)), (a_t_size, .inl (kk 0, 7, .inl t_size)), (a_t_wish, .inl (kk 0, 128, .inl t_wish)), (a_t_have, .inl (kk 0, 128, .inl o.2))] (va_A [(a_t, .inr (10, [.int t_length, .ref a_t_text, .int t_used, .ref a_t_page, .ref a_t_names, .ref a_t_sort, .ref a_t_code, .ref a_t_count, .ref a_t_around, .ref a_t_end, .ref a_t_size, .ref a_t_there, .ref a_t_wish, .ref a_t_have, .int t_far, .int t_momentParts, .long t_momentDay, .int t_momentSecond, .int t_momentNano, .int t_momentOffset, .int t_readParts, .long t_readDay, .int t_readSecond, .int t_readNano, .int t_readOffset, .ref a_t_known, .ref a_t_value, .ref a_t_before, .ref a_t_open, .ref a_t_from, .int t_alike])), (a_t_sort, .inl (kk 0, 140, .inl t_sort)), (a_t_code, .inl (kk 0, 140, .inl t_code)), (a_t_count, .inl (kk 0, 140, .inl t_count)), (a_t_size, .inl (kk 0, 7, .inl t_size)), (a_t_wish, .inl (kk 0, 128, .inl t_wish)), (a_t_have, .inl (kk 0, 128, .inl t_have))] sz)) 0 0 (va_A [(a_t, .inr (10, [.int t_length, .ref a_t_text, .int t_used, .ref a_t_page, .ref a_t_names, .ref a_t_sort, .ref a_t_code, .ref a_t_count, .ref a_t_around, .ref a_t_end, .ref a_t_size, .ref a_t_there, .ref a_t_wish, .ref a_t_have, .int t_far, .int t_momentParts, .long t_momentDay, .int t_momentSecond, .int t_momentNano, .int t_momentOffset, .int t_readParts, .long t_readDay, .int t_readSecond, .int t_readNano, .int t_readOffset, .ref a_t_known, .ref a_t_value, .ref a_t_before, .ref a_t_open, .ref a_t_from, .int t_alike])), (a_t_sort, .inl (kk 0, 140, .inl t_sort)), (a_t_code, .inl (kk 0, 140, .inl t_code)), (a_t_count, .inl (kk 0, 140, .inl t_count)), (a_t_size, .inl (kk 0, 7, .inl t_size)), (a_t_wish, .inl (kk 0, 128, .inl t_wish)), (a_t_have, .inl (kk 0, 128, .inl t_have))] sz) := by
  refine k_start (Qc := fun A => KQi D kk o.1 [(a_t, .inr (10, [.int t_length, .ref a_t_text, .int t_used, .ref a_t_page, .ref a_t_names, .ref a_t_sort, .ref a_t_code, .ref a_t_count, .ref a_t_around, .ref a_t_end, .ref a_t_size, .ref a_t_there, .ref a_t_wish, .ref a_t_have, .int t_far, .int t_momentParts, .long t_momentDay, .int t_momentSecond, .int t_momentNano, .int t_momentOffset, .int t_readParts, .long t_readDay, .int t_readSecond, .int t_readNano, .int t_readOffset, .ref a_t_known, .ref a_t_value, .ref a_t_before, .ref a_t_open, .ref a_t_from, .int t_alike])), (a_t_sort, .inl (kk 0, 140, .inl t_sort)), (a_t_code, .inl (kk 0, 140, .inl t_code)), (a_t_count, .inl (kk 0, 140, .inl t_count)), (a_t_size, .inl (kk 0, 7, .inl t_size)), (a_t_wish, .inl (kk 0, 128, .inl t_wish)), (a_t_have, .inl (kk 0, 128, .inl o.2))] A) (by decide) (Nat.le_of_ble_eq_true rfl) ?_
  intro p e s m below meth c A ls S hnm hr hlk hA X hP hD hS hl
  have hl : lv_has ls 6 [(0, .ref a_t), (1, .int x1)] := hl
  have hx := S.1
  have hb := S.2.1
  unfold f_SkeletonClockModel_distanceTo at he
  refine lv_iconst (v := (0 : Int32)) hx hb d_SkeletonClockModel_distanceTo_0 (by decide) ?_
  refine lv_istore_n hx hb d_SkeletonClockModel_distanceTo_1 rfl hl (by decide) rfl (fun ls hl => ?_)
  have hl : lv_has ls 6 [(2, .int (0 : Int32)), (0, .ref a_t), (1, .int x1)] := hl
  obtain ⟨u2, e3, he⟩ := ih_b he
  have hl : lv_has ls 6 [(0, .ref a_t), (1, .int x1), (2, .int (0 : Int32))] := lv_sub hl [1, 2, 0] rfl
  refine w_SkeletonClockModel_distanceTo_2 a_t a_t_sort a_t_code a_t_count a_t_size a_t_wish a_t_have a_t_text a_t_page a_t_names a_t_around a_t_end a_t_there a_t_known a_t_value a_t_before a_t_open a_t_from t_length t_used t_far t_momentParts t_momentDay t_momentSecond t_momentNano t_momentOffset t_readParts t_readDay t_readSecond t_readNano t_readOffset t_alike t_sort t_code t_count t_size t_wish x1 S hr hlk hA X FU (0 : Int32) t_have u2 _ _ ls e3 hl hP hD hS (fun H locs ls hl hP hD hS => ?_)
  refine lv_bipush (v := (20 : Int32)) hx hb d_SkeletonClockModel_distanceTo_22 (by decide) ?_
  refine lv_iload_n hx hb d_SkeletonClockModel_distanceTo_24 rfl (lv_at hl 1 rfl) ?_
  refine lv_imul hx hb d_SkeletonClockModel_distanceTo_25 ?_
  refine lv_aload_n hx hb d_SkeletonClockModel_distanceTo_26 rfl (lv_at hl 0 rfl) ?_
  refine k_get S X us_SkeletonClockModel hP 0 rfl rfl 10 (by decide) gm_4_161 rfl d_SkeletonClockModel_distanceTo_27 ?_
  refine lv_iload_n hx hb d_SkeletonClockModel_distanceTo_30 rfl (lv_at hl 1 rfl) ?_
  obtain ⟨hi4, he⟩ := ih_g he
  refine va_iald hx hb X.1 hP 4 0 rfl rfl hi4 d_SkeletonClockModel_distanceTo_31 ?_
  refine lv_iadd hx hb d_SkeletonClockModel_distanceTo_32 ?_
  refine lv_iconst (v := (1 : Int32)) hx hb d_SkeletonClockModel_distanceTo_33 (by decide) ?_
  refine lv_isub hx hb d_SkeletonClockModel_distanceTo_34 ?_
  refine lv_istore_n hx hb d_SkeletonClockModel_distanceTo_35 rfl hl (by decide) rfl (fun ls hl => ?_)
  have hl : lv_has ls 6 [(2, .int ((((20 : Int32) * x1) + (t_size (x1).toNatClampNeg)) - (1 : Int32))), (0, .ref a_t), (1, .int x1)] := hl
  obtain ⟨u9, e10, he⟩ := ih_b he
  have hl : lv_has ls 6 [(0, .ref a_t), (1, .int x1), (2, .int ((((20 : Int32) * x1) + (t_size (x1).toNatClampNeg)) - (1 : Int32)))] := lv_sub hl [1, 2, 0] rfl
  refine w_SkeletonClockModel_distanceTo_36 a_t a_t_sort a_t_code a_t_count a_t_size a_t_wish a_t_have a_t_text a_t_page a_t_names a_t_around a_t_end a_t_there a_t_known a_t_value a_t_before a_t_open a_t_from t_length t_used t_far t_momentParts t_momentDay t_momentSecond t_momentNano t_momentOffset t_readParts t_readDay t_readSecond t_readNano t_readOffset t_alike t_sort t_code t_count t_size t_wish x1 S hr hlk hA X FU ((((20 : Int32) * x1) + (t_size (x1).toNatClampNeg)) - (1 : Int32)) u2.2 u9 _ _ ls e10 hl hP hD hS (fun H locs ls hl hP hD hS => ?_)
  refine lv_iconst (v := (0 : Int32)) hx hb d_SkeletonClockModel_distanceTo_77 (by decide) ?_
  refine lv_istore_n hx hb d_SkeletonClockModel_distanceTo_78 rfl hl (by decide) rfl (fun ls hl => ?_)
  have hl : lv_has ls 6 [(2, .int (0 : Int32)), (0, .ref a_t), (1, .int x1)] := hl
  refine lv_iconst (v := (0 : Int32)) hx hb d_SkeletonClockModel_distanceTo_79 (by decide) ?_
  refine lv_istore_n hx hb d_SkeletonClockModel_distanceTo_80 rfl hl (by decide) rfl (fun ls hl => ?_)
  have hl : lv_has ls 6 [(3, .int (0 : Int32)), (2, .int (0 : Int32)), (0, .ref a_t), (1, .int x1)] := hl
  obtain ⟨u13, e14, he⟩ := ih_b he
  have hl : lv_has ls 6 [(0, .ref a_t), (2, .int (0 : Int32)), (3, .int (0 : Int32))] := lv_sub hl [2, 1, 0] rfl
  refine w_SkeletonClockModel_distanceTo_81 a_t a_t_sort a_t_code a_t_count a_t_size a_t_wish a_t_have a_t_text a_t_page a_t_names a_t_around a_t_end a_t_there a_t_known a_t_value a_t_before a_t_open a_t_from t_length t_used t_far t_momentParts t_momentDay t_momentSecond t_momentNano t_momentOffset t_readParts t_readDay t_readSecond t_readNano t_readOffset t_alike t_sort t_code t_count t_size t_wish u9.2 S hr hlk hA X FU (0 : Int32) (0 : Int32) u13 _ _ ls e14 hl hP hD hS (fun H locs ls hl hP hD hS => ?_)
  refine lv_iload_n hx hb d_SkeletonClockModel_distanceTo_206 rfl (lv_at hl 1 rfl) ?_
  cases he
  exact k_ire hx hb hr hlk X hP hD hS d_SkeletonClockModel_distanceTo_207
