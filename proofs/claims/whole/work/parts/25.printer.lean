abbrev b_Printer_writeName : ByteArray := prog_9_method_4_code
def y_Printer_writeName : MethodName := ⟨"SkeletonClock$Printer", "writeName", "(III)V"⟩
theorem kd_Printer_writeName : kd_ok y_Printer_writeName 3 := by decide +kernel
abbrev b_SkeletonClock_isYearField : ByteArray := prog_1_method_20_code
def y_SkeletonClock_isYearField : MethodName := ⟨"SkeletonClock", "isYearField", "(I)Z"⟩
theorem kd_SkeletonClock_isYearField : kd_ok y_SkeletonClock_isYearField 1 := by decide +kernel
abbrev b_Printer_writeYear : ByteArray := prog_9_method_5_code
def y_Printer_writeYear : MethodName := ⟨"SkeletonClock$Printer", "writeYear", "(II)V"⟩
theorem kd_Printer_writeYear : kd_ok y_Printer_writeYear 2 := by decide +kernel
abbrev b_Printer_writeNano : ByteArray := prog_9_method_6_code
def y_Printer_writeNano : MethodName := ⟨"SkeletonClock$Printer", "writeNano", "(II)V"⟩
theorem kd_Printer_writeNano : kd_ok y_Printer_writeNano 2 := by decide +kernel
abbrev b_Printer_writeOffset : ByteArray := prog_9_method_7_code
def y_Printer_writeOffset : MethodName := ⟨"SkeletonClock$Printer", "writeOffset", "(III)V"⟩
theorem kd_Printer_writeOffset : kd_ok y_Printer_writeOffset 3 := by decide +kernel
abbrev b_Printer_writePiece : ByteArray := prog_9_method_3_code
def y_Printer_writePiece : MethodName := ⟨"SkeletonClock$Printer", "writePiece", "(LSkeletonClock$Moment;LSkeletonClock$Pattern;I)V"⟩
theorem kd_Printer_writePiece : kd_ok y_Printer_writePiece 3 := by decide +kernel
abbrev b_Printer_write : ByteArray := prog_9_method_2_code
def y_Printer_write : MethodName := ⟨"SkeletonClock$Printer", "write", "(LSkeletonClock$Moment;LSkeletonClock$Pattern;)Z"⟩
theorem kd_Printer_write : kd_ok y_Printer_write 2 := by decide +kernel
theorem gm_3_88 : Cond.code ({ cls := "SkeletonClock$Names", name := "letter", desc := "(IIII)I" } : MethodName) prog_5_method_6_code (7 : Nat) (Option.some FieldType.int) ∈ GW := gw_3 (i := 88) rfl rfl
theorem gm_3_86 : Cond.methodLink "SkeletonClock$Printer" (112 : Nat) ({ cls := "SkeletonClock$Names", name := "letter", desc := "(IIII)I" } : MethodName) ∈ GW := gw_3 (i := 86) rfl rfl
theorem gm_3_87 : Cond.static ({ cls := "SkeletonClock$Names", name := "letter", desc := "(IIII)I" } : MethodName) ∈ GW := gw_3 (i := 87) rfl rfl
theorem gm_1_115 : Cond.fieldLink "SkeletonClock$Printer" (14 : Nat) "SkeletonClock$Printer" "draft" "LSkeletonClock$Row;" ∈ GW := gw_1 (i := 115) rfl rfl
theorem gm_3_76 : Cond.methodLink "SkeletonClock$Printer" (81 : Nat) ({ cls := "SkeletonClock$Row", name := "put", desc := "(C)Z" } : MethodName) ∈ GW := gw_3 (i := 76) rfl rfl
theorem gm_3_136 : Cond.methodLink "SkeletonClock$Printer" (119 : Nat) ({ cls := "java/lang/Math", name := "abs", desc := "(I)I" } : MethodName) ∈ GW := gw_3 (i := 136) rfl rfl
theorem gm_3_135 : Cond.code ({ cls := "SkeletonClock$Row", name := "putNumber", desc := "(II)V" } : MethodName) prog_11_method_3_code (8 : Nat) (Option.none : Option FieldType) ∈ GW := gw_3 (i := 135) rfl rfl
theorem gm_3_132 : Cond.methodLink "SkeletonClock$Printer" (107 : Nat) ({ cls := "SkeletonClock$Row", name := "putNumber", desc := "(II)V" } : MethodName) ∈ GW := gw_3 (i := 132) rfl rfl
theorem gm_3_133 : Cond.instanceMethod ({ cls := "SkeletonClock$Row", name := "putNumber", desc := "(II)V" } : MethodName) ∈ GW := gw_3 (i := 133) rfl rfl
theorem gm_3_134 : Cond.selects "SkeletonClock$Row" ({ cls := "SkeletonClock$Row", name := "putNumber", desc := "(II)V" } : MethodName) ({ cls := "SkeletonClock$Row", name := "putNumber", desc := "(II)V" } : MethodName) ∈ GW := gw_3 (i := 134) rfl rfl
theorem gm_3_129 : Cond.methodLink "SkeletonClock$Printer" (116 : Nat) ({ cls := "java/lang/Math", name := "floorMod", desc := "(II)I" } : MethodName) ∈ GW := gw_3 (i := 129) rfl rfl
theorem gm_3_59 : Cond.methodLink "SkeletonClock$Printer" (42 : Nat) ({ cls := "SkeletonClock$Pattern", name := "kind", desc := "(I)I" } : MethodName) ∈ GW := gw_3 (i := 59) rfl rfl
theorem gm_3_60 : Cond.methodLink "SkeletonClock$Printer" (46 : Nat) ({ cls := "SkeletonClock$Pattern", name := "number", desc := "(I)I" } : MethodName) ∈ GW := gw_3 (i := 60) rfl rfl
theorem gm_3_80 : Cond.code ({ cls := "SkeletonClock$Pattern", name := "isName", desc := "(I)Z" } : MethodName) prog_7_method_8_code (3 : Nat) (Option.some FieldType.boolean) ∈ GW := gw_3 (i := 80) rfl rfl
theorem gm_3_77 : Cond.methodLink "SkeletonClock$Printer" (85 : Nat) ({ cls := "SkeletonClock$Pattern", name := "isName", desc := "(I)Z" } : MethodName) ∈ GW := gw_3 (i := 77) rfl rfl
theorem gm_3_78 : Cond.instanceMethod ({ cls := "SkeletonClock$Pattern", name := "isName", desc := "(I)Z" } : MethodName) ∈ GW := gw_3 (i := 78) rfl rfl
theorem gm_3_79 : Cond.selects "SkeletonClock$Pattern" ({ cls := "SkeletonClock$Pattern", name := "isName", desc := "(I)Z" } : MethodName) ({ cls := "SkeletonClock$Pattern", name := "isName", desc := "(I)Z" } : MethodName) ∈ GW := gw_3 (i := 79) rfl rfl
theorem gm_3_124 : Cond.code ({ cls := "SkeletonClock", name := "isYearField", desc := "(I)Z" } : MethodName) prog_1_method_20_code (1 : Nat) (Option.some FieldType.boolean) ∈ GW := gw_3 (i := 124) rfl rfl
theorem gm_3_122 : Cond.methodLinkNest "SkeletonClock$Printer" (94 : Nat) ({ cls := "SkeletonClock", name := "isYearField", desc := "(I)Z" } : MethodName) "SkeletonClock" ∈ NW := gn_3 (i := 122) rfl rfl
theorem gm_3_123 : Cond.static ({ cls := "SkeletonClock", name := "isYearField", desc := "(I)Z" } : MethodName) ∈ GW := gw_3 (i := 123) rfl rfl
theorem gm_3_81 : Cond.methodLink "SkeletonClock$Printer" (88 : Nat) ({ cls := "SkeletonClock$Moment", name := "value", desc := "(I)I" } : MethodName) ∈ GW := gw_3 (i := 81) rfl rfl
theorem gm_3_144 : Cond.code ({ cls := "SkeletonClock$Printer", name := "writeOffset", desc := "(III)V" } : MethodName) prog_9_method_7_code (5 : Nat) (Option.none : Option FieldType) ∈ GW := gw_3 (i := 144) rfl rfl
theorem gm_3_141 : Cond.methodLink "SkeletonClock$Printer" (104 : Nat) ({ cls := "SkeletonClock$Printer", name := "writeOffset", desc := "(III)V" } : MethodName) ∈ GW := gw_3 (i := 141) rfl rfl
theorem gm_1_5 : Cond.initialized "SkeletonClock$Printer" ∈ GW := gw_1 (i := 5) rfl rfl
theorem gm_3_143 : Cond.instanceMethod ({ cls := "SkeletonClock$Printer", name := "writeOffset", desc := "(III)V" } : MethodName) ∈ GW := gw_3 (i := 143) rfl rfl
theorem gm_p1_14 : Cond.selects "SkeletonClock$Printer" ⟨"SkeletonClock$Printer", "writeOffset", "(III)V"⟩ ⟨"SkeletonClock$Printer", "writeOffset", "(III)V"⟩ ∈ GW := gs_1 (i := 14) rfl
theorem gm_3_140 : Cond.code ({ cls := "SkeletonClock$Printer", name := "writeNano", desc := "(II)V" } : MethodName) prog_9_method_6_code (5 : Nat) (Option.none : Option FieldType) ∈ GW := gw_3 (i := 140) rfl rfl
theorem gm_3_137 : Cond.methodLink "SkeletonClock$Printer" (101 : Nat) ({ cls := "SkeletonClock$Printer", name := "writeNano", desc := "(II)V" } : MethodName) ∈ GW := gw_3 (i := 137) rfl rfl
theorem gm_3_139 : Cond.instanceMethod ({ cls := "SkeletonClock$Printer", name := "writeNano", desc := "(II)V" } : MethodName) ∈ GW := gw_3 (i := 139) rfl rfl
theorem gm_p1_13 : Cond.selects "SkeletonClock$Printer" ⟨"SkeletonClock$Printer", "writeNano", "(II)V"⟩ ⟨"SkeletonClock$Printer", "writeNano", "(II)V"⟩ ∈ GW := gs_1 (i := 13) rfl
theorem gm_3_128 : Cond.code ({ cls := "SkeletonClock$Printer", name := "writeYear", desc := "(II)V" } : MethodName) prog_9_method_5_code (3 : Nat) (Option.none : Option FieldType) ∈ GW := gw_3 (i := 128) rfl rfl
theorem gm_3_125 : Cond.methodLink "SkeletonClock$Printer" (97 : Nat) ({ cls := "SkeletonClock$Printer", name := "writeYear", desc := "(II)V" } : MethodName) ∈ GW := gw_3 (i := 125) rfl rfl
theorem gm_3_127 : Cond.instanceMethod ({ cls := "SkeletonClock$Printer", name := "writeYear", desc := "(II)V" } : MethodName) ∈ GW := gw_3 (i := 127) rfl rfl
theorem gm_p1_12 : Cond.selects "SkeletonClock$Printer" ⟨"SkeletonClock$Printer", "writeYear", "(II)V"⟩ ⟨"SkeletonClock$Printer", "writeYear", "(II)V"⟩ ∈ GW := gs_1 (i := 12) rfl
theorem gm_3_85 : Cond.code ({ cls := "SkeletonClock$Printer", name := "writeName", desc := "(III)V" } : MethodName) prog_9_method_4_code (5 : Nat) (Option.none : Option FieldType) ∈ GW := gw_3 (i := 85) rfl rfl
theorem gm_3_82 : Cond.methodLink "SkeletonClock$Printer" (91 : Nat) ({ cls := "SkeletonClock$Printer", name := "writeName", desc := "(III)V" } : MethodName) ∈ GW := gw_3 (i := 82) rfl rfl
theorem gm_3_84 : Cond.instanceMethod ({ cls := "SkeletonClock$Printer", name := "writeName", desc := "(III)V" } : MethodName) ∈ GW := gw_3 (i := 84) rfl rfl
theorem gm_p1_11 : Cond.selects "SkeletonClock$Printer" ⟨"SkeletonClock$Printer", "writeName", "(III)V"⟩ ⟨"SkeletonClock$Printer", "writeName", "(III)V"⟩ ∈ GW := gs_1 (i := 11) rfl
theorem gm_2_208 : Cond.code ({ cls := "SkeletonClock$Row", name := "shorten", desc := "(I)V" } : MethodName) prog_11_method_5_code (2 : Nat) (Option.none : Option FieldType) ∈ GW := gw_2 (i := 208) rfl rfl
theorem gm_3_50 : Cond.methodLink "SkeletonClock$Printer" (27 : Nat) ({ cls := "SkeletonClock$Row", name := "shorten", desc := "(I)V" } : MethodName) ∈ GW := gw_3 (i := 50) rfl rfl
theorem gm_2_206 : Cond.instanceMethod ({ cls := "SkeletonClock$Row", name := "shorten", desc := "(I)V" } : MethodName) ∈ GW := gw_2 (i := 206) rfl rfl
theorem gm_2_207 : Cond.selects "SkeletonClock$Row" ({ cls := "SkeletonClock$Row", name := "shorten", desc := "(I)V" } : MethodName) ({ cls := "SkeletonClock$Row", name := "shorten", desc := "(I)V" } : MethodName) ∈ GW := gw_2 (i := 207) rfl rfl
theorem gm_1_117 : Cond.fieldLink "SkeletonClock$Printer" (23 : Nat) "SkeletonClock$Printer" "nest" "LSkeletonClock$Nest;" ∈ GW := gw_1 (i := 117) rfl rfl
theorem gm_3_54 : Cond.code ({ cls := "SkeletonClock$Nest", name := "clear", desc := "()V" } : MethodName) prog_6_method_2_code (1 : Nat) (Option.none : Option FieldType) ∈ GW := gw_3 (i := 54) rfl rfl
theorem gm_3_51 : Cond.methodLink "SkeletonClock$Printer" (30 : Nat) ({ cls := "SkeletonClock$Nest", name := "clear", desc := "()V" } : MethodName) ∈ GW := gw_3 (i := 51) rfl rfl
theorem gm_1_6 : Cond.initialized "SkeletonClock$Nest" ∈ GW := gw_1 (i := 6) rfl rfl
theorem gm_3_52 : Cond.instanceMethod ({ cls := "SkeletonClock$Nest", name := "clear", desc := "()V" } : MethodName) ∈ GW := gw_3 (i := 52) rfl rfl
theorem gm_3_53 : Cond.selects "SkeletonClock$Nest" ({ cls := "SkeletonClock$Nest", name := "clear", desc := "()V" } : MethodName) ({ cls := "SkeletonClock$Nest", name := "clear", desc := "()V" } : MethodName) ∈ GW := gw_3 (i := 53) rfl rfl
theorem gm_1_64 : Cond.fieldLink "SkeletonClock$Printer" (33 : Nat) "SkeletonClock$Pattern" "size" "I" ∈ GW := gw_1 (i := 64) rfl rfl
theorem gm_3_58 : Cond.code ({ cls := "SkeletonClock$Nest", name := "closeBefore", desc := "(I)V" } : MethodName) prog_6_method_4_code (2 : Nat) (Option.none : Option FieldType) ∈ GW := gw_3 (i := 58) rfl rfl
theorem gm_3_55 : Cond.methodLink "SkeletonClock$Printer" (39 : Nat) ({ cls := "SkeletonClock$Nest", name := "closeBefore", desc := "(I)V" } : MethodName) ∈ GW := gw_3 (i := 55) rfl rfl
theorem gm_3_56 : Cond.instanceMethod ({ cls := "SkeletonClock$Nest", name := "closeBefore", desc := "(I)V" } : MethodName) ∈ GW := gw_3 (i := 56) rfl rfl
theorem gm_3_57 : Cond.selects "SkeletonClock$Nest" ({ cls := "SkeletonClock$Nest", name := "closeBefore", desc := "(I)V" } : MethodName) ({ cls := "SkeletonClock$Nest", name := "closeBefore", desc := "(I)V" } : MethodName) ∈ GW := gw_3 (i := 57) rfl rfl
theorem gm_3_75 : Cond.code ({ cls := "SkeletonClock$Printer", name := "writePiece", desc := "(LSkeletonClock$Moment;LSkeletonClock$Pattern;I)V" } : MethodName) prog_9_method_3_code (6 : Nat) (Option.none : Option FieldType) ∈ GW := gw_3 (i := 75) rfl rfl
theorem gm_3_72 : Cond.methodLink "SkeletonClock$Printer" (60 : Nat) ({ cls := "SkeletonClock$Printer", name := "writePiece", desc := "(LSkeletonClock$Moment;LSkeletonClock$Pattern;I)V" } : MethodName) ∈ GW := gw_3 (i := 72) rfl rfl
theorem gm_3_74 : Cond.instanceMethod ({ cls := "SkeletonClock$Printer", name := "writePiece", desc := "(LSkeletonClock$Moment;LSkeletonClock$Pattern;I)V" } : MethodName) ∈ GW := gw_3 (i := 74) rfl rfl
theorem gm_p1_10 : Cond.selects "SkeletonClock$Printer" ⟨"SkeletonClock$Printer", "writePiece", "(LSkeletonClock$Moment;LSkeletonClock$Pattern;I)V"⟩ ⟨"SkeletonClock$Printer", "writePiece", "(LSkeletonClock$Moment;LSkeletonClock$Pattern;I)V"⟩ ∈ GW := gs_1 (i := 10) rfl
theorem gm_3_68 : Cond.code ({ cls := "SkeletonClock$Moment", name := "has", desc := "(I)Z" } : MethodName) prog_4_method_7_code (2 : Nat) (Option.some FieldType.boolean) ∈ GW := gw_3 (i := 68) rfl rfl
theorem gm_3_65 : Cond.methodLink "SkeletonClock$Printer" (54 : Nat) ({ cls := "SkeletonClock$Moment", name := "has", desc := "(I)Z" } : MethodName) ∈ GW := gw_3 (i := 65) rfl rfl
theorem gm_3_66 : Cond.instanceMethod ({ cls := "SkeletonClock$Moment", name := "has", desc := "(I)Z" } : MethodName) ∈ GW := gw_3 (i := 66) rfl rfl
theorem gm_3_67 : Cond.selects "SkeletonClock$Moment" ({ cls := "SkeletonClock$Moment", name := "has", desc := "(I)Z" } : MethodName) ({ cls := "SkeletonClock$Moment", name := "has", desc := "(I)Z" } : MethodName) ∈ GW := gw_3 (i := 67) rfl rfl
theorem gm_3_148 : Cond.code ({ cls := "SkeletonClock$Nest", name := "isEmpty", desc := "()Z" } : MethodName) prog_6_method_5_code (1 : Nat) (Option.some FieldType.boolean) ∈ GW := gw_3 (i := 148) rfl rfl
theorem gm_3_145 : Cond.methodLink "SkeletonClock$Printer" (64 : Nat) ({ cls := "SkeletonClock$Nest", name := "isEmpty", desc := "()Z" } : MethodName) ∈ GW := gw_3 (i := 145) rfl rfl
theorem gm_3_146 : Cond.instanceMethod ({ cls := "SkeletonClock$Nest", name := "isEmpty", desc := "()Z" } : MethodName) ∈ GW := gw_3 (i := 146) rfl rfl
theorem gm_3_147 : Cond.selects "SkeletonClock$Nest" ({ cls := "SkeletonClock$Nest", name := "isEmpty", desc := "()Z" } : MethodName) ({ cls := "SkeletonClock$Nest", name := "isEmpty", desc := "()Z" } : MethodName) ∈ GW := gw_3 (i := 147) rfl rfl
theorem gm_3_152 : Cond.code ({ cls := "SkeletonClock$Nest", name := "place", desc := "()I" } : MethodName) prog_6_method_7_code (1 : Nat) (Option.some FieldType.int) ∈ GW := gw_3 (i := 152) rfl rfl
theorem gm_3_149 : Cond.methodLink "SkeletonClock$Printer" (68 : Nat) ({ cls := "SkeletonClock$Nest", name := "place", desc := "()I" } : MethodName) ∈ GW := gw_3 (i := 149) rfl rfl
theorem gm_3_150 : Cond.instanceMethod ({ cls := "SkeletonClock$Nest", name := "place", desc := "()I" } : MethodName) ∈ GW := gw_3 (i := 150) rfl rfl
theorem gm_3_151 : Cond.selects "SkeletonClock$Nest" ({ cls := "SkeletonClock$Nest", name := "place", desc := "()I" } : MethodName) ({ cls := "SkeletonClock$Nest", name := "place", desc := "()I" } : MethodName) ∈ GW := gw_3 (i := 151) rfl rfl
theorem gm_3_156 : Cond.code ({ cls := "SkeletonClock$Nest", name := "limit", desc := "(I)I" } : MethodName) prog_6_method_6_code (2 : Nat) (Option.some FieldType.int) ∈ GW := gw_3 (i := 156) rfl rfl
theorem gm_3_153 : Cond.methodLink "SkeletonClock$Printer" (72 : Nat) ({ cls := "SkeletonClock$Nest", name := "limit", desc := "(I)I" } : MethodName) ∈ GW := gw_3 (i := 153) rfl rfl
theorem gm_3_154 : Cond.instanceMethod ({ cls := "SkeletonClock$Nest", name := "limit", desc := "(I)I" } : MethodName) ∈ GW := gw_3 (i := 154) rfl rfl
theorem gm_3_155 : Cond.selects "SkeletonClock$Nest" ({ cls := "SkeletonClock$Nest", name := "limit", desc := "(I)I" } : MethodName) ({ cls := "SkeletonClock$Nest", name := "limit", desc := "(I)I" } : MethodName) ∈ GW := gw_3 (i := 155) rfl rfl
theorem gm_3_157 : Cond.methodLink "SkeletonClock$Printer" (75 : Nat) ({ cls := "java/lang/Math", name := "max", desc := "(II)I" } : MethodName) ∈ GW := gw_3 (i := 157) rfl rfl
theorem gm_1_37 : Cond.fieldLink "SkeletonClock$Printer" (49 : Nat) "SkeletonClock$Row" "size" "I" ∈ GW := gw_1 (i := 37) rfl rfl
theorem gm_3_64 : Cond.code ({ cls := "SkeletonClock$Nest", name := "open", desc := "(III)V" } : MethodName) prog_6_method_3_code (4 : Nat) (Option.none : Option FieldType) ∈ GW := gw_3 (i := 64) rfl rfl
theorem gm_3_61 : Cond.methodLink "SkeletonClock$Printer" (50 : Nat) ({ cls := "SkeletonClock$Nest", name := "open", desc := "(III)V" } : MethodName) ∈ GW := gw_3 (i := 61) rfl rfl
theorem gm_3_62 : Cond.instanceMethod ({ cls := "SkeletonClock$Nest", name := "open", desc := "(III)V" } : MethodName) ∈ GW := gw_3 (i := 62) rfl rfl
theorem gm_3_63 : Cond.selects "SkeletonClock$Nest" ({ cls := "SkeletonClock$Nest", name := "open", desc := "(III)V" } : MethodName) ({ cls := "SkeletonClock$Nest", name := "open", desc := "(III)V" } : MethodName) ∈ GW := gw_3 (i := 63) rfl rfl
theorem d_Printer_writeName_0 : decode b_Printer_writeName 0 = .ok (.iconst 0, 1) := by decide +kernel
theorem d_Printer_writeName_1 : decode b_Printer_writeName 1 = .ok (.istore 4, 2) := by decide +kernel
theorem d_Printer_writeName_3 : decode b_Printer_writeName 3 = .ok (.iload 4, 2) := by decide +kernel
theorem d_Printer_writeName_5 : decode b_Printer_writeName 5 = .ok (.bipush 9, 2) := by decide +kernel
theorem d_Printer_writeName_7 : decode b_Printer_writeName 7 = .ok (.if_icmp .ge 38, 3) := by decide +kernel
theorem d_Printer_writeName_10 : decode b_Printer_writeName 10 = .ok (.iload_n 1, 1) := by decide +kernel
theorem d_Printer_writeName_11 : decode b_Printer_writeName 11 = .ok (.iload_n 2, 1) := by decide +kernel
theorem d_Printer_writeName_12 : decode b_Printer_writeName 12 = .ok (.iload_n 3, 1) := by decide +kernel
theorem d_Printer_writeName_13 : decode b_Printer_writeName 13 = .ok (.iload 4, 2) := by decide +kernel
theorem d_Printer_writeName_15 : decode b_Printer_writeName 15 = .ok (.invokestatic 112, 3) := by decide +kernel
theorem d_Printer_writeName_18 : decode b_Printer_writeName 18 = .ok (.iconst (-1), 1) := by decide +kernel
theorem d_Printer_writeName_19 : decode b_Printer_writeName 19 = .ok (.if_icmp .eq 26, 3) := by decide +kernel
theorem d_Printer_writeName_22 : decode b_Printer_writeName 22 = .ok (.aload_n 0, 1) := by decide +kernel
theorem d_Printer_writeName_23 : decode b_Printer_writeName 23 = .ok (.getfield 14, 3) := by decide +kernel
theorem d_Printer_writeName_26 : decode b_Printer_writeName 26 = .ok (.iload_n 1, 1) := by decide +kernel
theorem d_Printer_writeName_27 : decode b_Printer_writeName 27 = .ok (.iload_n 2, 1) := by decide +kernel
theorem d_Printer_writeName_28 : decode b_Printer_writeName 28 = .ok (.iload_n 3, 1) := by decide +kernel
theorem d_Printer_writeName_29 : decode b_Printer_writeName 29 = .ok (.iload 4, 2) := by decide +kernel
theorem d_Printer_writeName_31 : decode b_Printer_writeName 31 = .ok (.invokestatic 112, 3) := by decide +kernel
theorem d_Printer_writeName_34 : decode b_Printer_writeName 34 = .ok (.i2c, 1) := by decide +kernel
theorem d_Printer_writeName_35 : decode b_Printer_writeName 35 = .ok (.invokevirtual 81, 3) := by decide +kernel
theorem d_Printer_writeName_38 : decode b_Printer_writeName 38 = .ok (.pop, 1) := by decide +kernel
theorem d_Printer_writeName_39 : decode b_Printer_writeName 39 = .ok (.iinc 4 1, 3) := by decide +kernel
theorem d_Printer_writeName_42 : decode b_Printer_writeName 42 = .ok (.goto (-39), 3) := by decide +kernel
theorem d_Printer_writeName_45 : decode b_Printer_writeName 45 = .ok (.return_, 1) := by decide +kernel
theorem d_SkeletonClock_isYearField_0 : decode b_SkeletonClock_isYearField 0 = .ok (.iload_n 0, 1) := by decide +kernel
theorem d_SkeletonClock_isYearField_1 : decode b_SkeletonClock_isYearField 1 = .ok (.ifCond .eq 8, 3) := by decide +kernel
theorem d_SkeletonClock_isYearField_4 : decode b_SkeletonClock_isYearField 4 = .ok (.iload_n 0, 1) := by decide +kernel
theorem d_SkeletonClock_isYearField_5 : decode b_SkeletonClock_isYearField 5 = .ok (.iconst 1, 1) := by decide +kernel
theorem d_SkeletonClock_isYearField_6 : decode b_SkeletonClock_isYearField 6 = .ok (.if_icmp .ne 7, 3) := by decide +kernel
theorem d_SkeletonClock_isYearField_9 : decode b_SkeletonClock_isYearField 9 = .ok (.iconst 1, 1) := by decide +kernel
theorem d_SkeletonClock_isYearField_10 : decode b_SkeletonClock_isYearField 10 = .ok (.goto 4, 3) := by decide +kernel
theorem d_SkeletonClock_isYearField_13 : decode b_SkeletonClock_isYearField 13 = .ok (.iconst 0, 1) := by decide +kernel
theorem d_SkeletonClock_isYearField_14 : decode b_SkeletonClock_isYearField 14 = .ok (.ireturn, 1) := by decide +kernel
theorem d_Printer_writeYear_0 : decode b_Printer_writeYear 0 = .ok (.iload_n 2, 1) := by decide +kernel
theorem d_Printer_writeYear_1 : decode b_Printer_writeYear 1 = .ok (.iconst 2, 1) := by decide +kernel
theorem d_Printer_writeYear_2 : decode b_Printer_writeYear 2 = .ok (.if_icmp .ne 18, 3) := by decide +kernel
theorem d_Printer_writeYear_5 : decode b_Printer_writeYear 5 = .ok (.aload_n 0, 1) := by decide +kernel
theorem d_Printer_writeYear_6 : decode b_Printer_writeYear 6 = .ok (.getfield 14, 3) := by decide +kernel
theorem d_Printer_writeYear_9 : decode b_Printer_writeYear 9 = .ok (.iload_n 1, 1) := by decide +kernel
theorem d_Printer_writeYear_10 : decode b_Printer_writeYear 10 = .ok (.bipush 100, 2) := by decide +kernel
theorem d_Printer_writeYear_12 : decode b_Printer_writeYear 12 = .ok (.invokestatic 116, 3) := by decide +kernel
theorem d_Printer_writeYear_15 : decode b_Printer_writeYear 15 = .ok (.iconst 2, 1) := by decide +kernel
theorem d_Printer_writeYear_16 : decode b_Printer_writeYear 16 = .ok (.invokevirtual 107, 3) := by decide +kernel
theorem d_Printer_writeYear_19 : decode b_Printer_writeYear 19 = .ok (.return_, 1) := by decide +kernel
theorem d_Printer_writeYear_20 : decode b_Printer_writeYear 20 = .ok (.iload_n 1, 1) := by decide +kernel
theorem d_Printer_writeYear_21 : decode b_Printer_writeYear 21 = .ok (.ifCond .ge 16, 3) := by decide +kernel
theorem d_Printer_writeYear_24 : decode b_Printer_writeYear 24 = .ok (.aload_n 0, 1) := by decide +kernel
theorem d_Printer_writeYear_25 : decode b_Printer_writeYear 25 = .ok (.getfield 14, 3) := by decide +kernel
theorem d_Printer_writeYear_28 : decode b_Printer_writeYear 28 = .ok (.bipush 45, 2) := by decide +kernel
theorem d_Printer_writeYear_30 : decode b_Printer_writeYear 30 = .ok (.invokevirtual 81, 3) := by decide +kernel
theorem d_Printer_writeYear_33 : decode b_Printer_writeYear 33 = .ok (.pop, 1) := by decide +kernel
theorem d_Printer_writeYear_34 : decode b_Printer_writeYear 34 = .ok (.goto 25, 3) := by decide +kernel
theorem d_Printer_writeYear_37 : decode b_Printer_writeYear 37 = .ok (.iload_n 2, 1) := by decide +kernel
theorem d_Printer_writeYear_38 : decode b_Printer_writeYear 38 = .ok (.iconst 4, 1) := by decide +kernel
theorem d_Printer_writeYear_39 : decode b_Printer_writeYear 39 = .ok (.if_icmp .ne 20, 3) := by decide +kernel
theorem d_Printer_writeYear_42 : decode b_Printer_writeYear 42 = .ok (.iload_n 1, 1) := by decide +kernel
theorem d_Printer_writeYear_43 : decode b_Printer_writeYear 43 = .ok (.sipush 9999, 3) := by decide +kernel
theorem d_Printer_writeYear_46 : decode b_Printer_writeYear 46 = .ok (.if_icmp .le 13, 3) := by decide +kernel
theorem d_Printer_writeYear_49 : decode b_Printer_writeYear 49 = .ok (.aload_n 0, 1) := by decide +kernel
theorem d_Printer_writeYear_50 : decode b_Printer_writeYear 50 = .ok (.getfield 14, 3) := by decide +kernel
theorem d_Printer_writeYear_53 : decode b_Printer_writeYear 53 = .ok (.bipush 43, 2) := by decide +kernel
theorem d_Printer_writeYear_55 : decode b_Printer_writeYear 55 = .ok (.invokevirtual 81, 3) := by decide +kernel
theorem d_Printer_writeYear_58 : decode b_Printer_writeYear 58 = .ok (.pop, 1) := by decide +kernel
theorem d_Printer_writeYear_59 : decode b_Printer_writeYear 59 = .ok (.aload_n 0, 1) := by decide +kernel
theorem d_Printer_writeYear_60 : decode b_Printer_writeYear 60 = .ok (.getfield 14, 3) := by decide +kernel
theorem d_Printer_writeYear_63 : decode b_Printer_writeYear 63 = .ok (.iload_n 1, 1) := by decide +kernel
theorem d_Printer_writeYear_64 : decode b_Printer_writeYear 64 = .ok (.invokestatic 119, 3) := by decide +kernel
theorem d_Printer_writeYear_67 : decode b_Printer_writeYear 67 = .ok (.iload_n 2, 1) := by decide +kernel
theorem d_Printer_writeYear_68 : decode b_Printer_writeYear 68 = .ok (.invokevirtual 107, 3) := by decide +kernel
theorem d_Printer_writeYear_71 : decode b_Printer_writeYear 71 = .ok (.return_, 1) := by decide +kernel
theorem d_Printer_writeNano_0 : decode b_Printer_writeNano 0 = .ok (.iload_n 1, 1) := by decide +kernel
theorem d_Printer_writeNano_1 : decode b_Printer_writeNano 1 = .ok (.istore_n 3, 1) := by decide +kernel
theorem d_Printer_writeNano_2 : decode b_Printer_writeNano 2 = .ok (.iload_n 2, 1) := by decide +kernel
theorem d_Printer_writeNano_3 : decode b_Printer_writeNano 3 = .ok (.istore 4, 2) := by decide +kernel
theorem d_Printer_writeNano_5 : decode b_Printer_writeNano 5 = .ok (.iload 4, 2) := by decide +kernel
theorem d_Printer_writeNano_7 : decode b_Printer_writeNano 7 = .ok (.bipush 9, 2) := by decide +kernel
theorem d_Printer_writeNano_9 : decode b_Printer_writeNano 9 = .ok (.if_icmp .ge 14, 3) := by decide +kernel
theorem d_Printer_writeNano_12 : decode b_Printer_writeNano 12 = .ok (.iload_n 3, 1) := by decide +kernel
theorem d_Printer_writeNano_13 : decode b_Printer_writeNano 13 = .ok (.bipush 10, 2) := by decide +kernel
theorem d_Printer_writeNano_15 : decode b_Printer_writeNano 15 = .ok (.idiv, 1) := by decide +kernel
theorem d_Printer_writeNano_16 : decode b_Printer_writeNano 16 = .ok (.istore_n 3, 1) := by decide +kernel
theorem d_Printer_writeNano_17 : decode b_Printer_writeNano 17 = .ok (.iinc 4 1, 3) := by decide +kernel
theorem d_Printer_writeNano_20 : decode b_Printer_writeNano 20 = .ok (.goto (-15), 3) := by decide +kernel
theorem d_Printer_writeNano_23 : decode b_Printer_writeNano 23 = .ok (.aload_n 0, 1) := by decide +kernel
theorem d_Printer_writeNano_24 : decode b_Printer_writeNano 24 = .ok (.getfield 14, 3) := by decide +kernel
theorem d_Printer_writeNano_27 : decode b_Printer_writeNano 27 = .ok (.iload_n 3, 1) := by decide +kernel
theorem d_Printer_writeNano_28 : decode b_Printer_writeNano 28 = .ok (.iload_n 2, 1) := by decide +kernel
theorem d_Printer_writeNano_29 : decode b_Printer_writeNano 29 = .ok (.invokevirtual 107, 3) := by decide +kernel
theorem d_Printer_writeNano_32 : decode b_Printer_writeNano 32 = .ok (.return_, 1) := by decide +kernel
theorem d_Printer_writeOffset_0 : decode b_Printer_writeOffset 0 = .ok (.iload_n 2, 1) := by decide +kernel
theorem d_Printer_writeOffset_1 : decode b_Printer_writeOffset 1 = .ok (.bipush 13, 2) := by decide +kernel
theorem d_Printer_writeOffset_3 : decode b_Printer_writeOffset 3 = .ok (.if_icmp .ne 18, 3) := by decide +kernel
theorem d_Printer_writeOffset_6 : decode b_Printer_writeOffset 6 = .ok (.iload_n 1, 1) := by decide +kernel
theorem d_Printer_writeOffset_7 : decode b_Printer_writeOffset 7 = .ok (.ifCond .ne 14, 3) := by decide +kernel
theorem d_Printer_writeOffset_10 : decode b_Printer_writeOffset 10 = .ok (.aload_n 0, 1) := by decide +kernel
theorem d_Printer_writeOffset_11 : decode b_Printer_writeOffset 11 = .ok (.getfield 14, 3) := by decide +kernel
theorem d_Printer_writeOffset_14 : decode b_Printer_writeOffset 14 = .ok (.bipush 90, 2) := by decide +kernel
theorem d_Printer_writeOffset_16 : decode b_Printer_writeOffset 16 = .ok (.invokevirtual 81, 3) := by decide +kernel
theorem d_Printer_writeOffset_19 : decode b_Printer_writeOffset 19 = .ok (.pop, 1) := by decide +kernel
theorem d_Printer_writeOffset_20 : decode b_Printer_writeOffset 20 = .ok (.return_, 1) := by decide +kernel
theorem d_Printer_writeOffset_21 : decode b_Printer_writeOffset 21 = .ok (.iload_n 1, 1) := by decide +kernel
theorem d_Printer_writeOffset_22 : decode b_Printer_writeOffset 22 = .ok (.invokestatic 119, 3) := by decide +kernel
theorem d_Printer_writeOffset_25 : decode b_Printer_writeOffset 25 = .ok (.bipush 60, 2) := by decide +kernel
theorem d_Printer_writeOffset_27 : decode b_Printer_writeOffset 27 = .ok (.irem, 1) := by decide +kernel
theorem d_Printer_writeOffset_28 : decode b_Printer_writeOffset 28 = .ok (.istore 4, 2) := by decide +kernel
theorem d_Printer_writeOffset_30 : decode b_Printer_writeOffset 30 = .ok (.aload_n 0, 1) := by decide +kernel
theorem d_Printer_writeOffset_31 : decode b_Printer_writeOffset 31 = .ok (.getfield 14, 3) := by decide +kernel
theorem d_Printer_writeOffset_34 : decode b_Printer_writeOffset 34 = .ok (.iload_n 1, 1) := by decide +kernel
theorem d_Printer_writeOffset_35 : decode b_Printer_writeOffset 35 = .ok (.ifCond .ge 8, 3) := by decide +kernel
theorem d_Printer_writeOffset_38 : decode b_Printer_writeOffset 38 = .ok (.bipush 45, 2) := by decide +kernel
theorem d_Printer_writeOffset_40 : decode b_Printer_writeOffset 40 = .ok (.goto 5, 3) := by decide +kernel
theorem d_Printer_writeOffset_43 : decode b_Printer_writeOffset 43 = .ok (.bipush 43, 2) := by decide +kernel
theorem d_Printer_writeOffset_45 : decode b_Printer_writeOffset 45 = .ok (.invokevirtual 81, 3) := by decide +kernel
theorem d_Printer_writeOffset_48 : decode b_Printer_writeOffset 48 = .ok (.pop, 1) := by decide +kernel
theorem d_Printer_writeOffset_49 : decode b_Printer_writeOffset 49 = .ok (.aload_n 0, 1) := by decide +kernel
theorem d_Printer_writeOffset_50 : decode b_Printer_writeOffset 50 = .ok (.getfield 14, 3) := by decide +kernel
theorem d_Printer_writeOffset_53 : decode b_Printer_writeOffset 53 = .ok (.iload_n 1, 1) := by decide +kernel
theorem d_Printer_writeOffset_54 : decode b_Printer_writeOffset 54 = .ok (.invokestatic 119, 3) := by decide +kernel
theorem d_Printer_writeOffset_57 : decode b_Printer_writeOffset 57 = .ok (.bipush 60, 2) := by decide +kernel
theorem d_Printer_writeOffset_59 : decode b_Printer_writeOffset 59 = .ok (.idiv, 1) := by decide +kernel
theorem d_Printer_writeOffset_60 : decode b_Printer_writeOffset 60 = .ok (.iconst 2, 1) := by decide +kernel
theorem d_Printer_writeOffset_61 : decode b_Printer_writeOffset 61 = .ok (.invokevirtual 107, 3) := by decide +kernel
theorem d_Printer_writeOffset_64 : decode b_Printer_writeOffset 64 = .ok (.iload_n 3, 1) := by decide +kernel
theorem d_Printer_writeOffset_65 : decode b_Printer_writeOffset 65 = .ok (.iconst 3, 1) := by decide +kernel
theorem d_Printer_writeOffset_66 : decode b_Printer_writeOffset 66 = .ok (.if_icmp .ne 13, 3) := by decide +kernel
theorem d_Printer_writeOffset_69 : decode b_Printer_writeOffset 69 = .ok (.aload_n 0, 1) := by decide +kernel
theorem d_Printer_writeOffset_70 : decode b_Printer_writeOffset 70 = .ok (.getfield 14, 3) := by decide +kernel
theorem d_Printer_writeOffset_73 : decode b_Printer_writeOffset 73 = .ok (.bipush 58, 2) := by decide +kernel
theorem d_Printer_writeOffset_75 : decode b_Printer_writeOffset 75 = .ok (.invokevirtual 81, 3) := by decide +kernel
theorem d_Printer_writeOffset_78 : decode b_Printer_writeOffset 78 = .ok (.pop, 1) := by decide +kernel
theorem d_Printer_writeOffset_79 : decode b_Printer_writeOffset 79 = .ok (.iload_n 3, 1) := by decide +kernel
theorem d_Printer_writeOffset_80 : decode b_Printer_writeOffset 80 = .ok (.iconst 1, 1) := by decide +kernel
theorem d_Printer_writeOffset_81 : decode b_Printer_writeOffset 81 = .ok (.if_icmp .ne 8, 3) := by decide +kernel
theorem d_Printer_writeOffset_84 : decode b_Printer_writeOffset 84 = .ok (.iload 4, 2) := by decide +kernel
theorem d_Printer_writeOffset_86 : decode b_Printer_writeOffset 86 = .ok (.ifCond .eq 13, 3) := by decide +kernel
theorem d_Printer_writeOffset_89 : decode b_Printer_writeOffset 89 = .ok (.aload_n 0, 1) := by decide +kernel
theorem d_Printer_writeOffset_90 : decode b_Printer_writeOffset 90 = .ok (.getfield 14, 3) := by decide +kernel
theorem d_Printer_writeOffset_93 : decode b_Printer_writeOffset 93 = .ok (.iload 4, 2) := by decide +kernel
theorem d_Printer_writeOffset_95 : decode b_Printer_writeOffset 95 = .ok (.iconst 2, 1) := by decide +kernel
theorem d_Printer_writeOffset_96 : decode b_Printer_writeOffset 96 = .ok (.invokevirtual 107, 3) := by decide +kernel
theorem d_Printer_writeOffset_99 : decode b_Printer_writeOffset 99 = .ok (.return_, 1) := by decide +kernel
theorem d_Printer_writePiece_0 : decode b_Printer_writePiece 0 = .ok (.aload_n 2, 1) := by decide +kernel
theorem d_Printer_writePiece_1 : decode b_Printer_writePiece 1 = .ok (.iload_n 3, 1) := by decide +kernel
theorem d_Printer_writePiece_2 : decode b_Printer_writePiece 2 = .ok (.invokevirtual 42, 3) := by decide +kernel
theorem d_Printer_writePiece_5 : decode b_Printer_writePiece 5 = .ok (.istore 4, 2) := by decide +kernel
theorem d_Printer_writePiece_7 : decode b_Printer_writePiece 7 = .ok (.aload_n 2, 1) := by decide +kernel
theorem d_Printer_writePiece_8 : decode b_Printer_writePiece 8 = .ok (.iload_n 3, 1) := by decide +kernel
theorem d_Printer_writePiece_9 : decode b_Printer_writePiece 9 = .ok (.invokevirtual 46, 3) := by decide +kernel
theorem d_Printer_writePiece_12 : decode b_Printer_writePiece 12 = .ok (.istore 5, 2) := by decide +kernel
theorem d_Printer_writePiece_14 : decode b_Printer_writePiece 14 = .ok (.iload 4, 2) := by decide +kernel
theorem d_Printer_writePiece_16 : decode b_Printer_writePiece 16 = .ok (.bipush 15, 2) := by decide +kernel
theorem d_Printer_writePiece_18 : decode b_Printer_writePiece 18 = .ok (.if_icmp .ne 17, 3) := by decide +kernel
theorem d_Printer_writePiece_21 : decode b_Printer_writePiece 21 = .ok (.aload_n 0, 1) := by decide +kernel
theorem d_Printer_writePiece_22 : decode b_Printer_writePiece 22 = .ok (.getfield 14, 3) := by decide +kernel
theorem d_Printer_writePiece_25 : decode b_Printer_writePiece 25 = .ok (.iload 5, 2) := by decide +kernel
theorem d_Printer_writePiece_27 : decode b_Printer_writePiece 27 = .ok (.i2c, 1) := by decide +kernel
theorem d_Printer_writePiece_28 : decode b_Printer_writePiece 28 = .ok (.invokevirtual 81, 3) := by decide +kernel
theorem d_Printer_writePiece_31 : decode b_Printer_writePiece 31 = .ok (.pop, 1) := by decide +kernel
theorem d_Printer_writePiece_32 : decode b_Printer_writePiece 32 = .ok (.goto 119, 3) := by decide +kernel
theorem d_Printer_writePiece_35 : decode b_Printer_writePiece 35 = .ok (.aload_n 2, 1) := by decide +kernel
theorem d_Printer_writePiece_36 : decode b_Printer_writePiece 36 = .ok (.iload_n 3, 1) := by decide +kernel
theorem d_Printer_writePiece_37 : decode b_Printer_writePiece 37 = .ok (.invokevirtual 85, 3) := by decide +kernel
theorem d_Printer_writePiece_40 : decode b_Printer_writePiece 40 = .ok (.ifCond .eq 20, 3) := by decide +kernel
theorem d_Printer_writePiece_43 : decode b_Printer_writePiece 43 = .ok (.aload_n 0, 1) := by decide +kernel
theorem d_Printer_writePiece_44 : decode b_Printer_writePiece 44 = .ok (.iload 4, 2) := by decide +kernel
theorem d_Printer_writePiece_46 : decode b_Printer_writePiece 46 = .ok (.iload 5, 2) := by decide +kernel
theorem d_Printer_writePiece_48 : decode b_Printer_writePiece 48 = .ok (.aload_n 1, 1) := by decide +kernel
theorem d_Printer_writePiece_49 : decode b_Printer_writePiece 49 = .ok (.iload 4, 2) := by decide +kernel
theorem d_Printer_writePiece_51 : decode b_Printer_writePiece 51 = .ok (.invokevirtual 88, 3) := by decide +kernel
theorem d_Printer_writePiece_54 : decode b_Printer_writePiece 54 = .ok (.invokevirtual 91, 3) := by decide +kernel
theorem d_Printer_writePiece_57 : decode b_Printer_writePiece 57 = .ok (.goto 94, 3) := by decide +kernel
theorem d_Printer_writePiece_60 : decode b_Printer_writePiece 60 = .ok (.iload 4, 2) := by decide +kernel
theorem d_Printer_writePiece_62 : decode b_Printer_writePiece 62 = .ok (.invokestatic 94, 3) := by decide +kernel
theorem d_Printer_writePiece_65 : decode b_Printer_writePiece 65 = .ok (.ifCond .eq 18, 3) := by decide +kernel
theorem d_Printer_writePiece_68 : decode b_Printer_writePiece 68 = .ok (.aload_n 0, 1) := by decide +kernel
theorem d_Printer_writePiece_69 : decode b_Printer_writePiece 69 = .ok (.aload_n 1, 1) := by decide +kernel
theorem d_Printer_writePiece_70 : decode b_Printer_writePiece 70 = .ok (.iload 4, 2) := by decide +kernel
theorem d_Printer_writePiece_72 : decode b_Printer_writePiece 72 = .ok (.invokevirtual 88, 3) := by decide +kernel
theorem d_Printer_writePiece_75 : decode b_Printer_writePiece 75 = .ok (.iload 5, 2) := by decide +kernel
theorem d_Printer_writePiece_77 : decode b_Printer_writePiece 77 = .ok (.invokevirtual 97, 3) := by decide +kernel
theorem d_Printer_writePiece_80 : decode b_Printer_writePiece 80 = .ok (.goto 71, 3) := by decide +kernel
theorem d_Printer_writePiece_83 : decode b_Printer_writePiece 83 = .ok (.iload 4, 2) := by decide +kernel
theorem d_Printer_writePiece_85 : decode b_Printer_writePiece 85 = .ok (.bipush 12, 2) := by decide +kernel
theorem d_Printer_writePiece_87 : decode b_Printer_writePiece 87 = .ok (.if_icmp .ne 18, 3) := by decide +kernel
theorem d_Printer_writePiece_90 : decode b_Printer_writePiece 90 = .ok (.aload_n 0, 1) := by decide +kernel
theorem d_Printer_writePiece_91 : decode b_Printer_writePiece 91 = .ok (.aload_n 1, 1) := by decide +kernel
theorem d_Printer_writePiece_92 : decode b_Printer_writePiece 92 = .ok (.bipush 12, 2) := by decide +kernel
theorem d_Printer_writePiece_94 : decode b_Printer_writePiece 94 = .ok (.invokevirtual 88, 3) := by decide +kernel
theorem d_Printer_writePiece_97 : decode b_Printer_writePiece 97 = .ok (.iload 5, 2) := by decide +kernel
theorem d_Printer_writePiece_99 : decode b_Printer_writePiece 99 = .ok (.invokevirtual 101, 3) := by decide +kernel
theorem d_Printer_writePiece_102 : decode b_Printer_writePiece 102 = .ok (.goto 49, 3) := by decide +kernel
theorem d_Printer_writePiece_105 : decode b_Printer_writePiece 105 = .ok (.iload 4, 2) := by decide +kernel
theorem d_Printer_writePiece_107 : decode b_Printer_writePiece 107 = .ok (.bipush 13, 2) := by decide +kernel
theorem d_Printer_writePiece_109 : decode b_Printer_writePiece 109 = .ok (.if_icmp .eq 10, 3) := by decide +kernel
theorem d_Printer_writePiece_112 : decode b_Printer_writePiece 112 = .ok (.iload 4, 2) := by decide +kernel
theorem d_Printer_writePiece_114 : decode b_Printer_writePiece 114 = .ok (.bipush 14, 2) := by decide +kernel
theorem d_Printer_writePiece_116 : decode b_Printer_writePiece 116 = .ok (.if_icmp .ne 20, 3) := by decide +kernel
theorem d_Printer_writePiece_119 : decode b_Printer_writePiece 119 = .ok (.aload_n 0, 1) := by decide +kernel
theorem d_Printer_writePiece_120 : decode b_Printer_writePiece 120 = .ok (.aload_n 1, 1) := by decide +kernel
theorem d_Printer_writePiece_121 : decode b_Printer_writePiece 121 = .ok (.bipush 13, 2) := by decide +kernel
theorem d_Printer_writePiece_123 : decode b_Printer_writePiece 123 = .ok (.invokevirtual 88, 3) := by decide +kernel
theorem d_Printer_writePiece_126 : decode b_Printer_writePiece 126 = .ok (.iload 4, 2) := by decide +kernel
theorem d_Printer_writePiece_128 : decode b_Printer_writePiece 128 = .ok (.iload 5, 2) := by decide +kernel
theorem d_Printer_writePiece_130 : decode b_Printer_writePiece 130 = .ok (.invokevirtual 104, 3) := by decide +kernel
theorem d_Printer_writePiece_133 : decode b_Printer_writePiece 133 = .ok (.goto 18, 3) := by decide +kernel
theorem d_Printer_writePiece_136 : decode b_Printer_writePiece 136 = .ok (.aload_n 0, 1) := by decide +kernel
theorem d_Printer_writePiece_137 : decode b_Printer_writePiece 137 = .ok (.getfield 14, 3) := by decide +kernel
theorem d_Printer_writePiece_140 : decode b_Printer_writePiece 140 = .ok (.aload_n 1, 1) := by decide +kernel
theorem d_Printer_writePiece_141 : decode b_Printer_writePiece 141 = .ok (.iload 4, 2) := by decide +kernel
theorem d_Printer_writePiece_143 : decode b_Printer_writePiece 143 = .ok (.invokevirtual 88, 3) := by decide +kernel
theorem d_Printer_writePiece_146 : decode b_Printer_writePiece 146 = .ok (.iload 5, 2) := by decide +kernel
theorem d_Printer_writePiece_148 : decode b_Printer_writePiece 148 = .ok (.invokevirtual 107, 3) := by decide +kernel
theorem d_Printer_writePiece_151 : decode b_Printer_writePiece 151 = .ok (.return_, 1) := by decide +kernel
theorem d_Printer_write_0 : decode b_Printer_write 0 = .ok (.aload_n 0, 1) := by decide +kernel
theorem d_Printer_write_1 : decode b_Printer_write 1 = .ok (.getfield 14, 3) := by decide +kernel
theorem d_Printer_write_4 : decode b_Printer_write 4 = .ok (.iconst 0, 1) := by decide +kernel
theorem d_Printer_write_5 : decode b_Printer_write 5 = .ok (.invokevirtual 27, 3) := by decide +kernel
theorem d_Printer_write_8 : decode b_Printer_write 8 = .ok (.aload_n 0, 1) := by decide +kernel
theorem d_Printer_write_9 : decode b_Printer_write 9 = .ok (.getfield 23, 3) := by decide +kernel
theorem d_Printer_write_12 : decode b_Printer_write 12 = .ok (.invokevirtual 30, 3) := by decide +kernel
theorem d_Printer_write_15 : decode b_Printer_write 15 = .ok (.iconst 0, 1) := by decide +kernel
theorem d_Printer_write_16 : decode b_Printer_write 16 = .ok (.istore_n 3, 1) := by decide +kernel
theorem d_Printer_write_17 : decode b_Printer_write 17 = .ok (.iload_n 3, 1) := by decide +kernel
theorem d_Printer_write_18 : decode b_Printer_write 18 = .ok (.aload_n 2, 1) := by decide +kernel
theorem d_Printer_write_19 : decode b_Printer_write 19 = .ok (.getfield 33, 3) := by decide +kernel
theorem d_Printer_write_22 : decode b_Printer_write 22 = .ok (.if_icmp .ge 129, 3) := by decide +kernel
theorem d_Printer_write_25 : decode b_Printer_write 25 = .ok (.aload_n 0, 1) := by decide +kernel
theorem d_Printer_write_26 : decode b_Printer_write 26 = .ok (.getfield 23, 3) := by decide +kernel
theorem d_Printer_write_29 : decode b_Printer_write 29 = .ok (.iload_n 3, 1) := by decide +kernel
theorem d_Printer_write_30 : decode b_Printer_write 30 = .ok (.invokevirtual 39, 3) := by decide +kernel
theorem d_Printer_write_33 : decode b_Printer_write 33 = .ok (.iload_n 3, 1) := by decide +kernel
theorem d_Printer_write_34 : decode b_Printer_write 34 = .ok (.iconst 1, 1) := by decide +kernel
theorem d_Printer_write_35 : decode b_Printer_write 35 = .ok (.iadd, 1) := by decide +kernel
theorem d_Printer_write_36 : decode b_Printer_write 36 = .ok (.istore 4, 2) := by decide +kernel
theorem d_Printer_write_38 : decode b_Printer_write 38 = .ok (.aload_n 2, 1) := by decide +kernel
theorem d_Printer_write_39 : decode b_Printer_write 39 = .ok (.iload_n 3, 1) := by decide +kernel
theorem d_Printer_write_40 : decode b_Printer_write 40 = .ok (.invokevirtual 42, 3) := by decide +kernel
theorem d_Printer_write_43 : decode b_Printer_write 43 = .ok (.istore 5, 2) := by decide +kernel
theorem d_Printer_write_45 : decode b_Printer_write 45 = .ok (.iload 5, 2) := by decide +kernel
theorem d_Printer_write_47 : decode b_Printer_write 47 = .ok (.bipush 16, 2) := by decide +kernel
theorem d_Printer_write_49 : decode b_Printer_write 49 = .ok (.if_icmp .ne 26, 3) := by decide +kernel
theorem d_Printer_write_52 : decode b_Printer_write 52 = .ok (.aload_n 0, 1) := by decide +kernel
theorem d_Printer_write_53 : decode b_Printer_write 53 = .ok (.getfield 23, 3) := by decide +kernel
theorem d_Printer_write_56 : decode b_Printer_write 56 = .ok (.aload_n 2, 1) := by decide +kernel
theorem d_Printer_write_57 : decode b_Printer_write 57 = .ok (.iload_n 3, 1) := by decide +kernel
theorem d_Printer_write_58 : decode b_Printer_write 58 = .ok (.invokevirtual 46, 3) := by decide +kernel
theorem d_Printer_write_61 : decode b_Printer_write 61 = .ok (.aload_n 0, 1) := by decide +kernel
theorem d_Printer_write_62 : decode b_Printer_write 62 = .ok (.getfield 14, 3) := by decide +kernel
theorem d_Printer_write_65 : decode b_Printer_write 65 = .ok (.getfield 49, 3) := by decide +kernel
theorem d_Printer_write_68 : decode b_Printer_write 68 = .ok (.iconst 0, 1) := by decide +kernel
theorem d_Printer_write_69 : decode b_Printer_write 69 = .ok (.invokevirtual 50, 3) := by decide +kernel
theorem d_Printer_write_72 : decode b_Printer_write 72 = .ok (.goto 73, 3) := by decide +kernel
theorem d_Printer_write_75 : decode b_Printer_write 75 = .ok (.iload 5, 2) := by decide +kernel
theorem d_Printer_write_77 : decode b_Printer_write 77 = .ok (.bipush 15, 2) := by decide +kernel
theorem d_Printer_write_79 : decode b_Printer_write 79 = .ok (.if_icmp .eq 12, 3) := by decide +kernel
theorem d_Printer_write_82 : decode b_Printer_write 82 = .ok (.aload_n 1, 1) := by decide +kernel
theorem d_Printer_write_83 : decode b_Printer_write 83 = .ok (.iload 5, 2) := by decide +kernel
theorem d_Printer_write_85 : decode b_Printer_write 85 = .ok (.invokevirtual 54, 3) := by decide +kernel
theorem d_Printer_write_88 : decode b_Printer_write 88 = .ok (.ifCond .eq 13, 3) := by decide +kernel
theorem d_Printer_write_91 : decode b_Printer_write 91 = .ok (.aload_n 0, 1) := by decide +kernel
theorem d_Printer_write_92 : decode b_Printer_write 92 = .ok (.aload_n 1, 1) := by decide +kernel
theorem d_Printer_write_93 : decode b_Printer_write 93 = .ok (.aload_n 2, 1) := by decide +kernel
theorem d_Printer_write_94 : decode b_Printer_write 94 = .ok (.iload_n 3, 1) := by decide +kernel
theorem d_Printer_write_95 : decode b_Printer_write 95 = .ok (.invokevirtual 60, 3) := by decide +kernel
theorem d_Printer_write_98 : decode b_Printer_write 98 = .ok (.goto 47, 3) := by decide +kernel
theorem d_Printer_write_101 : decode b_Printer_write 101 = .ok (.aload_n 0, 1) := by decide +kernel
theorem d_Printer_write_102 : decode b_Printer_write 102 = .ok (.getfield 23, 3) := by decide +kernel
theorem d_Printer_write_105 : decode b_Printer_write 105 = .ok (.invokevirtual 64, 3) := by decide +kernel
theorem d_Printer_write_108 : decode b_Printer_write 108 = .ok (.ifCond .eq 5, 3) := by decide +kernel
theorem d_Printer_write_111 : decode b_Printer_write 111 = .ok (.iconst 0, 1) := by decide +kernel
theorem d_Printer_write_112 : decode b_Printer_write 112 = .ok (.ireturn, 1) := by decide +kernel
theorem d_Printer_write_113 : decode b_Printer_write 113 = .ok (.aload_n 0, 1) := by decide +kernel
theorem d_Printer_write_114 : decode b_Printer_write 114 = .ok (.getfield 14, 3) := by decide +kernel
theorem d_Printer_write_117 : decode b_Printer_write 117 = .ok (.aload_n 0, 1) := by decide +kernel
theorem d_Printer_write_118 : decode b_Printer_write 118 = .ok (.getfield 23, 3) := by decide +kernel
theorem d_Printer_write_121 : decode b_Printer_write 121 = .ok (.invokevirtual 68, 3) := by decide +kernel
theorem d_Printer_write_124 : decode b_Printer_write 124 = .ok (.invokevirtual 27, 3) := by decide +kernel
theorem d_Printer_write_127 : decode b_Printer_write 127 = .ok (.iload 4, 2) := by decide +kernel
theorem d_Printer_write_129 : decode b_Printer_write 129 = .ok (.aload_n 0, 1) := by decide +kernel
theorem d_Printer_write_130 : decode b_Printer_write 130 = .ok (.getfield 23, 3) := by decide +kernel
theorem d_Printer_write_133 : decode b_Printer_write 133 = .ok (.aload_n 2, 1) := by decide +kernel
theorem d_Printer_write_134 : decode b_Printer_write 134 = .ok (.getfield 33, 3) := by decide +kernel
theorem d_Printer_write_137 : decode b_Printer_write 137 = .ok (.invokevirtual 72, 3) := by decide +kernel
theorem d_Printer_write_140 : decode b_Printer_write 140 = .ok (.invokestatic 75, 3) := by decide +kernel
theorem d_Printer_write_143 : decode b_Printer_write 143 = .ok (.istore 4, 2) := by decide +kernel
theorem d_Printer_write_145 : decode b_Printer_write 145 = .ok (.iload 4, 2) := by decide +kernel
theorem d_Printer_write_147 : decode b_Printer_write 147 = .ok (.istore_n 3, 1) := by decide +kernel
theorem d_Printer_write_148 : decode b_Printer_write 148 = .ok (.goto (-131), 3) := by decide +kernel
theorem d_Printer_write_151 : decode b_Printer_write 151 = .ok (.iconst 1, 1) := by decide +kernel
theorem d_Printer_write_152 : decode b_Printer_write 152 = .ok (.ireturn, 1) := by decide +kernel
abbrev rm_Printer_writeName : Room := { frames := 5, cells := 0, slots := 0, locals := 111 }
set_option maxHeartbeats 4000000 in
set_option maxRecDepth 100000 in
theorem w_Printer_writeName_3 {p : Program} {l : Launch} {e : Env} {s : State} {m : MethodId} {args : Array Value} {below : List Frame} {meth : Method} {c : Code} {Q : State → Prop} {A : Nat → Prop} {D : va_G} {kk : Nat → ClassId} {st : Nat → Nat} (a_t a_t_draft a_t_draft_cells a_t_nest : Nat) (x1 : Int32) (x2 : Int32) (x3 : Int32) (S : CallFix p m c b_Printer_writeName 5 s args GW y_Printer_writeName.cls) (hr : meth.sig.returnType = none) (hlk : meth.locks = false) (hA : ∀ q, s.heap.size ≤ q → A q) (X : KX D kk st A s) : ∀ (n : Nat) (x4 : Int32) (t_draft_size : Int32) (t_draft_cells : Nat → Int32) (v : Int32 × Int32 × (Nat → Int32)) (H : Heap) (locs : List Loc) (ls : Array Slot), lp_Printer_writeName_3 x1 x2 x3 n x4 t_draft_size t_draft_cells = some v → lv_has ls 5 [(0, .ref a_t), (1, .int x1), (2, .int x2), (3, .int x3), (4, .int x4)] → va_P D classes [(a_t, .inr (6, [.ref a_t_draft, .ref a_t_nest])), (a_t_draft, .inr (1, [.ref a_t_draft_cells, .int t_draft_size])), (a_t_draft_cells, .inl (kk 1, 200, .inl t_draft_cells))] H → va_D A [(a_t, .inr (6, [.ref a_t_draft, .ref a_t_nest])), (a_t_draft, .inr (1, [.ref a_t_draft_cells, .int t_draft_size])), (a_t_draft_cells, .inl (kk 1, 200, .inl t_draft_cells))] → va_S A s.heap H locs → (∀ (H : Heap) (locs : List Loc) (ls : Array Slot), lv_has ls 5 [(0, .ref a_t), (1, .int x1), (2, .int x2), (3, .int x3), (4, .int v.1)] → va_P D classes [(a_t, .inr (6, [.ref a_t_draft, .ref a_t_nest])), (a_t_draft, .inr (1, [.ref a_t_draft_cells, .int v.2.1])), (a_t_draft_cells, .inl (kk 1, 200, .inl v.2.2))] H → va_D A [(a_t, .inr (6, [.ref a_t_draft, .ref a_t_nest])), (a_t_draft, .inr (1, [.ref a_t_draft_cells, .int v.2.1])), (a_t_draft_cells, .inl (kk 1, 200, .inl v.2.2))] → va_S A s.heap H locs → W p l e rm_Printer_writeName s m args below meth c H locs 0 0 Q (F0 m 45 ls [])) → W p l e rm_Printer_writeName s m args below meth c H locs 0 0 Q (F0 m 3 ls []) := by
  intro n
  induction n with
  | zero =>
    intro x4 t_draft_size t_draft_cells v H locs ls he hl hP hD hS K
    exact ih_n he
  | succ n ih =>
    intro x4 t_draft_size t_draft_cells v H locs ls he hl hP hD hS K
    have hx := S.1
    have hb := S.2.1
    have he : st_Printer_writeName_3 x1 x2 x3 (lp_Printer_writeName_3 x1 x2 x3 n) x4 t_draft_size t_draft_cells = some v := he
    unfold st_Printer_writeName_3 at he
    refine lv_iload hx hb d_Printer_writeName_3 (lv_at hl 4 rfl) ?_
    refine lv_bipush (v := (9 : Int32)) hx hb d_Printer_writeName_5 (by decide) ?_
    refine lv_icmp_ge (tgt := 45) hx hb d_Printer_writeName_7 rfl (fun hc => ?_) (fun hc => ?_)
    · have he := ih_t hc he
      have hl : lv_has ls 5 [(0, .ref a_t), (1, .int x1), (2, .int x2), (3, .int x3), (4, .int x4)] := lv_sub hl [0, 1, 2, 3, 4] rfl
      cases he
      exact K _ _ _ hl hP hD hS
    · have he := ih_f hc he
      refine lv_iload_n hx hb d_Printer_writeName_10 rfl (lv_at hl 1 rfl) ?_
      refine lv_iload_n hx hb d_Printer_writeName_11 rfl (lv_at hl 2 rfl) ?_
      refine lv_iload_n hx hb d_Printer_writeName_12 rfl (lv_at hl 3 rfl) ?_
      refine lv_iload hx hb d_Printer_writeName_13 (lv_at hl 4 rfl) ?_
      obtain ⟨u1, e2, he⟩ := ih_b he
      refine k_io (r_S (As := [.int x1, .int x2, .int x3, .int x4]) S X hA hP hD hS (c_Names_letter l D kk st _ x1 x2 x3 x4 u1 e2) gm_3_88 gm_3_86 gm_3_87 gm_1_19 ⟨rfl, rfl, by decide, by decide⟩ kd_Names_letter [] rfl rfl rfl rfl hl.1 rfl (Nat.le_of_ble_eq_true rfl) d_Printer_writeName_15 ⟨Nat.zero_le _, Nat.zero_le _⟩) hA hP hD hS [] rfl (fun H locs hP hS => ?_)
      refine lv_iconst (v := (-1 : Int32)) hx hb d_Printer_writeName_18 (by decide) ?_
      refine lv_icmp_eq (tgt := 45) hx hb d_Printer_writeName_19 rfl (fun hc => ?_) (fun hc => ?_)
      · have he := ih_t hc he
        have hl : lv_has ls 5 [(0, .ref a_t), (1, .int x1), (2, .int x2), (3, .int x3), (4, .int x4)] := lv_sub hl [0, 1, 2, 3, 4] rfl
        cases he
        exact K _ _ _ hl hP hD hS
      · have he := ih_f hc he
        refine lv_aload_n hx hb d_Printer_writeName_22 rfl (lv_at hl 0 rfl) ?_
        refine k_get S X us_Printer hP 0 rfl rfl 0 (by decide) gm_1_115 rfl d_Printer_writeName_23 ?_
        refine lv_iload_n hx hb d_Printer_writeName_26 rfl (lv_at hl 1 rfl) ?_
        refine lv_iload_n hx hb d_Printer_writeName_27 rfl (lv_at hl 2 rfl) ?_
        refine lv_iload_n hx hb d_Printer_writeName_28 rfl (lv_at hl 3 rfl) ?_
        refine lv_iload hx hb d_Printer_writeName_29 (lv_at hl 4 rfl) ?_
        obtain ⟨u3, e4, he⟩ := ih_b he
        refine k_io (r_S (As := [.int x1, .int x2, .int x3, .int x4]) S X hA hP hD hS (c_Names_letter l D kk st _ x1 x2 x3 x4 u3 e4) gm_3_88 gm_3_86 gm_3_87 gm_1_19 ⟨rfl, rfl, by decide, by decide⟩ kd_Names_letter [] rfl rfl rfl rfl hl.1 rfl (Nat.le_of_ble_eq_true rfl) d_Printer_writeName_31 ⟨Nat.zero_le _, Nat.zero_le _⟩) hA hP hD hS [] rfl (fun H locs hP hS => ?_)
        refine lv_i2c hx hb d_Printer_writeName_34 rfl ?_
        obtain ⟨u5, e6, he⟩ := ih_b he
        refine k_i (wr := [(a_t, .inr (6, [.ref a_t_draft, .ref a_t_nest]))]) (w1 := [(a_t_draft, .inr (1, [.ref a_t_draft_cells, .int u5.2.1])), (a_t_draft_cells, .inl (kk 1, 200, .inl u5.2.2))]) (w2 := [(a_t, .inr (6, [.ref a_t_draft, .ref a_t_nest])), (a_t_draft, .inr (1, [.ref a_t_draft_cells, .int u5.2.1])), (a_t_draft_cells, .inl (kk 1, 200, .inl u5.2.2))]) (r_V (As := [.int (((Int32.toUInt32 u3) % 65536).toInt32)]) S X hA hP hD hS (c_Row_put l D kk st a_t_draft a_t_draft_cells _ 200 t_draft_size t_draft_cells (((Int32.toUInt32 u3) % 65536).toInt32) u5 e6) gm_2_57 gm_3_76 gm_2_55 gm_2_56 gm_1_2 ⟨rfl, rfl, by decide, by decide⟩ kd_Row_put [1, 2] rfl rfl rfl 1 1 rfl rfl rfl rfl hl.1 rfl (Nat.le_of_ble_eq_true rfl) d_Printer_writeName_35 ⟨Nat.zero_le _, Nat.zero_le _⟩) hA hP hD hS [1, 2] [0] [0, 1, 2] rfl rfl rfl (by decide) rfl rfl rfl (fun H locs hP hD hS => ?_)
        refine lv_pop hx hb d_Printer_writeName_38 rfl ?_
        refine lv_iinc (k := 4) hx hb d_Printer_writeName_39 hl rfl (ii_ (v := (1 : Int32)) (by decide)) (by decide) rfl (fun ls hl => ?_)
        have hl : lv_has ls 5 [(4, .int (x4 + (1 : Int32))), (0, .ref a_t), (1, .int x1), (2, .int x2), (3, .int x3)] := hl
        refine lv_goto (tgt := 3) hx hb d_Printer_writeName_42 rfl ?_
        have hl : lv_has ls 5 [(0, .ref a_t), (1, .int x1), (2, .int x2), (3, .int x3), (4, .int (x4 + (1 : Int32)))] := lv_sub hl [1, 2, 3, 4, 0] rfl
        exact ih _ _ _ _ _ _ _ he hl hP hD hS K
set_option maxHeartbeats 4000000 in
set_option maxRecDepth 100000 in
theorem c_Printer_writeName (l : Launch) (D : va_G) (kk : Nat → ClassId) (st : Nat → Nat) (a_t a_t_draft a_t_draft_cells a_t_nest : Nat) (sz : Nat) (t_draft_size : Int32) (t_draft_cells : Nat → Int32) (x1 : Int32) (x2 : Int32) (x3 : Int32) (o : Int32 × (Nat → Int32)) (he : f_Printer_writeName t_draft_size t_draft_cells x1 x2 x3 = some o) : Met l y_Printer_writeName (Cond.code y_Printer_writeName b_Printer_writeName 5 none :: GW) rm_Printer_writeName (KPc D kk st [.ref a_t, .int x1, .int x2, .int x3] [(a_t, .inr (6, [.ref a_t_draft, .ref a_t_nest])), (a_t_draft, .inr (1, [.ref a_t_draft_cells, .int t_draft_size])), (a_t_draft_cells, .inl (kk 1, 200, .inl t_draft_cells))] sz) (KQv D kk [(a_t, .inr (6, [.ref a_t_draft, .ref a_t_nest])), (a_t_draft, .inr (1, [.ref a_t_draft_cells, .int o.1])), (a_t_draft_cells, .inl (kk 1, 200, .inl o.2))] (va_A [(a_t, .inr (6, [.ref a_t_draft, .ref a_t_nest])), (a_t_draft, .inr (1, [.ref a_t_draft_cells, .int t_draft_size])), (a_t_draft_cells, .inl (kk 1, 200, .inl t_draft_cells))] sz)) 0 0 (va_A [(a_t, .inr (6, [.ref a_t_draft, .ref a_t_nest])), (a_t_draft, .inr (1, [.ref a_t_draft_cells, .int t_draft_size])), (a_t_draft_cells, .inl (kk 1, 200, .inl t_draft_cells))] sz) := by
  refine k_start (Qc := fun A => KQv D kk [(a_t, .inr (6, [.ref a_t_draft, .ref a_t_nest])), (a_t_draft, .inr (1, [.ref a_t_draft_cells, .int o.1])), (a_t_draft_cells, .inl (kk 1, 200, .inl o.2))] A) (by decide) (Nat.le_of_ble_eq_true rfl) ?_
  intro p e s m below meth c A ls S hnm hr hlk hA X hP hD hS hl
  have hl : lv_has ls 5 [(0, .ref a_t), (1, .int x1), (2, .int x2), (3, .int x3)] := hl
  have hx := S.1
  have hb := S.2.1
  unfold f_Printer_writeName at he
  refine lv_iconst (v := (0 : Int32)) hx hb d_Printer_writeName_0 (by decide) ?_
  refine lv_istore hx hb d_Printer_writeName_1 hl (by decide) rfl (fun ls hl => ?_)
  have hl : lv_has ls 5 [(4, .int (0 : Int32)), (0, .ref a_t), (1, .int x1), (2, .int x2), (3, .int x3)] := hl
  obtain ⟨u7, e8, he⟩ := ih_b he
  have hl : lv_has ls 5 [(0, .ref a_t), (1, .int x1), (2, .int x2), (3, .int x3), (4, .int (0 : Int32))] := lv_sub hl [1, 2, 3, 4, 0] rfl
  refine w_Printer_writeName_3 a_t a_t_draft a_t_draft_cells a_t_nest x1 x2 x3 S hr hlk hA X FU (0 : Int32) t_draft_size t_draft_cells u7 _ _ ls e8 hl hP hD hS (fun H locs ls hl hP hD hS => ?_)
  cases he
  exact k_vre hx hb hr hlk X hP hD hS d_Printer_writeName_45
abbrev rm_SkeletonClock_isYearField : Room := { frames := 0, cells := 0, slots := 0, locals := 0 }
set_option maxHeartbeats 4000000 in
set_option maxRecDepth 100000 in
theorem c_SkeletonClock_isYearField (l : Launch) (D : va_G) (kk : Nat → ClassId) (st : Nat → Nat) (sz : Nat) (x0 : Int32) (o : Int32) (he : f_SkeletonClock_isYearField x0 = some o) : Met l y_SkeletonClock_isYearField (Cond.code y_SkeletonClock_isYearField b_SkeletonClock_isYearField 1 (some .boolean) :: GW) rm_SkeletonClock_isYearField (KPc D kk st [.int x0] [] sz) (KQi D kk o [] (va_A [] sz)) 0 0 (va_A [] sz) := by
  refine k_start (Qc := fun A => KQi D kk o [] A) (by decide) (Nat.le_of_ble_eq_true rfl) ?_
  intro p e s m below meth c A ls S hnm hr hlk hA X hP hD hS hl
  have hl : lv_has ls 1 [(0, .int x0)] := hl
  have hx := S.1
  have hb := S.2.1
  unfold f_SkeletonClock_isYearField at he
  refine lv_iload_n hx hb d_SkeletonClock_isYearField_0 rfl (lv_at hl 0 rfl) ?_
  refine lv_if_eq (tgt := 9) hx hb d_SkeletonClock_isYearField_1 rfl (fun hc => ?_) (fun hc => ?_)
  · have he := ih_t hc he
    refine lv_iconst (v := (1 : Int32)) hx hb d_SkeletonClock_isYearField_9 (by decide) ?_
    refine lv_goto (tgt := 14) hx hb d_SkeletonClock_isYearField_10 rfl ?_
    cases he
    exact k_zre hx hb hr hlk X hP hD hS (Or.inr rfl) d_SkeletonClock_isYearField_14
  · have he := ih_f hc he
    refine lv_iload_n hx hb d_SkeletonClock_isYearField_4 rfl (lv_at hl 0 rfl) ?_
    refine lv_iconst (v := (1 : Int32)) hx hb d_SkeletonClock_isYearField_5 (by decide) ?_
    refine lv_icmp_ne (tgt := 13) hx hb d_SkeletonClock_isYearField_6 rfl (fun hc => ?_) (fun hc => ?_)
    · have he := ih_f hc he
      refine lv_iconst (v := (0 : Int32)) hx hb d_SkeletonClock_isYearField_13 (by decide) ?_
      cases he
      exact k_zre hx hb hr hlk X hP hD hS (Or.inl rfl) d_SkeletonClock_isYearField_14
    · have he := ih_t hc he
      refine lv_iconst (v := (1 : Int32)) hx hb d_SkeletonClock_isYearField_9 (by decide) ?_
      refine lv_goto (tgt := 14) hx hb d_SkeletonClock_isYearField_10 rfl ?_
      cases he
      exact k_zre hx hb hr hlk X hP hD hS (Or.inr rfl) d_SkeletonClock_isYearField_14
abbrev rm_Printer_writeYear : Room := { frames := 2, cells := 0, slots := 0, locals := 48 }
set_option maxHeartbeats 4000000 in
set_option maxRecDepth 100000 in
theorem c_Printer_writeYear (l : Launch) (D : va_G) (kk : Nat → ClassId) (st : Nat → Nat) (a_t a_t_draft a_t_draft_cells a_t_nest : Nat) (sz : Nat) (t_draft_size : Int32) (t_draft_cells : Nat → Int32) (x1 : Int32) (x2 : Int32) (o : Int32 × (Nat → Int32)) (he : f_Printer_writeYear t_draft_size t_draft_cells x1 x2 = some o) : Met l y_Printer_writeYear (Cond.code y_Printer_writeYear b_Printer_writeYear 3 none :: GW) rm_Printer_writeYear (KPc D kk st [.ref a_t, .int x1, .int x2] [(a_t, .inr (6, [.ref a_t_draft, .ref a_t_nest])), (a_t_draft, .inr (1, [.ref a_t_draft_cells, .int t_draft_size])), (a_t_draft_cells, .inl (kk 1, 200, .inl t_draft_cells))] sz) (KQv D kk [(a_t, .inr (6, [.ref a_t_draft, .ref a_t_nest])), (a_t_draft, .inr (1, [.ref a_t_draft_cells, .int o.1])), (a_t_draft_cells, .inl (kk 1, 200, .inl o.2))] (va_A [(a_t, .inr (6, [.ref a_t_draft, .ref a_t_nest])), (a_t_draft, .inr (1, [.ref a_t_draft_cells, .int t_draft_size])), (a_t_draft_cells, .inl (kk 1, 200, .inl t_draft_cells))] sz)) 0 0 (va_A [(a_t, .inr (6, [.ref a_t_draft, .ref a_t_nest])), (a_t_draft, .inr (1, [.ref a_t_draft_cells, .int t_draft_size])), (a_t_draft_cells, .inl (kk 1, 200, .inl t_draft_cells))] sz) := by
  refine k_start (Qc := fun A => KQv D kk [(a_t, .inr (6, [.ref a_t_draft, .ref a_t_nest])), (a_t_draft, .inr (1, [.ref a_t_draft_cells, .int o.1])), (a_t_draft_cells, .inl (kk 1, 200, .inl o.2))] A) (by decide) (Nat.le_of_ble_eq_true rfl) ?_
  intro p e s m below meth c A ls S hnm hr hlk hA X hP hD hS hl
  have hl : lv_has ls 3 [(0, .ref a_t), (1, .int x1), (2, .int x2)] := hl
  have hx := S.1
  have hb := S.2.1
  unfold f_Printer_writeYear at he
  refine lv_iload_n hx hb d_Printer_writeYear_0 rfl (lv_at hl 2 rfl) ?_
  refine lv_iconst (v := (2 : Int32)) hx hb d_Printer_writeYear_1 (by decide) ?_
  refine lv_icmp_ne (tgt := 20) hx hb d_Printer_writeYear_2 rfl (fun hc => ?_) (fun hc => ?_)
  · have he := ih_f hc he
    refine lv_iload_n hx hb d_Printer_writeYear_20 rfl (lv_at hl 1 rfl) ?_
    refine lv_if_ge (tgt := 37) hx hb d_Printer_writeYear_21 rfl (fun hc => ?_) (fun hc => ?_)
    · have he := ih_t hc he
      refine lv_iload_n hx hb d_Printer_writeYear_37 rfl (lv_at hl 2 rfl) ?_
      refine lv_iconst (v := (4 : Int32)) hx hb d_Printer_writeYear_38 (by decide) ?_
      refine lv_icmp_ne (tgt := 59) hx hb d_Printer_writeYear_39 rfl (fun hc => ?_) (fun hc => ?_)
      · have he := ih_f hc he
        refine lv_aload_n hx hb d_Printer_writeYear_59 rfl (lv_at hl 0 rfl) ?_
        refine k_get S X us_Printer hP 0 rfl rfl 0 (by decide) gm_1_115 rfl d_Printer_writeYear_60 ?_
        refine lv_iload_n hx hb d_Printer_writeYear_63 rfl (lv_at hl 1 rfl) ?_
        refine va_mabs hx hb (by rw [S.2.2.1]; exact hl.1.symm) S.2.2.2.1 (S.2.2.2.2 _ gm_3_136) (S.2.2.2.2 _ gm_3_6) (S.2.2.2.2 _ gm_1_11) (S.2.2.2.2 _ gm_3_7) (by decide) (Nat.le_of_ble_eq_true rfl) (Nat.zero_le _) (Nat.zero_le _) d_Printer_writeYear_64 ?_
        refine lv_iload_n hx hb d_Printer_writeYear_67 rfl (lv_at hl 2 rfl) ?_
        obtain ⟨u1, e2, he⟩ := ih_b he
        refine k_v (wr := [(a_t, .inr (6, [.ref a_t_draft, .ref a_t_nest]))]) (w1 := [(a_t_draft, .inr (1, [.ref a_t_draft_cells, .int u1.1])), (a_t_draft_cells, .inl (kk 1, 200, .inl u1.2))]) (w2 := [(a_t, .inr (6, [.ref a_t_draft, .ref a_t_nest])), (a_t_draft, .inr (1, [.ref a_t_draft_cells, .int u1.1])), (a_t_draft_cells, .inl (kk 1, 200, .inl u1.2))]) (r_V (As := [.int (if 0 ≤ x1 then x1 else 0 - x1), .int x2]) S X hA hP hD hS (c_Row_putNumber l D kk st a_t_draft a_t_draft_cells _ 200 t_draft_size t_draft_cells (if 0 ≤ x1 then x1 else 0 - x1) x2 u1 e2) gm_3_135 gm_3_132 gm_3_133 gm_3_134 gm_1_2 ⟨rfl, rfl, by decide, by decide⟩ kd_Row_putNumber [1, 2] rfl rfl rfl 1 1 rfl rfl rfl rfl hl.1 rfl (Nat.le_of_ble_eq_true rfl) d_Printer_writeYear_68 ⟨Nat.zero_le _, Nat.zero_le _⟩) hA hP hD hS [1, 2] [0] [0, 1, 2] rfl rfl rfl (by decide) rfl rfl rfl (fun H locs hP hD hS => ?_)
        cases he
        exact k_vre hx hb hr hlk X hP hD hS d_Printer_writeYear_71
      · have he := ih_t hc he
        refine lv_iload_n hx hb d_Printer_writeYear_42 rfl (lv_at hl 1 rfl) ?_
        refine lv_sipush (v := (9999 : Int32)) hx hb d_Printer_writeYear_43 (by decide) ?_
        refine lv_icmp_le (tgt := 59) hx hb d_Printer_writeYear_46 rfl (fun hc => ?_) (fun hc => ?_)
        · have he := ih_t hc he
          refine lv_aload_n hx hb d_Printer_writeYear_59 rfl (lv_at hl 0 rfl) ?_
          refine k_get S X us_Printer hP 0 rfl rfl 0 (by decide) gm_1_115 rfl d_Printer_writeYear_60 ?_
          refine lv_iload_n hx hb d_Printer_writeYear_63 rfl (lv_at hl 1 rfl) ?_
          refine va_mabs hx hb (by rw [S.2.2.1]; exact hl.1.symm) S.2.2.2.1 (S.2.2.2.2 _ gm_3_136) (S.2.2.2.2 _ gm_3_6) (S.2.2.2.2 _ gm_1_11) (S.2.2.2.2 _ gm_3_7) (by decide) (Nat.le_of_ble_eq_true rfl) (Nat.zero_le _) (Nat.zero_le _) d_Printer_writeYear_64 ?_
          refine lv_iload_n hx hb d_Printer_writeYear_67 rfl (lv_at hl 2 rfl) ?_
          obtain ⟨u3, e4, he⟩ := ih_b he
          refine k_v (wr := [(a_t, .inr (6, [.ref a_t_draft, .ref a_t_nest]))]) (w1 := [(a_t_draft, .inr (1, [.ref a_t_draft_cells, .int u3.1])), (a_t_draft_cells, .inl (kk 1, 200, .inl u3.2))]) (w2 := [(a_t, .inr (6, [.ref a_t_draft, .ref a_t_nest])), (a_t_draft, .inr (1, [.ref a_t_draft_cells, .int u3.1])), (a_t_draft_cells, .inl (kk 1, 200, .inl u3.2))]) (r_V (As := [.int (if 0 ≤ x1 then x1 else 0 - x1), .int x2]) S X hA hP hD hS (c_Row_putNumber l D kk st a_t_draft a_t_draft_cells _ 200 t_draft_size t_draft_cells (if 0 ≤ x1 then x1 else 0 - x1) x2 u3 e4) gm_3_135 gm_3_132 gm_3_133 gm_3_134 gm_1_2 ⟨rfl, rfl, by decide, by decide⟩ kd_Row_putNumber [1, 2] rfl rfl rfl 1 1 rfl rfl rfl rfl hl.1 rfl (Nat.le_of_ble_eq_true rfl) d_Printer_writeYear_68 ⟨Nat.zero_le _, Nat.zero_le _⟩) hA hP hD hS [1, 2] [0] [0, 1, 2] rfl rfl rfl (by decide) rfl rfl rfl (fun H locs hP hD hS => ?_)
          cases he
          exact k_vre hx hb hr hlk X hP hD hS d_Printer_writeYear_71
        · have he := ih_f hc he
          refine lv_aload_n hx hb d_Printer_writeYear_49 rfl (lv_at hl 0 rfl) ?_
          refine k_get S X us_Printer hP 0 rfl rfl 0 (by decide) gm_1_115 rfl d_Printer_writeYear_50 ?_
          refine lv_bipush (v := (43 : Int32)) hx hb d_Printer_writeYear_53 (by decide) ?_
          obtain ⟨u5, e6, he⟩ := ih_b he
          refine k_i (wr := [(a_t, .inr (6, [.ref a_t_draft, .ref a_t_nest]))]) (w1 := [(a_t_draft, .inr (1, [.ref a_t_draft_cells, .int u5.2.1])), (a_t_draft_cells, .inl (kk 1, 200, .inl u5.2.2))]) (w2 := [(a_t, .inr (6, [.ref a_t_draft, .ref a_t_nest])), (a_t_draft, .inr (1, [.ref a_t_draft_cells, .int u5.2.1])), (a_t_draft_cells, .inl (kk 1, 200, .inl u5.2.2))]) (r_V (As := [.int (43 : Int32)]) S X hA hP hD hS (c_Row_put l D kk st a_t_draft a_t_draft_cells _ 200 t_draft_size t_draft_cells (43 : Int32) u5 e6) gm_2_57 gm_3_76 gm_2_55 gm_2_56 gm_1_2 ⟨rfl, rfl, by decide, by decide⟩ kd_Row_put [1, 2] rfl rfl rfl 1 1 rfl rfl rfl rfl hl.1 rfl (Nat.le_of_ble_eq_true rfl) d_Printer_writeYear_55 ⟨Nat.zero_le _, Nat.zero_le _⟩) hA hP hD hS [1, 2] [0] [0, 1, 2] rfl rfl rfl (by decide) rfl rfl rfl (fun H locs hP hD hS => ?_)
          refine lv_pop hx hb d_Printer_writeYear_58 rfl ?_
          refine lv_aload_n hx hb d_Printer_writeYear_59 rfl (lv_at hl 0 rfl) ?_
          refine k_get S X us_Printer hP 0 rfl rfl 0 (by decide) gm_1_115 rfl d_Printer_writeYear_60 ?_
          refine lv_iload_n hx hb d_Printer_writeYear_63 rfl (lv_at hl 1 rfl) ?_
          refine va_mabs hx hb (by rw [S.2.2.1]; exact hl.1.symm) S.2.2.2.1 (S.2.2.2.2 _ gm_3_136) (S.2.2.2.2 _ gm_3_6) (S.2.2.2.2 _ gm_1_11) (S.2.2.2.2 _ gm_3_7) (by decide) (Nat.le_of_ble_eq_true rfl) (Nat.zero_le _) (Nat.zero_le _) d_Printer_writeYear_64 ?_
          refine lv_iload_n hx hb d_Printer_writeYear_67 rfl (lv_at hl 2 rfl) ?_
          obtain ⟨u7, e8, he⟩ := ih_b he
          refine k_v (wr := [(a_t, .inr (6, [.ref a_t_draft, .ref a_t_nest]))]) (w1 := [(a_t_draft, .inr (1, [.ref a_t_draft_cells, .int u7.1])), (a_t_draft_cells, .inl (kk 1, 200, .inl u7.2))]) (w2 := [(a_t, .inr (6, [.ref a_t_draft, .ref a_t_nest])), (a_t_draft, .inr (1, [.ref a_t_draft_cells, .int u7.1])), (a_t_draft_cells, .inl (kk 1, 200, .inl u7.2))]) (r_V (As := [.int (if 0 ≤ x1 then x1 else 0 - x1), .int x2]) S X hA hP hD hS (c_Row_putNumber l D kk st a_t_draft a_t_draft_cells _ 200 u5.2.1 u5.2.2 (if 0 ≤ x1 then x1 else 0 - x1) x2 u7 e8) gm_3_135 gm_3_132 gm_3_133 gm_3_134 gm_1_2 ⟨rfl, rfl, by decide, by decide⟩ kd_Row_putNumber [1, 2] rfl rfl rfl 1 1 rfl rfl rfl rfl hl.1 rfl (Nat.le_of_ble_eq_true rfl) d_Printer_writeYear_68 ⟨Nat.zero_le _, Nat.zero_le _⟩) hA hP hD hS [1, 2] [0] [0, 1, 2] rfl rfl rfl (by decide) rfl rfl rfl (fun H locs hP hD hS => ?_)
          cases he
          exact k_vre hx hb hr hlk X hP hD hS d_Printer_writeYear_71
    · have he := ih_f hc he
      refine lv_aload_n hx hb d_Printer_writeYear_24 rfl (lv_at hl 0 rfl) ?_
      refine k_get S X us_Printer hP 0 rfl rfl 0 (by decide) gm_1_115 rfl d_Printer_writeYear_25 ?_
      refine lv_bipush (v := (45 : Int32)) hx hb d_Printer_writeYear_28 (by decide) ?_
      obtain ⟨u9, e10, he⟩ := ih_b he
      refine k_i (wr := [(a_t, .inr (6, [.ref a_t_draft, .ref a_t_nest]))]) (w1 := [(a_t_draft, .inr (1, [.ref a_t_draft_cells, .int u9.2.1])), (a_t_draft_cells, .inl (kk 1, 200, .inl u9.2.2))]) (w2 := [(a_t, .inr (6, [.ref a_t_draft, .ref a_t_nest])), (a_t_draft, .inr (1, [.ref a_t_draft_cells, .int u9.2.1])), (a_t_draft_cells, .inl (kk 1, 200, .inl u9.2.2))]) (r_V (As := [.int (45 : Int32)]) S X hA hP hD hS (c_Row_put l D kk st a_t_draft a_t_draft_cells _ 200 t_draft_size t_draft_cells (45 : Int32) u9 e10) gm_2_57 gm_3_76 gm_2_55 gm_2_56 gm_1_2 ⟨rfl, rfl, by decide, by decide⟩ kd_Row_put [1, 2] rfl rfl rfl 1 1 rfl rfl rfl rfl hl.1 rfl (Nat.le_of_ble_eq_true rfl) d_Printer_writeYear_30 ⟨Nat.zero_le _, Nat.zero_le _⟩) hA hP hD hS [1, 2] [0] [0, 1, 2] rfl rfl rfl (by decide) rfl rfl rfl (fun H locs hP hD hS => ?_)
      refine lv_pop hx hb d_Printer_writeYear_33 rfl ?_
      refine lv_goto (tgt := 59) hx hb d_Printer_writeYear_34 rfl ?_
      refine lv_aload_n hx hb d_Printer_writeYear_59 rfl (lv_at hl 0 rfl) ?_
      refine k_get S X us_Printer hP 0 rfl rfl 0 (by decide) gm_1_115 rfl d_Printer_writeYear_60 ?_
      refine lv_iload_n hx hb d_Printer_writeYear_63 rfl (lv_at hl 1 rfl) ?_
      refine va_mabs hx hb (by rw [S.2.2.1]; exact hl.1.symm) S.2.2.2.1 (S.2.2.2.2 _ gm_3_136) (S.2.2.2.2 _ gm_3_6) (S.2.2.2.2 _ gm_1_11) (S.2.2.2.2 _ gm_3_7) (by decide) (Nat.le_of_ble_eq_true rfl) (Nat.zero_le _) (Nat.zero_le _) d_Printer_writeYear_64 ?_
      refine lv_iload_n hx hb d_Printer_writeYear_67 rfl (lv_at hl 2 rfl) ?_
      obtain ⟨u11, e12, he⟩ := ih_b he
      refine k_v (wr := [(a_t, .inr (6, [.ref a_t_draft, .ref a_t_nest]))]) (w1 := [(a_t_draft, .inr (1, [.ref a_t_draft_cells, .int u11.1])), (a_t_draft_cells, .inl (kk 1, 200, .inl u11.2))]) (w2 := [(a_t, .inr (6, [.ref a_t_draft, .ref a_t_nest])), (a_t_draft, .inr (1, [.ref a_t_draft_cells, .int u11.1])), (a_t_draft_cells, .inl (kk 1, 200, .inl u11.2))]) (r_V (As := [.int (if 0 ≤ x1 then x1 else 0 - x1), .int x2]) S X hA hP hD hS (c_Row_putNumber l D kk st a_t_draft a_t_draft_cells _ 200 u9.2.1 u9.2.2 (if 0 ≤ x1 then x1 else 0 - x1) x2 u11 e12) gm_3_135 gm_3_132 gm_3_133 gm_3_134 gm_1_2 ⟨rfl, rfl, by decide, by decide⟩ kd_Row_putNumber [1, 2] rfl rfl rfl 1 1 rfl rfl rfl rfl hl.1 rfl (Nat.le_of_ble_eq_true rfl) d_Printer_writeYear_68 ⟨Nat.zero_le _, Nat.zero_le _⟩) hA hP hD hS [1, 2] [0] [0, 1, 2] rfl rfl rfl (by decide) rfl rfl rfl (fun H locs hP hD hS => ?_)
      cases he
      exact k_vre hx hb hr hlk X hP hD hS d_Printer_writeYear_71
  · have he := ih_t hc he
    refine lv_aload_n hx hb d_Printer_writeYear_5 rfl (lv_at hl 0 rfl) ?_
    refine k_get S X us_Printer hP 0 rfl rfl 0 (by decide) gm_1_115 rfl d_Printer_writeYear_6 ?_
    refine lv_iload_n hx hb d_Printer_writeYear_9 rfl (lv_at hl 1 rfl) ?_
    refine lv_bipush (v := (100 : Int32)) hx hb d_Printer_writeYear_10 (by decide) ?_
    obtain ⟨u13, e14, he⟩ := ih_b he
    refine k_io (r_S (As := [.int x1, .int (100 : Int32)]) S X hA hP hD hS (c_Math_floorMod_II l D kk st _ x1 (100 : Int32) u13 e14) gm_3_131 gm_3_129 gm_3_130 gm_1_11 ⟨rfl, rfl, by decide, by decide⟩ kd_Math_floorMod_II [] rfl rfl rfl rfl hl.1 rfl (Nat.le_of_ble_eq_true rfl) d_Printer_writeYear_12 ⟨Nat.zero_le _, Nat.zero_le _⟩) hA hP hD hS [] rfl (fun H locs hP hS => ?_)
    refine lv_iconst (v := (2 : Int32)) hx hb d_Printer_writeYear_15 (by decide) ?_
    obtain ⟨u15, e16, he⟩ := ih_b he
    refine k_v (wr := [(a_t, .inr (6, [.ref a_t_draft, .ref a_t_nest]))]) (w1 := [(a_t_draft, .inr (1, [.ref a_t_draft_cells, .int u15.1])), (a_t_draft_cells, .inl (kk 1, 200, .inl u15.2))]) (w2 := [(a_t, .inr (6, [.ref a_t_draft, .ref a_t_nest])), (a_t_draft, .inr (1, [.ref a_t_draft_cells, .int u15.1])), (a_t_draft_cells, .inl (kk 1, 200, .inl u15.2))]) (r_V (As := [.int u13, .int (2 : Int32)]) S X hA hP hD hS (c_Row_putNumber l D kk st a_t_draft a_t_draft_cells _ 200 t_draft_size t_draft_cells u13 (2 : Int32) u15 e16) gm_3_135 gm_3_132 gm_3_133 gm_3_134 gm_1_2 ⟨rfl, rfl, by decide, by decide⟩ kd_Row_putNumber [1, 2] rfl rfl rfl 1 1 rfl rfl rfl rfl hl.1 rfl (Nat.le_of_ble_eq_true rfl) d_Printer_writeYear_16 ⟨Nat.zero_le _, Nat.zero_le _⟩) hA hP hD hS [1, 2] [0] [0, 1, 2] rfl rfl rfl (by decide) rfl rfl rfl (fun H locs hP hD hS => ?_)
    cases he
    exact k_vre hx hb hr hlk X hP hD hS d_Printer_writeYear_19
abbrev rm_Printer_writeNano : Room := { frames := 2, cells := 0, slots := 0, locals := 48 }
set_option maxHeartbeats 4000000 in
set_option maxRecDepth 100000 in
theorem w_Printer_writeNano_5 {p : Program} {l : Launch} {e : Env} {s : State} {m : MethodId} {args : Array Value} {below : List Frame} {meth : Method} {c : Code} {Q : State → Prop} {A : Nat → Prop} {D : va_G} {kk : Nat → ClassId} {st : Nat → Nat} (a_t a_t_draft a_t_draft_cells a_t_nest : Nat) (t_draft_size : Int32) (t_draft_cells : Nat → Int32) (x2 : Int32) (S : CallFix p m c b_Printer_writeNano 5 s args GW y_Printer_writeNano.cls) (hr : meth.sig.returnType = none) (hlk : meth.locks = false) (hA : ∀ q, s.heap.size ≤ q → A q) (X : KX D kk st A s) : ∀ (n : Nat) (x3 : Int32) (x4 : Int32) (v : Int32 × Int32) (H : Heap) (locs : List Loc) (ls : Array Slot), lp_Printer_writeNano_5 x2 n x3 x4 = some v → lv_has ls 5 [(0, .ref a_t), (2, .int x2), (3, .int x3), (4, .int x4)] → va_P D classes [(a_t, .inr (6, [.ref a_t_draft, .ref a_t_nest])), (a_t_draft, .inr (1, [.ref a_t_draft_cells, .int t_draft_size])), (a_t_draft_cells, .inl (kk 1, 200, .inl t_draft_cells))] H → va_D A [(a_t, .inr (6, [.ref a_t_draft, .ref a_t_nest])), (a_t_draft, .inr (1, [.ref a_t_draft_cells, .int t_draft_size])), (a_t_draft_cells, .inl (kk 1, 200, .inl t_draft_cells))] → va_S A s.heap H locs → (∀ (H : Heap) (locs : List Loc) (ls : Array Slot), lv_has ls 5 [(0, .ref a_t), (2, .int x2), (3, .int v.1), (4, .int v.2)] → va_P D classes [(a_t, .inr (6, [.ref a_t_draft, .ref a_t_nest])), (a_t_draft, .inr (1, [.ref a_t_draft_cells, .int t_draft_size])), (a_t_draft_cells, .inl (kk 1, 200, .inl t_draft_cells))] H → va_D A [(a_t, .inr (6, [.ref a_t_draft, .ref a_t_nest])), (a_t_draft, .inr (1, [.ref a_t_draft_cells, .int t_draft_size])), (a_t_draft_cells, .inl (kk 1, 200, .inl t_draft_cells))] → va_S A s.heap H locs → W p l e rm_Printer_writeNano s m args below meth c H locs 0 0 Q (F0 m 23 ls [])) → W p l e rm_Printer_writeNano s m args below meth c H locs 0 0 Q (F0 m 5 ls []) := by
  intro n
  induction n with
  | zero =>
    intro x3 x4 v H locs ls he hl hP hD hS K
    exact ih_n he
  | succ n ih =>
    intro x3 x4 v H locs ls he hl hP hD hS K
    have hx := S.1
    have hb := S.2.1
    have he : st_Printer_writeNano_5 x2 (lp_Printer_writeNano_5 x2 n) x3 x4 = some v := he
    unfold st_Printer_writeNano_5 at he
    refine lv_iload hx hb d_Printer_writeNano_5 (lv_at hl 3 rfl) ?_
    refine lv_bipush (v := (9 : Int32)) hx hb d_Printer_writeNano_7 (by decide) ?_
    refine lv_icmp_ge (tgt := 23) hx hb d_Printer_writeNano_9 rfl (fun hc => ?_) (fun hc => ?_)
    · have he := ih_t hc he
      have hl : lv_has ls 5 [(0, .ref a_t), (2, .int x2), (3, .int x3), (4, .int x4)] := lv_sub hl [0, 1, 2, 3] rfl
      cases he
      exact K _ _ _ hl hP hD hS
    · have he := ih_f hc he
      refine lv_iload_n hx hb d_Printer_writeNano_12 rfl (lv_at hl 2 rfl) ?_
      refine lv_bipush (v := (10 : Int32)) hx hb d_Printer_writeNano_13 (by decide) ?_
      refine lv_idiv hx hb d_Printer_writeNano_15 (by decide) ?_
      refine lv_istore_n hx hb d_Printer_writeNano_16 rfl hl (by decide) rfl (fun ls hl => ?_)
      have hl : lv_has ls 5 [(3, .int (x3 / (10 : Int32))), (0, .ref a_t), (2, .int x2), (4, .int x4)] := hl
      refine lv_iinc (k := 3) hx hb d_Printer_writeNano_17 hl rfl (ii_ (v := (1 : Int32)) (by decide)) (by decide) rfl (fun ls hl => ?_)
      have hl : lv_has ls 5 [(4, .int (x4 + (1 : Int32))), (3, .int (x3 / (10 : Int32))), (0, .ref a_t), (2, .int x2)] := hl
      refine lv_goto (tgt := 5) hx hb d_Printer_writeNano_20 rfl ?_
      have hl : lv_has ls 5 [(0, .ref a_t), (2, .int x2), (3, .int (x3 / (10 : Int32))), (4, .int (x4 + (1 : Int32)))] := lv_sub hl [2, 3, 1, 0] rfl
      exact ih _ _ _ _ _ _ he hl hP hD hS K
set_option maxHeartbeats 4000000 in
set_option maxRecDepth 100000 in
theorem c_Printer_writeNano (l : Launch) (D : va_G) (kk : Nat → ClassId) (st : Nat → Nat) (a_t a_t_draft a_t_draft_cells a_t_nest : Nat) (sz : Nat) (t_draft_size : Int32) (t_draft_cells : Nat → Int32) (x1 : Int32) (x2 : Int32) (o : Int32 × (Nat → Int32)) (he : f_Printer_writeNano t_draft_size t_draft_cells x1 x2 = some o) : Met l y_Printer_writeNano (Cond.code y_Printer_writeNano b_Printer_writeNano 5 none :: GW) rm_Printer_writeNano (KPc D kk st [.ref a_t, .int x1, .int x2] [(a_t, .inr (6, [.ref a_t_draft, .ref a_t_nest])), (a_t_draft, .inr (1, [.ref a_t_draft_cells, .int t_draft_size])), (a_t_draft_cells, .inl (kk 1, 200, .inl t_draft_cells))] sz) (KQv D kk [(a_t, .inr (6, [.ref a_t_draft, .ref a_t_nest])), (a_t_draft, .inr (1, [.ref a_t_draft_cells, .int o.1])), (a_t_draft_cells, .inl (kk 1, 200, .inl o.2))] (va_A [(a_t, .inr (6, [.ref a_t_draft, .ref a_t_nest])), (a_t_draft, .inr (1, [.ref a_t_draft_cells, .int t_draft_size])), (a_t_draft_cells, .inl (kk 1, 200, .inl t_draft_cells))] sz)) 0 0 (va_A [(a_t, .inr (6, [.ref a_t_draft, .ref a_t_nest])), (a_t_draft, .inr (1, [.ref a_t_draft_cells, .int t_draft_size])), (a_t_draft_cells, .inl (kk 1, 200, .inl t_draft_cells))] sz) := by
  refine k_start (Qc := fun A => KQv D kk [(a_t, .inr (6, [.ref a_t_draft, .ref a_t_nest])), (a_t_draft, .inr (1, [.ref a_t_draft_cells, .int o.1])), (a_t_draft_cells, .inl (kk 1, 200, .inl o.2))] A) (by decide) (Nat.le_of_ble_eq_true rfl) ?_
  intro p e s m below meth c A ls S hnm hr hlk hA X hP hD hS hl
  have hl : lv_has ls 5 [(0, .ref a_t), (1, .int x1), (2, .int x2)] := hl
  have hx := S.1
  have hb := S.2.1
  unfold f_Printer_writeNano at he
  refine lv_iload_n hx hb d_Printer_writeNano_0 rfl (lv_at hl 1 rfl) ?_
  refine lv_istore_n hx hb d_Printer_writeNano_1 rfl hl (by decide) rfl (fun ls hl => ?_)
  have hl : lv_has ls 5 [(3, .int x1), (0, .ref a_t), (1, .int x1), (2, .int x2)] := hl
  refine lv_iload_n hx hb d_Printer_writeNano_2 rfl (lv_at hl 3 rfl) ?_
  refine lv_istore hx hb d_Printer_writeNano_3 hl (by decide) rfl (fun ls hl => ?_)
  have hl : lv_has ls 5 [(4, .int x2), (3, .int x1), (0, .ref a_t), (1, .int x1), (2, .int x2)] := hl
  obtain ⟨u1, e2, he⟩ := ih_b he
  have hl : lv_has ls 5 [(0, .ref a_t), (2, .int x2), (3, .int x1), (4, .int x2)] := lv_sub hl [2, 4, 1, 0] rfl
  refine w_Printer_writeNano_5 a_t a_t_draft a_t_draft_cells a_t_nest t_draft_size t_draft_cells x2 S hr hlk hA X FU x1 x2 u1 _ _ ls e2 hl hP hD hS (fun H locs ls hl hP hD hS => ?_)
  refine lv_aload_n hx hb d_Printer_writeNano_23 rfl (lv_at hl 0 rfl) ?_
  refine k_get S X us_Printer hP 0 rfl rfl 0 (by decide) gm_1_115 rfl d_Printer_writeNano_24 ?_
  refine lv_iload_n hx hb d_Printer_writeNano_27 rfl (lv_at hl 2 rfl) ?_
  refine lv_iload_n hx hb d_Printer_writeNano_28 rfl (lv_at hl 1 rfl) ?_
  obtain ⟨u3, e4, he⟩ := ih_b he
  refine k_v (wr := [(a_t, .inr (6, [.ref a_t_draft, .ref a_t_nest]))]) (w1 := [(a_t_draft, .inr (1, [.ref a_t_draft_cells, .int u3.1])), (a_t_draft_cells, .inl (kk 1, 200, .inl u3.2))]) (w2 := [(a_t, .inr (6, [.ref a_t_draft, .ref a_t_nest])), (a_t_draft, .inr (1, [.ref a_t_draft_cells, .int u3.1])), (a_t_draft_cells, .inl (kk 1, 200, .inl u3.2))]) (r_V (As := [.int u1.1, .int x2]) S X hA hP hD hS (c_Row_putNumber l D kk st a_t_draft a_t_draft_cells _ 200 t_draft_size t_draft_cells u1.1 x2 u3 e4) gm_3_135 gm_3_132 gm_3_133 gm_3_134 gm_1_2 ⟨rfl, rfl, by decide, by decide⟩ kd_Row_putNumber [1, 2] rfl rfl rfl 1 1 rfl rfl rfl rfl hl.1 rfl (Nat.le_of_ble_eq_true rfl) d_Printer_writeNano_29 ⟨Nat.zero_le _, Nat.zero_le _⟩) hA hP hD hS [1, 2] [0] [0, 1, 2] rfl rfl rfl (by decide) rfl rfl rfl (fun H locs hP hD hS => ?_)
  cases he
  exact k_vre hx hb hr hlk X hP hD hS d_Printer_writeNano_32
abbrev rm_Printer_writeOffset : Room := { frames := 2, cells := 0, slots := 0, locals := 48 }
set_option maxHeartbeats 4000000 in
set_option maxRecDepth 100000 in
theorem w_Printer_writeOffset_45 {p : Program} {l : Launch} {e : Env} {s : State} {m : MethodId} {args : Array Value} {below : List Frame} {meth : Method} {c : Code} {A : Nat → Prop} {D : va_G} {kk : Nat → ClassId} {st : Nat → Nat} (a_t a_t_draft a_t_draft_cells a_t_nest : Nat) (t_draft_size : Int32) (t_draft_cells : Nat → Int32) (x1 : Int32) (x3 : Int32) (x4 : Int32) (s1 : Int32) (o : Int32 × (Nat → Int32)) (S : CallFix p m c b_Printer_writeOffset 5 s args GW y_Printer_writeOffset.cls) (hr : meth.sig.returnType = none) (hlk : meth.locks = false) (hA : ∀ q, s.heap.size ≤ q → A q) (X : KX D kk st A s) (H : Heap) (locs : List Loc) (ls : Array Slot) (he : jn_Printer_writeOffset_45 t_draft_size t_draft_cells x1 x3 x4 s1 = some o) (hl : lv_has ls 5 [(0, .ref a_t), (1, .int x1), (3, .int x3), (4, .int x4)]) (hP : va_P D classes [(a_t, .inr (6, [.ref a_t_draft, .ref a_t_nest])), (a_t_draft, .inr (1, [.ref a_t_draft_cells, .int t_draft_size])), (a_t_draft_cells, .inl (kk 1, 200, .inl t_draft_cells))] H) (hD : va_D A [(a_t, .inr (6, [.ref a_t_draft, .ref a_t_nest])), (a_t_draft, .inr (1, [.ref a_t_draft_cells, .int t_draft_size])), (a_t_draft_cells, .inl (kk 1, 200, .inl t_draft_cells))]) (hS : va_S A s.heap H locs) : W p l e rm_Printer_writeOffset s m args below meth c H locs 0 0 (MQ below (KQv D kk [(a_t, .inr (6, [.ref a_t_draft, .ref a_t_nest])), (a_t_draft, .inr (1, [.ref a_t_draft_cells, .int o.1])), (a_t_draft_cells, .inl (kk 1, 200, .inl o.2))] A) args s 0 0 A) (F0 m 45 ls [.int s1, .ref a_t_draft]) := by
  have hx := S.1
  have hb := S.2.1
  unfold jn_Printer_writeOffset_45 at he
  obtain ⟨u1, e2, he⟩ := ih_b he
  refine k_i (wr := [(a_t, .inr (6, [.ref a_t_draft, .ref a_t_nest]))]) (w1 := [(a_t_draft, .inr (1, [.ref a_t_draft_cells, .int u1.2.1])), (a_t_draft_cells, .inl (kk 1, 200, .inl u1.2.2))]) (w2 := [(a_t, .inr (6, [.ref a_t_draft, .ref a_t_nest])), (a_t_draft, .inr (1, [.ref a_t_draft_cells, .int u1.2.1])), (a_t_draft_cells, .inl (kk 1, 200, .inl u1.2.2))]) (r_V (As := [.int s1]) S X hA hP hD hS (c_Row_put l D kk st a_t_draft a_t_draft_cells _ 200 t_draft_size t_draft_cells s1 u1 e2) gm_2_57 gm_3_76 gm_2_55 gm_2_56 gm_1_2 ⟨rfl, rfl, by decide, by decide⟩ kd_Row_put [1, 2] rfl rfl rfl 1 1 rfl rfl rfl rfl hl.1 rfl (Nat.le_of_ble_eq_true rfl) d_Printer_writeOffset_45 ⟨Nat.zero_le _, Nat.zero_le _⟩) hA hP hD hS [1, 2] [0] [0, 1, 2] rfl rfl rfl (by decide) rfl rfl rfl (fun H locs hP hD hS => ?_)
  refine lv_pop hx hb d_Printer_writeOffset_48 rfl ?_
  refine lv_aload_n hx hb d_Printer_writeOffset_49 rfl (lv_at hl 0 rfl) ?_
  refine k_get S X us_Printer hP 0 rfl rfl 0 (by decide) gm_1_115 rfl d_Printer_writeOffset_50 ?_
  refine lv_iload_n hx hb d_Printer_writeOffset_53 rfl (lv_at hl 1 rfl) ?_
  refine va_mabs hx hb (by rw [S.2.2.1]; exact hl.1.symm) S.2.2.2.1 (S.2.2.2.2 _ gm_3_136) (S.2.2.2.2 _ gm_3_6) (S.2.2.2.2 _ gm_1_11) (S.2.2.2.2 _ gm_3_7) (by decide) (Nat.le_of_ble_eq_true rfl) (Nat.zero_le _) (Nat.zero_le _) d_Printer_writeOffset_54 ?_
  refine lv_bipush (v := (60 : Int32)) hx hb d_Printer_writeOffset_57 (by decide) ?_
  refine lv_idiv hx hb d_Printer_writeOffset_59 (by decide) ?_
  refine lv_iconst (v := (2 : Int32)) hx hb d_Printer_writeOffset_60 (by decide) ?_
  obtain ⟨u3, e4, he⟩ := ih_b he
  refine k_v (wr := [(a_t, .inr (6, [.ref a_t_draft, .ref a_t_nest]))]) (w1 := [(a_t_draft, .inr (1, [.ref a_t_draft_cells, .int u3.1])), (a_t_draft_cells, .inl (kk 1, 200, .inl u3.2))]) (w2 := [(a_t, .inr (6, [.ref a_t_draft, .ref a_t_nest])), (a_t_draft, .inr (1, [.ref a_t_draft_cells, .int u3.1])), (a_t_draft_cells, .inl (kk 1, 200, .inl u3.2))]) (r_V (As := [.int ((if 0 ≤ x1 then x1 else 0 - x1) / (60 : Int32)), .int (2 : Int32)]) S X hA hP hD hS (c_Row_putNumber l D kk st a_t_draft a_t_draft_cells _ 200 u1.2.1 u1.2.2 ((if 0 ≤ x1 then x1 else 0 - x1) / (60 : Int32)) (2 : Int32) u3 e4) gm_3_135 gm_3_132 gm_3_133 gm_3_134 gm_1_2 ⟨rfl, rfl, by decide, by decide⟩ kd_Row_putNumber [1, 2] rfl rfl rfl 1 1 rfl rfl rfl rfl hl.1 rfl (Nat.le_of_ble_eq_true rfl) d_Printer_writeOffset_61 ⟨Nat.zero_le _, Nat.zero_le _⟩) hA hP hD hS [1, 2] [0] [0, 1, 2] rfl rfl rfl (by decide) rfl rfl rfl (fun H locs hP hD hS => ?_)
  refine lv_iload_n hx hb d_Printer_writeOffset_64 rfl (lv_at hl 2 rfl) ?_
  refine lv_iconst (v := (3 : Int32)) hx hb d_Printer_writeOffset_65 (by decide) ?_
  refine lv_icmp_ne (tgt := 79) hx hb d_Printer_writeOffset_66 rfl (fun hc => ?_) (fun hc => ?_)
  · have he := ih_f hc he
    refine lv_iload_n hx hb d_Printer_writeOffset_79 rfl (lv_at hl 2 rfl) ?_
    refine lv_iconst (v := (1 : Int32)) hx hb d_Printer_writeOffset_80 (by decide) ?_
    refine lv_icmp_ne (tgt := 89) hx hb d_Printer_writeOffset_81 rfl (fun hc => ?_) (fun hc => ?_)
    · have he := ih_f hc he
      refine lv_aload_n hx hb d_Printer_writeOffset_89 rfl (lv_at hl 0 rfl) ?_
      refine k_get S X us_Printer hP 0 rfl rfl 0 (by decide) gm_1_115 rfl d_Printer_writeOffset_90 ?_
      refine lv_iload hx hb d_Printer_writeOffset_93 (lv_at hl 3 rfl) ?_
      refine lv_iconst (v := (2 : Int32)) hx hb d_Printer_writeOffset_95 (by decide) ?_
      obtain ⟨u5, e6, he⟩ := ih_b he
      refine k_v (wr := [(a_t, .inr (6, [.ref a_t_draft, .ref a_t_nest]))]) (w1 := [(a_t_draft, .inr (1, [.ref a_t_draft_cells, .int u5.1])), (a_t_draft_cells, .inl (kk 1, 200, .inl u5.2))]) (w2 := [(a_t, .inr (6, [.ref a_t_draft, .ref a_t_nest])), (a_t_draft, .inr (1, [.ref a_t_draft_cells, .int u5.1])), (a_t_draft_cells, .inl (kk 1, 200, .inl u5.2))]) (r_V (As := [.int x4, .int (2 : Int32)]) S X hA hP hD hS (c_Row_putNumber l D kk st a_t_draft a_t_draft_cells _ 200 u3.1 u3.2 x4 (2 : Int32) u5 e6) gm_3_135 gm_3_132 gm_3_133 gm_3_134 gm_1_2 ⟨rfl, rfl, by decide, by decide⟩ kd_Row_putNumber [1, 2] rfl rfl rfl 1 1 rfl rfl rfl rfl hl.1 rfl (Nat.le_of_ble_eq_true rfl) d_Printer_writeOffset_96 ⟨Nat.zero_le _, Nat.zero_le _⟩) hA hP hD hS [1, 2] [0] [0, 1, 2] rfl rfl rfl (by decide) rfl rfl rfl (fun H locs hP hD hS => ?_)
      cases he
      exact k_vre hx hb hr hlk X hP hD hS d_Printer_writeOffset_99
    · have he := ih_t hc he
      refine lv_iload hx hb d_Printer_writeOffset_84 (lv_at hl 3 rfl) ?_
      refine lv_if_eq (tgt := 99) hx hb d_Printer_writeOffset_86 rfl (fun hc => ?_) (fun hc => ?_)
      · have he := ih_t hc he
        cases he
        exact k_vre hx hb hr hlk X hP hD hS d_Printer_writeOffset_99
      · have he := ih_f hc he
        refine lv_aload_n hx hb d_Printer_writeOffset_89 rfl (lv_at hl 0 rfl) ?_
        refine k_get S X us_Printer hP 0 rfl rfl 0 (by decide) gm_1_115 rfl d_Printer_writeOffset_90 ?_
        refine lv_iload hx hb d_Printer_writeOffset_93 (lv_at hl 3 rfl) ?_
        refine lv_iconst (v := (2 : Int32)) hx hb d_Printer_writeOffset_95 (by decide) ?_
        obtain ⟨u7, e8, he⟩ := ih_b he
        refine k_v (wr := [(a_t, .inr (6, [.ref a_t_draft, .ref a_t_nest]))]) (w1 := [(a_t_draft, .inr (1, [.ref a_t_draft_cells, .int u7.1])), (a_t_draft_cells, .inl (kk 1, 200, .inl u7.2))]) (w2 := [(a_t, .inr (6, [.ref a_t_draft, .ref a_t_nest])), (a_t_draft, .inr (1, [.ref a_t_draft_cells, .int u7.1])), (a_t_draft_cells, .inl (kk 1, 200, .inl u7.2))]) (r_V (As := [.int x4, .int (2 : Int32)]) S X hA hP hD hS (c_Row_putNumber l D kk st a_t_draft a_t_draft_cells _ 200 u3.1 u3.2 x4 (2 : Int32) u7 e8) gm_3_135 gm_3_132 gm_3_133 gm_3_134 gm_1_2 ⟨rfl, rfl, by decide, by decide⟩ kd_Row_putNumber [1, 2] rfl rfl rfl 1 1 rfl rfl rfl rfl hl.1 rfl (Nat.le_of_ble_eq_true rfl) d_Printer_writeOffset_96 ⟨Nat.zero_le _, Nat.zero_le _⟩) hA hP hD hS [1, 2] [0] [0, 1, 2] rfl rfl rfl (by decide) rfl rfl rfl (fun H locs hP hD hS => ?_)
        cases he
        exact k_vre hx hb hr hlk X hP hD hS d_Printer_writeOffset_99
  · have he := ih_t hc he
    refine lv_aload_n hx hb d_Printer_writeOffset_69 rfl (lv_at hl 0 rfl) ?_
    refine k_get S X us_Printer hP 0 rfl rfl 0 (by decide) gm_1_115 rfl d_Printer_writeOffset_70 ?_
    refine lv_bipush (v := (58 : Int32)) hx hb d_Printer_writeOffset_73 (by decide) ?_
    obtain ⟨u9, e10, he⟩ := ih_b he
    refine k_i (wr := [(a_t, .inr (6, [.ref a_t_draft, .ref a_t_nest]))]) (w1 := [(a_t_draft, .inr (1, [.ref a_t_draft_cells, .int u9.2.1])), (a_t_draft_cells, .inl (kk 1, 200, .inl u9.2.2))]) (w2 := [(a_t, .inr (6, [.ref a_t_draft, .ref a_t_nest])), (a_t_draft, .inr (1, [.ref a_t_draft_cells, .int u9.2.1])), (a_t_draft_cells, .inl (kk 1, 200, .inl u9.2.2))]) (r_V (As := [.int (58 : Int32)]) S X hA hP hD hS (c_Row_put l D kk st a_t_draft a_t_draft_cells _ 200 u3.1 u3.2 (58 : Int32) u9 e10) gm_2_57 gm_3_76 gm_2_55 gm_2_56 gm_1_2 ⟨rfl, rfl, by decide, by decide⟩ kd_Row_put [1, 2] rfl rfl rfl 1 1 rfl rfl rfl rfl hl.1 rfl (Nat.le_of_ble_eq_true rfl) d_Printer_writeOffset_75 ⟨Nat.zero_le _, Nat.zero_le _⟩) hA hP hD hS [1, 2] [0] [0, 1, 2] rfl rfl rfl (by decide) rfl rfl rfl (fun H locs hP hD hS => ?_)
    refine lv_pop hx hb d_Printer_writeOffset_78 rfl ?_
    refine lv_iload_n hx hb d_Printer_writeOffset_79 rfl (lv_at hl 2 rfl) ?_
    refine lv_iconst (v := (1 : Int32)) hx hb d_Printer_writeOffset_80 (by decide) ?_
    refine lv_icmp_ne (tgt := 89) hx hb d_Printer_writeOffset_81 rfl (fun hc => ?_) (fun hc => ?_)
    · have he := ih_f hc he
      refine lv_aload_n hx hb d_Printer_writeOffset_89 rfl (lv_at hl 0 rfl) ?_
      refine k_get S X us_Printer hP 0 rfl rfl 0 (by decide) gm_1_115 rfl d_Printer_writeOffset_90 ?_
      refine lv_iload hx hb d_Printer_writeOffset_93 (lv_at hl 3 rfl) ?_
      refine lv_iconst (v := (2 : Int32)) hx hb d_Printer_writeOffset_95 (by decide) ?_
      obtain ⟨u11, e12, he⟩ := ih_b he
      refine k_v (wr := [(a_t, .inr (6, [.ref a_t_draft, .ref a_t_nest]))]) (w1 := [(a_t_draft, .inr (1, [.ref a_t_draft_cells, .int u11.1])), (a_t_draft_cells, .inl (kk 1, 200, .inl u11.2))]) (w2 := [(a_t, .inr (6, [.ref a_t_draft, .ref a_t_nest])), (a_t_draft, .inr (1, [.ref a_t_draft_cells, .int u11.1])), (a_t_draft_cells, .inl (kk 1, 200, .inl u11.2))]) (r_V (As := [.int x4, .int (2 : Int32)]) S X hA hP hD hS (c_Row_putNumber l D kk st a_t_draft a_t_draft_cells _ 200 u9.2.1 u9.2.2 x4 (2 : Int32) u11 e12) gm_3_135 gm_3_132 gm_3_133 gm_3_134 gm_1_2 ⟨rfl, rfl, by decide, by decide⟩ kd_Row_putNumber [1, 2] rfl rfl rfl 1 1 rfl rfl rfl rfl hl.1 rfl (Nat.le_of_ble_eq_true rfl) d_Printer_writeOffset_96 ⟨Nat.zero_le _, Nat.zero_le _⟩) hA hP hD hS [1, 2] [0] [0, 1, 2] rfl rfl rfl (by decide) rfl rfl rfl (fun H locs hP hD hS => ?_)
      cases he
      exact k_vre hx hb hr hlk X hP hD hS d_Printer_writeOffset_99
    · have he := ih_t hc he
      refine lv_iload hx hb d_Printer_writeOffset_84 (lv_at hl 3 rfl) ?_
      refine lv_if_eq (tgt := 99) hx hb d_Printer_writeOffset_86 rfl (fun hc => ?_) (fun hc => ?_)
      · have he := ih_t hc he
        cases he
        exact k_vre hx hb hr hlk X hP hD hS d_Printer_writeOffset_99
      · have he := ih_f hc he
        refine lv_aload_n hx hb d_Printer_writeOffset_89 rfl (lv_at hl 0 rfl) ?_
        refine k_get S X us_Printer hP 0 rfl rfl 0 (by decide) gm_1_115 rfl d_Printer_writeOffset_90 ?_
        refine lv_iload hx hb d_Printer_writeOffset_93 (lv_at hl 3 rfl) ?_
        refine lv_iconst (v := (2 : Int32)) hx hb d_Printer_writeOffset_95 (by decide) ?_
        obtain ⟨u13, e14, he⟩ := ih_b he
        refine k_v (wr := [(a_t, .inr (6, [.ref a_t_draft, .ref a_t_nest]))]) (w1 := [(a_t_draft, .inr (1, [.ref a_t_draft_cells, .int u13.1])), (a_t_draft_cells, .inl (kk 1, 200, .inl u13.2))]) (w2 := [(a_t, .inr (6, [.ref a_t_draft, .ref a_t_nest])), (a_t_draft, .inr (1, [.ref a_t_draft_cells, .int u13.1])), (a_t_draft_cells, .inl (kk 1, 200, .inl u13.2))]) (r_V (As := [.int x4, .int (2 : Int32)]) S X hA hP hD hS (c_Row_putNumber l D kk st a_t_draft a_t_draft_cells _ 200 u9.2.1 u9.2.2 x4 (2 : Int32) u13 e14) gm_3_135 gm_3_132 gm_3_133 gm_3_134 gm_1_2 ⟨rfl, rfl, by decide, by decide⟩ kd_Row_putNumber [1, 2] rfl rfl rfl 1 1 rfl rfl rfl rfl hl.1 rfl (Nat.le_of_ble_eq_true rfl) d_Printer_writeOffset_96 ⟨Nat.zero_le _, Nat.zero_le _⟩) hA hP hD hS [1, 2] [0] [0, 1, 2] rfl rfl rfl (by decide) rfl rfl rfl (fun H locs hP hD hS => ?_)
        cases he
        exact k_vre hx hb hr hlk X hP hD hS d_Printer_writeOffset_99
set_option maxHeartbeats 4000000 in
set_option maxRecDepth 100000 in
theorem w_Printer_writeOffset_21 {p : Program} {l : Launch} {e : Env} {s : State} {m : MethodId} {args : Array Value} {below : List Frame} {meth : Method} {c : Code} {A : Nat → Prop} {D : va_G} {kk : Nat → ClassId} {st : Nat → Nat} (a_t a_t_draft a_t_draft_cells a_t_nest : Nat) (t_draft_size : Int32) (t_draft_cells : Nat → Int32) (x1 : Int32) (x3 : Int32) (o : Int32 × (Nat → Int32)) (S : CallFix p m c b_Printer_writeOffset 5 s args GW y_Printer_writeOffset.cls) (hr : meth.sig.returnType = none) (hlk : meth.locks = false) (hA : ∀ q, s.heap.size ≤ q → A q) (X : KX D kk st A s) (H : Heap) (locs : List Loc) (ls : Array Slot) (he : jn_Printer_writeOffset_21 t_draft_size t_draft_cells x1 x3 = some o) (hl : lv_has ls 5 [(0, .ref a_t), (1, .int x1), (3, .int x3)]) (hP : va_P D classes [(a_t, .inr (6, [.ref a_t_draft, .ref a_t_nest])), (a_t_draft, .inr (1, [.ref a_t_draft_cells, .int t_draft_size])), (a_t_draft_cells, .inl (kk 1, 200, .inl t_draft_cells))] H) (hD : va_D A [(a_t, .inr (6, [.ref a_t_draft, .ref a_t_nest])), (a_t_draft, .inr (1, [.ref a_t_draft_cells, .int t_draft_size])), (a_t_draft_cells, .inl (kk 1, 200, .inl t_draft_cells))]) (hS : va_S A s.heap H locs) : W p l e rm_Printer_writeOffset s m args below meth c H locs 0 0 (MQ below (KQv D kk [(a_t, .inr (6, [.ref a_t_draft, .ref a_t_nest])), (a_t_draft, .inr (1, [.ref a_t_draft_cells, .int o.1])), (a_t_draft_cells, .inl (kk 1, 200, .inl o.2))] A) args s 0 0 A) (F0 m 21 ls []) := by
  have hx := S.1
  have hb := S.2.1
  unfold jn_Printer_writeOffset_21 at he
  refine lv_iload_n hx hb d_Printer_writeOffset_21 rfl (lv_at hl 1 rfl) ?_
  refine va_mabs hx hb (by rw [S.2.2.1]; exact hl.1.symm) S.2.2.2.1 (S.2.2.2.2 _ gm_3_136) (S.2.2.2.2 _ gm_3_6) (S.2.2.2.2 _ gm_1_11) (S.2.2.2.2 _ gm_3_7) (by decide) (Nat.le_of_ble_eq_true rfl) (Nat.zero_le _) (Nat.zero_le _) d_Printer_writeOffset_22 ?_
  refine lv_bipush (v := (60 : Int32)) hx hb d_Printer_writeOffset_25 (by decide) ?_
  refine lv_irem hx hb d_Printer_writeOffset_27 (by decide) ?_
  refine lv_istore hx hb d_Printer_writeOffset_28 hl (by decide) rfl (fun ls hl => ?_)
  have hl : lv_has ls 5 [(4, .int ((if 0 ≤ x1 then x1 else 0 - x1) - (if 0 ≤ x1 then x1 else 0 - x1) / (60 : Int32) * (60 : Int32))), (0, .ref a_t), (1, .int x1), (3, .int x3)] := hl
  refine lv_aload_n hx hb d_Printer_writeOffset_30 rfl (lv_at hl 1 rfl) ?_
  refine k_get S X us_Printer hP 0 rfl rfl 0 (by decide) gm_1_115 rfl d_Printer_writeOffset_31 ?_
  refine lv_iload_n hx hb d_Printer_writeOffset_34 rfl (lv_at hl 2 rfl) ?_
  refine lv_if_ge (tgt := 43) hx hb d_Printer_writeOffset_35 rfl (fun hc => ?_) (fun hc => ?_)
  · have he := ih_t hc he
    refine lv_bipush (v := (43 : Int32)) hx hb d_Printer_writeOffset_43 (by decide) ?_
    have hl : lv_has ls 5 [(0, .ref a_t), (1, .int x1), (3, .int x3), (4, .int ((if 0 ≤ x1 then x1 else 0 - x1) - (if 0 ≤ x1 then x1 else 0 - x1) / (60 : Int32) * (60 : Int32)))] := lv_sub hl [1, 2, 3, 0] rfl
    exact w_Printer_writeOffset_45 a_t a_t_draft a_t_draft_cells a_t_nest t_draft_size t_draft_cells x1 x3 ((if 0 ≤ x1 then x1 else 0 - x1) - (if 0 ≤ x1 then x1 else 0 - x1) / (60 : Int32) * (60 : Int32)) (43 : Int32) o S hr hlk hA X _ _ ls he hl hP hD hS
  · have he := ih_f hc he
    refine lv_bipush (v := (45 : Int32)) hx hb d_Printer_writeOffset_38 (by decide) ?_
    refine lv_goto (tgt := 45) hx hb d_Printer_writeOffset_40 rfl ?_
    have hl : lv_has ls 5 [(0, .ref a_t), (1, .int x1), (3, .int x3), (4, .int ((if 0 ≤ x1 then x1 else 0 - x1) - (if 0 ≤ x1 then x1 else 0 - x1) / (60 : Int32) * (60 : Int32)))] := lv_sub hl [1, 2, 3, 0] rfl
    exact w_Printer_writeOffset_45 a_t a_t_draft a_t_draft_cells a_t_nest t_draft_size t_draft_cells x1 x3 ((if 0 ≤ x1 then x1 else 0 - x1) - (if 0 ≤ x1 then x1 else 0 - x1) / (60 : Int32) * (60 : Int32)) (45 : Int32) o S hr hlk hA X _ _ ls he hl hP hD hS
set_option maxHeartbeats 4000000 in
set_option maxRecDepth 100000 in
theorem c_Printer_writeOffset (l : Launch) (D : va_G) (kk : Nat → ClassId) (st : Nat → Nat) (a_t a_t_draft a_t_draft_cells a_t_nest : Nat) (sz : Nat) (t_draft_size : Int32) (t_draft_cells : Nat → Int32) (x1 : Int32) (x2 : Int32) (x3 : Int32) (o : Int32 × (Nat → Int32)) (he : f_Printer_writeOffset t_draft_size t_draft_cells x1 x2 x3 = some o) : Met l y_Printer_writeOffset (Cond.code y_Printer_writeOffset b_Printer_writeOffset 5 none :: GW) rm_Printer_writeOffset (KPc D kk st [.ref a_t, .int x1, .int x2, .int x3] [(a_t, .inr (6, [.ref a_t_draft, .ref a_t_nest])), (a_t_draft, .inr (1, [.ref a_t_draft_cells, .int t_draft_size])), (a_t_draft_cells, .inl (kk 1, 200, .inl t_draft_cells))] sz) (KQv D kk [(a_t, .inr (6, [.ref a_t_draft, .ref a_t_nest])), (a_t_draft, .inr (1, [.ref a_t_draft_cells, .int o.1])), (a_t_draft_cells, .inl (kk 1, 200, .inl o.2))] (va_A [(a_t, .inr (6, [.ref a_t_draft, .ref a_t_nest])), (a_t_draft, .inr (1, [.ref a_t_draft_cells, .int t_draft_size])), (a_t_draft_cells, .inl (kk 1, 200, .inl t_draft_cells))] sz)) 0 0 (va_A [(a_t, .inr (6, [.ref a_t_draft, .ref a_t_nest])), (a_t_draft, .inr (1, [.ref a_t_draft_cells, .int t_draft_size])), (a_t_draft_cells, .inl (kk 1, 200, .inl t_draft_cells))] sz) := by
  refine k_start (Qc := fun A => KQv D kk [(a_t, .inr (6, [.ref a_t_draft, .ref a_t_nest])), (a_t_draft, .inr (1, [.ref a_t_draft_cells, .int o.1])), (a_t_draft_cells, .inl (kk 1, 200, .inl o.2))] A) (by decide) (Nat.le_of_ble_eq_true rfl) ?_
  intro p e s m below meth c A ls S hnm hr hlk hA X hP hD hS hl
  have hl : lv_has ls 5 [(0, .ref a_t), (1, .int x1), (2, .int x2), (3, .int x3)] := hl
  have hx := S.1
  have hb := S.2.1
  unfold f_Printer_writeOffset at he
  refine lv_iload_n hx hb d_Printer_writeOffset_0 rfl (lv_at hl 2 rfl) ?_
  refine lv_bipush (v := (13 : Int32)) hx hb d_Printer_writeOffset_1 (by decide) ?_
  refine lv_icmp_ne (tgt := 21) hx hb d_Printer_writeOffset_3 rfl (fun hc => ?_) (fun hc => ?_)
  · have he := ih_f hc he
    have hl : lv_has ls 5 [(0, .ref a_t), (1, .int x1), (3, .int x3)] := lv_sub hl [0, 1, 3] rfl
    exact w_Printer_writeOffset_21 a_t a_t_draft a_t_draft_cells a_t_nest t_draft_size t_draft_cells x1 x3 o S hr hlk hA X _ _ ls he hl hP hD hS
  · have he := ih_t hc he
    refine lv_iload_n hx hb d_Printer_writeOffset_6 rfl (lv_at hl 1 rfl) ?_
    refine lv_if_ne (tgt := 21) hx hb d_Printer_writeOffset_7 rfl (fun hc => ?_) (fun hc => ?_)
    · have he := ih_f hc he
      have hl : lv_has ls 5 [(0, .ref a_t), (1, .int x1), (3, .int x3)] := lv_sub hl [0, 1, 3] rfl
      exact w_Printer_writeOffset_21 a_t a_t_draft a_t_draft_cells a_t_nest t_draft_size t_draft_cells x1 x3 o S hr hlk hA X _ _ ls he hl hP hD hS
    · have he := ih_t hc he
      refine lv_aload_n hx hb d_Printer_writeOffset_10 rfl (lv_at hl 0 rfl) ?_
      refine k_get S X us_Printer hP 0 rfl rfl 0 (by decide) gm_1_115 rfl d_Printer_writeOffset_11 ?_
      refine lv_bipush (v := (90 : Int32)) hx hb d_Printer_writeOffset_14 (by decide) ?_
      obtain ⟨u15, e16, he⟩ := ih_b he
      refine k_i (wr := [(a_t, .inr (6, [.ref a_t_draft, .ref a_t_nest]))]) (w1 := [(a_t_draft, .inr (1, [.ref a_t_draft_cells, .int u15.2.1])), (a_t_draft_cells, .inl (kk 1, 200, .inl u15.2.2))]) (w2 := [(a_t, .inr (6, [.ref a_t_draft, .ref a_t_nest])), (a_t_draft, .inr (1, [.ref a_t_draft_cells, .int u15.2.1])), (a_t_draft_cells, .inl (kk 1, 200, .inl u15.2.2))]) (r_V (As := [.int (90 : Int32)]) S X hA hP hD hS (c_Row_put l D kk st a_t_draft a_t_draft_cells _ 200 t_draft_size t_draft_cells (90 : Int32) u15 e16) gm_2_57 gm_3_76 gm_2_55 gm_2_56 gm_1_2 ⟨rfl, rfl, by decide, by decide⟩ kd_Row_put [1, 2] rfl rfl rfl 1 1 rfl rfl rfl rfl hl.1 rfl (Nat.le_of_ble_eq_true rfl) d_Printer_writeOffset_16 ⟨Nat.zero_le _, Nat.zero_le _⟩) hA hP hD hS [1, 2] [0] [0, 1, 2] rfl rfl rfl (by decide) rfl rfl rfl (fun H locs hP hD hS => ?_)
      refine lv_pop hx hb d_Printer_writeOffset_19 rfl ?_
      cases he
      exact k_vre hx hb hr hlk X hP hD hS d_Printer_writeOffset_20
abbrev rm_Printer_writePiece : Room := { frames := 6, cells := 0, slots := 0, locals := 135 }
set_option maxHeartbeats 4000000 in
set_option maxRecDepth 100000 in
theorem c_Printer_writePiece (l : Launch) (D : va_G) (kk : Nat → ClassId) (st : Nat → Nat) (a_t a_t_draft a_t_draft_cells a_q1 a_q1_values a_q2 a_q2_kinds a_q2_numbers a_t_nest : Nat) (sz : Nat) (t_draft_size : Int32) (t_draft_cells : Nat → Int32) (q1_seconds : Int64) (q1_parts : Int32) (q1_values : Nat → Int32) (q2_size : Int32) (q2_kinds : Nat → Int32) (q2_numbers : Nat → Int32) (x3 : Int32) (o : Int32 × (Nat → Int32)) (he : f_Printer_writePiece t_draft_size t_draft_cells q1_values q2_size q2_kinds q2_numbers x3 = some o) : Met l y_Printer_writePiece (Cond.code y_Printer_writePiece b_Printer_writePiece 6 none :: GW) rm_Printer_writePiece (KPc D kk st [.ref a_t, .ref a_q1, .ref a_q2, .int x3] [(a_t, .inr (6, [.ref a_t_draft, .ref a_t_nest])), (a_t_draft, .inr (1, [.ref a_t_draft_cells, .int t_draft_size])), (a_t_draft_cells, .inl (kk 1, 200, .inl t_draft_cells)), (a_q1, .inr (5, [.ref a_q1_values, .long q1_seconds, .int q1_parts])), (a_q1_values, .inl (kk 0, 14, .inl q1_values)), (a_q2, .inr (2, [.ref a_q2_kinds, .ref a_q2_numbers, .int q2_size])), (a_q2_kinds, .inl (kk 0, 20, .inl q2_kinds)), (a_q2_numbers, .inl (kk 0, 20, .inl q2_numbers))] sz) (KQv D kk [(a_t, .inr (6, [.ref a_t_draft, .ref a_t_nest])), (a_t_draft, .inr (1, [.ref a_t_draft_cells, .int o.1])), (a_t_draft_cells, .inl (kk 1, 200, .inl o.2)), (a_q1, .inr (5, [.ref a_q1_values, .long q1_seconds, .int q1_parts])), (a_q1_values, .inl (kk 0, 14, .inl q1_values)), (a_q2, .inr (2, [.ref a_q2_kinds, .ref a_q2_numbers, .int q2_size])), (a_q2_kinds, .inl (kk 0, 20, .inl q2_kinds)), (a_q2_numbers, .inl (kk 0, 20, .inl q2_numbers))] (va_A [(a_t, .inr (6, [.ref a_t_draft, .ref a_t_nest])), (a_t_draft, .inr (1, [.ref a_t_draft_cells, .int t_draft_size])), (a_t_draft_cells, .inl (kk 1, 200, .inl t_draft_cells)), (a_q1, .inr (5, [.ref a_q1_values, .long q1_seconds, .int q1_parts])), (a_q1_values, .inl (kk 0, 14, .inl q1_values)), (a_q2, .inr (2, [.ref a_q2_kinds, .ref a_q2_numbers, .int q2_size])), (a_q2_kinds, .inl (kk 0, 20, .inl q2_kinds)), (a_q2_numbers, .inl (kk 0, 20, .inl q2_numbers))] sz)) 0 0 (va_A [(a_t, .inr (6, [.ref a_t_draft, .ref a_t_nest])), (a_t_draft, .inr (1, [.ref a_t_draft_cells, .int t_draft_size])), (a_t_draft_cells, .inl (kk 1, 200, .inl t_draft_cells)), (a_q1, .inr (5, [.ref a_q1_values, .long q1_seconds, .int q1_parts])), (a_q1_values, .inl (kk 0, 14, .inl q1_values)), (a_q2, .inr (2, [.ref a_q2_kinds, .ref a_q2_numbers, .int q2_size])), (a_q2_kinds, .inl (kk 0, 20, .inl q2_kinds)), (a_q2_numbers, .inl (kk 0, 20, .inl q2_numbers))] sz) := by
  refine k_start (Qc := fun A => KQv D kk [(a_t, .inr (6, [.ref a_t_draft, .ref a_t_nest])), (a_t_draft, .inr (1, [.ref a_t_draft_cells, .int o.1])), (a_t_draft_cells, .inl (kk 1, 200, .inl o.2)), (a_q1, .inr (5, [.ref a_q1_values, .long q1_seconds, .int q1_parts])), (a_q1_values, .inl (kk 0, 14, .inl q1_values)), (a_q2, .inr (2, [.ref a_q2_kinds, .ref a_q2_numbers, .int q2_size])), (a_q2_kinds, .inl (kk 0, 20, .inl q2_kinds)), (a_q2_numbers, .inl (kk 0, 20, .inl q2_numbers))] A) (by decide) (Nat.le_of_ble_eq_true rfl) ?_
  intro p e s m below meth c A ls S hnm hr hlk hA X hP hD hS hl
  have hl : lv_has ls 6 [(0, .ref a_t), (1, .ref a_q1), (2, .ref a_q2), (3, .int x3)] := hl
  have hx := S.1
  have hb := S.2.1
  unfold f_Printer_writePiece at he
  refine lv_aload_n hx hb d_Printer_writePiece_0 rfl (lv_at hl 2 rfl) ?_
  refine lv_iload_n hx hb d_Printer_writePiece_1 rfl (lv_at hl 3 rfl) ?_
  obtain ⟨u1, e2, he⟩ := ih_b he
  refine k_io (r_V (As := [.int x3]) S X hA hP hD hS (c_Pattern_kind l D kk st a_q2 a_q2_kinds a_q2_numbers _ q2_size q2_kinds x3 u1 e2) gm_2_219 gm_3_59 gm_2_217 gm_2_218 gm_1_4 ⟨rfl, rfl, by decide, by decide⟩ kd_Pattern_kind [5, 6] rfl rfl rfl 5 2 rfl rfl rfl rfl hl.1 rfl (Nat.le_of_ble_eq_true rfl) d_Printer_writePiece_2 ⟨Nat.zero_le _, Nat.zero_le _⟩) hA hP hD hS [5, 6] rfl (fun H locs hP hS => ?_)
  refine lv_istore hx hb d_Printer_writePiece_5 hl (by decide) rfl (fun ls hl => ?_)
  have hl : lv_has ls 6 [(4, .int u1), (0, .ref a_t), (1, .ref a_q1), (2, .ref a_q2), (3, .int x3)] := hl
  refine lv_aload_n hx hb d_Printer_writePiece_7 rfl (lv_at hl 3 rfl) ?_
  refine lv_iload_n hx hb d_Printer_writePiece_8 rfl (lv_at hl 4 rfl) ?_
  obtain ⟨u3, e4, he⟩ := ih_b he
  refine k_io (r_V (As := [.int x3]) S X hA hP hD hS (c_Pattern_number l D kk st a_q2 a_q2_numbers a_q2_kinds _ q2_size q2_numbers x3 u3 e4) gm_2_223 gm_3_60 gm_2_221 gm_2_222 gm_1_4 ⟨rfl, rfl, by decide, by decide⟩ kd_Pattern_number [5, 7] rfl rfl rfl 5 2 rfl rfl rfl rfl hl.1 rfl (Nat.le_of_ble_eq_true rfl) d_Printer_writePiece_9 ⟨Nat.zero_le _, Nat.zero_le _⟩) hA hP hD hS [5, 7] rfl (fun H locs hP hS => ?_)
  refine lv_istore hx hb d_Printer_writePiece_12 hl (by decide) rfl (fun ls hl => ?_)
  have hl : lv_has ls 6 [(5, .int u3), (4, .int u1), (0, .ref a_t), (1, .ref a_q1), (2, .ref a_q2), (3, .int x3)] := hl
  refine lv_iload hx hb d_Printer_writePiece_14 (lv_at hl 1 rfl) ?_
  refine lv_bipush (v := (15 : Int32)) hx hb d_Printer_writePiece_16 (by decide) ?_
  refine lv_icmp_ne (tgt := 35) hx hb d_Printer_writePiece_18 rfl (fun hc => ?_) (fun hc => ?_)
  · have he := ih_f hc he
    refine lv_aload_n hx hb d_Printer_writePiece_35 rfl (lv_at hl 4 rfl) ?_
    refine lv_iload_n hx hb d_Printer_writePiece_36 rfl (lv_at hl 5 rfl) ?_
    obtain ⟨u5, e6, he⟩ := ih_b he
    refine k_io (r_V (As := [.int x3]) S X hA hP hD hS (c_Pattern_isName l D kk st a_q2 a_q2_kinds a_q2_numbers _ q2_size q2_kinds q2_numbers x3 u5 e6) gm_3_80 gm_3_77 gm_3_78 gm_3_79 gm_1_4 ⟨rfl, rfl, by decide, by decide⟩ kd_Pattern_isName [5, 6, 7] rfl rfl rfl 5 2 rfl rfl rfl rfl hl.1 rfl (Nat.le_of_ble_eq_true rfl) d_Printer_writePiece_37 ⟨Nat.zero_le _, Nat.zero_le _⟩) hA hP hD hS [5, 6, 7] rfl (fun H locs hP hS => ?_)
    refine lv_if_eq (tgt := 60) hx hb d_Printer_writePiece_40 rfl (fun hc => ?_) (fun hc => ?_)
    · have he := ih_t hc he
      refine lv_iload hx hb d_Printer_writePiece_60 (lv_at hl 1 rfl) ?_
      obtain ⟨u7, e8, he⟩ := ih_b he
      refine k_io (r_SN (As := [.int u1]) S X hA hP hD hS (c_SkeletonClock_isYearField l D kk st _ u1 u7 e8) gm_3_124 gm_3_122 gm_3_123 gm_1_1 ⟨rfl, rfl, by decide, by decide⟩ kd_SkeletonClock_isYearField [] rfl rfl rfl rfl hl.1 rfl (Nat.le_of_ble_eq_true rfl) d_Printer_writePiece_62 ⟨Nat.zero_le _, Nat.zero_le _⟩) hA hP hD hS [] rfl (fun H locs hP hS => ?_)
      refine lv_if_eq (tgt := 83) hx hb d_Printer_writePiece_65 rfl (fun hc => ?_) (fun hc => ?_)
      · have he := ih_t hc he
        refine lv_iload hx hb d_Printer_writePiece_83 (lv_at hl 1 rfl) ?_
        refine lv_bipush (v := (12 : Int32)) hx hb d_Printer_writePiece_85 (by decide) ?_
        refine lv_icmp_ne (tgt := 105) hx hb d_Printer_writePiece_87 rfl (fun hc => ?_) (fun hc => ?_)
        · have he := ih_f hc he
          refine lv_iload hx hb d_Printer_writePiece_105 (lv_at hl 1 rfl) ?_
          refine lv_bipush (v := (13 : Int32)) hx hb d_Printer_writePiece_107 (by decide) ?_
          refine lv_icmp_eq (tgt := 119) hx hb d_Printer_writePiece_109 rfl (fun hc => ?_) (fun hc => ?_)
          · have he := ih_t hc he
            refine lv_aload_n hx hb d_Printer_writePiece_119 rfl (lv_at hl 2 rfl) ?_
            refine lv_aload_n hx hb d_Printer_writePiece_120 rfl (lv_at hl 3 rfl) ?_
            refine lv_bipush (v := (13 : Int32)) hx hb d_Printer_writePiece_121 (by decide) ?_
            obtain ⟨u9, e10, he⟩ := ih_b he
            refine k_io (r_V (As := [.int (13 : Int32)]) S X hA hP hD hS (c_Moment_value l D kk st a_q1 a_q1_values _ q1_seconds q1_parts q1_values (13 : Int32) u9 e10) gm_3_37 gm_3_81 gm_3_35 gm_3_36 gm_1_10 ⟨rfl, rfl, by decide, by decide⟩ kd_Moment_value [3, 4] rfl rfl rfl 3 5 rfl rfl rfl rfl hl.1 rfl (Nat.le_of_ble_eq_true rfl) d_Printer_writePiece_123 ⟨Nat.zero_le _, Nat.zero_le _⟩) hA hP hD hS [3, 4] rfl (fun H locs hP hS => ?_)
            refine lv_iload hx hb d_Printer_writePiece_126 (lv_at hl 1 rfl) ?_
            refine lv_iload hx hb d_Printer_writePiece_128 (lv_at hl 0 rfl) ?_
            obtain ⟨u11, e12, he⟩ := ih_b he
            refine k_v (wr := [(a_q1, .inr (5, [.ref a_q1_values, .long q1_seconds, .int q1_parts])), (a_q1_values, .inl (kk 0, 14, .inl q1_values)), (a_q2, .inr (2, [.ref a_q2_kinds, .ref a_q2_numbers, .int q2_size])), (a_q2_kinds, .inl (kk 0, 20, .inl q2_kinds)), (a_q2_numbers, .inl (kk 0, 20, .inl q2_numbers))]) (w1 := [(a_t, .inr (6, [.ref a_t_draft, .ref a_t_nest])), (a_t_draft, .inr (1, [.ref a_t_draft_cells, .int u11.1])), (a_t_draft_cells, .inl (kk 1, 200, .inl u11.2))]) (w2 := [(a_t, .inr (6, [.ref a_t_draft, .ref a_t_nest])), (a_t_draft, .inr (1, [.ref a_t_draft_cells, .int u11.1])), (a_t_draft_cells, .inl (kk 1, 200, .inl u11.2)), (a_q1, .inr (5, [.ref a_q1_values, .long q1_seconds, .int q1_parts])), (a_q1_values, .inl (kk 0, 14, .inl q1_values)), (a_q2, .inr (2, [.ref a_q2_kinds, .ref a_q2_numbers, .int q2_size])), (a_q2_kinds, .inl (kk 0, 20, .inl q2_kinds)), (a_q2_numbers, .inl (kk 0, 20, .inl q2_numbers))]) (r_V (As := [.int u9, .int u1, .int u3]) S X hA hP hD hS (c_Printer_writeOffset l D kk st a_t a_t_draft a_t_draft_cells a_t_nest _ t_draft_size t_draft_cells u9 u1 u3 u11 e12) gm_3_144 gm_3_141 gm_3_143 gm_p1_14 gm_1_5 ⟨rfl, rfl, by decide, by decide⟩ kd_Printer_writeOffset [0, 1, 2] rfl rfl rfl 0 6 rfl rfl rfl rfl hl.1 rfl (Nat.le_of_ble_eq_true rfl) d_Printer_writePiece_130 ⟨Nat.zero_le _, Nat.zero_le _⟩) hA hP hD hS [0, 1, 2] [3, 4, 5, 6, 7] [5, 6, 7, 0, 1, 2, 3, 4] rfl rfl rfl (by decide) rfl rfl rfl (fun H locs hP hD hS => ?_)
            refine lv_goto (tgt := 151) hx hb d_Printer_writePiece_133 rfl ?_
            cases he
            exact k_vre hx hb hr hlk X hP hD hS d_Printer_writePiece_151
          · have he := ih_f hc he
            refine lv_iload hx hb d_Printer_writePiece_112 (lv_at hl 1 rfl) ?_
            refine lv_bipush (v := (14 : Int32)) hx hb d_Printer_writePiece_114 (by decide) ?_
            refine lv_icmp_ne (tgt := 136) hx hb d_Printer_writePiece_116 rfl (fun hc => ?_) (fun hc => ?_)
            · have he := ih_f hc he
              refine lv_aload_n hx hb d_Printer_writePiece_136 rfl (lv_at hl 2 rfl) ?_
              refine k_get S X us_Printer hP 0 rfl rfl 0 (by decide) gm_1_115 rfl d_Printer_writePiece_137 ?_
              refine lv_aload_n hx hb d_Printer_writePiece_140 rfl (lv_at hl 3 rfl) ?_
              refine lv_iload hx hb d_Printer_writePiece_141 (lv_at hl 1 rfl) ?_
              obtain ⟨u13, e14, he⟩ := ih_b he
              refine k_io (r_V (As := [.int u1]) S X hA hP hD hS (c_Moment_value l D kk st a_q1 a_q1_values _ q1_seconds q1_parts q1_values u1 u13 e14) gm_3_37 gm_3_81 gm_3_35 gm_3_36 gm_1_10 ⟨rfl, rfl, by decide, by decide⟩ kd_Moment_value [3, 4] rfl rfl rfl 3 5 rfl rfl rfl rfl hl.1 rfl (Nat.le_of_ble_eq_true rfl) d_Printer_writePiece_143 ⟨Nat.zero_le _, Nat.zero_le _⟩) hA hP hD hS [3, 4] rfl (fun H locs hP hS => ?_)
              refine lv_iload hx hb d_Printer_writePiece_146 (lv_at hl 0 rfl) ?_
              obtain ⟨u15, e16, he⟩ := ih_b he
              refine k_v (wr := [(a_t, .inr (6, [.ref a_t_draft, .ref a_t_nest])), (a_q1, .inr (5, [.ref a_q1_values, .long q1_seconds, .int q1_parts])), (a_q1_values, .inl (kk 0, 14, .inl q1_values)), (a_q2, .inr (2, [.ref a_q2_kinds, .ref a_q2_numbers, .int q2_size])), (a_q2_kinds, .inl (kk 0, 20, .inl q2_kinds)), (a_q2_numbers, .inl (kk 0, 20, .inl q2_numbers))]) (w1 := [(a_t_draft, .inr (1, [.ref a_t_draft_cells, .int u15.1])), (a_t_draft_cells, .inl (kk 1, 200, .inl u15.2))]) (w2 := [(a_t, .inr (6, [.ref a_t_draft, .ref a_t_nest])), (a_t_draft, .inr (1, [.ref a_t_draft_cells, .int u15.1])), (a_t_draft_cells, .inl (kk 1, 200, .inl u15.2)), (a_q1, .inr (5, [.ref a_q1_values, .long q1_seconds, .int q1_parts])), (a_q1_values, .inl (kk 0, 14, .inl q1_values)), (a_q2, .inr (2, [.ref a_q2_kinds, .ref a_q2_numbers, .int q2_size])), (a_q2_kinds, .inl (kk 0, 20, .inl q2_kinds)), (a_q2_numbers, .inl (kk 0, 20, .inl q2_numbers))]) (r_V (As := [.int u13, .int u3]) S X hA hP hD hS (c_Row_putNumber l D kk st a_t_draft a_t_draft_cells _ 200 t_draft_size t_draft_cells u13 u3 u15 e16) gm_3_135 gm_3_132 gm_3_133 gm_3_134 gm_1_2 ⟨rfl, rfl, by decide, by decide⟩ kd_Row_putNumber [1, 2] rfl rfl rfl 1 1 rfl rfl rfl rfl hl.1 rfl (Nat.le_of_ble_eq_true rfl) d_Printer_writePiece_148 ⟨Nat.zero_le _, Nat.zero_le _⟩) hA hP hD hS [1, 2] [0, 3, 4, 5, 6, 7] [0, 6, 7, 1, 2, 3, 4, 5] rfl rfl rfl (by decide) rfl rfl rfl (fun H locs hP hD hS => ?_)
              cases he
              exact k_vre hx hb hr hlk X hP hD hS d_Printer_writePiece_151
            · have he := ih_t hc he
              refine lv_aload_n hx hb d_Printer_writePiece_119 rfl (lv_at hl 2 rfl) ?_
              refine lv_aload_n hx hb d_Printer_writePiece_120 rfl (lv_at hl 3 rfl) ?_
              refine lv_bipush (v := (13 : Int32)) hx hb d_Printer_writePiece_121 (by decide) ?_
              obtain ⟨u17, e18, he⟩ := ih_b he
              refine k_io (r_V (As := [.int (13 : Int32)]) S X hA hP hD hS (c_Moment_value l D kk st a_q1 a_q1_values _ q1_seconds q1_parts q1_values (13 : Int32) u17 e18) gm_3_37 gm_3_81 gm_3_35 gm_3_36 gm_1_10 ⟨rfl, rfl, by decide, by decide⟩ kd_Moment_value [3, 4] rfl rfl rfl 3 5 rfl rfl rfl rfl hl.1 rfl (Nat.le_of_ble_eq_true rfl) d_Printer_writePiece_123 ⟨Nat.zero_le _, Nat.zero_le _⟩) hA hP hD hS [3, 4] rfl (fun H locs hP hS => ?_)
              refine lv_iload hx hb d_Printer_writePiece_126 (lv_at hl 1 rfl) ?_
              refine lv_iload hx hb d_Printer_writePiece_128 (lv_at hl 0 rfl) ?_
              obtain ⟨u19, e20, he⟩ := ih_b he
              refine k_v (wr := [(a_q1, .inr (5, [.ref a_q1_values, .long q1_seconds, .int q1_parts])), (a_q1_values, .inl (kk 0, 14, .inl q1_values)), (a_q2, .inr (2, [.ref a_q2_kinds, .ref a_q2_numbers, .int q2_size])), (a_q2_kinds, .inl (kk 0, 20, .inl q2_kinds)), (a_q2_numbers, .inl (kk 0, 20, .inl q2_numbers))]) (w1 := [(a_t, .inr (6, [.ref a_t_draft, .ref a_t_nest])), (a_t_draft, .inr (1, [.ref a_t_draft_cells, .int u19.1])), (a_t_draft_cells, .inl (kk 1, 200, .inl u19.2))]) (w2 := [(a_t, .inr (6, [.ref a_t_draft, .ref a_t_nest])), (a_t_draft, .inr (1, [.ref a_t_draft_cells, .int u19.1])), (a_t_draft_cells, .inl (kk 1, 200, .inl u19.2)), (a_q1, .inr (5, [.ref a_q1_values, .long q1_seconds, .int q1_parts])), (a_q1_values, .inl (kk 0, 14, .inl q1_values)), (a_q2, .inr (2, [.ref a_q2_kinds, .ref a_q2_numbers, .int q2_size])), (a_q2_kinds, .inl (kk 0, 20, .inl q2_kinds)), (a_q2_numbers, .inl (kk 0, 20, .inl q2_numbers))]) (r_V (As := [.int u17, .int u1, .int u3]) S X hA hP hD hS (c_Printer_writeOffset l D kk st a_t a_t_draft a_t_draft_cells a_t_nest _ t_draft_size t_draft_cells u17 u1 u3 u19 e20) gm_3_144 gm_3_141 gm_3_143 gm_p1_14 gm_1_5 ⟨rfl, rfl, by decide, by decide⟩ kd_Printer_writeOffset [0, 1, 2] rfl rfl rfl 0 6 rfl rfl rfl rfl hl.1 rfl (Nat.le_of_ble_eq_true rfl) d_Printer_writePiece_130 ⟨Nat.zero_le _, Nat.zero_le _⟩) hA hP hD hS [0, 1, 2] [3, 4, 5, 6, 7] [5, 6, 7, 0, 1, 2, 3, 4] rfl rfl rfl (by decide) rfl rfl rfl (fun H locs hP hD hS => ?_)
              refine lv_goto (tgt := 151) hx hb d_Printer_writePiece_133 rfl ?_
              cases he
              exact k_vre hx hb hr hlk X hP hD hS d_Printer_writePiece_151
        · have he := ih_t hc he
          refine lv_aload_n hx hb d_Printer_writePiece_90 rfl (lv_at hl 2 rfl) ?_
          refine lv_aload_n hx hb d_Printer_writePiece_91 rfl (lv_at hl 3 rfl) ?_
          refine lv_bipush (v := (12 : Int32)) hx hb d_Printer_writePiece_92 (by decide) ?_
          obtain ⟨u21, e22, he⟩ := ih_b he
          refine k_io (r_V (As := [.int (12 : Int32)]) S X hA hP hD hS (c_Moment_value l D kk st a_q1 a_q1_values _ q1_seconds q1_parts q1_values (12 : Int32) u21 e22) gm_3_37 gm_3_81 gm_3_35 gm_3_36 gm_1_10 ⟨rfl, rfl, by decide, by decide⟩ kd_Moment_value [3, 4] rfl rfl rfl 3 5 rfl rfl rfl rfl hl.1 rfl (Nat.le_of_ble_eq_true rfl) d_Printer_writePiece_94 ⟨Nat.zero_le _, Nat.zero_le _⟩) hA hP hD hS [3, 4] rfl (fun H locs hP hS => ?_)
          refine lv_iload hx hb d_Printer_writePiece_97 (lv_at hl 0 rfl) ?_
          obtain ⟨u23, e24, he⟩ := ih_b he
          refine k_v (wr := [(a_q1, .inr (5, [.ref a_q1_values, .long q1_seconds, .int q1_parts])), (a_q1_values, .inl (kk 0, 14, .inl q1_values)), (a_q2, .inr (2, [.ref a_q2_kinds, .ref a_q2_numbers, .int q2_size])), (a_q2_kinds, .inl (kk 0, 20, .inl q2_kinds)), (a_q2_numbers, .inl (kk 0, 20, .inl q2_numbers))]) (w1 := [(a_t, .inr (6, [.ref a_t_draft, .ref a_t_nest])), (a_t_draft, .inr (1, [.ref a_t_draft_cells, .int u23.1])), (a_t_draft_cells, .inl (kk 1, 200, .inl u23.2))]) (w2 := [(a_t, .inr (6, [.ref a_t_draft, .ref a_t_nest])), (a_t_draft, .inr (1, [.ref a_t_draft_cells, .int u23.1])), (a_t_draft_cells, .inl (kk 1, 200, .inl u23.2)), (a_q1, .inr (5, [.ref a_q1_values, .long q1_seconds, .int q1_parts])), (a_q1_values, .inl (kk 0, 14, .inl q1_values)), (a_q2, .inr (2, [.ref a_q2_kinds, .ref a_q2_numbers, .int q2_size])), (a_q2_kinds, .inl (kk 0, 20, .inl q2_kinds)), (a_q2_numbers, .inl (kk 0, 20, .inl q2_numbers))]) (r_V (As := [.int u21, .int u3]) S X hA hP hD hS (c_Printer_writeNano l D kk st a_t a_t_draft a_t_draft_cells a_t_nest _ t_draft_size t_draft_cells u21 u3 u23 e24) gm_3_140 gm_3_137 gm_3_139 gm_p1_13 gm_1_5 ⟨rfl, rfl, by decide, by decide⟩ kd_Printer_writeNano [0, 1, 2] rfl rfl rfl 0 6 rfl rfl rfl rfl hl.1 rfl (Nat.le_of_ble_eq_true rfl) d_Printer_writePiece_99 ⟨Nat.zero_le _, Nat.zero_le _⟩) hA hP hD hS [0, 1, 2] [3, 4, 5, 6, 7] [5, 6, 7, 0, 1, 2, 3, 4] rfl rfl rfl (by decide) rfl rfl rfl (fun H locs hP hD hS => ?_)
          refine lv_goto (tgt := 151) hx hb d_Printer_writePiece_102 rfl ?_
          cases he
          exact k_vre hx hb hr hlk X hP hD hS d_Printer_writePiece_151
      · have he := ih_f hc he
        refine lv_aload_n hx hb d_Printer_writePiece_68 rfl (lv_at hl 2 rfl) ?_
        refine lv_aload_n hx hb d_Printer_writePiece_69 rfl (lv_at hl 3 rfl) ?_
        refine lv_iload hx hb d_Printer_writePiece_70 (lv_at hl 1 rfl) ?_
        obtain ⟨u25, e26, he⟩ := ih_b he
        refine k_io (r_V (As := [.int u1]) S X hA hP hD hS (c_Moment_value l D kk st a_q1 a_q1_values _ q1_seconds q1_parts q1_values u1 u25 e26) gm_3_37 gm_3_81 gm_3_35 gm_3_36 gm_1_10 ⟨rfl, rfl, by decide, by decide⟩ kd_Moment_value [3, 4] rfl rfl rfl 3 5 rfl rfl rfl rfl hl.1 rfl (Nat.le_of_ble_eq_true rfl) d_Printer_writePiece_72 ⟨Nat.zero_le _, Nat.zero_le _⟩) hA hP hD hS [3, 4] rfl (fun H locs hP hS => ?_)
        refine lv_iload hx hb d_Printer_writePiece_75 (lv_at hl 0 rfl) ?_
        obtain ⟨u27, e28, he⟩ := ih_b he
        refine k_v (wr := [(a_q1, .inr (5, [.ref a_q1_values, .long q1_seconds, .int q1_parts])), (a_q1_values, .inl (kk 0, 14, .inl q1_values)), (a_q2, .inr (2, [.ref a_q2_kinds, .ref a_q2_numbers, .int q2_size])), (a_q2_kinds, .inl (kk 0, 20, .inl q2_kinds)), (a_q2_numbers, .inl (kk 0, 20, .inl q2_numbers))]) (w1 := [(a_t, .inr (6, [.ref a_t_draft, .ref a_t_nest])), (a_t_draft, .inr (1, [.ref a_t_draft_cells, .int u27.1])), (a_t_draft_cells, .inl (kk 1, 200, .inl u27.2))]) (w2 := [(a_t, .inr (6, [.ref a_t_draft, .ref a_t_nest])), (a_t_draft, .inr (1, [.ref a_t_draft_cells, .int u27.1])), (a_t_draft_cells, .inl (kk 1, 200, .inl u27.2)), (a_q1, .inr (5, [.ref a_q1_values, .long q1_seconds, .int q1_parts])), (a_q1_values, .inl (kk 0, 14, .inl q1_values)), (a_q2, .inr (2, [.ref a_q2_kinds, .ref a_q2_numbers, .int q2_size])), (a_q2_kinds, .inl (kk 0, 20, .inl q2_kinds)), (a_q2_numbers, .inl (kk 0, 20, .inl q2_numbers))]) (r_V (As := [.int u25, .int u3]) S X hA hP hD hS (c_Printer_writeYear l D kk st a_t a_t_draft a_t_draft_cells a_t_nest _ t_draft_size t_draft_cells u25 u3 u27 e28) gm_3_128 gm_3_125 gm_3_127 gm_p1_12 gm_1_5 ⟨rfl, rfl, by decide, by decide⟩ kd_Printer_writeYear [0, 1, 2] rfl rfl rfl 0 6 rfl rfl rfl rfl hl.1 rfl (Nat.le_of_ble_eq_true rfl) d_Printer_writePiece_77 ⟨Nat.zero_le _, Nat.zero_le _⟩) hA hP hD hS [0, 1, 2] [3, 4, 5, 6, 7] [5, 6, 7, 0, 1, 2, 3, 4] rfl rfl rfl (by decide) rfl rfl rfl (fun H locs hP hD hS => ?_)
        refine lv_goto (tgt := 151) hx hb d_Printer_writePiece_80 rfl ?_
        cases he
        exact k_vre hx hb hr hlk X hP hD hS d_Printer_writePiece_151
    · have he := ih_f hc he
      refine lv_aload_n hx hb d_Printer_writePiece_43 rfl (lv_at hl 2 rfl) ?_
      refine lv_iload hx hb d_Printer_writePiece_44 (lv_at hl 1 rfl) ?_
      refine lv_iload hx hb d_Printer_writePiece_46 (lv_at hl 0 rfl) ?_
      refine lv_aload_n hx hb d_Printer_writePiece_48 rfl (lv_at hl 3 rfl) ?_
      refine lv_iload hx hb d_Printer_writePiece_49 (lv_at hl 1 rfl) ?_
      obtain ⟨u29, e30, he⟩ := ih_b he
      refine k_io (r_V (As := [.int u1]) S X hA hP hD hS (c_Moment_value l D kk st a_q1 a_q1_values _ q1_seconds q1_parts q1_values u1 u29 e30) gm_3_37 gm_3_81 gm_3_35 gm_3_36 gm_1_10 ⟨rfl, rfl, by decide, by decide⟩ kd_Moment_value [3, 4] rfl rfl rfl 3 5 rfl rfl rfl rfl hl.1 rfl (Nat.le_of_ble_eq_true rfl) d_Printer_writePiece_51 ⟨Nat.zero_le _, Nat.zero_le _⟩) hA hP hD hS [3, 4] rfl (fun H locs hP hS => ?_)
      obtain ⟨u31, e32, he⟩ := ih_b he
      refine k_v (wr := [(a_q1, .inr (5, [.ref a_q1_values, .long q1_seconds, .int q1_parts])), (a_q1_values, .inl (kk 0, 14, .inl q1_values)), (a_q2, .inr (2, [.ref a_q2_kinds, .ref a_q2_numbers, .int q2_size])), (a_q2_kinds, .inl (kk 0, 20, .inl q2_kinds)), (a_q2_numbers, .inl (kk 0, 20, .inl q2_numbers))]) (w1 := [(a_t, .inr (6, [.ref a_t_draft, .ref a_t_nest])), (a_t_draft, .inr (1, [.ref a_t_draft_cells, .int u31.1])), (a_t_draft_cells, .inl (kk 1, 200, .inl u31.2))]) (w2 := [(a_t, .inr (6, [.ref a_t_draft, .ref a_t_nest])), (a_t_draft, .inr (1, [.ref a_t_draft_cells, .int u31.1])), (a_t_draft_cells, .inl (kk 1, 200, .inl u31.2)), (a_q1, .inr (5, [.ref a_q1_values, .long q1_seconds, .int q1_parts])), (a_q1_values, .inl (kk 0, 14, .inl q1_values)), (a_q2, .inr (2, [.ref a_q2_kinds, .ref a_q2_numbers, .int q2_size])), (a_q2_kinds, .inl (kk 0, 20, .inl q2_kinds)), (a_q2_numbers, .inl (kk 0, 20, .inl q2_numbers))]) (r_V (As := [.int u1, .int u3, .int u29]) S X hA hP hD hS (c_Printer_writeName l D kk st a_t a_t_draft a_t_draft_cells a_t_nest _ t_draft_size t_draft_cells u1 u3 u29 u31 e32) gm_3_85 gm_3_82 gm_3_84 gm_p1_11 gm_1_5 ⟨rfl, rfl, by decide, by decide⟩ kd_Printer_writeName [0, 1, 2] rfl rfl rfl 0 6 rfl rfl rfl rfl hl.1 rfl (Nat.le_of_ble_eq_true rfl) d_Printer_writePiece_54 ⟨Nat.zero_le _, Nat.zero_le _⟩) hA hP hD hS [0, 1, 2] [3, 4, 5, 6, 7] [5, 6, 7, 0, 1, 2, 3, 4] rfl rfl rfl (by decide) rfl rfl rfl (fun H locs hP hD hS => ?_)
      refine lv_goto (tgt := 151) hx hb d_Printer_writePiece_57 rfl ?_
      cases he
      exact k_vre hx hb hr hlk X hP hD hS d_Printer_writePiece_151
  · have he := ih_t hc he
    refine lv_aload_n hx hb d_Printer_writePiece_21 rfl (lv_at hl 2 rfl) ?_
    refine k_get S X us_Printer hP 0 rfl rfl 0 (by decide) gm_1_115 rfl d_Printer_writePiece_22 ?_
    refine lv_iload hx hb d_Printer_writePiece_25 (lv_at hl 0 rfl) ?_
    refine lv_i2c hx hb d_Printer_writePiece_27 rfl ?_
    obtain ⟨u33, e34, he⟩ := ih_b he
    refine k_i (wr := [(a_t, .inr (6, [.ref a_t_draft, .ref a_t_nest])), (a_q1, .inr (5, [.ref a_q1_values, .long q1_seconds, .int q1_parts])), (a_q1_values, .inl (kk 0, 14, .inl q1_values)), (a_q2, .inr (2, [.ref a_q2_kinds, .ref a_q2_numbers, .int q2_size])), (a_q2_kinds, .inl (kk 0, 20, .inl q2_kinds)), (a_q2_numbers, .inl (kk 0, 20, .inl q2_numbers))]) (w1 := [(a_t_draft, .inr (1, [.ref a_t_draft_cells, .int u33.2.1])), (a_t_draft_cells, .inl (kk 1, 200, .inl u33.2.2))]) (w2 := [(a_t, .inr (6, [.ref a_t_draft, .ref a_t_nest])), (a_t_draft, .inr (1, [.ref a_t_draft_cells, .int u33.2.1])), (a_t_draft_cells, .inl (kk 1, 200, .inl u33.2.2)), (a_q1, .inr (5, [.ref a_q1_values, .long q1_seconds, .int q1_parts])), (a_q1_values, .inl (kk 0, 14, .inl q1_values)), (a_q2, .inr (2, [.ref a_q2_kinds, .ref a_q2_numbers, .int q2_size])), (a_q2_kinds, .inl (kk 0, 20, .inl q2_kinds)), (a_q2_numbers, .inl (kk 0, 20, .inl q2_numbers))]) (r_V (As := [.int (((Int32.toUInt32 u3) % 65536).toInt32)]) S X hA hP hD hS (c_Row_put l D kk st a_t_draft a_t_draft_cells _ 200 t_draft_size t_draft_cells (((Int32.toUInt32 u3) % 65536).toInt32) u33 e34) gm_2_57 gm_3_76 gm_2_55 gm_2_56 gm_1_2 ⟨rfl, rfl, by decide, by decide⟩ kd_Row_put [1, 2] rfl rfl rfl 1 1 rfl rfl rfl rfl hl.1 rfl (Nat.le_of_ble_eq_true rfl) d_Printer_writePiece_28 ⟨Nat.zero_le _, Nat.zero_le _⟩) hA hP hD hS [1, 2] [0, 3, 4, 5, 6, 7] [0, 6, 7, 1, 2, 3, 4, 5] rfl rfl rfl (by decide) rfl rfl rfl (fun H locs hP hD hS => ?_)
    refine lv_pop hx hb d_Printer_writePiece_31 rfl ?_
    refine lv_goto (tgt := 151) hx hb d_Printer_writePiece_32 rfl ?_
    cases he
    exact k_vre hx hb hr hlk X hP hD hS d_Printer_writePiece_151
abbrev rm_Printer_write : Room := { frames := 7, cells := 0, slots := 0, locals := 160 }
set_option maxHeartbeats 4000000 in
set_option maxRecDepth 100000 in
theorem w_Printer_write_17 {p : Program} {l : Launch} {e : Env} {s : State} {m : MethodId} {args : Array Value} {below : List Frame} {meth : Method} {c : Code} {Q : State → Prop} {A : Nat → Prop} {D : va_G} {kk : Nat → ClassId} {st : Nat → Nat} (a_t a_t_draft a_t_draft_cells a_t_nest a_t_nest_ends a_t_nest_places a_t_nest_marks a_q1 a_q1_values a_q2 a_q2_kinds a_q2_numbers : Nat) (q1_seconds : Int64) (q1_parts : Int32) (q1_values : Nat → Int32) (q2_size : Int32) (q2_kinds : Nat → Int32) (q2_numbers : Nat → Int32) (S : CallFix p m c b_Printer_write 6 s args GW y_Printer_write.cls) (hr : meth.sig.returnType = (some .boolean)) (hlk : meth.locks = false) (hA : ∀ q, s.heap.size ≤ q → A q) (X : KX D kk st A s) : ∀ (n : Nat) (x3 : Int32) (t_draft_size : Int32) (t_draft_cells : Nat → Int32) (t_nest_depth : Int32) (t_nest_ends : Nat → Int32) (t_nest_places : Nat → Int32) (t_nest_marks : Nat → Int32) (v : (Int32 × Int32 × (Nat → Int32) × Int32 × (Nat → Int32) × (Nat → Int32) × (Nat → Int32)) ⊕ (Int32 × Int32 × (Nat → Int32) × Int32 × (Nat → Int32) × (Nat → Int32) × (Nat → Int32))) (H : Heap) (locs : List Loc) (ls : Array Slot), lp_Printer_write_17 q1_parts q1_values q2_size q2_kinds q2_numbers n x3 t_draft_size t_draft_cells t_nest_depth t_nest_ends t_nest_places t_nest_marks = some v → lv_has ls 6 [(0, .ref a_t), (1, .ref a_q1), (2, .ref a_q2), (3, .int x3)] → va_P D classes [(a_t, .inr (6, [.ref a_t_draft, .ref a_t_nest])), (a_t_draft, .inr (1, [.ref a_t_draft_cells, .int t_draft_size])), (a_t_draft_cells, .inl (kk 1, 200, .inl t_draft_cells)), (a_t_nest, .inr (4, [.ref a_t_nest_ends, .ref a_t_nest_places, .ref a_t_nest_marks, .int t_nest_depth])), (a_t_nest_ends, .inl (kk 0, 20, .inl t_nest_ends)), (a_t_nest_places, .inl (kk 0, 20, .inl t_nest_places)), (a_t_nest_marks, .inl (kk 0, 20, .inl t_nest_marks)), (a_q1, .inr (5, [.ref a_q1_values, .long q1_seconds, .int q1_parts])), (a_q1_values, .inl (kk 0, 14, .inl q1_values)), (a_q2, .inr (2, [.ref a_q2_kinds, .ref a_q2_numbers, .int q2_size])), (a_q2_kinds, .inl (kk 0, 20, .inl q2_kinds)), (a_q2_numbers, .inl (kk 0, 20, .inl q2_numbers))] H → va_D A [(a_t, .inr (6, [.ref a_t_draft, .ref a_t_nest])), (a_t_draft, .inr (1, [.ref a_t_draft_cells, .int t_draft_size])), (a_t_draft_cells, .inl (kk 1, 200, .inl t_draft_cells)), (a_t_nest, .inr (4, [.ref a_t_nest_ends, .ref a_t_nest_places, .ref a_t_nest_marks, .int t_nest_depth])), (a_t_nest_ends, .inl (kk 0, 20, .inl t_nest_ends)), (a_t_nest_places, .inl (kk 0, 20, .inl t_nest_places)), (a_t_nest_marks, .inl (kk 0, 20, .inl t_nest_marks)), (a_q1, .inr (5, [.ref a_q1_values, .long q1_seconds, .int q1_parts])), (a_q1_values, .inl (kk 0, 14, .inl q1_values)), (a_q2, .inr (2, [.ref a_q2_kinds, .ref a_q2_numbers, .int q2_size])), (a_q2_kinds, .inl (kk 0, 20, .inl q2_kinds)), (a_q2_numbers, .inl (kk 0, 20, .inl q2_numbers))] → va_S A s.heap H locs → (∀ o : Int32 × Int32 × (Nat → Int32) × Int32 × (Nat → Int32) × (Nat → Int32) × (Nat → Int32), v = .inl o → Q = MQ below (KQi D kk o.1 [(a_t, .inr (6, [.ref a_t_draft, .ref a_t_nest])), (a_t_draft, .inr (1, [.ref a_t_draft_cells, .int o.2.1])), (a_t_draft_cells, .inl (kk 1, 200, .inl o.2.2.1)), (a_t_nest, .inr (4, [.ref a_t_nest_ends, .ref a_t_nest_places, .ref a_t_nest_marks, .int o.2.2.2.1])), (a_t_nest_ends, .inl (kk 0, 20, .inl o.2.2.2.2.1)), (a_t_nest_places, .inl (kk 0, 20, .inl o.2.2.2.2.2.1)), (a_t_nest_marks, .inl (kk 0, 20, .inl o.2.2.2.2.2.2)), (a_q1, .inr (5, [.ref a_q1_values, .long q1_seconds, .int q1_parts])), (a_q1_values, .inl (kk 0, 14, .inl q1_values)), (a_q2, .inr (2, [.ref a_q2_kinds, .ref a_q2_numbers, .int q2_size])), (a_q2_kinds, .inl (kk 0, 20, .inl q2_kinds)), (a_q2_numbers, .inl (kk 0, 20, .inl q2_numbers))] A) args s 0 0 A) → (∀ v' : Int32 × Int32 × (Nat → Int32) × Int32 × (Nat → Int32) × (Nat → Int32) × (Nat → Int32), v = .inr v' → ∀ (H : Heap) (locs : List Loc) (ls : Array Slot), lv_has ls 6 [(0, .ref a_t), (1, .ref a_q1), (2, .ref a_q2), (3, .int v'.1)] → va_P D classes [(a_t, .inr (6, [.ref a_t_draft, .ref a_t_nest])), (a_t_draft, .inr (1, [.ref a_t_draft_cells, .int v'.2.1])), (a_t_draft_cells, .inl (kk 1, 200, .inl v'.2.2.1)), (a_t_nest, .inr (4, [.ref a_t_nest_ends, .ref a_t_nest_places, .ref a_t_nest_marks, .int v'.2.2.2.1])), (a_t_nest_ends, .inl (kk 0, 20, .inl v'.2.2.2.2.1)), (a_t_nest_places, .inl (kk 0, 20, .inl v'.2.2.2.2.2.1)), (a_t_nest_marks, .inl (kk 0, 20, .inl v'.2.2.2.2.2.2)), (a_q1, .inr (5, [.ref a_q1_values, .long q1_seconds, .int q1_parts])), (a_q1_values, .inl (kk 0, 14, .inl q1_values)), (a_q2, .inr (2, [.ref a_q2_kinds, .ref a_q2_numbers, .int q2_size])), (a_q2_kinds, .inl (kk 0, 20, .inl q2_kinds)), (a_q2_numbers, .inl (kk 0, 20, .inl q2_numbers))] H → va_D A [(a_t, .inr (6, [.ref a_t_draft, .ref a_t_nest])), (a_t_draft, .inr (1, [.ref a_t_draft_cells, .int v'.2.1])), (a_t_draft_cells, .inl (kk 1, 200, .inl v'.2.2.1)), (a_t_nest, .inr (4, [.ref a_t_nest_ends, .ref a_t_nest_places, .ref a_t_nest_marks, .int v'.2.2.2.1])), (a_t_nest_ends, .inl (kk 0, 20, .inl v'.2.2.2.2.1)), (a_t_nest_places, .inl (kk 0, 20, .inl v'.2.2.2.2.2.1)), (a_t_nest_marks, .inl (kk 0, 20, .inl v'.2.2.2.2.2.2)), (a_q1, .inr (5, [.ref a_q1_values, .long q1_seconds, .int q1_parts])), (a_q1_values, .inl (kk 0, 14, .inl q1_values)), (a_q2, .inr (2, [.ref a_q2_kinds, .ref a_q2_numbers, .int q2_size])), (a_q2_kinds, .inl (kk 0, 20, .inl q2_kinds)), (a_q2_numbers, .inl (kk 0, 20, .inl q2_numbers))] → va_S A s.heap H locs → W p l e rm_Printer_write s m args below meth c H locs 0 0 Q (F0 m 151 ls [])) → W p l e rm_Printer_write s m args below meth c H locs 0 0 Q (F0 m 17 ls []) := by
  intro n
  induction n with
  | zero =>
    intro x3 t_draft_size t_draft_cells t_nest_depth t_nest_ends t_nest_places t_nest_marks v H locs ls he hl hP hD hS hret K
    exact ih_n he
  | succ n ih =>
    intro x3 t_draft_size t_draft_cells t_nest_depth t_nest_ends t_nest_places t_nest_marks v H locs ls he hl hP hD hS hret K
    have hx := S.1
    have hb := S.2.1
    have he : st_Printer_write_17 q1_parts q1_values q2_size q2_kinds q2_numbers (lp_Printer_write_17 q1_parts q1_values q2_size q2_kinds q2_numbers n) x3 t_draft_size t_draft_cells t_nest_depth t_nest_ends t_nest_places t_nest_marks = some v := he
    unfold st_Printer_write_17 at he
    refine lv_iload_n hx hb d_Printer_write_17 rfl (lv_at hl 3 rfl) ?_
    refine lv_aload_n hx hb d_Printer_write_18 rfl (lv_at hl 2 rfl) ?_
    refine k_get S X us_Pattern hP 9 rfl rfl 2 (by decide) gm_1_64 rfl d_Printer_write_19 ?_
    refine lv_icmp_ge (tgt := 151) hx hb d_Printer_write_22 rfl (fun hc => ?_) (fun hc => ?_)
    · have he := ih_t hc he
      have hl : lv_has ls 6 [(0, .ref a_t), (1, .ref a_q1), (2, .ref a_q2), (3, .int x3)] := lv_sub hl [0, 1, 2, 3] rfl
      cases he
      exact K _ rfl _ _ _ hl hP hD hS
    · have he := ih_f hc he
      refine lv_aload_n hx hb d_Printer_write_25 rfl (lv_at hl 0 rfl) ?_
      refine k_get S X us_Printer hP 0 rfl rfl 1 (by decide) gm_1_117 rfl d_Printer_write_26 ?_
      refine lv_iload_n hx hb d_Printer_write_29 rfl (lv_at hl 3 rfl) ?_
      obtain ⟨u5, e6, he⟩ := ih_b he
      refine k_v (wr := [(a_t, .inr (6, [.ref a_t_draft, .ref a_t_nest])), (a_t_draft, .inr (1, [.ref a_t_draft_cells, .int t_draft_size])), (a_t_draft_cells, .inl (kk 1, 200, .inl t_draft_cells)), (a_t_nest_places, .inl (kk 0, 20, .inl t_nest_places)), (a_t_nest_marks, .inl (kk 0, 20, .inl t_nest_marks)), (a_q1, .inr (5, [.ref a_q1_values, .long q1_seconds, .int q1_parts])), (a_q1_values, .inl (kk 0, 14, .inl q1_values)), (a_q2, .inr (2, [.ref a_q2_kinds, .ref a_q2_numbers, .int q2_size])), (a_q2_kinds, .inl (kk 0, 20, .inl q2_kinds)), (a_q2_numbers, .inl (kk 0, 20, .inl q2_numbers))]) (w1 := [(a_t_nest, .inr (4, [.ref a_t_nest_ends, .ref a_t_nest_places, .ref a_t_nest_marks, .int u5])), (a_t_nest_ends, .inl (kk 0, 20, .inl t_nest_ends))]) (w2 := [(a_t, .inr (6, [.ref a_t_draft, .ref a_t_nest])), (a_t_draft, .inr (1, [.ref a_t_draft_cells, .int t_draft_size])), (a_t_draft_cells, .inl (kk 1, 200, .inl t_draft_cells)), (a_t_nest, .inr (4, [.ref a_t_nest_ends, .ref a_t_nest_places, .ref a_t_nest_marks, .int u5])), (a_t_nest_ends, .inl (kk 0, 20, .inl t_nest_ends)), (a_t_nest_places, .inl (kk 0, 20, .inl t_nest_places)), (a_t_nest_marks, .inl (kk 0, 20, .inl t_nest_marks)), (a_q1, .inr (5, [.ref a_q1_values, .long q1_seconds, .int q1_parts])), (a_q1_values, .inl (kk 0, 14, .inl q1_values)), (a_q2, .inr (2, [.ref a_q2_kinds, .ref a_q2_numbers, .int q2_size])), (a_q2_kinds, .inl (kk 0, 20, .inl q2_kinds)), (a_q2_numbers, .inl (kk 0, 20, .inl q2_numbers))]) (r_V (As := [.int x3]) S X hA hP hD hS (c_Nest_closeBefore l D kk st a_t_nest a_t_nest_ends a_t_nest_places a_t_nest_marks _ t_nest_depth t_nest_ends x3 u5 e6) gm_3_58 gm_3_55 gm_3_56 gm_3_57 gm_1_6 ⟨rfl, rfl, by decide, by decide⟩ kd_Nest_closeBefore [3, 4] rfl rfl rfl 3 4 rfl rfl rfl rfl hl.1 rfl (Nat.le_of_ble_eq_true rfl) d_Printer_write_30 ⟨Nat.zero_le _, Nat.zero_le _⟩) hA hP hD hS [3, 4] [0, 1, 2, 5, 6, 7, 8, 9, 10, 11] [0, 1, 2, 10, 11, 3, 4, 5, 6, 7, 8, 9] rfl rfl rfl (by decide) rfl rfl rfl (fun H locs hP hD hS => ?_)
      refine lv_iload_n hx hb d_Printer_write_33 rfl (lv_at hl 3 rfl) ?_
      refine lv_iconst (v := (1 : Int32)) hx hb d_Printer_write_34 (by decide) ?_
      refine lv_iadd hx hb d_Printer_write_35 ?_
      refine lv_istore hx hb d_Printer_write_36 hl (by decide) rfl (fun ls hl => ?_)
      have hl : lv_has ls 6 [(4, .int (x3 + (1 : Int32))), (0, .ref a_t), (1, .ref a_q1), (2, .ref a_q2), (3, .int x3)] := hl
      refine lv_aload_n hx hb d_Printer_write_38 rfl (lv_at hl 3 rfl) ?_
      refine lv_iload_n hx hb d_Printer_write_39 rfl (lv_at hl 4 rfl) ?_
      obtain ⟨u7, e8, he⟩ := ih_b he
      refine k_io (r_V (As := [.int x3]) S X hA hP hD hS (c_Pattern_kind l D kk st a_q2 a_q2_kinds a_q2_numbers _ q2_size q2_kinds x3 u7 e8) gm_2_219 gm_3_59 gm_2_217 gm_2_218 gm_1_4 ⟨rfl, rfl, by decide, by decide⟩ kd_Pattern_kind [9, 10] rfl rfl rfl 9 2 rfl rfl rfl rfl hl.1 rfl (Nat.le_of_ble_eq_true rfl) d_Printer_write_40 ⟨Nat.zero_le _, Nat.zero_le _⟩) hA hP hD hS [9, 10] rfl (fun H locs hP hS => ?_)
      refine lv_istore hx hb d_Printer_write_43 hl (by decide) rfl (fun ls hl => ?_)
      have hl : lv_has ls 6 [(5, .int u7), (4, .int (x3 + (1 : Int32))), (0, .ref a_t), (1, .ref a_q1), (2, .ref a_q2), (3, .int x3)] := hl
      refine lv_iload hx hb d_Printer_write_45 (lv_at hl 0 rfl) ?_
      refine lv_bipush (v := (16 : Int32)) hx hb d_Printer_write_47 (by decide) ?_
      refine lv_icmp_ne (tgt := 75) hx hb d_Printer_write_49 rfl (fun hc => ?_) (fun hc => ?_)
      · have he := ih_f hc he
        refine lv_iload hx hb d_Printer_write_75 (lv_at hl 0 rfl) ?_
        refine lv_bipush (v := (15 : Int32)) hx hb d_Printer_write_77 (by decide) ?_
        refine lv_icmp_eq (tgt := 91) hx hb d_Printer_write_79 rfl (fun hc => ?_) (fun hc => ?_)
        · have he := ih_t hc he
          refine lv_aload_n hx hb d_Printer_write_91 rfl (lv_at hl 2 rfl) ?_
          refine lv_aload_n hx hb d_Printer_write_92 rfl (lv_at hl 3 rfl) ?_
          refine lv_aload_n hx hb d_Printer_write_93 rfl (lv_at hl 4 rfl) ?_
          refine lv_iload_n hx hb d_Printer_write_94 rfl (lv_at hl 5 rfl) ?_
          obtain ⟨u9, e10, he⟩ := ih_b he
          refine k_v (wr := [(a_t_nest, .inr (4, [.ref a_t_nest_ends, .ref a_t_nest_places, .ref a_t_nest_marks, .int u5])), (a_t_nest_ends, .inl (kk 0, 20, .inl t_nest_ends)), (a_t_nest_places, .inl (kk 0, 20, .inl t_nest_places)), (a_t_nest_marks, .inl (kk 0, 20, .inl t_nest_marks))]) (w1 := [(a_t, .inr (6, [.ref a_t_draft, .ref a_t_nest])), (a_t_draft, .inr (1, [.ref a_t_draft_cells, .int u9.1])), (a_t_draft_cells, .inl (kk 1, 200, .inl u9.2)), (a_q1, .inr (5, [.ref a_q1_values, .long q1_seconds, .int q1_parts])), (a_q1_values, .inl (kk 0, 14, .inl q1_values)), (a_q2, .inr (2, [.ref a_q2_kinds, .ref a_q2_numbers, .int q2_size])), (a_q2_kinds, .inl (kk 0, 20, .inl q2_kinds)), (a_q2_numbers, .inl (kk 0, 20, .inl q2_numbers))]) (w2 := [(a_t, .inr (6, [.ref a_t_draft, .ref a_t_nest])), (a_t_draft, .inr (1, [.ref a_t_draft_cells, .int u9.1])), (a_t_draft_cells, .inl (kk 1, 200, .inl u9.2)), (a_t_nest, .inr (4, [.ref a_t_nest_ends, .ref a_t_nest_places, .ref a_t_nest_marks, .int u5])), (a_t_nest_ends, .inl (kk 0, 20, .inl t_nest_ends)), (a_t_nest_places, .inl (kk 0, 20, .inl t_nest_places)), (a_t_nest_marks, .inl (kk 0, 20, .inl t_nest_marks)), (a_q1, .inr (5, [.ref a_q1_values, .long q1_seconds, .int q1_parts])), (a_q1_values, .inl (kk 0, 14, .inl q1_values)), (a_q2, .inr (2, [.ref a_q2_kinds, .ref a_q2_numbers, .int q2_size])), (a_q2_kinds, .inl (kk 0, 20, .inl q2_kinds)), (a_q2_numbers, .inl (kk 0, 20, .inl q2_numbers))]) (r_V (As := [.ref a_q1, .ref a_q2, .int x3]) S X hA hP hD hS (c_Printer_writePiece l D kk st a_t a_t_draft a_t_draft_cells a_q1 a_q1_values a_q2 a_q2_kinds a_q2_numbers a_t_nest _ t_draft_size t_draft_cells q1_seconds q1_parts q1_values q2_size q2_kinds q2_numbers x3 u9 e10) gm_3_75 gm_3_72 gm_3_74 gm_p1_10 gm_1_5 ⟨rfl, rfl, by decide, by decide⟩ kd_Printer_writePiece [0, 1, 2, 7, 8, 9, 10, 11] rfl rfl rfl 0 6 rfl rfl rfl rfl hl.1 rfl (Nat.le_of_ble_eq_true rfl) d_Printer_write_95 ⟨Nat.zero_le _, Nat.zero_le _⟩) hA hP hD hS [0, 1, 2, 7, 8, 9, 10, 11] [3, 4, 5, 6] [4, 5, 6, 0, 1, 2, 3, 7, 8, 9, 10, 11] rfl rfl rfl (by decide) rfl rfl rfl (fun H locs hP hD hS => ?_)
          refine lv_goto (tgt := 145) hx hb d_Printer_write_98 rfl ?_
          refine lv_iload hx hb d_Printer_write_145 (lv_at hl 1 rfl) ?_
          refine lv_istore_n hx hb d_Printer_write_147 rfl hl (by decide) rfl (fun ls hl => ?_)
          have hl : lv_has ls 6 [(3, .int (x3 + (1 : Int32))), (5, .int u7), (4, .int (x3 + (1 : Int32))), (0, .ref a_t), (1, .ref a_q1), (2, .ref a_q2)] := hl
          refine lv_goto (tgt := 17) hx hb d_Printer_write_148 rfl ?_
          have hl : lv_has ls 6 [(0, .ref a_t), (1, .ref a_q1), (2, .ref a_q2), (3, .int (x3 + (1 : Int32)))] := lv_sub hl [3, 4, 5, 0] rfl
          exact ih _ _ _ _ _ _ _ _ _ _ _ he hl hP hD hS hret K
        · have he := ih_f hc he
          refine lv_aload_n hx hb d_Printer_write_82 rfl (lv_at hl 3 rfl) ?_
          refine lv_iload hx hb d_Printer_write_83 (lv_at hl 0 rfl) ?_
          obtain ⟨u11, e12, he⟩ := ih_b he
          refine k_io (r_V (As := [.int u7]) S X hA hP hD hS (c_Moment_has l D kk st a_q1 a_q1_values _ q1_seconds q1_parts u7 u11 e12) gm_3_68 gm_3_65 gm_3_66 gm_3_67 gm_1_10 ⟨rfl, rfl, by decide, by decide⟩ kd_Moment_has [7] rfl rfl rfl 7 5 rfl rfl rfl rfl hl.1 rfl (Nat.le_of_ble_eq_true rfl) d_Printer_write_85 ⟨Nat.zero_le _, Nat.zero_le _⟩) hA hP hD hS [7] rfl (fun H locs hP hS => ?_)
          refine lv_if_eq (tgt := 101) hx hb d_Printer_write_88 rfl (fun hc => ?_) (fun hc => ?_)
          · have he := ih_t hc he
            refine lv_aload_n hx hb d_Printer_write_101 rfl (lv_at hl 2 rfl) ?_
            refine k_get S X us_Printer hP 0 rfl rfl 1 (by decide) gm_1_117 rfl d_Printer_write_102 ?_
            obtain ⟨u13, e14, he⟩ := ih_b he
            refine k_io (r_V (As := []) S X hA hP hD hS (c_Nest_isEmpty l D kk st a_t_nest a_t_nest_ends a_t_nest_places a_t_nest_marks _ u5 u13 e14) gm_3_148 gm_3_145 gm_3_146 gm_3_147 gm_1_6 ⟨rfl, rfl, by decide, by decide⟩ kd_Nest_isEmpty [3] rfl rfl rfl 3 4 rfl rfl rfl rfl hl.1 rfl (Nat.le_of_ble_eq_true rfl) d_Printer_write_105 ⟨Nat.zero_le _, Nat.zero_le _⟩) hA hP hD hS [3] rfl (fun H locs hP hS => ?_)
            refine lv_if_eq (tgt := 113) hx hb d_Printer_write_108 rfl (fun hc => ?_) (fun hc => ?_)
            · have he := ih_t hc he
              refine lv_aload_n hx hb d_Printer_write_113 rfl (lv_at hl 2 rfl) ?_
              refine k_get S X us_Printer hP 0 rfl rfl 0 (by decide) gm_1_115 rfl d_Printer_write_114 ?_
              refine lv_aload_n hx hb d_Printer_write_117 rfl (lv_at hl 2 rfl) ?_
              refine k_get S X us_Printer hP 0 rfl rfl 1 (by decide) gm_1_117 rfl d_Printer_write_118 ?_
              obtain ⟨u15, e16, he⟩ := ih_b he
              refine k_io (r_V (As := []) S X hA hP hD hS (c_Nest_place l D kk st a_t_nest a_t_nest_places a_t_nest_ends a_t_nest_marks _ u5 t_nest_places u15 e16) gm_3_152 gm_3_149 gm_3_150 gm_3_151 gm_1_6 ⟨rfl, rfl, by decide, by decide⟩ kd_Nest_place [3, 5] rfl rfl rfl 3 4 rfl rfl rfl rfl hl.1 rfl (Nat.le_of_ble_eq_true rfl) d_Printer_write_121 ⟨Nat.zero_le _, Nat.zero_le _⟩) hA hP hD hS [3, 5] rfl (fun H locs hP hS => ?_)
              obtain ⟨u17, e18, he⟩ := ih_b he
              refine k_v (wr := [(a_t, .inr (6, [.ref a_t_draft, .ref a_t_nest])), (a_t_draft_cells, .inl (kk 1, 200, .inl t_draft_cells)), (a_t_nest, .inr (4, [.ref a_t_nest_ends, .ref a_t_nest_places, .ref a_t_nest_marks, .int u5])), (a_t_nest_ends, .inl (kk 0, 20, .inl t_nest_ends)), (a_t_nest_places, .inl (kk 0, 20, .inl t_nest_places)), (a_t_nest_marks, .inl (kk 0, 20, .inl t_nest_marks)), (a_q1, .inr (5, [.ref a_q1_values, .long q1_seconds, .int q1_parts])), (a_q1_values, .inl (kk 0, 14, .inl q1_values)), (a_q2, .inr (2, [.ref a_q2_kinds, .ref a_q2_numbers, .int q2_size])), (a_q2_kinds, .inl (kk 0, 20, .inl q2_kinds)), (a_q2_numbers, .inl (kk 0, 20, .inl q2_numbers))]) (w1 := [(a_t_draft, .inr (1, [.ref a_t_draft_cells, .int u17]))]) (w2 := [(a_t, .inr (6, [.ref a_t_draft, .ref a_t_nest])), (a_t_draft, .inr (1, [.ref a_t_draft_cells, .int u17])), (a_t_draft_cells, .inl (kk 1, 200, .inl t_draft_cells)), (a_t_nest, .inr (4, [.ref a_t_nest_ends, .ref a_t_nest_places, .ref a_t_nest_marks, .int u5])), (a_t_nest_ends, .inl (kk 0, 20, .inl t_nest_ends)), (a_t_nest_places, .inl (kk 0, 20, .inl t_nest_places)), (a_t_nest_marks, .inl (kk 0, 20, .inl t_nest_marks)), (a_q1, .inr (5, [.ref a_q1_values, .long q1_seconds, .int q1_parts])), (a_q1_values, .inl (kk 0, 14, .inl q1_values)), (a_q2, .inr (2, [.ref a_q2_kinds, .ref a_q2_numbers, .int q2_size])), (a_q2_kinds, .inl (kk 0, 20, .inl q2_kinds)), (a_q2_numbers, .inl (kk 0, 20, .inl q2_numbers))]) (r_V (As := [.int u15]) S X hA hP hD hS (c_Row_shorten l D kk st a_t_draft a_t_draft_cells _ t_draft_size u15 u17 e18) gm_2_208 gm_3_50 gm_2_206 gm_2_207 gm_1_2 ⟨rfl, rfl, by decide, by decide⟩ kd_Row_shorten [1] rfl rfl rfl 1 1 rfl rfl rfl rfl hl.1 rfl (Nat.le_of_ble_eq_true rfl) d_Printer_write_124 ⟨Nat.zero_le _, Nat.zero_le _⟩) hA hP hD hS [1] [0, 2, 3, 4, 5, 6, 7, 8, 9, 10, 11] [0, 11, 1, 2, 3, 4, 5, 6, 7, 8, 9, 10] rfl rfl rfl (by decide) rfl rfl rfl (fun H locs hP hD hS => ?_)
              refine lv_iload hx hb d_Printer_write_127 (lv_at hl 1 rfl) ?_
              refine lv_aload_n hx hb d_Printer_write_129 rfl (lv_at hl 2 rfl) ?_
              refine k_get S X us_Printer hP 0 rfl rfl 1 (by decide) gm_1_117 rfl d_Printer_write_130 ?_
              refine lv_aload_n hx hb d_Printer_write_133 rfl (lv_at hl 4 rfl) ?_
              refine k_get S X us_Pattern hP 9 rfl rfl 2 (by decide) gm_1_64 rfl d_Printer_write_134 ?_
              obtain ⟨u19, e20, he⟩ := ih_b he
              refine k_io (r_V (As := [.int q2_size]) S X hA hP hD hS (c_Nest_limit l D kk st a_t_nest a_t_nest_ends a_t_nest_places a_t_nest_marks _ u5 t_nest_ends q2_size u19 e20) gm_3_156 gm_3_153 gm_3_154 gm_3_155 gm_1_6 ⟨rfl, rfl, by decide, by decide⟩ kd_Nest_limit [3, 4] rfl rfl rfl 3 4 rfl rfl rfl rfl hl.1 rfl (Nat.le_of_ble_eq_true rfl) d_Printer_write_137 ⟨Nat.zero_le _, Nat.zero_le _⟩) hA hP hD hS [3, 4] rfl (fun H locs hP hS => ?_)
              refine va_mmax hx hb (by rw [S.2.2.1]; exact hl.1.symm) S.2.2.2.1 (S.2.2.2.2 _ gm_3_157) (S.2.2.2.2 _ gm_2_126) (S.2.2.2.2 _ gm_1_11) (S.2.2.2.2 _ gm_2_127) (by decide) (Nat.le_of_ble_eq_true rfl) (Nat.zero_le _) (Nat.zero_le _) d_Printer_write_140 ?_
              refine lv_istore hx hb d_Printer_write_143 hl (by decide) rfl (fun ls hl => ?_)
              have hl : lv_has ls 6 [(4, .int (if (x3 + (1 : Int32)) < u19 then u19 else (x3 + (1 : Int32)))), (5, .int u7), (0, .ref a_t), (1, .ref a_q1), (2, .ref a_q2), (3, .int x3)] := hl
              refine lv_iload hx hb d_Printer_write_145 (lv_at hl 0 rfl) ?_
              refine lv_istore_n hx hb d_Printer_write_147 rfl hl (by decide) rfl (fun ls hl => ?_)
              have hl : lv_has ls 6 [(3, .int (if (x3 + (1 : Int32)) < u19 then u19 else (x3 + (1 : Int32)))), (4, .int (if (x3 + (1 : Int32)) < u19 then u19 else (x3 + (1 : Int32)))), (5, .int u7), (0, .ref a_t), (1, .ref a_q1), (2, .ref a_q2)] := hl
              refine lv_goto (tgt := 17) hx hb d_Printer_write_148 rfl ?_
              have hl : lv_has ls 6 [(0, .ref a_t), (1, .ref a_q1), (2, .ref a_q2), (3, .int (if (x3 + (1 : Int32)) < u19 then u19 else (x3 + (1 : Int32))))] := lv_sub hl [3, 4, 5, 0] rfl
              exact ih _ _ _ _ _ _ _ _ _ _ _ he hl hP hD hS hret K
            · have he := ih_f hc he
              refine lv_iconst (v := (0 : Int32)) hx hb d_Printer_write_111 (by decide) ?_
              cases he
              have hq := hret _ rfl
              subst hq
              exact k_zre hx hb hr hlk X hP hD hS (Or.inl rfl) d_Printer_write_112
          · have he := ih_f hc he
            refine lv_aload_n hx hb d_Printer_write_91 rfl (lv_at hl 2 rfl) ?_
            refine lv_aload_n hx hb d_Printer_write_92 rfl (lv_at hl 3 rfl) ?_
            refine lv_aload_n hx hb d_Printer_write_93 rfl (lv_at hl 4 rfl) ?_
            refine lv_iload_n hx hb d_Printer_write_94 rfl (lv_at hl 5 rfl) ?_
            obtain ⟨u21, e22, he⟩ := ih_b he
            refine k_v (wr := [(a_t_nest, .inr (4, [.ref a_t_nest_ends, .ref a_t_nest_places, .ref a_t_nest_marks, .int u5])), (a_t_nest_ends, .inl (kk 0, 20, .inl t_nest_ends)), (a_t_nest_places, .inl (kk 0, 20, .inl t_nest_places)), (a_t_nest_marks, .inl (kk 0, 20, .inl t_nest_marks))]) (w1 := [(a_t, .inr (6, [.ref a_t_draft, .ref a_t_nest])), (a_t_draft, .inr (1, [.ref a_t_draft_cells, .int u21.1])), (a_t_draft_cells, .inl (kk 1, 200, .inl u21.2)), (a_q1, .inr (5, [.ref a_q1_values, .long q1_seconds, .int q1_parts])), (a_q1_values, .inl (kk 0, 14, .inl q1_values)), (a_q2, .inr (2, [.ref a_q2_kinds, .ref a_q2_numbers, .int q2_size])), (a_q2_kinds, .inl (kk 0, 20, .inl q2_kinds)), (a_q2_numbers, .inl (kk 0, 20, .inl q2_numbers))]) (w2 := [(a_t, .inr (6, [.ref a_t_draft, .ref a_t_nest])), (a_t_draft, .inr (1, [.ref a_t_draft_cells, .int u21.1])), (a_t_draft_cells, .inl (kk 1, 200, .inl u21.2)), (a_t_nest, .inr (4, [.ref a_t_nest_ends, .ref a_t_nest_places, .ref a_t_nest_marks, .int u5])), (a_t_nest_ends, .inl (kk 0, 20, .inl t_nest_ends)), (a_t_nest_places, .inl (kk 0, 20, .inl t_nest_places)), (a_t_nest_marks, .inl (kk 0, 20, .inl t_nest_marks)), (a_q1, .inr (5, [.ref a_q1_values, .long q1_seconds, .int q1_parts])), (a_q1_values, .inl (kk 0, 14, .inl q1_values)), (a_q2, .inr (2, [.ref a_q2_kinds, .ref a_q2_numbers, .int q2_size])), (a_q2_kinds, .inl (kk 0, 20, .inl q2_kinds)), (a_q2_numbers, .inl (kk 0, 20, .inl q2_numbers))]) (r_V (As := [.ref a_q1, .ref a_q2, .int x3]) S X hA hP hD hS (c_Printer_writePiece l D kk st a_t a_t_draft a_t_draft_cells a_q1 a_q1_values a_q2 a_q2_kinds a_q2_numbers a_t_nest _ t_draft_size t_draft_cells q1_seconds q1_parts q1_values q2_size q2_kinds q2_numbers x3 u21 e22) gm_3_75 gm_3_72 gm_3_74 gm_p1_10 gm_1_5 ⟨rfl, rfl, by decide, by decide⟩ kd_Printer_writePiece [0, 1, 2, 7, 8, 9, 10, 11] rfl rfl rfl 0 6 rfl rfl rfl rfl hl.1 rfl (Nat.le_of_ble_eq_true rfl) d_Printer_write_95 ⟨Nat.zero_le _, Nat.zero_le _⟩) hA hP hD hS [0, 1, 2, 7, 8, 9, 10, 11] [3, 4, 5, 6] [4, 5, 6, 0, 1, 2, 3, 7, 8, 9, 10, 11] rfl rfl rfl (by decide) rfl rfl rfl (fun H locs hP hD hS => ?_)
            refine lv_goto (tgt := 145) hx hb d_Printer_write_98 rfl ?_
            refine lv_iload hx hb d_Printer_write_145 (lv_at hl 1 rfl) ?_
            refine lv_istore_n hx hb d_Printer_write_147 rfl hl (by decide) rfl (fun ls hl => ?_)
            have hl : lv_has ls 6 [(3, .int (x3 + (1 : Int32))), (5, .int u7), (4, .int (x3 + (1 : Int32))), (0, .ref a_t), (1, .ref a_q1), (2, .ref a_q2)] := hl
            refine lv_goto (tgt := 17) hx hb d_Printer_write_148 rfl ?_
            have hl : lv_has ls 6 [(0, .ref a_t), (1, .ref a_q1), (2, .ref a_q2), (3, .int (x3 + (1 : Int32)))] := lv_sub hl [3, 4, 5, 0] rfl
            exact ih _ _ _ _ _ _ _ _ _ _ _ he hl hP hD hS hret K
      · have he := ih_t hc he
        refine lv_aload_n hx hb d_Printer_write_52 rfl (lv_at hl 2 rfl) ?_
        refine k_get S X us_Printer hP 0 rfl rfl 1 (by decide) gm_1_117 rfl d_Printer_write_53 ?_
        refine lv_aload_n hx hb d_Printer_write_56 rfl (lv_at hl 4 rfl) ?_
        refine lv_iload_n hx hb d_Printer_write_57 rfl (lv_at hl 5 rfl) ?_
        obtain ⟨u23, e24, he⟩ := ih_b he
        refine k_io (r_V (As := [.int x3]) S X hA hP hD hS (c_Pattern_number l D kk st a_q2 a_q2_numbers a_q2_kinds _ q2_size q2_numbers x3 u23 e24) gm_2_223 gm_3_60 gm_2_221 gm_2_222 gm_1_4 ⟨rfl, rfl, by decide, by decide⟩ kd_Pattern_number [9, 11] rfl rfl rfl 9 2 rfl rfl rfl rfl hl.1 rfl (Nat.le_of_ble_eq_true rfl) d_Printer_write_58 ⟨Nat.zero_le _, Nat.zero_le _⟩) hA hP hD hS [9, 11] rfl (fun H locs hP hS => ?_)
        refine lv_aload_n hx hb d_Printer_write_61 rfl (lv_at hl 2 rfl) ?_
        refine k_get S X us_Printer hP 0 rfl rfl 0 (by decide) gm_1_115 rfl d_Printer_write_62 ?_
        refine k_get S X us_Row hP 1 rfl rfl 1 (by decide) gm_1_37 rfl d_Printer_write_65 ?_
        refine lv_iconst (v := (0 : Int32)) hx hb d_Printer_write_68 (by decide) ?_
        obtain ⟨u25, e26, he⟩ := ih_b he
        refine k_v (wr := [(a_t, .inr (6, [.ref a_t_draft, .ref a_t_nest])), (a_t_draft, .inr (1, [.ref a_t_draft_cells, .int t_draft_size])), (a_t_draft_cells, .inl (kk 1, 200, .inl t_draft_cells)), (a_q1, .inr (5, [.ref a_q1_values, .long q1_seconds, .int q1_parts])), (a_q1_values, .inl (kk 0, 14, .inl q1_values)), (a_q2, .inr (2, [.ref a_q2_kinds, .ref a_q2_numbers, .int q2_size])), (a_q2_kinds, .inl (kk 0, 20, .inl q2_kinds)), (a_q2_numbers, .inl (kk 0, 20, .inl q2_numbers))]) (w1 := [(a_t_nest, .inr (4, [.ref a_t_nest_ends, .ref a_t_nest_places, .ref a_t_nest_marks, .int u25.1])), (a_t_nest_ends, .inl (kk 0, 20, .inl u25.2.1)), (a_t_nest_places, .inl (kk 0, 20, .inl u25.2.2.1)), (a_t_nest_marks, .inl (kk 0, 20, .inl u25.2.2.2))]) (w2 := [(a_t, .inr (6, [.ref a_t_draft, .ref a_t_nest])), (a_t_draft, .inr (1, [.ref a_t_draft_cells, .int t_draft_size])), (a_t_draft_cells, .inl (kk 1, 200, .inl t_draft_cells)), (a_t_nest, .inr (4, [.ref a_t_nest_ends, .ref a_t_nest_places, .ref a_t_nest_marks, .int u25.1])), (a_t_nest_ends, .inl (kk 0, 20, .inl u25.2.1)), (a_t_nest_places, .inl (kk 0, 20, .inl u25.2.2.1)), (a_t_nest_marks, .inl (kk 0, 20, .inl u25.2.2.2)), (a_q1, .inr (5, [.ref a_q1_values, .long q1_seconds, .int q1_parts])), (a_q1_values, .inl (kk 0, 14, .inl q1_values)), (a_q2, .inr (2, [.ref a_q2_kinds, .ref a_q2_numbers, .int q2_size])), (a_q2_kinds, .inl (kk 0, 20, .inl q2_kinds)), (a_q2_numbers, .inl (kk 0, 20, .inl q2_numbers))]) (r_V (As := [.int u23, .int t_draft_size, .int (0 : Int32)]) S X hA hP hD hS (c_Nest_open l D kk st a_t_nest a_t_nest_ends a_t_nest_places a_t_nest_marks _ u5 t_nest_ends t_nest_places t_nest_marks u23 t_draft_size (0 : Int32) u25 e26) gm_3_64 gm_3_61 gm_3_62 gm_3_63 gm_1_6 ⟨rfl, rfl, by decide, by decide⟩ kd_Nest_open [3, 4, 5, 6] rfl rfl rfl 3 4 rfl rfl rfl rfl hl.1 rfl (Nat.le_of_ble_eq_true rfl) d_Printer_write_69 ⟨Nat.zero_le _, Nat.zero_le _⟩) hA hP hD hS [3, 4, 5, 6] [0, 1, 2, 7, 8, 9, 10, 11] [0, 1, 2, 8, 9, 10, 11, 3, 4, 5, 6, 7] rfl rfl rfl (by decide) rfl rfl rfl (fun H locs hP hD hS => ?_)
        refine lv_goto (tgt := 145) hx hb d_Printer_write_72 rfl ?_
        refine lv_iload hx hb d_Printer_write_145 (lv_at hl 1 rfl) ?_
        refine lv_istore_n hx hb d_Printer_write_147 rfl hl (by decide) rfl (fun ls hl => ?_)
        have hl : lv_has ls 6 [(3, .int (x3 + (1 : Int32))), (5, .int u7), (4, .int (x3 + (1 : Int32))), (0, .ref a_t), (1, .ref a_q1), (2, .ref a_q2)] := hl
        refine lv_goto (tgt := 17) hx hb d_Printer_write_148 rfl ?_
        have hl : lv_has ls 6 [(0, .ref a_t), (1, .ref a_q1), (2, .ref a_q2), (3, .int (x3 + (1 : Int32)))] := lv_sub hl [3, 4, 5, 0] rfl
        exact ih _ _ _ _ _ _ _ _ _ _ _ he hl hP hD hS hret K
set_option maxHeartbeats 4000000 in
set_option maxRecDepth 100000 in
theorem c_Printer_write (l : Launch) (D : va_G) (kk : Nat → ClassId) (st : Nat → Nat) (a_t a_t_draft a_t_draft_cells a_t_nest a_t_nest_ends a_t_nest_places a_t_nest_marks a_q1 a_q1_values a_q2 a_q2_kinds a_q2_numbers : Nat) (sz : Nat) (t_draft_size : Int32) (t_draft_cells : Nat → Int32) (t_nest_depth : Int32) (t_nest_ends : Nat → Int32) (t_nest_places : Nat → Int32) (t_nest_marks : Nat → Int32) (q1_seconds : Int64) (q1_parts : Int32) (q1_values : Nat → Int32) (q2_size : Int32) (q2_kinds : Nat → Int32) (q2_numbers : Nat → Int32) (o : Int32 × Int32 × (Nat → Int32) × Int32 × (Nat → Int32) × (Nat → Int32) × (Nat → Int32)) (he : f_Printer_write t_draft_size t_draft_cells t_nest_depth t_nest_ends t_nest_places t_nest_marks q1_parts q1_values q2_size q2_kinds q2_numbers = some o) : Met l y_Printer_write (Cond.code y_Printer_write b_Printer_write 6 (some .boolean) :: GW) rm_Printer_write (KPc D kk st [.ref a_t, .ref a_q1, .ref a_q2] [(a_t, .inr (6, [.ref a_t_draft, .ref a_t_nest])), (a_t_draft, .inr (1, [.ref a_t_draft_cells, .int t_draft_size])), (a_t_draft_cells, .inl (kk 1, 200, .inl t_draft_cells)), (a_t_nest, .inr (4, [.ref a_t_nest_ends, .ref a_t_nest_places, .ref a_t_nest_marks, .int t_nest_depth])), (a_t_nest_ends, .inl (kk 0, 20, .inl t_nest_ends)), (a_t_nest_places, .inl (kk 0, 20, .inl t_nest_places)), (a_t_nest_marks, .inl (kk 0, 20, .inl t_nest_marks)), (a_q1, .inr (5, [.ref a_q1_values, .long q1_seconds, .int q1_parts])), (a_q1_values, .inl (kk 0, 14, .inl q1_values)), (a_q2, .inr (2, [.ref a_q2_kinds, .ref a_q2_numbers, .int q2_size])), (a_q2_kinds, .inl (kk 0, 20, .inl q2_kinds)), (a_q2_numbers, .inl (kk 0, 20, .inl q2_numbers))] sz) (KQi D kk o.1 [(a_t, .inr (6, [.ref a_t_draft, .ref a_t_nest])), (a_t_draft, .inr (1, [.ref a_t_draft_cells, .int o.2.1])), (a_t_draft_cells, .inl (kk 1, 200, .inl o.2.2.1)), (a_t_nest, .inr (4, [.ref a_t_nest_ends, .ref a_t_nest_places, .ref a_t_nest_marks, .int o.2.2.2.1])), (a_t_nest_ends, .inl (kk 0, 20, .inl o.2.2.2.2.1)), (a_t_nest_places, .inl (kk 0, 20, .inl o.2.2.2.2.2.1)), (a_t_nest_marks, .inl (kk 0, 20, .inl o.2.2.2.2.2.2)), (a_q1, .inr (5, [.ref a_q1_values, .long q1_seconds, .int q1_parts])), (a_q1_values, .inl (kk 0, 14, .inl q1_values)), (a_q2, .inr (2, [.ref a_q2_kinds, .ref a_q2_numbers, .int q2_size])), (a_q2_kinds, .inl (kk 0, 20, .inl q2_kinds)), (a_q2_numbers, .inl (kk 0, 20, .inl q2_numbers))] (va_A [(a_t, .inr (6, [.ref a_t_draft, .ref a_t_nest])), (a_t_draft, .inr (1, [.ref a_t_draft_cells, .int t_draft_size])), (a_t_draft_cells, .inl (kk 1, 200, .inl t_draft_cells)), (a_t_nest, .inr (4, [.ref a_t_nest_ends, .ref a_t_nest_places, .ref a_t_nest_marks, .int t_nest_depth])), (a_t_nest_ends, .inl (kk 0, 20, .inl t_nest_ends)), (a_t_nest_places, .inl (kk 0, 20, .inl t_nest_places)), (a_t_nest_marks, .inl (kk 0, 20, .inl t_nest_marks)), (a_q1, .inr (5, [.ref a_q1_values, .long q1_seconds, .int q1_parts])), (a_q1_values, .inl (kk 0, 14, .inl q1_values)), (a_q2, .inr (2, [.ref a_q2_kinds, .ref a_q2_numbers, .int q2_size])), (a_q2_kinds, .inl (kk 0, 20, .inl q2_kinds)), (a_q2_numbers, .inl (kk 0, 20, .inl q2_numbers))] sz)) 0 0 (va_A [(a_t, .inr (6, [.ref a_t_draft, .ref a_t_nest])), (a_t_draft, .inr (1, [.ref a_t_draft_cells, .int t_draft_size])), (a_t_draft_cells, .inl (kk 1, 200, .inl t_draft_cells)), (a_t_nest, .inr (4, [.ref a_t_nest_ends, .ref a_t_nest_places, .ref a_t_nest_marks, .int t_nest_depth])), (a_t_nest_ends, .inl (kk 0, 20, .inl t_nest_ends)), (a_t_nest_places, .inl (kk 0, 20, .inl t_nest_places)), (a_t_nest_marks, .inl (kk 0, 20, .inl t_nest_marks)), (a_q1, .inr (5, [.ref a_q1_values, .long q1_seconds, .int q1_parts])), (a_q1_values, .inl (kk 0, 14, .inl q1_values)), (a_q2, .inr (2, [.ref a_q2_kinds, .ref a_q2_numbers, .int q2_size])), (a_q2_kinds, .inl (kk 0, 20, .inl q2_kinds)), (a_q2_numbers, .inl (kk 0, 20, .inl q2_numbers))] sz) := by
  refine k_start (Qc := fun A => KQi D kk o.1 [(a_t, .inr (6, [.ref a_t_draft, .ref a_t_nest])), (a_t_draft, .inr (1, [.ref a_t_draft_cells, .int o.2.1])), (a_t_draft_cells, .inl (kk 1, 200, .inl o.2.2.1)), (a_t_nest, .inr (4, [.ref a_t_nest_ends, .ref a_t_nest_places, .ref a_t_nest_marks, .int o.2.2.2.1])), (a_t_nest_ends, .inl (kk 0, 20, .inl o.2.2.2.2.1)), (a_t_nest_places, .inl (kk 0, 20, .inl o.2.2.2.2.2.1)), (a_t_nest_marks, .inl (kk 0, 20, .inl o.2.2.2.2.2.2)), (a_q1, .inr (5, [.ref a_q1_values, .long q1_seconds, .int q1_parts])), (a_q1_values, .inl (kk 0, 14, .inl q1_values)), (a_q2, .inr (2, [.ref a_q2_kinds, .ref a_q2_numbers, .int q2_size])), (a_q2_kinds, .inl (kk 0, 20, .inl q2_kinds)), (a_q2_numbers, .inl (kk 0, 20, .inl q2_numbers))] A) (by decide) (Nat.le_of_ble_eq_true rfl) ?_
  intro p e s m below meth c A ls S hnm hr hlk hA X hP hD hS hl
  have hl : lv_has ls 6 [(0, .ref a_t), (1, .ref a_q1), (2, .ref a_q2)] := hl
  have hx := S.1
  have hb := S.2.1
  unfold f_Printer_write at he
  refine lv_aload_n hx hb d_Printer_write_0 rfl (lv_at hl 0 rfl) ?_
  refine k_get S X us_Printer hP 0 rfl rfl 0 (by decide) gm_1_115 rfl d_Printer_write_1 ?_
  refine lv_iconst (v := (0 : Int32)) hx hb d_Printer_write_4 (by decide) ?_
  obtain ⟨u1, e2, he⟩ := ih_b he
  refine k_v (wr := [(a_t, .inr (6, [.ref a_t_draft, .ref a_t_nest])), (a_t_draft_cells, .inl (kk 1, 200, .inl t_draft_cells)), (a_t_nest, .inr (4, [.ref a_t_nest_ends, .ref a_t_nest_places, .ref a_t_nest_marks, .int t_nest_depth])), (a_t_nest_ends, .inl (kk 0, 20, .inl t_nest_ends)), (a_t_nest_places, .inl (kk 0, 20, .inl t_nest_places)), (a_t_nest_marks, .inl (kk 0, 20, .inl t_nest_marks)), (a_q1, .inr (5, [.ref a_q1_values, .long q1_seconds, .int q1_parts])), (a_q1_values, .inl (kk 0, 14, .inl q1_values)), (a_q2, .inr (2, [.ref a_q2_kinds, .ref a_q2_numbers, .int q2_size])), (a_q2_kinds, .inl (kk 0, 20, .inl q2_kinds)), (a_q2_numbers, .inl (kk 0, 20, .inl q2_numbers))]) (w1 := [(a_t_draft, .inr (1, [.ref a_t_draft_cells, .int u1]))]) (w2 := [(a_t, .inr (6, [.ref a_t_draft, .ref a_t_nest])), (a_t_draft, .inr (1, [.ref a_t_draft_cells, .int u1])), (a_t_draft_cells, .inl (kk 1, 200, .inl t_draft_cells)), (a_t_nest, .inr (4, [.ref a_t_nest_ends, .ref a_t_nest_places, .ref a_t_nest_marks, .int t_nest_depth])), (a_t_nest_ends, .inl (kk 0, 20, .inl t_nest_ends)), (a_t_nest_places, .inl (kk 0, 20, .inl t_nest_places)), (a_t_nest_marks, .inl (kk 0, 20, .inl t_nest_marks)), (a_q1, .inr (5, [.ref a_q1_values, .long q1_seconds, .int q1_parts])), (a_q1_values, .inl (kk 0, 14, .inl q1_values)), (a_q2, .inr (2, [.ref a_q2_kinds, .ref a_q2_numbers, .int q2_size])), (a_q2_kinds, .inl (kk 0, 20, .inl q2_kinds)), (a_q2_numbers, .inl (kk 0, 20, .inl q2_numbers))]) (r_V (As := [.int (0 : Int32)]) S X hA hP hD hS (c_Row_shorten l D kk st a_t_draft a_t_draft_cells _ t_draft_size (0 : Int32) u1 e2) gm_2_208 gm_3_50 gm_2_206 gm_2_207 gm_1_2 ⟨rfl, rfl, by decide, by decide⟩ kd_Row_shorten [1] rfl rfl rfl 1 1 rfl rfl rfl rfl hl.1 rfl (Nat.le_of_ble_eq_true rfl) d_Printer_write_5 ⟨Nat.zero_le _, Nat.zero_le _⟩) hA hP hD hS [1] [0, 2, 3, 4, 5, 6, 7, 8, 9, 10, 11] [0, 11, 1, 2, 3, 4, 5, 6, 7, 8, 9, 10] rfl rfl rfl (by decide) rfl rfl rfl (fun H locs hP hD hS => ?_)
  refine lv_aload_n hx hb d_Printer_write_8 rfl (lv_at hl 0 rfl) ?_
  refine k_get S X us_Printer hP 0 rfl rfl 1 (by decide) gm_1_117 rfl d_Printer_write_9 ?_
  obtain ⟨u3, e4, he⟩ := ih_b he
  refine k_v (wr := [(a_t, .inr (6, [.ref a_t_draft, .ref a_t_nest])), (a_t_draft, .inr (1, [.ref a_t_draft_cells, .int u1])), (a_t_draft_cells, .inl (kk 1, 200, .inl t_draft_cells)), (a_t_nest_ends, .inl (kk 0, 20, .inl t_nest_ends)), (a_t_nest_places, .inl (kk 0, 20, .inl t_nest_places)), (a_t_nest_marks, .inl (kk 0, 20, .inl t_nest_marks)), (a_q1, .inr (5, [.ref a_q1_values, .long q1_seconds, .int q1_parts])), (a_q1_values, .inl (kk 0, 14, .inl q1_values)), (a_q2, .inr (2, [.ref a_q2_kinds, .ref a_q2_numbers, .int q2_size])), (a_q2_kinds, .inl (kk 0, 20, .inl q2_kinds)), (a_q2_numbers, .inl (kk 0, 20, .inl q2_numbers))]) (w1 := [(a_t_nest, .inr (4, [.ref a_t_nest_ends, .ref a_t_nest_places, .ref a_t_nest_marks, .int u3]))]) (w2 := [(a_t, .inr (6, [.ref a_t_draft, .ref a_t_nest])), (a_t_draft, .inr (1, [.ref a_t_draft_cells, .int u1])), (a_t_draft_cells, .inl (kk 1, 200, .inl t_draft_cells)), (a_t_nest, .inr (4, [.ref a_t_nest_ends, .ref a_t_nest_places, .ref a_t_nest_marks, .int u3])), (a_t_nest_ends, .inl (kk 0, 20, .inl t_nest_ends)), (a_t_nest_places, .inl (kk 0, 20, .inl t_nest_places)), (a_t_nest_marks, .inl (kk 0, 20, .inl t_nest_marks)), (a_q1, .inr (5, [.ref a_q1_values, .long q1_seconds, .int q1_parts])), (a_q1_values, .inl (kk 0, 14, .inl q1_values)), (a_q2, .inr (2, [.ref a_q2_kinds, .ref a_q2_numbers, .int q2_size])), (a_q2_kinds, .inl (kk 0, 20, .inl q2_kinds)), (a_q2_numbers, .inl (kk 0, 20, .inl q2_numbers))]) (r_V (As := []) S X hA hP hD hS (c_Nest_clear l D kk st a_t_nest a_t_nest_ends a_t_nest_places a_t_nest_marks _ t_nest_depth u3 e4) gm_3_54 gm_3_51 gm_3_52 gm_3_53 gm_1_6 ⟨rfl, rfl, by decide, by decide⟩ kd_Nest_clear [3] rfl rfl rfl 3 4 rfl rfl rfl rfl hl.1 rfl (Nat.le_of_ble_eq_true rfl) d_Printer_write_12 ⟨Nat.zero_le _, Nat.zero_le _⟩) hA hP hD hS [3] [0, 1, 2, 4, 5, 6, 7, 8, 9, 10, 11] [0, 1, 2, 11, 3, 4, 5, 6, 7, 8, 9, 10] rfl rfl rfl (by decide) rfl rfl rfl (fun H locs hP hD hS => ?_)
  refine lv_iconst (v := (0 : Int32)) hx hb d_Printer_write_15 (by decide) ?_
  refine lv_istore_n hx hb d_Printer_write_16 rfl hl (by decide) rfl (fun ls hl => ?_)
  have hl : lv_has ls 6 [(3, .int (0 : Int32)), (0, .ref a_t), (1, .ref a_q1), (2, .ref a_q2)] := hl
  obtain ⟨u27, e28, he⟩ := ih_b he
  have hl : lv_has ls 6 [(0, .ref a_t), (1, .ref a_q1), (2, .ref a_q2), (3, .int (0 : Int32))] := lv_sub hl [1, 2, 3, 0] rfl
  rcases u27 with o29 | v30
  · have he := sel_l he
    cases he
    exact w_Printer_write_17 a_t a_t_draft a_t_draft_cells a_t_nest a_t_nest_ends a_t_nest_places a_t_nest_marks a_q1 a_q1_values a_q2 a_q2_kinds a_q2_numbers q1_seconds q1_parts q1_values q2_size q2_kinds q2_numbers S hr hlk hA X FU (0 : Int32) u1 t_draft_cells u3 t_nest_ends t_nest_places t_nest_marks _ _ _ ls e28 hl hP hD hS (fun o h => by cases h; rfl) (fun v h => by cases h)
  · have he := sel_r he
    refine w_Printer_write_17 a_t a_t_draft a_t_draft_cells a_t_nest a_t_nest_ends a_t_nest_places a_t_nest_marks a_q1 a_q1_values a_q2 a_q2_kinds a_q2_numbers q1_seconds q1_parts q1_values q2_size q2_kinds q2_numbers S hr hlk hA X FU (0 : Int32) u1 t_draft_cells u3 t_nest_ends t_nest_places t_nest_marks _ _ _ ls e28 hl hP hD hS (fun o h => by cases h) (fun v h H locs ls hl hP hD hS => ?_)
    have h := Sum.inr.inj h
    subst h
    refine lv_iconst (v := (1 : Int32)) hx hb d_Printer_write_151 (by decide) ?_
    cases he
    exact k_zre hx hb hr hlk X hP hD hS (Or.inr rfl) d_Printer_write_152
