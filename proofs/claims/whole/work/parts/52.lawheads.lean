/-! The law: its script, the slots. -/
theorem sc_in {n L : Nat} {c : Int32} (j : Nat) (hc : c = nI j) (h : n + j < L) (hL : L ≤ 3072) : vp_in (nI n + c) L := by
  subst hc
  rw [nI_add]
  exact vp_in_nI h (by omega)
theorem slot_iff (x : Int32) : slotP x ↔ (¬ x < 0 ∧ ¬ (6 : Int32) ≤ x) := by
  have h1 : slotP x ↔ 0 ≤ x.toInt ∧ x.toInt < (6 : Nat) := vp_in_iff
  rw [h1, Int32.lt_iff_toInt_lt, Int32.le_iff_toInt_le]
  have h2 : (0 : Int32).toInt = 0 := by decide
  have h3 : (6 : Int32).toInt = 6 := by decide
  rw [h2, h3]
  omega
theorem isSlot_eq (x : Int32) : f_SkeletonClock_isSlot x = some (if slotP x then 1 else 0) := by
  unfold f_SkeletonClock_isSlot
  by_cases h0 : x < 0
  · rw [if_pos h0, if_neg (fun h => ((slot_iff x).mp h).1 h0)]
  · rw [if_neg h0]
    by_cases h6 : (6 : Int32) ≤ x
    · rw [if_pos h6, if_neg (fun h => ((slot_iff x).mp h).2 h6)]
    · rw [if_neg h6, if_pos ((slot_iff x).mpr ⟨h0, h6⟩)]
theorem po_eq (f : Nat → Option Nat) (x : Int32) : f_SkeletonClock_patternOf f x = some (if slotP x then f x.toNatClampNeg else none) := by
  unfold f_SkeletonClock_patternOf
  rw [isSlot_eq]
  show (if (if slotP x then (1 : Int32) else 0) = 0 then some none else (if ¬ (x < 0 ∨ 6 ≤ x.toNatClampNeg) then some (f x.toNatClampNeg) else none)) = _
  by_cases h : slotP x
  · rw [if_pos h, if_pos h, if_neg (by decide), if_pos h]
  · rw [if_neg h, if_pos rfl, if_neg h]
theorem po_n {ad : Nat → Nat × Nat × Nat} {ps : Nat → Option PSt} {x : Int32} (h : ¬ slotP x ∨ ps x.toNatClampNeg = none) : f_SkeletonClock_patternOf (sl ad ps) x = some none := by
  rw [po_eq]
  by_cases hs : slotP x
  · rcases h with h | h
    · exact absurd hs h
    · rw [if_pos hs, sl_n h]
  · rw [if_neg hs]
theorem po_s {ad : Nat → Nat × Nat × Nat} {ps : Nat → Option PSt} {x : Int32} {q : PSt} (h : slotP x) (hq : ps x.toNatClampNeg = some q) : f_SkeletonClock_patternOf (sl ad ps) x = some (some (ad x.toNatClampNeg).1) := by
  rw [po_eq, if_pos h, sl_s hq]
theorem gm_2_53 : Cond.code ({ cls := "SkeletonClock", name := "type", desc := "(C)Z" } : MethodName) prog_1_method_2_code (2 : Nat) (Option.some FieldType.boolean) ∈ GW := gw_2 (i := 53) rfl rfl
theorem gm_2_50 : Cond.methodLink "SkeletonClockLaw" (13 : Nat) ({ cls := "SkeletonClock", name := "type", desc := "(C)Z" } : MethodName) ∈ GW := gw_2 (i := 50) rfl rfl
theorem gm_2_51 : Cond.instanceMethod ({ cls := "SkeletonClock", name := "type", desc := "(C)Z" } : MethodName) ∈ GW := gw_2 (i := 51) rfl rfl
theorem gm_2_52 : Cond.selects "SkeletonClock" ({ cls := "SkeletonClock", name := "type", desc := "(C)Z" } : MethodName) ({ cls := "SkeletonClock", name := "type", desc := "(C)Z" } : MethodName) ∈ GW := gw_2 (i := 52) rfl rfl
theorem gm_5_9 : Cond.code ({ cls := "SkeletonClockModel", name := "type", desc := "(C)Z" } : MethodName) prog_14_method_20_code (2 : Nat) (Option.some FieldType.boolean) ∈ GW := gw_5 (i := 9) rfl rfl
theorem gm_5_6 : Cond.methodLink "SkeletonClockLaw" (17 : Nat) ({ cls := "SkeletonClockModel", name := "type", desc := "(C)Z" } : MethodName) ∈ GW := gw_5 (i := 6) rfl rfl
theorem gm_5_7 : Cond.instanceMethod ({ cls := "SkeletonClockModel", name := "type", desc := "(C)Z" } : MethodName) ∈ GW := gw_5 (i := 7) rfl rfl
theorem gm_5_8 : Cond.selects "SkeletonClockModel" ({ cls := "SkeletonClockModel", name := "type", desc := "(C)Z" } : MethodName) ({ cls := "SkeletonClockModel", name := "type", desc := "(C)Z" } : MethodName) ∈ GW := gw_5 (i := 8) rfl rfl
theorem gm_2_61 : Cond.code ({ cls := "SkeletonClock", name := "define", desc := "(I)I" } : MethodName) prog_1_method_3_code (4 : Nat) (Option.some FieldType.int) ∈ GW := gw_2 (i := 61) rfl rfl
theorem gm_2_58 : Cond.methodLink "SkeletonClockLaw" (18 : Nat) ({ cls := "SkeletonClock", name := "define", desc := "(I)I" } : MethodName) ∈ GW := gw_2 (i := 58) rfl rfl
theorem gm_2_59 : Cond.instanceMethod ({ cls := "SkeletonClock", name := "define", desc := "(I)I" } : MethodName) ∈ GW := gw_2 (i := 59) rfl rfl
theorem gm_2_60 : Cond.selects "SkeletonClock" ({ cls := "SkeletonClock", name := "define", desc := "(I)I" } : MethodName) ({ cls := "SkeletonClock", name := "define", desc := "(I)I" } : MethodName) ∈ GW := gw_2 (i := 60) rfl rfl
theorem gm_5_13 : Cond.code ({ cls := "SkeletonClockModel", name := "define", desc := "(I)I" } : MethodName) prog_14_method_24_code (4 : Nat) (Option.some FieldType.int) ∈ GW := gw_5 (i := 13) rfl rfl
theorem gm_5_10 : Cond.methodLink "SkeletonClockLaw" (22 : Nat) ({ cls := "SkeletonClockModel", name := "define", desc := "(I)I" } : MethodName) ∈ GW := gw_5 (i := 10) rfl rfl
theorem gm_5_11 : Cond.instanceMethod ({ cls := "SkeletonClockModel", name := "define", desc := "(I)I" } : MethodName) ∈ GW := gw_5 (i := 11) rfl rfl
theorem gm_5_12 : Cond.selects "SkeletonClockModel" ({ cls := "SkeletonClockModel", name := "define", desc := "(I)I" } : MethodName) ({ cls := "SkeletonClockModel", name := "define", desc := "(I)I" } : MethodName) ∈ GW := gw_5 (i := 12) rfl rfl
theorem gm_2_229 : Cond.code ({ cls := "SkeletonClock", name := "match", desc := "()I" } : MethodName) prog_1_method_4_code (7 : Nat) (Option.some FieldType.int) ∈ GW := gw_2 (i := 229) rfl rfl
theorem gm_2_226 : Cond.methodLink "SkeletonClockLaw" (23 : Nat) ({ cls := "SkeletonClock", name := "match", desc := "()I" } : MethodName) ∈ GW := gw_2 (i := 226) rfl rfl
theorem gm_2_227 : Cond.instanceMethod ({ cls := "SkeletonClock", name := "match", desc := "()I" } : MethodName) ∈ GW := gw_2 (i := 227) rfl rfl
theorem gm_2_228 : Cond.selects "SkeletonClock" ({ cls := "SkeletonClock", name := "match", desc := "()I" } : MethodName) ({ cls := "SkeletonClock", name := "match", desc := "()I" } : MethodName) ∈ GW := gw_2 (i := 228) rfl rfl
theorem gm_5_47 : Cond.code ({ cls := "SkeletonClockModel", name := "match", desc := "()I" } : MethodName) prog_14_method_27_code (5 : Nat) (Option.some FieldType.int) ∈ GW := gw_5 (i := 47) rfl rfl
theorem gm_5_44 : Cond.methodLink "SkeletonClockLaw" (27 : Nat) ({ cls := "SkeletonClockModel", name := "match", desc := "()I" } : MethodName) ∈ GW := gw_5 (i := 44) rfl rfl
theorem gm_5_45 : Cond.instanceMethod ({ cls := "SkeletonClockModel", name := "match", desc := "()I" } : MethodName) ∈ GW := gw_5 (i := 45) rfl rfl
theorem gm_5_46 : Cond.selects "SkeletonClockModel" ({ cls := "SkeletonClockModel", name := "match", desc := "()I" } : MethodName) ({ cls := "SkeletonClockModel", name := "match", desc := "()I" } : MethodName) ∈ GW := gw_5 (i := 46) rfl rfl
theorem gm_3_11 : Cond.code ({ cls := "SkeletonClock", name := "distance", desc := "()I" } : MethodName) prog_1_method_5_code (1 : Nat) (Option.some FieldType.int) ∈ GW := gw_3 (i := 11) rfl rfl
theorem gm_3_8 : Cond.methodLink "SkeletonClockLaw" (28 : Nat) ({ cls := "SkeletonClock", name := "distance", desc := "()I" } : MethodName) ∈ GW := gw_3 (i := 8) rfl rfl
theorem gm_3_9 : Cond.instanceMethod ({ cls := "SkeletonClock", name := "distance", desc := "()I" } : MethodName) ∈ GW := gw_3 (i := 9) rfl rfl
theorem gm_3_10 : Cond.selects "SkeletonClock" ({ cls := "SkeletonClock", name := "distance", desc := "()I" } : MethodName) ({ cls := "SkeletonClock", name := "distance", desc := "()I" } : MethodName) ∈ GW := gw_3 (i := 10) rfl rfl
theorem gm_5_59 : Cond.code ({ cls := "SkeletonClockModel", name := "distance", desc := "()I" } : MethodName) prog_14_method_28_code (1 : Nat) (Option.some FieldType.int) ∈ GW := gw_5 (i := 59) rfl rfl
theorem gm_5_56 : Cond.methodLink "SkeletonClockLaw" (31 : Nat) ({ cls := "SkeletonClockModel", name := "distance", desc := "()I" } : MethodName) ∈ GW := gw_5 (i := 56) rfl rfl
theorem gm_5_57 : Cond.instanceMethod ({ cls := "SkeletonClockModel", name := "distance", desc := "()I" } : MethodName) ∈ GW := gw_5 (i := 57) rfl rfl
theorem gm_5_58 : Cond.selects "SkeletonClockModel" ({ cls := "SkeletonClockModel", name := "distance", desc := "()I" } : MethodName) ({ cls := "SkeletonClockModel", name := "distance", desc := "()I" } : MethodName) ∈ GW := gw_5 (i := 58) rfl rfl
theorem gm_6_41 : Cond.constantLong "SkeletonClockLaw" (32 : Nat) (4294967295 : Int64) ∈ GW := gw_6 (i := 41) rfl rfl
theorem gm_3_15 : Cond.code ({ cls := "SkeletonClock", name := "moment", desc := "(JIII)Z" } : MethodName) prog_1_method_6_code (7 : Nat) (Option.some FieldType.boolean) ∈ GW := gw_3 (i := 15) rfl rfl
theorem gm_3_12 : Cond.methodLink "SkeletonClockLaw" (34 : Nat) ({ cls := "SkeletonClock", name := "moment", desc := "(JIII)Z" } : MethodName) ∈ GW := gw_3 (i := 12) rfl rfl
theorem gm_3_13 : Cond.instanceMethod ({ cls := "SkeletonClock", name := "moment", desc := "(JIII)Z" } : MethodName) ∈ GW := gw_3 (i := 13) rfl rfl
theorem gm_3_14 : Cond.selects "SkeletonClock" ({ cls := "SkeletonClock", name := "moment", desc := "(JIII)Z" } : MethodName) ({ cls := "SkeletonClock", name := "moment", desc := "(JIII)Z" } : MethodName) ∈ GW := gw_3 (i := 14) rfl rfl
theorem gm_5_63 : Cond.code ({ cls := "SkeletonClockModel", name := "moment", desc := "(JIII)Z" } : MethodName) prog_14_method_30_code (10 : Nat) (Option.some FieldType.boolean) ∈ GW := gw_5 (i := 63) rfl rfl
theorem gm_5_60 : Cond.methodLink "SkeletonClockLaw" (38 : Nat) ({ cls := "SkeletonClockModel", name := "moment", desc := "(JIII)Z" } : MethodName) ∈ GW := gw_5 (i := 60) rfl rfl
theorem gm_5_61 : Cond.instanceMethod ({ cls := "SkeletonClockModel", name := "moment", desc := "(JIII)Z" } : MethodName) ∈ GW := gw_5 (i := 61) rfl rfl
theorem gm_5_62 : Cond.selects "SkeletonClockModel" ({ cls := "SkeletonClockModel", name := "moment", desc := "(JIII)Z" } : MethodName) ({ cls := "SkeletonClockModel", name := "moment", desc := "(JIII)Z" } : MethodName) ∈ GW := gw_5 (i := 62) rfl rfl
theorem gm_3_31 : Cond.code ({ cls := "SkeletonClock", name := "field", desc := "(C)I" } : MethodName) prog_1_method_7_code (3 : Nat) (Option.some FieldType.int) ∈ GW := gw_3 (i := 31) rfl rfl
theorem gm_3_28 : Cond.methodLink "SkeletonClockLaw" (39 : Nat) ({ cls := "SkeletonClock", name := "field", desc := "(C)I" } : MethodName) ∈ GW := gw_3 (i := 28) rfl rfl
theorem gm_3_29 : Cond.instanceMethod ({ cls := "SkeletonClock", name := "field", desc := "(C)I" } : MethodName) ∈ GW := gw_3 (i := 29) rfl rfl
theorem gm_3_30 : Cond.selects "SkeletonClock" ({ cls := "SkeletonClock", name := "field", desc := "(C)I" } : MethodName) ({ cls := "SkeletonClock", name := "field", desc := "(C)I" } : MethodName) ∈ GW := gw_3 (i := 30) rfl rfl
theorem gm_5_95 : Cond.code ({ cls := "SkeletonClockModel", name := "field", desc := "(C)I" } : MethodName) prog_14_method_31_code (3 : Nat) (Option.some FieldType.int) ∈ GW := gw_5 (i := 95) rfl rfl
theorem gm_5_92 : Cond.methodLink "SkeletonClockLaw" (43 : Nat) ({ cls := "SkeletonClockModel", name := "field", desc := "(C)I" } : MethodName) ∈ GW := gw_5 (i := 92) rfl rfl
theorem gm_5_93 : Cond.instanceMethod ({ cls := "SkeletonClockModel", name := "field", desc := "(C)I" } : MethodName) ∈ GW := gw_5 (i := 93) rfl rfl
theorem gm_5_94 : Cond.selects "SkeletonClockModel" ({ cls := "SkeletonClockModel", name := "field", desc := "(C)I" } : MethodName) ({ cls := "SkeletonClockModel", name := "field", desc := "(C)I" } : MethodName) ∈ GW := gw_5 (i := 94) rfl rfl
theorem gm_3_41 : Cond.code ({ cls := "SkeletonClock", name := "print", desc := "(I)I" } : MethodName) prog_1_method_8_code (3 : Nat) (Option.some FieldType.int) ∈ GW := gw_3 (i := 41) rfl rfl
theorem gm_3_38 : Cond.methodLink "SkeletonClockLaw" (44 : Nat) ({ cls := "SkeletonClock", name := "print", desc := "(I)I" } : MethodName) ∈ GW := gw_3 (i := 38) rfl rfl
theorem gm_3_39 : Cond.instanceMethod ({ cls := "SkeletonClock", name := "print", desc := "(I)I" } : MethodName) ∈ GW := gw_3 (i := 39) rfl rfl
theorem gm_3_40 : Cond.selects "SkeletonClock" ({ cls := "SkeletonClock", name := "print", desc := "(I)I" } : MethodName) ({ cls := "SkeletonClock", name := "print", desc := "(I)I" } : MethodName) ∈ GW := gw_3 (i := 40) rfl rfl
theorem gm_5_121 : Cond.code ({ cls := "SkeletonClockModel", name := "print", desc := "(I)I" } : MethodName) prog_14_method_36_code (5 : Nat) (Option.some FieldType.int) ∈ GW := gw_5 (i := 121) rfl rfl
theorem gm_5_118 : Cond.methodLink "SkeletonClockLaw" (47 : Nat) ({ cls := "SkeletonClockModel", name := "print", desc := "(I)I" } : MethodName) ∈ GW := gw_5 (i := 118) rfl rfl
theorem gm_5_119 : Cond.instanceMethod ({ cls := "SkeletonClockModel", name := "print", desc := "(I)I" } : MethodName) ∈ GW := gw_5 (i := 119) rfl rfl
theorem gm_5_120 : Cond.selects "SkeletonClockModel" ({ cls := "SkeletonClockModel", name := "print", desc := "(I)I" } : MethodName) ({ cls := "SkeletonClockModel", name := "print", desc := "(I)I" } : MethodName) ∈ GW := gw_5 (i := 120) rfl rfl
theorem gm_3_166 : Cond.code ({ cls := "SkeletonClock", name := "charAt", desc := "(I)I" } : MethodName) prog_1_method_9_code (2 : Nat) (Option.some FieldType.int) ∈ GW := gw_3 (i := 166) rfl rfl
theorem gm_3_163 : Cond.methodLink "SkeletonClockLaw" (48 : Nat) ({ cls := "SkeletonClock", name := "charAt", desc := "(I)I" } : MethodName) ∈ GW := gw_3 (i := 163) rfl rfl
theorem gm_3_164 : Cond.instanceMethod ({ cls := "SkeletonClock", name := "charAt", desc := "(I)I" } : MethodName) ∈ GW := gw_3 (i := 164) rfl rfl
theorem gm_3_165 : Cond.selects "SkeletonClock" ({ cls := "SkeletonClock", name := "charAt", desc := "(I)I" } : MethodName) ({ cls := "SkeletonClock", name := "charAt", desc := "(I)I" } : MethodName) ∈ GW := gw_3 (i := 165) rfl rfl
theorem gm_5_164 : Cond.code ({ cls := "SkeletonClockModel", name := "charAt", desc := "(I)I" } : MethodName) prog_14_method_40_code (2 : Nat) (Option.some FieldType.int) ∈ GW := gw_5 (i := 164) rfl rfl
theorem gm_5_161 : Cond.methodLink "SkeletonClockLaw" (51 : Nat) ({ cls := "SkeletonClockModel", name := "charAt", desc := "(I)I" } : MethodName) ∈ GW := gw_5 (i := 161) rfl rfl
theorem gm_5_162 : Cond.instanceMethod ({ cls := "SkeletonClockModel", name := "charAt", desc := "(I)I" } : MethodName) ∈ GW := gw_5 (i := 162) rfl rfl
theorem gm_5_163 : Cond.selects "SkeletonClockModel" ({ cls := "SkeletonClockModel", name := "charAt", desc := "(I)I" } : MethodName) ({ cls := "SkeletonClockModel", name := "charAt", desc := "(I)I" } : MethodName) ∈ GW := gw_5 (i := 163) rfl rfl
theorem gm_3_171 : Cond.code ({ cls := "SkeletonClock", name := "copy", desc := "()Z" } : MethodName) prog_1_method_10_code (1 : Nat) (Option.some FieldType.boolean) ∈ GW := gw_3 (i := 171) rfl rfl
theorem gm_3_168 : Cond.methodLink "SkeletonClockLaw" (52 : Nat) ({ cls := "SkeletonClock", name := "copy", desc := "()Z" } : MethodName) ∈ GW := gw_3 (i := 168) rfl rfl
theorem gm_3_169 : Cond.instanceMethod ({ cls := "SkeletonClock", name := "copy", desc := "()Z" } : MethodName) ∈ GW := gw_3 (i := 169) rfl rfl
theorem gm_3_170 : Cond.selects "SkeletonClock" ({ cls := "SkeletonClock", name := "copy", desc := "()Z" } : MethodName) ({ cls := "SkeletonClock", name := "copy", desc := "()Z" } : MethodName) ∈ GW := gw_3 (i := 170) rfl rfl
theorem gm_5_168 : Cond.code ({ cls := "SkeletonClockModel", name := "copy", desc := "()Z" } : MethodName) prog_14_method_41_code (2 : Nat) (Option.some FieldType.boolean) ∈ GW := gw_5 (i := 168) rfl rfl
theorem gm_5_165 : Cond.methodLink "SkeletonClockLaw" (56 : Nat) ({ cls := "SkeletonClockModel", name := "copy", desc := "()Z" } : MethodName) ∈ GW := gw_5 (i := 165) rfl rfl
theorem gm_5_166 : Cond.instanceMethod ({ cls := "SkeletonClockModel", name := "copy", desc := "()Z" } : MethodName) ∈ GW := gw_5 (i := 166) rfl rfl
theorem gm_5_167 : Cond.selects "SkeletonClockModel" ({ cls := "SkeletonClockModel", name := "copy", desc := "()Z" } : MethodName) ({ cls := "SkeletonClockModel", name := "copy", desc := "()Z" } : MethodName) ∈ GW := gw_5 (i := 167) rfl rfl
theorem gm_3_175 : Cond.code ({ cls := "SkeletonClock", name := "read", desc := "(IIZ)I" } : MethodName) prog_1_method_11_code (6 : Nat) (Option.some FieldType.int) ∈ GW := gw_3 (i := 175) rfl rfl
theorem gm_3_172 : Cond.methodLink "SkeletonClockLaw" (57 : Nat) ({ cls := "SkeletonClock", name := "read", desc := "(IIZ)I" } : MethodName) ∈ GW := gw_3 (i := 172) rfl rfl
theorem gm_3_173 : Cond.instanceMethod ({ cls := "SkeletonClock", name := "read", desc := "(IIZ)I" } : MethodName) ∈ GW := gw_3 (i := 173) rfl rfl
theorem gm_3_174 : Cond.selects "SkeletonClock" ({ cls := "SkeletonClock", name := "read", desc := "(IIZ)I" } : MethodName) ({ cls := "SkeletonClock", name := "read", desc := "(IIZ)I" } : MethodName) ∈ GW := gw_3 (i := 174) rfl rfl
theorem gm_5_172 : Cond.code ({ cls := "SkeletonClockModel", name := "read", desc := "(IIZ)I" } : MethodName) prog_14_method_62_code (5 : Nat) (Option.some FieldType.int) ∈ GW := gw_5 (i := 172) rfl rfl
theorem gm_5_169 : Cond.methodLink "SkeletonClockLaw" (61 : Nat) ({ cls := "SkeletonClockModel", name := "read", desc := "(IIZ)I" } : MethodName) ∈ GW := gw_5 (i := 169) rfl rfl
theorem gm_5_170 : Cond.instanceMethod ({ cls := "SkeletonClockModel", name := "read", desc := "(IIZ)I" } : MethodName) ∈ GW := gw_5 (i := 170) rfl rfl
theorem gm_5_171 : Cond.selects "SkeletonClockModel" ({ cls := "SkeletonClockModel", name := "read", desc := "(IIZ)I" } : MethodName) ({ cls := "SkeletonClockModel", name := "read", desc := "(IIZ)I" } : MethodName) ∈ GW := gw_5 (i := 171) rfl rfl
theorem gm_4_107 : Cond.code ({ cls := "SkeletonClock", name := "parts", desc := "()I" } : MethodName) prog_1_method_12_code (1 : Nat) (Option.some FieldType.int) ∈ GW := gw_4 (i := 107) rfl rfl
theorem gm_4_104 : Cond.methodLink "SkeletonClockLaw" (62 : Nat) ({ cls := "SkeletonClock", name := "parts", desc := "()I" } : MethodName) ∈ GW := gw_4 (i := 104) rfl rfl
theorem gm_4_105 : Cond.instanceMethod ({ cls := "SkeletonClock", name := "parts", desc := "()I" } : MethodName) ∈ GW := gw_4 (i := 105) rfl rfl
theorem gm_4_106 : Cond.selects "SkeletonClock" ({ cls := "SkeletonClock", name := "parts", desc := "()I" } : MethodName) ({ cls := "SkeletonClock", name := "parts", desc := "()I" } : MethodName) ∈ GW := gw_4 (i := 106) rfl rfl
theorem gm_6_24 : Cond.code ({ cls := "SkeletonClockModel", name := "parts", desc := "()I" } : MethodName) prog_14_method_63_code (1 : Nat) (Option.some FieldType.int) ∈ GW := gw_6 (i := 24) rfl rfl
theorem gm_6_21 : Cond.methodLink "SkeletonClockLaw" (65 : Nat) ({ cls := "SkeletonClockModel", name := "parts", desc := "()I" } : MethodName) ∈ GW := gw_6 (i := 21) rfl rfl
theorem gm_6_22 : Cond.instanceMethod ({ cls := "SkeletonClockModel", name := "parts", desc := "()I" } : MethodName) ∈ GW := gw_6 (i := 22) rfl rfl
theorem gm_6_23 : Cond.selects "SkeletonClockModel" ({ cls := "SkeletonClockModel", name := "parts", desc := "()I" } : MethodName) ({ cls := "SkeletonClockModel", name := "parts", desc := "()I" } : MethodName) ∈ GW := gw_6 (i := 23) rfl rfl
theorem gm_4_111 : Cond.code ({ cls := "SkeletonClock", name := "seconds", desc := "()J" } : MethodName) prog_1_method_13_code (1 : Nat) (Option.some FieldType.long) ∈ GW := gw_4 (i := 111) rfl rfl
theorem gm_4_108 : Cond.methodLink "SkeletonClockLaw" (66 : Nat) ({ cls := "SkeletonClock", name := "seconds", desc := "()J" } : MethodName) ∈ GW := gw_4 (i := 108) rfl rfl
theorem gm_4_109 : Cond.instanceMethod ({ cls := "SkeletonClock", name := "seconds", desc := "()J" } : MethodName) ∈ GW := gw_4 (i := 109) rfl rfl
theorem gm_4_110 : Cond.selects "SkeletonClock" ({ cls := "SkeletonClock", name := "seconds", desc := "()J" } : MethodName) ({ cls := "SkeletonClock", name := "seconds", desc := "()J" } : MethodName) ∈ GW := gw_4 (i := 110) rfl rfl
theorem gm_6_28 : Cond.code ({ cls := "SkeletonClockModel", name := "seconds", desc := "()J" } : MethodName) prog_14_method_64_code (1 : Nat) (Option.some FieldType.long) ∈ GW := gw_6 (i := 28) rfl rfl
theorem gm_6_25 : Cond.methodLink "SkeletonClockLaw" (70 : Nat) ({ cls := "SkeletonClockModel", name := "seconds", desc := "()J" } : MethodName) ∈ GW := gw_6 (i := 25) rfl rfl
theorem gm_6_26 : Cond.instanceMethod ({ cls := "SkeletonClockModel", name := "seconds", desc := "()J" } : MethodName) ∈ GW := gw_6 (i := 26) rfl rfl
theorem gm_6_27 : Cond.selects "SkeletonClockModel" ({ cls := "SkeletonClockModel", name := "seconds", desc := "()J" } : MethodName) ({ cls := "SkeletonClockModel", name := "seconds", desc := "()J" } : MethodName) ∈ GW := gw_6 (i := 27) rfl rfl
theorem gm_4_115 : Cond.code ({ cls := "SkeletonClock", name := "nano", desc := "()I" } : MethodName) prog_1_method_14_code (1 : Nat) (Option.some FieldType.int) ∈ GW := gw_4 (i := 115) rfl rfl
theorem gm_4_112 : Cond.methodLink "SkeletonClockLaw" (71 : Nat) ({ cls := "SkeletonClock", name := "nano", desc := "()I" } : MethodName) ∈ GW := gw_4 (i := 112) rfl rfl
theorem gm_4_113 : Cond.instanceMethod ({ cls := "SkeletonClock", name := "nano", desc := "()I" } : MethodName) ∈ GW := gw_4 (i := 113) rfl rfl
theorem gm_4_114 : Cond.selects "SkeletonClock" ({ cls := "SkeletonClock", name := "nano", desc := "()I" } : MethodName) ({ cls := "SkeletonClock", name := "nano", desc := "()I" } : MethodName) ∈ GW := gw_4 (i := 114) rfl rfl
theorem gm_6_32 : Cond.code ({ cls := "SkeletonClockModel", name := "nano", desc := "()I" } : MethodName) prog_14_method_65_code (1 : Nat) (Option.some FieldType.int) ∈ GW := gw_6 (i := 32) rfl rfl
theorem gm_6_29 : Cond.methodLink "SkeletonClockLaw" (74 : Nat) ({ cls := "SkeletonClockModel", name := "nano", desc := "()I" } : MethodName) ∈ GW := gw_6 (i := 29) rfl rfl
theorem gm_6_30 : Cond.instanceMethod ({ cls := "SkeletonClockModel", name := "nano", desc := "()I" } : MethodName) ∈ GW := gw_6 (i := 30) rfl rfl
theorem gm_6_31 : Cond.selects "SkeletonClockModel" ({ cls := "SkeletonClockModel", name := "nano", desc := "()I" } : MethodName) ({ cls := "SkeletonClockModel", name := "nano", desc := "()I" } : MethodName) ∈ GW := gw_6 (i := 31) rfl rfl
theorem gm_4_119 : Cond.code ({ cls := "SkeletonClock", name := "minutes", desc := "()I" } : MethodName) prog_1_method_15_code (1 : Nat) (Option.some FieldType.int) ∈ GW := gw_4 (i := 119) rfl rfl
theorem gm_4_116 : Cond.methodLink "SkeletonClockLaw" (75 : Nat) ({ cls := "SkeletonClock", name := "minutes", desc := "()I" } : MethodName) ∈ GW := gw_4 (i := 116) rfl rfl
theorem gm_4_117 : Cond.instanceMethod ({ cls := "SkeletonClock", name := "minutes", desc := "()I" } : MethodName) ∈ GW := gw_4 (i := 117) rfl rfl
theorem gm_4_118 : Cond.selects "SkeletonClock" ({ cls := "SkeletonClock", name := "minutes", desc := "()I" } : MethodName) ({ cls := "SkeletonClock", name := "minutes", desc := "()I" } : MethodName) ∈ GW := gw_4 (i := 118) rfl rfl
theorem gm_6_36 : Cond.code ({ cls := "SkeletonClockModel", name := "minutes", desc := "()I" } : MethodName) prog_14_method_66_code (1 : Nat) (Option.some FieldType.int) ∈ GW := gw_6 (i := 36) rfl rfl
theorem gm_6_33 : Cond.methodLink "SkeletonClockLaw" (78 : Nat) ({ cls := "SkeletonClockModel", name := "minutes", desc := "()I" } : MethodName) ∈ GW := gw_6 (i := 33) rfl rfl
theorem gm_6_34 : Cond.instanceMethod ({ cls := "SkeletonClockModel", name := "minutes", desc := "()I" } : MethodName) ∈ GW := gw_6 (i := 34) rfl rfl
theorem gm_6_35 : Cond.selects "SkeletonClockModel" ({ cls := "SkeletonClockModel", name := "minutes", desc := "()I" } : MethodName) ({ cls := "SkeletonClockModel", name := "minutes", desc := "()I" } : MethodName) ∈ GW := gw_6 (i := 35) rfl rfl
theorem gm_4_123 : Cond.code ({ cls := "SkeletonClock", name := "take", desc := "()Z" } : MethodName) prog_1_method_16_code (1 : Nat) (Option.some FieldType.boolean) ∈ GW := gw_4 (i := 123) rfl rfl
theorem gm_4_120 : Cond.methodLink "SkeletonClockLaw" (79 : Nat) ({ cls := "SkeletonClock", name := "take", desc := "()Z" } : MethodName) ∈ GW := gw_4 (i := 120) rfl rfl
theorem gm_4_121 : Cond.instanceMethod ({ cls := "SkeletonClock", name := "take", desc := "()Z" } : MethodName) ∈ GW := gw_4 (i := 121) rfl rfl
theorem gm_4_122 : Cond.selects "SkeletonClock" ({ cls := "SkeletonClock", name := "take", desc := "()Z" } : MethodName) ({ cls := "SkeletonClock", name := "take", desc := "()Z" } : MethodName) ∈ GW := gw_4 (i := 122) rfl rfl
theorem gm_6_40 : Cond.code ({ cls := "SkeletonClockModel", name := "take", desc := "()Z" } : MethodName) prog_14_method_67_code (1 : Nat) (Option.some FieldType.boolean) ∈ GW := gw_6 (i := 40) rfl rfl
theorem gm_6_37 : Cond.methodLink "SkeletonClockLaw" (82 : Nat) ({ cls := "SkeletonClockModel", name := "take", desc := "()Z" } : MethodName) ∈ GW := gw_6 (i := 37) rfl rfl
theorem gm_6_38 : Cond.instanceMethod ({ cls := "SkeletonClockModel", name := "take", desc := "()Z" } : MethodName) ∈ GW := gw_6 (i := 38) rfl rfl
theorem gm_6_39 : Cond.selects "SkeletonClockModel" ({ cls := "SkeletonClockModel", name := "take", desc := "()Z" } : MethodName) ({ cls := "SkeletonClockModel", name := "take", desc := "()Z" } : MethodName) ∈ GW := gw_6 (i := 39) rfl rfl
theorem d_law_0 : decode code 0 = .ok (.new 7, 3) := by decide +kernel
theorem d_law_3 : decode code 3 = .ok (.dup, 1) := by decide +kernel
theorem d_law_4 : decode code 4 = .ok (.invokespecial 9, 3) := by decide +kernel
theorem d_law_7 : decode code 7 = .ok (.astore_n 1, 1) := by decide +kernel
theorem d_law_8 : decode code 8 = .ok (.new 10, 3) := by decide +kernel
theorem d_law_11 : decode code 11 = .ok (.dup, 1) := by decide +kernel
theorem d_law_12 : decode code 12 = .ok (.invokespecial 12, 3) := by decide +kernel
theorem d_law_15 : decode code 15 = .ok (.astore_n 2, 1) := by decide +kernel
theorem d_law_16 : decode code 16 = .ok (.iconst 0, 1) := by decide +kernel
theorem d_law_17 : decode code 17 = .ok (.istore_n 3, 1) := by decide +kernel
theorem d_law_18 : decode code 18 = .ok (.iload_n 3, 1) := by decide +kernel
theorem d_law_19 : decode code 19 = .ok (.aload_n 0, 1) := by decide +kernel
theorem d_law_20 : decode code 20 = .ok (.arraylength, 1) := by decide +kernel
theorem d_law_21 : decode code 21 = .ok (.bipush 6, 2) := by decide +kernel
theorem d_law_23 : decode code 23 = .ok (.isub, 1) := by decide +kernel
theorem d_law_24 : decode code 24 = .ok (.if_icmp .gt 456, 3) := by decide +kernel
theorem d_law_27 : decode code 27 = .ok (.aload_n 0, 1) := by decide +kernel
theorem d_law_28 : decode code 28 = .ok (.iload_n 3, 1) := by decide +kernel
theorem d_law_29 : decode code 29 = .ok (.iaload, 1) := by decide +kernel
theorem d_law_30 : decode code 30 = .ok (.bipush 15, 2) := by decide +kernel
theorem d_law_32 : decode code 32 = .ok (.iand, 1) := by decide +kernel
theorem d_law_33 : decode code 33 = .ok (.tableswitch 441 0 14 #[75, 100, 123, 136, 149, 232, 257, 280, 303, 316, 375, 388, 402, 415, 428], 75) := by decide +kernel
theorem d_law_108 : decode code 108 = .ok (.aload_n 1, 1) := by decide +kernel
theorem d_law_109 : decode code 109 = .ok (.aload_n 0, 1) := by decide +kernel
theorem d_law_110 : decode code 110 = .ok (.iload_n 3, 1) := by decide +kernel
theorem d_law_111 : decode code 111 = .ok (.iconst 1, 1) := by decide +kernel
theorem d_law_112 : decode code 112 = .ok (.iadd, 1) := by decide +kernel
theorem d_law_113 : decode code 113 = .ok (.iaload, 1) := by decide +kernel
theorem d_law_114 : decode code 114 = .ok (.i2c, 1) := by decide +kernel
theorem d_law_115 : decode code 115 = .ok (.invokevirtual 13, 3) := by decide +kernel
theorem d_law_118 : decode code 118 = .ok (.aload_n 2, 1) := by decide +kernel
theorem d_law_119 : decode code 119 = .ok (.aload_n 0, 1) := by decide +kernel
theorem d_law_120 : decode code 120 = .ok (.iload_n 3, 1) := by decide +kernel
theorem d_law_121 : decode code 121 = .ok (.iconst 1, 1) := by decide +kernel
theorem d_law_122 : decode code 122 = .ok (.iadd, 1) := by decide +kernel
theorem d_law_123 : decode code 123 = .ok (.iaload, 1) := by decide +kernel
theorem d_law_124 : decode code 124 = .ok (.i2c, 1) := by decide +kernel
theorem d_law_125 : decode code 125 = .ok (.invokevirtual 17, 3) := by decide +kernel
theorem d_law_128 : decode code 128 = .ok (.if_icmp .eq 346, 3) := by decide +kernel
theorem d_law_131 : decode code 131 = .ok (.iconst 0, 1) := by decide +kernel
theorem d_law_132 : decode code 132 = .ok (.ireturn, 1) := by decide +kernel
theorem d_law_133 : decode code 133 = .ok (.aload_n 1, 1) := by decide +kernel
theorem d_law_134 : decode code 134 = .ok (.aload_n 0, 1) := by decide +kernel
theorem d_law_135 : decode code 135 = .ok (.iload_n 3, 1) := by decide +kernel
theorem d_law_136 : decode code 136 = .ok (.iconst 1, 1) := by decide +kernel
theorem d_law_137 : decode code 137 = .ok (.iadd, 1) := by decide +kernel
theorem d_law_138 : decode code 138 = .ok (.iaload, 1) := by decide +kernel
theorem d_law_139 : decode code 139 = .ok (.invokevirtual 18, 3) := by decide +kernel
theorem d_law_142 : decode code 142 = .ok (.aload_n 2, 1) := by decide +kernel
theorem d_law_143 : decode code 143 = .ok (.aload_n 0, 1) := by decide +kernel
theorem d_law_144 : decode code 144 = .ok (.iload_n 3, 1) := by decide +kernel
theorem d_law_145 : decode code 145 = .ok (.iconst 1, 1) := by decide +kernel
theorem d_law_146 : decode code 146 = .ok (.iadd, 1) := by decide +kernel
theorem d_law_147 : decode code 147 = .ok (.iaload, 1) := by decide +kernel
theorem d_law_148 : decode code 148 = .ok (.invokevirtual 22, 3) := by decide +kernel
theorem d_law_151 : decode code 151 = .ok (.if_icmp .eq 323, 3) := by decide +kernel
theorem d_law_154 : decode code 154 = .ok (.iconst 0, 1) := by decide +kernel
theorem d_law_155 : decode code 155 = .ok (.ireturn, 1) := by decide +kernel
theorem d_law_156 : decode code 156 = .ok (.aload_n 1, 1) := by decide +kernel
theorem d_law_157 : decode code 157 = .ok (.invokevirtual 23, 3) := by decide +kernel
theorem d_law_160 : decode code 160 = .ok (.aload_n 2, 1) := by decide +kernel
theorem d_law_161 : decode code 161 = .ok (.invokevirtual 27, 3) := by decide +kernel
theorem d_law_164 : decode code 164 = .ok (.if_icmp .eq 310, 3) := by decide +kernel
theorem d_law_167 : decode code 167 = .ok (.iconst 0, 1) := by decide +kernel
theorem d_law_168 : decode code 168 = .ok (.ireturn, 1) := by decide +kernel
theorem d_law_169 : decode code 169 = .ok (.aload_n 1, 1) := by decide +kernel
theorem d_law_170 : decode code 170 = .ok (.invokevirtual 28, 3) := by decide +kernel
theorem d_law_173 : decode code 173 = .ok (.aload_n 2, 1) := by decide +kernel
theorem d_law_174 : decode code 174 = .ok (.invokevirtual 31, 3) := by decide +kernel
theorem d_law_177 : decode code 177 = .ok (.if_icmp .eq 297, 3) := by decide +kernel
theorem d_law_180 : decode code 180 = .ok (.iconst 0, 1) := by decide +kernel
theorem d_law_181 : decode code 181 = .ok (.ireturn, 1) := by decide +kernel
theorem d_law_182 : decode code 182 = .ok (.aload_n 1, 1) := by decide +kernel
theorem d_law_183 : decode code 183 = .ok (.aload_n 0, 1) := by decide +kernel
theorem d_law_184 : decode code 184 = .ok (.iload_n 3, 1) := by decide +kernel
theorem d_law_185 : decode code 185 = .ok (.iconst 1, 1) := by decide +kernel
theorem d_law_186 : decode code 186 = .ok (.iadd, 1) := by decide +kernel
theorem d_law_187 : decode code 187 = .ok (.iaload, 1) := by decide +kernel
theorem d_law_188 : decode code 188 = .ok (.i2l, 1) := by decide +kernel
theorem d_law_189 : decode code 189 = .ok (.bipush 32, 2) := by decide +kernel
theorem d_law_191 : decode code 191 = .ok (.lshl, 1) := by decide +kernel
theorem d_law_192 : decode code 192 = .ok (.aload_n 0, 1) := by decide +kernel
theorem d_law_193 : decode code 193 = .ok (.iload_n 3, 1) := by decide +kernel
theorem d_law_194 : decode code 194 = .ok (.iconst 2, 1) := by decide +kernel
theorem d_law_195 : decode code 195 = .ok (.iadd, 1) := by decide +kernel
theorem d_law_196 : decode code 196 = .ok (.iaload, 1) := by decide +kernel
theorem d_law_197 : decode code 197 = .ok (.i2l, 1) := by decide +kernel
theorem d_law_198 : decode code 198 = .ok (.ldc2_w 32, 3) := by decide +kernel
theorem d_law_201 : decode code 201 = .ok (.land, 1) := by decide +kernel
theorem d_law_202 : decode code 202 = .ok (.lor, 1) := by decide +kernel
theorem d_law_203 : decode code 203 = .ok (.aload_n 0, 1) := by decide +kernel
theorem d_law_204 : decode code 204 = .ok (.iload_n 3, 1) := by decide +kernel
theorem d_law_205 : decode code 205 = .ok (.iconst 3, 1) := by decide +kernel
theorem d_law_206 : decode code 206 = .ok (.iadd, 1) := by decide +kernel
theorem d_law_207 : decode code 207 = .ok (.iaload, 1) := by decide +kernel
theorem d_law_208 : decode code 208 = .ok (.aload_n 0, 1) := by decide +kernel
theorem d_law_209 : decode code 209 = .ok (.iload_n 3, 1) := by decide +kernel
theorem d_law_210 : decode code 210 = .ok (.iconst 4, 1) := by decide +kernel
theorem d_law_211 : decode code 211 = .ok (.iadd, 1) := by decide +kernel
theorem d_law_212 : decode code 212 = .ok (.iaload, 1) := by decide +kernel
theorem d_law_213 : decode code 213 = .ok (.aload_n 0, 1) := by decide +kernel
theorem d_law_214 : decode code 214 = .ok (.iload_n 3, 1) := by decide +kernel
theorem d_law_215 : decode code 215 = .ok (.iconst 5, 1) := by decide +kernel
theorem d_law_216 : decode code 216 = .ok (.iadd, 1) := by decide +kernel
theorem d_law_217 : decode code 217 = .ok (.iaload, 1) := by decide +kernel
theorem d_law_218 : decode code 218 = .ok (.invokevirtual 34, 3) := by decide +kernel
theorem d_law_221 : decode code 221 = .ok (.aload_n 2, 1) := by decide +kernel
theorem d_law_222 : decode code 222 = .ok (.aload_n 0, 1) := by decide +kernel
theorem d_law_223 : decode code 223 = .ok (.iload_n 3, 1) := by decide +kernel
theorem d_law_224 : decode code 224 = .ok (.iconst 1, 1) := by decide +kernel
theorem d_law_225 : decode code 225 = .ok (.iadd, 1) := by decide +kernel
theorem d_law_226 : decode code 226 = .ok (.iaload, 1) := by decide +kernel
theorem d_law_227 : decode code 227 = .ok (.i2l, 1) := by decide +kernel
theorem d_law_228 : decode code 228 = .ok (.bipush 32, 2) := by decide +kernel
theorem d_law_230 : decode code 230 = .ok (.lshl, 1) := by decide +kernel
theorem d_law_231 : decode code 231 = .ok (.aload_n 0, 1) := by decide +kernel
theorem d_law_232 : decode code 232 = .ok (.iload_n 3, 1) := by decide +kernel
theorem d_law_233 : decode code 233 = .ok (.iconst 2, 1) := by decide +kernel
theorem d_law_234 : decode code 234 = .ok (.iadd, 1) := by decide +kernel
theorem d_law_235 : decode code 235 = .ok (.iaload, 1) := by decide +kernel
theorem d_law_236 : decode code 236 = .ok (.i2l, 1) := by decide +kernel
theorem d_law_237 : decode code 237 = .ok (.ldc2_w 32, 3) := by decide +kernel
theorem d_law_240 : decode code 240 = .ok (.land, 1) := by decide +kernel
theorem d_law_241 : decode code 241 = .ok (.lor, 1) := by decide +kernel
theorem d_law_242 : decode code 242 = .ok (.aload_n 0, 1) := by decide +kernel
theorem d_law_243 : decode code 243 = .ok (.iload_n 3, 1) := by decide +kernel
theorem d_law_244 : decode code 244 = .ok (.iconst 3, 1) := by decide +kernel
theorem d_law_245 : decode code 245 = .ok (.iadd, 1) := by decide +kernel
theorem d_law_246 : decode code 246 = .ok (.iaload, 1) := by decide +kernel
theorem d_law_247 : decode code 247 = .ok (.aload_n 0, 1) := by decide +kernel
theorem d_law_248 : decode code 248 = .ok (.iload_n 3, 1) := by decide +kernel
theorem d_law_249 : decode code 249 = .ok (.iconst 4, 1) := by decide +kernel
theorem d_law_250 : decode code 250 = .ok (.iadd, 1) := by decide +kernel
theorem d_law_251 : decode code 251 = .ok (.iaload, 1) := by decide +kernel
theorem d_law_252 : decode code 252 = .ok (.aload_n 0, 1) := by decide +kernel
theorem d_law_253 : decode code 253 = .ok (.iload_n 3, 1) := by decide +kernel
theorem d_law_254 : decode code 254 = .ok (.iconst 5, 1) := by decide +kernel
theorem d_law_255 : decode code 255 = .ok (.iadd, 1) := by decide +kernel
theorem d_law_256 : decode code 256 = .ok (.iaload, 1) := by decide +kernel
theorem d_law_257 : decode code 257 = .ok (.invokevirtual 38, 3) := by decide +kernel
theorem d_law_260 : decode code 260 = .ok (.if_icmp .eq 214, 3) := by decide +kernel
theorem d_law_263 : decode code 263 = .ok (.iconst 0, 1) := by decide +kernel
theorem d_law_264 : decode code 264 = .ok (.ireturn, 1) := by decide +kernel
theorem d_law_265 : decode code 265 = .ok (.aload_n 1, 1) := by decide +kernel
theorem d_law_266 : decode code 266 = .ok (.aload_n 0, 1) := by decide +kernel
theorem d_law_267 : decode code 267 = .ok (.iload_n 3, 1) := by decide +kernel
theorem d_law_268 : decode code 268 = .ok (.iconst 1, 1) := by decide +kernel
theorem d_law_269 : decode code 269 = .ok (.iadd, 1) := by decide +kernel
theorem d_law_270 : decode code 270 = .ok (.iaload, 1) := by decide +kernel
theorem d_law_271 : decode code 271 = .ok (.i2c, 1) := by decide +kernel
theorem d_law_272 : decode code 272 = .ok (.invokevirtual 39, 3) := by decide +kernel
theorem d_law_275 : decode code 275 = .ok (.aload_n 2, 1) := by decide +kernel
theorem d_law_276 : decode code 276 = .ok (.aload_n 0, 1) := by decide +kernel
theorem d_law_277 : decode code 277 = .ok (.iload_n 3, 1) := by decide +kernel
theorem d_law_278 : decode code 278 = .ok (.iconst 1, 1) := by decide +kernel
theorem d_law_279 : decode code 279 = .ok (.iadd, 1) := by decide +kernel
theorem d_law_280 : decode code 280 = .ok (.iaload, 1) := by decide +kernel
theorem d_law_281 : decode code 281 = .ok (.i2c, 1) := by decide +kernel
theorem d_law_282 : decode code 282 = .ok (.invokevirtual 43, 3) := by decide +kernel
theorem d_law_285 : decode code 285 = .ok (.if_icmp .eq 189, 3) := by decide +kernel
theorem d_law_288 : decode code 288 = .ok (.iconst 0, 1) := by decide +kernel
theorem d_law_289 : decode code 289 = .ok (.ireturn, 1) := by decide +kernel
theorem d_law_290 : decode code 290 = .ok (.aload_n 1, 1) := by decide +kernel
theorem d_law_291 : decode code 291 = .ok (.aload_n 0, 1) := by decide +kernel
theorem d_law_292 : decode code 292 = .ok (.iload_n 3, 1) := by decide +kernel
theorem d_law_293 : decode code 293 = .ok (.iconst 1, 1) := by decide +kernel
theorem d_law_294 : decode code 294 = .ok (.iadd, 1) := by decide +kernel
theorem d_law_295 : decode code 295 = .ok (.iaload, 1) := by decide +kernel
theorem d_law_296 : decode code 296 = .ok (.invokevirtual 44, 3) := by decide +kernel
theorem d_law_299 : decode code 299 = .ok (.aload_n 2, 1) := by decide +kernel
theorem d_law_300 : decode code 300 = .ok (.aload_n 0, 1) := by decide +kernel
theorem d_law_301 : decode code 301 = .ok (.iload_n 3, 1) := by decide +kernel
theorem d_law_302 : decode code 302 = .ok (.iconst 1, 1) := by decide +kernel
theorem d_law_303 : decode code 303 = .ok (.iadd, 1) := by decide +kernel
theorem d_law_304 : decode code 304 = .ok (.iaload, 1) := by decide +kernel
theorem d_law_305 : decode code 305 = .ok (.invokevirtual 47, 3) := by decide +kernel
theorem d_law_308 : decode code 308 = .ok (.if_icmp .eq 166, 3) := by decide +kernel
theorem d_law_311 : decode code 311 = .ok (.iconst 0, 1) := by decide +kernel
theorem d_law_312 : decode code 312 = .ok (.ireturn, 1) := by decide +kernel
theorem d_law_313 : decode code 313 = .ok (.aload_n 1, 1) := by decide +kernel
theorem d_law_314 : decode code 314 = .ok (.aload_n 0, 1) := by decide +kernel
theorem d_law_315 : decode code 315 = .ok (.iload_n 3, 1) := by decide +kernel
theorem d_law_316 : decode code 316 = .ok (.iconst 1, 1) := by decide +kernel
theorem d_law_317 : decode code 317 = .ok (.iadd, 1) := by decide +kernel
theorem d_law_318 : decode code 318 = .ok (.iaload, 1) := by decide +kernel
theorem d_law_319 : decode code 319 = .ok (.invokevirtual 48, 3) := by decide +kernel
theorem d_law_322 : decode code 322 = .ok (.aload_n 2, 1) := by decide +kernel
theorem d_law_323 : decode code 323 = .ok (.aload_n 0, 1) := by decide +kernel
theorem d_law_324 : decode code 324 = .ok (.iload_n 3, 1) := by decide +kernel
theorem d_law_325 : decode code 325 = .ok (.iconst 1, 1) := by decide +kernel
theorem d_law_326 : decode code 326 = .ok (.iadd, 1) := by decide +kernel
theorem d_law_327 : decode code 327 = .ok (.iaload, 1) := by decide +kernel
theorem d_law_328 : decode code 328 = .ok (.invokevirtual 51, 3) := by decide +kernel
theorem d_law_331 : decode code 331 = .ok (.if_icmp .eq 143, 3) := by decide +kernel
theorem d_law_334 : decode code 334 = .ok (.iconst 0, 1) := by decide +kernel
theorem d_law_335 : decode code 335 = .ok (.ireturn, 1) := by decide +kernel
theorem d_law_336 : decode code 336 = .ok (.aload_n 1, 1) := by decide +kernel
theorem d_law_337 : decode code 337 = .ok (.invokevirtual 52, 3) := by decide +kernel
theorem d_law_340 : decode code 340 = .ok (.aload_n 2, 1) := by decide +kernel
theorem d_law_341 : decode code 341 = .ok (.invokevirtual 56, 3) := by decide +kernel
theorem d_law_344 : decode code 344 = .ok (.if_icmp .eq 130, 3) := by decide +kernel
theorem d_law_347 : decode code 347 = .ok (.iconst 0, 1) := by decide +kernel
theorem d_law_348 : decode code 348 = .ok (.ireturn, 1) := by decide +kernel
theorem d_law_349 : decode code 349 = .ok (.aload_n 1, 1) := by decide +kernel
theorem d_law_350 : decode code 350 = .ok (.aload_n 0, 1) := by decide +kernel
theorem d_law_351 : decode code 351 = .ok (.iload_n 3, 1) := by decide +kernel
theorem d_law_352 : decode code 352 = .ok (.iconst 1, 1) := by decide +kernel
theorem d_law_353 : decode code 353 = .ok (.iadd, 1) := by decide +kernel
theorem d_law_354 : decode code 354 = .ok (.iaload, 1) := by decide +kernel
theorem d_law_355 : decode code 355 = .ok (.aload_n 0, 1) := by decide +kernel
theorem d_law_356 : decode code 356 = .ok (.iload_n 3, 1) := by decide +kernel
theorem d_law_357 : decode code 357 = .ok (.iconst 2, 1) := by decide +kernel
theorem d_law_358 : decode code 358 = .ok (.iadd, 1) := by decide +kernel
theorem d_law_359 : decode code 359 = .ok (.iaload, 1) := by decide +kernel
theorem d_law_360 : decode code 360 = .ok (.aload_n 0, 1) := by decide +kernel
theorem d_law_361 : decode code 361 = .ok (.iload_n 3, 1) := by decide +kernel
theorem d_law_362 : decode code 362 = .ok (.iconst 3, 1) := by decide +kernel
theorem d_law_363 : decode code 363 = .ok (.iadd, 1) := by decide +kernel
theorem d_law_364 : decode code 364 = .ok (.iaload, 1) := by decide +kernel
theorem d_law_365 : decode code 365 = .ok (.ifCond .eq 7, 3) := by decide +kernel
theorem d_law_368 : decode code 368 = .ok (.iconst 1, 1) := by decide +kernel
theorem d_law_369 : decode code 369 = .ok (.goto 4, 3) := by decide +kernel
theorem d_law_372 : decode code 372 = .ok (.iconst 0, 1) := by decide +kernel
theorem d_law_373 : decode code 373 = .ok (.invokevirtual 57, 3) := by decide +kernel
theorem d_law_376 : decode code 376 = .ok (.aload_n 2, 1) := by decide +kernel
theorem d_law_377 : decode code 377 = .ok (.aload_n 0, 1) := by decide +kernel
theorem d_law_378 : decode code 378 = .ok (.iload_n 3, 1) := by decide +kernel
theorem d_law_379 : decode code 379 = .ok (.iconst 1, 1) := by decide +kernel
theorem d_law_380 : decode code 380 = .ok (.iadd, 1) := by decide +kernel
theorem d_law_381 : decode code 381 = .ok (.iaload, 1) := by decide +kernel
theorem d_law_382 : decode code 382 = .ok (.aload_n 0, 1) := by decide +kernel
theorem d_law_383 : decode code 383 = .ok (.iload_n 3, 1) := by decide +kernel
theorem d_law_384 : decode code 384 = .ok (.iconst 2, 1) := by decide +kernel
theorem d_law_385 : decode code 385 = .ok (.iadd, 1) := by decide +kernel
theorem d_law_386 : decode code 386 = .ok (.iaload, 1) := by decide +kernel
theorem d_law_387 : decode code 387 = .ok (.aload_n 0, 1) := by decide +kernel
theorem d_law_388 : decode code 388 = .ok (.iload_n 3, 1) := by decide +kernel
theorem d_law_389 : decode code 389 = .ok (.iconst 3, 1) := by decide +kernel
theorem d_law_390 : decode code 390 = .ok (.iadd, 1) := by decide +kernel
theorem d_law_391 : decode code 391 = .ok (.iaload, 1) := by decide +kernel
theorem d_law_392 : decode code 392 = .ok (.ifCond .eq 7, 3) := by decide +kernel
theorem d_law_395 : decode code 395 = .ok (.iconst 1, 1) := by decide +kernel
theorem d_law_396 : decode code 396 = .ok (.goto 4, 3) := by decide +kernel
theorem d_law_399 : decode code 399 = .ok (.iconst 0, 1) := by decide +kernel
theorem d_law_400 : decode code 400 = .ok (.invokevirtual 61, 3) := by decide +kernel
theorem d_law_403 : decode code 403 = .ok (.if_icmp .eq 71, 3) := by decide +kernel
theorem d_law_406 : decode code 406 = .ok (.iconst 0, 1) := by decide +kernel
theorem d_law_407 : decode code 407 = .ok (.ireturn, 1) := by decide +kernel
theorem d_law_408 : decode code 408 = .ok (.aload_n 1, 1) := by decide +kernel
theorem d_law_409 : decode code 409 = .ok (.invokevirtual 62, 3) := by decide +kernel
theorem d_law_412 : decode code 412 = .ok (.aload_n 2, 1) := by decide +kernel
theorem d_law_413 : decode code 413 = .ok (.invokevirtual 65, 3) := by decide +kernel
theorem d_law_416 : decode code 416 = .ok (.if_icmp .eq 58, 3) := by decide +kernel
theorem d_law_419 : decode code 419 = .ok (.iconst 0, 1) := by decide +kernel
theorem d_law_420 : decode code 420 = .ok (.ireturn, 1) := by decide +kernel
theorem d_law_421 : decode code 421 = .ok (.aload_n 1, 1) := by decide +kernel
theorem d_law_422 : decode code 422 = .ok (.invokevirtual 66, 3) := by decide +kernel
theorem d_law_425 : decode code 425 = .ok (.aload_n 2, 1) := by decide +kernel
theorem d_law_426 : decode code 426 = .ok (.invokevirtual 70, 3) := by decide +kernel
theorem d_law_429 : decode code 429 = .ok (.lcmp, 1) := by decide +kernel
theorem d_law_430 : decode code 430 = .ok (.ifCond .eq 44, 3) := by decide +kernel
theorem d_law_433 : decode code 433 = .ok (.iconst 0, 1) := by decide +kernel
theorem d_law_434 : decode code 434 = .ok (.ireturn, 1) := by decide +kernel
theorem d_law_435 : decode code 435 = .ok (.aload_n 1, 1) := by decide +kernel
theorem d_law_436 : decode code 436 = .ok (.invokevirtual 71, 3) := by decide +kernel
theorem d_law_439 : decode code 439 = .ok (.aload_n 2, 1) := by decide +kernel
theorem d_law_440 : decode code 440 = .ok (.invokevirtual 74, 3) := by decide +kernel
theorem d_law_443 : decode code 443 = .ok (.if_icmp .eq 31, 3) := by decide +kernel
theorem d_law_446 : decode code 446 = .ok (.iconst 0, 1) := by decide +kernel
theorem d_law_447 : decode code 447 = .ok (.ireturn, 1) := by decide +kernel
theorem d_law_448 : decode code 448 = .ok (.aload_n 1, 1) := by decide +kernel
theorem d_law_449 : decode code 449 = .ok (.invokevirtual 75, 3) := by decide +kernel
theorem d_law_452 : decode code 452 = .ok (.aload_n 2, 1) := by decide +kernel
theorem d_law_453 : decode code 453 = .ok (.invokevirtual 78, 3) := by decide +kernel
theorem d_law_456 : decode code 456 = .ok (.if_icmp .eq 18, 3) := by decide +kernel
theorem d_law_459 : decode code 459 = .ok (.iconst 0, 1) := by decide +kernel
theorem d_law_460 : decode code 460 = .ok (.ireturn, 1) := by decide +kernel
theorem d_law_461 : decode code 461 = .ok (.aload_n 1, 1) := by decide +kernel
theorem d_law_462 : decode code 462 = .ok (.invokevirtual 79, 3) := by decide +kernel
theorem d_law_465 : decode code 465 = .ok (.aload_n 2, 1) := by decide +kernel
theorem d_law_466 : decode code 466 = .ok (.invokevirtual 82, 3) := by decide +kernel
theorem d_law_469 : decode code 469 = .ok (.if_icmp .eq 5, 3) := by decide +kernel
theorem d_law_472 : decode code 472 = .ok (.iconst 0, 1) := by decide +kernel
theorem d_law_473 : decode code 473 = .ok (.ireturn, 1) := by decide +kernel
theorem d_law_474 : decode code 474 = .ok (.iinc 3 6, 3) := by decide +kernel
theorem d_law_477 : decode code 477 = .ok (.goto (-459), 3) := by decide +kernel
theorem d_law_480 : decode code 480 = .ok (.iconst 1, 1) := by decide +kernel
theorem d_law_481 : decode code 481 = .ok (.ireturn, 1) := by decide +kernel
