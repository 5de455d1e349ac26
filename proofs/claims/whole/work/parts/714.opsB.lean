/-! moment, field. -/
theorem p_moment : pu_moment LI_ := by
  intro ps t_nearest t_text_size t_text_cells t_page_size t_page_cells t_parser_depth t_parser_quoted t_parser_pattern_size t_parser_pattern_kinds t_parser_pattern_numbers t_parser_open t_printer_draft_size t_printer_draft_cells t_printer_nest_depth t_printer_nest_ends t_printer_nest_places t_printer_nest_marks t_reader_loose t_reader_place t_reader_known_size t_reader_known_values t_reader_known_flags t_reader_known_order t_reader_nest_depth t_reader_nest_ends t_reader_nest_places t_reader_nest_marks t_resolver_style t_resolver_used t_resolver_day t_resolver_second t_resolver_moment_seconds t_resolver_moment_parts t_resolver_moment_values t_now_seconds t_now_parts t_now_values t_latest_seconds t_latest_parts t_latest_values m_length m_used m_far m_momentParts m_momentDay m_momentSecond m_momentNano m_momentOffset m_readParts m_readDay m_readSecond m_readNano m_readOffset m_alike m_text m_page m_names m_sort m_code m_count m_around m_end m_size m_there m_wish m_have m_known m_value m_before m_open m_from x0 x1 x2 x3 hI
  obtain ⟨hT, hG, hN, hW, hL, hM, hQ⟩ := hI
  have ex0 := jI_of x0
  have ex1 := iI_of x1
  have ex2 := iI_of x2
  have ex3 := iI_of x3
  have r0 := Int64.le_toInt x0
  have r1 := Int32.le_toInt x1
  have r2 := Int32.le_toInt x2
  have r3 := Int32.le_toInt x3
  have t0 := Int64.toInt_lt x0
  have t1 := Int32.toInt_lt x1
  have t2 := Int32.toInt_lt x2
  have t3 := Int32.toInt_lt x3
  generalize x0.toInt = sc at *
  generalize x1.toInt = n at *
  generalize x2.toInt = o at *
  generalize x3.toInt = q at *
  subst ex0 ex1 ex2 ex3
  have kn : (999999999 : Int32) = iI 999999999 := by decide
  have ka : (-1080 : Int32) = iI (-1080) := by decide
  have kb : (1080 : Int32) = iI 1080 := by decide
  have kc : (-40000000000000000 : Int64) = jI (-40000000000000000) := by decide
  have kd : (40000000000000000 : Int64) = jI 40000000000000000 := by decide
  have k7 : (7 : Int32) = iI 7 := by decide
  unfold f_SkeletonClock_moment f_SkeletonClockModel_moment jn_SkeletonClock_moment_59
  have e60 : jn_SkeletonClock_moment_60 t_now_seconds t_now_parts t_now_values (jI sc) (iI n) (iI o) (iI q) 0 = some ((0 : Int32), t_now_seconds, t_now_parts, t_now_values) := by
    unfold jn_SkeletonClock_moment_60
    rw [if_pos rfl]
  rw [e60]
  by_cases a1 : iI n < 0
  · rw [if_pos a1, if_pos a1]
    exact ⟨_, rfl, _, rfl, rfl, hT, hG, hN, hW, hL, hM, hQ⟩
  rw [if_neg a1, if_neg a1]
  by_cases a2 : (999999999 : Int32) < iI n
  · rw [if_pos a2, if_pos a2]
    exact ⟨_, rfl, _, rfl, rfl, hT, hG, hN, hW, hL, hM, hQ⟩
  rw [if_neg a2, if_neg a2]
  by_cases a3 : iI o < (-1080 : Int32)
  · rw [if_pos a3, if_pos a3]
    exact ⟨_, rfl, _, rfl, rfl, hT, hG, hN, hW, hL, hM, hQ⟩
  rw [if_neg a3, if_neg a3]
  by_cases a4 : (1080 : Int32) < iI o
  · rw [if_pos a4, if_pos a4]
    exact ⟨_, rfl, _, rfl, rfl, hT, hG, hN, hW, hL, hM, hQ⟩
  rw [if_neg a4, if_neg a4]
  by_cases a5 : iI q < (1 : Int32)
  · rw [if_pos a5, if_pos a5]
    exact ⟨_, rfl, _, rfl, rfl, hT, hG, hN, hW, hL, hM, hQ⟩
  rw [if_neg a5, if_neg a5]
  by_cases a6 : (7 : Int32) < iI q
  · rw [if_pos a6, if_neg (fun hh => Int32.not_lt.mpr hh a6)]
    exact ⟨_, rfl, _, rfl, rfl, hT, hG, hN, hW, hL, hM, hQ⟩
  rw [if_neg a6, if_pos (Int32.not_lt.mp a6)]
  by_cases a7 : jI sc < (-40000000000000000 : Int64)
  · rw [if_pos a7, if_pos a7]
    exact ⟨_, rfl, _, rfl, rfl, hT, hG, hN, hW, hL, hM, hQ⟩
  rw [if_neg a7, if_neg a7]
  by_cases a8 : (40000000000000000 : Int64) < jI sc
  · rw [if_pos a8, if_neg (fun hh => Int64.not_lt.mpr hh a8)]
    exact ⟨_, rfl, _, rfl, rfl, hT, hG, hN, hW, hL, hM, hQ⟩
  rw [if_neg a8, if_pos (Int64.not_lt.mp a8)]
  rw [k32_0, iI_lt (by omega) (by omega)] at a1
  rw [kn, iI_lt (by omega) (by omega)] at a2
  rw [ka, iI_lt (by omega) (by omega)] at a3
  rw [kb, iI_lt (by omega) (by omega)] at a4
  rw [k32_1, iI_lt (by omega) (by omega)] at a5
  rw [k7, iI_lt (by omega) (by omega)] at a6
  rw [kc, jI_lt (by omega) (by omega)] at a7
  rw [kd, jI_lt (by omega) (by omega)] at a8
  unfold jn_SkeletonClock_moment_60
  rw [if_neg (by decide), k64_60, k64_86400, i2j (by omega), jI_mul, jI_add, fd_j (by omega) (by omega), ob_some, md_j (by omega) (by omega), ob_some]
  generalize hd : (sc + 60 * o) / 86400 = d
  have bd : -1000000000000 ≤ d ∧ d ≤ 1000000000000 := by omega
  have hy : -10000000000 < yr d ∧ yr d < 10000000000 := by
    have := yr_near d
    omega
  obtain ⟨y1, y2⟩ := yf_m bd
  obtain ⟨z1, z2⟩ := iy_c hy
  rw [yo_c (by omega), ob_some]
  by_cases hf : -999999999 ≤ yr d ∧ yr d ≤ 999999999
  · rw [y1 hf, z1 hf, ob_some, ob_some, if_neg (by decide), if_neg (by decide)]
    obtain ⟨v, e, hv2⟩ := se_c (sc := sc) (o := o) (by omega) (by omega) t_now_seconds t_now_parts t_now_values (iI n) (iI q)
    rw [e, ob_some, jI_mul, jI_sub, j2i]
    have e2 : sc + 60 * o - 86400 * d = (sc + 60 * o) % 86400 := by omega
    rw [hd] at hv2
    rw [e2]
    have eq : iI q = nI q.toNat := by
      rw [nI_iI]
      congr 1
      omega
    refine ⟨_, rfl, _, rfl, rfl, hT, hG, hN, ⟨d, (sc + 60 * o) % 86400, n, o, q.toNat, rfl, rfl, rfl, rfl, eq, eq, by omega, by omega, by omega, by omega, by omega, hf, fun k hk => ?_⟩, hL, hM, hQ⟩
    rw [← VV_FV d _ n o k hk]
    exact hv2 k hk
  · rw [y2 hf, z2 hf, ob_some, ob_some, if_pos rfl, if_pos rfl]
    exact ⟨_, rfl, _, rfl, rfl, hT, hG, hN, hW, hL, hM, hQ⟩
theorem fo_tab : ∀ c, c < 256 → (c ≠ 120 ∧ f_String_indexOf_I 0 (nI c) = some (-1) ∧ f_SkeletonClockModel_fieldOf (nI c) = some (-1)) ∨ (c = 120 ∧ f_String_indexOf_I 0 (nI c) = some 14) ∨ (c ≠ 120 ∧ ∃ f, f < 14 ∧ cix f < 14 ∧ f_SkeletonClockModel_fieldOf (nI c) = some (nI f) ∧ f_String_indexOf_I 0 (nI c) = some (nI (cix f))) := by decide +kernel
theorem fo_big {c : Nat} (h : 256 ≤ c ∧ c < 65536) : f_String_indexOf_I 0 (nI c) = some (-1) ∧ f_SkeletonClockModel_fieldOf (nI c) = some (-1) := by
  have hne : ∀ k : Nat, k < 256 → ¬ nI c = nI k := fun k hk hh => by
    have := (nI_eq (by omega) (by omega)).mp hh
    omega
  constructor
  · have hcan : f_StringLatin1_canEncode (nI c) = some 0 := by
      unfold f_StringLatin1_canEncode
      have k255 : (255 : Int32) = nI 255 := by decide
      rw [if_neg (nI_pos (by omega)), k255, if_pos (nI_lt (by omega) (by omega))]
    unfold f_String_indexOf_I f_String_indexOf_II f_StringLatin1_indexOf
    rw [hcan]
    rfl
  · unfold f_SkeletonClockModel_fieldOf
    rw [if_neg (fun h => hne 117 (by decide) (h.trans (by decide))), if_neg (fun h => hne 77 (by decide) (h.trans (by decide))), if_neg (fun h => hne 100 (by decide) (h.trans (by decide))), if_neg (fun h => hne 68 (by decide) (h.trans (by decide))), if_neg (fun h => hne 69 (by decide) (h.trans (by decide))), if_neg (fun h => hne 119 (by decide) (h.trans (by decide))), if_neg (fun h => hne 89 (by decide) (h.trans (by decide)))]
    unfold jn_SkeletonClockModel_fieldOf_72
    rw [if_neg (fun h => hne 72 (by decide) (h.trans (by decide))), if_neg (fun h => hne 104 (by decide) (h.trans (by decide))), if_neg (fun h => hne 97 (by decide) (h.trans (by decide))), if_neg (fun h => hne 109 (by decide) (h.trans (by decide))), if_neg (fun h => hne 115 (by decide) (h.trans (by decide))), if_neg (fun h => hne 83 (by decide) (h.trans (by decide))), if_neg (fun h => hne 88 (by decide) (h.trans (by decide))), if_neg (fun h => hne 120 (by decide) (h.trans (by decide))), if_pos (by decide)]
theorem p_field : pu_field LI_ := by
  intro ps t_nearest t_text_size t_text_cells t_page_size t_page_cells t_parser_depth t_parser_quoted t_parser_pattern_size t_parser_pattern_kinds t_parser_pattern_numbers t_parser_open t_printer_draft_size t_printer_draft_cells t_printer_nest_depth t_printer_nest_ends t_printer_nest_places t_printer_nest_marks t_reader_loose t_reader_place t_reader_known_size t_reader_known_values t_reader_known_flags t_reader_known_order t_reader_nest_depth t_reader_nest_ends t_reader_nest_places t_reader_nest_marks t_resolver_style t_resolver_used t_resolver_day t_resolver_second t_resolver_moment_seconds t_resolver_moment_parts t_resolver_moment_values t_now_seconds t_now_parts t_now_values t_latest_seconds t_latest_parts t_latest_values m_length m_used m_far m_momentParts m_momentDay m_momentSecond m_momentNano m_momentOffset m_readParts m_readDay m_readSecond m_readNano m_readOffset m_alike m_text m_page m_names m_sort m_code m_count m_around m_end m_size m_there m_wish m_have m_known m_value m_before m_open m_from x0 hI
  obtain ⟨hT, hG, hN, hW, hL, hM, hQ⟩ := hI
  have hk : x0.toBitVec.toNat % 65536 < 65536 := Nat.mod_lt _ (by decide)
  rw [show ((Int32.toUInt32 x0) % 65536).toInt32 = nI (x0.toBitVec.toNat % 65536) from pk_char x0]
  generalize x0.toBitVec.toNat % 65536 = c at hk
  have hW2 := hW
  obtain ⟨d, s, n, o, p, h1, h2, h3, h4, h5, h6, h7, h8, h9, h10, h11, h12, h13⟩ := hW2
  subst h1 h2 h3 h4
  have bd := day_bd (d := d) (by omega)
  have k120 : (120 : Int32) = nI 120 := by decide
  unfold f_SkeletonClock_field f_SkeletonClockModel_field
  have hc : (c ≠ 120 ∧ f_String_indexOf_I 0 (nI c) = some (-1) ∧ f_SkeletonClockModel_fieldOf (nI c) = some (-1)) ∨ (c = 120 ∧ f_String_indexOf_I 0 (nI c) = some 14) ∨ (c ≠ 120 ∧ ∃ f, f < 14 ∧ cix f < 14 ∧ f_SkeletonClockModel_fieldOf (nI c) = some (nI f) ∧ f_String_indexOf_I 0 (nI c) = some (nI (cix f))) := by
    by_cases h : c < 256
    · exact fo_tab c h
    · exact Or.inl ⟨by omega, fo_big (by omega)⟩
  rcases hc with ⟨c1, c2, c3⟩ | ⟨c1, c2⟩ | ⟨c1, f, c2, c5, c3, c4⟩
  · rw [if_neg (fun hh => c1 (by rw [k120] at hh; exact (nI_eq (by omega) (by decide)).mp hh)), c3, c2, ob_some, ob_some, if_neg (by decide), if_pos (by decide)]
    exact ⟨_, rfl, _, rfl, rfl, hT, hG, hN, hW, hL, hM, hQ⟩
  · subst c1
    rw [if_pos k120.symm, c2, ob_some, if_neg (by decide), if_pos (by decide)]
    exact ⟨_, rfl, _, rfl, rfl, hT, hG, hN, hW, hL, hM, hQ⟩
  · have k14 : (14 : Int32) = nI 14 := by decide
    rw [if_neg (fun hh => c1 (by rw [k120] at hh; exact (nI_eq (by omega) (by decide)).mp hh)), c3, c4, ob_some, ob_some, if_pos (nI_pos' (by omega)), if_neg (nI_pos (by omega)), k14, if_neg (nI_ge c5 (by decide)), nI_iI, nI_iI, pr_m (by omega) (by omega) (by omega) (by omega) f (by omega), ob_some, mv_c _ (cix f) c5, ob_some, j2i]
    exact ⟨_, rfl, _, rfl, h13 _ c5, hT, hG, hN, hW, hL, hM, hQ⟩
