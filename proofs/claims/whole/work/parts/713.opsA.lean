/-! charAt, type, copy, take, moment, field. -/
theorem vc_n {k : Nat} (h : k < 65536) : vp_nar .char (nI k) = nI k := by
  unfold vp_nar
  rw [(pk_charN h).1]
theorem sN {n N : Nat} (h : n < N) (hN : N < 2 ^ 31) : ¬ (nI n < 0 ∨ N ≤ (nI n).toNatClampNeg) := vp_in_nI h hN
theorem m16 {k : Nat} (h : k < 65536) : ((Int32.toUInt32 (nI k)) % 65536).toInt32 = nI k := by
  rw [pk_char, pk_tn (by omega), Nat.mod_eq_of_lt h]
/-- a place below n -/
abbrev slotN (x : Int32) (n : Nat) : Prop := ¬ (x < 0 ∨ n ≤ x.toNatClampNeg)
theorem ca_c {cap n : Nat} (hn : n ≤ cap) (hc : cap ≤ 1000) (f : Nat → Int32) (x : Int32) : f_Row_codeAt cap (nI n) f x = some (if slotN x n then f x.toNatClampNeg else -1) := by
  unfold f_Row_codeAt slotN
  rcases pk_ix x (n := n) (by omega) with h | h | ⟨j, hj, rfl⟩
  · rw [if_pos h, if_neg (fun q => q (Or.inl h))]
  · by_cases h0 : x < 0
    · rw [if_pos h0, if_neg (fun q => q (Or.inl h0))]
    · rw [if_neg h0, if_pos h, if_neg (fun q => by
        have h1 : 0 ≤ x.toInt ∧ x.toInt < n := vp_in_iff.mp q
        have h2 := Int32.le_iff_toInt_le.mp h
        rw [nI_toInt (by omega)] at h2
        omega)]
  · have h0 : ¬ nI j < 0 := nI_pos (by omega)
    have h1 : ¬ nI n ≤ nI j := nI_ge hj (by omega)
    rw [if_neg h0, if_neg h1, if_pos (sN (by omega) (by omega)), if_pos (sN hj (by omega))]
theorem p_charAt : pu_charAt LI_ := by
  intro ps t_nearest t_text_size t_text_cells t_page_size t_page_cells t_parser_depth t_parser_quoted t_parser_pattern_size t_parser_pattern_kinds t_parser_pattern_numbers t_parser_open t_printer_draft_size t_printer_draft_cells t_printer_nest_depth t_printer_nest_ends t_printer_nest_places t_printer_nest_marks t_reader_loose t_reader_place t_reader_known_size t_reader_known_values t_reader_known_flags t_reader_known_order t_reader_nest_depth t_reader_nest_ends t_reader_nest_places t_reader_nest_marks t_resolver_style t_resolver_used t_resolver_day t_resolver_second t_resolver_moment_seconds t_resolver_moment_parts t_resolver_moment_values t_now_seconds t_now_parts t_now_values t_latest_seconds t_latest_parts t_latest_values m_length m_used m_far m_momentParts m_momentDay m_momentSecond m_momentNano m_momentOffset m_readParts m_readDay m_readSecond m_readNano m_readOffset m_alike m_text m_page m_names m_sort m_code m_count m_around m_end m_size m_there m_wish m_have m_known m_value m_before m_open m_from x0 hI
  obtain ⟨hT, hG, hN, hW, hL, hM, hQ⟩ := hI
  have hG2 := hG
  obtain ⟨n, h1, h2, h3, h4⟩ := hG2
  subst h2 h3
  have e1 : f_SkeletonClock_charAt (nI n) t_page_cells x0 = some (if slotN x0 n then t_page_cells x0.toNatClampNeg else -1) := by
    unfold f_SkeletonClock_charAt
    rw [ca_c h1 (by decide), ob_some]
  have e2 : f_SkeletonClockModel_charAt (nI n) m_page x0 = some (if slotN x0 n then m_page x0.toNatClampNeg else -1) := by
    exact ca_c (cap := 256) (by omega) (by decide) m_page x0
  refine ⟨_, e2, _, e1, ?_, hT, hG, hN, hW, hL, hM, hQ⟩
  by_cases hs : slotN x0 n
  · rw [if_pos hs, if_pos hs]
    obtain ⟨j, hj, e⟩ := vp_in_of hs (by omega)
    rw [e, nI_clamp (by omega)]
    exact (h4 j hj).1
  · rw [if_neg hs, if_neg hs]
theorem put_c {cap n : Nat} (hn : n ≤ cap) (hc : cap ≤ 1000) (f : Nat → Int32) {k : Nat} (hk : k < 65536) : (n < cap → f_Row_put cap (nI n) f (nI k) = some (1, nI (n + 1), upd f n (nI k))) ∧ (n = cap → f_Row_put cap (nI n) f (nI k) = some (0, nI n, f)) := by
  unfold f_Row_put
  have e : Int32.ofNat cap = nI cap := rfl
  rw [e]
  constructor
  · intro h
    rw [if_pos (nI_lt h (by omega)), if_pos (sN h (by omega)), nI_1, nI_clamp (by omega), vc_n hk]
  · intro h
    subst h
    rw [if_neg (nI_nlt (Nat.le_refl _) (by omega))]
theorem txt_put {cap n : Nat} {f g : Nat → Int32} {c : Nat} (hn : n < cap) (hc : 32 ≤ c ∧ c ≤ 126) (h : ∀ j, j < n → f j = g j ∧ ∃ c : Nat, 32 ≤ c ∧ c ≤ 126 ∧ g j = nI c) : R_txt cap (nI (n + 1)) (upd f n (nI c)) (nI (n + 1)) (upd g n (nI c)) := by
  refine ⟨n + 1, hn, rfl, rfl, fun j hj => ?_⟩
  by_cases hj2 : j = n
  · subst hj2
    rw [pk_us, pk_us]
    exact ⟨rfl, c, hc.1, hc.2, rfl⟩
  · rw [pk_un hj2, pk_un hj2]
    exact h j (by omega)
theorem p_type : pu_type LI_ := by
  intro ps t_nearest t_text_size t_text_cells t_page_size t_page_cells t_parser_depth t_parser_quoted t_parser_pattern_size t_parser_pattern_kinds t_parser_pattern_numbers t_parser_open t_printer_draft_size t_printer_draft_cells t_printer_nest_depth t_printer_nest_ends t_printer_nest_places t_printer_nest_marks t_reader_loose t_reader_place t_reader_known_size t_reader_known_values t_reader_known_flags t_reader_known_order t_reader_nest_depth t_reader_nest_ends t_reader_nest_places t_reader_nest_marks t_resolver_style t_resolver_used t_resolver_day t_resolver_second t_resolver_moment_seconds t_resolver_moment_parts t_resolver_moment_values t_now_seconds t_now_parts t_now_values t_latest_seconds t_latest_parts t_latest_values m_length m_used m_far m_momentParts m_momentDay m_momentSecond m_momentNano m_momentOffset m_readParts m_readDay m_readSecond m_readNano m_readOffset m_alike m_text m_page m_names m_sort m_code m_count m_around m_end m_size m_there m_wish m_have m_known m_value m_before m_open m_from x0 hI
  obtain ⟨hT, hG, hN, hW, hL, hM, hQ⟩ := hI
  have hT2 := hT
  obtain ⟨n, h1, h2, h3, h4⟩ := hT2
  subst h2 h3
  have hk : x0.toBitVec.toNat % 65536 < 65536 := Nat.mod_lt _ (by decide)
  rw [show ((Int32.toUInt32 x0) % 65536).toInt32 = nI (x0.toBitVec.toNat % 65536) from pk_char x0]
  generalize x0.toBitVec.toNat % 65536 = c at hk
  have k32 : (32 : Int32) = nI 32 := by decide
  have k126 : (126 : Int32) = nI 126 := by decide
  have k60 : (60 : Int32) = nI 60 := by decide
  unfold f_SkeletonClock_type f_SkeletonClockModel_type
  rw [k32, k126, k60]
  by_cases a1 : c < 32
  · have q1 : nI c < nI 32 := nI_lt a1 (by decide)
    rw [if_pos q1, if_pos q1]
    exact ⟨_, rfl, _, rfl, rfl, hT, hG, hN, hW, hL, hM, hQ⟩
  · have q1 : ¬ nI c < nI 32 := nI_nlt (by omega) (by omega)
    rw [if_neg q1, if_neg q1]
    by_cases a2 : 126 < c
    · have q2 : nI 126 < nI c := nI_lt a2 (by omega)
      rw [if_pos q2, if_pos q2]
      exact ⟨_, rfl, _, rfl, rfl, hT, hG, hN, hW, hL, hM, hQ⟩
    · have q2 : ¬ nI 126 < nI c := nI_nlt (by omega) (by omega)
      rw [if_neg q2, if_neg q2]
      obtain ⟨p1, p2⟩ := put_c h1 (by decide) t_text_cells hk
      by_cases a3 : n = 60
      · rw [p2 a3, ob_some, if_pos (by rw [a3]), if_pos rfl]
        exact ⟨_, rfl, _, rfl, rfl, hT, hG, hN, hW, hL, hM, hQ⟩
      · rw [p1 (by omega), ob_some, if_neg (fun hh => a3 ((nI_eq (by omega) (by omega)).mp hh)), if_pos (sN (by omega) (by decide)), if_neg (show ¬ ((1 : Int32), nI (n + 1), upd t_text_cells n (nI c)).1 = 0 from (by decide : ¬ (1 : Int32) = 0)), nI_1, nI_clamp (by omega), vc_n hk]
        exact ⟨_, rfl, _, rfl, rfl, txt_put (by omega) (by omega) h4, hG, hN, hW, hL, hM, hQ⟩
theorem be_c {n : Nat} (hn : n ≤ 60) (g : Nat → Int32) (hg : ∀ j, j < n → ∃ c : Nat, 32 ≤ c ∧ c ≤ 126 ∧ g j = nI c) (m : Nat) : ∀ (j k : Nat) (f : Nat → Int32), k + j = n → (∀ i, i < k → f i = g i) → ∃ v : Nat → Int32, lp_Row_become_7 60 200 (nI n) g (m + j + 1) (nI k) (nI k) f = some (nI n, nI n, v) ∧ ∀ i, i < n → v i = g i := by
  intro j
  induction j with
  | zero =>
    intro k f hk hf
    have hk : k = n := by omega
    subst hk
    refine ⟨f, ?_, hf⟩
    show st_Row_become_7 60 200 (nI k) g (lp_Row_become_7 60 200 (nI k) g (m + 0)) (nI k) (nI k) f = _
    unfold st_Row_become_7
    rw [if_pos (nI_le (Nat.le_refl _) (by omega))]
  | succ j ih =>
    intro k f hk hf
    obtain ⟨c, c1, c2, c3⟩ := hg k (by omega)
    obtain ⟨v, e, hv⟩ := ih (k + 1) (upd f k (g k)) (by omega) (fun i hi => by
      by_cases hi2 : i = k
      · subst hi2
        rw [pk_us]
      · rw [pk_un hi2]
        exact hf i (by omega))
    refine ⟨v, ?_, hv⟩
    show st_Row_become_7 60 200 (nI n) g (lp_Row_become_7 60 200 (nI n) g (m + j + 1)) (nI k) (nI k) f = _
    unfold st_Row_become_7
    rw [if_neg (nI_ge (by omega) (by omega)), ca_c (by omega) (by decide), ob_some, if_pos (sN (by omega) (by omega)), nI_clamp (by omega), c3, m16 (by omega), (put_c (by omega) (by decide) f (by omega)).1 (by omega), ob_some, nI_1, ← c3]
    exact e
theorem cp_m {n : Nat} (hn : n ≤ 60) (g : Nat → Int32) (hg : ∀ j, j < n → ∃ c : Nat, 32 ≤ c ∧ c ≤ 126 ∧ g j = nI c) (m : Nat) : ∀ (j k : Nat) (f : Nat → Int32), k + j = n → (∀ i, i < k → f i = g i) → ∃ v : Nat → Int32, lp_SkeletonClockModel_copy_13 (nI n) g (m + j + 1) (nI k) f = some (nI n, v) ∧ ∀ i, i < n → v i = g i := by
  intro j
  induction j with
  | zero =>
    intro k f hk hf
    have hk : k = n := by omega
    subst hk
    refine ⟨f, ?_, hf⟩
    show st_SkeletonClockModel_copy_13 (nI k) g (lp_SkeletonClockModel_copy_13 (nI k) g (m + 0)) (nI k) f = _
    unfold st_SkeletonClockModel_copy_13
    rw [if_pos (nI_le (Nat.le_refl _) (by omega))]
  | succ j ih =>
    intro k f hk hf
    obtain ⟨c, c1, c2, c3⟩ := hg k (by omega)
    obtain ⟨v, e, hv⟩ := ih (k + 1) (upd f k (g k)) (by omega) (fun i hi => by
      by_cases hi2 : i = k
      · subst hi2
        rw [pk_us]
      · rw [pk_un hi2]
        exact hf i (by omega))
    refine ⟨v, ?_, hv⟩
    show st_SkeletonClockModel_copy_13 (nI n) g (lp_SkeletonClockModel_copy_13 (nI n) g (m + j + 1)) (nI k) f = _
    unfold st_SkeletonClockModel_copy_13
    rw [if_neg (nI_ge (by omega) (by omega)), if_pos (sN (by omega) (by decide)), if_pos (sN (by omega) (by decide)), nI_clamp (by omega), c3, vc_n (by omega), nI_1, ← c3]
    exact e
theorem p_copy : pu_copy LI_ := by
  intro ps t_nearest t_text_size t_text_cells t_page_size t_page_cells t_parser_depth t_parser_quoted t_parser_pattern_size t_parser_pattern_kinds t_parser_pattern_numbers t_parser_open t_printer_draft_size t_printer_draft_cells t_printer_nest_depth t_printer_nest_ends t_printer_nest_places t_printer_nest_marks t_reader_loose t_reader_place t_reader_known_size t_reader_known_values t_reader_known_flags t_reader_known_order t_reader_nest_depth t_reader_nest_ends t_reader_nest_places t_reader_nest_marks t_resolver_style t_resolver_used t_resolver_day t_resolver_second t_resolver_moment_seconds t_resolver_moment_parts t_resolver_moment_values t_now_seconds t_now_parts t_now_values t_latest_seconds t_latest_parts t_latest_values m_length m_used m_far m_momentParts m_momentDay m_momentSecond m_momentNano m_momentOffset m_readParts m_readDay m_readSecond m_readNano m_readOffset m_alike m_text m_page m_names m_sort m_code m_count m_around m_end m_size m_there m_wish m_have m_known m_value m_before m_open m_from hI
  obtain ⟨hT, hG, hN, hW, hL, hM, hQ⟩ := hI
  have hG2 := hG
  obtain ⟨n, h1, h2, h3, h4⟩ := hG2
  subst h2 h3
  have k60 : (60 : Int32) = nI 60 := by decide
  have k0 : (0 : Int32) = nI 0 := by decide
  unfold f_SkeletonClock_copy f_SkeletonClockModel_copy
  by_cases a1 : n ≤ 60
  · rw [k60, if_pos (nI_le a1 (by decide)), if_pos (nI_le a1 (by decide))]
    have e : FU = (999 - n) + n + 1 := by
      unfold FU
      omega
    obtain ⟨v, e1, hv⟩ := be_c a1 t_page_cells (fun j hj => by rw [(h4 j hj).1]; exact (h4 j hj).2) (999 - n) n 0 t_text_cells (by omega) (fun i hi => by omega)
    obtain ⟨w, e2, hw⟩ := cp_m a1 m_page (fun j hj => (h4 j hj).2) (999 - n) n 0 m_text (by omega) (fun i hi => by omega)
    unfold f_Row_become
    rw [e, k0, e1, ob_some, ob_some, e2, ob_some]
    refine ⟨_, rfl, _, rfl, rfl, ⟨n, a1, rfl, rfl, fun j hj => ?_⟩, hG, hN, hW, hL, hM, hQ⟩
    show v j = w j ∧ ∃ c : Nat, 32 ≤ c ∧ c ≤ 126 ∧ w j = nI c
    rw [hv j hj, hw j hj]
    exact h4 j hj
  · rw [k60, if_neg (nI_ge (by omega) (by omega)), if_neg (nI_ge (by omega) (by omega))]
    exact ⟨_, rfl, _, rfl, rfl, hT, hG, hN, hW, hL, hM, hQ⟩
theorem iy_c {y : Int} (h : -10000000000 < y ∧ y < 10000000000) : ((-999999999 ≤ y ∧ y ≤ 999999999) → f_SkeletonClock_isYear (jI y) = some 1) ∧ (¬ (-999999999 ≤ y ∧ y ≤ 999999999) → f_SkeletonClock_isYear (jI y) = some 0) := by
  unfold f_SkeletonClock_isYear
  have k1 : (-999999999 : Int64) = jI (-999999999) := by decide
  have k2 : (999999999 : Int64) = jI 999999999 := by decide
  rw [k1, k2]
  constructor
  · intro hh
    rw [if_neg (fun q => by have := (jI_lt (by omega) (by omega)).mp q; omega), if_neg (fun q => by have := (jI_lt (by omega) (by omega)).mp q; omega)]
  · intro hh
    by_cases h1 : y < -999999999
    · rw [if_pos ((jI_lt (by omega) (by omega)).mpr h1)]
    · rw [if_neg (fun q => h1 ((jI_lt (by omega) (by omega)).mp q)), if_pos ((jI_lt (by omega) (by omega)).mpr (by omega))]
theorem p_take : pu_take LI_ := by
  intro ps t_nearest t_text_size t_text_cells t_page_size t_page_cells t_parser_depth t_parser_quoted t_parser_pattern_size t_parser_pattern_kinds t_parser_pattern_numbers t_parser_open t_printer_draft_size t_printer_draft_cells t_printer_nest_depth t_printer_nest_ends t_printer_nest_places t_printer_nest_marks t_reader_loose t_reader_place t_reader_known_size t_reader_known_values t_reader_known_flags t_reader_known_order t_reader_nest_depth t_reader_nest_ends t_reader_nest_places t_reader_nest_marks t_resolver_style t_resolver_used t_resolver_day t_resolver_second t_resolver_moment_seconds t_resolver_moment_parts t_resolver_moment_values t_now_seconds t_now_parts t_now_values t_latest_seconds t_latest_parts t_latest_values m_length m_used m_far m_momentParts m_momentDay m_momentSecond m_momentNano m_momentOffset m_readParts m_readDay m_readSecond m_readNano m_readOffset m_alike m_text m_page m_names m_sort m_code m_count m_around m_end m_size m_there m_wish m_have m_known m_value m_before m_open m_from hI
  obtain ⟨hT, hG, hN, hW, hL, hM, hQ⟩ := hI
  have hL2 := hL
  obtain ⟨d, s, n, o, p, h1, h2, h3, h4, h5, h6, h7, h8, h9, h10, h11, h12, h13, h14, h15⟩ := hL2
  subst h1 h2 h3 h4 h5 h6 h12
  have k0 : (0 : Int32) = nI 0 := by decide
  have k0' : (0 : Int32) = iI ((0 : Nat) : Int) := by decide
  unfold f_SkeletonClock_take f_SkeletonClockModel_take
  by_cases hp : p = 0
  · subst hp
    rw [if_pos k0.symm, if_pos k0.symm]
    exact ⟨_, rfl, _, rfl, rfl, hT, hG, hN, hW, hL, hM, hQ⟩
  · rw [if_neg (fun hh => hp (by rw [k0] at hh; exact (nI_eq (by omega) (by omega)).mp hh)), if_neg (fun hh => hp (by rw [k0] at hh; exact (nI_eq (by omega) (by omega)).mp hh))]
    have hv := h15 hp
    have hy : -2000000000 < yr d ∧ yr d < 2000000000 := by
      have := yr_near d
      omega
    have ev : f_Moment_value t_latest_values 0 = some (iI (yr d)) := by
      rw [k0', mv_c _ 0 (by decide), hv 0 (by decide)]
      rfl
    obtain ⟨y1, y2⟩ := yf_m (d := d) (by omega)
    obtain ⟨z1, z2⟩ := iy_c (y := yr d) (by omega)
    rw [ev, ob_some, i2j (by omega)]
    by_cases hf : -999999999 ≤ yr d ∧ yr d ≤ 999999999
    · rw [y1 hf, z1 hf, ob_some, ob_some, if_neg (by decide), if_neg (by decide)]
      unfold f_Moment_become
      have k12 : (12 : Int32) = iI ((12 : Nat) : Int) := by decide
      have k13 : (13 : Int32) = iI ((13 : Nat) : Int) := by decide
      rw [k12, k13, mv_c _ 12 (by decide), ob_some, mv_c _ 13 (by decide), ob_some, h13, h14]
      obtain ⟨v, e, hv2⟩ := se_c (sc := 86400 * d + s - 60 * o) (o := o) (by omega) (by omega) t_now_seconds t_now_parts t_now_values (iI n) (nI p)
      rw [e, ob_some, ob_some]
      have e1 : (86400 * d + s - 60 * o + 60 * o) / 86400 = d := by omega
      have e2 : (86400 * d + s - 60 * o + 60 * o) % 86400 = s := by omega
      rw [e1, e2] at hv2
      exact ⟨_, rfl, _, rfl, rfl, hT, hG, hN, ⟨d, s, n, o, p, rfl, rfl, rfl, rfl, rfl, rfl, by omega, by omega, h8, h9, h10, hf, fun k hk => by rw [← VV_FV d s n o k hk]; exact hv2 k hk⟩, hL, hM, hQ⟩
    · rw [y2 hf, z2 hf, ob_some, ob_some, if_pos rfl, if_pos rfl]
      exact ⟨_, rfl, _, rfl, rfl, hT, hG, hN, hW, hL, hM, hQ⟩
