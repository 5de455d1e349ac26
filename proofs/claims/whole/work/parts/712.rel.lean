/-! The relation between the class and the reference, between two calls. -/
/-- a row of characters on both sides -/
def R_txt (cap : Nat) (sz : Int32) (f : Nat → Int32) (len : Int32) (g : Nat → Int32) : Prop := ∃ n : Nat, n ≤ cap ∧ sz = nI n ∧ len = nI n ∧ ∀ j, j < n → f j = g j ∧ ∃ c : Nat, 32 ≤ c ∧ c ≤ 126 ∧ g j = nI c
/-- the moment -/
def R_now (v : Nat → Int32) (parts mp : Int32) (md : Int64) (ms mn mo : Int32) : Prop := ∃ (d s n o : Int) (p : Nat), md = jI d ∧ ms = iI s ∧ mn = iI n ∧ mo = iI o ∧ parts = nI p ∧ mp = nI p ∧ 1 ≤ p ∧ p ≤ 7 ∧ (0 ≤ s ∧ s < 86400) ∧ (0 ≤ n ∧ n ≤ 999999999) ∧ (-1080 ≤ o ∧ o ≤ 1080) ∧ (-999999999 ≤ yr d ∧ yr d ≤ 999999999) ∧ ∀ k, k < 14 → v k = iI (FV d s n o k)
/-- the last reading -/
def R_lat (v : Nat → Int32) (sec : Int64) (parts rp : Int32) (rd : Int64) (rs rn ro : Int32) : Prop := ∃ (d s n o : Int) (p : Nat), rd = jI d ∧ rs = iI s ∧ rn = iI n ∧ ro = iI o ∧ parts = nI p ∧ rp = nI p ∧ p ≤ 7 ∧ (0 ≤ s ∧ s < 86400) ∧ (0 ≤ n ∧ n ≤ 999999999) ∧ (-1080 ≤ o ∧ o ≤ 1080) ∧ (-400000000000 ≤ d ∧ d ≤ 400000000000) ∧ sec = jI (86400 * d + s - 60 * o) ∧ v 12 = iI n ∧ v 13 = iI o ∧ (p ≠ 0 → ∀ k, k < 14 → v k = iI (FV d s n o k))
/-- the names' codes -/
def nm0L : List Int64 := [27449276458, 878376978598, 8505389, 12896769, 25645, 178858, 832170, 691707553, 19965597597875, 19497734255, 623924926958, 623924907172, 840055277, 26881922740, 27527088640183, 860221953300, 840050246, 860221001779, 840055475, 417, 432]
def R_nam (g : Nat → Int64) : Prop := ∀ k, k < 21 → g k = nm0L.getD k 0
/-- what the reader knows: z fields, in the order od -/
def cnt (fl : Nat → Int32) : Nat → Nat
  | 0 => 0
  | k + 1 => cnt fl k + (if fl k = 0 then 0 else 1)
def KN (z : Nat) (fl od : Nat → Int32) : Prop := z = cnt fl 14 ∧ (∀ f, f < 14 → fl f = 0 ∨ fl f = 1) ∧ (∀ i, i < z → ∃ f : Nat, f < 14 ∧ od i = nI f ∧ fl f = 1) ∧ (∀ i j, i < j → j < z → od i ≠ od j) ∧ (∀ f, f < 14 → fl f = 1 → ∃ i, i < z ∧ od i = nI f)
def R_kno (sz : Int32) (fl od : Nat → Int32) : Prop := ∃ z : Nat, sz = nI z ∧ KN z fl od
/-- the letters of the fields, by their places in the class's row -/
def lixL : List Nat := [117, 89, 77, 100, 68, 69, 119, 72, 104, 97, 109, 115, 83, 88, 120]
/-- one pattern: pieces 0 .. n - 1; kinds and numbers of the class, sort, code, count, around, end of the reference -/
def PC (kd nb so co cn : Int32) : Prop := (so = 0 ∧ kd = 15 ∧ nb = co ∧ ∃ c : Nat, 32 ≤ c ∧ c ≤ 126 ∧ co = nI c) ∨ (so = 1 ∧ ∃ i c : Nat, i < 15 ∧ 1 ≤ c ∧ c ≤ 9 ∧ kd = nI i ∧ co = nI (lixL.getD i 0) ∧ nb = nI c ∧ cn = nI c ∧ (tb_allowed i >>> (nI c &&& 31)) &&& 1 = 1)
/-- s pieces; E: where a section ends, 1000 while it is open -/
def PV (s : Nat) (kd nb so co cn ar en : Nat → Int32) (E : Nat → Nat) : Prop :=
  (∀ j, j < s → PC (kd j) (nb j) (so j) (co j) (cn j) ∨ (so j = 2 ∧ kd j = 16 ∧ j < E j ∧ ((E j ≤ s ∧ nb j = nI (E j) ∧ en j = nI (E j)) ∨ E j = 1000))) ∧
  (∀ j, j < s → (ar j = -1 ∧ ∀ a, a < j → so a = 2 → E a ≤ j) ∨ ∃ a, a < j ∧ ar j = nI a ∧ so a = 2 ∧ j < E a ∧ ∀ b, a < b → b < j → so b = 2 → E b ≤ j) ∧
  (∀ a b, a < b → b < s → so a = 2 → so b = 2 → b < E a → E b ≤ E a)
def R_pie (n : Nat) (kd nb so co cn ar en : Nat → Int32) : Prop := ∃ E : Nat → Nat, PV n kd nb so co cn ar en E ∧ ∀ j, j < n → so j = 2 → E j ≤ n
def R_pat (ps : Nat → Option PSt) (so co cn ar en sz tr : Nat → Int32) : Prop := ∀ k, k < 6 → (tr k = 0 ∧ ps k = none) ∨ (tr k = 1 ∧ ∃ (q : PSt) (n : Nat), ps k = some q ∧ n ≤ 20 ∧ q.2.2 = nI n ∧ sz k = nI n ∧ R_pie n q.1 q.2.1 (fun j => so (20 * k + j)) (fun j => co (20 * k + j)) (fun j => cn (20 * k + j)) (fun j => ar (20 * k + j)) (fun j => en (20 * k + j)))
def LI_ : LIT := fun ps t_nearest t_text_size t_text_cells t_page_size t_page_cells t_parser_depth t_parser_quoted t_parser_pattern_size t_parser_pattern_kinds t_parser_pattern_numbers t_parser_open t_printer_draft_size t_printer_draft_cells t_printer_nest_depth t_printer_nest_ends t_printer_nest_places t_printer_nest_marks t_reader_loose t_reader_place t_reader_known_size t_reader_known_values t_reader_known_flags t_reader_known_order t_reader_nest_depth t_reader_nest_ends t_reader_nest_places t_reader_nest_marks t_resolver_style t_resolver_used t_resolver_day t_resolver_second t_resolver_moment_seconds t_resolver_moment_parts t_resolver_moment_values t_now_seconds t_now_parts t_now_values t_latest_seconds t_latest_parts t_latest_values m_length m_used m_far m_momentParts m_momentDay m_momentSecond m_momentNano m_momentOffset m_readParts m_readDay m_readSecond m_readNano m_readOffset m_alike m_text m_page m_names m_sort m_code m_count m_around m_end m_size m_there m_wish m_have m_known m_value m_before m_open m_from =>
  R_txt 60 t_text_size t_text_cells m_length m_text ∧ R_txt 200 t_page_size t_page_cells m_used m_page ∧ t_nearest = m_far ∧ R_now t_now_values t_now_parts m_momentParts m_momentDay m_momentSecond m_momentNano m_momentOffset ∧ R_lat t_latest_values t_latest_seconds t_latest_parts m_readParts m_readDay m_readSecond m_readNano m_readOffset ∧ (R_nam m_names ∧ R_kno t_reader_known_size t_reader_known_flags t_reader_known_order) ∧ R_pat ps m_sort m_code m_count m_around m_end m_size m_there
theorem p_distance : pu_distance LI_ := by
  intro ps t_nearest t_text_size t_text_cells t_page_size t_page_cells t_parser_depth t_parser_quoted t_parser_pattern_size t_parser_pattern_kinds t_parser_pattern_numbers t_parser_open t_printer_draft_size t_printer_draft_cells t_printer_nest_depth t_printer_nest_ends t_printer_nest_places t_printer_nest_marks t_reader_loose t_reader_place t_reader_known_size t_reader_known_values t_reader_known_flags t_reader_known_order t_reader_nest_depth t_reader_nest_ends t_reader_nest_places t_reader_nest_marks t_resolver_style t_resolver_used t_resolver_day t_resolver_second t_resolver_moment_seconds t_resolver_moment_parts t_resolver_moment_values t_now_seconds t_now_parts t_now_values t_latest_seconds t_latest_parts t_latest_values m_length m_used m_far m_momentParts m_momentDay m_momentSecond m_momentNano m_momentOffset m_readParts m_readDay m_readSecond m_readNano m_readOffset m_alike m_text m_page m_names m_sort m_code m_count m_around m_end m_size m_there m_wish m_have m_known m_value m_before m_open m_from hI
  obtain ⟨hT, hG, hN, hW, hL, hM, hQ⟩ := hI
  exact ⟨_, rfl, _, rfl, hN, hT, hG, hN, hW, hL, hM, hQ⟩
theorem p_parts : pu_parts LI_ := by
  intro ps t_nearest t_text_size t_text_cells t_page_size t_page_cells t_parser_depth t_parser_quoted t_parser_pattern_size t_parser_pattern_kinds t_parser_pattern_numbers t_parser_open t_printer_draft_size t_printer_draft_cells t_printer_nest_depth t_printer_nest_ends t_printer_nest_places t_printer_nest_marks t_reader_loose t_reader_place t_reader_known_size t_reader_known_values t_reader_known_flags t_reader_known_order t_reader_nest_depth t_reader_nest_ends t_reader_nest_places t_reader_nest_marks t_resolver_style t_resolver_used t_resolver_day t_resolver_second t_resolver_moment_seconds t_resolver_moment_parts t_resolver_moment_values t_now_seconds t_now_parts t_now_values t_latest_seconds t_latest_parts t_latest_values m_length m_used m_far m_momentParts m_momentDay m_momentSecond m_momentNano m_momentOffset m_readParts m_readDay m_readSecond m_readNano m_readOffset m_alike m_text m_page m_names m_sort m_code m_count m_around m_end m_size m_there m_wish m_have m_known m_value m_before m_open m_from hI
  obtain ⟨hT, hG, hN, hW, hL, hM, hQ⟩ := hI
  have hL2 := hL
  obtain ⟨d, s, n, o, p, h1, h2, h3, h4, h5, h6, -⟩ := hL2
  exact ⟨_, rfl, _, rfl, h5.trans h6.symm, hT, hG, hN, hW, hL, hM, hQ⟩
theorem p_seconds : pu_seconds LI_ := by
  intro ps t_nearest t_text_size t_text_cells t_page_size t_page_cells t_parser_depth t_parser_quoted t_parser_pattern_size t_parser_pattern_kinds t_parser_pattern_numbers t_parser_open t_printer_draft_size t_printer_draft_cells t_printer_nest_depth t_printer_nest_ends t_printer_nest_places t_printer_nest_marks t_reader_loose t_reader_place t_reader_known_size t_reader_known_values t_reader_known_flags t_reader_known_order t_reader_nest_depth t_reader_nest_ends t_reader_nest_places t_reader_nest_marks t_resolver_style t_resolver_used t_resolver_day t_resolver_second t_resolver_moment_seconds t_resolver_moment_parts t_resolver_moment_values t_now_seconds t_now_parts t_now_values t_latest_seconds t_latest_parts t_latest_values m_length m_used m_far m_momentParts m_momentDay m_momentSecond m_momentNano m_momentOffset m_readParts m_readDay m_readSecond m_readNano m_readOffset m_alike m_text m_page m_names m_sort m_code m_count m_around m_end m_size m_there m_wish m_have m_known m_value m_before m_open m_from hI
  obtain ⟨hT, hG, hN, hW, hL, hM, hQ⟩ := hI
  have hL2 := hL
  obtain ⟨d, s, n, o, p, h1, h2, h3, h4, h5, h6, h7, h8, h9, h10, h11, h12, -⟩ := hL2
  refine ⟨_, rfl, _, rfl, ?_, hT, hG, hN, hW, hL, hM, hQ⟩
  rw [h12, h1, h2, h4, i2j (by omega), i2j (by omega), k64_86400, k64_60, jI_mul, jI_mul, jI_add, jI_sub]
theorem mv_c (f : Nat → Int32) (k : Nat) (h : k < 14) : f_Moment_value f (iI k) = some (f k) := by
  unfold f_Moment_value
  have k14 : (14 : Int32) = iI 14 := by decide
  have e : (iI k).toNatClampNeg = k := by
    rw [← nI_iI]
    exact nI_clamp (by omega)
  rw [k14, k32_0, if_neg (fun hh => by have := (iI_lt (by omega) (by omega)).mp hh; omega), if_neg (fun hh => by have := (iI_le (by omega) (by omega)).mp hh; omega), e, if_pos (by
    intro hh
    rcases hh with hh | hh
    · have := (iI_lt (by omega) (by omega)).mp hh
      omega
    · omega)]
theorem p_nano : pu_nano LI_ := by
  intro ps t_nearest t_text_size t_text_cells t_page_size t_page_cells t_parser_depth t_parser_quoted t_parser_pattern_size t_parser_pattern_kinds t_parser_pattern_numbers t_parser_open t_printer_draft_size t_printer_draft_cells t_printer_nest_depth t_printer_nest_ends t_printer_nest_places t_printer_nest_marks t_reader_loose t_reader_place t_reader_known_size t_reader_known_values t_reader_known_flags t_reader_known_order t_reader_nest_depth t_reader_nest_ends t_reader_nest_places t_reader_nest_marks t_resolver_style t_resolver_used t_resolver_day t_resolver_second t_resolver_moment_seconds t_resolver_moment_parts t_resolver_moment_values t_now_seconds t_now_parts t_now_values t_latest_seconds t_latest_parts t_latest_values m_length m_used m_far m_momentParts m_momentDay m_momentSecond m_momentNano m_momentOffset m_readParts m_readDay m_readSecond m_readNano m_readOffset m_alike m_text m_page m_names m_sort m_code m_count m_around m_end m_size m_there m_wish m_have m_known m_value m_before m_open m_from hI
  obtain ⟨hT, hG, hN, hW, hL, hM, hQ⟩ := hI
  have hL2 := hL
  obtain ⟨d, s, n, o, p, h1, h2, h3, h4, h5, h6, h7, h8, h9, h10, h11, h12, h13, h14, -⟩ := hL2
  have e : f_SkeletonClock_nano t_latest_values = some (t_latest_values 12) := by
    unfold f_SkeletonClock_nano
    have k : (12 : Int32) = iI ((12 : Nat) : Int) := by decide
    rw [k, mv_c _ 12 (by decide), ob_some]
  exact ⟨_, rfl, _, e, h13.trans h3.symm, hT, hG, hN, hW, hL, hM, hQ⟩
theorem p_minutes : pu_minutes LI_ := by
  intro ps t_nearest t_text_size t_text_cells t_page_size t_page_cells t_parser_depth t_parser_quoted t_parser_pattern_size t_parser_pattern_kinds t_parser_pattern_numbers t_parser_open t_printer_draft_size t_printer_draft_cells t_printer_nest_depth t_printer_nest_ends t_printer_nest_places t_printer_nest_marks t_reader_loose t_reader_place t_reader_known_size t_reader_known_values t_reader_known_flags t_reader_known_order t_reader_nest_depth t_reader_nest_ends t_reader_nest_places t_reader_nest_marks t_resolver_style t_resolver_used t_resolver_day t_resolver_second t_resolver_moment_seconds t_resolver_moment_parts t_resolver_moment_values t_now_seconds t_now_parts t_now_values t_latest_seconds t_latest_parts t_latest_values m_length m_used m_far m_momentParts m_momentDay m_momentSecond m_momentNano m_momentOffset m_readParts m_readDay m_readSecond m_readNano m_readOffset m_alike m_text m_page m_names m_sort m_code m_count m_around m_end m_size m_there m_wish m_have m_known m_value m_before m_open m_from hI
  obtain ⟨hT, hG, hN, hW, hL, hM, hQ⟩ := hI
  have hL2 := hL
  obtain ⟨d, s, n, o, p, h1, h2, h3, h4, h5, h6, h7, h8, h9, h10, h11, h12, h13, h14, -⟩ := hL2
  have e : f_SkeletonClock_minutes t_latest_values = some (t_latest_values 13) := by
    unfold f_SkeletonClock_minutes
    have k : (13 : Int32) = iI ((13 : Nat) : Int) := by decide
    rw [k, mv_c _ 13 (by decide), ob_some]
  exact ⟨_, rfl, _, e, h14.trans h4.symm, hT, hG, hN, hW, hL, hM, hQ⟩
