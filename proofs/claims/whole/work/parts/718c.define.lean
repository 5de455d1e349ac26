/-! define on both sides. -/
theorem PV_cg {s : Nat} {kd nb so co cn ar en kd' nb' so' co' cn' ar' en' : Nat → Int32} {E : Nat → Nat} (h : PV s kd nb so co cn ar en E) (hq : ∀ j, j < s → kd' j = kd j ∧ nb' j = nb j ∧ so' j = so j ∧ co' j = co j ∧ cn' j = cn j ∧ ar' j = ar j ∧ en' j = en j) : PV s kd' nb' so' co' cn' ar' en' E := by
  obtain ⟨g1, g2, g3⟩ := h
  refine ⟨fun j hj => ?_, fun j hj => ?_, fun a b hab hb ha2 hb2 hE => ?_⟩
  · obtain ⟨q1, q2, q3, q4, q5, q6, q7⟩ := hq j hj
    rw [q1, q2, q3, q4, q5, q7]
    exact g1 j hj
  · obtain ⟨q1, q2, q3, q4, q5, q6, q7⟩ := hq j hj
    rw [q6]
    rcases g2 j hj with ⟨a, b⟩ | ⟨a, b, c, d, e, f⟩
    · exact Or.inl ⟨a, fun i hi hi2 => b i hi ((hq i (by omega)).2.2.1 ▸ hi2)⟩
    · exact Or.inr ⟨a, b, c, (hq a (by omega)).2.2.1.trans d, e, fun i hi hi2 hi3 => f i hi hi2 ((hq i (by omega)).2.2.1 ▸ hi3)⟩
  · exact g3 a b hab hb ((hq a (by omega)).2.2.1 ▸ ha2) ((hq b hb).2.2.1 ▸ hb2) hE
theorem R_pie_cg {s : Nat} {kd nb so co cn ar en kd' nb' so' co' cn' ar' en' : Nat → Int32} (h : R_pie s kd nb so co cn ar en) (hq : ∀ j, j < s → kd' j = kd j ∧ nb' j = nb j ∧ so' j = so j ∧ co' j = co j ∧ cn' j = cn j ∧ ar' j = ar j ∧ en' j = en j) : R_pie s kd' nb' so' co' cn' ar' en' := by
  obtain ⟨E, h1, h2⟩ := h
  exact ⟨E, PV_cg h1 hq, fun j hj hj2 => h2 j hj ((hq j hj).2.2.1 ▸ hj2)⟩
theorem pk_c {n p : Nat} (hn : n ≤ 20) (hp : p < n) (f : Nat → Int32) : f_Pattern_kind (nI n) f (nI p) = some (f p) ∧ f_Pattern_number (nI n) f (nI p) = some (f p) := by
  unfold f_Pattern_kind f_Pattern_number
  rw [if_neg (nI_pos (by omega)), if_neg (nI_ge hp (by omega)), if_pos (sN (by omega) (by omega)), nI_clamp (by omega), if_neg (nI_pos (by omega)), if_neg (nI_ge hp (by omega))]
  exact ⟨rfl, rfl⟩
theorem bc_l {n : Nat} (hn : n ≤ 20) (kd nb : Nat → Int32) : ∀ (m p F : Nat) (k2 n2 : Nat → Int32), p + m = n → m < F → (∀ j, j < p → k2 j = kd j ∧ n2 j = nb j) → ∃ k3 n3, lp_Pattern_become_7 (nI n) kd nb F (nI p) (nI p) k2 n2 = some (nI n, nI n, k3, n3) ∧ ∀ j, j < n → k3 j = kd j ∧ n3 j = nb j := by
  intro m
  induction m with
  | zero =>
    intro p F k2 n2 hp hF h
    obtain ⟨F, rfl⟩ : ∃ H, F = H + 1 := ⟨F - 1, by omega⟩
    have e : p = n := by omega
    subst e
    exact ⟨k2, n2, by rw [lp_Pattern_become_7, st_Pattern_become_7, if_pos (nI_le (Nat.le_refl _) (by omega))], h⟩
  | succ m ih =>
    intro p F k2 n2 hp hF h
    obtain ⟨F, rfl⟩ : ∃ H, F = H + 1 := ⟨F - 1, by omega⟩
    rw [lp_Pattern_become_7, st_Pattern_become_7, if_neg (nI_ge (by omega) (by omega)), (pk_c hn (by omega) kd).1, (pk_c hn (by omega) nb).2, ob_some, ob_some, ad_1 (by omega), ob_some, nI_1]
    refine ih (p + 1) F _ _ (by omega) (by omega) (fun j hj => ?_)
    by_cases e : j = p
    · subst e
      exact ⟨pk_us, pk_us⟩
    · dsimp only
      rw [pk_un e, pk_un e]
      exact h j (by omega)
theorem bc_c {n : Nat} (hn : n ≤ 20) (kd nb : Nat → Int32) (s0 : Int32) (k2 n2 : Nat → Int32) : ∃ k3 n3, f_Pattern_become s0 k2 n2 (nI n) kd nb = some (nI n, k3, n3) ∧ ∀ j, j < n → k3 j = kd j ∧ n3 j = nb j := by
  obtain ⟨k3, n3, a, b⟩ := bc_l hn kd nb n 0 FU k2 n2 (by omega) (by unfold FU; omega) (fun j hj => by omega)
  refine ⟨k3, n3, ?_, b⟩
  rw [nI_0] at a
  unfold f_Pattern_become
  rw [a, ob_some]
theorem df_l {n x : Nat} (hn : n ≤ 20) (hx : x < 6) (so co cn ar en sz : Nat → Int32) (hz : sz 6 = nI n) : ∀ (m p F : Nat) (so2 co2 cn2 ar2 en2 : Nat → Int32), p + m = n → m < F → (∀ j, j < p → so2 (20 * x + j) = so (120 + j) ∧ co2 (20 * x + j) = co (120 + j) ∧ cn2 (20 * x + j) = cn (120 + j) ∧ ar2 (20 * x + j) = ar (120 + j) ∧ en2 (20 * x + j) = en (120 + j)) → (∀ j, (j < 20 * x ∨ 20 * x + 20 ≤ j) → so2 j = so j ∧ co2 j = co j ∧ cn2 j = cn j ∧ ar2 j = ar j ∧ en2 j = en j) → ∃ so3 co3 cn3 ar3 en3, lp_SkeletonClockModel_define_50 sz (nI x) F (nI p) so2 co2 cn2 ar2 en2 = some (nI n, so3, co3, cn3, ar3, en3) ∧ (∀ j, j < n → so3 (20 * x + j) = so (120 + j) ∧ co3 (20 * x + j) = co (120 + j) ∧ cn3 (20 * x + j) = cn (120 + j) ∧ ar3 (20 * x + j) = ar (120 + j) ∧ en3 (20 * x + j) = en (120 + j)) ∧ (∀ j, (j < 20 * x ∨ 20 * x + 20 ≤ j) → so3 j = so j ∧ co3 j = co j ∧ cn3 j = cn j ∧ ar3 j = ar j ∧ en3 j = en j) := by
  intro m
  induction m with
  | zero =>
    intro p F so2 co2 cn2 ar2 en2 hp hF h h'
    obtain ⟨F, rfl⟩ : ∃ H, F = H + 1 := ⟨F - 1, by omega⟩
    have e : p = n := by omega
    subst e
    exact ⟨so2, co2, cn2, ar2, en2, by rw [lp_SkeletonClockModel_define_50, st_SkeletonClockModel_define_50, cl6, hz, if_pos (nI_le (Nat.le_refl _) (by omega))], h, h'⟩
  | succ m ih =>
    intro p F so2 co2 cn2 ar2 en2 hp hF h h'
    obtain ⟨F, rfl⟩ : ∃ H, F = H + 1 := ⟨F - 1, by omega⟩
    have i1 := sN (n := 120 + p) (N := 140) (by omega) (by omega)
    have i2 := sN (n := 20 * x + p) (N := 140) (by omega) (by omega)
    have e1 : (120 : Int32) + nI p = nI (120 + p) := by rw [kk120, nI_add]
    have e2 : (20 : Int32) * nI x + nI p = nI (20 * x + p) := by rw [kk20, pk_mul, nI_add]
    rw [lp_SkeletonClockModel_define_50, st_SkeletonClockModel_define_50, cl6, hz, if_neg (nI_ge (by omega) (by omega)), e1, e2, if_pos i1, if_pos i2, if_pos i1, if_pos i2, if_pos i1, if_pos i2, if_pos i1, if_pos i2, if_pos i1, if_pos i2, nI_clamp (by omega), nI_clamp (by omega), nI_1]
    obtain ⟨y1, y2, y3, y4, y5⟩ := h' (120 + p) (by omega)
    rw [y1, y2, y3, y4, y5]
    refine ih (p + 1) F _ _ _ _ _ (by omega) (by omega) (fun j hj => ?_) (fun j hj => ?_)
    · by_cases e : j = p
      · subst e
        exact ⟨pk_us, pk_us, pk_us, pk_us, pk_us⟩
      · have q : 20 * x + j ≠ 20 * x + p := by omega
        rw [pk_un q, pk_un q, pk_un q, pk_un q, pk_un q]
        exact h j (by omega)
    · have q : j ≠ 20 * x + p := by omega
      rw [pk_un q, pk_un q, pk_un q, pk_un q, pk_un q]
      exact h' j hj
theorem rs_0 {n : Nat} (hn : n ≤ 60) : f_Row_shorten (nI n) 0 = some 0 := by
  unfold f_Row_shorten
  by_cases h : n = 0
  · subst h
    rfl
  · rw [← nI_0, if_pos (nI_lt (by omega) (by omega)), if_neg (nI_nlt (Nat.le_refl _) (by omega))]
theorem is_n {x : Int32} (h : ¬ slotP x) : f_SkeletonClock_isSlot x = some 0 := by
  unfold f_SkeletonClock_isSlot
  rcases pk_ix x (n := 6) (by omega) with a | a | ⟨j, hj, rfl⟩
  · rw [if_pos a]
  · by_cases b : x < 0
    · rw [if_pos b]
    · rw [if_neg b, kk6, if_pos a]
  · exact absurd (sN hj (by omega)) h
theorem is_y {x : Nat} (h : x < 6) : f_SkeletonClock_isSlot (nI x) = some 1 := by
  unfold f_SkeletonClock_isSlot
  rw [if_neg (nI_pos (by omega)), kk6, if_neg (nI_ge h (by omega))]
theorem tx_nil {cap : Nat} {f g : Nat → Int32} : R_txt cap 0 f 0 g := ⟨0, by omega, rfl, rfl, fun j hj => by omega⟩
theorem R_pat_fr {ps : Nat → Option PSt} {so co cn ar en sz tr so' co' cn' ar' en' sz' : Nat → Int32} (h : R_pat ps so co cn ar en sz tr) (hR : FR so co cn ar en sz so' co' cn' ar' en' sz') : R_pat ps so' co' cn' ar' en' sz' tr := by
  intro k hk
  rcases h k hk with a | ⟨a, q, n, b, c, d, e, f⟩
  · exact Or.inl a
  · exact Or.inr ⟨a, q, n, b, c, d, (hR.2 k hk).trans e, R_pie_cg f (fun j hj => ⟨rfl, rfl, (hR.1 (20 * k + j) (by omega)).1, (hR.1 (20 * k + j) (by omega)).2.1, (hR.1 (20 * k + j) (by omega)).2.2.1, (hR.1 (20 * k + j) (by omega)).2.2.2.1, (hR.1 (20 * k + j) (by omega)).2.2.2.2⟩)⟩
theorem R_pat_new {ps : Nat → Option PSt} {so co cn ar en sz tr so' co' cn' ar' en' kd nb k3 n3 : Nat → Int32} {n x : Nat} (h : R_pat ps so co cn ar en sz tr) (hn : n ≤ 20) (hx : x < 6) (hz : sz 6 = nI n) (hp : R_pie n kd nb (sh so) (sh co) (sh cn) (sh ar) (sh en)) (h1 : ∀ j, j < n → so' (20 * x + j) = so (120 + j) ∧ co' (20 * x + j) = co (120 + j) ∧ cn' (20 * x + j) = cn (120 + j) ∧ ar' (20 * x + j) = ar (120 + j) ∧ en' (20 * x + j) = en (120 + j)) (h2 : ∀ j, (j < 20 * x ∨ 20 * x + 20 ≤ j) → so' j = so j ∧ co' j = co j ∧ cn' j = cn j ∧ ar' j = ar j ∧ en' j = en j) (h3 : ∀ j, j < n → k3 j = kd j ∧ n3 j = nb j) : R_pat (ups ps x (some (k3, n3, nI n))) so' co' cn' ar' en' (upd sz x (sz 6)) (upd tr x 1) := by
  intro k hk
  by_cases e : k = x
  · subst e
    refine Or.inr ⟨pk_us, (k3, n3, nI n), n, ups_s, hn, rfl, pk_us.trans hz, R_pie_cg hp (fun j hj => ?_)⟩
    obtain ⟨a1, a2, a3, a4, a5⟩ := h1 j hj
    exact ⟨(h3 j hj).1, (h3 j hj).2, a1, a2, a3, a4, a5⟩
  · rcases h k hk with a | ⟨a, q, n, b, c, d, e2, f⟩
    · exact Or.inl ⟨(pk_un e).trans a.1, (ups_n e).trans a.2⟩
    · refine Or.inr ⟨(pk_un e).trans a, q, n, (ups_n e).trans b, c, d, (pk_un e).trans e2, R_pie_cg f (fun j hj => ?_)⟩
      obtain ⟨a1, a2, a3, a4, a5⟩ := h2 (20 * k + j) (by omega)
      exact ⟨rfl, rfl, a1, a2, a3, a4, a5⟩
theorem p_define : pu_define LI_ := by
  intro ps t_nearest t_text_size t_text_cells t_page_size t_page_cells t_parser_depth t_parser_quoted t_parser_pattern_size t_parser_pattern_kinds t_parser_pattern_numbers t_parser_open t_printer_draft_size t_printer_draft_cells t_printer_nest_depth t_printer_nest_ends t_printer_nest_places t_printer_nest_marks t_reader_loose t_reader_place t_reader_known_size t_reader_known_values t_reader_known_flags t_reader_known_order t_reader_nest_depth t_reader_nest_ends t_reader_nest_places t_reader_nest_marks t_resolver_style t_resolver_used t_resolver_day t_resolver_second t_resolver_moment_seconds t_resolver_moment_parts t_resolver_moment_values t_now_seconds t_now_parts t_now_values t_latest_seconds t_latest_parts t_latest_values m_length m_used m_far m_momentParts m_momentDay m_momentSecond m_momentNano m_momentOffset m_readParts m_readDay m_readSecond m_readNano m_readOffset m_alike m_text m_page m_names m_sort m_code m_count m_around m_end m_size m_there m_wish m_have m_known m_value m_before m_open m_from x0 hI
  obtain ⟨hT, hG, hN, hW, hL, hM, hQ⟩ := hI
  obtain ⟨n, T, hn, hsz, hlen, hf, hg⟩ := tx_of hT
  by_cases hs : slotP x0
  · obtain ⟨x, hx, rfl⟩ := vp_in_of hs (by omega)
    subst hsz hlen
    obtain ⟨so', co', cn', ar', en', sz', hR, u, d', q', s', kd', nb', op', h1, h2, h3⟩ := pa_c hn hf hg t_parser_depth t_parser_quoted t_parser_pattern_size t_parser_pattern_kinds t_parser_pattern_numbers t_parser_open m_sort m_code m_count m_around m_end m_size
    have k5 : (5 : Int32) = nI 5 := by decide
    unfold f_SkeletonClockModel_define
    rw [if_neg (nI_pos (by omega)), k5, if_pos (nI_le (by omega) (by omega)), h2, ob_some]
    dsimp only
    rcases h3 with ⟨j, hj, e⟩ | ⟨e, k, hk, e1, e2, hP⟩
    · subst e
      rw [if_neg (nI_pos (by omega))]
      refine ⟨_, rfl, Or.inl ?_⟩
      unfold f_SkeletonClock_define_A
      rw [is_y hx, ob_some, if_neg (by decide), h1, ob_some, rs_0 hn, ob_some, if_neg (fun q => by
        have := congrArg Int32.toInt q
        rw [nI_toInt (by omega)] at this
        have h0 : (-1 : Int32).toInt = -1 := by decide
        omega)]
      exact ⟨_, rfl, rfl, tx_nil, hG, hN, hW, hL, hM, R_pat_fr hQ hR⟩
    · subst e e1
      rw [if_pos (by decide), if_pos (sN (by omega) (by omega)), if_pos (sN (by omega) (by omega)), cl6, nI_clamp (by omega)]
      obtain ⟨so3, co3, cn3, ar3, en3, g1, g2, g3⟩ := df_l hk hx so' co' cn' ar' en' (upd sz' x (sz' 6)) ((pk_un (by omega)).trans e2) k 0 FU so' co' cn' ar' en' (by omega) (by unfold FU; omega) (fun j hj => by omega) (fun j _ => ⟨rfl, rfl, rfl, rfl, rfl⟩)
      rw [nI_0] at g1
      rw [g1, ob_some]
      have hv : vp_nar .boolean 1 = 1 := by decide
      rw [hv]
      refine ⟨_, rfl, Or.inr ⟨hs, fun q hq => ?_, fun hq => ?_⟩⟩
      · obtain ⟨k3, n3, b1, b2⟩ := bc_c hk kd' nb' q.2.2 q.1 q.2.1
        unfold f_SkeletonClock_define_S
        rw [is_y hx, ob_some, if_neg (by decide), h1, ob_some, rs_0 hn, ob_some, if_pos rfl, if_pos hs, if_pos hs]
        dsimp only
        rw [b1, ob_some, if_pos hs]
        exact ⟨_, rfl, rfl, tx_nil, hG, hN, hW, hL, hM, R_pat_new (R_pat_fr hQ hR) hk hx e2 hP g2 g3 b2⟩
      · obtain ⟨k3, n3, b1, b2⟩ := bc_c hk kd' nb' 0 (fun _ => 0) (fun _ => 0)
        unfold f_SkeletonClock_define_D
        rw [is_y hx, ob_some, if_neg (by decide), h1, ob_some, rs_0 hn, ob_some, if_pos rfl, if_pos hs]
        dsimp only
        rw [b1, ob_some, if_pos hs]
        exact ⟨_, rfl, rfl, tx_nil, hG, hN, hW, hL, hM, R_pat_new (R_pat_fr hQ hR) hk hx e2 hP g2 g3 b2⟩
  · have e2 : f_SkeletonClockModel_define m_length m_text m_sort m_code m_count m_around m_end m_size m_there x0 = some (-2, m_length, m_sort, m_code, m_count, m_around, m_end, m_size, m_there) := by
      unfold f_SkeletonClockModel_define
      by_cases h0 : x0 < 0
      · rw [if_pos h0]
      · rw [if_neg h0, if_neg (fun h => hs (by
          obtain ⟨j, hj, e⟩ := nI_of2 (M := 5) (n := 5) (by decide) h0 h
          rw [e]
          exact sN (by omega) (by omega)))]
    refine ⟨_, e2, Or.inl ?_⟩
    unfold f_SkeletonClock_define_A
    rw [is_n hs, ob_some, if_pos rfl]
    exact ⟨_, rfl, rfl, hT, hG, hN, hW, hL, hM, hQ⟩
