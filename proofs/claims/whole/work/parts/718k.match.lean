/-! match on both sides. -/
theorem p_match : pu_match LI_ := by
  intro ps t_nearest t_text_size t_text_cells t_page_size t_page_cells t_parser_depth t_parser_quoted t_parser_pattern_size t_parser_pattern_kinds t_parser_pattern_numbers t_parser_open t_printer_draft_size t_printer_draft_cells t_printer_nest_depth t_printer_nest_ends t_printer_nest_places t_printer_nest_marks t_reader_loose t_reader_place t_reader_known_size t_reader_known_values t_reader_known_flags t_reader_known_order t_reader_nest_depth t_reader_nest_ends t_reader_nest_places t_reader_nest_marks t_resolver_style t_resolver_used t_resolver_day t_resolver_second t_resolver_moment_seconds t_resolver_moment_parts t_resolver_moment_values t_now_seconds t_now_parts t_now_values t_latest_seconds t_latest_parts t_latest_values m_length m_used m_far m_momentParts m_momentDay m_momentSecond m_momentNano m_momentOffset m_readParts m_readDay m_readSecond m_readNano m_readOffset m_alike m_text m_page m_names m_sort m_code m_count m_around m_end m_size m_there m_wish m_have m_known m_value m_before m_open m_from hI
  obtain ⟨hT, hG, hN, hW, hL, hM, hQ⟩ := hI
  obtain ⟨n, T, hn, hsz, hlen, hf, hg⟩ := tx_of hT
  subst hsz hlen
  obtain ⟨w0, z1, z2⟩ := z_l 128 0 FU m_wish (by omega) (by unfold FU; omega) (fun j hj => by omega)
  have z1 : lp_SkeletonClockModel_wished_2 FU 0 m_wish = some (nI 128, w0) := z1
  have hS : ST 0 0 t_parser_pattern_kinds t_parser_pattern_numbers t_parser_open (-1) m_sort m_code m_count m_around m_end (upd m_size 6 0) (fun _ => 0) :=
    ⟨by omega, pk_us, ⟨fun j hj => by omega, fun j hj => by omega, fun a b _ hb => by omega⟩, fun _ => 0, fun i hi => by omega, fun i k _ hk => by omega, fun a ha => by omega, fun _ => rfl, fun k hk => by omega⟩
  obtain ⟨w', h⟩ := wi_l hn hf hg n 0 FU FU 0 t_parser_pattern_kinds t_parser_pattern_numbers t_parser_open m_sort m_code m_count m_around m_end (upd m_size 6 0) w0 (fun _ => 0) (by omega) (by omega) (by unfold FU; omega) (by unfold FU; omega) hS ⟨fun j hj => by omega, fun i j _ hj => by omega⟩ ⟨fun i hi => z2 _ (lix_lt i hi), fun c hc _ => z2 c hc⟩
  rw [nI_0] at h
  unfold f_SkeletonClockModel_match f_SkeletonClockModel_wished f_SkeletonClock_match_M f_PatternParser_parse
  rw [z1, ob_some]
  dsimp only
  rcases h with ⟨v, h1, v0, s', kd', nb', op', so', co', cn', ar', en', sz', E', h2, h3, h4, h5⟩ | ⟨h1, h2⟩
  · rw [h1, h2, ob_some, ob_some, rs_0 hn]
    unfold sel
    dsimp only
    rw [if_pos (by decide), ob_some, ob_some, ob_some]
    dsimp only
    rw [if_neg (by decide), if_pos rfl]
    have hs := h3.1
    rcases iw_c hs (PV_17 h3.2.2.1) with ⟨-, i1⟩ | ⟨i0, -⟩
    · rw [i1, ob_some, if_neg (by decide)]
      have hw : ∀ i, i < 15 → w' (lixL.getD i 0) = fcF kd' nb' (nI i) s' 0 ∧ ∃ v, v < 10 ∧ fcF kd' nb' (nI i) s' 0 = nI v := fun i hi => ⟨h5.1 i hi, ((gf_c hs h3.2.2.1 s' 0 (by omega)).1 i hi).2⟩
      obtain ⟨y, z, far', hv', g1, g2, g3⟩ := sl_l hs hQ hw h5.2 m_far 6 0 FU FU (-1) 0 m_far m_have (by omega) (by unfold FU; omega) (by unfold FU; omega) (Or.inl ⟨rfl, rfl⟩)
      rw [nI_0] at g1 g2
      rw [g1, g2, ob_some, ob_some]
      dsimp only
      refine ⟨_, rfl, ?_⟩
      rcases g3 with ⟨e1, e2⟩ | ⟨⟨b, hb, e1⟩, e2⟩
      · subst e1 e2
        rw [if_pos rfl]
        exact ⟨_, rfl, rfl, tx_nil, hG, hN, hW, hL, hM, hQ⟩
      · subst e1 e2
        rw [if_neg (nI_m1 (by omega))]
        exact ⟨_, rfl, rfl, tx_nil, hG, rfl, hW, hL, hM, hQ⟩
    · exact absurd h4 i0
  · rw [h1, ob_some]
    refine ⟨_, rfl, ?_⟩
    rcases h2 with ⟨p', d', q', s', kd', nb', op', h2, h3⟩ | ⟨v, d', s', kd', nb', op', hs, h3, hk, hd⟩
    · rw [h3, rs_0 hn]
      refine ⟨(-2, t_nearest, 0, d', q', s', kd', nb', op'), ?_, rfl, tx_nil, hG, hN, hW, hL, hM, hQ⟩
      unfold sel
      dsimp only
      rw [ob_some]
      dsimp only
      rw [ob_some, ob_some]
      dsimp only
      rw [if_neg (nI_m1 (by omega))]
    · rw [h3, rs_0 hn]
      rcases iw_c hs hk with ⟨i0, -⟩ | ⟨-, i1⟩
      · exact absurd i0 hd
      · by_cases hd0 : nI d' ≤ 0
        · refine ⟨(-2, t_nearest, 0, nI d', 0, nI s', kd', nb', op'), ?_, rfl, tx_nil, hG, hN, hW, hL, hM, hQ⟩
          unfold sel
          dsimp only
          rw [ob_some]
          dsimp only
          rw [if_pos hd0, ob_some, ob_some]
          dsimp only
          rw [if_pos rfl, i1, ob_some, if_pos rfl]
        · refine ⟨(-2, t_nearest, 0, nI d', 0, nI s', kd', nb', op'), ?_, rfl, tx_nil, hG, hN, hW, hL, hM, hQ⟩
          unfold sel
          dsimp only
          rw [ob_some]
          dsimp only
          rw [if_neg hd0, ob_some, ob_some]
          dsimp only
          rw [if_neg (nI_m1 (by omega))]
