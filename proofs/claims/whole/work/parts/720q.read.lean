/-! read: both sides. -/
theorem gt_c {n N x z0 : Nat} {T : Nat → Nat} {f g kd nb so co cn ar en sz vals fl0 od0 ends pls mks kn0 bf op fr : Nat → Int32} {E : Nat → Nat} {gn va : Nat → Int64} {lo lo0 pl0 dp : Int32} (hn : n ≤ 60) (hf : Tx n T f) (hg : Tx n T g) (hgn : R_nam gn) (h : PV N kd nb (fun j => so (20 * x + j)) (fun j => co (20 * x + j)) (fun j => cn (20 * x + j)) (fun j => ar (20 * x + j)) (fun j => en (20 * x + j)) E) (hE : ∀ j, j < N → so (20 * x + j) = 2 → E j ≤ N) (hx : x < 6) (hN : N ≤ 20) (hz : sz x = nI N) (hlo : lo = 0 ∨ lo = 1) (hK : KN z0 fl0 od0) : ∃ rc rm, f_TextReader_go 60 lo0 pl0 (nI z0) vals fl0 od0 dp ends pls mks (nI n) f (nI N) kd nb lo = some rc ∧ f_SkeletonClockModel_through (nI n) lo g gn so co cn ar en sz kn0 va bf op fr (nI x) = some rm ∧ (∃ z', rc.2.2.2.1 = nI z' ∧ KN z' rc.2.2.2.2.2.1 rc.2.2.2.2.2.2.1) ∧ ((∃ pl : Nat, pl ≤ 60 ∧ rc.1 = nI pl ∧ rm.1 = nI pl) ∨ (rc.1 = -1 ∧ rm.1 = -1 ∧ KV rc.2.2.2.2.2.1 rc.2.2.2.2.1 rm.2.1 rm.2.2.1)) := by
  have hS := sp_of h hE
  have h3 := k3_of h hE hN
  obtain ⟨fl', a1, a2, a3⟩ := fg_c hK (Nat.zero_le z0)
  obtain ⟨z10, kn', b1, b2, -⟩ := t10_l (a := nI x) (b := 0) (c := 0) (d := 0) 14 0 FU kn0 (by omega) (by unfold FU; omega)
  have fl0' : ∀ i, i < 14 → fl' i = 0 := by
    intro i hi
    rcases a2.2.1 i hi with q | q
    · exact q
    · obtain ⟨j, j1, -⟩ := a2.2.2.2.2 i hi q
      omega
  have hKV : KV fl' vals kn' va := fun i hi => Or.inl ⟨fl0' i hi, b2 (fx i) (Nat.zero_le _) (fx_lt i hi)⟩
  have nsz : NS (fun j => so (20 * x + j)) E 0 0 (fun _ => 0) ends := ⟨Nat.le_refl _, fun i hi => by omega, fun i j a b => by omega, fun a ha => by omega⟩
  obtain ⟨rc, rm, r1, r2, r3⟩ := go_l (lo := lo) hn hf hg hgn h hE hS h3 hx hN hz N FU 0 0 0 0 0 (fun _ => 0) (fun _ => 0) (fun _ => 0) ends pls mks fl' od0 vals kn' op fr bf va (by omega) (by unfold FU; omega) (by omega) (by omega) nsz nsz (fun i hi => by omega) (by omega) a2 hKV (fun i hi => by omega) (fun i j a b => by omega) (fun i hi => by omega)
  unfold f_TextReader_go f_SkeletonClockModel_through f_Nest_clear
  rw [if_pos hlo]
  rw [← kk0] at a1 b1 r1 r2
  rw [a1, ob_some, ob_some, b1, ob_some]
  dsimp only
  rw [r1, r2, ob_some, ob_some]
  rcases r3 with ⟨pl, z', vals', fl2, od2, o1, o2, p1, p2, p3, p4⟩ | ⟨pl, z', vals', fl2, od2, kn2, va2, y, y1, y2, o1, o2, p1, p2, p3, p4, p5⟩
  · subst p2 p3
    exact ⟨_, _, rfl, rfl, ⟨z', rfl, p4⟩, Or.inl ⟨pl, by omega, rfl, rfl⟩⟩
  · subst p2 p3
    unfold sel
    dsimp only
    by_cases e : pl = n
    · subst e
      rw [if_pos rfl, if_pos rfl]
      exact ⟨_, _, rfl, rfl, ⟨z', rfl, p4⟩, Or.inr ⟨rfl, rfl, p5⟩⟩
    · have ne : ¬ nI pl = nI n := fun q => e ((nI_eq (by omega) (by omega)).mp q)
      rw [if_neg ne, if_neg ne]
      exact ⟨_, _, rfl, rfl, ⟨z', rfl, p4⟩, Or.inl ⟨pl, by omega, rfl, rfl⟩⟩
theorem mb_c {d s nn o : Int} {P : Nat} {v : Nat → Int32} (hd : -400000000000 ≤ d ∧ d ≤ 400000000000) (hs : 0 ≤ s ∧ s < 86400) (ho : -1080 ≤ o ∧ o ≤ 1080) (hv : ∀ k, k < 14 → v k = iI (FV d s nn o k)) (a : Int64) (b : Int32) (c : Nat → Int32) : ∃ w, f_Moment_become a b c (jI (86400 * d + s - 60 * o)) (nI P) v = some (jI (86400 * d + s - 60 * o), nI P, w) ∧ ∀ k, k < 14 → w k = iI (FV d s nn o k) := by
  have m12 : f_Moment_value v 12 = some (v 12) := mv_c v 12 (by decide)
  have m13 : f_Moment_value v 13 = some (v 13) := mv_c v 13 (by decide)
  have e12 : v 12 = iI nn := hv 12 (by decide)
  have e13 : v 13 = iI o := hv 13 (by decide)
  obtain ⟨w, w1, w2⟩ := se_c (sc := 86400 * d + s - 60 * o) (o := o) (by omega) (by omega) a b c (iI nn) (nI P)
  have f1 : (86400 * d + s - 60 * o + 60 * o) / 86400 = d := by omega
  have f2 : (86400 * d + s - 60 * o + 60 * o) % 86400 = s := by omega
  rw [f1, f2] at w2
  refine ⟨w, ?_, fun k hk => by rw [w2 k hk, VV_FV _ _ _ _ _ hk]⟩
  unfold f_Moment_become
  rw [m12, ob_some, m13, ob_some, e12, e13, w1, ob_some]
theorem i2_of {x : Int32} (h : ¬ x < 0) (h2 : x ≤ 2) : ∃ st : Nat, st ≤ 2 ∧ x = nI st := nI_of2 (M := 2) (n := 2) (by decide) h h2
theorem p_read : pu_read LI_ := by
  intro ps t_nearest t_text_size t_text_cells t_page_size t_page_cells t_parser_depth t_parser_quoted t_parser_pattern_size t_parser_pattern_kinds t_parser_pattern_numbers t_parser_open t_printer_draft_size t_printer_draft_cells t_printer_nest_depth t_printer_nest_ends t_printer_nest_places t_printer_nest_marks t_reader_loose t_reader_place t_reader_known_size t_reader_known_values t_reader_known_flags t_reader_known_order t_reader_nest_depth t_reader_nest_ends t_reader_nest_places t_reader_nest_marks t_resolver_style t_resolver_used t_resolver_day t_resolver_second t_resolver_moment_seconds t_resolver_moment_parts t_resolver_moment_values t_now_seconds t_now_parts t_now_values t_latest_seconds t_latest_parts t_latest_values m_length m_used m_far m_momentParts m_momentDay m_momentSecond m_momentNano m_momentOffset m_readParts m_readDay m_readSecond m_readNano m_readOffset m_alike m_text m_page m_names m_sort m_code m_count m_around m_end m_size m_there m_wish m_have m_known m_value m_before m_open m_from x0 x1 x2 hI
  obtain ⟨hT, hG, hN, hW, hL, hM, hQ⟩ := hI
  intro hb
  by_cases hx : slotP x0
  · obtain ⟨x, x6, rfl⟩ := vp_in_of hx (by omega)
    rw [nI_clamp (by omega)]
    unfold f_SkeletonClockModel_read
    rw [if_neg (nI_pos (by omega)), kk5, if_neg (nI_nlt (by omega) (by omega)), if_pos (sN (by omega) (by decide)), nI_clamp (by omega)]
    have hQ2 := hQ x x6
    rcases hQ2 with ⟨t0, p0⟩ | ⟨t1, q, N, p1, n1, n2, n3, E, hPV, hE⟩
    · rw [t0, if_pos rfl]
      refine ⟨_, rfl, fun _ => ⟨_, rfl, rfl, hT, hG, hN, hW, hL, hM, hQ⟩, fun q _ h => ?_⟩
      rw [p0] at h
      exact absurd h (by intro c; cases c)
    · have o1 : ¬ (1 : Int32) = 0 := by decide
      have nope : ∀ {A : Prop}, (¬ slotP (nI x) ∨ ps x = none) → A := by
        intro A c
        rcases c with c | c
        · exact absurd hx c
        · rw [p1] at c
          exact absurd c (by intro e; cases e)
      rw [t1, if_neg o1]
      by_cases s0 : x1 < 0
      · rw [if_pos s0]
        refine ⟨_, rfl, fun c => nope c, fun q' _ h => ?_⟩
        rw [p1] at h
        obtain rfl := Option.some.inj h
        unfold f_SkeletonClock_read_S
        rw [if_pos s0]
        exact ⟨_, rfl, rfl, hT, hG, hN, hW, hL, hM, hQ⟩
      · rw [if_neg s0]
        by_cases s2 : x1 ≤ 2
        · obtain ⟨st, hst, rfl⟩ := i2_of s0 s2
          obtain ⟨n, T, hn, hsz, hlen, hf, hg⟩ := tx_of hT
          obtain ⟨hnam, z0, k1, k2⟩ := hM
          subst hsz hlen k1
          obtain ⟨rc, rm, g1, g2, ⟨z', g3, g4⟩, g5⟩ := gt_c (lo0 := t_reader_loose) (pl0 := t_reader_place) (vals := t_reader_known_values) (dp := t_reader_nest_depth) (ends := t_reader_nest_ends) (pls := t_reader_nest_places) (mks := t_reader_nest_marks) (kn0 := m_known) (va := m_value) (bf := m_before) (op := m_open) (fr := m_from) hn hf hg hnam hPV hE x6 n1 n3 hb k2
          rw [if_pos s2, if_pos hb, g2, ob_some]
          rcases g5 with ⟨pl, pl6, g6, g7⟩ | ⟨g6, g7, hKV⟩
          · rw [g7, if_neg (nI_pos (by omega))]
            refine ⟨_, rfl, fun c => nope c, fun q' _ h => ?_⟩
            rw [p1] at h
            obtain rfl := Option.some.inj h
            unfold f_SkeletonClock_read_S
            rw [if_neg s0, if_pos s2, n2, g1, ob_some, rs_any, ob_some, g6, if_neg (nI_m1 (by omega))]
            exact ⟨_, rfl, rfl, tx_nil, hG, hN, hW, hL, ⟨hnam, z', g3, g4⟩, hQ⟩
          · obtain ⟨Y, hY⟩ := ky_of hKV
            obtain ⟨P, P7, rc2, rm2, z1, z2, z3⟩ := rs_c (RP := m_readParts) (RD := m_readDay) (RS := m_readSecond) (RN := m_readNano) (RO := m_readOffset) hY hst t_resolver_style t_resolver_used t_resolver_day t_resolver_second t_resolver_moment_seconds t_resolver_moment_parts t_resolver_moment_values
            have m1 : (-1 : Int32) < 0 := by decide
            rw [g7, if_pos m1, z2, ob_some]
            rcases z3 with ⟨z4, rfl⟩ | ⟨z4, d, s, nn, o, b1, b2, b3, b4, rfl, b5, b6, b7⟩
            · rw [if_pos rfl]
              refine ⟨_, rfl, fun c => nope c, fun q' _ h => ?_⟩
              rw [p1] at h
              obtain rfl := Option.some.inj h
              unfold f_SkeletonClock_read_S
              rw [if_neg s0, if_pos s2, n2, g1, ob_some, rs_any, ob_some, g6, if_pos rfl, z1, ob_some, if_pos z4]
              exact ⟨_, rfl, rfl, tx_nil, hG, hN, hW, hL, ⟨hnam, z', g3, g4⟩, hQ⟩
            · obtain ⟨w, w1, w2⟩ := mb_c (P := P) b1 b2 b4 b7 t_latest_seconds t_latest_parts t_latest_values
              rw [if_neg o1]
              refine ⟨_, rfl, fun c => nope c, fun q' _ h => ?_⟩
              rw [p1] at h
              obtain rfl := Option.some.inj h
              have z5 : ¬ rc2.1 = 0 := by
                rw [z4]
                exact o1
              unfold f_SkeletonClock_read_S
              rw [if_neg s0, if_pos s2, n2, g1, ob_some, rs_any, ob_some, g6, if_pos rfl, z1, ob_some, if_neg z5, b5, b6, w1, ob_some]
              refine ⟨_, rfl, rfl, tx_nil, hG, hN, hW, ?_, ⟨hnam, z', g3, g4⟩, hQ⟩
              exact ⟨d, s, nn, o, P, rfl, rfl, rfl, rfl, rfl, rfl, P7, b2, b3, b4, b1, rfl, w2 12 (by decide), w2 13 (by decide), fun _ => w2⟩
        · rw [if_neg s2]
          refine ⟨_, rfl, fun c => nope c, fun q' _ h => ?_⟩
          rw [p1] at h
          obtain rfl := Option.some.inj h
          unfold f_SkeletonClock_read_S
          rw [if_neg s0, if_neg s2]
          exact ⟨_, rfl, rfl, hT, hG, hN, hW, hL, hM, hQ⟩
  · have hr : f_SkeletonClockModel_read m_length m_readParts m_readDay m_readSecond m_readNano m_readOffset m_alike m_text m_names m_sort m_code m_count m_around m_end m_size m_there m_known m_value m_before m_open m_from x0 x1 x2 = some (-2, m_length, m_readParts, m_readDay, m_readSecond, m_readNano, m_readOffset, m_alike, m_known, m_value, m_before, m_open, m_from) := by
      unfold f_SkeletonClockModel_read
      by_cases a : x0 < 0
      · rw [if_pos a]
      · rw [if_neg a]
        by_cases b : (5 : Int32) < x0
        · rw [if_pos b]
        · rcases pk_ix x0 (n := 6) (by omega) with c | c | ⟨j, hj, rfl⟩
          · exact absurd c a
          · exact absurd c (by
              have k6 : nI 6 = 6 := by decide
              rw [k6]
              exact i56 b)
          · exact absurd (sN hj (by omega)) hx
    exact ⟨_, hr, fun _ => ⟨_, rfl, rfl, hT, hG, hN, hW, hL, hM, hQ⟩, fun q h => absurd h hx⟩
