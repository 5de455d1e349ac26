/-! print: both sides. -/
theorem i56 {x : Int32} (h : ¬ (5 : Int32) < x) : ¬ (6 : Int32) ≤ x := by
  rw [Int32.lt_iff_toInt_lt] at h
  rw [Int32.le_iff_toInt_le]
  have a : (5 : Int32).toInt = 5 := by decide
  have b : (6 : Int32).toInt = 6 := by decide
  omega
theorem b2_l {n : Nat} (hn : n ≤ 200) (g : Nat → Int32) (hg : ∀ j, j < n → ∃ c : Nat, 32 ≤ c ∧ c ≤ 126 ∧ g j = nI c) (m : Nat) : ∀ (j k : Nat) (f : Nat → Int32), k + j = n → (∀ i, i < k → f i = g i) → ∃ v : Nat → Int32, lp_Row_become_7 200 200 (nI n) g (m + j + 1) (nI k) (nI k) f = some (nI n, nI n, v) ∧ ∀ i, i < n → v i = g i := by
  intro j
  induction j with
  | zero =>
    intro k f hk h
    have : k = n := by omega
    subst this
    exact ⟨f, by rw [lp_Row_become_7, st_Row_become_7, if_pos (nI_le (Nat.le_refl _) (by omega))], h⟩
  | succ j ih =>
    intro k f hk h
    obtain ⟨c, c1, c2, c3⟩ := hg k (by omega)
    have e : m + (j + 1) + 1 = (m + j + 1) + 1 := by omega
    rw [e, lp_Row_become_7, st_Row_become_7, if_neg (nI_ge (by omega) (by omega)), ca_c hn (by decide), ob_some]
    have sl : slotN (nI k) n := sN (by omega) (by omega)
    rw [if_pos sl, nI_clamp (by omega), c3, m16 (by omega), (put_c (by omega) (by decide) f (by omega)).1 (by omega), ob_some, nI_1]
    refine ih (k + 1) _ (by omega) (fun i hi => ?_)
    by_cases y : i = k
    · subst y
      dsimp only
      rw [pk_us, c3]
    · dsimp only
      rw [pk_un y]
      exact h i (by omega)
theorem gd_mem {L : List Nat} {j : Nat} (h : j < L.length) : L.getD j 0 ∈ L := by
  rw [List.getD_eq_getElem?_getD, List.getElem?_eq_getElem h]
  exact List.getElem_mem h
theorem b2_c {L : List Nat} {sz : Int32} {f : Nat → Int32} (h : Dr L sz f) (hL : L.length ≤ 200) (s0 : Int32) (f0 : Nat → Int32) : ∃ f', f_Row_become 200 200 s0 f0 sz f = some (nI L.length, f') ∧ Dr L (nI L.length) f' := by
  rw [h.1]
  obtain ⟨v, v1, v2⟩ := b2_l hL f (fun j hj => ⟨L.getD j 0, (h.2.1 _ (gd_mem hj)).1, (h.2.1 _ (gd_mem hj)).2, h.2.2 j hj⟩) (999 - L.length) L.length 0 f0 (by omega) (fun i hi => by omega)
  refine ⟨v, ?_, rfl, h.2.1, fun j hj => by rw [v2 j hj, h.2.2 j hj]⟩
  unfold f_Row_become
  have e : FU = 999 - L.length + L.length + 1 := by
    unfold FU
    omega
  rw [e]
  rw [← kk0] at v1
  rw [v1, ob_some]
theorem dr_txt {L : List Nat} {s1 s2 : Int32} {f g : Nat → Int32} (h1 : Dr L s1 f) (h2 : Dr L s2 g) (hL : L.length ≤ 200) : R_txt 200 s1 f s2 g := by
  refine ⟨L.length, hL, h1.1, h2.1, fun j hj => ⟨by rw [h1.2.2 j hj, h2.2.2 j hj], L.getD j 0, (h2.2.1 _ (gd_mem hj)).1, (h2.2.1 _ (gd_mem hj)).2, h2.2.2 j hj⟩⟩
theorem p_print : pu_print LI_ := by
  intro ps t_nearest t_text_size t_text_cells t_page_size t_page_cells t_parser_depth t_parser_quoted t_parser_pattern_size t_parser_pattern_kinds t_parser_pattern_numbers t_parser_open t_printer_draft_size t_printer_draft_cells t_printer_nest_depth t_printer_nest_ends t_printer_nest_places t_printer_nest_marks t_reader_loose t_reader_place t_reader_known_size t_reader_known_values t_reader_known_flags t_reader_known_order t_reader_nest_depth t_reader_nest_ends t_reader_nest_places t_reader_nest_marks t_resolver_style t_resolver_used t_resolver_day t_resolver_second t_resolver_moment_seconds t_resolver_moment_parts t_resolver_moment_values t_now_seconds t_now_parts t_now_values t_latest_seconds t_latest_parts t_latest_values m_length m_used m_far m_momentParts m_momentDay m_momentSecond m_momentNano m_momentOffset m_readParts m_readDay m_readSecond m_readNano m_readOffset m_alike m_text m_page m_names m_sort m_code m_count m_around m_end m_size m_there m_wish m_have m_known m_value m_before m_open m_from x0 hI
  obtain ⟨hT, hG, hN, hW, hL, hM, hQ⟩ := hI
  by_cases hx : slotP x0
  · obtain ⟨x, x6, rfl⟩ := vp_in_of hx (by omega)
    rw [nI_clamp (by omega)]
    unfold f_SkeletonClockModel_print
    rw [if_neg (nI_pos (by omega)), kk5, if_neg (nI_nlt (by omega) (by omega)), if_pos (sN (by omega) (by decide)), nI_clamp (by omega)]
    have hQ2 := hQ x x6
    rcases hQ2 with ⟨t0, p0⟩ | ⟨t1, q, n, p1, n1, n2, n3, E, hPV, hE⟩
    · rw [t0, if_pos rfl]
      refine ⟨_, rfl, fun _ => ⟨_, rfl, rfl, hT, hG, hN, hW, hL, hM, hQ⟩, fun q _ h => ?_⟩
      rw [p0] at h
      exact absurd h (by intro c; cases c)
    · have hS := sp_of hPV hE
      have h3 := k3_of hPV hE n1
      have hW2 := hW
      obtain ⟨d, s, m, o, p, w1, w2, w3, w4, w5, w6, w7, w8, w9, w10, w11, w12, w13⟩ := hW2
      have hqw : ∀ k, ∃ M, k < n → QW t_now_values (jI d) (iI s) (iI m) (iI o) m_names n q.1 q.2.1 (fun j => m_sort (20 * x + j)) (fun j => m_code (20 * x + j)) (fun j => m_count (20 * x + j)) k M := by
        intro k
        by_cases hk : k < n
        · obtain ⟨M, hM2⟩ := qw_c w9 w10 w11 w12 w13 hM.1 n1 hPV k hk
          exact ⟨M, fun _ => hM2⟩
        · exact ⟨[], fun c => absurd c hk⟩
      obtain ⟨out, hw⟩ := Classical.skolem.mp hqw
      obtain ⟨r, r1, r2⟩ := wr_c (P := nI p) (out := out) hS n1 h3 hw t_printer_draft_size t_printer_draft_cells t_printer_nest_depth t_printer_nest_ends t_printer_nest_places t_printer_nest_marks
      have lv := cat_len (out := out) (I := inc n (fun j => m_sort (20 * x + j)) (fun j => m_around (20 * x + j)) E (ms (nI p) q.1) n) n (fun i hi => (hw i hi).1)
      have o1 : ¬ (1 : Int32) = 0 := by decide
      rw [t1, if_neg o1, w6]
      rcases la_c (P := nI p) (y := -1) hPV x6 n1 n3 with ⟨l1, j, l2, l3, l4⟩ | ⟨l1, l2⟩
      · rw [l1, ob_some, if_neg o1]
        refine ⟨_, rfl, fun c => ?_, fun q' _ h => ?_⟩
        · rcases c with c | c
          · exact absurd hx c
          · rw [p1] at c
            exact absurd c (by intro e; cases e)
        · rw [p1] at h
          obtain rfl := Option.some.inj h
          rcases r2 with ⟨r2, r3⟩ | ⟨r2, -⟩
          · refine ⟨_, by
              unfold f_SkeletonClock_print_S
              rw [w5, n2, r1, ob_some, if_pos r3], rfl, hT, hG, hN, by rw [← w6]; exact hW, hL, hM, hQ⟩
          · exact absurd l4 (r2 j l2 l3)
      · rw [l1, ob_some, if_pos rfl]
        rcases r2 with ⟨⟨k, k1, k2, k3⟩, -⟩ | ⟨-, r3, r4⟩
        · exact absurd k3 (l2 k k1 k2)
        · obtain ⟨z, us, pg, a1, a2⟩ := ml_l (P := nI p) (out := out) hPV hS h3 x6 n1 n3 hw n 0 FU 0 m_page (by omega) (by unfold FU; omega) (dr_nil _)
          rw [w1, w2, w3, w4, ix20']
          rw [Nat.add_zero] at a1
          rw [a1, ob_some]
          refine ⟨_, rfl, fun c => ?_, fun q' _ h => ?_⟩
          · rcases c with c | c
            · exact absurd hx c
            · rw [p1] at c
              exact absurd c (by intro e; cases e)
          · rw [p1] at h
            obtain rfl := Option.some.inj h
            have l200 : (Vd n (fun j => m_sort (20 * x + j)) (fun j => m_around (20 * x + j)) E (ms (nI p) q.1) out n).length ≤ 200 := by
              unfold Vd
              omega
            obtain ⟨f', b1, b2⟩ := b2_c r4 l200 t_page_size t_page_cells
            refine ⟨_, by
              unfold f_SkeletonClock_print_S
              rw [w5, n2, r1, ob_some, r3, if_neg o1, b1, ob_some], a2.1.symm, hT, dr_txt b2 a2 l200, hN, ?_, hL, hM, hQ⟩
            rw [← w1, ← w2, ← w3, ← w4, ← w6]
            exact hW
  · have hr : f_SkeletonClockModel_print m_used m_momentParts m_momentDay m_momentSecond m_momentNano m_momentOffset m_page m_names m_sort m_code m_count m_around m_size m_there x0 = some (-2, m_used, m_page) := by
      unfold f_SkeletonClockModel_print
      by_cases a : x0 < 0
      · rw [if_pos a]
      · rw [if_neg a]
        by_cases b : (5 : Int32) < x0
        · rw [if_pos b]
        · rcases pk_ix x0 (n := 6) (by omega) with c | c | ⟨j, hj, rfl⟩
          · exact absurd c a
          · exact absurd c (by
              have k6 : nI 6 = 6 := by decide
              rw [k6]
              exact i56 b)
          · exact absurd (sN hj (by omega)) hx
    exact ⟨_, hr, fun _ => ⟨_, rfl, rfl, hT, hG, hN, hW, hL, hM, hQ⟩, fun q h => absurd h hx⟩
