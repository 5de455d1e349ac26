/-! read: both walks. -/
theorem go_l {n N x : Nat} {T : Nat → Nat} {f g kd nb so co cn ar en sz : Nat → Int32} {E : Nat → Nat} {gn : Nat → Int64} {lo : Int32} (hn : n ≤ 60) (hf : Tx n T f) (hg : Tx n T g) (hgn : R_nam gn) (h : PV N kd nb (fun j => so (20 * x + j)) (fun j => co (20 * x + j)) (fun j => cn (20 * x + j)) (fun j => ar (20 * x + j)) (fun j => en (20 * x + j)) E) (hE : ∀ j, j < N → so (20 * x + j) = 2 → E j ≤ N) (hS : SP N (fun j => so (20 * x + j)) (fun j => ar (20 * x + j)) E) (h3 : K3 N kd nb (fun j => so (20 * x + j)) E) (hx : x < 6) (hN : N ≤ 20) (hz : sz x = nI N) : ∀ m F p pl z dp e (q P Z : Nat → Nat) (ends pls mks fl od vals kn op fr bf : Nat → Int32) (va : Nat → Int64), N - p ≤ m → m < F → p ≤ N → pl ≤ n → NS (fun j => so (20 * x + j)) E p dp q ends → NS (fun j => so (20 * x + j)) E p e q ends → (∀ i, i < e → p < E (q i)) → e ≤ dp → KN z fl od → KV fl vals kn va → (∀ i, i < dp → pls i = nI (P i) ∧ P i ≤ n ∧ mks i = nI (Z i) ∧ Z i ≤ z) → (∀ i j, i < j → j < dp → Z i ≤ Z j) → (∀ i, i < e → op i = nI (q i) ∧ fr i = nI (P i) ∧ ∀ k, k < 14 → (bf (14 * i + fx k) = 1 ∧ ∃ j, j < Z i ∧ od j = nI k) ∨ (bf (14 * i + fx k) = 0 ∧ ∀ j, j < Z i → od j ≠ nI k)) → ∃ rc rm, lp_TextReader_go_28 60 lo (nI n) f (nI N) kd nb F (nI p) (nI pl) (nI z) vals fl od (nI dp) ends pls mks = some rc ∧ lp_SkeletonClockModel_through_31 (nI n) lo g gn so co cn ar en sz (nI x) F (nI pl) (nI p) (nI e) kn va bf op fr = some rm ∧ ((∃ (pl' z' : Nat) (vals' fl' od' : Nat → Int32) (o1 : Int32 × (Nat → Int32) × (Nat → Int32) × (Nat → Int32)) (o2 : (Nat → Int32) × (Nat → Int64) × (Nat → Int32) × (Nat → Int32) × (Nat → Int32)), pl' ≤ n ∧ rc = .inl (nI pl', lo, nI pl', nI z', vals', fl', od', o1) ∧ rm = .inl (nI pl', o2) ∧ KN z' fl' od') ∨ ∃ (pl' z' : Nat) (vals' fl' od' kn' : Nat → Int32) (va' : Nat → Int64) (y y1 y2 : Int32) (o1 : Int32 × (Nat → Int32) × (Nat → Int32) × (Nat → Int32)) (o2 : (Nat → Int32) × (Nat → Int32) × (Nat → Int32)), pl' ≤ n ∧ rc = .inr (y, nI pl', nI z', vals', fl', od', o1) ∧ rm = .inr (nI pl', y1, y2, kn', va', o2) ∧ KN z' fl' od' ∧ KV fl' vals' kn' va') := by
  have enE : ∀ j, j < N → so (20 * x + j) = 2 → en (20 * x + j) = nI (E j) := by
    intro j hj h2
    rcases h.1 j hj with a | ⟨a1, a2, a3, a4⟩
    · dsimp only at a
      rcases a with ⟨a1, -⟩ | ⟨a1, -⟩
      · rw [a1] at h2
        exact absurd h2 (by decide)
      · rw [a1] at h2
        exact absurd h2 (by decide)
    · rcases a4 with a4 | a4
      · exact a4.2.2
      · have := hE j hj h2
        omega
  have endc : ∀ F p pl z dp e (ends pls mks fl od vals kn op fr bf : Nat → Int32) (va : Nat → Int64), p = N → 0 < F → pl ≤ n → KN z fl od → KV fl vals kn va → ∃ rc rm, lp_TextReader_go_28 60 lo (nI n) f (nI N) kd nb F (nI p) (nI pl) (nI z) vals fl od (nI dp) ends pls mks = some rc ∧ lp_SkeletonClockModel_through_31 (nI n) lo g gn so co cn ar en sz (nI x) F (nI pl) (nI p) (nI e) kn va bf op fr = some rm ∧ ((∃ (pl' z' : Nat) (vals' fl' od' : Nat → Int32) (o1 : Int32 × (Nat → Int32) × (Nat → Int32) × (Nat → Int32)) (o2 : (Nat → Int32) × (Nat → Int64) × (Nat → Int32) × (Nat → Int32) × (Nat → Int32)), pl' ≤ n ∧ rc = .inl (nI pl', lo, nI pl', nI z', vals', fl', od', o1) ∧ rm = .inl (nI pl', o2) ∧ KN z' fl' od') ∨ ∃ (pl' z' : Nat) (vals' fl' od' kn' : Nat → Int32) (va' : Nat → Int64) (y y1 y2 : Int32) (o1 : Int32 × (Nat → Int32) × (Nat → Int32) × (Nat → Int32)) (o2 : (Nat → Int32) × (Nat → Int32) × (Nat → Int32)), pl' ≤ n ∧ rc = .inr (y, nI pl', nI z', vals', fl', od', o1) ∧ rm = .inr (nI pl', y1, y2, kn', va', o2) ∧ KN z' fl' od' ∧ KV fl' vals' kn' va') := by
    intro F p pl z dp e ends pls mks fl od vals kn op fr bf va hp hF hpl hKN hKV
    obtain ⟨F, rfl⟩ : ∃ H, F = H + 1 := ⟨F - 1, by omega⟩
    rw [lp_TextReader_go_28, st_TextReader_go_28, if_pos (nI_le (by omega) (by omega)), lp_SkeletonClockModel_through_31, st_SkeletonClockModel_through_31, if_pos (sN (by omega) (by decide)), nI_clamp (by omega), hz, if_pos (nI_le (by omega) (by omega))]
    exact ⟨_, _, rfl, rfl, Or.inr ⟨pl, z, vals, fl, od, kn, va, _, _, _, _, _, hpl, rfl, rfl, hKN, hKV⟩⟩
  intro m
  induction m with
  | zero =>
    intro F p pl z dp e q P Z ends pls mks fl od vals kn op fr bf va hm hF hp hpl hNd hNe heo hed hKN hKV hst hZm hrf
    exact endc F p pl z dp e ends pls mks fl od vals kn op fr bf va (by omega) (by omega) hpl hKN hKV
  | succ m ih =>
    intro F p pl z dp e q P Z ends pls mks fl od vals kn op fr bf va hm hF hp hpl hNd hNe heo hed hKN hKV hst hZm hrf
    by_cases pe : p = N
    · exact endc F p pl z dp e ends pls mks fl od vals kn op fr bf va pe (by omega) hpl hKN hKV
    obtain ⟨F, rfl⟩ : ∃ H, F = H + 1 := ⟨F - 1, by omega⟩
    have hpN : p < N := by omega
    obtain ⟨e', c1, c2, c3, c4⟩ := cb_c hS hN hpN hNd
    have ee : e' = e := ns_uniq c3 c4 hNe heo
    subst ee
    have ep : e' ≤ p := c3.1
    have sx : ¬ (nI x < 0 ∨ 7 ≤ (nI x).toNatClampNeg) := sN (by omega) (by decide)
    have sp : ¬ (nI (20 * x + p) < 0 ∨ 140 ≤ (nI (20 * x + p)).toNatClampNeg) := sN (by omega) (by decide)
    rw [lp_TextReader_go_28, st_TextReader_go_28, if_neg (nI_ge hpN (by omega)), c2, ob_some, (pk_c hN hpN kd).1, ob_some, lp_SkeletonClockModel_through_31, st_SkeletonClockModel_through_31, if_pos sx, nI_clamp (show x < 2 ^ 31 by omega), hz, if_neg (nI_ge hpN (by omega)), ix20, if_pos sp, nI_clamp (show 20 * x + p < 2 ^ 31 by omega), nI_1]
    have kn01 : ∀ k, k < 14 → kn k = 0 ∨ kn k = 1 := by
      intro k hk
      obtain ⟨i, i1, i2⟩ := fx_on k hk
      rw [← i2]
      rcases hKV i i1 with a | a
      · exact Or.inl a.2
      · exact Or.inr a.2.1
    by_cases s2 : so (20 * x + p) = 2
    · -- a section opens
      have Ep := hS.1 p hpN s2
      have kp : kd p = 16 ∧ nb p = nI (E p) := by
        rcases h3 p hpN with a | a | a
        · exact a.2
        · have := a.1
          dsimp only at this
          rw [s2] at this
          exact absurd this (by decide)
        · have := a.1
          dsimp only at this
          rw [s2] at this
          exact absurd this (by decide)
      obtain ⟨z75, bf', b1, b2, b3⟩ := t75_l (a := nI x) (b := nI pl) (c := nI p) (e := e') (kn := kn) (by omega) kn01 14 0 FU bf (by omega) (by unfold FU; omega)
      have nsO := ns_open hS hpN c3 c4 s2
      have opq : ∀ i, i < e' + 1 → upd op e' (nI p) i = nI (qU q e' p i) := by
        intro i hi
        unfold qU
        by_cases y : i = e'
        · rw [y, pk_us, if_pos rfl]
        · rw [pk_un y, if_neg y]
          exact (hrf i (by omega)).1
      obtain ⟨e2, f1, f2, f3, f4⟩ := t222_l (y := nI pl) (op := upd op e' (nI p)) (en := en) hS hx hN (show p + 1 ≤ N by omega) (e' + 1) FU (by unfold FU; omega) nsO (fun i hi => by
        have b := opq i hi
        refine ⟨?_, ?_, b, ?_⟩
        · unfold qU
          by_cases y : i = e'
          · rw [if_pos y]
            omega
          · rw [if_neg y]
            have := c4 i (by omega)
            omega
        · have := (nsO.2.1 i hi)
          exact (hS.1 _ (by omega) this.2.1).2
        · have := (nsO.2.1 i hi)
          exact enE _ (by omega) this.2.1)
      rw [kp.1, if_pos rfl, (pk_c hN hpN nb).2, ob_some, kp.2, no_c (by omega), ob_some, if_pos s2, if_pos (sN (by omega) (by decide)), if_pos (sN (by omega) (by decide)), nI_clamp (show e' < 2 ^ 31 by omega), kk0, b1, ob_some, nI_1, f2, ob_some]
      refine ih F (p + 1) pl z (e' + 1) e2 (qU q e' p) (qU P e' pl) (qU Z e' z) _ _ _ fl od vals kn _ _ bf' va (by omega) (by omega) (by omega) hpl nsO f3 f4 f1 hKN hKV (fun i hi => ?_) (fun i j a b => ?_) (fun i hi => ?_)
      · dsimp only
        unfold qU
        by_cases y : i = e'
        · rw [y, pk_us, pk_us, if_pos rfl, if_pos rfl]
          exact ⟨rfl, hpl, rfl, Nat.le_refl _⟩
        · rw [pk_un y, pk_un y, if_neg y, if_neg y]
          exact hst i (by omega)
      · unfold qU
        rw [if_neg (by omega)]
        by_cases y : j = e'
        · rw [if_pos y]
          exact (hst i (by omega)).2.2.2
        · rw [if_neg y]
          exact hZm i j a (by omega)
      · refine ⟨opq i (by omega), ?_, fun k hk => ?_⟩
        · unfold qU
          by_cases y : i = e'
          · rw [y, pk_us, if_pos rfl]
          · rw [pk_un y, if_neg y]
            exact (hrf i (by omega)).2.1
        · have fk := fx_lt k hk
          unfold qU
          by_cases y : i = e'
          · rw [y, if_pos rfl, b2 (fx k) (by omega) fk]
            rcases hKV k hk with a | a
            · refine Or.inr ⟨a.2, fun j hj w => ?_⟩
              obtain ⟨k', k1, k2, k3⟩ := hKN.2.2.1 j hj
              have : k' = k := (nI_eq (by omega) (by omega)).mp (k2.symm.trans w)
              rw [this, a.1] at k3
              exact absurd k3 (by decide)
            · exact Or.inl ⟨a.2.1, hKN.2.2.2.2 k hk a.1⟩
          · rw [if_neg y, b3 _ (Or.inl (by omega))]
            exact (hrf i (by omega)).2.2 k hk
    · -- a piece
      have kp : ¬ kd p = 16 := by
        rcases h3 p hpN with a | a | a
        · exact absurd a.1 s2
        · rw [a.2]
          decide
        · obtain ⟨i, i1, i2⟩ := a.2
          rw [i2]
          exact (i15 i1).1
      have lims : ∃ lim, f_Nest_limit (nI e') ends (nI N) = some (nI lim) ∧ lim ≤ N ∧ p < lim ∧ ((ar (20 * x + p) = -1 ∧ lim = N) ∨ ∃ a, a < N ∧ ar (20 * x + p) = nI a ∧ lim = E a) := by
        rcases ns_top hS hpN c3 c4 with ⟨t1, t2⟩ | ⟨e1, t1, t2⟩
        · refine ⟨N, ?_, Nat.le_refl _, hpN, Or.inl ⟨t1, rfl⟩⟩
          unfold f_Nest_limit
          rw [t2, if_pos (by decide)]
        · subst t1
          have qe := c3.2.1 e1 (by omega)
          obtain ⟨l1, -⟩ := nl_c (e := e1) (by omega) ends (nI N)
          refine ⟨E (q e1), by rw [l1, qe.2.2], (hS.1 _ (by omega) qe.2.1).2, c4 e1 (by omega), Or.inr ⟨q e1, by omega, t2, rfl⟩⟩
      obtain ⟨lim, l1, l2, l3, l4⟩ := lims
      obtain ⟨rc, rm, r1, r2, r3⟩ := pc_c (c := 0) (lo := lo) hgn hn hf hg hpl hKN hKV h hS hx hN hz hpN l2 l3 l4 l1 s2
      rw [if_neg kp, r1, ob_some, if_neg s2, r2, ob_some]
      rcases r3 with ⟨rfl, rfl⟩ | ⟨pl', z', g1, g2, g3, g4, g5, g6, g7, g8⟩
      · -- it fails
        have n0 : ¬ (0 : Int32) ≤ -1 := by decide
        dsimp only
        rw [if_pos rfl, if_neg n0, if_neg n0]
        rcases ns_top hS hpN c3 c4 with ⟨t1, t2⟩ | ⟨e1, t1, t2⟩
        · subst t2
          have n1 : f_Nest_isEmpty (nI 0) = some 1 := by decide
          rw [n1, ob_some, if_neg (by decide), if_pos (by decide)]
          exact ⟨_, _, rfl, rfl, Or.inl ⟨pl, z, vals, fl, od, _, _, hpl, rfl, rfl, hKN⟩⟩
        · subst t1
          have qe := c3.2.1 e1 (by omega)
          have qN : q e1 < N := by omega
          obtain ⟨m1, m2, m3, m4⟩ := nl_c (e := e1) (by omega) ends (nI N)
          obtain ⟨-, m6, -, -⟩ := nl_c (e := e1) (by omega) pls (nI N)
          obtain ⟨-, -, m8, -⟩ := nl_c (e := e1) (by omega) mks (nI N)
          obtain ⟨s5, s6, s7, s8⟩ := hst e1 (by omega)
          obtain ⟨fl', g1, g2, g3⟩ := fg_c hKN s8
          obtain ⟨u1, u2, u3⟩ := hrf e1 (by omega)
          have ae := hS.1 (q e1) qN qe.2.1
          have pE := c4 e1 (by omega)
          have bf01 : ∀ k, k < 14 → bf (14 * e1 + k) = 0 ∨ bf (14 * e1 + k) = 1 := by
            intro k hk
            obtain ⟨i, i1, i2⟩ := fx_on k hk
            rw [← i2]
            rcases u3 i i1 with a | a
            · exact Or.inr a.1
            · exact Or.inl a.1
          obtain ⟨z183, kn', v1, v2, v3⟩ := t183_l (a := nI x) (b := nI (P e1)) (c := nI (E (q e1))) (e := e1) (bf := bf) (by omega) bf01 14 0 FU kn (by omega) (by unfold FU; omega)
          have nsJ := ns_jump hS hpN c3 s2 qe.1 qe.2.1 pE
          have nsP := ns_pop nsJ (Nat.lt_irrefl _)
          obtain ⟨e2, f1, f2, f3, f4⟩ := t222_l (y := nI (P e1)) (op := op) (en := en) hS hx hN ae.2 e1 FU (by unfold FU; omega) nsP (fun i hi => by
            have a := c3.2.2.1 i e1 hi (by omega)
            have b := c3.2.1 i (by omega)
            have c := hS.2.2 (q i) (q e1) a.1 qN b.2.1 qe.2.1 a.2
            exact ⟨c, (hS.1 _ (by omega) b.2.1).2, (hrf i (by omega)).1, enE _ (by omega) b.2.1⟩)
          have mx : (if nI (p + 1) < nI (E (q e1)) then nI (E (q e1)) else nI (p + 1)) = nI (E (q e1)) := by
            by_cases y : p + 1 < E (q e1)
            · rw [if_pos (nI_lt y (by omega))]
            · rw [if_neg (nI_nlt (by omega) (by omega))]
              congr 1
              omega
          rw [m4, ob_some, if_pos rfl, m6, ob_some, m8, ob_some, s7, g1, ob_some, m1, ob_some, qe.2.2, mx, s5, if_neg (nI_ne0 (by omega) (by omega)), pk_m1, if_pos (sN (by omega) (by decide)), if_pos (sN (by omega) (by decide)), nI_clamp (show e1 < 2 ^ 31 by omega), u1, ix20, if_pos (sN (by omega) (by decide)), nI_clamp (show 20 * x + q e1 < 2 ^ 31 by omega), u2, enE _ qN qe.2.1, kk0, v1, ob_some, f2, ob_some]
          refine ih F (E (q e1)) (P e1) (Z e1) (e1 + 1) e2 q P Z ends pls mks fl' od vals kn' op fr bf va (by omega) (by omega) ae.2 s6 nsJ f3 f4 (by omega) g2 (fun i hi => ?_) (fun i hi => ?_) (fun i j a b => hZm i j a (by omega)) (fun i hi => hrf i (by omega))
          · have k1 := v2 (fx i) (by omega) (fx_lt i hi)
            rw [k1]
            rcases u3 i hi with ⟨w1, j, w2, w3⟩ | ⟨w1, w2⟩
            · obtain ⟨k', k2, k3, k4⟩ := g2.2.2.1 j w2
              have : k' = i := (nI_eq (by omega) (by omega)).mp (k3.symm.trans w3)
              subst this
              refine Or.inr ⟨k4, w1, ?_⟩
              rcases hKV k' hi with a | a
              · have := g3 k' hi k4
                rw [a.1] at this
                exact absurd this (by decide)
              · exact a.2.2
            · refine Or.inl ⟨?_, w1⟩
              rcases g2.2.1 i hi with a | a
              · exact a
              · obtain ⟨j, j1, j2⟩ := g2.2.2.2.2 i hi a
                exact absurd j2 (w2 j j1)
          · obtain ⟨a1, a2, a3, a4⟩ := hst i (by omega)
            refine ⟨a1, a2, a3, ?_⟩
            by_cases y : i = e1
            · rw [y]
              exact Nat.le_refl _
            · exact hZm i e1 (by omega) (by omega)
      · -- it goes on
        obtain ⟨rc1, rc2, rc3, rc4, rc5⟩ := rc
        obtain ⟨rm1, rm2, rm3⟩ := rm
        dsimp only at g3 g4 g5 g6 g7 g8 ⊢
        subst g3 g4 g5
        have nsS := ns_step c3 s2
        obtain ⟨e2, f1, f2, f3, f4⟩ := t222_l (y := nI pl') (op := op) (en := en) hS hx hN (show p + 1 ≤ N by omega) e' FU (by unfold FU; omega) nsS (fun i hi => by
          have b := c3.2.1 i hi
          have d := c4 i hi
          exact ⟨by omega, (hS.1 _ (by omega) b.2.1).2, (hrf i hi).1, enE _ (by omega) b.2.1⟩)
        rw [if_neg (nI_m1 (by omega)), if_pos (nI_pos' (by omega)), if_pos (nI_pos' (by omega)), f2, ob_some]
        refine ih F (p + 1) pl' z' e' e2 q P Z ends pls mks rc4 rc5 rc3 rm2 op fr bf rm3 (by omega) (by omega) (by omega) g1 nsS f3 f4 f1 g7 g8 (fun i hi => ?_) (fun i j a b => hZm i j a (by omega)) (fun i hi => ?_)
        · obtain ⟨a1, a2, a3, a4⟩ := hst i (by omega)
          exact ⟨a1, a2, a3, by omega⟩
        · obtain ⟨a1, a2, a3⟩ := hrf i (by omega)
          have zi := (hst i (by omega)).2.2.2
          refine ⟨a1, a2, fun k hk => ?_⟩
          rcases a3 k hk with ⟨b1, j, b2, b3⟩ | ⟨b1, b2⟩
          · exact Or.inl ⟨b1, j, b2, by rw [g6 j (by omega)]; exact b3⟩
          · exact Or.inr ⟨b1, fun j hj => by rw [g6 j (by omega)]; exact b2 j hj⟩
