/-! match: the distance of a pattern on both sides. -/
theorem l81 (w h : Nat → Int32) (W H : Nat → Nat) (hw : ∀ c, c < 128 → W c < 10 ∧ w c = nI (W c)) (hh : ∀ c, c < 128 → H c < 10 ∧ h c = nI (H c)) : ∀ (m c F : Nat), c + m = 128 → m < F → lp_SkeletonClockModel_distanceTo_81 w h F (nI (smN (fun c => md c (W c) (H c)) c)) (nI c) = some (nI (smN (fun c => md c (W c) (H c)) 128), nI 128) := by
  have k128 : (128 : Int32) = nI 128 := by decide
  intro m
  induction m with
  | zero =>
    intro c F hc hF
    obtain ⟨F, rfl⟩ : ∃ H, F = H + 1 := ⟨F - 1, by omega⟩
    have e : c = 128 := by omega
    subst e
    rw [lp_SkeletonClockModel_distanceTo_81, st_SkeletonClockModel_distanceTo_81, if_pos (by decide)]
  | succ m ih =>
    intro c F hc hF
    obtain ⟨F, rfl⟩ : ∃ H, F = H + 1 := ⟨F - 1, by omega⟩
    have a := hw c (by omega)
    have b := hh c (by omega)
    rw [lp_SkeletonClockModel_distanceTo_81, m81 (by omega) a.1 b.1 w h a.2 b.2]
    exact ih (c + 1) F (by omega) (by omega)
theorem z2_l (x : Int32) : ∀ (m c F : Nat) (w : Nat → Int32), c + m = 128 → m < F → (∀ j, j < c → w j = 0) → ∃ w2, lp_SkeletonClockModel_distanceTo_2 x F (nI c) w = some (nI 128, w2) ∧ ∀ j, j < 128 → w2 j = 0 := by
  have k128 : (128 : Int32) = nI 128 := by decide
  intro m
  induction m with
  | zero =>
    intro c F w hc hF h
    obtain ⟨F, rfl⟩ : ∃ H, F = H + 1 := ⟨F - 1, by omega⟩
    have e : c = 128 := by omega
    subst e
    exact ⟨w, by rw [lp_SkeletonClockModel_distanceTo_2, st_SkeletonClockModel_distanceTo_2, if_pos (by decide)], h⟩
  | succ m ih =>
    intro c F w hc hF h
    obtain ⟨F, rfl⟩ : ∃ H, F = H + 1 := ⟨F - 1, by omega⟩
    rw [lp_SkeletonClockModel_distanceTo_2, st_SkeletonClockModel_distanceTo_2, k128, if_neg (nI_ge (by omega) (by omega)), if_pos (sN (by omega) (by omega)), nI_clamp (by omega), nI_1]
    refine ih (c + 1) F _ (by omega) (by omega) (fun j hj => ?_)
    by_cases e : j = c
    · subst e
      exact pk_us
    · rw [pk_un e]
      exact h j (by omega)
theorem hv_l {n x : Nat} (hn : n ≤ 20) (hx : x < 6) {kd nb ar en so co cn : Nat → Int32} {E : Nat → Nat} (h : PV n kd nb (fun j => so (20 * x + j)) (fun j => co (20 * x + j)) (fun j => cn (20 * x + j)) ar en E) : ∀ (p m F : Nat) (hv : Nat → Int32), p + m = n → p < F → (∀ c, c < 128 → hv c = gcF (fun j => so (20 * x + j)) (fun j => co (20 * x + j)) (fun j => cn (20 * x + j)) c m p) → ∃ v hv', lp_SkeletonClockModel_distanceTo_36 so co cn (nI x) F (nI (20 * x + p) - 1) hv = some (v, hv') ∧ ∀ c, c < 128 → hv' c = gcF (fun j => so (20 * x + j)) (fun j => co (20 * x + j)) (fun j => cn (20 * x + j)) c n 0 := by
  intro p
  induction p with
  | zero =>
    intro m F hv hm hF hq
    obtain ⟨F, rfl⟩ : ∃ H, F = H + 1 := ⟨F - 1, by omega⟩
    have e : m = n := by omega
    subst e
    refine ⟨nI (20 * x + 0) - 1, hv, ?_, hq⟩
    have lt : nI (20 * x + 0) - 1 < (20 : Int32) * nI x := by
      rcases (show x = 0 ∨ x = 1 ∨ x = 2 ∨ x = 3 ∨ x = 4 ∨ x = 5 by omega) with rfl | rfl | rfl | rfl | rfl | rfl <;> decide
    rw [lp_SkeletonClockModel_distanceTo_36, st_SkeletonClockModel_distanceTo_36, if_pos lt]
  | succ p ih =>
    intro m F hv hm hF hq
    obtain ⟨F, rfl⟩ : ∃ H, F = H + 1 := ⟨F - 1, by omega⟩
    have i1 := sN (n := 20 * x + p) (N := 140) (by omega) (by omega)
    have e0 : nI (20 * x + p) + -1 = nI (20 * x + p) - 1 := by
      rw [Int32.sub_eq_add_neg]
    rw [show 20 * x + (p + 1) = 20 * x + p + 1 from rfl, nI_pred, lp_SkeletonClockModel_distanceTo_36, st_SkeletonClockModel_distanceTo_36, kk20, pk_mul, if_neg (nI_nlt (by omega) (by omega)), if_pos i1, if_pos i1, if_pos i1, nI_clamp (by omega), e0]
    by_cases e : so (20 * x + p) = 1
    · rw [if_pos e]
      rcases h.1 p (by omega) with (⟨a1, -⟩ | ⟨a1, i0, c0, a2, a3, a4, a5, a6, a7, a8, a9⟩) | ⟨a1, -⟩
      · have a1 : so (20 * x + p) = 0 := a1
        rw [e] at a1
        exact absurd a1 (by decide)
      · have hl := lix_lt i0 a2
        have a6 : co (20 * x + p) = nI (lixL.getD i0 0) := a6
        rw [a6, if_pos (sN hl (by omega)), nI_clamp (by omega)]
        refine ih (m + 1) F _ (by omega) (by omega) (fun c hc => ?_)
        rw [gcF, e, a6]
        by_cases ec : lixL.getD i0 0 = c
        · rw [ec, pk_us, if_pos ⟨rfl, rfl⟩]
        · rw [pk_un (fun q => ec q.symm), if_neg (fun q => ec ((nI_eq (by omega) (by omega)).mp q.2))]
          exact hq c hc
      · have a1 : so (20 * x + p) = 2 := a1
        rw [e] at a1
        exact absurd a1 (by decide)
    · rw [if_neg e]
      refine ih (m + 1) F _ (by omega) (by omega) (fun c hc => ?_)
      rw [gcF, if_neg (fun q => e q.1)]
      exact hq c hc
theorem lix_77 : ∀ i, i < 15 → (lixL.getD i 0 = 77 ↔ i = 2) := by decide
theorem di_c {n n2 x : Nat} (hn : n ≤ 20) (hn2 : n2 ≤ 20) (hx : x < 6) {kd nb kd2 nb2 so co cn ar en sz w : Nat → Int32} (hz : sz x = nI n) (h : R_pie n kd nb (fun j => so (20 * x + j)) (fun j => co (20 * x + j)) (fun j => cn (20 * x + j)) ar en) (hw : ∀ i, i < 15 → w (lixL.getD i 0) = fcF kd2 nb2 (nI i) n2 0 ∧ ∃ v, v < 10 ∧ fcF kd2 nb2 (nI i) n2 0 = nI v) (hw2 : ∀ c, c < 128 → (∀ i, i < 15 → lixL.getD i 0 ≠ c) → w c = 0) (hv : Nat → Int32) : ∃ D h', D ≤ 15000 ∧ f_SkeletonClockModel_distanceTo so co cn sz w hv (nI x) = some (nI D, h') ∧ f_Pattern_distanceTo (nI n) kd nb (nI n2) kd2 nb2 = some (nI D) := by
  obtain ⟨E, hP, -⟩ := h
  obtain ⟨g1, g2⟩ := gf_c hn hP n 0 (by omega)
  obtain ⟨w1, y1, y2⟩ := z2_l (nI x) 128 0 FU hv (by omega) (by unfold FU; omega) (fun j hj => by omega)
  obtain ⟨v, h', y3, y4⟩ := hv_l hn hx hP n 0 FU w1 (by omega) (by unfold FU; omega) (fun c hc => y2 c hc)
  have clamp : ∀ z : Int32, (∃ v, v < 10 ∧ z = nI v) → z.toNatClampNeg < 10 ∧ z = nI z.toNatClampNeg := by
    intro z hz
    obtain ⟨v, a, rfl⟩ := hz
    rw [nI_clamp (by omega)]
    exact ⟨a, rfl⟩
  have all : ∀ c, c < 128 → (∃ i, i < 15 ∧ lixL.getD i 0 = c) ∨ ∀ i, i < 15 → lixL.getD i 0 ≠ c := by decide +kernel
  have hH : ∀ c, c < 128 → (h' c).toNatClampNeg < 10 ∧ h' c = nI (h' c).toNatClampNeg := by
    intro c hc
    refine clamp _ ?_
    rw [y4 c hc]
    rcases all c hc with ⟨i, hi, rfl⟩ | q
    · rw [(g1 i hi).1]
      exact (g1 i hi).2
    · exact ⟨0, by omega, g2 c hc q⟩
  have hW : ∀ c, c < 128 → (w c).toNatClampNeg < 10 ∧ w c = nI (w c).toNatClampNeg := by
    intro c hc
    refine clamp _ ?_
    rcases all c hc with ⟨i, hi, rfl⟩ | q
    · rw [(hw i hi).1]
      exact (hw i hi).2
    · exact ⟨0, by omega, hw2 c hc q⟩
  have d1 := dc_l hn hn2 kd nb kd2 nb2 (fun i => (fcF kd nb (nI i) n 0).toNatClampNeg) (fun i => (fcF kd2 nb2 (nI i) n2 0).toNatClampNeg) (fun i hi => clamp _ (g1 i hi).2) (fun i hi => clamp _ (hw i hi).2) 15 0 FU (by omega) (by unfold FU; omega)
  have d2 := l81 w h' (fun c => (w c).toNatClampNeg) (fun c => (h' c).toNatClampNeg) hW hH 128 0 FU (by omega) (by unfold FU; omega)
  have es : smN (fun c => md c (w c).toNatClampNeg (h' c).toNatClampNeg) 128 = smN (fun i => ld i (fcF kd nb (nI i) n 0).toNatClampNeg (fcF kd2 nb2 (nI i) n2 0).toNatClampNeg) 15 := by
    refine sm_eq _ _ (fun c hc hi => ?_) (fun i hi => ?_)
    · rw [hw2 c hc hi, y4 c hc, g2 c hc hi]
      unfold md ld
      rfl
    · have hl := lix_lt i hi
      rw [(hw i hi).1, y4 _ hl, (g1 i hi).1]
      unfold md
      by_cases e : i = 2
      · subst e
        rfl
      · rw [if_neg (fun q => e ((lix_77 i hi).mp q)), ld_2 i _ _ e]
  refine ⟨smN (fun i => ld i (fcF kd nb (nI i) n 0).toNatClampNeg (fcF kd2 nb2 (nI i) n2 0).toNatClampNeg) 15, h', ?_, ?_, ?_⟩
  · exact sm_le _ 1000 15 (fun c hc => ld_le _ _ _ (clamp _ (g1 c hc).2).1 (clamp _ (hw c hc).2).1)
  · unfold f_SkeletonClockModel_distanceTo
    rw [es] at d2
    have y1 : lp_SkeletonClockModel_distanceTo_2 (nI x) FU 0 hv = some (nI 128, w1) := y1
    have d2 : lp_SkeletonClockModel_distanceTo_81 w h' FU 0 0 = _ := d2
    rw [y1, ob_some, if_pos (sN (by omega) (by omega)), nI_clamp (by omega), hz, kk20, pk_mul, nI_add]
    dsimp only
    rw [y3, ob_some]
    dsimp only
    rw [d2, ob_some]
  · unfold f_Pattern_distanceTo
    have d1 : lp_Pattern_distanceTo_4 (nI n) kd nb (nI n2) kd2 nb2 FU 0 0 = _ := d1
    rw [d1, ob_some]
