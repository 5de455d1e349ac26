/-! read: a piece, on both sides. -/
theorem bndY {i : Nat} {y : Int} (hi : i ≤ 1) (h : -999999999 ≤ y ∧ y ≤ 999999999) : bnd i y := ⟨fun _ => h, fun q => by omega, fun q => by omega, fun q => by omega, fun q => by omega, fun q => by omega⟩
theorem bndP {i : Nat} {y : Int} (hi : 2 ≤ i ∧ i ≤ 11) (h5 : i ≠ 5) (h9 : i ≠ 9) (h : 0 ≤ y ∧ y ≤ 999) : bnd i y := ⟨fun q => by omega, fun _ _ => h, fun q => absurd q h5, fun q => absurd q h9, fun q => by omega, fun q => by omega⟩
theorem fr_y {n p0 N x p c z lim : Nat} {T : Nat → Nat} {f g vals fl od kn kd nb so co cn ar en sz ends : Nat → Int32} {E : Nat → Nat} {va : Nat → Int64} {dp : Int32} {i : Nat} (hn : n ≤ 60) (hf : Tx n T f) (hg : Tx n T g) (hp0 : p0 ≤ n) (hKN : KN z fl od) (hKV : KV fl vals kn va) (h : PV N kd nb (fun j => so (20 * x + j)) (fun j => co (20 * x + j)) (fun j => cn (20 * x + j)) (fun j => ar (20 * x + j)) en E) (hS : SP N (fun j => so (20 * x + j)) (fun j => ar (20 * x + j)) E) (hx : x < 6) (hN : N ≤ 20) (hz : sz x = nI N) (hp : p < N) (hln : lim ≤ N) (hpl : p < lim) (hl : (ar (20 * x + p) = -1 ∧ lim = N) ∨ ∃ a, a < N ∧ ar (20 * x + p) = nI a ∧ lim = E a) (hlim : f_Nest_limit dp ends (nI N) = some (nI lim)) (hso : so (20 * x + p) = 1) (hkd : kd p = nI i) (hnb : nb p = nI c) (hco : co (20 * x + p) = nI (lixL.getD i 0)) (hcn : cn (20 * x + p) = nI c) (hi : i = 0 ∨ i = 1) (hc : c = 1 ∨ c = 4) : RR n z vals fl od kn va (f_TextReader_endOfFree 60 (nI p0) (nI z) vals fl od dp ends (nI n) f (nI N) kd nb (nI p)) (f_SkeletonClockModel_freely (nI n) g so co cn ar sz kn va (nI x) (nI (20 * x + p)) (nI p0)) := by
  have s2 : so (20 * x + p) ≠ 2 := by
    rw [hso]
    decide
  have hc4 : nI c = 4 ↔ c = 4 := by
    rw [kk4]
    exact nI_eq (by omega) (by decide)
  have iy : f_SkeletonClock_isYearField (nI i) = some 1 := by
    rcases hi with rfl | rfl <;> decide
  have md : f_TextReader_mostDigits (nI i) = some (nI 9) := by
    rcases hi with rfl | rfl <;> decide
  have ft := (fx_tab i (by omega)).1
  have f6 : fx i = 0 ∨ fx i = 6 := by
    rcases hi with rfl | rfl
    · exact Or.inl rfl
    · exact Or.inr rfl
  have o1 : ¬ (1 : Int32) = 0 := by decide
  obtain ⟨R, z2, r1, r2, r3⟩ := fb_c (y3 := nI p0) (y4 := nI (fx i)) (y5 := 1) (y6 := nI (if c = 4 then 4 else 1)) (y7 := 9) h hS hx hN hz hp s2 hln hpl hl
  have hfre : f_SkeletonClockModel_freely (nI n) g so co cn ar sz kn va (nI x) (nI (20 * x + p)) (nI p0) = jn_SkeletonClockModel_freely_141 (nI n) g so co cn ar sz kn va (nI p0) (nI (fx i)) 1 (nI (if c = 4 then 4 else 1)) 9 (nI R) := by
    unfold f_SkeletonClockModel_freely
    rw [if_pos (sN (by omega) (by decide)), nI_clamp (by omega), hco, ft, ob_some]
    have e0 : jn_SkeletonClockModel_freely_23 (nI n) g so co cn ar sz kn va (nI x) (nI (20 * x + p)) (nI p0) (nI (fx i)) = jn_SkeletonClockModel_freely_141 (nI n) g so co cn ar sz kn va (nI p0) (nI (fx i)) 1 (nI (if c = 4 then 4 else 1)) 9 (nI R) := by
      unfold jn_SkeletonClockModel_freely_23 jn_SkeletonClockModel_freely_28
      rw [if_neg o1, if_pos (sN (by omega) (by decide)), nI_clamp (by omega), hcn]
      unfold jn_SkeletonClockModel_freely_49 jn_SkeletonClockModel_freely_50
      rw [if_neg o1, if_neg o1]
      unfold jn_SkeletonClockModel_freely_73
      rcases hc with rfl | rfl
      · rw [if_neg (by decide)]
        have r4 := r3
        rw [if_neg (by decide)] at r4
        have k1 : (1 : Int32) = nI 1 := kk1
        rw [← kk1] at r4
        rw [r4, ob_some]
        rfl
      · rw [if_pos (by decide)]
        have r4 := r3
        rw [if_pos rfl] at r4
        rw [← kk4] at r4
        rw [r4, ob_some]
        rfl
    rcases f6 with q | q
    · have q2 : nI (fxL.getD i 0) = 0 := by
        show nI (fx i) = 0
        rw [q]
        decide
      rw [if_pos q2]
      exact e0
    · have q2 : ¬ nI (fxL.getD i 0) = 0 := by
        show ¬ nI (fx i) = 0
        rw [q]
        decide
      have q3 : nI (fxL.getD i 0) = 6 := by
        show nI (fx i) = 6
        rw [q]
        decide
      rw [if_neg q2, if_pos q3]
      exact e0
  obtain ⟨u, w, hu, hw, huw⟩ := cw_c (q := p0) hn hf hg (by omega)
  have ls : (if c = 4 then (4 : Nat) else 1) = if c = 4 then 4 else 1 := rfl
  have j44 : ∀ sg st, jn_TextReader_endOfFree_44 60 (nI p0) (nI z) vals fl od dp ends (nI n) f (nI N) kd nb (nI p) (nI i) (nI c) sg st = jn_TextReader_endOfFree_57 60 (nI p0) (nI z) vals fl od dp ends (nI n) f (nI N) kd nb (nI p) (nI i) (nI c) sg st (nI (if c = 4 then 4 else 1)) := by
    intro sg st
    unfold jn_TextReader_endOfFree_44
    by_cases q : c = 4
    · rw [if_pos (hc4.mpr q), if_pos q, kk4]
    · rw [if_neg (fun w => q (hc4.mp w)), if_neg q, kk1]
  have main : ∀ (sg sm : Int32) (st : Nat), st ≤ n → ((sg = -1 ∧ sm = 0) ∨ (sg = 45 ∧ sm = 45 ∧ ∀ v : Nat, v < 10 ^ 9 → bnd i (-(v : Int))) ∨ (sg = 43 ∧ sm = 43 ∧ c = 4)) → RR n z vals fl od kn va (jn_TextReader_endOfFree_57 60 (nI p0) (nI z) vals fl od dp ends (nI n) f (nI N) kd nb (nI p) (nI i) (nI c) sg (nI st) (nI (if c = 4 then 4 else 1))) (jn_SkeletonClockModel_freely_195 (nI n) g so co cn ar sz kn va (nI (fx i)) (nI (if c = 4 then 4 else 1)) 9 (nI R) sm (nI st)) := by
    intro sg sm st hst hh
    have := fr_t (p0 := p0) (D := 9) (R := R) (so := so) (co := co) (cn := cn) (ar := ar) (sz := sz) hn hf hg hst (Nat.le_refl n) (show i < 14 by omega) hKN hKV (show 1 ≤ c ∧ c ≤ 9 by omega) rfl (by split <;> omega) r1 hlim r2 md (fun v hv => bndY (by omega) (by have : (10 : Nat) ^ 9 = 1000000000 := (by decide); omega)) hh
    rw [← kk9] at this
    exact this
  have hnv : ∀ v : Nat, v < 10 ^ 9 → bnd i (-(v : Int)) := fun v hv => bndY (by omega) (by have : (10 : Nat) ^ 9 = 1000000000 := (by decide); omega)
  rw [hfre]
  unfold f_TextReader_endOfFree f_TextReader_signOf jn_SkeletonClockModel_freely_141 jn_SkeletonClockModel_freely_180 jn_SkeletonClockModel_freely_172 jn_SkeletonClockModel_freely_181
  rw [(pk_c hN hp kd).1, (pk_c hN hp nb).2, ob_some, ob_some, hkd, hnb, hu, ob_some, iy, ob_some, if_neg o1, hw, ob_some, ob_some, ob_some, if_neg o1, if_pos rfl]
  simp only [j44]
  have none : RR n z vals fl od kn va (jn_TextReader_endOfFree_57 60 (nI p0) (nI z) vals fl od dp ends (nI n) f (nI N) kd nb (nI p) (nI i) (nI c) (-1) (nI p0) (nI (if c = 4 then 4 else 1))) (jn_SkeletonClockModel_freely_195 (nI n) g so co cn ar sz kn va (nI (fx i)) (nI (if c = 4 then 4 else 1)) 9 (nI R) 0 (nI p0)) := main (-1) 0 p0 hp0 (Or.inl ⟨rfl, rfl⟩)
  have l4 : nI (if c = 4 then 4 else 1) = 4 ↔ c = 4 := by
    by_cases q : c = 4
    · rw [if_pos q]
      exact ⟨fun _ => q, fun _ => by decide⟩
    · rw [if_neg q]
      exact ⟨fun w => absurd w (by decide), fun w => absurd w q⟩
  have k1 : ¬ (45 : Int32) = 43 := by decide
  have k2 : ¬ (45 : Int32) = -1 := by decide
  have k3 : ¬ (45 : Int32) = 0 := by decide
  have k4 : ¬ (43 : Int32) = 45 := by decide
  have k5 : ¬ (43 : Int32) = -1 := by decide
  have k6 : ¬ (43 : Int32) = 0 := by decide
  have k7 : ¬ (-1 : Int32) = 45 := by decide
  have k8 : ¬ (-1 : Int32) = 43 := by decide
  have k9 : ¬ (0 : Int32) = 45 := by decide
  have k0 : ¬ (0 : Int32) = 43 := by decide
  generalize nI (if c = 4 then 4 else 1) = LS at main none l4 ⊢
  rcases huw with ⟨q1, rfl, rfl⟩ | ⟨q1, rfl, rfl⟩
  · by_cases a : nI (T p0) = 45
    · have b := main 45 45 (p0 + 1) (by omega) (Or.inr (Or.inl ⟨rfl, rfl, hnv⟩))
      simp only [a, ↓reduceIte, ob_some, eq_false k2, eq_false k3, nI_1]
      exact b
    · by_cases a2 : nI (T p0) = 43
      · by_cases q : c = 4
        · have b := main 43 43 (p0 + 1) (by omega) (Or.inr (Or.inr ⟨rfl, rfl, q⟩))
          simp only [a2, ↓reduceIte, eq_false k4, eq_true (hc4.mpr q), eq_true (l4.mpr q), ob_some, eq_false k5, eq_false k6, nI_1]
          exact b
        · simp only [a2, ↓reduceIte, eq_false k4, eq_false (fun w => q (hc4.mp w)), eq_false (fun w => q (l4.mp w)), ob_some]
          exact none
      · simp only [eq_false a, eq_false a2, ↓reduceIte, ob_some]
        exact none
  · simp only [eq_false k7, eq_false k8, eq_false k9, eq_false k0, ↓reduceIte, ob_some]
    exact none
theorem fr_p {n p0 N x p c z lim : Nat} {T : Nat → Nat} {f g vals fl od kn kd nb so co cn ar en sz ends : Nat → Int32} {E : Nat → Nat} {va : Nat → Int64} {dp : Int32} {i : Nat} (hn : n ≤ 60) (hf : Tx n T f) (hg : Tx n T g) (hp0 : p0 ≤ n) (hKN : KN z fl od) (hKV : KV fl vals kn va) (h : PV N kd nb (fun j => so (20 * x + j)) (fun j => co (20 * x + j)) (fun j => cn (20 * x + j)) (fun j => ar (20 * x + j)) en E) (hS : SP N (fun j => so (20 * x + j)) (fun j => ar (20 * x + j)) E) (hx : x < 6) (hN : N ≤ 20) (hz : sz x = nI N) (hp : p < N) (hln : lim ≤ N) (hpl : p < lim) (hl : (ar (20 * x + p) = -1 ∧ lim = N) ∨ ∃ a, a < N ∧ ar (20 * x + p) = nI a ∧ lim = E a) (hlim : f_Nest_limit dp ends (nI N) = some (nI lim)) (hso : so (20 * x + p) = 1) (hkd : kd p = nI i) (hnb : nb p = nI c) (hco : co (20 * x + p) = nI (lixL.getD i 0)) (hcn : cn (20 * x + p) = nI c) (hi : i = 2 ∨ i = 3 ∨ i = 4 ∨ i = 6 ∨ i = 7 ∨ i = 8 ∨ i = 10 ∨ i = 11) (hc : c = 1) : RR n z vals fl od kn va (f_TextReader_endOfFree 60 (nI p0) (nI z) vals fl od dp ends (nI n) f (nI N) kd nb (nI p)) (f_SkeletonClockModel_freely (nI n) g so co cn ar sz kn va (nI x) (nI (20 * x + p)) (nI p0)) := by
  subst hc
  have s2 : so (20 * x + p) ≠ 2 := by
    rw [hso]
    decide
  have iy : f_SkeletonClock_isYearField (nI i) = some 0 := by
    rcases hi with rfl | rfl | rfl | rfl | rfl | rfl | rfl | rfl <;> decide
  obtain ⟨D, hD, md, dm⟩ : ∃ D, (2 ≤ D ∧ D ≤ 3) ∧ f_TextReader_mostDigits (nI i) = some (nI D) ∧ (if nI (fxL.getD i 0) = 3 then (3 : Int32) else 2) = nI D := by
    by_cases q : i = 4
    · subst q
      exact ⟨3, by decide, by decide, by decide⟩
    · refine ⟨2, by decide, ?_, ?_⟩
      · rcases hi with rfl | rfl | rfl | rfl | rfl | rfl | rfl | rfl <;> first | decide | exact absurd rfl q
      · rcases hi with rfl | rfl | rfl | rfl | rfl | rfl | rfl | rfl <;> first | decide | exact absurd rfl q
  have ft := (fx_tab i (by omega)).1
  have f6 : ¬ nI (fxL.getD i 0) = 0 ∧ ¬ nI (fxL.getD i 0) = 6 := by
    rcases hi with rfl | rfl | rfl | rfl | rfl | rfl | rfl | rfl <;> decide
  have o1 : ¬ (1 : Int32) = 0 := by decide
  obtain ⟨R, z2, r1, r2, r3⟩ := fb_c (y3 := nI p0) (y4 := nI (fx i)) (y5 := 0) (y6 := 1) (y7 := nI D) h hS hx hN hz hp s2 hln hpl hl
  have D3 : 10 ^ D ≤ 1000 := by
    have := Nat.pow_le_pow_right (n := 10) (by decide) hD.2
    exact this
  have main := fr_t (p0 := p0) (c := 1) (D := D) (R := R) (so := so) (co := co) (cn := cn) (ar := ar) (sz := sz) (sg := -1) (sm := 0) (ls := 1) hn hf hg hp0 (Nat.le_refl n) (show i < 14 by omega) hKN hKV (by decide) rfl (by omega) r1 hlim r2 md (fun v hv => bndP (by omega) (by omega) (by omega) (by omega)) (Or.inl ⟨rfl, rfl⟩)
  obtain ⟨u, w, hu, hw, huw⟩ := cw_c (q := p0) hn hf hg (by omega)
  have e1 : f_SkeletonClockModel_freely (nI n) g so co cn ar sz kn va (nI x) (nI (20 * x + p)) (nI p0) = jn_SkeletonClockModel_freely_195 (nI n) g so co cn ar sz kn va (nI (fx i)) (nI 1) (nI D) (nI R) 0 (nI p0) := by
    unfold f_SkeletonClockModel_freely jn_SkeletonClockModel_freely_28 jn_SkeletonClockModel_freely_49 jn_SkeletonClockModel_freely_50
    rw [if_pos (sN (by omega) (by decide)), nI_clamp (by omega), hco, ft, ob_some, if_neg f6.1, if_neg f6.2, if_pos rfl, if_pos rfl]
    have e2 : (if nI (fxL.getD i 0) = 3 then jn_SkeletonClockModel_freely_73 (nI n) g so co cn ar sz kn va (nI x) (nI (20 * x + p)) (nI p0) (nI (fxL.getD i 0)) 0 1 3 else jn_SkeletonClockModel_freely_73 (nI n) g so co cn ar sz kn va (nI x) (nI (20 * x + p)) (nI p0) (nI (fxL.getD i 0)) 0 1 2) = jn_SkeletonClockModel_freely_73 (nI n) g so co cn ar sz kn va (nI x) (nI (20 * x + p)) (nI p0) (nI (fxL.getD i 0)) 0 1 (nI D) := by
      rw [← dm]
      split <;> rfl
    rw [e2]
    unfold jn_SkeletonClockModel_freely_73
    have r4 : lp_SkeletonClockModel_freely_83 so co cn ar sz (nI x) (nI (20 * x + p)) (nI p0) (nI (fxL.getD i 0)) 0 1 (nI D) FU 0 (nI (20 * x + p) + 1) = some (nI R, z2) := r3
    rw [r4, ob_some]
    unfold jn_SkeletonClockModel_freely_141 jn_SkeletonClockModel_freely_180 jn_SkeletonClockModel_freely_181
    rw [if_pos rfl, if_pos rfl, ← kk1]
    rfl
  rw [e1]
  unfold f_TextReader_endOfFree f_TextReader_signOf jn_TextReader_endOfFree_44
  rw [(pk_c hN hp kd).1, (pk_c hN hp nb).2, ob_some, ob_some, hkd, hnb, hu, ob_some, iy, ob_some, if_pos rfl, ob_some, if_pos rfl, if_neg (by decide)]
  exact main
