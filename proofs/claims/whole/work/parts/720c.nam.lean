/-! read: names, on both sides. -/
def RR (L z : Nat) (vals fl od kn : Nat → Int32) (va : Nat → Int64) (a : Option RC) (b : Option RM) : Prop := ∃ rc rm, a = some rc ∧ b = some rm ∧ RO L z vals fl od kn va rc rm
theorem rr_fail {L z : Nat} {vals fl od kn : Nat → Int32} {va : Nat → Int64} : RR L z vals fl od kn va (some (-1, nI z, vals, fl, od)) (some (-1, kn, va)) := ⟨_, _, rfl, rfl, ro_fail⟩
theorem eta5 (x : Option RC) : (x.bind fun u => some (u.1, u.2.1, u.2.2.1, u.2.2.2.1, u.2.2.2.2)) = x := by cases x <;> rfl
theorem eta3 (x : Option RM) : (x.bind fun u => some (u.1, u.2.1, u.2.2)) = x := by cases x <;> rfl
theorem nm_ln : ∀ a, a < 21 → 2 ≤ (nmL.getD a []).length := by decide +kernel
theorem na_l {n p c c2 a : Nat} {T : Nat → Nat} {f g : Nat → Int32} {gn : Nat → Int64} {lo x2 x4 y1 y2 y3 y4 : Int32} {N : List Nat} (hn : n ≤ 60) (hf : Tx n T f) (hg : Tx n T g) (hp : p ≤ 60) (h9 : N.length ≤ 9) (hN : ∀ x, x ∈ N → 32 ≤ x ∧ x ≤ 126) (hc : c2 < 10) (h3 : c2 ≤ 3 → N.length ≤ 3) (hlc : ∀ k, k < 9 → f_Names_letter x2 (nI c) x4 (nI k) = some (if k < N.length then nI (N.getD k 0) else -1)) (hl : ∀ k, k < N.length → f_SkeletonClockModel_letter gn (nI a) (nI k) = some (nI (N.getD k 0))) (hs : N.length < 9 → (∃ u, f_SkeletonClockModel_letter gn (nI a) (nI N.length) = some (nI u) ∧ u < 127 ∧ (u = 0 ∨ (c2 ≤ 3 ∧ 3 ≤ N.length)))) : ∀ (B A : List Nat) (F : Nat), N = A ++ B → B.length < F → (p + A.length ≤ n ∨ A = []) → (lp_TextReader_endOfLetters_3 60 lo (nI p) (nI n) f x2 (nI c) x4 F (nI A.length) = some (.inl (-1)) ∧ ∃ K, K < N.length ∧ lp_SkeletonClockModel_named_12 (nI n) lo g gn (nI p) y1 y2 (nI c2) y3 y4 (nI a) F (nI A.length) = some (nI K)) ∨ (lp_TextReader_endOfLetters_3 60 lo (nI p) (nI n) f x2 (nI c) x4 F (nI A.length) = some (.inr (nI N.length)) ∧ (p + N.length ≤ n ∨ N = []) ∧ lp_SkeletonClockModel_named_12 (nI n) lo g gn (nI p) y1 y2 (nI c2) y3 y4 (nI a) F (nI A.length) = some (nI N.length)) := by
  intro B
  induction B with
  | nil =>
    intro A F e hF hA
    obtain ⟨F, rfl⟩ : ∃ H, F = H + 1 := ⟨F - 1, by omega⟩
    rw [List.append_nil] at e
    subst e
    refine Or.inr ⟨?_, hA, ?_⟩
    · rw [lp_TextReader_endOfLetters_3, st_TextReader_endOfLetters_3]
      by_cases q : N.length = 9
      · rw [kk9, if_pos (nI_le (by omega) (by omega))]
      · rw [kk9, if_neg (nI_ge (by omega) (by omega)), hlc _ (by omega), if_neg (Nat.lt_irrefl _), ob_some, if_pos rfl]
    · rw [lp_SkeletonClockModel_named_12, st_SkeletonClockModel_named_12]
      by_cases q : N.length = 9
      · rw [kk9, if_pos (nI_le (by omega) (by omega))]
      · obtain ⟨u, u1, u2, u3⟩ := hs (by omega)
        rw [kk9, if_neg (nI_ge (by omega) (by omega)), u1, ob_some]
        by_cases z : u = 0
        · subst z
          rw [if_pos (by decide)]
        · rw [if_neg (nI_nle (by omega) (by omega)), kk3, if_neg (nI_nlt (by omega) (by omega)), if_pos (nI_le (by omega) (by omega))]
  | cons b B ih =>
    intro A F e hF hA
    rw [List.length_cons] at hF
    obtain ⟨F, rfl⟩ : ∃ H, F = H + 1 := ⟨F - 1, by omega⟩
    have len : N.length = A.length + (B.length + 1) := by rw [e, List.length_append, List.length_cons]
    have hb := hN b (by rw [e]; exact List.mem_append.mpr (Or.inr List.mem_cons_self))
    have lt : f_SkeletonClockModel_letter gn (nI a) (nI A.length) = some (nI b) := by
      rw [hl _ (by omega), e, gd_m]
    have lc : f_Names_letter x2 (nI c) x4 (nI A.length) = some (nI b) := by
      rw [hlc _ (by omega), if_pos (by omega), e, gd_m]
    obtain ⟨bb, u, a1, a2, a3, a4⟩ := al_c (lo := lo) hn hf hg (p := p + A.length) (by omega) hb
    have sel3 : ∀ (X : Option Int32), (if (3 : Int32) < nI c2 then X else if (3 : Int32) ≤ nI A.length then some (nI A.length) else X) = X := by
      intro X
      rw [kk3]
      by_cases z : c2 ≤ 3
      · have := h3 z
        rw [if_neg (nI_nlt (by omega) (by omega)), if_neg (nI_ge (by omega) (by omega))]
      · rw [if_pos (nI_lt (by omega) (by omega))]
    have r1 : lp_TextReader_endOfLetters_3 60 lo (nI p) (nI n) f x2 (nI c) x4 (F + 1) (nI A.length) = if bb = 0 then some (.inl (-1)) else lp_TextReader_endOfLetters_3 60 lo (nI p) (nI n) f x2 (nI c) x4 F (nI (A.length + 1)) := by
      rw [lp_TextReader_endOfLetters_3, st_TextReader_endOfLetters_3, kk9, if_neg (nI_ge (by omega) (by omega)), lc, ob_some, if_neg (nI_m1 (by omega)), nI_add, a1, ob_some, ob_some, a2, ob_some, nI_1]
    have r2 : lp_SkeletonClockModel_named_12 (nI n) lo g gn (nI p) y1 y2 (nI c2) y3 y4 (nI a) (F + 1) (nI A.length) = if bb = 0 then some (nI A.length) else lp_SkeletonClockModel_named_12 (nI n) lo g gn (nI p) y1 y2 (nI c2) y3 y4 (nI a) F (nI (A.length + 1)) := by
      rw [lp_SkeletonClockModel_named_12, st_SkeletonClockModel_named_12, kk9, if_neg (nI_ge (by omega) (by omega)), lt, ob_some, if_neg (nI_nle (by omega) (by omega)), ob_some, nI_add, a3, ob_some, nI_1]
      exact sel3 _
    rw [r1, r2]
    rcases a4 with ⟨rfl, a4⟩ | rfl
    · rw [if_neg (by decide), if_neg (by decide)]
      have := ih (A ++ [b]) F (by rw [e, List.append_assoc]; rfl) (by omega) (Or.inl (by rw [len1]; omega))
      rw [len1] at this
      exact this
    · rw [if_pos rfl, if_pos rfl]
      exact Or.inl ⟨rfl, A.length, by omega, rfl⟩
/-- one name -/
theorem na_c {n p c c2 a : Nat} {T : Nat → Nat} {f g : Nat → Int32} {gn : Nat → Int64} {lo x2 x4 y1 y2 y3 y4 : Int32} (hn : n ≤ 60) (hf : Tx n T f) (hg : Tx n T g) (hp : p ≤ 60) (hgn : R_nam gn) (ha : a < 21) (h19 : c = 3 → a < 19) (hc2 : c2 = if c = 3 then 3 else 4) (hlc : ∀ k, k < 9 → f_Names_letter x2 (nI c) x4 (nI k) = some (if k < (nmC a c).length then nI ((nmC a c).getD k 0) else -1)) : (f_TextReader_endOfLetters 60 lo (nI p) (nI n) f x2 (nI c) x4 = some (-1) ∧ ∃ K, lp_SkeletonClockModel_named_12 (nI n) lo g gn (nI p) y1 y2 (nI c2) y3 y4 (nI a) FU 0 = some (nI K) ∧ K < (nmC a c).length ∧ (c2 = 3 → K < 3) ∧ (c2 ≠ 3 → ∃ u, f_SkeletonClockModel_letter gn (nI a) (nI K) = some (nI u) ∧ 0 < u ∧ u < 127)) ∨ ∃ K, f_TextReader_endOfLetters 60 lo (nI p) (nI n) f x2 (nI c) x4 = some (nI (p + K)) ∧ p + K ≤ n ∧ lp_SkeletonClockModel_named_12 (nI n) lo g gn (nI p) y1 y2 (nI c2) y3 y4 (nI a) FU 0 = some (nI K) ∧ (c2 = 3 → K = 3) ∧ (c2 ≠ 3 → f_SkeletonClockModel_letter gn (nI a) (nI K) = some 0) := by
  obtain ⟨k9, kc⟩ := nmC_ok (c := c) ha
  obtain ⟨t1, t2, t3⟩ := nm_tab a ha
  have t4 := nm_ln a ha
  have hc9 : c2 < 10 := by
    rw [hc2]
    split <;> decide
  have cc : c2 = 3 ↔ c = 3 := by
    rw [hc2]
    by_cases w : c = 3
    · rw [if_pos w]
      exact ⟨fun _ => w, fun _ => rfl⟩
    · rw [if_neg w]
      exact ⟨fun q => absurd q (by decide), fun q => absurd q w⟩
  have len3 : c = 3 → (nmC a c).length = 3 := by
    intro w
    have := t2 (h19 w)
    unfold nmC
    rw [if_pos w, List.length_take]
    omega
  have lenN : c ≠ 3 → nmC a c = nmL.getD a [] := by
    intro w
    unfold nmC
    rw [if_neg w]
  have h3 : c2 ≤ 3 → (nmC a c).length ≤ 3 := by
    intro q
    have : c = 3 := by
      by_cases w : c = 3
      · exact w
      · rw [if_neg w] at hc2
        omega
    rw [len3 this]
    omega
  have hg2 : ∀ k, k < (nmC a c).length → (nmC a c).getD k 0 = (nmL.getD a []).getD k 0 := by
    intro k hk
    unfold nmC at hk ⊢
    by_cases w : c = 3
    · rw [if_pos w] at hk ⊢
      rw [List.length_take] at hk
      generalize nmL.getD a [] = Q at hk ⊢
      rw [List.getD_eq_getElem?_getD, List.getD_eq_getElem?_getD, List.getElem?_take_of_lt (by omega)]
    · rw [if_neg w]
  have hu : ∀ k, (nmL.getD a []).getD k 0 < 127 := by
    intro k
    generalize nmL.getD a [] = Q at t3 ⊢
    rw [List.getD_eq_getElem?_getD]
    cases e : Q[k]? with
    | none => decide
    | some u =>
      have := t3 u (List.mem_of_getElem? e)
      show u < 127
      omega
  have hz : c ≠ 3 → (nmL.getD a []).getD (nmC a c).length 0 = 0 := by
    intro w
    rw [lenN w]
    generalize nmL.getD a [] = Q
    rw [List.getD_eq_getElem?_getD, List.getElem?_eq_none (Nat.le_refl _)]
    rfl
  have main := na_l (n := n) (p := p) (c := c) (c2 := c2) (a := a) (gn := gn) (lo := lo) (x2 := x2) (x4 := x4) (y1 := y1) (y2 := y2) (y3 := y3) (y4 := y4) (N := nmC a c) hn hf hg hp k9 kc hc9 h3 hlc (fun k hk => by rw [nt_m hgn ha (by omega), hg2 k hk]) (fun h9 => ⟨_, nt_m hgn ha (by omega), hu _, by
    by_cases w : c = 3
    · exact Or.inr ⟨by rw [cc.mpr w]; omega, by rw [len3 w]; omega⟩
    · exact Or.inl (hz w)⟩) (nmC a c) [] FU rfl (by unfold FU; omega) (Or.inr rfl)
  rw [List.length_nil, ← kk0] at main
  unfold f_TextReader_endOfLetters
  rcases main with ⟨m1, K, m2, m3⟩ | ⟨m1, m2, m3⟩
  · refine Or.inl ⟨by rw [m1, ob_some]; rfl, K, m3, m2, fun q => by have := len3 (cc.mp q); omega, fun q => ⟨_, nt_m hgn ha (by omega), ?_, hu K⟩⟩
    have w : c ≠ 3 := fun w => q (cc.mpr w)
    rw [← hg2 K m2]
    have := kc _ (gd_mem m2)
    omega
  · refine Or.inr ⟨(nmC a c).length, by rw [m1, ob_some]; show some (nI p + nI _) = _; rw [nI_add], ?_, m3, fun q => len3 (cc.mp q), fun q => ?_⟩
    · rcases m2 with m2 | m2
      · exact m2
      · exfalso
        by_cases w : c = 3
        · have := len3 w
          rw [m2] at this
          exact absurd this (by decide)
        · rw [← lenN w, m2] at t4
          exact absurd t4 (by decide)
    · have w : c ≠ 3 := fun w => q (cc.mpr w)
      rw [nt_m hgn ha (by omega), hz w, nI_0]
/-- all names of a field: i the field, fs its first value, a0 the first name, m names -/
theorem nr_l {n p c c2 i fs a0 M L z : Nat} {T : Nat → Nat} {f g vals fl od kn : Nat → Int32} {gn va : Nat → Int64} {lo : Int32} (hn : n ≤ 60) (hf : Tx n T f) (hg : Tx n T g) (hp : p ≤ 60) (hL : n ≤ L) (hgn : R_nam gn) (hi : i < 14) (hKN : KN z fl od) (hKV : KV fl vals kn va) (hM : a0 + M ≤ 21) (hMp : 1 ≤ M) (hfs : fs ≤ 1) (h19 : c = 3 → a0 + M ≤ 19) (hc2 : c2 = if c = 3 then 3 else 4) (hbn : ∀ t, t < M → bnd i ((fs + t : Nat) : Int)) (hla : f_Names_last (nI i) = some (nI (fs + M - 1))) (hlc : ∀ t, t < M → ∀ k, k < 9 → f_Names_letter (nI i) (nI c) (nI (fs + t)) (nI k) = some (if k < (nmC (a0 + t) c).length then nI ((nmC (a0 + t) c).getD k 0) else -1)) : ∀ m t F, t + m = M → m < F → (∃ rc rm, lp_TextReader_endOfName_6 60 lo (nI p) (nI n) f (nI i) (nI c) F (nI (fs + t)) (nI z) vals fl od = some (.inl rc) ∧ lp_SkeletonClockModel_named_3 (nI n) lo g gn (nI p) (nI a0) (nI (a0 + M - 1)) (nI c2) (nI (fx i)) (nI fs) F (nI (a0 + t)) kn va = some (.inl rm) ∧ RO L z vals fl od kn va rc rm) ∨ ∃ x y, lp_TextReader_endOfName_6 60 lo (nI p) (nI n) f (nI i) (nI c) F (nI (fs + t)) (nI z) vals fl od = some (.inr (x, nI z, vals, fl, od)) ∧ lp_SkeletonClockModel_named_3 (nI n) lo g gn (nI p) (nI a0) (nI (a0 + M - 1)) (nI c2) (nI (fx i)) (nI fs) F (nI (a0 + t)) kn va = some (.inr (y, kn, va)) := by
  intro m
  induction m with
  | zero =>
    intro t F ht hF
    obtain ⟨F, rfl⟩ : ∃ H, F = H + 1 := ⟨F - 1, by omega⟩
    refine Or.inr ⟨nI (fs + t), nI (a0 + t), ?_, ?_⟩
    · rw [lp_TextReader_endOfName_6, st_TextReader_endOfName_6, hla, ob_some, if_pos (nI_lt (by omega) (by omega))]
    · rw [lp_SkeletonClockModel_named_3, st_SkeletonClockModel_named_3, if_pos (nI_lt (by omega) (by omega))]
  | succ m ih =>
    intro t F ht hF
    obtain ⟨F, rfl⟩ : ∃ H, F = H + 1 := ⟨F - 1, by omega⟩
    have i1 := ih (t + 1) F (by omega) (by omega)
    rw [lp_TextReader_endOfName_6, st_TextReader_endOfName_6, hla, ob_some, if_neg (nI_nlt (by omega) (by omega)), lp_SkeletonClockModel_named_3, st_SkeletonClockModel_named_3, if_neg (nI_nlt (by omega) (by omega)), nI_1, nI_1, Nat.add_assoc, Nat.add_assoc]
    have vv : Int32.toInt64 (nI (a0 + t) - nI a0 + nI fs) = jI ((fs + t : Nat) : Int) := by
      rw [pk_sub (by omega), nI_add, jN_n (by omega)]
      unfold jN
      congr 2
      omega
    have iv : nI (fs + t) = iI ((fs + t : Nat) : Int) := nI_iI _
    rcases na_c (n := n) (p := p) (c := c) (c2 := c2) (a := a0 + t) (lo := lo) (x2 := nI i) (x4 := nI (fs + t)) (y1 := nI a0) (y2 := nI (a0 + M - 1)) (y3 := nI (fx i)) (y4 := nI fs) hn hf hg hp hgn (by omega) (fun q => by have := h19 q; omega) hc2 (hlc t (by omega)) with ⟨b1, K, b2, b3, b4, b5⟩ | ⟨K, b1, b2, b3, b4, b5⟩
    · rw [b1, ob_some, if_pos rfl, b2, ob_some]
      by_cases c3 : c2 = 3
      · have := b4 c3
        rw [if_pos (by rw [c3]; decide), kk3, if_neg (fun q => by have := (nI_eq (by omega) (by decide)).mp q; omega)]
        exact i1
      · obtain ⟨u, u1, u2, u3⟩ := b5 c3
        have h9 : c2 < 10 := by
          rw [hc2]
          split <;> decide
        rw [if_neg (fun q => c3 ((nI_eq (by omega) (by decide)).mp (q.trans kk3))), u1, ob_some, if_neg (nI_ne0 u2 (by omega))]
        exact i1
    · obtain ⟨rc, rm, l1, l2, l3⟩ := le_c (L := L) (p := p + K) hKN hKV hi (hbn t (by omega)) (by omega)
      refine Or.inl ⟨rc, rm, ?_, ?_, l3⟩
      · rw [b1, ob_some, if_neg (nI_m1 (by omega))]
        rw [← iv] at l1
        rw [l1, ob_some]
      · rw [b3, ob_some, vv, nI_add, l2]
        by_cases c3 : c2 = 3
        · rw [if_pos (by rw [c3]; decide), if_pos (by rw [b4 c3]; decide), ob_some]
        · have h9 : c2 < 10 := by
            rw [hc2]
            split <;> decide
          rw [if_neg (fun q => c3 ((nI_eq (by omega) (by decide)).mp (q.trans kk3))), b5 c3, ob_some, if_pos rfl, ob_some]
theorem nr_c {n p c c2 i fs a0 M L z : Nat} {T : Nat → Nat} {f g vals fl od kn : Nat → Int32} {gn va : Nat → Int64} {lo : Int32} (hn : n ≤ 60) (hf : Tx n T f) (hg : Tx n T g) (hp : p ≤ 60) (hL : n ≤ L) (hgn : R_nam gn) (hi : i < 14) (hKN : KN z fl od) (hKV : KV fl vals kn va) (hM : a0 + M ≤ 21) (hMp : 1 ≤ M) (hfs : fs ≤ 1) (h19 : c = 3 → a0 + M ≤ 19) (hc2 : c2 = if c = 3 then 3 else 4) (hbn : ∀ t, t < M → bnd i ((fs + t : Nat) : Int)) (hfi : f_Names_first (nI i) = some (nI fs)) (hla : f_Names_last (nI i) = some (nI (fs + M - 1))) (hlc : ∀ t, t < M → ∀ k, k < 9 → f_Names_letter (nI i) (nI c) (nI (fs + t)) (nI k) = some (if k < (nmC (a0 + t) c).length then nI ((nmC (a0 + t) c).getD k 0) else -1)) : RR L z vals fl od kn va (f_TextReader_endOfName 60 lo (nI p) (nI z) vals fl od (nI n) f (nI i) (nI c)) (f_SkeletonClockModel_named (nI n) lo g gn kn va (nI p) (nI a0) (nI (a0 + M - 1)) (nI c2) (nI (fx i)) (nI fs)) := by
  have main := nr_l (lo := lo) hn hf hg hp hL hgn hi hKN hKV hM hMp hfs h19 hc2 hbn hla hlc M 0 FU (by omega) (by unfold FU; omega)
  unfold f_TextReader_endOfName f_SkeletonClockModel_named
  rw [hfi, ob_some]
  rw [Nat.add_zero, Nat.add_zero] at main
  rcases main with ⟨rc, rm, a, b, c⟩ | ⟨x, y, a, b⟩
  · rw [a, b, ob_some, ob_some]
    exact ⟨rc, rm, rfl, rfl, c⟩
  · rw [a, b, ob_some, ob_some]
    exact ⟨_, _, rfl, rfl, ro_fail⟩
