/-! Texts on both sides: codes, runs, quotes. -/
theorem kk0 : (0 : Int32) = nI 0 := by decide
theorem kk1 : (1 : Int32) = nI 1 := by decide
theorem kk2 : (2 : Int32) = nI 2 := by decide
theorem kk3 : (3 : Int32) = nI 3 := by decide
theorem kk4 : (4 : Int32) = nI 4 := by decide
theorem kk5 : (5 : Int32) = nI 5 := by decide
theorem kk6 : (6 : Int32) = nI 6 := by decide
theorem kk9 : (9 : Int32) = nI 9 := by decide
theorem kk15 : (15 : Int32) = nI 15 := by decide
theorem kk16 : (16 : Int32) = nI 16 := by decide
theorem kk20 : (20 : Int32) = nI 20 := by decide
theorem kk39 : (39 : Int32) = nI 39 := by decide
theorem kk48 : (48 : Int32) = nI 48 := by decide
theorem kk57 : (57 : Int32) = nI 57 := by decide
theorem kk58 : (58 : Int32) = nI 58 := by decide
theorem kk60 : (60 : Int32) = nI 60 := by decide
theorem kk65 : (65 : Int32) = nI 65 := by decide
theorem kk90 : (90 : Int32) = nI 90 := by decide
theorem kk91 : (91 : Int32) = nI 91 := by decide
theorem kk93 : (93 : Int32) = nI 93 := by decide
theorem kk97 : (97 : Int32) = nI 97 := by decide
theorem kk120 : (120 : Int32) = nI 120 := by decide
theorem kk122 : (122 : Int32) = nI 122 := by decide
theorem kk126 : (126 : Int32) = nI 126 := by decide
theorem kk140 : (140 : Int32) = nI 140 := by decide
/-- a text's codes -/
def Tx (n : Nat) (T : Nat → Nat) (f : Nat → Int32) : Prop := ∀ j, j < n → f j = nI (T j) ∧ 32 ≤ T j ∧ T j ≤ 126
theorem tx_of {cap : Nat} {sz len : Int32} {f g : Nat → Int32} (h : R_txt cap sz f len g) : ∃ (n : Nat) (T : Nat → Nat), n ≤ cap ∧ sz = nI n ∧ len = nI n ∧ Tx n T f ∧ Tx n T g := by
  obtain ⟨n, h1, h2, h3, h4⟩ := h
  refine ⟨n, fun j => (g j).toNatClampNeg, h1, h2, h3, fun j hj => ?_, fun j hj => ?_⟩
  · obtain ⟨a, c, b1, b2, e⟩ := h4 j hj
    dsimp only
    rw [a, e, nI_clamp (by omega)]
    exact ⟨rfl, b1, b2⟩
  · obtain ⟨a, c, b1, b2, e⟩ := h4 j hj
    dsimp only
    rw [e, nI_clamp (by omega)]
    exact ⟨rfl, b1, b2⟩
theorem ca_n {n p : Nat} {T : Nat → Nat} {f : Nat → Int32} (hn : n ≤ 60) (h : Tx n T f) (hp : p < n) : f_Row_codeAt 60 (nI n) f (nI p) = some (nI (T p)) := by
  rw [ca_c hn (by decide), if_pos (sN hp (by omega)), nI_clamp (by omega), (h p hp).1]
theorem ca_o {n p : Nat} {f : Nat → Int32} (hn : n ≤ 60) (hp : n ≤ p) (hq : p < 1000) : f_Row_codeAt 60 (nI n) f (nI p) = some (-1) := by
  rw [ca_c hn (by decide), if_neg (fun h => by
    obtain ⟨j, hj, e⟩ := vp_in_of h (by omega)
    have := (nI_eq (by omega) (by omega)).mp e
    omega)]
theorem at_n {n p : Nat} {T : Nat → Nat} {f : Nat → Int32} (hn : n ≤ 60) (h : Tx n T f) (hp : p < n) : f_SkeletonClockModel_at (nI n) f (nI p) = some (nI (T p)) := by
  unfold f_SkeletonClockModel_at
  rw [if_neg (nI_pos (by omega)), if_neg (nI_ge hp (by omega)), if_pos (sN (by omega) (by omega)), nI_clamp (by omega), (h p hp).1]
theorem at_o {n p : Nat} {f : Nat → Int32} (hn : n ≤ 60) (hp : n ≤ p) (hq : p < 1000) : f_SkeletonClockModel_at (nI n) f (nI p) = some 0 := by
  unfold f_SkeletonClockModel_at
  rw [if_neg (nI_pos (by omega)), if_pos (nI_le hp (by omega))]
theorem rl_l {n p : Nat} {T : Nat → Nat} {f g : Nat → Int32} (hn : n ≤ 60) (hf : Tx n T f) (hg : Tx n T g) (hp : p < n) : ∀ (m k F : Nat), p + k + m = n → 1 ≤ k → m < F → ∃ r, k ≤ r ∧ p + r ≤ n ∧ lp_Row_runLength_2 60 (nI n) f (nI p) F (nI (p + k)) = some (nI (p + r)) ∧ lp_SkeletonClockModel_run_2 (nI n) g (nI p) F (nI k) = some (nI r) ∧ (∀ j, k ≤ j → j < r → T (p + j) = T p) ∧ (p + r < n → T (p + r) ≠ T p) := by
  intro m
  have tp := hg p hp
  induction m with
  | zero =>
    intro k F hk h1 hF
    obtain ⟨F, rfl⟩ : ∃ G, F = G + 1 := ⟨F - 1, by omega⟩
    refine ⟨k, Nat.le_refl _, by omega, ?_, ?_, fun j a b => by omega, fun h => by omega⟩
    · unfold lp_Row_runLength_2 st_Row_runLength_2
      rw [if_pos (nI_le (by omega) (by omega))]
    · unfold lp_SkeletonClockModel_run_2 st_SkeletonClockModel_run_2
      rw [nI_add, at_o hn (by omega) (by omega), at_n hn hg hp, ob_some, ob_some, if_neg (fun h => nI_ne0 (by omega) (by omega) h.symm)]
  | succ m ih =>
    intro k F hk h1 hF
    obtain ⟨F, rfl⟩ : ∃ G, F = G + 1 := ⟨F - 1, by omega⟩
    have tk := hg (p + k) (by omega)
    unfold lp_Row_runLength_2 st_Row_runLength_2 lp_SkeletonClockModel_run_2 st_SkeletonClockModel_run_2
    rw [if_neg (nI_ge (by omega) (by omega)), ca_n hn hf (by omega), ca_n hn hf hp, nI_add, at_n hn hg (by omega), at_n hn hg hp, ob_some, ob_some, ob_some, ob_some]
    by_cases e : T (p + k) = T p
    · rw [e, if_pos rfl, if_pos rfl, nI_1, nI_1]
      obtain ⟨r, a1, a2, a3, a4, a5, a6⟩ := ih (k + 1) F (by omega) (by omega) (by omega)
      refine ⟨r, by omega, a2, a3, a4, fun j b1 b2 => ?_, a6⟩
      by_cases hj : j = k
      · rw [hj, e]
      · exact a5 j (by omega) b2
    · have hne : ¬ nI (T (p + k)) = nI (T p) := fun h => e ((nI_eq (by omega) (by omega)).mp h)
      rw [if_neg hne, if_neg hne]
      exact ⟨k, Nat.le_refl _, by omega, rfl, rfl, fun j a b => by omega, fun _ => e⟩
theorem rl_c {n p : Nat} {T : Nat → Nat} {f g : Nat → Int32} (hn : n ≤ 60) (hf : Tx n T f) (hg : Tx n T g) (hp : p < n) : ∃ r, 1 ≤ r ∧ p + r ≤ n ∧ f_Row_runLength 60 (nI n) f (nI p) = some (nI r) ∧ f_SkeletonClockModel_run (nI n) g (nI p) = some (nI r) ∧ (∀ j, j < r → T (p + j) = T p) ∧ (p + r < n → T (p + r) ≠ T p) := by
  obtain ⟨r, a1, a2, a3, a4, a5, a6⟩ := rl_l hn hf hg hp (n - p - 1) 1 999 (by omega) (by omega) (by omega)
  obtain ⟨r', b1, b2, b3, b4, b5, b6⟩ := rl_l hn hf hg hp (n - p - 1) 1 1000 (by omega) (by omega) (by omega)
  have er : r = r' := by
    by_cases h : r < r'
    · exact absurd (b5 r (by omega) h) (a6 (by omega))
    · by_cases h2 : r' < r
      · exact absurd (a5 r' (by omega) h2) (b6 (by omega))
      · omega
  subst er
  refine ⟨r, a1, a2, ?_, ?_, fun j hj => ?_, a6⟩
  · unfold f_Row_runLength FU lp_Row_runLength_2 st_Row_runLength_2
    rw [if_neg (nI_ge hp (by omega)), ca_n hn hf hp, ob_some, ob_some, if_pos rfl, nI_1, a3, ob_some, pk_sub (by omega), Nat.add_sub_cancel_left]
  · unfold f_SkeletonClockModel_run FU
    rw [kk1, b4, ob_some]
  · by_cases h0 : j = 0
    · rw [h0, Nat.add_zero]
    · exact a5 j (by omega) hj
def ltr (c : Nat) : Bool := (97 ≤ c && c ≤ 122) || (65 ≤ c && c ≤ 90)
theorem il_c {n p : Nat} {T : Nat → Nat} {g : Nat → Int32} (hn : n ≤ 60) (hg : Tx n T g) (hp : p < n) : f_SkeletonClockModel_isLetter (nI n) g (nI p) = some (if ltr (T p) then 1 else 0) := by
  have tp := hg p hp
  unfold f_SkeletonClockModel_isLetter
  simp only [at_n hn hg hp, ob_some]
  have ht : T p < 127 := by omega
  generalize T p = c at ht
  clear tp
  revert c
  decide +kernel
theorem al_1 : ∀ c, c < 127 → (f_String_indexOf_I 0 (nI c) = some (-1) ∧ f_SkeletonClockModel_fieldOf (nI c) = some (-1)) ∨ ∃ i, i < 15 ∧ f_String_indexOf_I 0 (nI c) = some (nI i) ∧ lixL.getD i 0 = c := by decide +kernel
theorem al_2 : ∀ i, i < 15 → ∀ r, r < 61 → r = 0 ∨ (f_SkeletonClockModel_allowed (nI (lixL.getD i 0)) (nI r) = some 0 ∧ f_Pattern_isAllowed (nI i) (nI r) = some 0) ∨ (f_SkeletonClockModel_allowed (nI (lixL.getD i 0)) (nI r) = some 1 ∧ f_Pattern_isAllowed (nI i) (nI r) = some 1 ∧ r ≤ 9 ∧ (tb_allowed i >>> (nI r &&& 31)) &&& 1 = 1) := by decide +kernel
theorem al_tab {c r : Nat} (hc : c < 127) (hr : 1 ≤ r ∧ r ≤ 60) : (f_SkeletonClockModel_allowed (nI c) (nI r) = some 0 ∧ ∃ u, f_String_indexOf_I 0 (nI c) = some u ∧ f_Pattern_isAllowed u (nI r) = some 0) ∨ (f_SkeletonClockModel_allowed (nI c) (nI r) = some 1 ∧ ∃ i, i < 15 ∧ f_String_indexOf_I 0 (nI c) = some (nI i) ∧ f_Pattern_isAllowed (nI i) (nI r) = some 1 ∧ lixL.getD i 0 = c ∧ r ≤ 9 ∧ (tb_allowed i >>> (nI r &&& 31)) &&& 1 = 1) := by
  rcases al_1 c hc with ⟨a, b⟩ | ⟨i, a, b, e⟩
  · refine Or.inl ⟨?_, _, a, rfl⟩
    unfold f_SkeletonClockModel_allowed
    rw [b, ob_some]
    rfl
  · subst e
    rcases al_2 i a r (by omega) with h | ⟨h1, h2⟩ | ⟨h1, h2, h3, h4⟩
    · omega
    · exact Or.inl ⟨h1, _, b, h2⟩
    · exact Or.inr ⟨h1, i, a, b, h2, rfl, h3, h4⟩
/-- from p on, the quoted text ends at q, k pieces later -/
def QE (n : Nat) (T : Nat → Nat) (q : Nat) : Nat → Nat → Prop
  | 0, p => p = q ∧ q < n ∧ T q = 39 ∧ ¬ (q + 1 < n ∧ T (q + 1) = 39)
  | k + 1, p => (p + 1 < n ∧ T p = 39 ∧ T (p + 1) = 39 ∧ QE n T q k (p + 2)) ∨ (p < n ∧ T p ≠ 39 ∧ QE n T q k (p + 1))
theorem QE_le {n q : Nat} {T : Nat → Nat} : ∀ {k p : Nat}, QE n T q k p → p + k ≤ q ∧ q < n := by
  intro k
  induction k with
  | zero => exact fun h => ⟨by have := h.1; omega, h.2.1⟩
  | succ k ih =>
    intro p h
    rcases h with h | h
    · have := ih h.2.2.2
      omega
    · have := ih h.2.2
      omega
theorem ne39 {a : Nat} (h : a < 2 ^ 31) (e : a ≠ 39) : ¬ nI a = 39 := fun q => e ((nI_eq h (by decide)).mp (q.trans kk39))
theorem qe_l {n : Nat} {T : Nat → Nat} {f g : Nat → Int32} (hn : n ≤ 60) (hf : Tx n T f) (hg : Tx n T g) : ∀ (m p F : Nat), n ≤ p + m → p ≤ n + 1 → m < F → (lp_PatternParser_quoteEnds_4 60 (nI n) f F (nI p) = some (.inl 0) ∧ ∃ v, lp_SkeletonClockModel_quoteEnd_4 (nI n) g F (nI p) = some (.inr v)) ∨ ∃ q k, QE n T q k p ∧ lp_PatternParser_quoteEnds_4 60 (nI n) f F (nI p) = some (.inr (nI q)) ∧ lp_SkeletonClockModel_quoteEnd_4 (nI n) g F (nI p) = some (.inl (nI q)) := by
  intro m
  induction m using Nat.strongRecOn with
  | _ m ih =>
    intro p F hm hp hF
    obtain ⟨F, rfl⟩ : ∃ G, F = G + 1 := ⟨F - 1, by omega⟩
    unfold lp_PatternParser_quoteEnds_4 st_PatternParser_quoteEnds_4 lp_SkeletonClockModel_quoteEnd_4 st_SkeletonClockModel_quoteEnd_4
    by_cases h : n ≤ p
    · rw [if_pos (nI_le h (by omega)), if_pos (nI_le h (by omega))]
      exact Or.inl ⟨rfl, _, rfl⟩
    · have hpn : p < n := by omega
      have tp := hg p hpn
      rw [if_neg (nI_ge hpn (by omega)), if_neg (nI_ge hpn (by omega))]
      simp only [ca_n hn hf hpn, at_n hn hg hpn, ob_some, nI_1, show nI p + 2 = nI (p + 2) from nI_add p 2]
      by_cases e : T p = 39
      · simp only [e, show nI 39 = 39 from rfl, if_true]
        by_cases hq : p + 1 < n
        · have tq := hg (p + 1) hq
          simp only [ca_n hn hf hq, at_n hn hg hq, ob_some]
          by_cases e2 : T (p + 1) = 39
          · simp only [e2, show nI 39 = 39 from rfl, if_true]
            rcases ih (m - 1) (by omega) (p + 2) F (by omega) (by omega) (by omega) with a | ⟨q, k, a, b⟩
            · exact Or.inl a
            · exact Or.inr ⟨q, k + 1, Or.inl ⟨hq, e, e2, a⟩, b⟩
          · rw [if_neg (ne39 (by omega) e2), if_neg (ne39 (by omega) e2)]
            exact Or.inr ⟨p, 0, ⟨rfl, hpn, e, fun hh => e2 hh.2⟩, rfl, rfl⟩
        · rw [ca_o hn (by omega) (by omega), at_o hn (by omega) (by omega), ob_some, ob_some, if_neg (by decide), if_neg (by decide)]
          exact Or.inr ⟨p, 0, ⟨rfl, hpn, e, fun hh => hq hh.1⟩, rfl, rfl⟩
      · rw [if_neg (ne39 (by omega) e), if_neg (ne39 (by omega) e)]
        simp only [if_neg (ne39 (by omega : T p < 2 ^ 31) e)]
        rcases ih (m - 1) (by omega) (p + 1) F (by omega) (by omega) (by omega) with a | ⟨q, k, a, b⟩
        · exact Or.inl a
        · exact Or.inr ⟨q, k + 1, Or.inr ⟨hpn, e, a⟩, b⟩
theorem qe_c {n p : Nat} {T : Nat → Nat} {f g : Nat → Int32} (hn : n ≤ 60) (hf : Tx n T f) (hg : Tx n T g) (hp : p < n) : (f_PatternParser_quoteEnds 60 (nI n) f (nI p) = some 0 ∧ f_SkeletonClockModel_quoteEnd (nI n) g (nI p) = some (-1)) ∨ ∃ q k, QE n T q k (p + 1) ∧ f_PatternParser_quoteEnds 60 (nI n) f (nI p) = some 1 ∧ f_SkeletonClockModel_quoteEnd (nI n) g (nI p) = some (nI q) := by
  unfold f_PatternParser_quoteEnds f_SkeletonClockModel_quoteEnd
  rw [nI_1]
  rcases qe_l hn hf hg (n - p) (p + 1) FU (by omega) (by omega) (by unfold FU; omega) with ⟨a, v, b⟩ | ⟨q, k, a, b, c⟩
  · rw [a, b]
    exact Or.inl ⟨rfl, rfl⟩
  · rw [b, c]
    exact Or.inr ⟨q, k, a, rfl, rfl⟩
