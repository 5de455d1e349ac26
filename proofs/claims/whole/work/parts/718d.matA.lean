/-! match: first counts, distances of letters. -/
/-- the count of the first piece of kind x, of the m pieces from p on -/
def fcF (kd nb : Nat → Int32) (x : Int32) : Nat → Nat → Int32
  | 0, _ => 0
  | m + 1, p => if kd p = x then nb p else fcF kd nb x m (p + 1)
theorem fc_l {n : Nat} (hn : n ≤ 20) (kd nb : Nat → Int32) (x : Int32) : ∀ (m p F : Nat), p + m = n → m < F → (∃ v, lp_Pattern_firstCount_2 (nI n) kd nb x F (nI p) = some (.inr v) ∧ fcF kd nb x m p = 0) ∨ lp_Pattern_firstCount_2 (nI n) kd nb x F (nI p) = some (.inl (fcF kd nb x m p)) := by
  intro m
  induction m with
  | zero =>
    intro p F hp hF
    obtain ⟨F, rfl⟩ : ∃ H, F = H + 1 := ⟨F - 1, by omega⟩
    exact Or.inl ⟨_, by rw [lp_Pattern_firstCount_2, st_Pattern_firstCount_2, if_pos (nI_le (by omega) (by omega))], rfl⟩
  | succ m ih =>
    intro p F hp hF
    obtain ⟨F, rfl⟩ : ∃ H, F = H + 1 := ⟨F - 1, by omega⟩
    rw [lp_Pattern_firstCount_2, st_Pattern_firstCount_2, if_neg (nI_ge (by omega) (by omega)), (pk_c hn (by omega) kd).1, ob_some, (pk_c hn (by omega) nb).2, fcF, nI_1]
    by_cases e : kd p = x
    · rw [if_pos e, if_pos e, ob_some]
      exact Or.inr rfl
    · rw [if_neg e, if_neg e]
      exact ih (p + 1) F (by omega) (by omega)
theorem fc_c {n : Nat} (hn : n ≤ 20) (kd nb : Nat → Int32) (x : Int32) : f_Pattern_firstCount (nI n) kd nb x = some (fcF kd nb x n 0) := by
  unfold f_Pattern_firstCount
  rw [← nI_0]
  rcases fc_l hn kd nb x n 0 FU (by omega) (by unfold FU; omega) with ⟨v, a, b⟩ | a
  · rw [a, b]
    rfl
  · rw [a]
    rfl
/-- the distance of one letter -/
def ld (i a b : Nat) : Nat := if a = 0 ∨ b = 0 then (if a = b then 0 else 1000) else (if a ≤ b then b - a else a - b) + (if i = 2 ∧ ¬ (2 < a ↔ 2 < b) then 100 else 0)
theorem ld_c : ∀ i, i < 15 → ∀ a, a < 10 → ∀ b, b < 10 → f_Pattern_letterDistance (nI i) (nI a) (nI b) = some (nI (ld i a b)) := by decide +kernel
theorem ld_le (i a b : Nat) (ha : a < 10) (hb : b < 10) : ld i a b ≤ 1000 := by
  unfold ld
  split
  · split <;> omega
  · split <;> split <;> omega
/-- at most m values below m that are all different -/
theorem pigeon : ∀ (m s : Nat) (h : Nat → Nat), (∀ j, j < s → h j < m) → (∀ i j, i < j → j < s → h i ≠ h j) → s ≤ m := by
  intro m
  induction m with
  | zero =>
    intro s h h1 h2
    by_cases e : s = 0
    · omega
    · have := h1 0 (by omega)
      omega
  | succ m ih =>
    intro s h h1 h2
    by_cases e : s = 0
    · omega
    · have h3 : s - 1 ≤ m := by
        refine ih (s - 1) (fun j => if h j = m then h (s - 1) else h j) (fun j hj => ?_) (fun i j hij hj => ?_)
        · have a := h1 j (by omega)
          have b := h1 (s - 1) (by omega)
          have c := h2 j (s - 1) hj (by omega)
          split <;> omega
        · have a := h2 i (s - 1) (by omega) (by omega)
          have b := h2 j (s - 1) (by omega) (by omega)
          have c := h2 i j hij (by omega)
          split <;> split <;> omega
      omega
/-- the reference's first count of a code -/
def gcF (so co cn : Nat → Int32) (c : Nat) : Nat → Nat → Int32
  | 0, _ => 0
  | m + 1, p => if so p = 1 ∧ co p = nI c then cn p else gcF so co cn c m (p + 1)
theorem lix_inj : ∀ i, i < 15 → ∀ j, j < 15 → lixL.getD i 0 = lixL.getD j 0 → i = j := by decide
theorem lix_lt : ∀ i, i < 15 → lixL.getD i 0 < 128 := by decide
theorem gf_c {n : Nat} (hn : n ≤ 20) {kd nb so co cn ar en : Nat → Int32} {E : Nat → Nat} (h : PV n kd nb so co cn ar en E) : ∀ (m p : Nat), p + m = n → (∀ i, i < 15 → gcF so co cn (lixL.getD i 0) m p = fcF kd nb (nI i) m p ∧ ∃ v, v < 10 ∧ fcF kd nb (nI i) m p = nI v) ∧ ∀ c, c < 128 → (∀ i, i < 15 → lixL.getD i 0 ≠ c) → gcF so co cn c m p = 0 := by
  intro m
  induction m with
  | zero => exact fun p hp => ⟨fun i hi => ⟨rfl, 0, by omega, rfl⟩, fun c hc hi => rfl⟩
  | succ m ih =>
    intro p hp
    obtain ⟨i1, i2⟩ := ih (p + 1) (by omega)
    rcases h.1 p (by omega) with (⟨a1, a2, a3, c, a4, a5, a6⟩ | ⟨a1, i0, c0, a2, a3, a4, a5, a6, a7, a8, a9⟩) | ⟨a1, a2, -⟩
    · have q1 : ¬ so p = 1 := by rw [a1]; decide
      refine ⟨fun i hi => ?_, fun c hc hi => ?_⟩
      · have q2 : ¬ kd p = nI i := by
          rw [a2, kk15]
          exact fun q => by have := (nI_eq (by omega) (by omega)).mp q; omega
        rw [gcF, fcF, if_neg (fun q => q1 q.1), if_neg q2]
        exact i1 i hi
      · rw [gcF, if_neg (fun q => q1 q.1)]
        exact i2 c hc hi
    · have hl := lix_lt i0 a2
      refine ⟨fun i hi => ?_, fun c hc hi => ?_⟩
      · have hl2 := lix_lt i hi
        rw [gcF, fcF, a5, a6, a1, a7, a8]
        by_cases e : i0 = i
        · subst e
          rw [if_pos ⟨rfl, rfl⟩, if_pos rfl]
          exact ⟨rfl, c0, by omega, rfl⟩
        · rw [if_neg (fun q => e (lix_inj i0 a2 i hi ((nI_eq (by omega) (by omega)).mp q.2))), if_neg (fun q => e ((nI_eq (by omega) (by omega)).mp q))]
          exact i1 i hi
      · rw [gcF, a6, if_neg (fun q => hi i0 a2 ((nI_eq (by omega) (by omega)).mp q.2))]
        exact i2 c hc hi
    · have q1 : ¬ so p = 1 := by rw [a1]; decide
      refine ⟨fun i hi => ?_, fun c hc hi => ?_⟩
      · have q2 : ¬ kd p = nI i := by
          rw [a2, kk16]
          exact fun q => by have := (nI_eq (by omega) (by omega)).mp q; omega
        rw [gcF, fcF, if_neg (fun q => q1 q.1), if_neg q2]
        exact i1 i hi
      · rw [gcF, if_neg (fun q => q1 q.1)]
        exact i2 c hc hi
