/-! match: isWish. -/
theorem or0 (a b c : Int32) : (a ||| b) &&& c = 0 ↔ (a &&& c = 0 ∧ b &&& c = 0) := by
  have key : ∀ x y z : BitVec 32, (x ||| y) &&& z = 0#32 ↔ (x &&& z = 0#32 ∧ y &&& z = 0#32) := by
    intro x y z
    constructor
    · intro h
      constructor
      · apply BitVec.eq_of_getLsbD_eq
        intro i hi
        have q := congrArg (fun w => BitVec.getLsbD w i) h
        simp only [BitVec.getLsbD_and, BitVec.getLsbD_or, BitVec.getLsbD_zero] at q ⊢
        revert q
        cases x.getLsbD i <;> cases y.getLsbD i <;> cases z.getLsbD i <;> decide
      · apply BitVec.eq_of_getLsbD_eq
        intro i hi
        have q := congrArg (fun w => BitVec.getLsbD w i) h
        simp only [BitVec.getLsbD_and, BitVec.getLsbD_or, BitVec.getLsbD_zero] at q ⊢
        revert q
        cases x.getLsbD i <;> cases y.getLsbD i <;> cases z.getLsbD i <;> decide
    · intro h
      apply BitVec.eq_of_getLsbD_eq
      intro i hi
      have q1 := congrArg (fun w => BitVec.getLsbD w i) h.1
      have q2 := congrArg (fun w => BitVec.getLsbD w i) h.2
      simp only [BitVec.getLsbD_and, BitVec.getLsbD_or, BitVec.getLsbD_zero] at q1 q2 ⊢
      revert q1 q2
      cases x.getLsbD i <;> cases y.getLsbD i <;> cases z.getLsbD i <;> decide
  have h := key a.toBitVec b.toBitVec c.toBitVec
  constructor
  · intro q
    have q2 := h.mp (congrArg Int32.toBitVec q)
    exact ⟨Int32.toBitVec_inj.mp q2.1, Int32.toBitVec_inj.mp q2.2⟩
  · intro q
    exact Int32.toBitVec_inj.mp (h.mpr ⟨congrArg Int32.toBitVec q.1, congrArg Int32.toBitVec q.2⟩)
theorem bit_t : ∀ i, i < 15 → ∀ k, k < 15 → (((1 : Int32) <<< (nI k &&& 31)) &&& ((1 : Int32) <<< (nI i &&& 31)) = 0 ↔ i ≠ k) := by decide +kernel
/-- runs alone, each letter in one of them -/
def GD (s : Nat) (kd : Nat → Int32) : Prop := (∀ j, j < s → ∃ i, i < 15 ∧ kd j = nI i) ∧ ∀ i j, i < j → j < s → kd i ≠ kd j
theorem iw_l {s : Nat} (hs : s ≤ 20) {kd : Nat → Int32} (hk : ∀ j, j < s → ∃ i, i < 17 ∧ kd j = nI i) : ∀ (m p F : Nat) (x : Int32), p + m = s → m < F → GD p kd → (∀ i, i < 15 → (x &&& ((1 : Int32) <<< (nI i &&& 31)) = 0 ↔ ∀ j, j < p → kd j ≠ nI i)) → (GD s kd ∧ ∃ v, lp_Pattern_isWish_4 (nI s) kd F x (nI p) = some (.inr v)) ∨ (¬ GD s kd ∧ lp_Pattern_isWish_4 (nI s) kd F x (nI p) = some (.inl 0)) := by
  intro m
  induction m with
  | zero =>
    intro p F x hp hF hG hx
    obtain ⟨F, rfl⟩ : ∃ H, F = H + 1 := ⟨F - 1, by omega⟩
    have e : p = s := by omega
    subst e
    exact Or.inl ⟨hG, _, by rw [lp_Pattern_isWish_4, st_Pattern_isWish_4, if_pos (nI_le (Nat.le_refl _) (by omega))]⟩
  | succ m ih =>
    intro p F x hp hF hG hx
    obtain ⟨F, rfl⟩ : ∃ H, F = H + 1 := ⟨F - 1, by omega⟩
    have k14 : (14 : Int32) = nI 14 := by decide
    obtain ⟨k, hk1, hk2⟩ := hk p (by omega)
    rw [lp_Pattern_isWish_4, st_Pattern_isWish_4, if_neg (nI_ge (by omega) (by omega)), (pk_c hs (by omega) kd).1, ob_some, ob_some, hk2, k14]
    by_cases h14 : 14 < k
    · rw [if_pos (nI_lt h14 (by omega))]
      refine Or.inr ⟨fun hg => ?_, rfl⟩
      obtain ⟨i, hi, e⟩ := hg.1 p (by omega)
      have := (nI_eq (by omega) (by omega)).mp (hk2.symm.trans e)
      omega
    · rw [if_neg (nI_nlt (by omega) (by omega))]
      by_cases hb : x &&& ((1 : Int32) <<< (nI k &&& 31)) = 0
      · rw [if_pos hb, nI_1]
        have hnew := (hx k (by omega)).mp hb
        refine ih (p + 1) F _ (by omega) (by omega) ⟨fun j hj => ?_, fun i j hij hj => ?_⟩ (fun i hi => ?_)
        · by_cases e : j = p
          · exact ⟨k, by omega, e ▸ hk2⟩
          · exact hG.1 j (by omega)
        · by_cases e : j = p
          · rw [e, hk2]
            exact hnew i (by omega)
          · exact hG.2 i j hij (by omega)
        · rw [or0, hx i hi, bit_t i hi k (by omega)]
          constructor
          · intro q j hj
            by_cases e : j = p
            · rw [e, hk2]
              exact fun r => q.2 ((nI_eq (by omega) (by omega)).mp r).symm
            · exact q.1 j (by omega)
          · intro q
            refine ⟨fun j hj => q j (by omega), fun e => ?_⟩
            have := q p (by omega)
            rw [hk2, e] at this
            exact this rfl
      · rw [if_neg hb]
        refine Or.inr ⟨fun hg => hb ((hx k (by omega)).mpr (fun j hj e => ?_)), rfl⟩
        exact hg.2 j p hj (by omega) (e.trans hk2.symm)
theorem iw_c {s : Nat} (hs : s ≤ 20) {kd : Nat → Int32} (hk : ∀ j, j < s → ∃ i, i < 17 ∧ kd j = nI i) : (GD s kd ∧ f_Pattern_isWish (nI s) kd = some 1) ∨ (¬ GD s kd ∧ f_Pattern_isWish (nI s) kd = some 0) := by
  unfold f_Pattern_isWish
  have h := iw_l hs hk s 0 FU 0 (by omega) (by unfold FU; omega) ⟨fun j hj => by omega, fun i j _ hj => by omega⟩ (fun i hi => ⟨fun _ j hj => by omega, fun _ => by rw [Int32.zero_and]⟩)
  rw [nI_0] at h
  rcases h with ⟨a, v, b⟩ | ⟨a, b⟩
  · rw [b]
    exact Or.inl ⟨a, rfl⟩
  · rw [b]
    exact Or.inr ⟨a, rfl⟩
