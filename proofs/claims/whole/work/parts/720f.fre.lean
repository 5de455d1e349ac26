/-! read: free numbers, on both sides. -/
theorem kk2n : ∀ c, c < 10 → c ≠ 4 → ¬ nI c = (4 : Int32) := by decide
theorem wd_i {ls r R : Nat} (hl : ls < 1000) (hr : r < 1000) (hR : R < 1000) : (if nI ls < nI r - nI R then nI r - nI R else nI ls) = nI (if R + ls ≤ r then r - R else ls) ∧ (R + ls ≤ r → nI ls ≤ nI r - nI R ∧ nI r - nI R = nI (r - R)) ∧ (¬ R + ls ≤ r → ¬ nI ls ≤ nI r - nI R) := by
  have t1 := pk_sub_toInt (a := r) (b := R) (by omega) (by omega)
  have t2 := nI_toInt (n := ls) (by omega)
  have ll : nI ls < nI r - nI R ↔ (ls : Int) < (r : Int) - R := by rw [Int32.lt_iff_toInt_lt, t1, t2]
  have le : nI ls ≤ nI r - nI R ↔ (ls : Int) ≤ (r : Int) - R := by rw [Int32.le_iff_toInt_le, t1, t2]
  refine ⟨?_, fun q => ⟨le.mpr (by omega), pk_sub (by omega)⟩, fun q w => by have := le.mp w; omega⟩
  by_cases a : R + ls ≤ r
  · rw [if_pos a]
    by_cases b : nI ls < nI r - nI R
    · rw [if_pos b, pk_sub (by omega)]
    · rw [if_neg b]
      have : ¬ (ls : Int) < (r : Int) - R := fun w => b (ll.mpr w)
      congr 1
      omega
  · rw [if_neg a, if_neg (fun w => by have := ll.mp w; omega)]
/-- the digits: D at most, R kept for what follows; sg the sign on the class's side, sm on the reference's -/
theorem fr_t {n p0 st i c D R L z ls : Nat} {T : Nat → Nat} {f g vals fl od kn kd nb so co cn ar sz ends : Nat → Int32} {va : Nat → Int64} {dp pn pp sg sm lm : Int32} (hn : n ≤ 60) (hf : Tx n T f) (hg : Tx n T g) (hst : st ≤ n) (hL : n ≤ L) (hi : i < 14) (hKN : KN z fl od) (hKV : KV fl vals kn va) (hc : 1 ≤ c ∧ c ≤ 9) (hls : ls = if c = 4 then 4 else 1) (hD : 2 ≤ D ∧ D ≤ 9 ∧ ls ≤ D) (hR : R ≤ 180) (hlim : f_Nest_limit dp ends pn = some lm) (hfb : f_Pattern_fixedBehind pn kd nb pp lm = some (nI R)) (hmd : f_TextReader_mostDigits (nI i) = some (nI D)) (hb1 : ∀ v : Nat, v < 10 ^ D → bnd i (v : Int)) (hsg : (sg = -1 ∧ sm = 0) ∨ (sg = 45 ∧ sm = 45 ∧ ∀ v : Nat, v < 10 ^ D → bnd i (-(v : Int))) ∨ (sg = 43 ∧ sm = 43 ∧ c = 4)) : RR L z vals fl od kn va (jn_TextReader_endOfFree_57 60 (nI p0) (nI z) vals fl od dp ends (nI n) f pn kd nb pp (nI i) (nI c) sg (nI st) (nI ls)) (jn_SkeletonClockModel_freely_195 (nI n) g so co cn ar sz kn va (nI (fx i)) (nI ls) (nI D) (nI R) sm (nI st)) := by
  unfold jn_TextReader_endOfFree_57 jn_SkeletonClockModel_freely_195
  obtain ⟨r, r1, r2, r3, r4⟩ := dg_c (p := st) (M := D + R) hn hf hg (by omega)
  rw [hlim, ob_some, hfb, ob_some, hmd, ob_some, nI_add, r2, r3, ob_some, ob_some]
  have hls4 : ls ≤ 4 ∧ 1 ≤ ls := by
    rw [hls]
    split <;> omega
  by_cases a : ls ≤ r
  · obtain ⟨w1, w2, w3⟩ := wd_i (ls := ls) (r := r) (R := R) (by omega) (by omega) (by omega)
    rw [if_pos (nI_le a (by omega)), if_pos (nI_le a (by omega)), w1]
    generalize hW : (if R + ls ≤ r then r - R else ls) = W
    have eW : W ≤ r ∧ W ≤ D ∧ ls ≤ W := by
      rw [← hW]
      split <;> omega
    have ref : (if nI ls ≤ nI r - nI R then jn_SkeletonClockModel_freely_239 (nI n) g so co cn ar sz kn va (nI (fx i)) (nI ls) sm (nI st) (nI r - nI R) else jn_SkeletonClockModel_freely_239 (nI n) g so co cn ar sz kn va (nI (fx i)) (nI ls) sm (nI st) (nI ls)) = jn_SkeletonClockModel_freely_239 (nI n) g so co cn ar sz kn va (nI (fx i)) (nI ls) sm (nI st) (nI W) := by
      by_cases b : R + ls ≤ r
      · rw [if_pos (w2 b).1, (w2 b).2, ← hW, if_pos b]
      · rw [if_neg (w3 b), ← hW, if_neg b]
    rw [ref]
    unfold jn_SkeletonClockModel_freely_239
    obtain ⟨n1, n2, n3⟩ := nu_c (p := st) (w := W) hn hf hg (by omega) (fun j hj => r4 j (by omega))
    rw [n1, n2, ob_some, ob_some]
    generalize hv : vl T st W = v
    rw [hv] at n3
    have vD : v < 10 ^ D := Nat.lt_of_lt_of_le n3 (Nat.pow_le_pow_right (by decide) eW.2.1)
    have v9 : v < 1000000000 := Nat.lt_of_lt_of_le vD (by
      have := Nat.pow_le_pow_right (n := 10) (by decide) hD.2.1
      exact this)
    have stW : st + W ≤ n := by
      have := (r4 (W - 1) (by omega)).1
      omega
    have lp := le_c (L := L) (p := st + W) hKN hKV hi (hb1 v vD) (by omega)
    rw [← nI_iI] at lp
    have l4 : nI ls = 4 ↔ c = 4 := by
      rw [hls]
      by_cases q : c = 4
      · rw [if_pos q]
        exact ⟨fun _ => q, fun _ => by decide⟩
      · rw [if_neg q]
        exact ⟨fun w => absurd w (by decide), fun w => absurd w q⟩
    have c4 : nI c = 4 ↔ c = 4 := by
      rw [kk4]
      exact nI_eq (by omega) (by decide)
    have W4 : nI W ≤ (4 : Int32) ↔ W ≤ 4 := by
      rw [kk4]
      exact nI_leI (by omega) (by decide)
    have W4e : nI W = (4 : Int32) ↔ W = 4 := by
      rw [kk4]
      exact nI_eq (by omega) (by decide)
    unfold jn_TextReader_endOfFree_136 jn_TextReader_endOfFree_155 jn_TextReader_endOfFree_167 jn_TextReader_endOfFree_171 jn_TextReader_endOfFree_172 jn_SkeletonClockModel_freely_265
    have o1 : ¬ (1 : Int32) = 0 := by decide
    rcases hsg with ⟨rfl, rfl⟩ | ⟨rfl, rfl, hb2⟩ | ⟨rfl, rfl, hc4⟩
    · have g1 : ¬ (-1 : Int32) = 45 := by decide
      have g2 : ¬ (-1 : Int32) = 43 := by decide
      have g3 : ¬ (0 : Int32) = 45 := by decide
      have g4 : ¬ (0 : Int32) = 43 := by decide
      simp only [eq_false g1, eq_false g2, eq_false g3, eq_false g4, ↓reduceIte, l4, c4, W4, eq_false o1, eta5, eta3, nI_add]
      by_cases q : c = 4
      · by_cases w : W ≤ 4
        · simp only [q, w, ↓reduceIte]
          exact lp
        · simp only [q, w, ↓reduceIte]
          exact rr_fail
      · simp only [q, ↓reduceIte]
        exact lp
    · have g2 : ¬ (45 : Int32) = 43 := by decide
      have g3 : ¬ (45 : Int32) = 0 := by decide
      have g5 : ¬ (45 : Int32) = -1 := by decide
      have v0 : nI v = 0 ↔ v = 0 := by
        rw [kk0]
        exact nI_eq (by omega) (by decide)
      have v0j : jN v = 0 ↔ v = 0 := by
        rw [kj0]
        exact jN_eq (by omega) (by decide)
      have ln := le_c (L := L) (p := st + W) hKN hKV hi (hb2 v vD) (by omega)
      simp only [eq_false g2, eq_false g3, eq_false g5, ↓reduceIte, l4, c4, v0, v0j, eq_false o1, eta5, eta3, nI_add, ng_i, ng_j, ite_self]
      by_cases q : v = 0
      · simp only [q, ↓reduceIte]
        exact rr_fail
      · simp only [q, ↓reduceIte]
        exact ln
    · have g2 : ¬ (43 : Int32) = 45 := by decide
      have g3 : ¬ (43 : Int32) = 0 := by decide
      have g5 : ¬ (43 : Int32) = -1 := by decide
      simp only [eq_false g2, eq_false g3, eq_false g5, ↓reduceIte, l4, c4, W4e, hc4, eq_false o1, eta5, eta3, nI_add]
      by_cases q : W = 4
      · simp only [q, ↓reduceIte]
        exact rr_fail
      · simp only [q, ↓reduceIte]
        exact lp
  · rw [if_neg (nI_ge (by omega) (by omega)), if_neg (nI_ge (by omega) (by omega))]
    exact rr_fail
