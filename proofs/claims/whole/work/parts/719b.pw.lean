/-! What a piece puts down, on both sides. -/
theorem ob_eta {α β : Type} (x : Option (α × β)) : (x.bind fun u => some (u.1, u.2)) = x := by cases x <;> rfl
theorem kk12 : (12 : Int32) = nI 12 := by decide
theorem kk13 : (13 : Int32) = nI 13 := by decide
theorem kk43 : (43 : Int32) = nI 43 := by decide
theorem kk45 : (45 : Int32) = nI 45 := by decide
theorem kk11 : (11 : Int32) = nI 11 := by decide
theorem kk19 : (19 : Int32) = nI 19 := by decide
theorem kk88 : (88 : Int32) = nI 88 := by decide
theorem kk100 : (100 : Int32) = nI 100 := by decide
/-- the names -/
def nmL : List (List Nat) := [[74, 97, 110, 117, 97, 114, 121], [70, 101, 98, 114, 117, 97, 114, 121], [77, 97, 114, 99, 104], [65, 112, 114, 105, 108], [77, 97, 121], [74, 117, 110, 101], [74, 117, 108, 121], [65, 117, 103, 117, 115, 116], [83, 101, 112, 116, 101, 109, 98, 101, 114], [79, 99, 116, 111, 98, 101, 114], [78, 111, 118, 101, 109, 98, 101, 114], [68, 101, 99, 101, 109, 98, 101, 114], [77, 111, 110, 100, 97, 121], [84, 117, 101, 115, 100, 97, 121], [87, 101, 100, 110, 101, 115, 100, 97, 121], [84, 104, 117, 114, 115, 100, 97, 121], [70, 114, 105, 100, 97, 121], [83, 97, 116, 117, 114, 100, 97, 121], [83, 117, 110, 100, 97, 121], [65, 77], [80, 77]]
/-- a name as it is printed by a count -/
def nmC (a c : Nat) : List Nat := if c = 3 then (nmL.getD a []).take 3 else nmL.getD a []
def fxL : List Nat := [0, 6, 1, 2, 3, 4, 5, 7, 8, 9, 10, 11, 12, 13, 13]
theorem fx_tab : ∀ i, i < 15 → f_SkeletonClockModel_fieldOf (nI (lixL.getD i 0)) = some (nI (fxL.getD i 0)) ∧ fxL.getD i 0 < 14 ∧ (i < 14 → cix (fxL.getD i 0) = i) := by decide +kernel
theorem nm_tab : ∀ a, a < 21 → (nmL.getD a []).length ≤ 9 ∧ (a < 19 → 3 ≤ (nmL.getD a []).length) ∧ ∀ x, x ∈ nmL.getD a [] → 33 ≤ x ∧ x ≤ 126 := by decide +kernel
theorem nt_m0 : ∀ a, a < 21 → ∀ k, k < 10 → f_SkeletonClockModel_letter (fun k => nm0L.getD k 0) (nI a) (nI k) = some (nI ((nmL.getD a []).getD k 0)) := by decide +kernel
theorem nt_m {g : Nat → Int64} (h : R_nam g) {a k : Nat} (ha : a < 21) (hk : k < 10) : f_SkeletonClockModel_letter g (nI a) (nI k) = some (nI ((nmL.getD a []).getD k 0)) := by
  rw [← nt_m0 a ha k hk]
  unfold f_SkeletonClockModel_letter
  rw [nI_clamp (by omega), h a ha]
theorem nt_2 : ∀ v, v < 12 → ∀ k, k < 9 → ∀ c, c < 2 → f_Names_letter 2 (nI (3 + c)) (nI (v + 1)) (nI k) = some (if k < (nmC v (3 + c)).length then nI ((nmC v (3 + c)).getD k 0) else -1) := by decide +kernel
theorem nt_5 : ∀ v, v < 7 → ∀ k, k < 9 → ∀ c, c < 2 → f_Names_letter 5 (nI (3 + c)) (nI (v + 1)) (nI k) = some (if k < (nmC (v + 12) (3 + c)).length then nI ((nmC (v + 12) (3 + c)).getD k 0) else -1) := by decide +kernel
theorem nt_9 : ∀ v, v < 2 → ∀ k, k < 9 → f_Names_letter 9 (nI 1) (nI v) (nI k) = some (if k < (nmC (v + 19) 1).length then nI ((nmC (v + 19) 1).getD k 0) else -1) := by decide +kernel
theorem nmC_ok {a c : Nat} (ha : a < 21) : (nmC a c).length ≤ 9 ∧ ∀ x, x ∈ nmC a c → 32 ≤ x ∧ x ≤ 126 := by
  obtain ⟨h1, h2, h3⟩ := nm_tab a ha
  unfold nmC
  split
  · refine ⟨by rw [List.length_take]; omega, fun x hx => ?_⟩
    have := h3 x (List.mem_of_mem_take hx)
    omega
  · refine ⟨h1, fun x hx => ?_⟩
    have := h3 x hx
    omega
theorem gd_m {A B : List Nat} {b : Nat} : (A ++ b :: B).getD A.length 0 = b := by
  rw [gd_r (Nat.le_refl _), Nat.sub_self]
  rfl
theorem wn_l {x1 x2 x3 : Int32} {N L : List Nat} (h9 : N.length ≤ 9) (hN : ∀ x, x ∈ N → 32 ≤ x ∧ x ≤ 126) (hl : ∀ k, k < 9 → f_Names_letter x1 x2 x3 (nI k) = some (if k < N.length then nI (N.getD k 0) else -1)) (hL : L.length + 9 ≤ 200) : ∀ (B A : List Nat) (F : Nat) (sz : Int32) (f : Nat → Int32), N = A ++ B → B.length < F → Dr (L ++ A) sz f → ∃ x sz' f', lp_Printer_writeName_3 x1 x2 x3 F (nI A.length) sz f = some (x, sz', f') ∧ Dr (L ++ N) sz' f' := by
  intro B
  induction B with
  | nil =>
    intro A F sz f e hF h
    obtain ⟨F, rfl⟩ : ∃ H, F = H + 1 := ⟨F - 1, by omega⟩
    rw [List.append_nil] at e
    subst e
    refine ⟨nI N.length, sz, f, ?_, h⟩
    rw [lp_Printer_writeName_3, st_Printer_writeName_3]
    by_cases q : N.length = 9
    · rw [kk9, if_pos (nI_le (by omega) (by omega))]
    · rw [kk9, if_neg (nI_ge (by omega) (by omega)), hl _ (by omega), if_neg (Nat.lt_irrefl _), ob_some, if_pos rfl]
  | cons b B ih =>
    intro A F sz f e hF h
    rw [List.length_cons] at hF
    obtain ⟨F, rfl⟩ : ∃ H, F = H + 1 := ⟨F - 1, by omega⟩
    have len : N.length = A.length + (B.length + 1) := by rw [e, List.length_append, List.length_cons]
    have hb := hN b (by rw [e]; exact List.mem_append.mpr (Or.inr List.mem_cons_self))
    have lt : f_Names_letter x1 x2 x3 (nI A.length) = some (nI b) := by
      rw [hl _ (by omega), if_pos (by omega), e, gd_m]
    obtain ⟨r, s2, f2, p1, p2⟩ := dr_put h hb (by rw [List.length_append]; omega)
    obtain ⟨x, s3, f3, p3, p4⟩ := ih (A ++ [b]) F s2 f2 (by rw [e, List.append_assoc]; rfl) (by omega) (by rw [← List.append_assoc]; exact p2)
    refine ⟨x, s3, f3, ?_, p4⟩
    rw [lp_Printer_writeName_3, st_Printer_writeName_3, kk9, if_neg (nI_ge (by omega) (by omega)), lt, ob_some, if_neg (nI_m1 (by omega)), ob_some, m16 (by omega), p1, ob_some, nI_1]
    rw [List.length_append] at p3
    exact p3
theorem sp_l {g : Nat → Int64} {a c : Nat} {N L : List Nat} (h9 : N.length ≤ 9) (hN : ∀ x, x ∈ N → 32 ≤ x ∧ x ≤ 126) (hc : c < 10) (h3 : c ≤ 3 → N.length ≤ 3) (hl : ∀ k, k < N.length → f_SkeletonClockModel_letter g (nI a) (nI k) = some (nI (N.getD k 0))) (hs : N.length < 9 → (∃ u, f_SkeletonClockModel_letter g (nI a) (nI N.length) = some (nI u) ∧ u < 127 ∧ (u = 0 ∨ (c ≤ 3 ∧ 3 ≤ N.length)))) (hL : L.length + 9 ≤ 256) : ∀ (B A : List Nat) (F : Nat) (sz : Int32) (f : Nat → Int32), N = A ++ B → B.length < F → Dr (L ++ A) sz f → ∃ x sz' f', lp_SkeletonClockModel_spell_2 g (nI a) (nI c) F (nI A.length) sz f = some (x, sz', f') ∧ Dr (L ++ N) sz' f' := by
  intro B
  induction B with
  | nil =>
    intro A F sz f e hF h
    obtain ⟨F, rfl⟩ : ∃ H, F = H + 1 := ⟨F - 1, by omega⟩
    rw [List.append_nil] at e
    subst e
    refine ⟨nI N.length, sz, f, ?_, h⟩
    rw [lp_SkeletonClockModel_spell_2, st_SkeletonClockModel_spell_2]
    by_cases q : N.length = 9
    · rw [kk9, if_pos (nI_le (by omega) (by omega))]
    · obtain ⟨u, u1, u2, u3⟩ := hs (by omega)
      rw [kk9, if_neg (nI_ge (by omega) (by omega)), u1, ob_some]
      by_cases z : u = 0
      · subst z
        rw [if_pos (by decide)]
      · rw [if_neg (nI_nle (by omega) (by omega)), kk3, if_neg (nI_nlt (by omega) (by omega)), if_pos (nI_le (by omega) (by omega))]
  | cons b B ih =>
    intro A F sz f e hF h
    rw [List.length_cons] at hF
    obtain ⟨F, rfl⟩ : ∃ H, F = H + 1 := ⟨F - 1, by omega⟩
    have len : N.length = A.length + (B.length + 1) := by rw [e, List.length_append, List.length_cons]
    have hb := hN b (by rw [e]; exact List.mem_append.mpr (Or.inr List.mem_cons_self))
    have lt : f_SkeletonClockModel_letter g (nI a) (nI A.length) = some (nI b) := by
      rw [hl _ (by omega), e, gd_m]
    obtain ⟨s2, f2, p1, p2⟩ := dr_out h hb (by rw [List.length_append]; omega)
    obtain ⟨x, s3, f3, p3, p4⟩ := ih (A ++ [b]) F s2 f2 (by rw [e, List.append_assoc]; rfl) (by omega) (by rw [← List.append_assoc]; exact p2)
    refine ⟨x, s3, f3, ?_, p4⟩
    rw [List.length_append] at p3
    rw [lp_SkeletonClockModel_spell_2, st_SkeletonClockModel_spell_2, kk9, if_neg (nI_ge (by omega) (by omega)), lt, ob_some, if_neg (nI_nle (by omega) (by omega)), ob_some, p1, ob_some, nI_1, kk3]
    by_cases z : c ≤ 3
    · have := h3 z
      rw [if_neg (nI_nlt (by omega) (by omega)), if_neg (nI_ge (by omega) (by omega))]
      exact p3
    · rw [if_pos (nI_lt (by omega) (by omega))]
      exact p3
theorem mof_lt (y yd : Int) : ∀ j, j ≤ 11 → bm y (12 - j) < yd → bm y (mof y yd j) < yd
  | 0, _, h => h
  | j + 1, hj, h => by
    rw [mof]
    split
    · rename_i q
      have e : 12 - (j + 1) = 11 - j := by omega
      rw [e] at h
      exact h
    · rename_i q
      exact mof_lt y yd j (by omega) (by omega)
theorem fDa_bd (d : Int) : 1 ≤ fDa d ∧ fDa d ≤ 366 := by
  have h := yd_bd d
  have e : bm (yr d) (12 - 11) = 0 := bm_1 (yr d)
  have a := mof_lt (yr d) (yd d) 11 (by decide) (by rw [e]; omega)
  have b := bm_bd (yr d) (fMo d) (fMo_bd d).1 (by have := fMo_bd d; omega)
  unfold fDa fMo at *
  omega
theorem fW_bd (d : Int) : 1 ≤ fW d ∧ fW d ≤ 54 := by
  have a := yr_spec (th d)
  have b := ny_step (yr (th d))
  unfold fW fWY
  omega
theorem FV_nn {d s n o : Int} (hs : 0 ≤ s ∧ s < 86400) {k : Nat} (h : 2 ≤ k ∧ k ≤ 11) : 0 ≤ FV d s n o k ∧ FV d s n o k < 100000 := by
  rcases (show k = 2 ∨ k = 3 ∨ k = 4 ∨ k = 5 ∨ k = 6 ∨ (7 ≤ k ∧ k ≤ 11) by omega) with rfl | rfl | rfl | rfl | rfl | h
  · have := fMo_bd d
    show 0 ≤ (fMo d : Int) ∧ (fMo d : Int) < 100000
    omega
  · have := fDa_bd d
    show 0 ≤ fDa d ∧ fDa d < 100000
    omega
  · have := yd_bd d
    show 0 ≤ yd d ∧ yd d < 100000
    omega
  · have := wd_bd d
    show 0 ≤ wd d ∧ wd d < 100000
    omega
  · have := fW_bd d
    show 0 ≤ fW d ∧ fW d < 100000
    omega
  · have := FV_t hs d n o k h
    omega
theorem fWY_bd {d : Int} (h : -999999999 ≤ yr d ∧ yr d ≤ 999999999) : -999999999 ≤ fWY d ∧ fWY d ≤ 999999999 := by
  have a := yr_spec d
  have e1 : ny 1000000000 = 365241780472 := by decide
  have e2 : ny (-999999999) = -365243219162 := by decide
  have u1 := ny_up (show yr d + 1 ≤ 1000000000 by omega)
  have u2 := ny_up h.1
  have t := yr_spec (th d)
  have td : th d = d - ((d + 3) % 7 + 1) + 4 := rfl
  unfold fWY
  constructor
  · by_cases x : -999999999 ≤ yr (th d)
    · exact x
    · have := ny_up (show yr (th d) + 1 ≤ -999999999 by omega)
      omega
  · by_cases x : yr (th d) ≤ 999999999
    · exact x
    · have := ny_up (show (1000000000 : Int) ≤ yr (th d) by omega)
      omega
