/-! read: a piece, on both sides. -/
theorem fx_1 {a b : Int32} {v : Int64} {y : Int32} (h : ¬ b = 12) {c : Int32} : lp_SkeletonClockModel_pass_206 a b c FU v y = some (v, y) := by
  have e : FU = 999 + 1 := rfl
  rw [e, lp_SkeletonClockModel_pass_206, st_SkeletonClockModel_pass_206, if_neg h]
theorem eo_0f {n p0 N p c z : Nat} {f vals fl od kd nb ends : Nat → Int32} {lo dp : Int32} (hN : N ≤ 20) (hp : p < N) (hkd : kd p = nI 0) (hnb : nb p = nI c) (hfx : f_Pattern_isFixed (nI N) kd nb (nI p) = some 1) : f_TextReader_endOf 60 lo (nI p0) (nI z) vals fl od dp ends (nI n) f (nI N) kd nb (nI p) = f_TextReader_endOfFixed 60 (nI p0) (nI z) vals fl od (nI n) f (nI 0) (nI c) := by
  unfold f_TextReader_endOf f_Pattern_isName
  rw [(pk_c hN hp kd).1, (pk_c hN hp nb).2, hkd, hnb]
  simp only [ob_some, ↓reduceIte, eq_false (show ¬ nI 0 = (15 : Int32) by decide), eq_false (show ¬ nI 0 = (5 : Int32) by decide), eq_false (show ¬ nI 0 = (9 : Int32) by decide), eq_false (show ¬ nI 0 = (2 : Int32) by decide), eq_false (show ¬ nI 0 = (13 : Int32) by decide), eq_false (show ¬ nI 0 = (14 : Int32) by decide), eq_false (show ¬ (1 : Int32) = 0 by decide), eta5, hfx]
theorem pa_0f {n p0 N x p c : Nat} {g kn so co cn ar sz : Nat → Int32} {gn va : Nat → Int64} {lo : Int32} (hx : x < 6) (hN : N ≤ 20) (hp : p < N) (hc1 : 1 ≤ c ∧ c ≤ 9) (hso : so (20 * x + p) = 1) (hco : co (20 * x + p) = nI (lixL.getD 0 0)) (hcn : cn (20 * x + p) = nI c) (hfm : f_SkeletonClockModel_fixed so co cn (nI (20 * x + p)) = some (nI c)) : f_SkeletonClockModel_pass (nI n) lo g gn so co cn ar sz kn va (nI x) (nI (20 * x + p)) (nI p0) = RFx n g kn va p0 c (fun u10 => jn_SkeletonClockModel_pass_202 (nI n) lo g gn so co cn ar sz kn va (nI p0) (nI (fxL.getD 0 0)) (nI c) (nI c) (u10 + (2000 : Int64))) := by
  have ft := (fx_tab 0 (by decide)).1
  have sn : ¬ (nI (20 * x + p) < 0 ∨ 140 ≤ 20 * x + p) := by
    rintro (a | a)
    · exact nI_pos (by omega) a
    · omega
  have c0 : ¬ nI c = 0 := nI_ne0 (by omega) (by omega)
  unfold f_SkeletonClockModel_pass jn_SkeletonClockModel_pass_97
  simp only [nI_clamp (show 20 * x + p < 2 ^ 31 by omega), eq_true sn, hso, eq_false (show ¬ (1 : Int32) = 0 by decide), hco, hcn, ft, ob_some, ↓reduceIte, eq_false (show ¬ nI (fxL.getD 0 0) = (13 : Int32) by decide), eq_false (show ¬ nI (fxL.getD 0 0) = (1 : Int32) by decide), eq_false (show ¬ nI (fxL.getD 0 0) = (4 : Int32) by decide), eq_false (show ¬ nI (fxL.getD 0 0) = (9 : Int32) by decide), eq_true (show nI (fxL.getD 0 0) = (0 : Int32) by decide), eq_false (show ¬ nI (fxL.getD 0 0) = (6 : Int32) by decide), eta3, eq_false c0, hfm, jn_SkeletonClockModel_pass_194]
  rfl
theorem eo_0r {n p0 N p c z : Nat} {f vals fl od kd nb ends : Nat → Int32} {lo dp : Int32} (hN : N ≤ 20) (hp : p < N) (hkd : kd p = nI 0) (hnb : nb p = nI c) (hfx : f_Pattern_isFixed (nI N) kd nb (nI p) = some 0) : f_TextReader_endOf 60 lo (nI p0) (nI z) vals fl od dp ends (nI n) f (nI N) kd nb (nI p) = f_TextReader_endOfFree 60 (nI p0) (nI z) vals fl od dp ends (nI n) f (nI N) kd nb (nI p) := by
  unfold f_TextReader_endOf f_Pattern_isName
  rw [(pk_c hN hp kd).1, (pk_c hN hp nb).2, hkd, hnb]
  simp only [ob_some, ↓reduceIte, eq_false (show ¬ nI 0 = (15 : Int32) by decide), eq_false (show ¬ nI 0 = (5 : Int32) by decide), eq_false (show ¬ nI 0 = (9 : Int32) by decide), eq_false (show ¬ nI 0 = (2 : Int32) by decide), eq_false (show ¬ nI 0 = (13 : Int32) by decide), eq_false (show ¬ nI 0 = (14 : Int32) by decide), eq_false (show ¬ (1 : Int32) = 0 by decide), eta5, hfx]
theorem pa_0r {n p0 N x p c : Nat} {g kn so co cn ar sz : Nat → Int32} {gn va : Nat → Int64} {lo : Int32} (hx : x < 6) (hN : N ≤ 20) (hp : p < N) (hc1 : 1 ≤ c ∧ c ≤ 9) (hso : so (20 * x + p) = 1) (hco : co (20 * x + p) = nI (lixL.getD 0 0)) (hcn : cn (20 * x + p) = nI c) (hfm : f_SkeletonClockModel_fixed so co cn (nI (20 * x + p)) = some 0) : f_SkeletonClockModel_pass (nI n) lo g gn so co cn ar sz kn va (nI x) (nI (20 * x + p)) (nI p0) = f_SkeletonClockModel_freely (nI n) g so co cn ar sz kn va (nI x) (nI (20 * x + p)) (nI p0) := by
  have ft := (fx_tab 0 (by decide)).1
  have sn : ¬ (nI (20 * x + p) < 0 ∨ 140 ≤ 20 * x + p) := by
    rintro (a | a)
    · exact nI_pos (by omega) a
    · omega
  have c0 : ¬ nI c = 0 := nI_ne0 (by omega) (by omega)
  unfold f_SkeletonClockModel_pass jn_SkeletonClockModel_pass_97
  simp only [nI_clamp (show 20 * x + p < 2 ^ 31 by omega), eq_true sn, hso, eq_false (show ¬ (1 : Int32) = 0 by decide), hco, hcn, ft, ob_some, ↓reduceIte, eq_false (show ¬ nI (fxL.getD 0 0) = (13 : Int32) by decide), eq_false (show ¬ nI (fxL.getD 0 0) = (1 : Int32) by decide), eq_false (show ¬ nI (fxL.getD 0 0) = (4 : Int32) by decide), eq_false (show ¬ nI (fxL.getD 0 0) = (9 : Int32) by decide), eq_true (show nI (fxL.getD 0 0) = (0 : Int32) by decide), eq_false (show ¬ nI (fxL.getD 0 0) = (6 : Int32) by decide), eta3, eq_false c0, hfm]
theorem eo_1f {n p0 N p c z : Nat} {f vals fl od kd nb ends : Nat → Int32} {lo dp : Int32} (hN : N ≤ 20) (hp : p < N) (hkd : kd p = nI 1) (hnb : nb p = nI c) (hfx : f_Pattern_isFixed (nI N) kd nb (nI p) = some 1) : f_TextReader_endOf 60 lo (nI p0) (nI z) vals fl od dp ends (nI n) f (nI N) kd nb (nI p) = f_TextReader_endOfFixed 60 (nI p0) (nI z) vals fl od (nI n) f (nI 1) (nI c) := by
  unfold f_TextReader_endOf f_Pattern_isName
  rw [(pk_c hN hp kd).1, (pk_c hN hp nb).2, hkd, hnb]
  simp only [ob_some, ↓reduceIte, eq_false (show ¬ nI 1 = (15 : Int32) by decide), eq_false (show ¬ nI 1 = (5 : Int32) by decide), eq_false (show ¬ nI 1 = (9 : Int32) by decide), eq_false (show ¬ nI 1 = (2 : Int32) by decide), eq_false (show ¬ nI 1 = (13 : Int32) by decide), eq_false (show ¬ nI 1 = (14 : Int32) by decide), eq_false (show ¬ (1 : Int32) = 0 by decide), eta5, hfx]
theorem pa_1f {n p0 N x p c : Nat} {g kn so co cn ar sz : Nat → Int32} {gn va : Nat → Int64} {lo : Int32} (hx : x < 6) (hN : N ≤ 20) (hp : p < N) (hc1 : 1 ≤ c ∧ c ≤ 9) (hso : so (20 * x + p) = 1) (hco : co (20 * x + p) = nI (lixL.getD 1 0)) (hcn : cn (20 * x + p) = nI c) (hfm : f_SkeletonClockModel_fixed so co cn (nI (20 * x + p)) = some (nI c)) : f_SkeletonClockModel_pass (nI n) lo g gn so co cn ar sz kn va (nI x) (nI (20 * x + p)) (nI p0) = RFx n g kn va p0 c (fun u10 => jn_SkeletonClockModel_pass_202 (nI n) lo g gn so co cn ar sz kn va (nI p0) (nI (fxL.getD 1 0)) (nI c) (nI c) (u10 + (2000 : Int64))) := by
  have ft := (fx_tab 1 (by decide)).1
  have sn : ¬ (nI (20 * x + p) < 0 ∨ 140 ≤ 20 * x + p) := by
    rintro (a | a)
    · exact nI_pos (by omega) a
    · omega
  have c0 : ¬ nI c = 0 := nI_ne0 (by omega) (by omega)
  unfold f_SkeletonClockModel_pass jn_SkeletonClockModel_pass_97
  simp only [nI_clamp (show 20 * x + p < 2 ^ 31 by omega), eq_true sn, hso, eq_false (show ¬ (1 : Int32) = 0 by decide), hco, hcn, ft, ob_some, ↓reduceIte, eq_false (show ¬ nI (fxL.getD 1 0) = (13 : Int32) by decide), eq_false (show ¬ nI (fxL.getD 1 0) = (1 : Int32) by decide), eq_false (show ¬ nI (fxL.getD 1 0) = (4 : Int32) by decide), eq_false (show ¬ nI (fxL.getD 1 0) = (9 : Int32) by decide), eq_false (show ¬ nI (fxL.getD 1 0) = (0 : Int32) by decide), eq_true (show nI (fxL.getD 1 0) = (6 : Int32) by decide), eta3, eq_false c0, hfm, jn_SkeletonClockModel_pass_194]
  rfl
theorem eo_1r {n p0 N p c z : Nat} {f vals fl od kd nb ends : Nat → Int32} {lo dp : Int32} (hN : N ≤ 20) (hp : p < N) (hkd : kd p = nI 1) (hnb : nb p = nI c) (hfx : f_Pattern_isFixed (nI N) kd nb (nI p) = some 0) : f_TextReader_endOf 60 lo (nI p0) (nI z) vals fl od dp ends (nI n) f (nI N) kd nb (nI p) = f_TextReader_endOfFree 60 (nI p0) (nI z) vals fl od dp ends (nI n) f (nI N) kd nb (nI p) := by
  unfold f_TextReader_endOf f_Pattern_isName
  rw [(pk_c hN hp kd).1, (pk_c hN hp nb).2, hkd, hnb]
  simp only [ob_some, ↓reduceIte, eq_false (show ¬ nI 1 = (15 : Int32) by decide), eq_false (show ¬ nI 1 = (5 : Int32) by decide), eq_false (show ¬ nI 1 = (9 : Int32) by decide), eq_false (show ¬ nI 1 = (2 : Int32) by decide), eq_false (show ¬ nI 1 = (13 : Int32) by decide), eq_false (show ¬ nI 1 = (14 : Int32) by decide), eq_false (show ¬ (1 : Int32) = 0 by decide), eta5, hfx]
theorem pa_1r {n p0 N x p c : Nat} {g kn so co cn ar sz : Nat → Int32} {gn va : Nat → Int64} {lo : Int32} (hx : x < 6) (hN : N ≤ 20) (hp : p < N) (hc1 : 1 ≤ c ∧ c ≤ 9) (hso : so (20 * x + p) = 1) (hco : co (20 * x + p) = nI (lixL.getD 1 0)) (hcn : cn (20 * x + p) = nI c) (hfm : f_SkeletonClockModel_fixed so co cn (nI (20 * x + p)) = some 0) : f_SkeletonClockModel_pass (nI n) lo g gn so co cn ar sz kn va (nI x) (nI (20 * x + p)) (nI p0) = f_SkeletonClockModel_freely (nI n) g so co cn ar sz kn va (nI x) (nI (20 * x + p)) (nI p0) := by
  have ft := (fx_tab 1 (by decide)).1
  have sn : ¬ (nI (20 * x + p) < 0 ∨ 140 ≤ 20 * x + p) := by
    rintro (a | a)
    · exact nI_pos (by omega) a
    · omega
  have c0 : ¬ nI c = 0 := nI_ne0 (by omega) (by omega)
  unfold f_SkeletonClockModel_pass jn_SkeletonClockModel_pass_97
  simp only [nI_clamp (show 20 * x + p < 2 ^ 31 by omega), eq_true sn, hso, eq_false (show ¬ (1 : Int32) = 0 by decide), hco, hcn, ft, ob_some, ↓reduceIte, eq_false (show ¬ nI (fxL.getD 1 0) = (13 : Int32) by decide), eq_false (show ¬ nI (fxL.getD 1 0) = (1 : Int32) by decide), eq_false (show ¬ nI (fxL.getD 1 0) = (4 : Int32) by decide), eq_false (show ¬ nI (fxL.getD 1 0) = (9 : Int32) by decide), eq_false (show ¬ nI (fxL.getD 1 0) = (0 : Int32) by decide), eq_true (show nI (fxL.getD 1 0) = (6 : Int32) by decide), eta3, eq_false c0, hfm]
theorem eo_2f {n p0 N p c z : Nat} {f vals fl od kd nb ends : Nat → Int32} {lo dp : Int32} (hN : N ≤ 20) (hp : p < N) (hkd : kd p = nI 2) (hnb : nb p = nI c) (hfx : f_Pattern_isFixed (nI N) kd nb (nI p) = some 1) (h2 : nI c ≤ (2 : Int32)) : f_TextReader_endOf 60 lo (nI p0) (nI z) vals fl od dp ends (nI n) f (nI N) kd nb (nI p) = f_TextReader_endOfFixed 60 (nI p0) (nI z) vals fl od (nI n) f (nI 2) (nI c) := by
  unfold f_TextReader_endOf f_Pattern_isName
  rw [(pk_c hN hp kd).1, (pk_c hN hp nb).2, hkd, hnb]
  simp only [ob_some, ↓reduceIte, eq_false (show ¬ nI 2 = (15 : Int32) by decide), eq_false (show ¬ nI 2 = (5 : Int32) by decide), eq_false (show ¬ nI 2 = (9 : Int32) by decide), eq_true (show nI 2 = (2 : Int32) by decide), eq_false (show ¬ nI 2 = (13 : Int32) by decide), eq_false (show ¬ nI 2 = (14 : Int32) by decide), eq_false (show ¬ (1 : Int32) = 0 by decide), eta5, hfx, eq_true h2]
theorem pa_2f {n p0 N x p c : Nat} {g kn so co cn ar sz : Nat → Int32} {gn va : Nat → Int64} {lo : Int32} (hx : x < 6) (hN : N ≤ 20) (hp : p < N) (hc1 : 1 ≤ c ∧ c ≤ 9) (hso : so (20 * x + p) = 1) (hco : co (20 * x + p) = nI (lixL.getD 2 0)) (hcn : cn (20 * x + p) = nI c) (hfm : f_SkeletonClockModel_fixed so co cn (nI (20 * x + p)) = some (nI c)) (h2 : nI c ≤ (2 : Int32)) : f_SkeletonClockModel_pass (nI n) lo g gn so co cn ar sz kn va (nI x) (nI (20 * x + p)) (nI p0) = RFx n g kn va p0 c (fun u10 => jn_SkeletonClockModel_pass_202 (nI n) lo g gn so co cn ar sz kn va (nI p0) (nI (fxL.getD 2 0)) (nI c) (nI c) u10) := by
  have ft := (fx_tab 2 (by decide)).1
  have sn : ¬ (nI (20 * x + p) < 0 ∨ 140 ≤ 20 * x + p) := by
    rintro (a | a)
    · exact nI_pos (by omega) a
    · omega
  have c0 : ¬ nI c = 0 := nI_ne0 (by omega) (by omega)
  unfold f_SkeletonClockModel_pass jn_SkeletonClockModel_pass_97
  simp only [nI_clamp (show 20 * x + p < 2 ^ 31 by omega), eq_true sn, hso, eq_false (show ¬ (1 : Int32) = 0 by decide), hco, hcn, ft, ob_some, ↓reduceIte, eq_false (show ¬ nI (fxL.getD 2 0) = (13 : Int32) by decide), eq_true (show nI (fxL.getD 2 0) = (1 : Int32) by decide), eq_false (show ¬ nI (fxL.getD 2 0) = (4 : Int32) by decide), eq_false (show ¬ nI (fxL.getD 2 0) = (9 : Int32) by decide), eq_false (show ¬ nI (fxL.getD 2 0) = (0 : Int32) by decide), eq_false (show ¬ nI (fxL.getD 2 0) = (6 : Int32) by decide), eta3, eq_false c0, hfm, eq_true h2]
  rfl
theorem eo_2r {n p0 N p c z : Nat} {f vals fl od kd nb ends : Nat → Int32} {lo dp : Int32} (hN : N ≤ 20) (hp : p < N) (hkd : kd p = nI 2) (hnb : nb p = nI c) (hfx : f_Pattern_isFixed (nI N) kd nb (nI p) = some 0) (h2 : nI c ≤ (2 : Int32)) : f_TextReader_endOf 60 lo (nI p0) (nI z) vals fl od dp ends (nI n) f (nI N) kd nb (nI p) = f_TextReader_endOfFree 60 (nI p0) (nI z) vals fl od dp ends (nI n) f (nI N) kd nb (nI p) := by
  unfold f_TextReader_endOf f_Pattern_isName
  rw [(pk_c hN hp kd).1, (pk_c hN hp nb).2, hkd, hnb]
  simp only [ob_some, ↓reduceIte, eq_false (show ¬ nI 2 = (15 : Int32) by decide), eq_false (show ¬ nI 2 = (5 : Int32) by decide), eq_false (show ¬ nI 2 = (9 : Int32) by decide), eq_true (show nI 2 = (2 : Int32) by decide), eq_false (show ¬ nI 2 = (13 : Int32) by decide), eq_false (show ¬ nI 2 = (14 : Int32) by decide), eq_false (show ¬ (1 : Int32) = 0 by decide), eta5, hfx, eq_true h2]
theorem pa_2r {n p0 N x p c : Nat} {g kn so co cn ar sz : Nat → Int32} {gn va : Nat → Int64} {lo : Int32} (hx : x < 6) (hN : N ≤ 20) (hp : p < N) (hc1 : 1 ≤ c ∧ c ≤ 9) (hso : so (20 * x + p) = 1) (hco : co (20 * x + p) = nI (lixL.getD 2 0)) (hcn : cn (20 * x + p) = nI c) (hfm : f_SkeletonClockModel_fixed so co cn (nI (20 * x + p)) = some 0) (h2 : nI c ≤ (2 : Int32)) : f_SkeletonClockModel_pass (nI n) lo g gn so co cn ar sz kn va (nI x) (nI (20 * x + p)) (nI p0) = f_SkeletonClockModel_freely (nI n) g so co cn ar sz kn va (nI x) (nI (20 * x + p)) (nI p0) := by
  have ft := (fx_tab 2 (by decide)).1
  have sn : ¬ (nI (20 * x + p) < 0 ∨ 140 ≤ 20 * x + p) := by
    rintro (a | a)
    · exact nI_pos (by omega) a
    · omega
  have c0 : ¬ nI c = 0 := nI_ne0 (by omega) (by omega)
  unfold f_SkeletonClockModel_pass jn_SkeletonClockModel_pass_97
  simp only [nI_clamp (show 20 * x + p < 2 ^ 31 by omega), eq_true sn, hso, eq_false (show ¬ (1 : Int32) = 0 by decide), hco, hcn, ft, ob_some, ↓reduceIte, eq_false (show ¬ nI (fxL.getD 2 0) = (13 : Int32) by decide), eq_true (show nI (fxL.getD 2 0) = (1 : Int32) by decide), eq_false (show ¬ nI (fxL.getD 2 0) = (4 : Int32) by decide), eq_false (show ¬ nI (fxL.getD 2 0) = (9 : Int32) by decide), eq_false (show ¬ nI (fxL.getD 2 0) = (0 : Int32) by decide), eq_false (show ¬ nI (fxL.getD 2 0) = (6 : Int32) by decide), eta3, eq_false c0, hfm, eq_true h2]
theorem eo_3f {n p0 N p c z : Nat} {f vals fl od kd nb ends : Nat → Int32} {lo dp : Int32} (hN : N ≤ 20) (hp : p < N) (hkd : kd p = nI 3) (hnb : nb p = nI c) (hfx : f_Pattern_isFixed (nI N) kd nb (nI p) = some 1) : f_TextReader_endOf 60 lo (nI p0) (nI z) vals fl od dp ends (nI n) f (nI N) kd nb (nI p) = f_TextReader_endOfFixed 60 (nI p0) (nI z) vals fl od (nI n) f (nI 3) (nI c) := by
  unfold f_TextReader_endOf f_Pattern_isName
  rw [(pk_c hN hp kd).1, (pk_c hN hp nb).2, hkd, hnb]
  simp only [ob_some, ↓reduceIte, eq_false (show ¬ nI 3 = (15 : Int32) by decide), eq_false (show ¬ nI 3 = (5 : Int32) by decide), eq_false (show ¬ nI 3 = (9 : Int32) by decide), eq_false (show ¬ nI 3 = (2 : Int32) by decide), eq_false (show ¬ nI 3 = (13 : Int32) by decide), eq_false (show ¬ nI 3 = (14 : Int32) by decide), eq_false (show ¬ (1 : Int32) = 0 by decide), eta5, hfx]
theorem pa_3f {n p0 N x p c : Nat} {g kn so co cn ar sz : Nat → Int32} {gn va : Nat → Int64} {lo : Int32} (hx : x < 6) (hN : N ≤ 20) (hp : p < N) (hc1 : 1 ≤ c ∧ c ≤ 9) (hso : so (20 * x + p) = 1) (hco : co (20 * x + p) = nI (lixL.getD 3 0)) (hcn : cn (20 * x + p) = nI c) (hfm : f_SkeletonClockModel_fixed so co cn (nI (20 * x + p)) = some (nI c)) : f_SkeletonClockModel_pass (nI n) lo g gn so co cn ar sz kn va (nI x) (nI (20 * x + p)) (nI p0) = RFx n g kn va p0 c (fun u10 => jn_SkeletonClockModel_pass_202 (nI n) lo g gn so co cn ar sz kn va (nI p0) (nI (fxL.getD 3 0)) (nI c) (nI c) u10) := by
  have ft := (fx_tab 3 (by decide)).1
  have sn : ¬ (nI (20 * x + p) < 0 ∨ 140 ≤ 20 * x + p) := by
    rintro (a | a)
    · exact nI_pos (by omega) a
    · omega
  have c0 : ¬ nI c = 0 := nI_ne0 (by omega) (by omega)
  unfold f_SkeletonClockModel_pass jn_SkeletonClockModel_pass_97
  simp only [nI_clamp (show 20 * x + p < 2 ^ 31 by omega), eq_true sn, hso, eq_false (show ¬ (1 : Int32) = 0 by decide), hco, hcn, ft, ob_some, ↓reduceIte, eq_false (show ¬ nI (fxL.getD 3 0) = (13 : Int32) by decide), eq_false (show ¬ nI (fxL.getD 3 0) = (1 : Int32) by decide), eq_false (show ¬ nI (fxL.getD 3 0) = (4 : Int32) by decide), eq_false (show ¬ nI (fxL.getD 3 0) = (9 : Int32) by decide), eq_false (show ¬ nI (fxL.getD 3 0) = (0 : Int32) by decide), eq_false (show ¬ nI (fxL.getD 3 0) = (6 : Int32) by decide), eta3, eq_false c0, hfm]
  rfl
theorem eo_3r {n p0 N p c z : Nat} {f vals fl od kd nb ends : Nat → Int32} {lo dp : Int32} (hN : N ≤ 20) (hp : p < N) (hkd : kd p = nI 3) (hnb : nb p = nI c) (hfx : f_Pattern_isFixed (nI N) kd nb (nI p) = some 0) : f_TextReader_endOf 60 lo (nI p0) (nI z) vals fl od dp ends (nI n) f (nI N) kd nb (nI p) = f_TextReader_endOfFree 60 (nI p0) (nI z) vals fl od dp ends (nI n) f (nI N) kd nb (nI p) := by
  unfold f_TextReader_endOf f_Pattern_isName
  rw [(pk_c hN hp kd).1, (pk_c hN hp nb).2, hkd, hnb]
  simp only [ob_some, ↓reduceIte, eq_false (show ¬ nI 3 = (15 : Int32) by decide), eq_false (show ¬ nI 3 = (5 : Int32) by decide), eq_false (show ¬ nI 3 = (9 : Int32) by decide), eq_false (show ¬ nI 3 = (2 : Int32) by decide), eq_false (show ¬ nI 3 = (13 : Int32) by decide), eq_false (show ¬ nI 3 = (14 : Int32) by decide), eq_false (show ¬ (1 : Int32) = 0 by decide), eta5, hfx]
theorem pa_3r {n p0 N x p c : Nat} {g kn so co cn ar sz : Nat → Int32} {gn va : Nat → Int64} {lo : Int32} (hx : x < 6) (hN : N ≤ 20) (hp : p < N) (hc1 : 1 ≤ c ∧ c ≤ 9) (hso : so (20 * x + p) = 1) (hco : co (20 * x + p) = nI (lixL.getD 3 0)) (hcn : cn (20 * x + p) = nI c) (hfm : f_SkeletonClockModel_fixed so co cn (nI (20 * x + p)) = some 0) : f_SkeletonClockModel_pass (nI n) lo g gn so co cn ar sz kn va (nI x) (nI (20 * x + p)) (nI p0) = f_SkeletonClockModel_freely (nI n) g so co cn ar sz kn va (nI x) (nI (20 * x + p)) (nI p0) := by
  have ft := (fx_tab 3 (by decide)).1
  have sn : ¬ (nI (20 * x + p) < 0 ∨ 140 ≤ 20 * x + p) := by
    rintro (a | a)
    · exact nI_pos (by omega) a
    · omega
  have c0 : ¬ nI c = 0 := nI_ne0 (by omega) (by omega)
  unfold f_SkeletonClockModel_pass jn_SkeletonClockModel_pass_97
  simp only [nI_clamp (show 20 * x + p < 2 ^ 31 by omega), eq_true sn, hso, eq_false (show ¬ (1 : Int32) = 0 by decide), hco, hcn, ft, ob_some, ↓reduceIte, eq_false (show ¬ nI (fxL.getD 3 0) = (13 : Int32) by decide), eq_false (show ¬ nI (fxL.getD 3 0) = (1 : Int32) by decide), eq_false (show ¬ nI (fxL.getD 3 0) = (4 : Int32) by decide), eq_false (show ¬ nI (fxL.getD 3 0) = (9 : Int32) by decide), eq_false (show ¬ nI (fxL.getD 3 0) = (0 : Int32) by decide), eq_false (show ¬ nI (fxL.getD 3 0) = (6 : Int32) by decide), eta3, eq_false c0, hfm]
theorem eo_4f {n p0 N p c z : Nat} {f vals fl od kd nb ends : Nat → Int32} {lo dp : Int32} (hN : N ≤ 20) (hp : p < N) (hkd : kd p = nI 4) (hnb : nb p = nI c) (hfx : f_Pattern_isFixed (nI N) kd nb (nI p) = some 1) : f_TextReader_endOf 60 lo (nI p0) (nI z) vals fl od dp ends (nI n) f (nI N) kd nb (nI p) = f_TextReader_endOfFixed 60 (nI p0) (nI z) vals fl od (nI n) f (nI 4) (nI c) := by
  unfold f_TextReader_endOf f_Pattern_isName
  rw [(pk_c hN hp kd).1, (pk_c hN hp nb).2, hkd, hnb]
  simp only [ob_some, ↓reduceIte, eq_false (show ¬ nI 4 = (15 : Int32) by decide), eq_false (show ¬ nI 4 = (5 : Int32) by decide), eq_false (show ¬ nI 4 = (9 : Int32) by decide), eq_false (show ¬ nI 4 = (2 : Int32) by decide), eq_false (show ¬ nI 4 = (13 : Int32) by decide), eq_false (show ¬ nI 4 = (14 : Int32) by decide), eq_false (show ¬ (1 : Int32) = 0 by decide), eta5, hfx]
theorem pa_4f {n p0 N x p c : Nat} {g kn so co cn ar sz : Nat → Int32} {gn va : Nat → Int64} {lo : Int32} (hx : x < 6) (hN : N ≤ 20) (hp : p < N) (hc1 : 1 ≤ c ∧ c ≤ 9) (hso : so (20 * x + p) = 1) (hco : co (20 * x + p) = nI (lixL.getD 4 0)) (hcn : cn (20 * x + p) = nI c) (hfm : f_SkeletonClockModel_fixed so co cn (nI (20 * x + p)) = some (nI c)) : f_SkeletonClockModel_pass (nI n) lo g gn so co cn ar sz kn va (nI x) (nI (20 * x + p)) (nI p0) = RFx n g kn va p0 c (fun u10 => jn_SkeletonClockModel_pass_202 (nI n) lo g gn so co cn ar sz kn va (nI p0) (nI (fxL.getD 4 0)) (nI c) (nI c) u10) := by
  have ft := (fx_tab 4 (by decide)).1
  have sn : ¬ (nI (20 * x + p) < 0 ∨ 140 ≤ 20 * x + p) := by
    rintro (a | a)
    · exact nI_pos (by omega) a
    · omega
  have c0 : ¬ nI c = 0 := nI_ne0 (by omega) (by omega)
  unfold f_SkeletonClockModel_pass jn_SkeletonClockModel_pass_97
  simp only [nI_clamp (show 20 * x + p < 2 ^ 31 by omega), eq_true sn, hso, eq_false (show ¬ (1 : Int32) = 0 by decide), hco, hcn, ft, ob_some, ↓reduceIte, eq_false (show ¬ nI (fxL.getD 4 0) = (13 : Int32) by decide), eq_false (show ¬ nI (fxL.getD 4 0) = (1 : Int32) by decide), eq_false (show ¬ nI (fxL.getD 4 0) = (4 : Int32) by decide), eq_false (show ¬ nI (fxL.getD 4 0) = (9 : Int32) by decide), eq_false (show ¬ nI (fxL.getD 4 0) = (0 : Int32) by decide), eq_false (show ¬ nI (fxL.getD 4 0) = (6 : Int32) by decide), eta3, eq_false c0, hfm]
  rfl
theorem eo_4r {n p0 N p c z : Nat} {f vals fl od kd nb ends : Nat → Int32} {lo dp : Int32} (hN : N ≤ 20) (hp : p < N) (hkd : kd p = nI 4) (hnb : nb p = nI c) (hfx : f_Pattern_isFixed (nI N) kd nb (nI p) = some 0) : f_TextReader_endOf 60 lo (nI p0) (nI z) vals fl od dp ends (nI n) f (nI N) kd nb (nI p) = f_TextReader_endOfFree 60 (nI p0) (nI z) vals fl od dp ends (nI n) f (nI N) kd nb (nI p) := by
  unfold f_TextReader_endOf f_Pattern_isName
  rw [(pk_c hN hp kd).1, (pk_c hN hp nb).2, hkd, hnb]
  simp only [ob_some, ↓reduceIte, eq_false (show ¬ nI 4 = (15 : Int32) by decide), eq_false (show ¬ nI 4 = (5 : Int32) by decide), eq_false (show ¬ nI 4 = (9 : Int32) by decide), eq_false (show ¬ nI 4 = (2 : Int32) by decide), eq_false (show ¬ nI 4 = (13 : Int32) by decide), eq_false (show ¬ nI 4 = (14 : Int32) by decide), eq_false (show ¬ (1 : Int32) = 0 by decide), eta5, hfx]
theorem pa_4r {n p0 N x p c : Nat} {g kn so co cn ar sz : Nat → Int32} {gn va : Nat → Int64} {lo : Int32} (hx : x < 6) (hN : N ≤ 20) (hp : p < N) (hc1 : 1 ≤ c ∧ c ≤ 9) (hso : so (20 * x + p) = 1) (hco : co (20 * x + p) = nI (lixL.getD 4 0)) (hcn : cn (20 * x + p) = nI c) (hfm : f_SkeletonClockModel_fixed so co cn (nI (20 * x + p)) = some 0) : f_SkeletonClockModel_pass (nI n) lo g gn so co cn ar sz kn va (nI x) (nI (20 * x + p)) (nI p0) = f_SkeletonClockModel_freely (nI n) g so co cn ar sz kn va (nI x) (nI (20 * x + p)) (nI p0) := by
  have ft := (fx_tab 4 (by decide)).1
  have sn : ¬ (nI (20 * x + p) < 0 ∨ 140 ≤ 20 * x + p) := by
    rintro (a | a)
    · exact nI_pos (by omega) a
    · omega
  have c0 : ¬ nI c = 0 := nI_ne0 (by omega) (by omega)
  unfold f_SkeletonClockModel_pass jn_SkeletonClockModel_pass_97
  simp only [nI_clamp (show 20 * x + p < 2 ^ 31 by omega), eq_true sn, hso, eq_false (show ¬ (1 : Int32) = 0 by decide), hco, hcn, ft, ob_some, ↓reduceIte, eq_false (show ¬ nI (fxL.getD 4 0) = (13 : Int32) by decide), eq_false (show ¬ nI (fxL.getD 4 0) = (1 : Int32) by decide), eq_false (show ¬ nI (fxL.getD 4 0) = (4 : Int32) by decide), eq_false (show ¬ nI (fxL.getD 4 0) = (9 : Int32) by decide), eq_false (show ¬ nI (fxL.getD 4 0) = (0 : Int32) by decide), eq_false (show ¬ nI (fxL.getD 4 0) = (6 : Int32) by decide), eta3, eq_false c0, hfm]
theorem eo_6f {n p0 N p c z : Nat} {f vals fl od kd nb ends : Nat → Int32} {lo dp : Int32} (hN : N ≤ 20) (hp : p < N) (hkd : kd p = nI 6) (hnb : nb p = nI c) (hfx : f_Pattern_isFixed (nI N) kd nb (nI p) = some 1) : f_TextReader_endOf 60 lo (nI p0) (nI z) vals fl od dp ends (nI n) f (nI N) kd nb (nI p) = f_TextReader_endOfFixed 60 (nI p0) (nI z) vals fl od (nI n) f (nI 6) (nI c) := by
  unfold f_TextReader_endOf f_Pattern_isName
  rw [(pk_c hN hp kd).1, (pk_c hN hp nb).2, hkd, hnb]
  simp only [ob_some, ↓reduceIte, eq_false (show ¬ nI 6 = (15 : Int32) by decide), eq_false (show ¬ nI 6 = (5 : Int32) by decide), eq_false (show ¬ nI 6 = (9 : Int32) by decide), eq_false (show ¬ nI 6 = (2 : Int32) by decide), eq_false (show ¬ nI 6 = (13 : Int32) by decide), eq_false (show ¬ nI 6 = (14 : Int32) by decide), eq_false (show ¬ (1 : Int32) = 0 by decide), eta5, hfx]
theorem pa_6f {n p0 N x p c : Nat} {g kn so co cn ar sz : Nat → Int32} {gn va : Nat → Int64} {lo : Int32} (hx : x < 6) (hN : N ≤ 20) (hp : p < N) (hc1 : 1 ≤ c ∧ c ≤ 9) (hso : so (20 * x + p) = 1) (hco : co (20 * x + p) = nI (lixL.getD 6 0)) (hcn : cn (20 * x + p) = nI c) (hfm : f_SkeletonClockModel_fixed so co cn (nI (20 * x + p)) = some (nI c)) : f_SkeletonClockModel_pass (nI n) lo g gn so co cn ar sz kn va (nI x) (nI (20 * x + p)) (nI p0) = RFx n g kn va p0 c (fun u10 => jn_SkeletonClockModel_pass_202 (nI n) lo g gn so co cn ar sz kn va (nI p0) (nI (fxL.getD 6 0)) (nI c) (nI c) u10) := by
  have ft := (fx_tab 6 (by decide)).1
  have sn : ¬ (nI (20 * x + p) < 0 ∨ 140 ≤ 20 * x + p) := by
    rintro (a | a)
    · exact nI_pos (by omega) a
    · omega
  have c0 : ¬ nI c = 0 := nI_ne0 (by omega) (by omega)
  unfold f_SkeletonClockModel_pass jn_SkeletonClockModel_pass_97
  simp only [nI_clamp (show 20 * x + p < 2 ^ 31 by omega), eq_true sn, hso, eq_false (show ¬ (1 : Int32) = 0 by decide), hco, hcn, ft, ob_some, ↓reduceIte, eq_false (show ¬ nI (fxL.getD 6 0) = (13 : Int32) by decide), eq_false (show ¬ nI (fxL.getD 6 0) = (1 : Int32) by decide), eq_false (show ¬ nI (fxL.getD 6 0) = (4 : Int32) by decide), eq_false (show ¬ nI (fxL.getD 6 0) = (9 : Int32) by decide), eq_false (show ¬ nI (fxL.getD 6 0) = (0 : Int32) by decide), eq_false (show ¬ nI (fxL.getD 6 0) = (6 : Int32) by decide), eta3, eq_false c0, hfm]
  rfl
theorem eo_6r {n p0 N p c z : Nat} {f vals fl od kd nb ends : Nat → Int32} {lo dp : Int32} (hN : N ≤ 20) (hp : p < N) (hkd : kd p = nI 6) (hnb : nb p = nI c) (hfx : f_Pattern_isFixed (nI N) kd nb (nI p) = some 0) : f_TextReader_endOf 60 lo (nI p0) (nI z) vals fl od dp ends (nI n) f (nI N) kd nb (nI p) = f_TextReader_endOfFree 60 (nI p0) (nI z) vals fl od dp ends (nI n) f (nI N) kd nb (nI p) := by
  unfold f_TextReader_endOf f_Pattern_isName
  rw [(pk_c hN hp kd).1, (pk_c hN hp nb).2, hkd, hnb]
  simp only [ob_some, ↓reduceIte, eq_false (show ¬ nI 6 = (15 : Int32) by decide), eq_false (show ¬ nI 6 = (5 : Int32) by decide), eq_false (show ¬ nI 6 = (9 : Int32) by decide), eq_false (show ¬ nI 6 = (2 : Int32) by decide), eq_false (show ¬ nI 6 = (13 : Int32) by decide), eq_false (show ¬ nI 6 = (14 : Int32) by decide), eq_false (show ¬ (1 : Int32) = 0 by decide), eta5, hfx]
theorem pa_6r {n p0 N x p c : Nat} {g kn so co cn ar sz : Nat → Int32} {gn va : Nat → Int64} {lo : Int32} (hx : x < 6) (hN : N ≤ 20) (hp : p < N) (hc1 : 1 ≤ c ∧ c ≤ 9) (hso : so (20 * x + p) = 1) (hco : co (20 * x + p) = nI (lixL.getD 6 0)) (hcn : cn (20 * x + p) = nI c) (hfm : f_SkeletonClockModel_fixed so co cn (nI (20 * x + p)) = some 0) : f_SkeletonClockModel_pass (nI n) lo g gn so co cn ar sz kn va (nI x) (nI (20 * x + p)) (nI p0) = f_SkeletonClockModel_freely (nI n) g so co cn ar sz kn va (nI x) (nI (20 * x + p)) (nI p0) := by
  have ft := (fx_tab 6 (by decide)).1
  have sn : ¬ (nI (20 * x + p) < 0 ∨ 140 ≤ 20 * x + p) := by
    rintro (a | a)
    · exact nI_pos (by omega) a
    · omega
  have c0 : ¬ nI c = 0 := nI_ne0 (by omega) (by omega)
  unfold f_SkeletonClockModel_pass jn_SkeletonClockModel_pass_97
  simp only [nI_clamp (show 20 * x + p < 2 ^ 31 by omega), eq_true sn, hso, eq_false (show ¬ (1 : Int32) = 0 by decide), hco, hcn, ft, ob_some, ↓reduceIte, eq_false (show ¬ nI (fxL.getD 6 0) = (13 : Int32) by decide), eq_false (show ¬ nI (fxL.getD 6 0) = (1 : Int32) by decide), eq_false (show ¬ nI (fxL.getD 6 0) = (4 : Int32) by decide), eq_false (show ¬ nI (fxL.getD 6 0) = (9 : Int32) by decide), eq_false (show ¬ nI (fxL.getD 6 0) = (0 : Int32) by decide), eq_false (show ¬ nI (fxL.getD 6 0) = (6 : Int32) by decide), eta3, eq_false c0, hfm]
theorem eo_7f {n p0 N p c z : Nat} {f vals fl od kd nb ends : Nat → Int32} {lo dp : Int32} (hN : N ≤ 20) (hp : p < N) (hkd : kd p = nI 7) (hnb : nb p = nI c) (hfx : f_Pattern_isFixed (nI N) kd nb (nI p) = some 1) : f_TextReader_endOf 60 lo (nI p0) (nI z) vals fl od dp ends (nI n) f (nI N) kd nb (nI p) = f_TextReader_endOfFixed 60 (nI p0) (nI z) vals fl od (nI n) f (nI 7) (nI c) := by
  unfold f_TextReader_endOf f_Pattern_isName
  rw [(pk_c hN hp kd).1, (pk_c hN hp nb).2, hkd, hnb]
  simp only [ob_some, ↓reduceIte, eq_false (show ¬ nI 7 = (15 : Int32) by decide), eq_false (show ¬ nI 7 = (5 : Int32) by decide), eq_false (show ¬ nI 7 = (9 : Int32) by decide), eq_false (show ¬ nI 7 = (2 : Int32) by decide), eq_false (show ¬ nI 7 = (13 : Int32) by decide), eq_false (show ¬ nI 7 = (14 : Int32) by decide), eq_false (show ¬ (1 : Int32) = 0 by decide), eta5, hfx]
theorem pa_7f {n p0 N x p c : Nat} {g kn so co cn ar sz : Nat → Int32} {gn va : Nat → Int64} {lo : Int32} (hx : x < 6) (hN : N ≤ 20) (hp : p < N) (hc1 : 1 ≤ c ∧ c ≤ 9) (hso : so (20 * x + p) = 1) (hco : co (20 * x + p) = nI (lixL.getD 7 0)) (hcn : cn (20 * x + p) = nI c) (hfm : f_SkeletonClockModel_fixed so co cn (nI (20 * x + p)) = some (nI c)) : f_SkeletonClockModel_pass (nI n) lo g gn so co cn ar sz kn va (nI x) (nI (20 * x + p)) (nI p0) = RFx n g kn va p0 c (fun u10 => jn_SkeletonClockModel_pass_202 (nI n) lo g gn so co cn ar sz kn va (nI p0) (nI (fxL.getD 7 0)) (nI c) (nI c) u10) := by
  have ft := (fx_tab 7 (by decide)).1
  have sn : ¬ (nI (20 * x + p) < 0 ∨ 140 ≤ 20 * x + p) := by
    rintro (a | a)
    · exact nI_pos (by omega) a
    · omega
  have c0 : ¬ nI c = 0 := nI_ne0 (by omega) (by omega)
  unfold f_SkeletonClockModel_pass jn_SkeletonClockModel_pass_97
  simp only [nI_clamp (show 20 * x + p < 2 ^ 31 by omega), eq_true sn, hso, eq_false (show ¬ (1 : Int32) = 0 by decide), hco, hcn, ft, ob_some, ↓reduceIte, eq_false (show ¬ nI (fxL.getD 7 0) = (13 : Int32) by decide), eq_false (show ¬ nI (fxL.getD 7 0) = (1 : Int32) by decide), eq_false (show ¬ nI (fxL.getD 7 0) = (4 : Int32) by decide), eq_false (show ¬ nI (fxL.getD 7 0) = (9 : Int32) by decide), eq_false (show ¬ nI (fxL.getD 7 0) = (0 : Int32) by decide), eq_false (show ¬ nI (fxL.getD 7 0) = (6 : Int32) by decide), eta3, eq_false c0, hfm]
  rfl
theorem eo_7r {n p0 N p c z : Nat} {f vals fl od kd nb ends : Nat → Int32} {lo dp : Int32} (hN : N ≤ 20) (hp : p < N) (hkd : kd p = nI 7) (hnb : nb p = nI c) (hfx : f_Pattern_isFixed (nI N) kd nb (nI p) = some 0) : f_TextReader_endOf 60 lo (nI p0) (nI z) vals fl od dp ends (nI n) f (nI N) kd nb (nI p) = f_TextReader_endOfFree 60 (nI p0) (nI z) vals fl od dp ends (nI n) f (nI N) kd nb (nI p) := by
  unfold f_TextReader_endOf f_Pattern_isName
  rw [(pk_c hN hp kd).1, (pk_c hN hp nb).2, hkd, hnb]
  simp only [ob_some, ↓reduceIte, eq_false (show ¬ nI 7 = (15 : Int32) by decide), eq_false (show ¬ nI 7 = (5 : Int32) by decide), eq_false (show ¬ nI 7 = (9 : Int32) by decide), eq_false (show ¬ nI 7 = (2 : Int32) by decide), eq_false (show ¬ nI 7 = (13 : Int32) by decide), eq_false (show ¬ nI 7 = (14 : Int32) by decide), eq_false (show ¬ (1 : Int32) = 0 by decide), eta5, hfx]
theorem pa_7r {n p0 N x p c : Nat} {g kn so co cn ar sz : Nat → Int32} {gn va : Nat → Int64} {lo : Int32} (hx : x < 6) (hN : N ≤ 20) (hp : p < N) (hc1 : 1 ≤ c ∧ c ≤ 9) (hso : so (20 * x + p) = 1) (hco : co (20 * x + p) = nI (lixL.getD 7 0)) (hcn : cn (20 * x + p) = nI c) (hfm : f_SkeletonClockModel_fixed so co cn (nI (20 * x + p)) = some 0) : f_SkeletonClockModel_pass (nI n) lo g gn so co cn ar sz kn va (nI x) (nI (20 * x + p)) (nI p0) = f_SkeletonClockModel_freely (nI n) g so co cn ar sz kn va (nI x) (nI (20 * x + p)) (nI p0) := by
  have ft := (fx_tab 7 (by decide)).1
  have sn : ¬ (nI (20 * x + p) < 0 ∨ 140 ≤ 20 * x + p) := by
    rintro (a | a)
    · exact nI_pos (by omega) a
    · omega
  have c0 : ¬ nI c = 0 := nI_ne0 (by omega) (by omega)
  unfold f_SkeletonClockModel_pass jn_SkeletonClockModel_pass_97
  simp only [nI_clamp (show 20 * x + p < 2 ^ 31 by omega), eq_true sn, hso, eq_false (show ¬ (1 : Int32) = 0 by decide), hco, hcn, ft, ob_some, ↓reduceIte, eq_false (show ¬ nI (fxL.getD 7 0) = (13 : Int32) by decide), eq_false (show ¬ nI (fxL.getD 7 0) = (1 : Int32) by decide), eq_false (show ¬ nI (fxL.getD 7 0) = (4 : Int32) by decide), eq_false (show ¬ nI (fxL.getD 7 0) = (9 : Int32) by decide), eq_false (show ¬ nI (fxL.getD 7 0) = (0 : Int32) by decide), eq_false (show ¬ nI (fxL.getD 7 0) = (6 : Int32) by decide), eta3, eq_false c0, hfm]
theorem eo_8f {n p0 N p c z : Nat} {f vals fl od kd nb ends : Nat → Int32} {lo dp : Int32} (hN : N ≤ 20) (hp : p < N) (hkd : kd p = nI 8) (hnb : nb p = nI c) (hfx : f_Pattern_isFixed (nI N) kd nb (nI p) = some 1) : f_TextReader_endOf 60 lo (nI p0) (nI z) vals fl od dp ends (nI n) f (nI N) kd nb (nI p) = f_TextReader_endOfFixed 60 (nI p0) (nI z) vals fl od (nI n) f (nI 8) (nI c) := by
  unfold f_TextReader_endOf f_Pattern_isName
  rw [(pk_c hN hp kd).1, (pk_c hN hp nb).2, hkd, hnb]
  simp only [ob_some, ↓reduceIte, eq_false (show ¬ nI 8 = (15 : Int32) by decide), eq_false (show ¬ nI 8 = (5 : Int32) by decide), eq_false (show ¬ nI 8 = (9 : Int32) by decide), eq_false (show ¬ nI 8 = (2 : Int32) by decide), eq_false (show ¬ nI 8 = (13 : Int32) by decide), eq_false (show ¬ nI 8 = (14 : Int32) by decide), eq_false (show ¬ (1 : Int32) = 0 by decide), eta5, hfx]
theorem pa_8f {n p0 N x p c : Nat} {g kn so co cn ar sz : Nat → Int32} {gn va : Nat → Int64} {lo : Int32} (hx : x < 6) (hN : N ≤ 20) (hp : p < N) (hc1 : 1 ≤ c ∧ c ≤ 9) (hso : so (20 * x + p) = 1) (hco : co (20 * x + p) = nI (lixL.getD 8 0)) (hcn : cn (20 * x + p) = nI c) (hfm : f_SkeletonClockModel_fixed so co cn (nI (20 * x + p)) = some (nI c)) : f_SkeletonClockModel_pass (nI n) lo g gn so co cn ar sz kn va (nI x) (nI (20 * x + p)) (nI p0) = RFx n g kn va p0 c (fun u10 => jn_SkeletonClockModel_pass_202 (nI n) lo g gn so co cn ar sz kn va (nI p0) (nI (fxL.getD 8 0)) (nI c) (nI c) u10) := by
  have ft := (fx_tab 8 (by decide)).1
  have sn : ¬ (nI (20 * x + p) < 0 ∨ 140 ≤ 20 * x + p) := by
    rintro (a | a)
    · exact nI_pos (by omega) a
    · omega
  have c0 : ¬ nI c = 0 := nI_ne0 (by omega) (by omega)
  unfold f_SkeletonClockModel_pass jn_SkeletonClockModel_pass_97
  simp only [nI_clamp (show 20 * x + p < 2 ^ 31 by omega), eq_true sn, hso, eq_false (show ¬ (1 : Int32) = 0 by decide), hco, hcn, ft, ob_some, ↓reduceIte, eq_false (show ¬ nI (fxL.getD 8 0) = (13 : Int32) by decide), eq_false (show ¬ nI (fxL.getD 8 0) = (1 : Int32) by decide), eq_false (show ¬ nI (fxL.getD 8 0) = (4 : Int32) by decide), eq_false (show ¬ nI (fxL.getD 8 0) = (9 : Int32) by decide), eq_false (show ¬ nI (fxL.getD 8 0) = (0 : Int32) by decide), eq_false (show ¬ nI (fxL.getD 8 0) = (6 : Int32) by decide), eta3, eq_false c0, hfm]
  rfl
theorem eo_8r {n p0 N p c z : Nat} {f vals fl od kd nb ends : Nat → Int32} {lo dp : Int32} (hN : N ≤ 20) (hp : p < N) (hkd : kd p = nI 8) (hnb : nb p = nI c) (hfx : f_Pattern_isFixed (nI N) kd nb (nI p) = some 0) : f_TextReader_endOf 60 lo (nI p0) (nI z) vals fl od dp ends (nI n) f (nI N) kd nb (nI p) = f_TextReader_endOfFree 60 (nI p0) (nI z) vals fl od dp ends (nI n) f (nI N) kd nb (nI p) := by
  unfold f_TextReader_endOf f_Pattern_isName
  rw [(pk_c hN hp kd).1, (pk_c hN hp nb).2, hkd, hnb]
  simp only [ob_some, ↓reduceIte, eq_false (show ¬ nI 8 = (15 : Int32) by decide), eq_false (show ¬ nI 8 = (5 : Int32) by decide), eq_false (show ¬ nI 8 = (9 : Int32) by decide), eq_false (show ¬ nI 8 = (2 : Int32) by decide), eq_false (show ¬ nI 8 = (13 : Int32) by decide), eq_false (show ¬ nI 8 = (14 : Int32) by decide), eq_false (show ¬ (1 : Int32) = 0 by decide), eta5, hfx]
theorem pa_8r {n p0 N x p c : Nat} {g kn so co cn ar sz : Nat → Int32} {gn va : Nat → Int64} {lo : Int32} (hx : x < 6) (hN : N ≤ 20) (hp : p < N) (hc1 : 1 ≤ c ∧ c ≤ 9) (hso : so (20 * x + p) = 1) (hco : co (20 * x + p) = nI (lixL.getD 8 0)) (hcn : cn (20 * x + p) = nI c) (hfm : f_SkeletonClockModel_fixed so co cn (nI (20 * x + p)) = some 0) : f_SkeletonClockModel_pass (nI n) lo g gn so co cn ar sz kn va (nI x) (nI (20 * x + p)) (nI p0) = f_SkeletonClockModel_freely (nI n) g so co cn ar sz kn va (nI x) (nI (20 * x + p)) (nI p0) := by
  have ft := (fx_tab 8 (by decide)).1
  have sn : ¬ (nI (20 * x + p) < 0 ∨ 140 ≤ 20 * x + p) := by
    rintro (a | a)
    · exact nI_pos (by omega) a
    · omega
  have c0 : ¬ nI c = 0 := nI_ne0 (by omega) (by omega)
  unfold f_SkeletonClockModel_pass jn_SkeletonClockModel_pass_97
  simp only [nI_clamp (show 20 * x + p < 2 ^ 31 by omega), eq_true sn, hso, eq_false (show ¬ (1 : Int32) = 0 by decide), hco, hcn, ft, ob_some, ↓reduceIte, eq_false (show ¬ nI (fxL.getD 8 0) = (13 : Int32) by decide), eq_false (show ¬ nI (fxL.getD 8 0) = (1 : Int32) by decide), eq_false (show ¬ nI (fxL.getD 8 0) = (4 : Int32) by decide), eq_false (show ¬ nI (fxL.getD 8 0) = (9 : Int32) by decide), eq_false (show ¬ nI (fxL.getD 8 0) = (0 : Int32) by decide), eq_false (show ¬ nI (fxL.getD 8 0) = (6 : Int32) by decide), eta3, eq_false c0, hfm]
theorem eo_10f {n p0 N p c z : Nat} {f vals fl od kd nb ends : Nat → Int32} {lo dp : Int32} (hN : N ≤ 20) (hp : p < N) (hkd : kd p = nI 10) (hnb : nb p = nI c) (hfx : f_Pattern_isFixed (nI N) kd nb (nI p) = some 1) : f_TextReader_endOf 60 lo (nI p0) (nI z) vals fl od dp ends (nI n) f (nI N) kd nb (nI p) = f_TextReader_endOfFixed 60 (nI p0) (nI z) vals fl od (nI n) f (nI 10) (nI c) := by
  unfold f_TextReader_endOf f_Pattern_isName
  rw [(pk_c hN hp kd).1, (pk_c hN hp nb).2, hkd, hnb]
  simp only [ob_some, ↓reduceIte, eq_false (show ¬ nI 10 = (15 : Int32) by decide), eq_false (show ¬ nI 10 = (5 : Int32) by decide), eq_false (show ¬ nI 10 = (9 : Int32) by decide), eq_false (show ¬ nI 10 = (2 : Int32) by decide), eq_false (show ¬ nI 10 = (13 : Int32) by decide), eq_false (show ¬ nI 10 = (14 : Int32) by decide), eq_false (show ¬ (1 : Int32) = 0 by decide), eta5, hfx]
theorem pa_10f {n p0 N x p c : Nat} {g kn so co cn ar sz : Nat → Int32} {gn va : Nat → Int64} {lo : Int32} (hx : x < 6) (hN : N ≤ 20) (hp : p < N) (hc1 : 1 ≤ c ∧ c ≤ 9) (hso : so (20 * x + p) = 1) (hco : co (20 * x + p) = nI (lixL.getD 10 0)) (hcn : cn (20 * x + p) = nI c) (hfm : f_SkeletonClockModel_fixed so co cn (nI (20 * x + p)) = some (nI c)) : f_SkeletonClockModel_pass (nI n) lo g gn so co cn ar sz kn va (nI x) (nI (20 * x + p)) (nI p0) = RFx n g kn va p0 c (fun u10 => jn_SkeletonClockModel_pass_202 (nI n) lo g gn so co cn ar sz kn va (nI p0) (nI (fxL.getD 10 0)) (nI c) (nI c) u10) := by
  have ft := (fx_tab 10 (by decide)).1
  have sn : ¬ (nI (20 * x + p) < 0 ∨ 140 ≤ 20 * x + p) := by
    rintro (a | a)
    · exact nI_pos (by omega) a
    · omega
  have c0 : ¬ nI c = 0 := nI_ne0 (by omega) (by omega)
  unfold f_SkeletonClockModel_pass jn_SkeletonClockModel_pass_97
  simp only [nI_clamp (show 20 * x + p < 2 ^ 31 by omega), eq_true sn, hso, eq_false (show ¬ (1 : Int32) = 0 by decide), hco, hcn, ft, ob_some, ↓reduceIte, eq_false (show ¬ nI (fxL.getD 10 0) = (13 : Int32) by decide), eq_false (show ¬ nI (fxL.getD 10 0) = (1 : Int32) by decide), eq_false (show ¬ nI (fxL.getD 10 0) = (4 : Int32) by decide), eq_false (show ¬ nI (fxL.getD 10 0) = (9 : Int32) by decide), eq_false (show ¬ nI (fxL.getD 10 0) = (0 : Int32) by decide), eq_false (show ¬ nI (fxL.getD 10 0) = (6 : Int32) by decide), eta3, eq_false c0, hfm]
  rfl
theorem eo_10r {n p0 N p c z : Nat} {f vals fl od kd nb ends : Nat → Int32} {lo dp : Int32} (hN : N ≤ 20) (hp : p < N) (hkd : kd p = nI 10) (hnb : nb p = nI c) (hfx : f_Pattern_isFixed (nI N) kd nb (nI p) = some 0) : f_TextReader_endOf 60 lo (nI p0) (nI z) vals fl od dp ends (nI n) f (nI N) kd nb (nI p) = f_TextReader_endOfFree 60 (nI p0) (nI z) vals fl od dp ends (nI n) f (nI N) kd nb (nI p) := by
  unfold f_TextReader_endOf f_Pattern_isName
  rw [(pk_c hN hp kd).1, (pk_c hN hp nb).2, hkd, hnb]
  simp only [ob_some, ↓reduceIte, eq_false (show ¬ nI 10 = (15 : Int32) by decide), eq_false (show ¬ nI 10 = (5 : Int32) by decide), eq_false (show ¬ nI 10 = (9 : Int32) by decide), eq_false (show ¬ nI 10 = (2 : Int32) by decide), eq_false (show ¬ nI 10 = (13 : Int32) by decide), eq_false (show ¬ nI 10 = (14 : Int32) by decide), eq_false (show ¬ (1 : Int32) = 0 by decide), eta5, hfx]
theorem pa_10r {n p0 N x p c : Nat} {g kn so co cn ar sz : Nat → Int32} {gn va : Nat → Int64} {lo : Int32} (hx : x < 6) (hN : N ≤ 20) (hp : p < N) (hc1 : 1 ≤ c ∧ c ≤ 9) (hso : so (20 * x + p) = 1) (hco : co (20 * x + p) = nI (lixL.getD 10 0)) (hcn : cn (20 * x + p) = nI c) (hfm : f_SkeletonClockModel_fixed so co cn (nI (20 * x + p)) = some 0) : f_SkeletonClockModel_pass (nI n) lo g gn so co cn ar sz kn va (nI x) (nI (20 * x + p)) (nI p0) = f_SkeletonClockModel_freely (nI n) g so co cn ar sz kn va (nI x) (nI (20 * x + p)) (nI p0) := by
  have ft := (fx_tab 10 (by decide)).1
  have sn : ¬ (nI (20 * x + p) < 0 ∨ 140 ≤ 20 * x + p) := by
    rintro (a | a)
    · exact nI_pos (by omega) a
    · omega
  have c0 : ¬ nI c = 0 := nI_ne0 (by omega) (by omega)
  unfold f_SkeletonClockModel_pass jn_SkeletonClockModel_pass_97
  simp only [nI_clamp (show 20 * x + p < 2 ^ 31 by omega), eq_true sn, hso, eq_false (show ¬ (1 : Int32) = 0 by decide), hco, hcn, ft, ob_some, ↓reduceIte, eq_false (show ¬ nI (fxL.getD 10 0) = (13 : Int32) by decide), eq_false (show ¬ nI (fxL.getD 10 0) = (1 : Int32) by decide), eq_false (show ¬ nI (fxL.getD 10 0) = (4 : Int32) by decide), eq_false (show ¬ nI (fxL.getD 10 0) = (9 : Int32) by decide), eq_false (show ¬ nI (fxL.getD 10 0) = (0 : Int32) by decide), eq_false (show ¬ nI (fxL.getD 10 0) = (6 : Int32) by decide), eta3, eq_false c0, hfm]
theorem eo_11f {n p0 N p c z : Nat} {f vals fl od kd nb ends : Nat → Int32} {lo dp : Int32} (hN : N ≤ 20) (hp : p < N) (hkd : kd p = nI 11) (hnb : nb p = nI c) (hfx : f_Pattern_isFixed (nI N) kd nb (nI p) = some 1) : f_TextReader_endOf 60 lo (nI p0) (nI z) vals fl od dp ends (nI n) f (nI N) kd nb (nI p) = f_TextReader_endOfFixed 60 (nI p0) (nI z) vals fl od (nI n) f (nI 11) (nI c) := by
  unfold f_TextReader_endOf f_Pattern_isName
  rw [(pk_c hN hp kd).1, (pk_c hN hp nb).2, hkd, hnb]
  simp only [ob_some, ↓reduceIte, eq_false (show ¬ nI 11 = (15 : Int32) by decide), eq_false (show ¬ nI 11 = (5 : Int32) by decide), eq_false (show ¬ nI 11 = (9 : Int32) by decide), eq_false (show ¬ nI 11 = (2 : Int32) by decide), eq_false (show ¬ nI 11 = (13 : Int32) by decide), eq_false (show ¬ nI 11 = (14 : Int32) by decide), eq_false (show ¬ (1 : Int32) = 0 by decide), eta5, hfx]
theorem pa_11f {n p0 N x p c : Nat} {g kn so co cn ar sz : Nat → Int32} {gn va : Nat → Int64} {lo : Int32} (hx : x < 6) (hN : N ≤ 20) (hp : p < N) (hc1 : 1 ≤ c ∧ c ≤ 9) (hso : so (20 * x + p) = 1) (hco : co (20 * x + p) = nI (lixL.getD 11 0)) (hcn : cn (20 * x + p) = nI c) (hfm : f_SkeletonClockModel_fixed so co cn (nI (20 * x + p)) = some (nI c)) : f_SkeletonClockModel_pass (nI n) lo g gn so co cn ar sz kn va (nI x) (nI (20 * x + p)) (nI p0) = RFx n g kn va p0 c (fun u10 => jn_SkeletonClockModel_pass_202 (nI n) lo g gn so co cn ar sz kn va (nI p0) (nI (fxL.getD 11 0)) (nI c) (nI c) u10) := by
  have ft := (fx_tab 11 (by decide)).1
  have sn : ¬ (nI (20 * x + p) < 0 ∨ 140 ≤ 20 * x + p) := by
    rintro (a | a)
    · exact nI_pos (by omega) a
    · omega
  have c0 : ¬ nI c = 0 := nI_ne0 (by omega) (by omega)
  unfold f_SkeletonClockModel_pass jn_SkeletonClockModel_pass_97
  simp only [nI_clamp (show 20 * x + p < 2 ^ 31 by omega), eq_true sn, hso, eq_false (show ¬ (1 : Int32) = 0 by decide), hco, hcn, ft, ob_some, ↓reduceIte, eq_false (show ¬ nI (fxL.getD 11 0) = (13 : Int32) by decide), eq_false (show ¬ nI (fxL.getD 11 0) = (1 : Int32) by decide), eq_false (show ¬ nI (fxL.getD 11 0) = (4 : Int32) by decide), eq_false (show ¬ nI (fxL.getD 11 0) = (9 : Int32) by decide), eq_false (show ¬ nI (fxL.getD 11 0) = (0 : Int32) by decide), eq_false (show ¬ nI (fxL.getD 11 0) = (6 : Int32) by decide), eta3, eq_false c0, hfm]
  rfl
theorem eo_11r {n p0 N p c z : Nat} {f vals fl od kd nb ends : Nat → Int32} {lo dp : Int32} (hN : N ≤ 20) (hp : p < N) (hkd : kd p = nI 11) (hnb : nb p = nI c) (hfx : f_Pattern_isFixed (nI N) kd nb (nI p) = some 0) : f_TextReader_endOf 60 lo (nI p0) (nI z) vals fl od dp ends (nI n) f (nI N) kd nb (nI p) = f_TextReader_endOfFree 60 (nI p0) (nI z) vals fl od dp ends (nI n) f (nI N) kd nb (nI p) := by
  unfold f_TextReader_endOf f_Pattern_isName
  rw [(pk_c hN hp kd).1, (pk_c hN hp nb).2, hkd, hnb]
  simp only [ob_some, ↓reduceIte, eq_false (show ¬ nI 11 = (15 : Int32) by decide), eq_false (show ¬ nI 11 = (5 : Int32) by decide), eq_false (show ¬ nI 11 = (9 : Int32) by decide), eq_false (show ¬ nI 11 = (2 : Int32) by decide), eq_false (show ¬ nI 11 = (13 : Int32) by decide), eq_false (show ¬ nI 11 = (14 : Int32) by decide), eq_false (show ¬ (1 : Int32) = 0 by decide), eta5, hfx]
theorem pa_11r {n p0 N x p c : Nat} {g kn so co cn ar sz : Nat → Int32} {gn va : Nat → Int64} {lo : Int32} (hx : x < 6) (hN : N ≤ 20) (hp : p < N) (hc1 : 1 ≤ c ∧ c ≤ 9) (hso : so (20 * x + p) = 1) (hco : co (20 * x + p) = nI (lixL.getD 11 0)) (hcn : cn (20 * x + p) = nI c) (hfm : f_SkeletonClockModel_fixed so co cn (nI (20 * x + p)) = some 0) : f_SkeletonClockModel_pass (nI n) lo g gn so co cn ar sz kn va (nI x) (nI (20 * x + p)) (nI p0) = f_SkeletonClockModel_freely (nI n) g so co cn ar sz kn va (nI x) (nI (20 * x + p)) (nI p0) := by
  have ft := (fx_tab 11 (by decide)).1
  have sn : ¬ (nI (20 * x + p) < 0 ∨ 140 ≤ 20 * x + p) := by
    rintro (a | a)
    · exact nI_pos (by omega) a
    · omega
  have c0 : ¬ nI c = 0 := nI_ne0 (by omega) (by omega)
  unfold f_SkeletonClockModel_pass jn_SkeletonClockModel_pass_97
  simp only [nI_clamp (show 20 * x + p < 2 ^ 31 by omega), eq_true sn, hso, eq_false (show ¬ (1 : Int32) = 0 by decide), hco, hcn, ft, ob_some, ↓reduceIte, eq_false (show ¬ nI (fxL.getD 11 0) = (13 : Int32) by decide), eq_false (show ¬ nI (fxL.getD 11 0) = (1 : Int32) by decide), eq_false (show ¬ nI (fxL.getD 11 0) = (4 : Int32) by decide), eq_false (show ¬ nI (fxL.getD 11 0) = (9 : Int32) by decide), eq_false (show ¬ nI (fxL.getD 11 0) = (0 : Int32) by decide), eq_false (show ¬ nI (fxL.getD 11 0) = (6 : Int32) by decide), eta3, eq_false c0, hfm]
theorem eo_12f {n p0 N p c z : Nat} {f vals fl od kd nb ends : Nat → Int32} {lo dp : Int32} (hN : N ≤ 20) (hp : p < N) (hkd : kd p = nI 12) (hnb : nb p = nI c) (hfx : f_Pattern_isFixed (nI N) kd nb (nI p) = some 1) : f_TextReader_endOf 60 lo (nI p0) (nI z) vals fl od dp ends (nI n) f (nI N) kd nb (nI p) = f_TextReader_endOfFixed 60 (nI p0) (nI z) vals fl od (nI n) f (nI 12) (nI c) := by
  unfold f_TextReader_endOf f_Pattern_isName
  rw [(pk_c hN hp kd).1, (pk_c hN hp nb).2, hkd, hnb]
  simp only [ob_some, ↓reduceIte, eq_false (show ¬ nI 12 = (15 : Int32) by decide), eq_false (show ¬ nI 12 = (5 : Int32) by decide), eq_false (show ¬ nI 12 = (9 : Int32) by decide), eq_false (show ¬ nI 12 = (2 : Int32) by decide), eq_false (show ¬ nI 12 = (13 : Int32) by decide), eq_false (show ¬ nI 12 = (14 : Int32) by decide), eq_false (show ¬ (1 : Int32) = 0 by decide), eta5, hfx]
theorem pa_12f {n p0 N x p c : Nat} {g kn so co cn ar sz : Nat → Int32} {gn va : Nat → Int64} {lo : Int32} (hx : x < 6) (hN : N ≤ 20) (hp : p < N) (hc1 : 1 ≤ c ∧ c ≤ 9) (hso : so (20 * x + p) = 1) (hco : co (20 * x + p) = nI (lixL.getD 12 0)) (hcn : cn (20 * x + p) = nI c) (hfm : f_SkeletonClockModel_fixed so co cn (nI (20 * x + p)) = some (nI c)) : f_SkeletonClockModel_pass (nI n) lo g gn so co cn ar sz kn va (nI x) (nI (20 * x + p)) (nI p0) = RFx n g kn va p0 c (fun u10 => jn_SkeletonClockModel_pass_202 (nI n) lo g gn so co cn ar sz kn va (nI p0) (nI (fxL.getD 12 0)) (nI c) (nI c) u10) := by
  have ft := (fx_tab 12 (by decide)).1
  have sn : ¬ (nI (20 * x + p) < 0 ∨ 140 ≤ 20 * x + p) := by
    rintro (a | a)
    · exact nI_pos (by omega) a
    · omega
  have c0 : ¬ nI c = 0 := nI_ne0 (by omega) (by omega)
  unfold f_SkeletonClockModel_pass jn_SkeletonClockModel_pass_97
  simp only [nI_clamp (show 20 * x + p < 2 ^ 31 by omega), eq_true sn, hso, eq_false (show ¬ (1 : Int32) = 0 by decide), hco, hcn, ft, ob_some, ↓reduceIte, eq_false (show ¬ nI (fxL.getD 12 0) = (13 : Int32) by decide), eq_false (show ¬ nI (fxL.getD 12 0) = (1 : Int32) by decide), eq_false (show ¬ nI (fxL.getD 12 0) = (4 : Int32) by decide), eq_false (show ¬ nI (fxL.getD 12 0) = (9 : Int32) by decide), eq_false (show ¬ nI (fxL.getD 12 0) = (0 : Int32) by decide), eq_false (show ¬ nI (fxL.getD 12 0) = (6 : Int32) by decide), eta3, eq_false c0, hfm]
  rfl
theorem eo_2n {n p0 N p c z : Nat} {f vals fl od kd nb ends : Nat → Int32} {lo dp : Int32} (hN : N ≤ 20) (hp : p < N) (hkd : kd p = nI 2) (hnb : nb p = nI c) (h2 : ¬ nI c ≤ (2 : Int32)) : f_TextReader_endOf 60 lo (nI p0) (nI z) vals fl od dp ends (nI n) f (nI N) kd nb (nI p) = f_TextReader_endOfName 60 lo (nI p0) (nI z) vals fl od (nI n) f (nI 2) (nI c) := by
  unfold f_TextReader_endOf f_Pattern_isName
  rw [(pk_c hN hp kd).1, (pk_c hN hp nb).2, hkd, hnb]
  simp only [ob_some, ↓reduceIte, eq_false (show ¬ nI 2 = (15 : Int32) by decide), eq_false (show ¬ nI 2 = (5 : Int32) by decide), eq_false (show ¬ nI 2 = (9 : Int32) by decide), eq_true (show nI 2 = (2 : Int32) by decide), eq_false (show ¬ nI 2 = (13 : Int32) by decide), eq_false (show ¬ nI 2 = (14 : Int32) by decide), eq_false (show ¬ (1 : Int32) = 0 by decide), eta5, eq_false h2]
theorem pa_2n {n p0 N x p c : Nat} {g kn so co cn ar sz : Nat → Int32} {gn va : Nat → Int64} {lo : Int32} (hx : x < 6) (hN : N ≤ 20) (hp : p < N) (hc1 : 1 ≤ c ∧ c ≤ 9) (hso : so (20 * x + p) = 1) (hco : co (20 * x + p) = nI (lixL.getD 2 0)) (hcn : cn (20 * x + p) = nI c) (h2 : ¬ nI c ≤ (2 : Int32)) : f_SkeletonClockModel_pass (nI n) lo g gn so co cn ar sz kn va (nI x) (nI (20 * x + p)) (nI p0) = f_SkeletonClockModel_named (nI n) lo g gn kn va (nI p0) 0 11 (nI c) (nI (fxL.getD 2 0)) 1 := by
  have ft := (fx_tab 2 (by decide)).1
  have sn : ¬ (nI (20 * x + p) < 0 ∨ 140 ≤ 20 * x + p) := by
    rintro (a | a)
    · exact nI_pos (by omega) a
    · omega
  have c0 : ¬ nI c = 0 := nI_ne0 (by omega) (by omega)
  unfold f_SkeletonClockModel_pass jn_SkeletonClockModel_pass_97
  simp only [nI_clamp (show 20 * x + p < 2 ^ 31 by omega), eq_true sn, hso, eq_false (show ¬ (1 : Int32) = 0 by decide), hco, hcn, ft, ob_some, ↓reduceIte, eq_false (show ¬ nI (fxL.getD 2 0) = (13 : Int32) by decide), eq_true (show nI (fxL.getD 2 0) = (1 : Int32) by decide), eq_false (show ¬ nI (fxL.getD 2 0) = (4 : Int32) by decide), eq_false (show ¬ nI (fxL.getD 2 0) = (9 : Int32) by decide), eq_false (show ¬ nI (fxL.getD 2 0) = (0 : Int32) by decide), eq_false (show ¬ nI (fxL.getD 2 0) = (6 : Int32) by decide), eta3, eq_false c0, eq_false h2]
theorem eo_5n {n p0 N p c z : Nat} {f vals fl od kd nb ends : Nat → Int32} {lo dp : Int32} (hN : N ≤ 20) (hp : p < N) (hkd : kd p = nI 5) (hnb : nb p = nI c) : f_TextReader_endOf 60 lo (nI p0) (nI z) vals fl od dp ends (nI n) f (nI N) kd nb (nI p) = f_TextReader_endOfName 60 lo (nI p0) (nI z) vals fl od (nI n) f (nI 5) (nI c) := by
  unfold f_TextReader_endOf f_Pattern_isName
  rw [(pk_c hN hp kd).1, (pk_c hN hp nb).2, hkd, hnb]
  simp only [ob_some, ↓reduceIte, eq_false (show ¬ nI 5 = (15 : Int32) by decide), eq_true (show nI 5 = (5 : Int32) by decide), eq_false (show ¬ nI 5 = (9 : Int32) by decide), eq_false (show ¬ nI 5 = (2 : Int32) by decide), eq_false (show ¬ nI 5 = (13 : Int32) by decide), eq_false (show ¬ nI 5 = (14 : Int32) by decide), eq_false (show ¬ (1 : Int32) = 0 by decide), eta5]
theorem pa_5n {n p0 N x p c : Nat} {g kn so co cn ar sz : Nat → Int32} {gn va : Nat → Int64} {lo : Int32} (hx : x < 6) (hN : N ≤ 20) (hp : p < N) (hc1 : 1 ≤ c ∧ c ≤ 9) (hso : so (20 * x + p) = 1) (hco : co (20 * x + p) = nI (lixL.getD 5 0)) (hcn : cn (20 * x + p) = nI c) : f_SkeletonClockModel_pass (nI n) lo g gn so co cn ar sz kn va (nI x) (nI (20 * x + p)) (nI p0) = f_SkeletonClockModel_named (nI n) lo g gn kn va (nI p0) 12 18 (nI c) (nI (fxL.getD 5 0)) 1 := by
  have ft := (fx_tab 5 (by decide)).1
  have sn : ¬ (nI (20 * x + p) < 0 ∨ 140 ≤ 20 * x + p) := by
    rintro (a | a)
    · exact nI_pos (by omega) a
    · omega
  have c0 : ¬ nI c = 0 := nI_ne0 (by omega) (by omega)
  unfold f_SkeletonClockModel_pass jn_SkeletonClockModel_pass_97
  simp only [nI_clamp (show 20 * x + p < 2 ^ 31 by omega), eq_true sn, hso, eq_false (show ¬ (1 : Int32) = 0 by decide), hco, hcn, ft, ob_some, ↓reduceIte, eq_false (show ¬ nI (fxL.getD 5 0) = (13 : Int32) by decide), eq_false (show ¬ nI (fxL.getD 5 0) = (1 : Int32) by decide), eq_true (show nI (fxL.getD 5 0) = (4 : Int32) by decide), eq_false (show ¬ nI (fxL.getD 5 0) = (9 : Int32) by decide), eq_false (show ¬ nI (fxL.getD 5 0) = (0 : Int32) by decide), eq_false (show ¬ nI (fxL.getD 5 0) = (6 : Int32) by decide), eta3, eq_false c0]
theorem eo_9n {n p0 N p c z : Nat} {f vals fl od kd nb ends : Nat → Int32} {lo dp : Int32} (hN : N ≤ 20) (hp : p < N) (hkd : kd p = nI 9) (hnb : nb p = nI c) : f_TextReader_endOf 60 lo (nI p0) (nI z) vals fl od dp ends (nI n) f (nI N) kd nb (nI p) = f_TextReader_endOfName 60 lo (nI p0) (nI z) vals fl od (nI n) f (nI 9) (nI c) := by
  unfold f_TextReader_endOf f_Pattern_isName
  rw [(pk_c hN hp kd).1, (pk_c hN hp nb).2, hkd, hnb]
  simp only [ob_some, ↓reduceIte, eq_false (show ¬ nI 9 = (15 : Int32) by decide), eq_false (show ¬ nI 9 = (5 : Int32) by decide), eq_true (show nI 9 = (9 : Int32) by decide), eq_false (show ¬ nI 9 = (2 : Int32) by decide), eq_false (show ¬ nI 9 = (13 : Int32) by decide), eq_false (show ¬ nI 9 = (14 : Int32) by decide), eq_false (show ¬ (1 : Int32) = 0 by decide), eta5]
theorem pa_9n {n p0 N x p c : Nat} {g kn so co cn ar sz : Nat → Int32} {gn va : Nat → Int64} {lo : Int32} (hx : x < 6) (hN : N ≤ 20) (hp : p < N) (hc1 : 1 ≤ c ∧ c ≤ 9) (hso : so (20 * x + p) = 1) (hco : co (20 * x + p) = nI (lixL.getD 9 0)) (hcn : cn (20 * x + p) = nI c) : f_SkeletonClockModel_pass (nI n) lo g gn so co cn ar sz kn va (nI x) (nI (20 * x + p)) (nI p0) = f_SkeletonClockModel_named (nI n) lo g gn kn va (nI p0) 19 20 (4) (nI (fxL.getD 9 0)) 0 := by
  have ft := (fx_tab 9 (by decide)).1
  have sn : ¬ (nI (20 * x + p) < 0 ∨ 140 ≤ 20 * x + p) := by
    rintro (a | a)
    · exact nI_pos (by omega) a
    · omega
  have c0 : ¬ nI c = 0 := nI_ne0 (by omega) (by omega)
  unfold f_SkeletonClockModel_pass jn_SkeletonClockModel_pass_97
  simp only [nI_clamp (show 20 * x + p < 2 ^ 31 by omega), eq_true sn, hso, eq_false (show ¬ (1 : Int32) = 0 by decide), hco, hcn, ft, ob_some, ↓reduceIte, eq_false (show ¬ nI (fxL.getD 9 0) = (13 : Int32) by decide), eq_false (show ¬ nI (fxL.getD 9 0) = (1 : Int32) by decide), eq_false (show ¬ nI (fxL.getD 9 0) = (4 : Int32) by decide), eq_true (show nI (fxL.getD 9 0) = (9 : Int32) by decide), eq_false (show ¬ nI (fxL.getD 9 0) = (0 : Int32) by decide), eq_false (show ¬ nI (fxL.getD 9 0) = (6 : Int32) by decide), eta3, eq_false c0]
theorem eo_13 {n p0 N p c z : Nat} {f vals fl od kd nb ends : Nat → Int32} {lo dp : Int32} (hN : N ≤ 20) (hp : p < N) (hkd : kd p = nI 13) (hnb : nb p = nI c) : f_TextReader_endOf 60 lo (nI p0) (nI z) vals fl od dp ends (nI n) f (nI N) kd nb (nI p) = f_TextReader_endOfOffset 60 lo (nI p0) (nI z) vals fl od (nI n) f (nI 13) (nI c) := by
  unfold f_TextReader_endOf f_Pattern_isName
  rw [(pk_c hN hp kd).1, (pk_c hN hp nb).2, hkd, hnb]
  simp only [ob_some, ↓reduceIte, eq_false (show ¬ nI 13 = (15 : Int32) by decide), eq_false (show ¬ nI 13 = (5 : Int32) by decide), eq_false (show ¬ nI 13 = (9 : Int32) by decide), eq_false (show ¬ nI 13 = (2 : Int32) by decide), eq_true (show nI 13 = (13 : Int32) by decide), eq_false (show ¬ nI 13 = (14 : Int32) by decide), eq_false (show ¬ (1 : Int32) = 0 by decide), eta5]
theorem pa_13 {n p0 N x p c : Nat} {g kn so co cn ar sz : Nat → Int32} {gn va : Nat → Int64} {lo : Int32} (hx : x < 6) (hN : N ≤ 20) (hp : p < N) (hc1 : 1 ≤ c ∧ c ≤ 9) (hso : so (20 * x + p) = 1) (hco : co (20 * x + p) = nI (lixL.getD 13 0)) (hcn : cn (20 * x + p) = nI c) : f_SkeletonClockModel_pass (nI n) lo g gn so co cn ar sz kn va (nI x) (nI (20 * x + p)) (nI p0) = f_SkeletonClockModel_offsetAt (nI n) lo g kn va (nI p0) (nI (lixL.getD 13 0)) (nI c) := by
  have ft := (fx_tab 13 (by decide)).1
  have sn : ¬ (nI (20 * x + p) < 0 ∨ 140 ≤ 20 * x + p) := by
    rintro (a | a)
    · exact nI_pos (by omega) a
    · omega
  have c0 : ¬ nI c = 0 := nI_ne0 (by omega) (by omega)
  unfold f_SkeletonClockModel_pass jn_SkeletonClockModel_pass_97
  simp only [nI_clamp (show 20 * x + p < 2 ^ 31 by omega), eq_true sn, hso, eq_false (show ¬ (1 : Int32) = 0 by decide), hco, hcn, ft, ob_some, ↓reduceIte, eq_true (show nI (fxL.getD 13 0) = (13 : Int32) by decide), eq_false (show ¬ nI (fxL.getD 13 0) = (1 : Int32) by decide), eq_false (show ¬ nI (fxL.getD 13 0) = (4 : Int32) by decide), eq_false (show ¬ nI (fxL.getD 13 0) = (9 : Int32) by decide), eq_false (show ¬ nI (fxL.getD 13 0) = (0 : Int32) by decide), eq_false (show ¬ nI (fxL.getD 13 0) = (6 : Int32) by decide), eta3, eq_false c0]
theorem eo_14 {n p0 N p c z : Nat} {f vals fl od kd nb ends : Nat → Int32} {lo dp : Int32} (hN : N ≤ 20) (hp : p < N) (hkd : kd p = nI 14) (hnb : nb p = nI c) : f_TextReader_endOf 60 lo (nI p0) (nI z) vals fl od dp ends (nI n) f (nI N) kd nb (nI p) = f_TextReader_endOfOffset 60 lo (nI p0) (nI z) vals fl od (nI n) f (nI 14) (nI c) := by
  unfold f_TextReader_endOf f_Pattern_isName
  rw [(pk_c hN hp kd).1, (pk_c hN hp nb).2, hkd, hnb]
  simp only [ob_some, ↓reduceIte, eq_false (show ¬ nI 14 = (15 : Int32) by decide), eq_false (show ¬ nI 14 = (5 : Int32) by decide), eq_false (show ¬ nI 14 = (9 : Int32) by decide), eq_false (show ¬ nI 14 = (2 : Int32) by decide), eq_false (show ¬ nI 14 = (13 : Int32) by decide), eq_true (show nI 14 = (14 : Int32) by decide), eq_false (show ¬ (1 : Int32) = 0 by decide), eta5]
theorem pa_14 {n p0 N x p c : Nat} {g kn so co cn ar sz : Nat → Int32} {gn va : Nat → Int64} {lo : Int32} (hx : x < 6) (hN : N ≤ 20) (hp : p < N) (hc1 : 1 ≤ c ∧ c ≤ 9) (hso : so (20 * x + p) = 1) (hco : co (20 * x + p) = nI (lixL.getD 14 0)) (hcn : cn (20 * x + p) = nI c) : f_SkeletonClockModel_pass (nI n) lo g gn so co cn ar sz kn va (nI x) (nI (20 * x + p)) (nI p0) = f_SkeletonClockModel_offsetAt (nI n) lo g kn va (nI p0) (nI (lixL.getD 14 0)) (nI c) := by
  have ft := (fx_tab 14 (by decide)).1
  have sn : ¬ (nI (20 * x + p) < 0 ∨ 140 ≤ 20 * x + p) := by
    rintro (a | a)
    · exact nI_pos (by omega) a
    · omega
  have c0 : ¬ nI c = 0 := nI_ne0 (by omega) (by omega)
  unfold f_SkeletonClockModel_pass jn_SkeletonClockModel_pass_97
  simp only [nI_clamp (show 20 * x + p < 2 ^ 31 by omega), eq_true sn, hso, eq_false (show ¬ (1 : Int32) = 0 by decide), hco, hcn, ft, ob_some, ↓reduceIte, eq_true (show nI (fxL.getD 14 0) = (13 : Int32) by decide), eq_false (show ¬ nI (fxL.getD 14 0) = (1 : Int32) by decide), eq_false (show ¬ nI (fxL.getD 14 0) = (4 : Int32) by decide), eq_false (show ¬ nI (fxL.getD 14 0) = (9 : Int32) by decide), eq_false (show ¬ nI (fxL.getD 14 0) = (0 : Int32) by decide), eq_false (show ¬ nI (fxL.getD 14 0) = (6 : Int32) by decide), eta3, eq_false c0]
theorem fp_c {n p0 c i z : Nat} {T : Nat → Nat} {f g vals fl od kn so co cn ar sz : Nat → Int32} {gn va : Nat → Int64} {lo : Int32} (hn : n ≤ 60) (hf : Tx n T f) (hg : Tx n T g) (hp : p0 ≤ n) (hc : c = 2 ∨ c = 3) (hi : 2 ≤ i ∧ i ≤ 11) (h5 : i ≠ 5) (h9 : i ≠ 9) (hKN : KN z fl od) (hKV : KV fl vals kn va) : RR n z vals fl od kn va (f_TextReader_endOfFixed 60 (nI p0) (nI z) vals fl od (nI n) f (nI i) (nI c)) (RFx n g kn va p0 c (fun u10 => jn_SkeletonClockModel_pass_202 (nI n) lo g gn so co cn ar sz kn va (nI p0) (nI (fx i)) (nI c) (nI c) u10)) := by
  refine fi_c hn hf hg hp (Nat.le_refl n) (by omega) (by omega) hKN hKV (fun v hv => ⟨(v : Int), ?_, ?_, ?_⟩)
  · have : 10 ^ c ≤ 1000 := by
      rcases hc with rfl | rfl <;> decide
    exact bndP hi h5 h9 (by omega)
  · have a0 : ¬ nI i = 0 := nI_ne0 (by omega) (by omega)
    have a1 : ¬ nI i = 1 := fun q => by
      have := (nI_eq (by omega) (by decide)).mp (q.trans kk1)
      omega
    have a2 : ¬ nI i = 12 := fun q => by
      have := (nI_eq (by omega) (by decide)).mp (q.trans kk12)
      omega
    unfold f_SkeletonClock_isYearField jn_TextReader_endOfFixed_39
    rw [if_neg a0, if_neg a1, ob_some, if_pos rfl, if_neg a2, eta5, nI_add, nI_iI v]
  · have a2 : ¬ nI (fx i) = 12 := by
      have : ∀ i, i < 12 → ¬ nI (fx i) = 12 := by decide
      exact this i (by omega)
    unfold jn_SkeletonClockModel_pass_202
    rw [fx_1 a2, ob_some, eta3, nI_add]
    rfl
theorem fp_y {n p0 i z : Nat} {T : Nat → Nat} {f g vals fl od kn so co cn ar sz : Nat → Int32} {gn va : Nat → Int64} {lo : Int32} (hn : n ≤ 60) (hf : Tx n T f) (hg : Tx n T g) (hp : p0 ≤ n) (hi : i = 0 ∨ i = 1) (hKN : KN z fl od) (hKV : KV fl vals kn va) : RR n z vals fl od kn va (f_TextReader_endOfFixed 60 (nI p0) (nI z) vals fl od (nI n) f (nI i) (nI 2)) (RFx n g kn va p0 2 (fun u10 => jn_SkeletonClockModel_pass_202 (nI n) lo g gn so co cn ar sz kn va (nI p0) (nI (fx i)) (nI 2) (nI 2) (u10 + (2000 : Int64)))) := by
  refine fi_c hn hf hg hp (Nat.le_refl n) (by omega) (by omega) hKN hKV (fun v hv => ⟨((v + 2000 : Nat) : Int), ?_, ?_, ?_⟩)
  · have : (10 : Nat) ^ 2 = 100 := by decide
    exact bndY (by omega) (by omega)
  · have a0 : f_SkeletonClock_isYearField (nI i) = some 1 := by
      rcases hi with rfl | rfl <;> decide
    have a2 : ¬ nI i = 12 := fun q => by
      have := (nI_eq (by omega) (by decide)).mp (q.trans kk12)
      omega
    unfold jn_TextReader_endOfFixed_39
    rw [a0, ob_some, if_neg (by decide), if_neg a2, eta5, nI_add, kk2000, nI_add, nI_iI (v + 2000)]
  · have a2 : ¬ nI (fx i) = 12 := by
      rcases hi with rfl | rfl <;> decide
    unfold jn_SkeletonClockModel_pass_202
    rw [fx_1 a2, ob_some, eta3, nI_add, kj2000, jN_add]
    rfl
theorem fp_n {n p0 c z : Nat} {T : Nat → Nat} {f g vals fl od kn so co cn ar sz : Nat → Int32} {gn va : Nat → Int64} {lo : Int32} (hn : n ≤ 60) (hf : Tx n T f) (hg : Tx n T g) (hp : p0 ≤ n) (hc : 1 ≤ c ∧ c ≤ 9) (hKN : KN z fl od) (hKV : KV fl vals kn va) : RR n z vals fl od kn va (f_TextReader_endOfFixed 60 (nI p0) (nI z) vals fl od (nI n) f (nI 12) (nI c)) (RFx n g kn va p0 c (fun u10 => jn_SkeletonClockModel_pass_202 (nI n) lo g gn so co cn ar sz kn va (nI p0) (nI (fx 12)) (nI c) (nI c) u10)) := by
  refine fi_c hn hf hg hp (Nat.le_refl n) hc (by omega) hKN hKV (fun v hv => ⟨((v * 10 ^ (9 - c) : Nat) : Int), ?_, ?_, ?_⟩)
  · have a : v * 10 ^ (9 - c) < 10 ^ c * 10 ^ (9 - c) := Nat.mul_lt_mul_of_pos_right hv (Nat.pow_pos (by decide))
    rw [← Nat.pow_add] at a
    have e : c + (9 - c) = 9 := by omega
    rw [e] at a
    have : (10 : Nat) ^ 9 = 1000000000 := by decide
    exact ⟨fun q => by omega, fun _ q => by omega, fun q => by omega, fun q => by omega, fun _ => by omega, fun q => by omega⟩
  · have a0 : f_SkeletonClock_isYearField (nI 12) = some 0 := by decide
    obtain ⟨z', q⟩ := fx48 (a := nI 12) (b := nI c) (9 - c) FU v (by omega) (by unfold FU; omega)
    have e : 9 - (9 - c) = c := by omega
    rw [e] at q
    unfold jn_TextReader_endOfFixed_39
    rw [a0, ob_some, if_pos rfl, if_pos (by decide), q, ob_some, eta5, nI_add, nI_iI (v * 10 ^ (9 - c))]
  · obtain ⟨z', q⟩ := ps206 (a := nI p0) (b := nI c) (9 - c) FU v (by omega) (by unfold FU; omega)
    have e : 9 - (9 - c) = c := by omega
    have e2 : nI (fx 12) = 12 := by decide
    rw [e] at q
    unfold jn_SkeletonClockModel_pass_202
    rw [e2, q, ob_some, eta3, nI_add]
    rfl
theorem rr_cg {L z : Nat} {vals fl od kn : Nat → Int32} {va : Nat → Int64} {a a' : Option RC} {b b' : Option RM} (h : RR L z vals fl od kn va a b) (e1 : a' = a) (e2 : b' = b) : RR L z vals fl od kn va a' b' := by
  rw [e1, e2]
  exact h
theorem pc_f {n p0 N x p c z lim : Nat} {T : Nat → Nat} {f g vals fl od kn kd nb so co cn ar en sz ends : Nat → Int32} {E : Nat → Nat} {gn va : Nat → Int64} {lo dp : Int32} {i : Nat} (hgn : R_nam gn) (hn : n ≤ 60) (hf : Tx n T f) (hg : Tx n T g) (hp0 : p0 ≤ n) (hKN : KN z fl od) (hKV : KV fl vals kn va) (h : PV N kd nb (fun j => so (20 * x + j)) (fun j => co (20 * x + j)) (fun j => cn (20 * x + j)) (fun j => ar (20 * x + j)) en E) (hS : SP N (fun j => so (20 * x + j)) (fun j => ar (20 * x + j)) E) (hx : x < 6) (hN : N ≤ 20) (hz : sz x = nI N) (hp : p < N) (hln : lim ≤ N) (hpl : p < lim) (hl : (ar (20 * x + p) = -1 ∧ lim = N) ∨ ∃ a, a < N ∧ ar (20 * x + p) = nI a ∧ lim = E a) (hlim : f_Nest_limit dp ends (nI N) = some (nI lim)) (hso : so (20 * x + p) = 1) (hkd : kd p = nI i) (hnb : nb p = nI c) (hco : co (20 * x + p) = nI (lixL.getD i 0)) (hcn : cn (20 * x + p) = nI c) (hi : i < 15) (hc1 : 1 ≤ c ∧ c ≤ 9) (ha : (tb_allowed i >>> (nI c &&& 31)) &&& 1 = 1) : RR n z vals fl od kn va (f_TextReader_endOf 60 lo (nI p0) (nI z) vals fl od dp ends (nI n) f (nI N) kd nb (nI p)) (f_SkeletonClockModel_pass (nI n) lo g gn so co cn ar sz kn va (nI x) (nI (20 * x + p)) (nI p0)) := by
  obtain ⟨t1, t2⟩ := fd_1 i hi c (by omega) hc1.1 ha
  have fc := fd_2 hN hp kd nb
  have fm := fd_3 (show 20 * x + p < 140 by omega) so co cn
  rw [hkd, hnb, t1] at fc
  rw [hso, hco, hcn, t2] at fm
  have h60 : p0 ≤ 60 := by omega
  have le2 : c ≤ 2 → nI c ≤ (2 : Int32) := fun q => by
    rw [kk2]
    exact nI_le q (by decide)
  have gt2 : 3 ≤ c → ¬ nI c ≤ (2 : Int32) := fun q => by
    rw [kk2]
    exact nI_ge (by omega) (by omega)
  rcases (show i = 0 ∨ i = 1 ∨ i = 2 ∨ i = 3 ∨ i = 4 ∨ i = 5 ∨ i = 6 ∨ i = 7 ∨ i = 8 ∨ i = 9 ∨ i = 10 ∨ i = 11 ∨ i = 12 ∨ i = 13 ∨ i = 14 by omega) with rfl | rfl | rfl | rfl | rfl | rfl | rfl | rfl | rfl | rfl | rfl | rfl | rfl | rfl | rfl
  · have al := ac_0 c (by omega) hc1.1 ha
    rcases al with rfl | rfl | rfl
    · exact rr_cg (fr_y hn hf hg hp0 hKN hKV h hS hx hN hz hp hln hpl hl hlim hso hkd hnb hco hcn (by decide) (by decide)) (eo_0r hN hp hkd hnb fc) (pa_0r hx hN hp hc1 hso hco hcn fm)
    · exact rr_cg (fp_y hn hf hg hp0 (by decide) hKN hKV) (eo_0f hN hp hkd hnb fc) (pa_0f hx hN hp hc1 hso hco hcn fm)
    · exact rr_cg (fr_y hn hf hg hp0 hKN hKV h hS hx hN hz hp hln hpl hl hlim hso hkd hnb hco hcn (by decide) (by decide)) (eo_0r hN hp hkd hnb fc) (pa_0r hx hN hp hc1 hso hco hcn fm)
  · have al := ac_1 c (by omega) hc1.1 ha
    rcases al with rfl | rfl | rfl
    · exact rr_cg (fr_y hn hf hg hp0 hKN hKV h hS hx hN hz hp hln hpl hl hlim hso hkd hnb hco hcn (by decide) (by decide)) (eo_1r hN hp hkd hnb fc) (pa_1r hx hN hp hc1 hso hco hcn fm)
    · exact rr_cg (fp_y hn hf hg hp0 (by decide) hKN hKV) (eo_1f hN hp hkd hnb fc) (pa_1f hx hN hp hc1 hso hco hcn fm)
    · exact rr_cg (fr_y hn hf hg hp0 hKN hKV h hS hx hN hz hp hln hpl hl hlim hso hkd hnb hco hcn (by decide) (by decide)) (eo_1r hN hp hkd hnb fc) (pa_1r hx hN hp hc1 hso hco hcn fm)
  · have al := ac_2 c (by omega) hc1.1 ha
    rcases al with rfl | rfl | rfl | rfl
    · exact rr_cg (fr_p hn hf hg hp0 hKN hKV h hS hx hN hz hp hln hpl hl hlim hso hkd hnb hco hcn (by decide) rfl) (eo_2r hN hp hkd hnb fc (le2 (by decide))) (pa_2r hx hN hp hc1 hso hco hcn fm (le2 (by decide)))
    · exact rr_cg (fp_c hn hf hg hp0 (by decide) (by decide) (by decide) (by decide) hKN hKV) (eo_2f hN hp hkd hnb fc (le2 (by decide))) (pa_2f hx hN hp hc1 hso hco hcn fm (le2 (by decide)))
    · exact rr_cg (nr_c (lo := lo) (i := 2) (c := 3) (c2 := 3) (fs := 1) (a0 := 0) (M := 12) hn hf hg h60 (Nat.le_refl n) hgn (by decide) hKN hKV (by decide) (by decide) (by decide) (by decide) (by decide) (fun t ht => ⟨fun q => by omega, fun _ _ => by omega, fun q => by omega, fun q => by omega, fun q => by omega, fun q => by omega⟩) (by decide) (by decide) (fun t ht k hk => (by
      have := nt_2 t ht k hk 0 (by decide)
      rw [Nat.zero_add, Nat.add_comm 1 t]
      exact this))) (eo_2n hN hp hkd hnb (gt2 (by decide))) (pa_2n hx hN hp hc1 hso hco hcn (gt2 (by decide)))
    · exact rr_cg (nr_c (lo := lo) (i := 2) (c := 4) (c2 := 4) (fs := 1) (a0 := 0) (M := 12) hn hf hg h60 (Nat.le_refl n) hgn (by decide) hKN hKV (by decide) (by decide) (by decide) (by decide) (by decide) (fun t ht => ⟨fun q => by omega, fun _ _ => by omega, fun q => by omega, fun q => by omega, fun q => by omega, fun q => by omega⟩) (by decide) (by decide) (fun t ht k hk => (by
      have := nt_2 t ht k hk 1 (by decide)
      rw [Nat.zero_add, Nat.add_comm 1 t]
      exact this))) (eo_2n hN hp hkd hnb (gt2 (by decide))) (pa_2n hx hN hp hc1 hso hco hcn (gt2 (by decide)))
  · have al := ac_3 c (by omega) hc1.1 ha
    rcases al with rfl | rfl
    · exact rr_cg (fr_p hn hf hg hp0 hKN hKV h hS hx hN hz hp hln hpl hl hlim hso hkd hnb hco hcn (by decide) rfl) (eo_3r hN hp hkd hnb fc) (pa_3r hx hN hp hc1 hso hco hcn fm)
    · exact rr_cg (fp_c hn hf hg hp0 (by decide) (by decide) (by decide) (by decide) hKN hKV) (eo_3f hN hp hkd hnb fc) (pa_3f hx hN hp hc1 hso hco hcn fm)
  · have al := ac_4 c (by omega) hc1.1 ha
    rcases al with rfl | rfl
    · exact rr_cg (fr_p hn hf hg hp0 hKN hKV h hS hx hN hz hp hln hpl hl hlim hso hkd hnb hco hcn (by decide) rfl) (eo_4r hN hp hkd hnb fc) (pa_4r hx hN hp hc1 hso hco hcn fm)
    · exact rr_cg (fp_c hn hf hg hp0 (by decide) (by decide) (by decide) (by decide) hKN hKV) (eo_4f hN hp hkd hnb fc) (pa_4f hx hN hp hc1 hso hco hcn fm)
  · have al := ac_5 c (by omega) hc1.1 ha
    rcases al with rfl | rfl
    · exact rr_cg (nr_c (lo := lo) (i := 5) (c := 3) (c2 := 3) (fs := 1) (a0 := 12) (M := 7) hn hf hg h60 (Nat.le_refl n) hgn (by decide) hKN hKV (by decide) (by decide) (by decide) (by decide) (by decide) (fun t ht => ⟨fun q => by omega, fun _ _ => by omega, fun q => by omega, fun q => by omega, fun q => by omega, fun q => by omega⟩) (by decide) (by decide) (fun t ht k hk => (by
      have := nt_5 t ht k hk 0 (by decide)
      rw [Nat.add_comm 12 t, Nat.add_comm 1 t]
      exact this))) (eo_5n hN hp hkd hnb) (pa_5n hx hN hp hc1 hso hco hcn)
    · exact rr_cg (nr_c (lo := lo) (i := 5) (c := 4) (c2 := 4) (fs := 1) (a0 := 12) (M := 7) hn hf hg h60 (Nat.le_refl n) hgn (by decide) hKN hKV (by decide) (by decide) (by decide) (by decide) (by decide) (fun t ht => ⟨fun q => by omega, fun _ _ => by omega, fun q => by omega, fun q => by omega, fun q => by omega, fun q => by omega⟩) (by decide) (by decide) (fun t ht k hk => (by
      have := nt_5 t ht k hk 1 (by decide)
      rw [Nat.add_comm 12 t, Nat.add_comm 1 t]
      exact this))) (eo_5n hN hp hkd hnb) (pa_5n hx hN hp hc1 hso hco hcn)
  · have al := ac_6 c (by omega) hc1.1 ha
    rcases al with rfl | rfl
    · exact rr_cg (fr_p hn hf hg hp0 hKN hKV h hS hx hN hz hp hln hpl hl hlim hso hkd hnb hco hcn (by decide) rfl) (eo_6r hN hp hkd hnb fc) (pa_6r hx hN hp hc1 hso hco hcn fm)
    · exact rr_cg (fp_c hn hf hg hp0 (by decide) (by decide) (by decide) (by decide) hKN hKV) (eo_6f hN hp hkd hnb fc) (pa_6f hx hN hp hc1 hso hco hcn fm)
  · have al := ac_7 c (by omega) hc1.1 ha
    rcases al with rfl | rfl
    · exact rr_cg (fr_p hn hf hg hp0 hKN hKV h hS hx hN hz hp hln hpl hl hlim hso hkd hnb hco hcn (by decide) rfl) (eo_7r hN hp hkd hnb fc) (pa_7r hx hN hp hc1 hso hco hcn fm)
    · exact rr_cg (fp_c hn hf hg hp0 (by decide) (by decide) (by decide) (by decide) hKN hKV) (eo_7f hN hp hkd hnb fc) (pa_7f hx hN hp hc1 hso hco hcn fm)
  · have al := ac_8 c (by omega) hc1.1 ha
    rcases al with rfl | rfl
    · exact rr_cg (fr_p hn hf hg hp0 hKN hKV h hS hx hN hz hp hln hpl hl hlim hso hkd hnb hco hcn (by decide) rfl) (eo_8r hN hp hkd hnb fc) (pa_8r hx hN hp hc1 hso hco hcn fm)
    · exact rr_cg (fp_c hn hf hg hp0 (by decide) (by decide) (by decide) (by decide) hKN hKV) (eo_8f hN hp hkd hnb fc) (pa_8f hx hN hp hc1 hso hco hcn fm)
  · have al := ac_9 c (by omega) hc1.1 ha
    subst al
    exact rr_cg (nr_c (lo := lo) (i := 9) (c := 1) (c2 := 4) (fs := 0) (a0 := 19) (M := 2) hn hf hg h60 (Nat.le_refl n) hgn (by decide) hKN hKV (by decide) (by decide) (by decide) (by decide) (by decide) (fun t ht => ⟨fun q => by omega, fun _ _ => by omega, fun q => by omega, fun q => by omega, fun q => by omega, fun q => by omega⟩) (by decide) (by decide) (fun t ht k hk => (by
      have := nt_9 t ht k hk
      rw [Nat.add_comm 19 t, Nat.zero_add]
      exact this))) (eo_9n hN hp hkd hnb) (pa_9n hx hN hp hc1 hso hco hcn)
  · have al := ac_10 c (by omega) hc1.1 ha
    rcases al with rfl | rfl
    · exact rr_cg (fr_p hn hf hg hp0 hKN hKV h hS hx hN hz hp hln hpl hl hlim hso hkd hnb hco hcn (by decide) rfl) (eo_10r hN hp hkd hnb fc) (pa_10r hx hN hp hc1 hso hco hcn fm)
    · exact rr_cg (fp_c hn hf hg hp0 (by decide) (by decide) (by decide) (by decide) hKN hKV) (eo_10f hN hp hkd hnb fc) (pa_10f hx hN hp hc1 hso hco hcn fm)
  · have al := ac_11 c (by omega) hc1.1 ha
    rcases al with rfl | rfl
    · exact rr_cg (fr_p hn hf hg hp0 hKN hKV h hS hx hN hz hp hln hpl hl hlim hso hkd hnb hco hcn (by decide) rfl) (eo_11r hN hp hkd hnb fc) (pa_11r hx hN hp hc1 hso hco hcn fm)
    · exact rr_cg (fp_c hn hf hg hp0 (by decide) (by decide) (by decide) (by decide) hKN hKV) (eo_11f hN hp hkd hnb fc) (pa_11f hx hN hp hc1 hso hco hcn fm)
  · exact rr_cg (fp_n hn hf hg hp0 hc1 hKN hKV) (eo_12f hN hp hkd hnb fc) (pa_12f hx hN hp hc1 hso hco hcn fm)
  · have al := ac_13 c (by omega) hc1.1 ha
    rcases al with rfl | rfl | rfl
    · exact rr_cg (of_c hn hf hg hp0 (Nat.le_refl n) hKN hKV (by decide) (by decide)) (eo_13 hN hp hkd hnb) (pa_13 hx hN hp hc1 hso hco hcn)
    · exact rr_cg (of_c hn hf hg hp0 (Nat.le_refl n) hKN hKV (by decide) (by decide)) (eo_13 hN hp hkd hnb) (pa_13 hx hN hp hc1 hso hco hcn)
    · exact rr_cg (of_c hn hf hg hp0 (Nat.le_refl n) hKN hKV (by decide) (by decide)) (eo_13 hN hp hkd hnb) (pa_13 hx hN hp hc1 hso hco hcn)
  · have al := ac_14 c (by omega) hc1.1 ha
    rcases al with rfl | rfl | rfl
    · exact rr_cg (of_c hn hf hg hp0 (Nat.le_refl n) hKN hKV (by decide) (by decide)) (eo_14 hN hp hkd hnb) (pa_14 hx hN hp hc1 hso hco hcn)
    · exact rr_cg (of_c hn hf hg hp0 (Nat.le_refl n) hKN hKV (by decide) (by decide)) (eo_14 hN hp hkd hnb) (pa_14 hx hN hp hc1 hso hco hcn)
    · exact rr_cg (of_c hn hf hg hp0 (Nat.le_refl n) hKN hKV (by decide) (by decide)) (eo_14 hN hp hkd hnb) (pa_14 hx hN hp hc1 hso hco hcn)
theorem pc_c {n p0 N x p c z lim : Nat} {T : Nat → Nat} {f g vals fl od kn kd nb so co cn ar en sz ends : Nat → Int32} {E : Nat → Nat} {gn va : Nat → Int64} {lo dp : Int32} (hgn : R_nam gn) (hn : n ≤ 60) (hf : Tx n T f) (hg : Tx n T g) (hp0 : p0 ≤ n) (hKN : KN z fl od) (hKV : KV fl vals kn va) (h : PV N kd nb (fun j => so (20 * x + j)) (fun j => co (20 * x + j)) (fun j => cn (20 * x + j)) (fun j => ar (20 * x + j)) en E) (hS : SP N (fun j => so (20 * x + j)) (fun j => ar (20 * x + j)) E) (hx : x < 6) (hN : N ≤ 20) (hz : sz x = nI N) (hp : p < N) (hln : lim ≤ N) (hpl : p < lim) (hl : (ar (20 * x + p) = -1 ∧ lim = N) ∨ ∃ a, a < N ∧ ar (20 * x + p) = nI a ∧ lim = E a) (hlim : f_Nest_limit dp ends (nI N) = some (nI lim)) (hs2 : so (20 * x + p) ≠ 2) : RR n z vals fl od kn va (f_TextReader_endOf 60 lo (nI p0) (nI z) vals fl od dp ends (nI n) f (nI N) kd nb (nI p)) (f_SkeletonClockModel_pass (nI n) lo g gn so co cn ar sz kn va (nI x) (nI (20 * x + p)) (nI p0)) := by
  rcases h.1 p hp with a | ⟨a1, -⟩
  · dsimp only at a
    rcases a with ⟨a1, a2, a3, d, d1, d2, a4⟩ | ⟨a1, i, d, i1, d1, d2, a2, a3, a4, a5, a6⟩
    · obtain ⟨b, u, b1, b2, b3, b4⟩ := al_c (lo := lo) (p := p0) hn hf hg (by omega) ⟨d1, d2⟩
      unfold f_TextReader_endOf f_SkeletonClockModel_pass
      rw [(pk_c hN hp kd).1, (pk_c hN hp nb).2, ob_some, ob_some, a2, if_pos rfl, b1, ob_some, a3, a4, b2, ob_some, if_pos (sN (by omega) (by decide)), if_pos (sN (by omega) (by decide)), nI_clamp (by omega), a1, if_pos rfl, a4, b3, ob_some, nI_1]
      rcases b4 with ⟨rfl, b4⟩ | rfl
      · rw [if_neg (by decide), if_neg (by decide)]
        exact ⟨_, _, rfl, rfl, Or.inr ⟨p0 + 1, z, by omega, Nat.le_refl _, rfl, rfl, rfl, fun j _ => rfl, hKN, hKV⟩⟩
      · rw [if_pos rfl, if_pos rfl]
        exact rr_fail
    · exact pc_f hgn hn hf hg hp0 hKN hKV h hS hx hN hz hp hln hpl hl hlim a1 a2 a4 a3 a5 i1 ⟨d1, d2⟩ a6
  · exact absurd a1 hs2
