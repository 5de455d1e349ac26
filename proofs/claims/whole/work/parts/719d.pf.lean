/-! A field piece, on both sides. -/
theorem wp_3 {N p c : Nat} {kd nb v : Nat → Int32} (hN : N ≤ 20) (hp : p < N) (hk : kd p = nI 3) (hb : nb p = nI c) (sz : Int32) (f : Nat → Int32) : f_Printer_writePiece sz f v (nI N) kd nb (nI p) = f_Row_putNumber 200 sz f (v 3) (nI c) := by
  have mv : f_Moment_value v (nI 3) = some (v 3) := mv_c v 3 (by decide)
  unfold f_Printer_writePiece f_Pattern_isName f_SkeletonClock_isYearField
  rw [(pk_c hN hp kd).1, (pk_c hN hp nb).2, hk, hb]
  simp only [ob_some, ↓reduceIte, eq_false (show ¬ nI 3 = (15 : Int32) by decide), eq_false (show ¬ nI 3 = (5 : Int32) by decide), eq_false (show ¬ nI 3 = (9 : Int32) by decide), eq_false (show ¬ nI 3 = (2 : Int32) by decide), eq_false (show ¬ nI 3 = (0 : Int32) by decide), eq_false (show ¬ nI 3 = (1 : Int32) by decide), eq_false (show ¬ nI 3 = (12 : Int32) by decide), eq_false (show ¬ nI 3 = (13 : Int32) by decide), eq_false (show ¬ nI 3 = (14 : Int32) by decide), eq_false (show ¬ (1 : Int32) = 0 by decide), mv, ob_eta]
theorem sh_3 {d s n o : Int} (h : -1000000000000 ≤ d ∧ d ≤ 1000000000000) (hs : 0 ≤ s ∧ s < 86400) (hn : -2147483648 ≤ n ∧ n < 2147483648) (ho : -2147483648 ≤ o ∧ o < 2147483648) {g : Nat → Int64} {c : Nat} {x : Int32} (sz : Int32) (f : Nat → Int32) : f_SkeletonClockModel_show sz (jI d) (iI s) (iI n) (iI o) f g (nI 2) x (nI c) = f_SkeletonClockModel_digits sz f (jI (FV d s n o 3)) (nI c) := by
  have pr : f_SkeletonClockModel_present (jI d) (iI s) (iI n) (iI o) (nI 2) = some (jI (FV d s n o 3)) := pr_m h hs hn ho 2 (by decide)
  unfold f_SkeletonClockModel_show jn_SkeletonClockModel_show_125
  rw [pr, ob_some]
  simp only [↓reduceIte, eq_false (show ¬ nI 2 = (0 : Int32) by decide), eq_false (show ¬ nI 2 = (6 : Int32) by decide), eq_false (show ¬ nI 2 = (1 : Int32) by decide), eq_false (show ¬ nI 2 = (4 : Int32) by decide), eq_false (show ¬ nI 2 = (9 : Int32) by decide), eq_false (show ¬ nI 2 = (12 : Int32) by decide), eq_false (show ¬ nI 2 = (13 : Int32) by decide), ob_eta]
theorem wp_4 {N p c : Nat} {kd nb v : Nat → Int32} (hN : N ≤ 20) (hp : p < N) (hk : kd p = nI 4) (hb : nb p = nI c) (sz : Int32) (f : Nat → Int32) : f_Printer_writePiece sz f v (nI N) kd nb (nI p) = f_Row_putNumber 200 sz f (v 4) (nI c) := by
  have mv : f_Moment_value v (nI 4) = some (v 4) := mv_c v 4 (by decide)
  unfold f_Printer_writePiece f_Pattern_isName f_SkeletonClock_isYearField
  rw [(pk_c hN hp kd).1, (pk_c hN hp nb).2, hk, hb]
  simp only [ob_some, ↓reduceIte, eq_false (show ¬ nI 4 = (15 : Int32) by decide), eq_false (show ¬ nI 4 = (5 : Int32) by decide), eq_false (show ¬ nI 4 = (9 : Int32) by decide), eq_false (show ¬ nI 4 = (2 : Int32) by decide), eq_false (show ¬ nI 4 = (0 : Int32) by decide), eq_false (show ¬ nI 4 = (1 : Int32) by decide), eq_false (show ¬ nI 4 = (12 : Int32) by decide), eq_false (show ¬ nI 4 = (13 : Int32) by decide), eq_false (show ¬ nI 4 = (14 : Int32) by decide), eq_false (show ¬ (1 : Int32) = 0 by decide), mv, ob_eta]
theorem sh_4 {d s n o : Int} (h : -1000000000000 ≤ d ∧ d ≤ 1000000000000) (hs : 0 ≤ s ∧ s < 86400) (hn : -2147483648 ≤ n ∧ n < 2147483648) (ho : -2147483648 ≤ o ∧ o < 2147483648) {g : Nat → Int64} {c : Nat} {x : Int32} (sz : Int32) (f : Nat → Int32) : f_SkeletonClockModel_show sz (jI d) (iI s) (iI n) (iI o) f g (nI 3) x (nI c) = f_SkeletonClockModel_digits sz f (jI (FV d s n o 4)) (nI c) := by
  have pr : f_SkeletonClockModel_present (jI d) (iI s) (iI n) (iI o) (nI 3) = some (jI (FV d s n o 4)) := pr_m h hs hn ho 3 (by decide)
  unfold f_SkeletonClockModel_show jn_SkeletonClockModel_show_125
  rw [pr, ob_some]
  simp only [↓reduceIte, eq_false (show ¬ nI 3 = (0 : Int32) by decide), eq_false (show ¬ nI 3 = (6 : Int32) by decide), eq_false (show ¬ nI 3 = (1 : Int32) by decide), eq_false (show ¬ nI 3 = (4 : Int32) by decide), eq_false (show ¬ nI 3 = (9 : Int32) by decide), eq_false (show ¬ nI 3 = (12 : Int32) by decide), eq_false (show ¬ nI 3 = (13 : Int32) by decide), ob_eta]
theorem wp_6 {N p c : Nat} {kd nb v : Nat → Int32} (hN : N ≤ 20) (hp : p < N) (hk : kd p = nI 6) (hb : nb p = nI c) (sz : Int32) (f : Nat → Int32) : f_Printer_writePiece sz f v (nI N) kd nb (nI p) = f_Row_putNumber 200 sz f (v 6) (nI c) := by
  have mv : f_Moment_value v (nI 6) = some (v 6) := mv_c v 6 (by decide)
  unfold f_Printer_writePiece f_Pattern_isName f_SkeletonClock_isYearField
  rw [(pk_c hN hp kd).1, (pk_c hN hp nb).2, hk, hb]
  simp only [ob_some, ↓reduceIte, eq_false (show ¬ nI 6 = (15 : Int32) by decide), eq_false (show ¬ nI 6 = (5 : Int32) by decide), eq_false (show ¬ nI 6 = (9 : Int32) by decide), eq_false (show ¬ nI 6 = (2 : Int32) by decide), eq_false (show ¬ nI 6 = (0 : Int32) by decide), eq_false (show ¬ nI 6 = (1 : Int32) by decide), eq_false (show ¬ nI 6 = (12 : Int32) by decide), eq_false (show ¬ nI 6 = (13 : Int32) by decide), eq_false (show ¬ nI 6 = (14 : Int32) by decide), eq_false (show ¬ (1 : Int32) = 0 by decide), mv, ob_eta]
theorem sh_6 {d s n o : Int} (h : -1000000000000 ≤ d ∧ d ≤ 1000000000000) (hs : 0 ≤ s ∧ s < 86400) (hn : -2147483648 ≤ n ∧ n < 2147483648) (ho : -2147483648 ≤ o ∧ o < 2147483648) {g : Nat → Int64} {c : Nat} {x : Int32} (sz : Int32) (f : Nat → Int32) : f_SkeletonClockModel_show sz (jI d) (iI s) (iI n) (iI o) f g (nI 5) x (nI c) = f_SkeletonClockModel_digits sz f (jI (FV d s n o 6)) (nI c) := by
  have pr : f_SkeletonClockModel_present (jI d) (iI s) (iI n) (iI o) (nI 5) = some (jI (FV d s n o 6)) := pr_m h hs hn ho 5 (by decide)
  unfold f_SkeletonClockModel_show jn_SkeletonClockModel_show_125
  rw [pr, ob_some]
  simp only [↓reduceIte, eq_false (show ¬ nI 5 = (0 : Int32) by decide), eq_false (show ¬ nI 5 = (6 : Int32) by decide), eq_false (show ¬ nI 5 = (1 : Int32) by decide), eq_false (show ¬ nI 5 = (4 : Int32) by decide), eq_false (show ¬ nI 5 = (9 : Int32) by decide), eq_false (show ¬ nI 5 = (12 : Int32) by decide), eq_false (show ¬ nI 5 = (13 : Int32) by decide), ob_eta]
theorem wp_7 {N p c : Nat} {kd nb v : Nat → Int32} (hN : N ≤ 20) (hp : p < N) (hk : kd p = nI 7) (hb : nb p = nI c) (sz : Int32) (f : Nat → Int32) : f_Printer_writePiece sz f v (nI N) kd nb (nI p) = f_Row_putNumber 200 sz f (v 7) (nI c) := by
  have mv : f_Moment_value v (nI 7) = some (v 7) := mv_c v 7 (by decide)
  unfold f_Printer_writePiece f_Pattern_isName f_SkeletonClock_isYearField
  rw [(pk_c hN hp kd).1, (pk_c hN hp nb).2, hk, hb]
  simp only [ob_some, ↓reduceIte, eq_false (show ¬ nI 7 = (15 : Int32) by decide), eq_false (show ¬ nI 7 = (5 : Int32) by decide), eq_false (show ¬ nI 7 = (9 : Int32) by decide), eq_false (show ¬ nI 7 = (2 : Int32) by decide), eq_false (show ¬ nI 7 = (0 : Int32) by decide), eq_false (show ¬ nI 7 = (1 : Int32) by decide), eq_false (show ¬ nI 7 = (12 : Int32) by decide), eq_false (show ¬ nI 7 = (13 : Int32) by decide), eq_false (show ¬ nI 7 = (14 : Int32) by decide), eq_false (show ¬ (1 : Int32) = 0 by decide), mv, ob_eta]
theorem sh_7 {d s n o : Int} (h : -1000000000000 ≤ d ∧ d ≤ 1000000000000) (hs : 0 ≤ s ∧ s < 86400) (hn : -2147483648 ≤ n ∧ n < 2147483648) (ho : -2147483648 ≤ o ∧ o < 2147483648) {g : Nat → Int64} {c : Nat} {x : Int32} (sz : Int32) (f : Nat → Int32) : f_SkeletonClockModel_show sz (jI d) (iI s) (iI n) (iI o) f g (nI 7) x (nI c) = f_SkeletonClockModel_digits sz f (jI (FV d s n o 7)) (nI c) := by
  have pr : f_SkeletonClockModel_present (jI d) (iI s) (iI n) (iI o) (nI 7) = some (jI (FV d s n o 7)) := pr_m h hs hn ho 7 (by decide)
  unfold f_SkeletonClockModel_show jn_SkeletonClockModel_show_125
  rw [pr, ob_some]
  simp only [↓reduceIte, eq_false (show ¬ nI 7 = (0 : Int32) by decide), eq_false (show ¬ nI 7 = (6 : Int32) by decide), eq_false (show ¬ nI 7 = (1 : Int32) by decide), eq_false (show ¬ nI 7 = (4 : Int32) by decide), eq_false (show ¬ nI 7 = (9 : Int32) by decide), eq_false (show ¬ nI 7 = (12 : Int32) by decide), eq_false (show ¬ nI 7 = (13 : Int32) by decide), ob_eta]
theorem wp_8 {N p c : Nat} {kd nb v : Nat → Int32} (hN : N ≤ 20) (hp : p < N) (hk : kd p = nI 8) (hb : nb p = nI c) (sz : Int32) (f : Nat → Int32) : f_Printer_writePiece sz f v (nI N) kd nb (nI p) = f_Row_putNumber 200 sz f (v 8) (nI c) := by
  have mv : f_Moment_value v (nI 8) = some (v 8) := mv_c v 8 (by decide)
  unfold f_Printer_writePiece f_Pattern_isName f_SkeletonClock_isYearField
  rw [(pk_c hN hp kd).1, (pk_c hN hp nb).2, hk, hb]
  simp only [ob_some, ↓reduceIte, eq_false (show ¬ nI 8 = (15 : Int32) by decide), eq_false (show ¬ nI 8 = (5 : Int32) by decide), eq_false (show ¬ nI 8 = (9 : Int32) by decide), eq_false (show ¬ nI 8 = (2 : Int32) by decide), eq_false (show ¬ nI 8 = (0 : Int32) by decide), eq_false (show ¬ nI 8 = (1 : Int32) by decide), eq_false (show ¬ nI 8 = (12 : Int32) by decide), eq_false (show ¬ nI 8 = (13 : Int32) by decide), eq_false (show ¬ nI 8 = (14 : Int32) by decide), eq_false (show ¬ (1 : Int32) = 0 by decide), mv, ob_eta]
theorem sh_8 {d s n o : Int} (h : -1000000000000 ≤ d ∧ d ≤ 1000000000000) (hs : 0 ≤ s ∧ s < 86400) (hn : -2147483648 ≤ n ∧ n < 2147483648) (ho : -2147483648 ≤ o ∧ o < 2147483648) {g : Nat → Int64} {c : Nat} {x : Int32} (sz : Int32) (f : Nat → Int32) : f_SkeletonClockModel_show sz (jI d) (iI s) (iI n) (iI o) f g (nI 8) x (nI c) = f_SkeletonClockModel_digits sz f (jI (FV d s n o 8)) (nI c) := by
  have pr : f_SkeletonClockModel_present (jI d) (iI s) (iI n) (iI o) (nI 8) = some (jI (FV d s n o 8)) := pr_m h hs hn ho 8 (by decide)
  unfold f_SkeletonClockModel_show jn_SkeletonClockModel_show_125
  rw [pr, ob_some]
  simp only [↓reduceIte, eq_false (show ¬ nI 8 = (0 : Int32) by decide), eq_false (show ¬ nI 8 = (6 : Int32) by decide), eq_false (show ¬ nI 8 = (1 : Int32) by decide), eq_false (show ¬ nI 8 = (4 : Int32) by decide), eq_false (show ¬ nI 8 = (9 : Int32) by decide), eq_false (show ¬ nI 8 = (12 : Int32) by decide), eq_false (show ¬ nI 8 = (13 : Int32) by decide), ob_eta]
theorem wp_10 {N p c : Nat} {kd nb v : Nat → Int32} (hN : N ≤ 20) (hp : p < N) (hk : kd p = nI 10) (hb : nb p = nI c) (sz : Int32) (f : Nat → Int32) : f_Printer_writePiece sz f v (nI N) kd nb (nI p) = f_Row_putNumber 200 sz f (v 10) (nI c) := by
  have mv : f_Moment_value v (nI 10) = some (v 10) := mv_c v 10 (by decide)
  unfold f_Printer_writePiece f_Pattern_isName f_SkeletonClock_isYearField
  rw [(pk_c hN hp kd).1, (pk_c hN hp nb).2, hk, hb]
  simp only [ob_some, ↓reduceIte, eq_false (show ¬ nI 10 = (15 : Int32) by decide), eq_false (show ¬ nI 10 = (5 : Int32) by decide), eq_false (show ¬ nI 10 = (9 : Int32) by decide), eq_false (show ¬ nI 10 = (2 : Int32) by decide), eq_false (show ¬ nI 10 = (0 : Int32) by decide), eq_false (show ¬ nI 10 = (1 : Int32) by decide), eq_false (show ¬ nI 10 = (12 : Int32) by decide), eq_false (show ¬ nI 10 = (13 : Int32) by decide), eq_false (show ¬ nI 10 = (14 : Int32) by decide), eq_false (show ¬ (1 : Int32) = 0 by decide), mv, ob_eta]
theorem sh_10 {d s n o : Int} (h : -1000000000000 ≤ d ∧ d ≤ 1000000000000) (hs : 0 ≤ s ∧ s < 86400) (hn : -2147483648 ≤ n ∧ n < 2147483648) (ho : -2147483648 ≤ o ∧ o < 2147483648) {g : Nat → Int64} {c : Nat} {x : Int32} (sz : Int32) (f : Nat → Int32) : f_SkeletonClockModel_show sz (jI d) (iI s) (iI n) (iI o) f g (nI 10) x (nI c) = f_SkeletonClockModel_digits sz f (jI (FV d s n o 10)) (nI c) := by
  have pr : f_SkeletonClockModel_present (jI d) (iI s) (iI n) (iI o) (nI 10) = some (jI (FV d s n o 10)) := pr_m h hs hn ho 10 (by decide)
  unfold f_SkeletonClockModel_show jn_SkeletonClockModel_show_125
  rw [pr, ob_some]
  simp only [↓reduceIte, eq_false (show ¬ nI 10 = (0 : Int32) by decide), eq_false (show ¬ nI 10 = (6 : Int32) by decide), eq_false (show ¬ nI 10 = (1 : Int32) by decide), eq_false (show ¬ nI 10 = (4 : Int32) by decide), eq_false (show ¬ nI 10 = (9 : Int32) by decide), eq_false (show ¬ nI 10 = (12 : Int32) by decide), eq_false (show ¬ nI 10 = (13 : Int32) by decide), ob_eta]
theorem wp_11 {N p c : Nat} {kd nb v : Nat → Int32} (hN : N ≤ 20) (hp : p < N) (hk : kd p = nI 11) (hb : nb p = nI c) (sz : Int32) (f : Nat → Int32) : f_Printer_writePiece sz f v (nI N) kd nb (nI p) = f_Row_putNumber 200 sz f (v 11) (nI c) := by
  have mv : f_Moment_value v (nI 11) = some (v 11) := mv_c v 11 (by decide)
  unfold f_Printer_writePiece f_Pattern_isName f_SkeletonClock_isYearField
  rw [(pk_c hN hp kd).1, (pk_c hN hp nb).2, hk, hb]
  simp only [ob_some, ↓reduceIte, eq_false (show ¬ nI 11 = (15 : Int32) by decide), eq_false (show ¬ nI 11 = (5 : Int32) by decide), eq_false (show ¬ nI 11 = (9 : Int32) by decide), eq_false (show ¬ nI 11 = (2 : Int32) by decide), eq_false (show ¬ nI 11 = (0 : Int32) by decide), eq_false (show ¬ nI 11 = (1 : Int32) by decide), eq_false (show ¬ nI 11 = (12 : Int32) by decide), eq_false (show ¬ nI 11 = (13 : Int32) by decide), eq_false (show ¬ nI 11 = (14 : Int32) by decide), eq_false (show ¬ (1 : Int32) = 0 by decide), mv, ob_eta]
theorem sh_11 {d s n o : Int} (h : -1000000000000 ≤ d ∧ d ≤ 1000000000000) (hs : 0 ≤ s ∧ s < 86400) (hn : -2147483648 ≤ n ∧ n < 2147483648) (ho : -2147483648 ≤ o ∧ o < 2147483648) {g : Nat → Int64} {c : Nat} {x : Int32} (sz : Int32) (f : Nat → Int32) : f_SkeletonClockModel_show sz (jI d) (iI s) (iI n) (iI o) f g (nI 11) x (nI c) = f_SkeletonClockModel_digits sz f (jI (FV d s n o 11)) (nI c) := by
  have pr : f_SkeletonClockModel_present (jI d) (iI s) (iI n) (iI o) (nI 11) = some (jI (FV d s n o 11)) := pr_m h hs hn ho 11 (by decide)
  unfold f_SkeletonClockModel_show jn_SkeletonClockModel_show_125
  rw [pr, ob_some]
  simp only [↓reduceIte, eq_false (show ¬ nI 11 = (0 : Int32) by decide), eq_false (show ¬ nI 11 = (6 : Int32) by decide), eq_false (show ¬ nI 11 = (1 : Int32) by decide), eq_false (show ¬ nI 11 = (4 : Int32) by decide), eq_false (show ¬ nI 11 = (9 : Int32) by decide), eq_false (show ¬ nI 11 = (12 : Int32) by decide), eq_false (show ¬ nI 11 = (13 : Int32) by decide), ob_eta]
theorem wp_2n {N p c : Nat} {kd nb v : Nat → Int32} (hN : N ≤ 20) (hp : p < N) (hk : kd p = nI 2) (hb : nb p = nI c) (h2 : nI c ≤ (2 : Int32)) (sz : Int32) (f : Nat → Int32) : f_Printer_writePiece sz f v (nI N) kd nb (nI p) = f_Row_putNumber 200 sz f (v 2) (nI c) := by
  have mv : f_Moment_value v (nI 2) = some (v 2) := mv_c v 2 (by decide)
  unfold f_Printer_writePiece f_Pattern_isName f_SkeletonClock_isYearField
  rw [(pk_c hN hp kd).1, (pk_c hN hp nb).2, hk, hb]
  simp only [ob_some, ↓reduceIte, eq_false (show ¬ nI 2 = (15 : Int32) by decide), eq_false (show ¬ nI 2 = (5 : Int32) by decide), eq_false (show ¬ nI 2 = (9 : Int32) by decide), eq_true (show nI 2 = (2 : Int32) by decide), eq_false (show ¬ nI 2 = (0 : Int32) by decide), eq_false (show ¬ nI 2 = (1 : Int32) by decide), eq_false (show ¬ nI 2 = (12 : Int32) by decide), eq_false (show ¬ nI 2 = (13 : Int32) by decide), eq_false (show ¬ nI 2 = (14 : Int32) by decide), eq_false (show ¬ (1 : Int32) = 0 by decide), mv, ob_eta, eq_true h2]
theorem sh_2n {d s n o : Int} (h : -1000000000000 ≤ d ∧ d ≤ 1000000000000) (hs : 0 ≤ s ∧ s < 86400) (hn : -2147483648 ≤ n ∧ n < 2147483648) (ho : -2147483648 ≤ o ∧ o < 2147483648) {g : Nat → Int64} {c : Nat} {x : Int32} (h2 : nI c ≤ (2 : Int32)) (sz : Int32) (f : Nat → Int32) : f_SkeletonClockModel_show sz (jI d) (iI s) (iI n) (iI o) f g (nI 1) x (nI c) = f_SkeletonClockModel_digits sz f (jI (FV d s n o 2)) (nI c) := by
  have pr : f_SkeletonClockModel_present (jI d) (iI s) (iI n) (iI o) (nI 1) = some (jI (FV d s n o 2)) := pr_m h hs hn ho 1 (by decide)
  unfold f_SkeletonClockModel_show jn_SkeletonClockModel_show_125
  rw [pr, ob_some]
  simp only [↓reduceIte, eq_false (show ¬ nI 1 = (0 : Int32) by decide), eq_false (show ¬ nI 1 = (6 : Int32) by decide), eq_true (show nI 1 = (1 : Int32) by decide), eq_false (show ¬ nI 1 = (4 : Int32) by decide), eq_false (show ¬ nI 1 = (9 : Int32) by decide), eq_false (show ¬ nI 1 = (12 : Int32) by decide), eq_false (show ¬ nI 1 = (13 : Int32) by decide), ob_eta, eq_true h2]
theorem wp_2s {N p c : Nat} {kd nb v : Nat → Int32} (hN : N ≤ 20) (hp : p < N) (hk : kd p = nI 2) (hb : nb p = nI c) (h2 : ¬ nI c ≤ (2 : Int32)) (sz : Int32) (f : Nat → Int32) : f_Printer_writePiece sz f v (nI N) kd nb (nI p) = f_Printer_writeName sz f (nI 2) (nI c) (v 2) := by
  have mv : f_Moment_value v (nI 2) = some (v 2) := mv_c v 2 (by decide)
  unfold f_Printer_writePiece f_Pattern_isName f_SkeletonClock_isYearField
  rw [(pk_c hN hp kd).1, (pk_c hN hp nb).2, hk, hb]
  simp only [ob_some, ↓reduceIte, eq_false (show ¬ nI 2 = (15 : Int32) by decide), eq_false (show ¬ nI 2 = (5 : Int32) by decide), eq_false (show ¬ nI 2 = (9 : Int32) by decide), eq_true (show nI 2 = (2 : Int32) by decide), eq_false (show ¬ nI 2 = (0 : Int32) by decide), eq_false (show ¬ nI 2 = (1 : Int32) by decide), eq_false (show ¬ nI 2 = (12 : Int32) by decide), eq_false (show ¬ nI 2 = (13 : Int32) by decide), eq_false (show ¬ nI 2 = (14 : Int32) by decide), eq_false (show ¬ (1 : Int32) = 0 by decide), mv, ob_eta, eq_false h2]
theorem sh_2s {d s n o : Int} (h : -1000000000000 ≤ d ∧ d ≤ 1000000000000) (hs : 0 ≤ s ∧ s < 86400) (hn : -2147483648 ≤ n ∧ n < 2147483648) (ho : -2147483648 ≤ o ∧ o < 2147483648) {g : Nat → Int64} {c : Nat} {x : Int32} (h2 : ¬ nI c ≤ (2 : Int32)) (sz : Int32) (f : Nat → Int32) : f_SkeletonClockModel_show sz (jI d) (iI s) (iI n) (iI o) f g (nI 1) x (nI c) = f_SkeletonClockModel_spell sz f g (Int64.toInt32 (jI (FV d s n o 2)) - 1) (nI c) := by
  have pr : f_SkeletonClockModel_present (jI d) (iI s) (iI n) (iI o) (nI 1) = some (jI (FV d s n o 2)) := pr_m h hs hn ho 1 (by decide)
  unfold f_SkeletonClockModel_show jn_SkeletonClockModel_show_125
  rw [pr, ob_some]
  simp only [↓reduceIte, eq_false (show ¬ nI 1 = (0 : Int32) by decide), eq_false (show ¬ nI 1 = (6 : Int32) by decide), eq_true (show nI 1 = (1 : Int32) by decide), eq_false (show ¬ nI 1 = (4 : Int32) by decide), eq_false (show ¬ nI 1 = (9 : Int32) by decide), eq_false (show ¬ nI 1 = (12 : Int32) by decide), eq_false (show ¬ nI 1 = (13 : Int32) by decide), ob_eta, eq_false h2]
theorem wp_5 {N p c : Nat} {kd nb v : Nat → Int32} (hN : N ≤ 20) (hp : p < N) (hk : kd p = nI 5) (hb : nb p = nI c) (sz : Int32) (f : Nat → Int32) : f_Printer_writePiece sz f v (nI N) kd nb (nI p) = f_Printer_writeName sz f (nI 5) (nI c) (v 5) := by
  have mv : f_Moment_value v (nI 5) = some (v 5) := mv_c v 5 (by decide)
  unfold f_Printer_writePiece f_Pattern_isName f_SkeletonClock_isYearField
  rw [(pk_c hN hp kd).1, (pk_c hN hp nb).2, hk, hb]
  simp only [ob_some, ↓reduceIte, eq_false (show ¬ nI 5 = (15 : Int32) by decide), eq_true (show nI 5 = (5 : Int32) by decide), eq_false (show ¬ nI 5 = (9 : Int32) by decide), eq_false (show ¬ nI 5 = (2 : Int32) by decide), eq_false (show ¬ nI 5 = (0 : Int32) by decide), eq_false (show ¬ nI 5 = (1 : Int32) by decide), eq_false (show ¬ nI 5 = (12 : Int32) by decide), eq_false (show ¬ nI 5 = (13 : Int32) by decide), eq_false (show ¬ nI 5 = (14 : Int32) by decide), eq_false (show ¬ (1 : Int32) = 0 by decide), mv, ob_eta]
theorem wp_9 {N p c : Nat} {kd nb v : Nat → Int32} (hN : N ≤ 20) (hp : p < N) (hk : kd p = nI 9) (hb : nb p = nI c) (sz : Int32) (f : Nat → Int32) : f_Printer_writePiece sz f v (nI N) kd nb (nI p) = f_Printer_writeName sz f (nI 9) (nI c) (v 9) := by
  have mv : f_Moment_value v (nI 9) = some (v 9) := mv_c v 9 (by decide)
  unfold f_Printer_writePiece f_Pattern_isName f_SkeletonClock_isYearField
  rw [(pk_c hN hp kd).1, (pk_c hN hp nb).2, hk, hb]
  simp only [ob_some, ↓reduceIte, eq_false (show ¬ nI 9 = (15 : Int32) by decide), eq_false (show ¬ nI 9 = (5 : Int32) by decide), eq_true (show nI 9 = (9 : Int32) by decide), eq_false (show ¬ nI 9 = (2 : Int32) by decide), eq_false (show ¬ nI 9 = (0 : Int32) by decide), eq_false (show ¬ nI 9 = (1 : Int32) by decide), eq_false (show ¬ nI 9 = (12 : Int32) by decide), eq_false (show ¬ nI 9 = (13 : Int32) by decide), eq_false (show ¬ nI 9 = (14 : Int32) by decide), eq_false (show ¬ (1 : Int32) = 0 by decide), mv, ob_eta]
theorem sh_5 {d s n o : Int} (h : -1000000000000 ≤ d ∧ d ≤ 1000000000000) (hs : 0 ≤ s ∧ s < 86400) (hn : -2147483648 ≤ n ∧ n < 2147483648) (ho : -2147483648 ≤ o ∧ o < 2147483648) {g : Nat → Int64} {c : Nat} {x : Int32} (sz : Int32) (f : Nat → Int32) : f_SkeletonClockModel_show sz (jI d) (iI s) (iI n) (iI o) f g (nI 4) x (nI c) = f_SkeletonClockModel_spell sz f g (Int64.toInt32 (jI (FV d s n o 5)) + 11) (nI c) := by
  have pr : f_SkeletonClockModel_present (jI d) (iI s) (iI n) (iI o) (nI 4) = some (jI (FV d s n o 5)) := pr_m h hs hn ho 4 (by decide)
  unfold f_SkeletonClockModel_show jn_SkeletonClockModel_show_125
  rw [pr, ob_some]
  simp only [↓reduceIte, eq_false (show ¬ nI 4 = (0 : Int32) by decide), eq_false (show ¬ nI 4 = (6 : Int32) by decide), eq_false (show ¬ nI 4 = (1 : Int32) by decide), eq_true (show nI 4 = (4 : Int32) by decide), eq_false (show ¬ nI 4 = (9 : Int32) by decide), eq_false (show ¬ nI 4 = (12 : Int32) by decide), eq_false (show ¬ nI 4 = (13 : Int32) by decide), ob_eta]
theorem sh_9 {d s n o : Int} (h : -1000000000000 ≤ d ∧ d ≤ 1000000000000) (hs : 0 ≤ s ∧ s < 86400) (hn : -2147483648 ≤ n ∧ n < 2147483648) (ho : -2147483648 ≤ o ∧ o < 2147483648) {g : Nat → Int64} {c : Nat} {x : Int32} (sz : Int32) (f : Nat → Int32) : f_SkeletonClockModel_show sz (jI d) (iI s) (iI n) (iI o) f g (nI 9) x (nI c) = f_SkeletonClockModel_spell sz f g (Int64.toInt32 (jI (FV d s n o 9)) + 19) 4 := by
  have pr : f_SkeletonClockModel_present (jI d) (iI s) (iI n) (iI o) (nI 9) = some (jI (FV d s n o 9)) := pr_m h hs hn ho 9 (by decide)
  unfold f_SkeletonClockModel_show jn_SkeletonClockModel_show_125
  rw [pr, ob_some]
  simp only [↓reduceIte, eq_false (show ¬ nI 9 = (0 : Int32) by decide), eq_false (show ¬ nI 9 = (6 : Int32) by decide), eq_false (show ¬ nI 9 = (1 : Int32) by decide), eq_false (show ¬ nI 9 = (4 : Int32) by decide), eq_true (show nI 9 = (9 : Int32) by decide), eq_false (show ¬ nI 9 = (12 : Int32) by decide), eq_false (show ¬ nI 9 = (13 : Int32) by decide), ob_eta]
theorem wp_0 {N p c : Nat} {kd nb v : Nat → Int32} (hN : N ≤ 20) (hp : p < N) (hk : kd p = nI 0) (hb : nb p = nI c) (sz : Int32) (f : Nat → Int32) : f_Printer_writePiece sz f v (nI N) kd nb (nI p) = f_Printer_writeYear sz f (v 0) (nI c) := by
  have mv : f_Moment_value v (nI 0) = some (v 0) := mv_c v 0 (by decide)
  unfold f_Printer_writePiece f_Pattern_isName f_SkeletonClock_isYearField
  rw [(pk_c hN hp kd).1, (pk_c hN hp nb).2, hk, hb]
  simp only [ob_some, ↓reduceIte, eq_false (show ¬ nI 0 = (15 : Int32) by decide), eq_false (show ¬ nI 0 = (5 : Int32) by decide), eq_false (show ¬ nI 0 = (9 : Int32) by decide), eq_false (show ¬ nI 0 = (2 : Int32) by decide), eq_true (show nI 0 = (0 : Int32) by decide), eq_false (show ¬ nI 0 = (1 : Int32) by decide), eq_false (show ¬ nI 0 = (12 : Int32) by decide), eq_false (show ¬ nI 0 = (13 : Int32) by decide), eq_false (show ¬ nI 0 = (14 : Int32) by decide), eq_false (show ¬ (1 : Int32) = 0 by decide), mv, ob_eta]
theorem sh_0 {d s n o : Int} (h : -1000000000000 ≤ d ∧ d ≤ 1000000000000) (hs : 0 ≤ s ∧ s < 86400) (hn : -2147483648 ≤ n ∧ n < 2147483648) (ho : -2147483648 ≤ o ∧ o < 2147483648) {g : Nat → Int64} {c : Nat} {x : Int32} (sz : Int32) (f : Nat → Int32) : f_SkeletonClockModel_show sz (jI d) (iI s) (iI n) (iI o) f g (nI 0) x (nI c) = jn_SkeletonClockModel_show_17 sz (jI d) (iI s) (iI n) (iI o) f g (nI c) (jI (FV d s n o 0)) := by
  have pr : f_SkeletonClockModel_present (jI d) (iI s) (iI n) (iI o) (nI 0) = some (jI (FV d s n o 0)) := pr_m h hs hn ho 0 (by decide)
  unfold f_SkeletonClockModel_show
  rw [pr, ob_some]
  simp only [↓reduceIte, eq_true (show nI 0 = (0 : Int32) by decide), eq_false (show ¬ nI 0 = (6 : Int32) by decide), eq_false (show ¬ nI 0 = (1 : Int32) by decide), eq_false (show ¬ nI 0 = (4 : Int32) by decide), eq_false (show ¬ nI 0 = (9 : Int32) by decide), eq_false (show ¬ nI 0 = (12 : Int32) by decide), eq_false (show ¬ nI 0 = (13 : Int32) by decide), ob_eta]
theorem wp_1 {N p c : Nat} {kd nb v : Nat → Int32} (hN : N ≤ 20) (hp : p < N) (hk : kd p = nI 1) (hb : nb p = nI c) (sz : Int32) (f : Nat → Int32) : f_Printer_writePiece sz f v (nI N) kd nb (nI p) = f_Printer_writeYear sz f (v 1) (nI c) := by
  have mv : f_Moment_value v (nI 1) = some (v 1) := mv_c v 1 (by decide)
  unfold f_Printer_writePiece f_Pattern_isName f_SkeletonClock_isYearField
  rw [(pk_c hN hp kd).1, (pk_c hN hp nb).2, hk, hb]
  simp only [ob_some, ↓reduceIte, eq_false (show ¬ nI 1 = (15 : Int32) by decide), eq_false (show ¬ nI 1 = (5 : Int32) by decide), eq_false (show ¬ nI 1 = (9 : Int32) by decide), eq_false (show ¬ nI 1 = (2 : Int32) by decide), eq_false (show ¬ nI 1 = (0 : Int32) by decide), eq_true (show nI 1 = (1 : Int32) by decide), eq_false (show ¬ nI 1 = (12 : Int32) by decide), eq_false (show ¬ nI 1 = (13 : Int32) by decide), eq_false (show ¬ nI 1 = (14 : Int32) by decide), eq_false (show ¬ (1 : Int32) = 0 by decide), mv, ob_eta]
theorem sh_1 {d s n o : Int} (h : -1000000000000 ≤ d ∧ d ≤ 1000000000000) (hs : 0 ≤ s ∧ s < 86400) (hn : -2147483648 ≤ n ∧ n < 2147483648) (ho : -2147483648 ≤ o ∧ o < 2147483648) {g : Nat → Int64} {c : Nat} {x : Int32} (sz : Int32) (f : Nat → Int32) : f_SkeletonClockModel_show sz (jI d) (iI s) (iI n) (iI o) f g (nI 6) x (nI c) = jn_SkeletonClockModel_show_17 sz (jI d) (iI s) (iI n) (iI o) f g (nI c) (jI (FV d s n o 1)) := by
  have pr : f_SkeletonClockModel_present (jI d) (iI s) (iI n) (iI o) (nI 6) = some (jI (FV d s n o 1)) := pr_m h hs hn ho 6 (by decide)
  unfold f_SkeletonClockModel_show
  rw [pr, ob_some]
  simp only [↓reduceIte, eq_false (show ¬ nI 6 = (0 : Int32) by decide), eq_true (show nI 6 = (6 : Int32) by decide), eq_false (show ¬ nI 6 = (1 : Int32) by decide), eq_false (show ¬ nI 6 = (4 : Int32) by decide), eq_false (show ¬ nI 6 = (9 : Int32) by decide), eq_false (show ¬ nI 6 = (12 : Int32) by decide), eq_false (show ¬ nI 6 = (13 : Int32) by decide), ob_eta]
theorem wp_12 {N p c : Nat} {kd nb v : Nat → Int32} (hN : N ≤ 20) (hp : p < N) (hk : kd p = nI 12) (hb : nb p = nI c) (sz : Int32) (f : Nat → Int32) : f_Printer_writePiece sz f v (nI N) kd nb (nI p) = f_Printer_writeNano sz f (v 12) (nI c) := by
  have mv : f_Moment_value v ((12 : Int32)) = some (v 12) := mv_c v 12 (by decide)
  unfold f_Printer_writePiece f_Pattern_isName f_SkeletonClock_isYearField
  rw [(pk_c hN hp kd).1, (pk_c hN hp nb).2, hk, hb]
  simp only [ob_some, ↓reduceIte, eq_false (show ¬ nI 12 = (15 : Int32) by decide), eq_false (show ¬ nI 12 = (5 : Int32) by decide), eq_false (show ¬ nI 12 = (9 : Int32) by decide), eq_false (show ¬ nI 12 = (2 : Int32) by decide), eq_false (show ¬ nI 12 = (0 : Int32) by decide), eq_false (show ¬ nI 12 = (1 : Int32) by decide), eq_true (show nI 12 = (12 : Int32) by decide), eq_false (show ¬ nI 12 = (13 : Int32) by decide), eq_false (show ¬ nI 12 = (14 : Int32) by decide), eq_false (show ¬ (1 : Int32) = 0 by decide), mv, ob_eta]
theorem sh_12 {d s n o : Int} (h : -1000000000000 ≤ d ∧ d ≤ 1000000000000) (hs : 0 ≤ s ∧ s < 86400) (hn : -2147483648 ≤ n ∧ n < 2147483648) (ho : -2147483648 ≤ o ∧ o < 2147483648) {g : Nat → Int64} {c : Nat} {x : Int32} (sz : Int32) (f : Nat → Int32) : f_SkeletonClockModel_show sz (jI d) (iI s) (iI n) (iI o) f g (nI 12) x (nI c) = (lp_SkeletonClockModel_show_178 (nI c) (jI (FV d s n o 12)) FU (100000000 : Int64) (0 : Int32) sz f).bind fun u34 => some (u34.2.2.1, u34.2.2.2) := by
  have pr : f_SkeletonClockModel_present (jI d) (iI s) (iI n) (iI o) (nI 12) = some (jI (FV d s n o 12)) := pr_m h hs hn ho 12 (by decide)
  unfold f_SkeletonClockModel_show jn_SkeletonClockModel_show_125
  rw [pr, ob_some]
  simp only [↓reduceIte, eq_false (show ¬ nI 12 = (0 : Int32) by decide), eq_false (show ¬ nI 12 = (6 : Int32) by decide), eq_false (show ¬ nI 12 = (1 : Int32) by decide), eq_false (show ¬ nI 12 = (4 : Int32) by decide), eq_false (show ¬ nI 12 = (9 : Int32) by decide), eq_true (show nI 12 = (12 : Int32) by decide), eq_false (show ¬ nI 12 = (13 : Int32) by decide), ob_eta]
theorem wp_13 {N p c : Nat} {kd nb v : Nat → Int32} (hN : N ≤ 20) (hp : p < N) (hk : kd p = nI 13) (hb : nb p = nI c) (sz : Int32) (f : Nat → Int32) : f_Printer_writePiece sz f v (nI N) kd nb (nI p) = f_Printer_writeOffset sz f (v 13) (nI 13) (nI c) := by
  have mv : f_Moment_value v ((13 : Int32)) = some (v 13) := mv_c v 13 (by decide)
  unfold f_Printer_writePiece f_Pattern_isName f_SkeletonClock_isYearField
  rw [(pk_c hN hp kd).1, (pk_c hN hp nb).2, hk, hb]
  simp only [ob_some, ↓reduceIte, eq_false (show ¬ nI 13 = (15 : Int32) by decide), eq_false (show ¬ nI 13 = (5 : Int32) by decide), eq_false (show ¬ nI 13 = (9 : Int32) by decide), eq_false (show ¬ nI 13 = (2 : Int32) by decide), eq_false (show ¬ nI 13 = (0 : Int32) by decide), eq_false (show ¬ nI 13 = (1 : Int32) by decide), eq_false (show ¬ nI 13 = (12 : Int32) by decide), eq_true (show nI 13 = (13 : Int32) by decide), eq_false (show ¬ nI 13 = (14 : Int32) by decide), eq_false (show ¬ (1 : Int32) = 0 by decide), mv, ob_eta]
theorem sh_13 {d s n o : Int} (h : -1000000000000 ≤ d ∧ d ≤ 1000000000000) (hs : 0 ≤ s ∧ s < 86400) (hn : -2147483648 ≤ n ∧ n < 2147483648) (ho : -2147483648 ≤ o ∧ o < 2147483648) {g : Nat → Int64} {c : Nat} {x : Int32} (sz : Int32) (f : Nat → Int32) : f_SkeletonClockModel_show sz (jI d) (iI s) (iI n) (iI o) f g (nI 13) x (nI c) = f_SkeletonClockModel_offset sz f (jI (FV d s n o 13)) x (nI c) := by
  have pr : f_SkeletonClockModel_present (jI d) (iI s) (iI n) (iI o) (nI 13) = some (jI (FV d s n o 13)) := pr_m h hs hn ho 13 (by decide)
  unfold f_SkeletonClockModel_show jn_SkeletonClockModel_show_125
  rw [pr, ob_some]
  simp only [↓reduceIte, eq_false (show ¬ nI 13 = (0 : Int32) by decide), eq_false (show ¬ nI 13 = (6 : Int32) by decide), eq_false (show ¬ nI 13 = (1 : Int32) by decide), eq_false (show ¬ nI 13 = (4 : Int32) by decide), eq_false (show ¬ nI 13 = (9 : Int32) by decide), eq_false (show ¬ nI 13 = (12 : Int32) by decide), eq_true (show nI 13 = (13 : Int32) by decide), ob_eta]
theorem wp_14 {N p c : Nat} {kd nb v : Nat → Int32} (hN : N ≤ 20) (hp : p < N) (hk : kd p = nI 14) (hb : nb p = nI c) (sz : Int32) (f : Nat → Int32) : f_Printer_writePiece sz f v (nI N) kd nb (nI p) = f_Printer_writeOffset sz f (v 13) (nI 14) (nI c) := by
  have mv : f_Moment_value v ((13 : Int32)) = some (v 13) := mv_c v 13 (by decide)
  unfold f_Printer_writePiece f_Pattern_isName f_SkeletonClock_isYearField
  rw [(pk_c hN hp kd).1, (pk_c hN hp nb).2, hk, hb]
  simp only [ob_some, ↓reduceIte, eq_false (show ¬ nI 14 = (15 : Int32) by decide), eq_false (show ¬ nI 14 = (5 : Int32) by decide), eq_false (show ¬ nI 14 = (9 : Int32) by decide), eq_false (show ¬ nI 14 = (2 : Int32) by decide), eq_false (show ¬ nI 14 = (0 : Int32) by decide), eq_false (show ¬ nI 14 = (1 : Int32) by decide), eq_false (show ¬ nI 14 = (12 : Int32) by decide), eq_false (show ¬ nI 14 = (13 : Int32) by decide), eq_true (show nI 14 = (14 : Int32) by decide), eq_false (show ¬ (1 : Int32) = 0 by decide), mv, ob_eta]
theorem sh_14 {d s n o : Int} (h : -1000000000000 ≤ d ∧ d ≤ 1000000000000) (hs : 0 ≤ s ∧ s < 86400) (hn : -2147483648 ≤ n ∧ n < 2147483648) (ho : -2147483648 ≤ o ∧ o < 2147483648) {g : Nat → Int64} {c : Nat} {x : Int32} (sz : Int32) (f : Nat → Int32) : f_SkeletonClockModel_show sz (jI d) (iI s) (iI n) (iI o) f g (nI 13) x (nI c) = f_SkeletonClockModel_offset sz f (jI (FV d s n o 13)) x (nI c) := by
  have pr : f_SkeletonClockModel_present (jI d) (iI s) (iI n) (iI o) (nI 13) = some (jI (FV d s n o 13)) := pr_m h hs hn ho 13 (by decide)
  unfold f_SkeletonClockModel_show jn_SkeletonClockModel_show_125
  rw [pr, ob_some]
  simp only [↓reduceIte, eq_false (show ¬ nI 13 = (0 : Int32) by decide), eq_false (show ¬ nI 13 = (6 : Int32) by decide), eq_false (show ¬ nI 13 = (1 : Int32) by decide), eq_false (show ¬ nI 13 = (4 : Int32) by decide), eq_false (show ¬ nI 13 = (9 : Int32) by decide), eq_false (show ¬ nI 13 = (12 : Int32) by decide), eq_true (show nI 13 = (13 : Int32) by decide), ob_eta]
theorem ac_0 : ∀ c, c < 10 → 1 ≤ c → (tb_allowed 0 >>> (nI c &&& 31)) &&& 1 = 1 → c = 1 ∨ c = 2 ∨ c = 4 := by decide +kernel
theorem ac_1 : ∀ c, c < 10 → 1 ≤ c → (tb_allowed 1 >>> (nI c &&& 31)) &&& 1 = 1 → c = 1 ∨ c = 2 ∨ c = 4 := by decide +kernel
theorem ac_2 : ∀ c, c < 10 → 1 ≤ c → (tb_allowed 2 >>> (nI c &&& 31)) &&& 1 = 1 → c = 1 ∨ c = 2 ∨ c = 3 ∨ c = 4 := by decide +kernel
theorem ac_3 : ∀ c, c < 10 → 1 ≤ c → (tb_allowed 3 >>> (nI c &&& 31)) &&& 1 = 1 → c = 1 ∨ c = 2 := by decide +kernel
theorem ac_4 : ∀ c, c < 10 → 1 ≤ c → (tb_allowed 4 >>> (nI c &&& 31)) &&& 1 = 1 → c = 1 ∨ c = 3 := by decide +kernel
theorem ac_5 : ∀ c, c < 10 → 1 ≤ c → (tb_allowed 5 >>> (nI c &&& 31)) &&& 1 = 1 → c = 3 ∨ c = 4 := by decide +kernel
theorem ac_6 : ∀ c, c < 10 → 1 ≤ c → (tb_allowed 6 >>> (nI c &&& 31)) &&& 1 = 1 → c = 1 ∨ c = 2 := by decide +kernel
theorem ac_7 : ∀ c, c < 10 → 1 ≤ c → (tb_allowed 7 >>> (nI c &&& 31)) &&& 1 = 1 → c = 1 ∨ c = 2 := by decide +kernel
theorem ac_8 : ∀ c, c < 10 → 1 ≤ c → (tb_allowed 8 >>> (nI c &&& 31)) &&& 1 = 1 → c = 1 ∨ c = 2 := by decide +kernel
theorem ac_9 : ∀ c, c < 10 → 1 ≤ c → (tb_allowed 9 >>> (nI c &&& 31)) &&& 1 = 1 → c = 1 := by decide +kernel
theorem ac_10 : ∀ c, c < 10 → 1 ≤ c → (tb_allowed 10 >>> (nI c &&& 31)) &&& 1 = 1 → c = 1 ∨ c = 2 := by decide +kernel
theorem ac_11 : ∀ c, c < 10 → 1 ≤ c → (tb_allowed 11 >>> (nI c &&& 31)) &&& 1 = 1 → c = 1 ∨ c = 2 := by decide +kernel
theorem ac_13 : ∀ c, c < 10 → 1 ≤ c → (tb_allowed 13 >>> (nI c &&& 31)) &&& 1 = 1 → c = 1 ∨ c = 2 ∨ c = 3 := by decide +kernel
theorem ac_14 : ∀ c, c < 10 → 1 ≤ c → (tb_allowed 14 >>> (nI c &&& 31)) &&& 1 = 1 → c = 1 ∨ c = 2 ∨ c = 3 := by decide +kernel
theorem ww_cg {a b a' b' : Int32 → (Nat → Int32) → Option (Int32 × (Nat → Int32))} (h : WW a b) (e1 : ∀ sz f, a' sz f = a sz f) (e2 : ∀ sz f, b' sz f = b sz f) : WW a' b' := by
  have f1 : a' = a := funext fun sz => funext fun f => e1 sz f
  have f2 : b' = b := funext fun sz => funext fun f => e2 sz f
  rw [f1, f2]
  exact h
theorem nat_of {y : Int} (h : 0 ≤ y) : ∃ u : Nat, y = (u : Int) := ⟨y.toNat, by omega⟩
theorem pf_c {d s n o : Int} {v : Nat → Int32} {g : Nat → Int64} (hs : 0 ≤ s ∧ s < 86400) (hn : 0 ≤ n ∧ n ≤ 999999999) (ho : -1080 ≤ o ∧ o ≤ 1080) (hy : -999999999 ≤ yr d ∧ yr d ≤ 999999999) (hv : ∀ k, k < 14 → v k = iI (FV d s n o k)) (hg : R_nam g) {i c N p : Nat} {kd nb : Nat → Int32} (hi : i < 15) (hc : 1 ≤ c ∧ c ≤ 9) (ha : (tb_allowed i >>> (nI c &&& 31)) &&& 1 = 1) (hN : N ≤ 20) (hp : p < N) (hk : kd p = nI i) (hb : nb p = nI c) : WW (fun sz f => f_Printer_writePiece sz f v (nI N) kd nb (nI p)) (fun sz f => f_SkeletonClockModel_show sz (jI d) (iI s) (iI n) (iI o) f g (nI (fxL.getD i 0)) (nI (lixL.getD i 0)) (nI c)) := by
  have hd := day_bd (d := d) (by omega)
  have h1 : -1000000000000 ≤ d ∧ d ≤ 1000000000000 := by omega
  have h2 : -2147483648 ≤ n ∧ n < 2147483648 := by omega
  have h3 : -2147483648 ≤ o ∧ o < 2147483648 := by omega
  rcases (show i = 0 ∨ i = 1 ∨ i = 2 ∨ i = 3 ∨ i = 4 ∨ i = 5 ∨ i = 6 ∨ i = 7 ∨ i = 8 ∨ i = 9 ∨ i = 10 ∨ i = 11 ∨ i = 12 ∨ i = 13 ∨ i = 14 by omega) with rfl | rfl | rfl | rfl | rfl | rfl | rfl | rfl | rfl | rfl | rfl | rfl | rfl | rfl | rfl
  · have al := ac_0 c (by omega) hc.1 ha
    have yb : -999999999 ≤ FV d s n o 0 ∧ FV d s n o 0 ≤ 999999999 := hy
    refine ww_cg (ww_year (y := FV d s n o 0) (c := c) (D := jI d) (S := iI s) (N := iI n) (O := iI o) (g := g) yb (by omega)) (fun sz f => ?_) (fun sz f => ?_)
    · rw [wp_0 hN hp hk hb, hv 0 (by decide)]
    · exact sh_0 h1 hs h2 h3 sz f
  · have al := ac_1 c (by omega) hc.1 ha
    have yb : -999999999 ≤ FV d s n o 1 ∧ FV d s n o 1 ≤ 999999999 := fWY_bd hy
    refine ww_cg (ww_year (y := FV d s n o 1) (c := c) (D := jI d) (S := iI s) (N := iI n) (O := iI o) (g := g) yb (by omega)) (fun sz f => ?_) (fun sz f => ?_)
    · rw [wp_1 hN hp hk hb, hv 1 (by decide)]
    · exact sh_1 h1 hs h2 h3 sz f
  · have al := ac_2 c (by omega) hc.1 ha
    obtain ⟨u, hu⟩ := nat_of (FV_nn (d := d) (n := n) (o := o) hs (k := 2) (by decide)).1
    have hm := fMo_bd d
    have hub : 1 ≤ u ∧ u ≤ 12 := by
      have : (fMo d : Int) = u := hu
      omega
    by_cases q : c ≤ 2
    · have h2c : nI c ≤ (2 : Int32) := by
        rw [kk2]
        exact nI_le q (by decide)
      refine ww_cg (ww_num (v := u) (c := c) (by omega) hc) (fun sz f => ?_) (fun sz f => ?_)
      · rw [wp_2n hN hp hk hb h2c, hv 2 (by decide), hu, ← nI_iI]
      · exact (sh_2n h1 hs h2 h3 h2c sz f).trans (by rw [hu]; rfl)
    · have h2c : ¬ nI c ≤ (2 : Int32) := by
        rw [kk2]
        exact nI_ge (by omega) (by omega)
      have ec : c = 3 + (c - 3) := by omega
      have eu : u = (u - 1) + 1 := by omega
      refine ww_cg (ww_name hg (x1 := 2) (x3 := nI u) (a := u - 1) (c := c) (c2 := c) (by omega) (by omega) (by omega) (by split <;> omega) (fun k hk => by
        have := nt_2 (u - 1) (by omega) k hk (c - 3) (by omega)
        rw [← eu, ← ec] at this
        exact this)) (fun sz f => ?_) (fun sz f => ?_)
      · rw [wp_2s hN hp hk hb h2c, hv 2 (by decide), hu, ← nI_iI]
        rfl
      · refine (sh_2s h1 hs h2 h3 h2c sz f).trans ?_
        rw [hu, j2i, ← nI_iI]
        have : nI u - 1 = nI (u - 1) := by
          rw [kk1]
          exact pk_sub (by omega)
        rw [this]
  · obtain ⟨u, hu⟩ := nat_of (FV_nn (d := d) (n := n) (o := o) hs (k := 3) (by decide)).1
    have hub := (FV_nn (d := d) (n := n) (o := o) hs (k := 3) (by decide)).2
    refine ww_cg (ww_num (v := u) (c := c) (by omega) hc) (fun sz f => ?_) (fun sz f => ?_)
    · rw [wp_3 hN hp hk hb, hv 3 (by decide), hu, ← nI_iI]
    · exact (sh_3 h1 hs h2 h3 sz f).trans (by rw [hu]; rfl)
  · obtain ⟨u, hu⟩ := nat_of (FV_nn (d := d) (n := n) (o := o) hs (k := 4) (by decide)).1
    have hub := (FV_nn (d := d) (n := n) (o := o) hs (k := 4) (by decide)).2
    refine ww_cg (ww_num (v := u) (c := c) (by omega) hc) (fun sz f => ?_) (fun sz f => ?_)
    · rw [wp_4 hN hp hk hb, hv 4 (by decide), hu, ← nI_iI]
    · exact (sh_4 h1 hs h2 h3 sz f).trans (by rw [hu]; rfl)
  · have al := ac_5 c (by omega) hc.1 ha
    obtain ⟨u, hu⟩ := nat_of (FV_nn (d := d) (n := n) (o := o) hs (k := 5) (by decide)).1
    have hm := wd_bd d
    have hub : 1 ≤ u ∧ u ≤ 7 := by
      have : wd d = u := hu
      omega
    have ec : c = 3 + (c - 3) := by omega
    have eu : u = (u - 1) + 1 := by omega
    have eu2 : u - 1 + 12 = u + 11 := by omega
    refine ww_cg (ww_name hg (x1 := 5) (x3 := nI u) (a := u + 11) (c := c) (c2 := c) (by omega) (by omega) (by omega) (by split <;> omega) (fun k hk => by
      have := nt_5 (u - 1) (by omega) k hk (c - 3) (by omega)
      rw [← eu, ← ec, eu2] at this
      exact this)) (fun sz f => ?_) (fun sz f => ?_)
    · rw [wp_5 hN hp hk hb, hv 5 (by decide), hu, ← nI_iI]
      rfl
    · refine (sh_5 h1 hs h2 h3 sz f).trans ?_
      rw [hu, j2i, ← nI_iI, kk11, nI_add]
  · obtain ⟨u, hu⟩ := nat_of (FV_nn (d := d) (n := n) (o := o) hs (k := 6) (by decide)).1
    have hub := (FV_nn (d := d) (n := n) (o := o) hs (k := 6) (by decide)).2
    refine ww_cg (ww_num (v := u) (c := c) (by omega) hc) (fun sz f => ?_) (fun sz f => ?_)
    · rw [wp_6 hN hp hk hb, hv 6 (by decide), hu, ← nI_iI]
    · exact (sh_6 h1 hs h2 h3 sz f).trans (by rw [hu]; rfl)
  · obtain ⟨u, hu⟩ := nat_of (FV_nn (d := d) (n := n) (o := o) hs (k := 7) (by decide)).1
    have hub := (FV_nn (d := d) (n := n) (o := o) hs (k := 7) (by decide)).2
    refine ww_cg (ww_num (v := u) (c := c) (by omega) hc) (fun sz f => ?_) (fun sz f => ?_)
    · rw [wp_7 hN hp hk hb, hv 7 (by decide), hu, ← nI_iI]
    · exact (sh_7 h1 hs h2 h3 sz f).trans (by rw [hu]; rfl)
  · obtain ⟨u, hu⟩ := nat_of (FV_nn (d := d) (n := n) (o := o) hs (k := 8) (by decide)).1
    have hub := (FV_nn (d := d) (n := n) (o := o) hs (k := 8) (by decide)).2
    refine ww_cg (ww_num (v := u) (c := c) (by omega) hc) (fun sz f => ?_) (fun sz f => ?_)
    · rw [wp_8 hN hp hk hb, hv 8 (by decide), hu, ← nI_iI]
    · exact (sh_8 h1 hs h2 h3 sz f).trans (by rw [hu]; rfl)
  · have al := ac_9 c (by omega) hc.1 ha
    subst al
    obtain ⟨u, hu⟩ := nat_of (FV_nn (d := d) (n := n) (o := o) hs (k := 9) (by decide)).1
    have hub : u < 2 := by
      have : s / 3600 / 12 = (u : Int) := hu
      omega
    refine ww_cg (ww_name hg (x1 := 9) (x3 := nI u) (a := u + 19) (c := 1) (c2 := 4) (by omega) (by omega) (by omega) (by decide) (fun k hk => nt_9 u hub k hk)) (fun sz f => ?_) (fun sz f => ?_)
    · rw [wp_9 hN hp hk hb, hv 9 (by decide), hu, ← nI_iI]
      rfl
    · refine (sh_9 h1 hs h2 h3 sz f).trans ?_
      rw [hu, j2i, ← nI_iI, kk19, nI_add, kk4]
  · obtain ⟨u, hu⟩ := nat_of (FV_nn (d := d) (n := n) (o := o) hs (k := 10) (by decide)).1
    have hub := (FV_nn (d := d) (n := n) (o := o) hs (k := 10) (by decide)).2
    refine ww_cg (ww_num (v := u) (c := c) (by omega) hc) (fun sz f => ?_) (fun sz f => ?_)
    · rw [wp_10 hN hp hk hb, hv 10 (by decide), hu, ← nI_iI]
    · exact (sh_10 h1 hs h2 h3 sz f).trans (by rw [hu]; rfl)
  · obtain ⟨u, hu⟩ := nat_of (FV_nn (d := d) (n := n) (o := o) hs (k := 11) (by decide)).1
    have hub := (FV_nn (d := d) (n := n) (o := o) hs (k := 11) (by decide)).2
    refine ww_cg (ww_num (v := u) (c := c) (by omega) hc) (fun sz f => ?_) (fun sz f => ?_)
    · rw [wp_11 hN hp hk hb, hv 11 (by decide), hu, ← nI_iI]
    · exact (sh_11 h1 hs h2 h3 sz f).trans (by rw [hu]; rfl)
  · obtain ⟨u, hu⟩ := nat_of hn.1
    have hf : FV d s n o 12 = (u : Int) := hu
    refine ww_cg (ww_nano (v := u) (c := c) (by omega) hc) (fun sz f => ?_) (fun sz f => ?_)
    · rw [wp_12 hN hp hk hb, hv 12 (by decide), hf, ← nI_iI]
    · exact (sh_12 h1 hs h2 h3 sz f).trans (by rw [hf]; rfl)
  · have al := ac_13 c (by omega) hc.1 ha
    have hf : FV d s n o 13 = o := rfl
    refine ww_cg (ww_off (o := o) (c := c) (k := 13) (x := 88) ho al (by decide)) (fun sz f => ?_) (fun sz f => ?_)
    · rw [wp_13 hN hp hk hb, hv 13 (by decide), hf]
    · exact (sh_13 h1 hs h2 h3 sz f).trans (by rw [hf]; rfl)
  · have al := ac_14 c (by omega) hc.1 ha
    have hf : FV d s n o 13 = o := rfl
    refine ww_cg (ww_off (o := o) (c := c) (k := 14) (x := 120) ho al (by decide)) (fun sz f => ?_) (fun sz f => ?_)
    · rw [wp_14 hN hp hk hb, hv 13 (by decide), hf]
    · exact (sh_14 h1 hs h2 h3 sz f).trans (by rw [hf]; rfl)
