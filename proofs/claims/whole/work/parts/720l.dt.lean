/-! read: the date and the time of what is known, on both sides. -/
theorem fby_c {y e : Int} {st : Nat} (hy : -999999999 ≤ y ∧ y ≤ 999999999) (he : 0 ≤ e ∧ e ≤ 999) (hst : st ≤ 2) {kn : Nat → Int32} {va : Nat → Int64} (k0 : va 0 = jI y) (k3 : kn 3 = 1) (k3' : va 3 = jI e) : ((∃ dy, f_Resolver_findByYearDay (nI st) 0 (iI y) (iI e) = some (0, dy)) ∧ st < 2 ∧ f_SkeletonClockModel_proper kn va 2 (nI st) = some 0) ∨ ∃ d, f_Resolver_findByYearDay (nI st) 0 (iI y) (iI e) = some (1, jI d) ∧ (st < 2 → f_SkeletonClockModel_proper kn va 2 (nI st) = some 1) ∧ f_SkeletonClockModel_dayBy va 2 (nI st) = some (jI d) ∧ -390000000000 ≤ d ∧ d ≤ 390000000000 := by
  have c0 : (0 : Int32).toNatClampNeg = 0 := by decide
  have c3 : (3 : Int32).toNatClampNeg = 3 := by decide
  have nb := fMo1_bd (y := y) (by omega)
  have lp := lpI_01 y
  have ls := lpI_ny y
  have dayR : f_SkeletonClockModel_dayBy va 2 (nI st) = some (jI (ny y + e - 1)) := by
    unfold f_SkeletonClockModel_dayBy
    rw [if_pos rfl, c0, c3, k0, k3', fy_m (by omega), ob_some, jI_add, k64_1, jI_sub]
  have w := wi_c (kn := kn) (va := va) (k := 3) (lo := 1) (hi := 365 + lpI y) (by decide) k3 k3' (by omega) (by omega) (by omega)
  have pr : f_SkeletonClockModel_proper kn va 2 (nI st) = some (if 1 ≤ e ∧ e ≤ 365 + lpI y then 1 else 0) := by
    unfold f_SkeletonClockModel_proper
    have w3 : f_SkeletonClockModel_within kn va 3 1 (jI (365 + lpI y)) = _ := w
    have e1 : ny (y + 1) - ny y = 365 + lpI y := by omega
    rw [if_neg (by decide), if_pos rfl, c0, k0, k64_1, jI_add, fy_m (by omega), ob_some, fy_m (by omega), ob_some, jI_sub, e1, ← k64_1, w3, ob_some]
    split <;> rfl
  have yl := yL_c hy
  rw [i2j (by omega)] at yl
  unfold f_Resolver_findByYearDay
  rw [i2j (show -2147483648 ≤ y ∧ y < 2147483648 by omega), fy_c (by omega), ob_some, yl, ob_some, i2j (by omega), jI_add, k64_1, jI_sub]
  by_cases s2 : st = 2
  · subst s2
    rw [if_pos (by decide)]
    exact Or.inr ⟨_, rfl, fun q => absurd q (by decide), dayR, by omega⟩
  · rw [if_neg (fun q => s2 ((nI_eq (by omega) (by decide)).mp (q.trans kk2)))]
    by_cases a : e < 1
    · rw [k32_1, if_pos ((iI_lt (by omega) (by omega)).mpr a)]
      rw [if_neg (by omega)] at pr
      exact Or.inl ⟨⟨_, rfl⟩, by omega, pr⟩
    · rw [k32_1, if_neg (fun q => a ((iI_lt (by omega) (by omega)).mp q))]
      by_cases b : 365 + lpI y < e
      · rw [if_pos ((iI_lt (by omega) (by omega)).mpr b)]
        rw [if_neg (by omega)] at pr
        exact Or.inl ⟨⟨_, rfl⟩, by omega, pr⟩
      · rw [if_neg (fun q => b ((iI_lt (by omega) (by omega)).mp q))]
        rw [if_pos (by omega)] at pr
        exact Or.inr ⟨_, rfl, fun _ => pr, dayR, by omega⟩
theorem fbw_c {y w g : Int} {st : Nat} (hy : -999999999 ≤ y ∧ y ≤ 999999999) (hw : 0 ≤ w ∧ w ≤ 999) (hg : 1 ≤ g ∧ g ≤ 7) (hst : st ≤ 2) {kn : Nat → Int32} {va : Nat → Int64} (k6 : va 6 = jI y) (k5 : kn 5 = 1) (k5' : va 5 = jI w) (k4 : va 4 = jI g) : ((∃ dy, f_Resolver_findByWeek (nI st) 0 (iI y) (iI w) (iI g) = some (0, dy)) ∧ st < 2 ∧ f_SkeletonClockModel_proper kn va 3 (nI st) = some 0) ∨ ∃ d, f_Resolver_findByWeek (nI st) 0 (iI y) (iI w) (iI g) = some (1, jI d) ∧ (st < 2 → f_SkeletonClockModel_proper kn va 3 (nI st) = some 1) ∧ f_SkeletonClockModel_dayBy va 3 (nI st) = some (jI d) ∧ -390000000000 ≤ d ∧ d ≤ 390000000000 := by
  have c4 : (4 : Int32).toNatClampNeg = 4 := by decide
  have c5 : (5 : Int32).toNatClampNeg = 5 := by decide
  have c6 : (6 : Int32).toNatClampNeg = 6 := by decide
  have nb := fMo1_bd (y := y) (by omega)
  have nb2 := fMo1_bd (y := y + 1) (by omega)
  have f7 := fMo1_7 y
  have m1 : f_Days_firstMonday (jI y) = some (jI (fMo1 y)) := fM_c (by omega)
  have m2 : f_Days_firstMonday (jI (y + 1)) = some (jI (fMo1 (y + 1))) := fM_c (by omega)
  have r1 : f_SkeletonClockModel_firstMonday (jI y) = some (jI (fMo1 y)) := fM_m (by omega)
  have r2 : f_SkeletonClockModel_firstMonday (jI (y + 1)) = some (jI (fMo1 (y + 1))) := fM_m (by omega)
  have dayR : f_SkeletonClockModel_dayBy va 3 (nI st) = some (jI (fMo1 y + 7 * (w - 1) + g - 1)) := by
    unfold f_SkeletonClockModel_dayBy
    rw [if_neg (by decide), if_pos rfl, c4, c5, c6, k6, k5', k4, r1, ob_some, k64_1, k64_7, jI_sub, jI_mul, jI_add, jI_add, jI_sub]
  have wi := wi_c (kn := kn) (va := va) (k := 5) (lo := 1) (hi := (fMo1 (y + 1) - fMo1 y) / 7) (by decide) k5 k5' (by omega) (by omega) (by omega)
  have pr : f_SkeletonClockModel_proper kn va 3 (nI st) = some (if 1 ≤ w ∧ w ≤ (fMo1 (y + 1) - fMo1 y) / 7 then 1 else 0) := by
    unfold f_SkeletonClockModel_proper
    have w3 : f_SkeletonClockModel_within kn va 5 1 (jI ((fMo1 (y + 1) - fMo1 y) / 7)) = _ := wi
    rw [if_neg (by decide), if_neg (by decide), c6, k6, k64_1, jI_add, r2, ob_some, r1, ob_some, jI_sub, k64_7, jI_div (by omega) (by omega), td_pos (by omega), ← k64_1, w3, ob_some]
    split <;> rfl
  unfold f_Resolver_findByWeek
  rw [i2j (by omega), k64_1, jI_add, m1, ob_some, m2, ob_some, k32_1, iI_sub, i2j (by omega), i2j (by omega), k64_7, jI_mul, jI_add, jI_add, jI_sub]
  by_cases s2 : st = 2
  · subst s2
    rw [if_pos (by decide)]
    exact Or.inr ⟨_, rfl, fun q => absurd q (by decide), dayR, by omega⟩
  · rw [if_neg (fun q => s2 ((nI_eq (by omega) (by decide)).mp (q.trans kk2)))]
    by_cases a : w < 1
    · rw [if_pos ((iI_lt (by omega) (by omega)).mpr a)]
      rw [if_neg (by omega)] at pr
      exact Or.inl ⟨⟨_, rfl⟩, by omega, pr⟩
    · rw [if_neg (fun q => a ((iI_lt (by omega) (by omega)).mp q))]
      by_cases b : fMo1 (y + 1) ≤ fMo1 y + 7 * (w - 1) + g - 1
      · rw [if_pos ((jI_le (by omega) (by omega)).mpr b)]
        rw [if_neg (by omega)] at pr
        exact Or.inl ⟨⟨_, rfl⟩, by omega, pr⟩
      · rw [if_neg (fun q => b ((jI_le (by omega) (by omega)).mp q))]
        rw [if_pos (by omega)] at pr
        exact Or.inr ⟨_, rfl, fun _ => pr, dayR, by omega⟩
def maskD (r : Nat) : Int32 := if r = 1 then 13 else if r = 2 then 17 else if r = 3 then 98 else 0
/-- the date, on both sides -/
theorem fdt_c {fl vals kn : Nat → Int32} {va : Nat → Int64} {Y : Nat → Int} {st : Nat} (h : KY fl vals kn va Y) (hst : st ≤ 2) : ((∃ us dy, f_Resolver_findDate (nI st) 0 0 vals fl = some (0, us, dy)) ∧ (f_SkeletonClockModel_rule kn = some 0 ∨ ∃ r : Nat, 1 ≤ r ∧ r ≤ 3 ∧ f_SkeletonClockModel_rule kn = some (nI r) ∧ st < 2 ∧ f_SkeletonClockModel_proper kn va (nI r) (nI st) = some 0)) ∨ ∃ (r : Nat) (d : Int), 1 ≤ r ∧ r ≤ 3 ∧ f_SkeletonClockModel_rule kn = some (nI r) ∧ (st < 2 → f_SkeletonClockModel_proper kn va (nI r) (nI st) = some 1) ∧ f_SkeletonClockModel_dayBy va (nI r) (nI st) = some (jI d) ∧ f_Resolver_findDate (nI st) 0 0 vals fl = some (1, maskD r, jI d) ∧ -390000000000 ≤ d ∧ d ≤ 390000000000 := by
  have c0 : (0 : Int32).toNatClampNeg = 0 := by decide
  have c1 : (1 : Int32).toNatClampNeg = 1 := by decide
  have c2 : (2 : Int32).toNatClampNeg = 2 := by decide
  have c3 : (3 : Int32).toNatClampNeg = 3 := by decide
  have c4 : (4 : Int32).toNatClampNeg = 4 := by decide
  have c5 : (5 : Int32).toNatClampNeg = 5 := by decide
  have c6 : (6 : Int32).toNatClampNeg = 6 := by decide
  have K0 : kn 0 = fl 0 := (ky_01 h 0 (by decide)).2
  have K1 : kn 1 = fl 2 := (ky_01 h 2 (by decide)).2
  have K2 : kn 2 = fl 3 := (ky_01 h 3 (by decide)).2
  have K3 : kn 3 = fl 4 := (ky_01 h 4 (by decide)).2
  have K4 : kn 4 = fl 5 := (ky_01 h 5 (by decide)).2
  have K5 : kn 5 = fl 6 := (ky_01 h 6 (by decide)).2
  have K6 : kn 6 = fl 1 := (ky_01 h 1 (by decide)).2
  have a0 := (ky_01 h 0 (by decide)).1
  have a1 := (ky_01 h 1 (by decide)).1
  have a2 := (ky_01 h 2 (by decide)).1
  have a3 := (ky_01 h 3 (by decide)).1
  have a4 := (ky_01 h 4 (by decide)).1
  have a5 := (ky_01 h 5 (by decide)).1
  have a6 := (ky_01 h 6 (by decide)).1
  have h0 : f_Known_has fl 0 = some (fl 0) := ha_c (i := 0) (by decide) a0
  have h1 : f_Known_has fl 1 = some (fl 1) := ha_c (i := 1) (by decide) a1
  have h2 : f_Known_has fl 2 = some (fl 2) := ha_c (i := 2) (by decide) a2
  have h3 : f_Known_has fl 3 = some (fl 3) := ha_c (i := 3) (by decide) a3
  have h4 : f_Known_has fl 4 = some (fl 4) := ha_c (i := 4) (by decide) a4
  have h5 : f_Known_has fl 5 = some (fl 5) := ha_c (i := 5) (by decide) a5
  have h6 : f_Known_has fl 6 = some (fl 6) := ha_c (i := 6) (by decide) a6
  have u0 : ∀ u, f_Resolver_use u vals fl 0 = some (iI (val fl Y 0), u ||| 1) := fun u => us_c h (i := 0) (by decide) u
  have u1 : ∀ u, f_Resolver_use u vals fl 1 = some (iI (val fl Y 1), u ||| 2) := fun u => us_c h (i := 1) (by decide) u
  have u2 : ∀ u, f_Resolver_use u vals fl 2 = some (iI (val fl Y 2), u ||| 4) := fun u => us_c h (i := 2) (by decide) u
  have u3 : ∀ u, f_Resolver_use u vals fl 3 = some (iI (val fl Y 3), u ||| 8) := fun u => us_c h (i := 3) (by decide) u
  have u4 : ∀ u, f_Resolver_use u vals fl 4 = some (iI (val fl Y 4), u ||| 16) := fun u => us_c h (i := 4) (by decide) u
  have u5 : ∀ u, f_Resolver_use u vals fl 5 = some (iI (val fl Y 5), u ||| 32) := fun u => us_c h (i := 5) (by decide) u
  have u6 : ∀ u, f_Resolver_use u vals fl 6 = some (iI (val fl Y 6), u ||| 64) := fun u => us_c h (i := 6) (by decide) u
  have o1 : ¬ (1 : Int32) = 0 := by decide
  by_cases r1 : fl 0 = 1 ∧ fl 2 = 1 ∧ fl 3 = 1
  · obtain ⟨b0, b2, b3⟩ := r1
    obtain ⟨-, y0, -, z0⟩ := ky_1 h 0 (by decide) b0
    obtain ⟨-, y2, -, z2⟩ := ky_1 h 2 (by decide) b2
    obtain ⟨-, y3, -, z3⟩ := ky_1 h 3 (by decide) b3
    have rule : f_SkeletonClockModel_rule kn = some 1 := by
      unfold f_SkeletonClockModel_rule
      rw [c0, c1, c2, K0, K1, K2, b0, b2, b3, if_neg o1, if_neg o1, if_neg o1]
    have fd : f_Resolver_findDate (nI st) 0 0 vals fl = (f_Resolver_findByMonth (nI st) 0 (iI (Y 0)) (iI (Y 2)) (iI (Y 3))).bind fun u39 => (if (u39.1 = 0 ∨ u39.1 = 1) then (some (u39.1, (13 : Int32), u39.2)) else none) := by
      unfold f_Resolver_findDate
      rw [h0, ob_some, b0, if_neg o1, h2, ob_some, b2, if_neg o1, h3, ob_some, b3, if_neg o1, u0, ob_some, u2, ob_some, u3, ob_some]
      unfold val
      have mk : ((0 : Int32) ||| 1 ||| 4 ||| 8) = 13 := by decide
      rw [if_pos b0, if_pos b2, if_pos b3]
      dsimp only
      rw [mk]
    rcases fbm_c (kn := kn) (va := va) (y0.1 (by decide)) (y2.2.1 (by decide) (by decide)) (y3.2.1 (by decide) (by decide)) hst z0 (by rw [K1, b2]) z2 (by rw [K2, b3]) z3 with ⟨⟨dy, p1⟩, p2, p3⟩ | ⟨d, p1, p2, p3, p4⟩
    · exact Or.inl ⟨⟨13, dy, by rw [fd, p1, ob_some, if_pos (Or.inl rfl)]⟩, Or.inr ⟨1, by decide, by decide, rule, p2, p3⟩⟩
    · exact Or.inr ⟨1, d, by decide, by decide, rule, p2, p3, by rw [fd, p1, ob_some, if_pos (Or.inr rfl)]; rfl, p4⟩
  · have fd0 : f_Resolver_findDate (nI st) 0 0 vals fl = jn_Resolver_findDate_47 (nI st) 0 0 vals fl ∧ f_SkeletonClockModel_rule kn = jn_SkeletonClockModel_rule_29 kn := by
      unfold f_Resolver_findDate f_SkeletonClockModel_rule
      rw [c0, c1, c2, K0, K1, K2, h0, ob_some, h2, ob_some, h3, ob_some]
      rcases a0 with b0 | b0
      · rw [if_pos b0, if_pos b0]
        exact ⟨rfl, rfl⟩
      · rw [b0, if_neg o1, if_neg o1]
        rcases a2 with b2 | b2
        · rw [if_pos b2, if_pos b2]
          exact ⟨rfl, rfl⟩
        · rw [b2, if_neg o1, if_neg o1]
          rcases a3 with b3 | b3
          · rw [if_pos b3, if_pos b3]
            exact ⟨rfl, rfl⟩
          · exact absurd ⟨b0, b2, b3⟩ r1
    rw [fd0.1, fd0.2]
    by_cases r2 : fl 0 = 1 ∧ fl 4 = 1
    · obtain ⟨b0, b4⟩ := r2
      obtain ⟨-, y0, -, z0⟩ := ky_1 h 0 (by decide) b0
      obtain ⟨-, y4, -, z4⟩ := ky_1 h 4 (by decide) b4
      have rule : jn_SkeletonClockModel_rule_29 kn = some 2 := by
        unfold jn_SkeletonClockModel_rule_29
        rw [c0, c3, K0, K3, b0, b4, if_neg o1, if_neg o1]
      have fd : jn_Resolver_findDate_47 (nI st) 0 0 vals fl = (f_Resolver_findByYearDay (nI st) 0 (iI (Y 0)) (iI (Y 4))).bind fun u26 => (if (u26.1 = 0 ∨ u26.1 = 1) then (some (u26.1, (17 : Int32), u26.2)) else none) := by
        unfold jn_Resolver_findDate_47
        rw [h0, ob_some, b0, if_neg o1, h4, ob_some, b4, if_neg o1, u0, ob_some, u4, ob_some]
        unfold val
        have mk : ((0 : Int32) ||| 1 ||| 16) = 17 := by decide
        rw [if_pos b0, if_pos b4]
        dsimp only
        rw [mk]
      rcases fby_c (kn := kn) (va := va) (y0.1 (by decide)) (y4.2.1 (by decide) (by decide)) hst z0 (by rw [K3, b4]) z4 with ⟨⟨dy, p1⟩, p2, p3⟩ | ⟨d, p1, p2, p3, p4⟩
      · exact Or.inl ⟨⟨17, dy, by rw [fd, p1, ob_some, if_pos (Or.inl rfl)]⟩, Or.inr ⟨2, by decide, by decide, rule, p2, p3⟩⟩
      · exact Or.inr ⟨2, d, by decide, by decide, rule, p2, p3, by rw [fd, p1, ob_some, if_pos (Or.inr rfl)]; rfl, p4⟩
    · have fd1 : jn_Resolver_findDate_47 (nI st) 0 0 vals fl = jn_Resolver_findDate_80 (nI st) 0 0 vals fl ∧ jn_SkeletonClockModel_rule_29 kn = jn_SkeletonClockModel_rule_51 kn := by
        unfold jn_Resolver_findDate_47 jn_SkeletonClockModel_rule_29
        rw [c0, c3, K0, K3, h0, ob_some, h4, ob_some]
        rcases a0 with b0 | b0
        · rw [if_pos b0, if_pos b0]
          exact ⟨rfl, rfl⟩
        · rw [b0, if_neg o1, if_neg o1]
          rcases a4 with b4 | b4
          · rw [if_pos b4, if_pos b4]
            exact ⟨rfl, rfl⟩
          · exact absurd ⟨b0, b4⟩ r2
      rw [fd1.1, fd1.2]
      by_cases r3 : fl 1 = 1 ∧ fl 6 = 1 ∧ fl 5 = 1
      · obtain ⟨b1, b6, b5⟩ := r3
        obtain ⟨-, y1, -, z1⟩ := ky_1 h 1 (by decide) b1
        obtain ⟨-, y6, -, z6⟩ := ky_1 h 6 (by decide) b6
        obtain ⟨-, y5, -, z5⟩ := ky_1 h 5 (by decide) b5
        have rule : jn_SkeletonClockModel_rule_51 kn = some 3 := by
          unfold jn_SkeletonClockModel_rule_51
          rw [c4, c5, c6, K4, K5, K6, b1, b6, b5, if_neg o1, if_neg o1, if_neg o1]
        have fd : jn_Resolver_findDate_80 (nI st) 0 0 vals fl = (f_Resolver_findByWeek (nI st) 0 (iI (Y 1)) (iI (Y 6)) (iI (Y 5))).bind fun u17 => (if (u17.1 = 0 ∨ u17.1 = 1) then (some (u17.1, (98 : Int32), u17.2)) else none) := by
          unfold jn_Resolver_findDate_80
          rw [h1, ob_some, b1, if_neg o1, h6, ob_some, b6, if_neg o1, h5, ob_some, b5, if_neg o1, u1, ob_some, u6, ob_some, u5, ob_some]
          unfold val
          have mk : ((0 : Int32) ||| 2 ||| 64 ||| 32) = 98 := by decide
          rw [if_pos b1, if_pos b6, if_pos b5]
          dsimp only
          rw [mk]
        rcases fbw_c (kn := kn) (va := va) (y1.1 (by decide)) (y6.2.1 (by decide) (by decide)) (y5.2.2.1 rfl) hst z1 (by rw [K5, b6]) z6 z5 with ⟨⟨dy, p1⟩, p2, p3⟩ | ⟨d, p1, p2, p3, p4⟩
        · exact Or.inl ⟨⟨98, dy, by rw [fd, p1, ob_some, if_pos (Or.inl rfl)]⟩, Or.inr ⟨3, by decide, by decide, rule, p2, p3⟩⟩
        · exact Or.inr ⟨3, d, by decide, by decide, rule, p2, p3, by rw [fd, p1, ob_some, if_pos (Or.inr rfl)]; rfl, p4⟩
      · refine Or.inl ⟨⟨0, 0, ?_⟩, Or.inl ?_⟩
        · unfold jn_Resolver_findDate_80
          rw [h1, ob_some, h6, ob_some, h5, ob_some]
          rcases a1 with b1 | b1
          · rw [if_pos b1]
          · rw [b1, if_neg o1]
            rcases a6 with b6 | b6
            · rw [if_pos b6]
            · rw [b6, if_neg o1]
              rcases a5 with b5 | b5
              · rw [if_pos b5]
              · exact absurd ⟨b1, b6, b5⟩ r3
        · unfold jn_SkeletonClockModel_rule_51
          rw [c4, c5, c6, K4, K5, K6]
          rcases a1 with b1 | b1
          · rw [if_pos b1]
          · rw [b1, if_neg o1]
            rcases a6 with b6 | b6
            · rw [if_pos b6]
            · rw [b6, if_neg o1]
              rcases a5 with b5 | b5
              · rw [if_pos b5]
              · exact absurd ⟨b1, b6, b5⟩ r3
