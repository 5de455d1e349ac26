/-! read: the time of what is known, and which fields must agree. -/
theorem val_b {fl vals kn : Nat → Int32} {va : Nat → Int64} {Y : Nat → Int} (h : KY fl vals kn va Y) {i : Nat} (hi : 2 ≤ i ∧ i ≤ 11) : 0 ≤ val fl Y i ∧ val fl Y i ≤ 999 := by
  unfold val
  split
  · rename_i q
    exact (ky_1 h i (by omega) q).2.1.2.1 hi.1 hi.2
  · omega
theorem fx_7 : ∀ i, 7 ≤ i → i < 14 → fx i = i := by
  intro i h1 h2
  rcases (show i = 7 ∨ i = 8 ∨ i = 9 ∨ i = 10 ∨ i = 11 ∨ i = 12 ∨ i = 13 by omega) with rfl | rfl | rfl | rfl | rfl | rfl | rfl <;> rfl
theorem wi_v {fl vals kn : Nat → Int32} {va : Nat → Int64} {Y : Nat → Int} (h : KY fl vals kn va Y) {k : Nat} (hk : 7 ≤ k ∧ k ≤ 11) {hi : Int} (hh : 0 ≤ hi ∧ hi ≤ 2000) : f_SkeletonClockModel_within kn va (nI k) (jI 0) (jI hi) = some (if val fl Y k ≤ hi then 1 else 0) := by
  have e := fx_7 k hk.1 (by omega)
  unfold val
  rcases h k (by omega) with ⟨a, b⟩ | ⟨a, b, c, -, d⟩
  · rw [e] at b
    unfold f_SkeletonClockModel_within
    rw [if_pos (sN (by omega) (by decide)), nI_clamp (by omega), if_pos b, a, if_neg (show ¬ (0 : Int32) = 1 by decide), if_pos hh.1]
  · rw [e] at b d
    have y := c.2.1 (by omega) (by omega)
    rw [wi_c (by omega) b d (by omega) (by omega) (by omega), if_pos a]
    by_cases q : Y k ≤ hi
    · rw [if_pos ⟨y.1, q⟩, if_pos q]
    · rw [if_neg (fun w => q w.2), if_neg q]
theorem k32_3600 : (3600 : Int32) = iI 3600 := by decide
theorem k32_60 : (60 : Int32) = iI 60 := by decide
theorem k32_59 : (59 : Int32) = iI 59 := by decide
theorem k32_23 : (23 : Int32) = iI 23 := by decide
theorem j107_c {fl vals kn : Nat → Int32} {va : Nat → Int64} {Y : Nat → Int} {st : Nat} (h : KY fl vals kn va Y) (hst : st ≤ 2) (us s0 : Int32) (hr : Int) (b : Bool) : jn_Resolver_findTime_107 (nI st) us s0 vals fl (iI hr) (if b then 1 else 0) = some ((if st = 2 ∨ (b = true ∧ val fl Y 10 ≤ 59 ∧ val fl Y 11 ≤ 59) then 1 else 0), us ||| 1024 ||| 2048 ||| 4096, iI (3600 * hr + 60 * val fl Y 10 + val fl Y 11)) := by
  have u10 : ∀ u, f_Resolver_use u vals fl 10 = some (iI (val fl Y 10), u ||| 1024) := fun u => us_c h (i := 10) (by decide) u
  have u11 : ∀ u, f_Resolver_use u vals fl 11 = some (iI (val fl Y 11), u ||| 2048) := fun u => us_c h (i := 11) (by decide) u
  have u12 : ∀ u, f_Resolver_use u vals fl 12 = some (iI (val fl Y 12), u ||| 4096) := fun u => us_c h (i := 12) (by decide) u
  have b10 := val_b h (i := 10) (by decide)
  have b11 := val_b h (i := 11) (by decide)
  unfold jn_Resolver_findTime_107
  rw [u10, ob_some, u11, ob_some, u12, ob_some]
  dsimp only
  rw [k32_3600, k32_60, iI_mul, iI_mul, iI_add, iI_add]
  by_cases s2 : st = 2
  · rw [if_pos (by rw [s2]; decide), if_pos (Or.inl s2)]
  · rw [if_neg (fun q => s2 ((nI_eq (by omega) (by decide)).mp (q.trans kk2)))]
    cases b
    · rw [if_pos (show (if false = true then (1 : Int32) else 0) = 0 by decide), if_neg (by
        rintro (q | q)
        · exact s2 q
        · exact absurd q.1 (by decide))]
    · rw [if_pos rfl, if_neg (by decide), k32_59]
      by_cases q1 : 59 < val fl Y 10
      · rw [if_pos ((iI_lt (by omega) (by omega)).mpr q1), if_neg (by omega)]
      · rw [if_neg (fun w => q1 ((iI_lt (by omega) (by omega)).mp w))]
        by_cases q2 : 59 < val fl Y 11
        · rw [if_pos ((iI_lt (by omega) (by omega)).mpr q2), if_neg (by omega)]
        · rw [if_neg (fun w => q2 ((iI_lt (by omega) (by omega)).mp w)), if_pos (Or.inr ⟨rfl, by omega, by omega⟩)]
theorem j66_c {fl vals kn : Nat → Int32} {va : Nat → Int64} {Y : Nat → Int} (h : KY fl vals kn va Y) : jn_SkeletonClockModel_properTime_66 kn va = some (if val fl Y 10 ≤ 59 ∧ val fl Y 11 ≤ 59 then 1 else 0) := by
  have w10 : f_SkeletonClockModel_within kn va 10 0 59 = _ := wi_v h (k := 10) (by decide) (hi := 59) (by decide)
  have w11 : f_SkeletonClockModel_within kn va 11 0 59 = _ := wi_v h (k := 11) (by decide) (hi := 59) (by decide)
  unfold jn_SkeletonClockModel_properTime_66
  rw [w10, w11, ob_some, ob_some]
  by_cases a : val fl Y 10 ≤ 59
  · rw [if_pos a, if_neg (by decide)]
    by_cases b : val fl Y 11 ≤ 59
    · rw [if_pos b, if_neg (by decide), if_pos ⟨a, b⟩]
    · rw [if_neg b, if_pos rfl, if_neg (fun w => b w.2)]
  · rw [if_neg a, if_pos rfl, if_neg (fun w => a w.1)]
def mT (t : Nat) (us : Int32) : Int32 := if t = 1 then us ||| 128 ||| 1024 ||| 2048 ||| 4096 else if t = 2 then us ||| 256 ||| 512 ||| 1024 ||| 2048 ||| 4096 else if t = 3 then us ||| 1024 ||| 2048 ||| 4096 else us
theorem ft_c {fl vals kn : Nat → Int32} {va : Nat → Int64} {Y : Nat → Int} {st : Nat} (h : KY fl vals kn va Y) (hst : st ≤ 2) (us s0 : Int32) : ∃ (t : Nat) (hr : Int) (ok : Bool), 1 ≤ t ∧ t ≤ 3 ∧ (t = 1 ↔ fl 7 = 1) ∧ (t = 2 ↔ fl 7 = 0 ∧ fl 8 = 1 ∧ fl 9 = 1) ∧ 0 ≤ hr ∧ hr ≤ 2000 ∧ f_SkeletonClockModel_hour kn va = some (jI hr) ∧ f_Resolver_findTime (nI st) us s0 vals fl = some ((if st = 2 ∨ ok = true then 1 else 0), mT t us, iI (3600 * hr + 60 * val fl Y 10 + val fl Y 11)) ∧ f_SkeletonClockModel_properTime kn va = some (if ok = true then 1 else 0) := by
  have c7 : (7 : Int32).toNatClampNeg = 7 := by decide
  have c8 : (8 : Int32).toNatClampNeg = 8 := by decide
  have c9 : (9 : Int32).toNatClampNeg = 9 := by decide
  have K7 : kn 7 = fl 7 := (ky_01 h 7 (by decide)).2
  have K8 : kn 8 = fl 8 := (ky_01 h 8 (by decide)).2
  have K9 : kn 9 = fl 9 := (ky_01 h 9 (by decide)).2
  have a7 := (ky_01 h 7 (by decide)).1
  have a8 := (ky_01 h 8 (by decide)).1
  have a9 := (ky_01 h 9 (by decide)).1
  have h7 : f_Known_has fl 7 = some (fl 7) := ha_c (i := 7) (by decide) a7
  have h8 : f_Known_has fl 8 = some (fl 8) := ha_c (i := 8) (by decide) a8
  have h9 : f_Known_has fl 9 = some (fl 9) := ha_c (i := 9) (by decide) a9
  have u7 : ∀ u, f_Resolver_use u vals fl 7 = some (iI (val fl Y 7), u ||| 128) := fun u => us_c h (i := 7) (by decide) u
  have u8 : ∀ u, f_Resolver_use u vals fl 8 = some (iI (val fl Y 8), u ||| 256) := fun u => us_c h (i := 8) (by decide) u
  have u9 : ∀ u, f_Resolver_use u vals fl 9 = some (iI (val fl Y 9), u ||| 512) := fun u => us_c h (i := 9) (by decide) u
  have o1 : ¬ (1 : Int32) = 0 := by decide
  have o2 : ¬ (0 : Int32) = 1 := by decide
  have w7 : f_SkeletonClockModel_within kn va 7 0 23 = _ := wi_v h (k := 7) (by decide) (hi := 23) (by decide)
  have j66 := j66_c h
  have T1 : ∀ us hr, jn_Resolver_findTime_107 (nI st) us s0 vals fl (iI hr) 1 = _ := fun us hr => j107_c h hst us s0 hr true
  have T0 : ∀ us hr, jn_Resolver_findTime_107 (nI st) us s0 vals fl (iI hr) 0 = _ := fun us hr => j107_c h hst us s0 hr false
  rcases a7 with b7 | b7
  · have v7 : val fl Y 7 = 0 := by
      unfold val
      rw [b7, if_neg o2]
    by_cases hf : fl 8 = 1 ∧ fl 9 = 1
    · obtain ⟨b8, b9⟩ := hf
      obtain ⟨k8, y8, -, z8⟩ := ky_1 h 8 (by decide) b8
      obtain ⟨k9, y9, -, z9⟩ := ky_1 h 9 (by decide) b9
      have q8 := y8.2.1 (by decide) (by decide)
      have q9 := y9.2.1 (by decide) (by decide)
      have q9' := y9.2.2.2.1 rfl
      have z8' : va 8 = jI (Y 8) := z8
      have z9' : va 9 = jI (Y 9) := z9
      have v8 : val fl Y 8 = Y 8 := by
        unfold val
        rw [if_pos b8]
      have v9 : val fl Y 9 = Y 9 := by
        unfold val
        rw [if_pos b9]
      have w8 := wi_c (kn := kn) (va := va) (k := 8) (lo := 1) (hi := 12) (by decide) k8 z8 (by omega) (by omega) (by omega)
      have w8' : f_SkeletonClockModel_within kn va 8 1 12 = _ := w8
      have x12 : iI (Y 8) = 12 ↔ Y 8 = 12 := by
        rw [k32_12]
        exact iI_eq (by omega) (by omega)
      have x12j : jI (Y 8) = 12 ↔ Y 8 = 12 := by
        rw [k64_12]
        exact jI_eq (by omega) (by omega)
      refine ⟨2, 12 * Y 9 + (if Y 8 = 12 then 0 else Y 8), decide ((1 ≤ Y 8 ∧ Y 8 ≤ 12) ∧ val fl Y 10 ≤ 59 ∧ val fl Y 11 ≤ 59), by decide, by decide, ⟨fun q => absurd q (by decide), fun q => by rw [b7] at q; exact absurd q o2⟩, ⟨fun _ => ⟨b7, b8, b9⟩, fun _ => rfl⟩, by split <;> omega, by split <;> omega, ?_, ?_, ?_⟩
      · unfold f_SkeletonClockModel_hour
        rw [c7, c8, c9, K7, K8, K9, b7, b8, b9, if_pos rfl, if_neg o1, if_neg o1, z8', z9', k64_12, jI_mul, k64_0, jI_add, jI_add, ← k64_12]
        by_cases q : Y 8 = 12
        · rw [if_pos (x12j.mpr q), if_pos q]
        · rw [if_neg (fun w => q (x12j.mp w)), if_neg q]
      · have ar : ∀ e : Int, (0 ≤ e ∧ e ≤ 999) → jn_Resolver_findTime_86 (nI st) (us ||| 256 ||| 512) s0 vals fl (iI (Y 8)) (12 * iI (Y 9)) (iI e) = some ((if st = 2 ∨ decide ((1 ≤ Y 8 ∧ Y 8 ≤ 12) ∧ val fl Y 10 ≤ 59 ∧ val fl Y 11 ≤ 59) = true then 1 else 0), mT 2 us, iI (3600 * (12 * Y 9 + e) + 60 * val fl Y 10 + val fl Y 11)) := by
          intro e he
          unfold jn_Resolver_findTime_86 jn_Resolver_findTime_105 jn_Resolver_findTime_106
          rw [k32_12, iI_mul, iI_add, T0, T1, k32_1]
          by_cases q1 : Y 8 < 1
          · rw [if_pos ((iI_lt (by omega) (by omega)).mpr q1)]
            have e1 : ¬ (st = 2 ∨ (false = true ∧ val fl Y 10 ≤ 59 ∧ val fl Y 11 ≤ 59)) ∨ st = 2 := by
              by_cases s2 : st = 2
              · exact Or.inr s2
              · refine Or.inl ?_
                rintro (q | q)
                · exact s2 q
                · exact absurd q.1 (by decide)
            rcases e1 with e1 | e1
            · rw [if_neg e1, if_neg (by
                rintro (q | q)
                · exact e1 (Or.inl q)
                · have := of_decide_eq_true q
                  omega)]
              rfl
            · rw [if_pos (Or.inl e1), if_pos (Or.inl e1)]
              rfl
          · rw [if_neg (fun w => q1 ((iI_lt (by omega) (by omega)).mp w))]
            by_cases q2 : 12 < Y 8
            · rw [if_pos ((iI_lt (by omega) (by omega)).mpr q2)]
              have e1 : ¬ (st = 2 ∨ (false = true ∧ val fl Y 10 ≤ 59 ∧ val fl Y 11 ≤ 59)) ∨ st = 2 := by
                by_cases s2 : st = 2
                · exact Or.inr s2
                · refine Or.inl ?_
                  rintro (q | q)
                  · exact s2 q
                  · exact absurd q.1 (by decide)
              rcases e1 with e1 | e1
              · rw [if_neg e1, if_neg (by
                  rintro (q | q)
                  · exact e1 (Or.inl q)
                  · have := of_decide_eq_true q
                    omega)]
                rfl
              · rw [if_pos (Or.inl e1), if_pos (Or.inl e1)]
                rfl
            · rw [if_neg (fun w => q2 ((iI_lt (by omega) (by omega)).mp w))]
              by_cases q3 : val fl Y 10 ≤ 59 ∧ val fl Y 11 ≤ 59
              · rw [if_pos (Or.inr ⟨rfl, q3⟩), if_pos (Or.inr (decide_eq_true ⟨by omega, q3⟩))]
                rfl
              · by_cases s2 : st = 2
                · rw [if_pos (Or.inl s2), if_pos (Or.inl s2)]
                  rfl
                · rw [if_neg (by
                    rintro (q | q)
                    · exact s2 q
                    · exact q3 q.2), if_neg (by
                    rintro (q | q)
                    · exact s2 q
                    · exact q3 (of_decide_eq_true q).2)]
                  rfl
        unfold f_Resolver_findTime
        rw [h7, ob_some, b7, if_pos rfl, h8, ob_some, b8, if_neg o1, h9, ob_some, b9, if_neg o1, u8, ob_some, u9, ob_some, v8, v9]
        dsimp only
        by_cases q : Y 8 = 12
        · rw [if_pos (x12.mpr q), if_pos q]
          exact ar 0 (by decide)
        · rw [if_neg (fun w => q (x12.mp w)), if_neg q]
          exact ar (Y 8) q8
      · unfold f_SkeletonClockModel_properTime jn_SkeletonClockModel_properTime_35
        rw [c7, c8, c9, K7, K8, K9, b7, b8, b9, if_pos rfl, if_neg o1, if_neg o1, w7, v7, ob_some, if_pos (show (0 : Int) ≤ 23 by decide), if_neg o1, if_neg o1, w8', ob_some, j66]
        by_cases q1 : 1 ≤ Y 8 ∧ Y 8 ≤ 12
        · rw [if_pos q1, if_neg o1]
          by_cases q3 : val fl Y 10 ≤ 59 ∧ val fl Y 11 ≤ 59
          · rw [if_pos q3, if_pos (decide_eq_true ⟨q1, q3⟩)]
          · rw [if_neg q3, if_neg (fun w => q3 (of_decide_eq_true w).2)]
        · rw [if_neg q1, if_pos rfl, if_neg (fun w => q1 (of_decide_eq_true w).1)]
    · -- neither
      refine ⟨3, 0, decide (val fl Y 10 ≤ 59 ∧ val fl Y 11 ≤ 59), by decide, by decide, ⟨fun q => absurd q (by decide), fun q => by rw [b7] at q; exact absurd q o2⟩, ⟨fun q => absurd q (by decide), fun q => absurd q.2 hf⟩, by decide, by decide, ?_, ?_, ?_⟩
      · unfold f_SkeletonClockModel_hour
        rw [c7, c8, c9, K7, K8, K9, b7, if_pos rfl]
        rcases a8 with b8 | b8
        · rw [if_pos b8]
          rfl
        · rw [if_neg (by rw [b8]; exact o1)]
          rcases a9 with b9 | b9
          · rw [if_pos b9]
            rfl
          · exact absurd ⟨b8, b9⟩ hf
      · have T1' : jn_Resolver_findTime_107 (nI st) us s0 vals fl 0 1 = _ := T1 us 0
        unfold f_Resolver_findTime
        rw [h7, ob_some, b7, if_pos rfl, h8, ob_some, h9, ob_some]
        have fin : jn_Resolver_findTime_107 (nI st) us s0 vals fl 0 1 = some ((if st = 2 ∨ decide (val fl Y 10 ≤ 59 ∧ val fl Y 11 ≤ 59) = true then 1 else 0), mT 3 us, iI (3600 * 0 + 60 * val fl Y 10 + val fl Y 11)) := by
          rw [T1']
          by_cases s2 : st = 2
          · rw [if_pos (Or.inl s2), if_pos (Or.inl s2)]
            rfl
          · by_cases q3 : val fl Y 10 ≤ 59 ∧ val fl Y 11 ≤ 59
            · rw [if_pos (Or.inr ⟨rfl, q3⟩), if_pos (Or.inr (decide_eq_true q3))]
              rfl
            · rw [if_neg (by
                rintro (q | q)
                · exact s2 q
                · exact q3 q.2), if_neg (by
                rintro (q | q)
                · exact s2 q
                · exact q3 (of_decide_eq_true q))]
              rfl
        rcases a8 with b8 | b8
        · rw [if_pos b8]
          exact fin
        · rw [if_neg (by rw [b8]; exact o1)]
          rcases a9 with b9 | b9
          · rw [if_pos b9]
            exact fin
          · exact absurd ⟨b8, b9⟩ hf
      · have fin : jn_SkeletonClockModel_properTime_34 kn va = some (if decide (val fl Y 10 ≤ 59 ∧ val fl Y 11 ≤ 59) = true then 1 else 0) := by
          unfold jn_SkeletonClockModel_properTime_34 jn_SkeletonClockModel_properTime_35
          rw [w7, v7, ob_some, if_pos (show (0 : Int) ≤ 23 by decide), if_neg o1, if_pos rfl, j66]
          by_cases q3 : val fl Y 10 ≤ 59 ∧ val fl Y 11 ≤ 59
          · rw [if_pos q3, if_pos (decide_eq_true q3)]
          · rw [if_neg q3, if_neg (fun w => q3 (of_decide_eq_true w))]
        unfold f_SkeletonClockModel_properTime
        rw [c7, c8, c9, K7, K8, K9, b7, if_pos rfl]
        rcases a8 with b8 | b8
        · rw [if_pos b8]
          exact fin
        · rw [if_neg (by rw [b8]; exact o1)]
          rcases a9 with b9 | b9
          · rw [if_pos b9]
            exact fin
          · exact absurd ⟨b8, b9⟩ hf
  · -- by the hour
    obtain ⟨k7, y7, -, z7⟩ := ky_1 h 7 (by decide) b7
    have q7 := y7.2.1 (by decide) (by decide)
    have z7' : va 7 = jI (Y 7) := z7
    have v7 : val fl Y 7 = Y 7 := by
      unfold val
      rw [if_pos b7]
    refine ⟨1, Y 7, decide (Y 7 ≤ 23 ∧ val fl Y 10 ≤ 59 ∧ val fl Y 11 ≤ 59), by decide, by decide, ⟨fun _ => b7, fun _ => rfl⟩, ⟨fun q => absurd q (by decide), fun q => by have := q.1; rw [b7] at this; exact absurd this o1⟩, q7.1, by omega, ?_, ?_, ?_⟩
    · unfold f_SkeletonClockModel_hour
      rw [c7, K7, b7, if_neg o1, z7']
    · unfold f_Resolver_findTime jn_Resolver_findTime_32
      rw [h7, ob_some, b7, if_neg o1, u7, ob_some, v7]
      dsimp only
      rw [T0, T1, k32_23]
      by_cases q1 : 23 < Y 7
      · rw [if_pos ((iI_lt (by omega) (by omega)).mpr q1)]
        by_cases s2 : st = 2
        · rw [if_pos (Or.inl s2), if_pos (Or.inl s2)]
          rfl
        · rw [if_neg (by
            rintro (q | q)
            · exact s2 q
            · exact absurd q.1 (by decide)), if_neg (by
            rintro (q | q)
            · exact s2 q
            · have := of_decide_eq_true q
              omega)]
          rfl
      · rw [if_neg (fun w => q1 ((iI_lt (by omega) (by omega)).mp w))]
        by_cases s2 : st = 2
        · rw [if_pos (Or.inl s2), if_pos (Or.inl s2)]
          rfl
        · by_cases q3 : val fl Y 10 ≤ 59 ∧ val fl Y 11 ≤ 59
          · rw [if_pos (Or.inr ⟨rfl, q3⟩), if_pos (Or.inr (decide_eq_true ⟨by omega, q3⟩))]
            rfl
          · rw [if_neg (by
              rintro (q | q)
              · exact s2 q
              · exact q3 q.2), if_neg (by
              rintro (q | q)
              · exact s2 q
              · exact q3 (of_decide_eq_true q).2)]
            rfl
    · unfold f_SkeletonClockModel_properTime jn_SkeletonClockModel_properTime_34 jn_SkeletonClockModel_properTime_35
      rw [c7, K7, b7, if_neg o1, w7, v7, ob_some, j66]
      by_cases q1 : Y 7 ≤ 23
      · rw [if_pos q1, if_neg o1, if_pos rfl]
        by_cases q3 : val fl Y 10 ≤ 59 ∧ val fl Y 11 ≤ 59
        · rw [if_pos q3, if_pos (decide_eq_true ⟨q1, q3⟩)]
        · rw [if_neg q3, if_neg (fun w => q3 (of_decide_eq_true w).2)]
      · rw [if_neg q1, if_pos rfl, if_neg (fun w => q1 (of_decide_eq_true w).1)]
