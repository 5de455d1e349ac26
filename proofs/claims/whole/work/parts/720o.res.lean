/-! read: what a reading makes of what is known, on both sides. -/
theorem jI_mod {a : Int} (h : 0 ≤ a ∧ a ≤ 100000000) : jI a - jI a / 86400 * 86400 = jI (a % 86400) ∧ jI a / 86400 = jI (a / 86400) := by
  rw [k64_86400, jI_div (by omega) (by omega), td_pos h.1, jI_mul, jI_sub]
  refine ⟨?_, rfl⟩
  congr 1
  omega
theorem val_o {fl vals kn : Nat → Int32} {va : Nat → Int64} {Y : Nat → Int} (h : KY fl vals kn va Y) : (-1080 ≤ val fl Y 13 ∧ val fl Y 13 ≤ 1080) ∧ 0 ≤ val fl Y 12 ∧ val fl Y 12 ≤ 999999999 := by
  unfold val
  constructor
  · split
    · rename_i q
      exact (ky_1 h 13 (by decide) q).2.1.2.2.2.2.2 rfl
    · omega
  · split
    · rename_i q
      exact (ky_1 h 12 (by decide) q).2.1.2.2.2.2.1 rfl
    · omega
theorem ct_c {fl vals kn : Nat → Int32} {va : Nat → Int64} {Y : Nat → Int} {r t dN : Nat} {db all : Int} (h : KY fl vals kn va Y) (hr : r < 4) (ht : t < 4) (hdb : -390000000000 ≤ db ∧ db ≤ 390000000000) (hall : 0 ≤ all ∧ all ≤ 8000000) (hdN : dN ≤ 1) (h0 : dN = 0 → db = 0) (X P : Int32) (a : Int64) (b : Int32) (c : Nat → Int32) {d : Int} (hd : d = if dN = 0 then 0 else db + all / 86400) : ∃ g v D', jn_Resolver_resolve_126 X (MM r t) (jI db) (iI all) a b c vals fl P (nI dN) = some (g, X, MM r t, D', iI all, jI (86400 * d + all % 86400 - 60 * val fl Y 13), P, v) ∧ (∀ k, k < 14 → v k = iI (FV d (all % 86400) (val fl Y 12) (val fl Y 13) k)) ∧ ((g = 1 ∧ ∀ i, i < 13 → fl i = 1 → usB r t i = false → Y i = FV d (all % 86400) (val fl Y 12) (val fl Y 13) i) ∨ (g = 0 ∧ ∃ i, i < 13 ∧ fl i = 1 ∧ usB r t i = false ∧ Y i ≠ FV d (all % 86400) (val fl Y 12) (val fl Y 13) i)) := by
  obtain ⟨vo, vn⟩ := val_o h
  have j := jI_mod (a := all) (by omega)
  have db2 : -400000000000 ≤ d ∧ d ≤ 400000000000 := by
    rw [hd]
    split <;> omega
  have v13 : f_Known_value vals fl 13 = some (iI (val fl Y 13)) := va_c h (i := 13) (by decide)
  have v12 : f_Known_value vals fl 12 = some (iI (val fl Y 12)) := va_c h (i := 12) (by decide)
  obtain ⟨v, s1, s2⟩ := se_c (sc := 86400 * d + all % 86400 - 60 * val fl Y 13) (o := val fl Y 13) (by omega) (by omega) a b c (iI (val fl Y 12)) P
  have e1 : (86400 * d + all % 86400 - 60 * val fl Y 13 + 60 * val fl Y 13) / 86400 = d := by omega
  have e2 : (86400 * d + all % 86400 - 60 * val fl Y 13 + 60 * val fl Y 13) % 86400 = all % 86400 := by omega
  rw [e1, e2] at s2
  have hv : ∀ k, k < 14 → v k = iI (FV d (all % 86400) (val fl Y 12) (val fl Y 13) k) := fun k hk => by rw [s2 k hk, VV_FV _ _ _ _ _ hk]
  have core : ∀ D' : Int64, D' = jI d → ∃ g, jn_Resolver_resolve_149 X (MM r t) D' (iI all) a b c vals fl P = some (g, X, MM r t, D', iI all, jI (86400 * d + all % 86400 - 60 * val fl Y 13), P, v) ∧ ((g = 1 ∧ ∀ i, i < 13 → fl i = 1 → usB r t i = false → Y i = FV d (all % 86400) (val fl Y 12) (val fl Y 13) i) ∨ (g = 0 ∧ ∃ i, i < 13 ∧ fl i = 1 ∧ usB r t i = false ∧ Y i ≠ FV d (all % 86400) (val fl Y 12) (val fl Y 13) i)) := by
    intro D' hD'
    have sc : (D' * 86400 + (Int32.toInt64 (iI all) - Int32.toInt64 (iI all) / 86400 * 86400)) - 60 * Int32.toInt64 (iI (val fl Y 13)) = jI (86400 * d + all % 86400 - 60 * val fl Y 13) := by
      rw [hD', i2j (by omega), j.1, i2j (by omega), k64_60, k64_86400, jI_mul, jI_mul, jI_add, jI_sub, Int.mul_comm d]
    unfold jn_Resolver_resolve_149 f_Resolver_agrees
    rw [v13, ob_some, v12, ob_some, sc, s1, ob_some]
    dsimp only
    rcases ag_l (v := v) (d := d) (s := all % 86400) (nn := val fl Y 12) (o := val fl Y 13) h hr ht hv (fun i hi => FV_i db2 (by omega) vn vo hi) 13 0 FU (by omega) (by unfold FU; omega) with ⟨p, q⟩ | ⟨p, i, q⟩
    · rw [← kk0] at p
      rw [p, ob_some]
      exact ⟨1, by show (some (1 : Int32)).bind _ = _; rw [ob_some, if_pos (Or.inr rfl)], Or.inl ⟨rfl, fun i hi => q i (Nat.zero_le _) hi⟩⟩
    · rw [← kk0] at p
      rw [p, ob_some]
      exact ⟨0, by show (some (0 : Int32)).bind _ = _; rw [ob_some, if_pos (Or.inl rfl)], Or.inr ⟨rfl, i, q.2⟩⟩
  unfold jn_Resolver_resolve_126
  by_cases z : dN = 0
  · rw [if_pos (by rw [z]; decide)]
    obtain ⟨g, p, q⟩ := core (jI db) (by rw [h0 z, hd, if_pos z])
    exact ⟨g, v, _, p, hv, q⟩
  · rw [if_neg (nI_ne0 (by omega) (by omega)), i2j (by omega), j.2, jI_add]
    obtain ⟨g, p, q⟩ := core (jI (db + all / 86400)) (by rw [hd, if_neg z])
    exact ⟨g, v, _, p, hv, q⟩
theorem rt_c {fl vals kn : Nat → Int32} {va : Nat → Int64} {Y : Nat → Int} {r dN tN oN : Nat} {db hr : Int} {RP RS RN RO : Int32} {RD : Int64} (h : KY fl vals kn va Y) (hr4 : r < 4) (hdb : -390000000000 ≤ db ∧ db ≤ 390000000000) (hdN : dN ≤ 1) (htN : tN ≤ 1) (hoN : oN ≤ 1) (hoE : oN = 1 ↔ fl 13 = 1) (h00 : r = 0 → ∀ i, i < 7 → fl i = 0) (hhr : 0 ≤ hr ∧ hr ≤ 2000) (hho : f_SkeletonClockModel_hour kn va = some (jI hr)) {d all : Int} (hal : all = 3600 * hr + 60 * val fl Y 10 + val fl Y 11) (hd : d = if dN = 0 then 0 else db + all / 86400) : (jn_SkeletonClockModel_resolve_100 RP RD RS RN RO kn va (nI dN) (nI tN) (nI r) (jI db) = some (1, nI (dN + 2 * tN + 4 * oN), jI d, iI (all % 86400), iI (val fl Y 12), iI (val fl Y 13)) ∧ (∀ i, i < 7 → fl i = 1 → usB r 0 i = false → Y i = FV d (all % 86400) (val fl Y 12) (val fl Y 13) i) ∧ ∀ f, 8 ≤ f → f < 10 → fl f = 1 → ¬ (fl 7 = 0 ∧ fl 8 = 1 ∧ fl 9 = 1) → Y f = FV d (all % 86400) (val fl Y 12) (val fl Y 13) f) ∨ (jn_SkeletonClockModel_resolve_100 RP RD RS RN RO kn va (nI dN) (nI tN) (nI r) (jI db) = some (0, RP, RD, RS, RN, RO) ∧ ((∃ i, i < 7 ∧ fl i = 1 ∧ usB r 0 i = false ∧ Y i ≠ FV d (all % 86400) (val fl Y 12) (val fl Y 13) i) ∨ ∃ f, 8 ≤ f ∧ f < 10 ∧ fl f = 1 ∧ ¬ (fl 7 = 0 ∧ fl 8 = 1 ∧ fl 9 = 1) ∧ Y f ≠ FV d (all % 86400) (val fl Y 12) (val fl Y 13) f)) := by
  obtain ⟨vo, vn⟩ := val_o h
  have b10 := val_b h (i := 10) (by decide)
  have b11 := val_b h (i := 11) (by decide)
  have hall : 0 ≤ all ∧ all ≤ 8000000 := by omega
  have j := jI_mod (a := all) (by omega)
  have db2 : -400000000000 ≤ d ∧ d ≤ 400000000000 := by
    rw [hd]
    split <;> omega
  have hb : ∀ i, i < 14 → -2147483648 ≤ FV d (all % 86400) (val fl Y 12) (val fl Y 13) i ∧ FV d (all % 86400) (val fl Y 12) (val fl Y 13) i < 2147483648 := fun i hi => FV_i db2 (by omega) vn vo hi
  have o1 : ¬ (1 : Int32) = 0 := by decide
  have c7 : (7 : Int32).toNatClampNeg = 7 := by decide
  have c8 : (8 : Int32).toNatClampNeg = 8 := by decide
  have c9 : (9 : Int32).toNatClampNeg = 9 := by decide
  have c10 : (10 : Int32).toNatClampNeg = 10 := by decide
  have c11 : (11 : Int32).toNatClampNeg = 11 := by decide
  have c12 : (12 : Int32).toNatClampNeg = 12 := by decide
  have c13 : (13 : Int32).toNatClampNeg = 13 := by decide
  have K7 : kn 7 = fl 7 := (ky_01 h 7 (by decide)).2
  have K8 : kn 8 = fl 8 := (ky_01 h 8 (by decide)).2
  have K9 : kn 9 = fl 9 := (ky_01 h 9 (by decide)).2
  -- the seconds
  have e177 : jn_SkeletonClockModel_resolve_100 RP RD RS RN RO kn va (nI dN) (nI tN) (nI r) (jI db) = jn_SkeletonClockModel_resolve_177 RP RD RS RN RO kn va (nI dN) (nI tN) (nI r) (jI all) (jI d) := by
    have k3600 : (3600 : Int64) = jI 3600 := by decide
    have e157 : jn_SkeletonClockModel_resolve_157 RP RD RS RN RO kn va (nI dN) (nI tN) (nI r) (jI db) (jI (3600 * hr + 60 * val fl Y 10)) (jI (val fl Y 11)) = jn_SkeletonClockModel_resolve_177 RP RD RS RN RO kn va (nI dN) (nI tN) (nI r) (jI all) (jI d) := by
      unfold jn_SkeletonClockModel_resolve_157
      rw [jI_add, ← hal, j.2, jI_add]
      by_cases z : dN = 0
      · rw [if_pos (by rw [z]; decide), hd, if_pos z]
        rfl
      · rw [if_neg (nI_ne0 (by omega) (by omega)), hd, if_neg z]
    have e134 : jn_SkeletonClockModel_resolve_134 RP RD RS RN RO kn va (nI dN) (nI tN) (nI r) (jI db) (jI (3600 * hr)) 60 (jI (val fl Y 10)) = jn_SkeletonClockModel_resolve_177 RP RD RS RN RO kn va (nI dN) (nI tN) (nI r) (jI all) (jI d) := by
      unfold jn_SkeletonClockModel_resolve_134
      rw [c11, k64_60, jI_mul, jI_add]
      rcases h 11 (by decide) with ⟨a, b⟩ | ⟨a, b, -, -, e⟩
      · have b' : kn 11 = 0 := b
        have v0 : val fl Y 11 = 0 := by
          unfold val
          rw [a, if_neg (by decide)]
        rw [if_pos b']
        rw [v0] at e157
        exact e157
      · have b' : kn 11 = 1 := b
        have e' : va 11 = jI (Y 11) := e
        have v0 : val fl Y 11 = Y 11 := by
          unfold val
          rw [if_pos a]
        rw [if_neg (by rw [b']; exact o1), e', ← v0]
        exact e157
    unfold jn_SkeletonClockModel_resolve_100
    rw [hho, ob_some, c10, k3600, jI_mul]
    rcases h 10 (by decide) with ⟨a, b⟩ | ⟨a, b, -, -, e⟩
    · have b' : kn 10 = 0 := b
      have v0 : val fl Y 10 = 0 := by
        unfold val
        rw [a, if_neg (by decide)]
      rw [if_pos b']
      rw [v0] at e134
      exact e134
    · have b' : kn 10 = 1 := b
      have e' : va 10 = jI (Y 10) := e
      have v0 : val fl Y 10 = Y 10 := by
        unfold val
        rw [if_pos a]
      rw [if_neg (by rw [b']; exact o1), e', ← v0]
      exact e134
  -- the end
  have e344 : (if nI dN = 0 then jn_SkeletonClockModel_resolve_344 RP RD RS RN RO kn va (nI tN) (jI d) (iI (all % 86400)) 0 else jn_SkeletonClockModel_resolve_344 RP RD RS RN RO kn va (nI tN) (jI d) (iI (all % 86400)) 1) = some (1, nI (dN + 2 * tN + 4 * oN), jI d, iI (all % 86400), iI (val fl Y 12), iI (val fl Y 13)) := by
    have e408 : ∀ s1 : Int32, jn_SkeletonClockModel_resolve_408 s1 (jI d) (iI (all % 86400)) RN RO kn va (iI (val fl Y 12)) = some (1, s1, jI d, iI (all % 86400), iI (val fl Y 12), iI (val fl Y 13)) := by
      intro s1
      unfold jn_SkeletonClockModel_resolve_408
      rw [c13]
      rcases h 13 (by decide) with ⟨a, b⟩ | ⟨a, b, -, -, e⟩
      · have b' : kn 13 = 0 := b
        have v0 : val fl Y 13 = 0 := by
          unfold val
          rw [a, if_neg (by decide)]
        rw [if_pos b', v0]
        rfl
      · have b' : kn 13 = 1 := b
        have e' : va 13 = jI (Y 13) := e
        have v0 : val fl Y 13 = Y 13 := by
          unfold val
          rw [if_pos a]
        rw [if_neg (by rw [b']; exact o1), e', j2i, v0]
    have e369 : ∀ s1 s2 : Int32, jn_SkeletonClockModel_resolve_369 RP RD RS RN RO kn va (jI d) (iI (all % 86400)) s1 s2 = some (1, s1 + s2, jI d, iI (all % 86400), iI (val fl Y 12), iI (val fl Y 13)) := by
      intro s1 s2
      unfold jn_SkeletonClockModel_resolve_369
      rw [c12]
      rcases h 12 (by decide) with ⟨a, b⟩ | ⟨a, b, -, -, e⟩
      · have b' : kn 12 = 0 := b
        have v0 : val fl Y 12 = 0 := by
          unfold val
          rw [a, if_neg (by decide)]
        have := e408 (s1 + s2)
        rw [v0] at this
        rw [if_pos b', v0]
        exact this
      · have b' : kn 12 = 1 := b
        have e' : va 12 = jI (Y 12) := e
        have v0 : val fl Y 12 = Y 12 := by
          unfold val
          rw [if_pos a]
        rw [if_neg (by rw [b']; exact o1), e', j2i, ← v0]
        exact e408 (s1 + s2)
    have e353 : ∀ s1 s2 : Int32, jn_SkeletonClockModel_resolve_353 RP RD RS RN RO kn va (jI d) (iI (all % 86400)) s1 s2 = some (1, s1 + s2 + nI (4 * oN), jI d, iI (all % 86400), iI (val fl Y 12), iI (val fl Y 13)) := by
      intro s1 s2
      unfold jn_SkeletonClockModel_resolve_353
      rw [c13, e369, e369]
      rcases h 13 (by decide) with ⟨a, b⟩ | ⟨a, b, -⟩
      · have b' : kn 13 = 0 := b
        have z : oN = 0 := by
          by_cases q : oN = 1
          · have := hoE.mp q
            rw [a] at this
            exact absurd this (by decide)
          · omega
        rw [if_pos b', z]
        rfl
      · have b' : kn 13 = 1 := b
        rw [if_neg (by rw [b']; exact o1), hoE.mpr a]
        rfl
    unfold jn_SkeletonClockModel_resolve_344
    rw [e353, e353, e353, e353]
    rcases (show dN = 0 ∨ dN = 1 by omega) with rfl | rfl
    · rw [if_pos (by decide)]
      rcases (show tN = 0 ∨ tN = 1 by omega) with rfl | rfl
      · rw [if_pos (by decide)]
        have e : (0 : Int32) + 0 + nI (4 * oN) = nI (0 + 2 * 0 + 4 * oN) := by
          have : (0 : Int32) + 0 = nI 0 := by decide
          rw [this, nI_add]
        rw [e]
      · rw [if_neg (by decide)]
        have e : (0 : Int32) + 2 + nI (4 * oN) = nI (0 + 2 * 1 + 4 * oN) := by
          have : (0 : Int32) + 2 = nI 2 := by decide
          rw [this, nI_add]
        rw [e]
    · rw [if_neg (by decide)]
      rcases (show tN = 0 ∨ tN = 1 by omega) with rfl | rfl
      · rw [if_pos (by decide)]
        have e : (1 : Int32) + 0 + nI (4 * oN) = nI (1 + 2 * 0 + 4 * oN) := by
          have : (1 : Int32) + 0 = nI 1 := by decide
          rw [this, nI_add]
        rw [e]
      · rw [if_neg (by decide)]
        have e : (1 : Int32) + 2 + nI (4 * oN) = nI (1 + 2 * 1 + 4 * oN) := by
          have : (1 : Int32) + 2 = nI 3 := by decide
          rw [this, nI_add]
        rw [e]
  have e279 : ∀ hf : Int32, (hf = 0 ↔ ¬ (fl 7 = 0 ∧ fl 8 = 1 ∧ fl 9 = 1)) → (jn_SkeletonClockModel_resolve_279 RP RD RS RN RO kn va (nI dN) (nI tN) (jI d) (iI (all % 86400)) hf = some (1, nI (dN + 2 * tN + 4 * oN), jI d, iI (all % 86400), iI (val fl Y 12), iI (val fl Y 13)) ∧ ∀ f, 8 ≤ f → f < 10 → fl f = 1 → ¬ (fl 7 = 0 ∧ fl 8 = 1 ∧ fl 9 = 1) → Y f = FV d (all % 86400) (val fl Y 12) (val fl Y 13) f) ∨ (jn_SkeletonClockModel_resolve_279 RP RD RS RN RO kn va (nI dN) (nI tN) (jI d) (iI (all % 86400)) hf = some (0, RP, RD, RS, RN, RO) ∧ ∃ f, 8 ≤ f ∧ f < 10 ∧ fl f = 1 ∧ ¬ (fl 7 = 0 ∧ fl 8 = 1 ∧ fl 9 = 1) ∧ Y f ≠ FV d (all % 86400) (val fl Y 12) (val fl Y 13) f) := by
    intro hf hh
    unfold jn_SkeletonClockModel_resolve_279
    have k8 : (8 : Int32) = nI 8 := by decide
    rcases d285_l (RP := RP) (RD := RD) (RS := RS) (RN := RN) (RO := RO) (x2 := nI dN) (x3 := nI tN) (x5 := jI d) (hf := hf) (d := d) (s := all % 86400) (nn := val fl Y 12) (o := val fl Y 13) h (by omega) hb 2 8 FU (by omega) (by omega) (by unfold FU; omega) with ⟨⟨z, p⟩, q⟩ | ⟨p, f, q1, q2, q3, q4, q5⟩
    · refine Or.inl ⟨?_, fun f f1 f2 f3 f4 => q f f1 f2 f3 (hh.mpr f4)⟩
      rw [k8, p, ob_some]
      exact e344
    · refine Or.inr ⟨?_, f, q1, q2, q3, hh.mp q4, q5⟩
      rw [k8, p, ob_some]
      rfl
  rw [e177]
  unfold jn_SkeletonClockModel_resolve_177 jn_SkeletonClockModel_resolve_278
  rw [j.1, j2i]
  rcases d191_l (RP := RP) (RD := RD) (RS := RS) (RN := RN) (RO := RO) (x2 := nI dN) (x3 := nI tN) (x9 := iI (all % 86400)) (d := d) (s := all % 86400) (nn := val fl Y 12) (o := val fl Y 13) h hr4 db2 hb h00 7 0 FU (by omega) (by unfold FU; omega) with ⟨⟨z, p⟩, q⟩ | ⟨p, f, q1, q2, q3, q4, q5⟩
  · have q' : ∀ i, i < 7 → fl i = 1 → usB r 0 i = false → Y i = FV d (all % 86400) (val fl Y 12) (val fl Y 13) i := by
      intro i hi i1 i2
      obtain ⟨g1, g2⟩ := cx_on i hi
      have := q (fx i) (Nat.zero_le _) g2
      rw [g1] at this
      exact this i1 i2
    rw [← kk0] at p
    rw [p, ob_some, c7, c8, c9, K7, K8, K9]
    have fin : ∀ hf : Int32, (hf = 0 ↔ ¬ (fl 7 = 0 ∧ fl 8 = 1 ∧ fl 9 = 1)) → (jn_SkeletonClockModel_resolve_279 RP RD RS RN RO kn va (nI dN) (nI tN) (jI d) (iI (all % 86400)) hf = some (1, nI (dN + 2 * tN + 4 * oN), jI d, iI (all % 86400), iI (val fl Y 12), iI (val fl Y 13)) ∧ (∀ i, i < 7 → fl i = 1 → usB r 0 i = false → Y i = FV d (all % 86400) (val fl Y 12) (val fl Y 13) i) ∧ ∀ f, 8 ≤ f → f < 10 → fl f = 1 → ¬ (fl 7 = 0 ∧ fl 8 = 1 ∧ fl 9 = 1) → Y f = FV d (all % 86400) (val fl Y 12) (val fl Y 13) f) ∨ (jn_SkeletonClockModel_resolve_279 RP RD RS RN RO kn va (nI dN) (nI tN) (jI d) (iI (all % 86400)) hf = some (0, RP, RD, RS, RN, RO) ∧ ((∃ i, i < 7 ∧ fl i = 1 ∧ usB r 0 i = false ∧ Y i ≠ FV d (all % 86400) (val fl Y 12) (val fl Y 13) i) ∨ ∃ f, 8 ≤ f ∧ f < 10 ∧ fl f = 1 ∧ ¬ (fl 7 = 0 ∧ fl 8 = 1 ∧ fl 9 = 1) ∧ Y f ≠ FV d (all % 86400) (val fl Y 12) (val fl Y 13) f)) := by
      intro hf hh
      rcases e279 hf hh with ⟨g1, g2⟩ | ⟨g1, g2⟩
      · exact Or.inl ⟨g1, q', g2⟩
      · exact Or.inr ⟨g1, Or.inr g2⟩
    show (if fl 7 = 0 then _ else _) = _ ∧ _ ∨ (if fl 7 = 0 then _ else _) = _ ∧ _
    have o2 : ¬ (0 : Int32) = 1 := by decide
    rcases (ky_01 h 7 (by decide)).1 with b7 | b7
    · rw [if_pos b7]
      rcases (ky_01 h 8 (by decide)).1 with b8 | b8
      · rw [if_pos b8]
        exact fin 0 ⟨fun _ w => by rw [b8] at w; exact o2 w.2.1, fun _ => rfl⟩
      · rw [if_neg (by rw [b8]; exact o1)]
        rcases (ky_01 h 9 (by decide)).1 with b9 | b9
        · rw [if_pos b9]
          exact fin 0 ⟨fun _ w => by rw [b9] at w; exact o2 w.2.2, fun _ => rfl⟩
        · rw [if_neg (by rw [b9]; exact o1)]
          exact fin 1 ⟨fun w => absurd w o1, fun w => absurd ⟨b7, b8, b9⟩ w⟩
    · rw [if_neg (by rw [b7]; exact o1)]
      exact fin 0 ⟨fun _ w => by rw [b7] at w; exact o1 w.1, fun _ => rfl⟩
  · rw [← kk0] at p
    rw [p, ob_some]
    exact Or.inr ⟨rfl, Or.inl ⟨cix f, (cx_tab f q2).2, q3, q4, q5⟩⟩
