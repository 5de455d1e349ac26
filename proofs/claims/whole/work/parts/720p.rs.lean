/-! read: resolve, on both sides. -/
theorem ag_x {fl : Nat → Int32} {Y F : Nat → Int} {r t : Nat} (hr : r < 4) (ht : t < 4) (h01 : ∀ i, i < 14 → fl i = 0 ∨ fl i = 1) (hT : (t = 0 ∧ ∀ i, 7 ≤ i → i ≤ 12 → fl i = 0) ∨ (1 ≤ t ∧ (t = 1 ↔ fl 7 = 1) ∧ (t = 2 ↔ fl 7 = 0 ∧ fl 8 = 1 ∧ fl 9 = 1))) : (∀ i, i < 13 → fl i = 1 → usB r t i = false → Y i = F i) ↔ ((∀ i, i < 7 → fl i = 1 → usB r 0 i = false → Y i = F i) ∧ ∀ f, 8 ≤ f → f < 10 → fl f = 1 → ¬ (fl 7 = 0 ∧ fl 8 = 1 ∧ fl 9 = 1) → Y f = F f) := by
  obtain ⟨u8, u9, u7, u10⟩ := us_hi r hr t ht
  have o1 : ¬ (0 : Int32) = 1 := by decide
  constructor
  · intro h
    refine ⟨fun i hi i1 i2 => h i (by omega) i1 (by rw [us_lo r hr t ht i hi]; exact i2), fun f f1 f2 f3 f4 => ?_⟩
    refine h f (by omega) f3 ?_
    have t2 : (t == 2) = false := by
      rcases hT with ⟨a, b⟩ | ⟨-, -, b⟩
      · rw [a]
        rfl
      · have : t ≠ 2 := fun q => f4 (b.mp q)
        simpa using this
    rcases (show f = 8 ∨ f = 9 by omega) with rfl | rfl
    · rw [u8, t2]
    · rw [u9, t2]
  · rintro ⟨h1, h2⟩ i hi i1 i2
    by_cases a : i < 7
    · exact h1 i a i1 (by rw [← us_lo r hr t ht i a]; exact i2)
    · rcases hT with ⟨t0, b⟩ | ⟨t1, b, c⟩
      · have := b i (by omega) (by omega)
        rw [this] at i1
        exact absurd i1 o1
      · rcases (show i = 7 ∨ i = 8 ∨ i = 9 ∨ i = 10 ∨ i = 11 ∨ i = 12 by omega) with rfl | rfl | rfl | rfl | rfl | rfl
        · rw [u7, b.mpr i1] at i2
          exact absurd i2 (by decide)
        · refine h2 8 (by decide) (by decide) i1 (fun w => ?_)
          rw [u8, c.mpr w] at i2
          exact absurd i2 (by decide)
        · refine h2 9 (by decide) (by decide) i1 (fun w => ?_)
          rw [u9, c.mpr w] at i2
          exact absurd i2 (by decide)
        · rw [(u10 t1).1] at i2
          exact absurd i2 (by decide)
        · rw [(u10 t1).2.1] at i2
          exact absurd i2 (by decide)
        · rw [(u10 t1).2.2] at i2
          exact absurd i2 (by decide)
/-- both sides fail, or both make the same moment -/
def RZ (RP : Int32) (RD : Int64) (RS RN RO : Int32) (P : Nat) (a : Option (Int32 × Int32 × Int32 × Int64 × Int32 × Int64 × Int32 × (Nat → Int32))) (b : Option (Int32 × Int32 × Int64 × Int32 × Int32 × Int32)) : Prop := ∃ rc rm, a = some rc ∧ b = some rm ∧ ((rc.1 = 0 ∧ rm = (0, RP, RD, RS, RN, RO)) ∨ (rc.1 = 1 ∧ ∃ d s nn o : Int, (-400000000000 ≤ d ∧ d ≤ 400000000000) ∧ (0 ≤ s ∧ s < 86400) ∧ (0 ≤ nn ∧ nn ≤ 999999999) ∧ (-1080 ≤ o ∧ o ≤ 1080) ∧ rm = (1, nI P, jI d, iI s, iI nn, iI o) ∧ rc.2.2.2.2.2.1 = jI (86400 * d + s - 60 * o) ∧ rc.2.2.2.2.2.2.1 = nI P ∧ ∀ k, k < 14 → rc.2.2.2.2.2.2.2 k = iI (FV d s nn o k)))
theorem tz_c {fl vals kn : Nat → Int32} {va : Nat → Int64} {Y : Nat → Int} {r t dN tN oN st : Nat} {db hr : Int} {RP RS RN RO : Int32} {RD : Int64} (h : KY fl vals kn va Y) (hr4 : r < 4) (ht : t < 4) (hdb : -390000000000 ≤ db ∧ db ≤ 390000000000) (hdN : dN ≤ 1) (htN : tN ≤ 1) (hoN : oN ≤ 1) (hoE : oN = 1 ↔ fl 13 = 1) (h0 : dN = 0 → db = 0) (h00 : r = 0 → ∀ i, i < 7 → fl i = 0) (hT : (t = 0 ∧ ∀ i, 7 ≤ i → i ≤ 12 → fl i = 0) ∨ (1 ≤ t ∧ (t = 1 ↔ fl 7 = 1) ∧ (t = 2 ↔ fl 7 = 0 ∧ fl 8 = 1 ∧ fl 9 = 1))) (hhr : 0 ≤ hr ∧ hr ≤ 2000) (hho : f_SkeletonClockModel_hour kn va = some (jI hr)) (a : Int64) (b : Int32) (c : Nat → Int32) (hday : dN = 1 → f_SkeletonClockModel_dayBy va (nI r) (nI st) = some (jI db)) {all : Int} (hal : all = 3600 * hr + 60 * val fl Y 10 + val fl Y 11) : RZ RP RD RS RN RO (dN + 2 * tN + 4 * oN) (jn_Resolver_resolve_126 (nI st) (MM r t) (jI db) (iI all) a b c vals fl (nI (dN + 2 * tN + 4 * oN)) (nI dN)) (jn_SkeletonClockModel_resolve_85 RP RD RS RN RO kn va (nI st) (nI dN) (nI tN) (nI r)) := by
  have b10 := val_b h (i := 10) (by decide)
  have b11 := val_b h (i := 11) (by decide)
  obtain ⟨vo, vn⟩ := val_o h
  have e100 : jn_SkeletonClockModel_resolve_85 RP RD RS RN RO kn va (nI st) (nI dN) (nI tN) (nI r) = jn_SkeletonClockModel_resolve_100 RP RD RS RN RO kn va (nI dN) (nI tN) (nI r) (jI db) := by
    unfold jn_SkeletonClockModel_resolve_85
    by_cases z : dN = 0
    · rw [if_pos (by rw [z]; decide), h0 z]
      rfl
    · rw [if_neg (nI_ne0 (by omega) (by omega)), hday (by omega), ob_some]
  obtain ⟨g, v, D', c1, c2, c3⟩ := ct_c (r := r) (t := t) (dN := dN) (db := db) (all := all) h hr4 ht hdb (by omega) hdN h0 (nI st) (nI (dN + 2 * tN + 4 * oN)) a b c rfl
  have db2 : -400000000000 ≤ (if dN = 0 then 0 else db + all / 86400) ∧ (if dN = 0 then 0 else db + all / 86400) ≤ 400000000000 := by
    split <;> omega
  have ag := ag_x (F := FV (if dN = 0 then 0 else db + all / 86400) (all % 86400) (val fl Y 12) (val fl Y 13)) (Y := Y) hr4 ht (fun i hi => (ky_01 h i hi).1) hT
  rcases rt_c (RP := RP) (RD := RD) (RS := RS) (RN := RN) (RO := RO) (tN := tN) (oN := oN) h hr4 hdb hdN htN hoN hoE h00 hhr hho hal (d := if dN = 0 then 0 else db + all / 86400) rfl with ⟨m1, m2, m3⟩ | ⟨m1, m2⟩
  · refine ⟨_, _, c1, by rw [e100, m1], ?_⟩
    rcases c3 with ⟨g1, -⟩ | ⟨g1, i, i1, i2, i3, i4⟩
    · exact Or.inr ⟨g1, _, _, _, _, db2, by omega, vn, vo, rfl, rfl, rfl, c2⟩
    · exact absurd (ag.mpr ⟨m2, m3⟩ i i1 i2 i3) i4
  · refine ⟨_, _, c1, by rw [e100, m1], ?_⟩
    rcases c3 with ⟨g1, g2⟩ | ⟨g1, -⟩
    · exfalso
      obtain ⟨p1, p2⟩ := ag.mp g2
      rcases m2 with ⟨i, i1, i2, i3, i4⟩ | ⟨f, f1, f2, f3, f4, f5⟩
      · exact i4 (p1 i i1 i2 i3)
      · exact f5 (p2 f f1 f2 f3 f4)
    · exact Or.inl ⟨g1, rfl⟩
theorem t67_c {fl vals kn : Nat → Int32} {va : Nat → Int64} {Y : Nat → Int} {r dN tN oN st : Nat} {db : Int} {RP RS RN RO : Int32} {RD : Int64} (h : KY fl vals kn va Y) (hst : st ≤ 2) (hr4 : r < 4) (hdb : -390000000000 ≤ db ∧ db ≤ 390000000000) (hdN : dN ≤ 1) (htN : tN ≤ 1) (hoN : oN ≤ 1) (hoE : oN = 1 ↔ fl 13 = 1) (h0 : dN = 0 → db = 0) (h00 : r = 0 → ∀ i, i < 7 → fl i = 0) (hT0 : tN = 0 → ∀ i, 7 ≤ i → i ≤ 12 → fl i = 0) (a : Int64) (b : Int32) (c : Nat → Int32) (hday : dN = 1 → f_SkeletonClockModel_dayBy va (nI r) (nI st) = some (jI db)) : RZ RP RD RS RN RO (dN + 2 * tN + 4 * oN) (jn_Resolver_resolve_111 (nI st) (maskD r) (jI db) 0 a b c vals fl (nI (dN + 2 * tN + 4 * oN)) (nI dN) (nI tN)) (jn_SkeletonClockModel_resolve_67 RP RD RS RN RO kn va (nI st) (nI dN) (nI tN) (nI r)) := by
  unfold jn_Resolver_resolve_111 jn_SkeletonClockModel_resolve_67
  rcases (show tN = 0 ∨ tN = 1 by omega) with rfl | rfl
  · have hz := hT0 rfl
    rw [if_pos (by decide), if_pos (by decide)]
    have v0 : ∀ i, 7 ≤ i → i ≤ 12 → val fl Y i = 0 := by
      intro i i1 i2
      unfold val
      rw [hz i i1 i2, if_neg (by decide)]
    have K7 : kn 7 = fl 7 := (ky_01 h 7 (by decide)).2
    have K8 : kn 8 = fl 8 := (ky_01 h 8 (by decide)).2
    have c7 : (7 : Int32).toNatClampNeg = 7 := by decide
    have c8 : (8 : Int32).toNatClampNeg = 8 := by decide
    have hho : f_SkeletonClockModel_hour kn va = some (jI 0) := by
      unfold f_SkeletonClockModel_hour
      rw [c7, c8, K7, K8, if_pos (hz 7 (by decide) (by decide)), if_pos (hz 8 (by decide) (by decide))]
      rfl
    exact tz_c (RP := RP) (RD := RD) (RS := RS) (RN := RN) (RO := RO) (t := 0) (tN := 0) (all := 0) h hr4 (by decide) hdb hdN htN hoN hoE h0 h00 (Or.inl ⟨rfl, hz⟩) (by decide) hho a b c hday (by rw [v0 10 (by decide) (by decide), v0 11 (by decide) (by decide)]; rfl)
  · obtain ⟨t, hr, ok, t1, t2, t3, t4, t5, t6, t7, t8, t9⟩ := ft_c h hst (maskD r) 0
    rw [if_neg (by decide), if_neg (by decide), t8, ob_some, t9, ob_some]
    have good := tz_c (RP := RP) (RD := RD) (RS := RS) (RN := RN) (RO := RO) (st := st) (t := t) (tN := 1) h hr4 (by omega) hdb hdN htN hoN hoE h0 h00 (Or.inr ⟨t1, t3, t4⟩) ⟨t5, t6⟩ t7 a b c hday rfl
    by_cases s2 : st = 2
    · dsimp only
      rw [if_pos (Or.inl s2), if_neg (by decide), if_pos (by rw [s2]; decide)]
      exact good
    · have sg : ¬ (2 : Int32) ≤ nI st := by
        rw [kk2]
        exact nI_ge (by omega) (by decide)
      dsimp only
      rw [if_neg sg]
      cases ok
      · have hno : ¬ (st = 2 ∨ false = true) := by
          rintro (q | q)
          · exact s2 q
          · exact absurd q (by decide)
        have o0 : ¬ false = true := by decide
        rw [if_neg hno, if_pos rfl, if_neg o0, if_pos rfl]
        exact ⟨_, _, rfl, rfl, Or.inl ⟨rfl, rfl⟩⟩
      · have hyes : st = 2 ∨ true = true := Or.inr rfl
        have o1 : ¬ (1 : Int32) = 0 := by decide
        rw [if_pos hyes, if_neg o1, if_pos (rfl : true = true), if_neg o1]
        exact good
theorem rs_c {fl vals kn : Nat → Int32} {va : Nat → Int64} {Y : Nat → Int} {st : Nat} {RP RS RN RO : Int32} {RD : Int64} (h : KY fl vals kn va Y) (hst : st ≤ 2) (x1 x2 : Int32) (x3 : Int64) (x4 : Int32) (a : Int64) (b : Int32) (c : Nat → Int32) : ∃ P, P ≤ 7 ∧ RZ RP RD RS RN RO P (f_Resolver_resolve x1 x2 x3 x4 a b c vals fl (nI st)) (f_SkeletonClockModel_resolve RP RD RS RN RO kn va (nI st)) := by
  have fl01 : ∀ i, i < 14 → fl i = 0 ∨ fl i = 1 := fun i hi => (ky_01 h i hi).1
  have kn01 : ∀ i, i < 14 → kn i = 0 ∨ kn i = 1 := by
    intro k hk
    obtain ⟨i, i1, i2⟩ := fx_on k hk
    rw [← i2, (ky_01 h i i1).2]
    exact fl01 i i1
  have o1 : ¬ (0 : Int32) = 1 := by decide
  obtain ⟨dN, d1, d2, d3, d4⟩ : ∃ dN : Nat, dN ≤ 1 ∧ f_Known_hasOneOf fl 0 6 = some (nI dN) ∧ f_SkeletonClockModel_some kn 0 6 = some (nI dN) ∧ (dN = 0 → ∀ i, i < 7 → fl i = 0) := by
    rcases ho_c (a := 0) (b := 6) (by decide) (by decide) fl01 with ⟨p, q⟩ | ⟨p, i, i1, i2, i3⟩
    · refine ⟨0, by decide, p, ?_, fun _ i hi => q i (Nat.zero_le _) (by omega)⟩
      rcases so_c2 (a := 0) (b := 6) (by decide) (by decide) kn01 with ⟨p', q'⟩ | ⟨p', k, k1, k2, k3⟩
      · exact p'
      · obtain ⟨c1, c2⟩ := cx_tab k (by omega)
        have e := (ky_01 h (cix k) (by omega)).2
        rw [c1, q (cix k) (Nat.zero_le _) (by omega)] at e
        rw [e] at k3
        exact absurd k3 o1
    · refine ⟨1, by decide, p, ?_, fun w => absurd w (by decide)⟩
      rcases so_c2 (a := 0) (b := 6) (by decide) (by decide) kn01 with ⟨p', q'⟩ | ⟨p', -⟩
      · have e := (ky_01 h i (by omega)).2
        rw [q' (fx i) (Nat.zero_le _) (by have := (cx_on i (by omega)).2; omega), i3] at e
        exact absurd e o1
      · exact p'
  obtain ⟨tN, t1, t2, t3, t4⟩ : ∃ tN : Nat, tN ≤ 1 ∧ f_Known_hasOneOf fl 7 12 = some (nI tN) ∧ f_SkeletonClockModel_some kn 7 12 = some (nI tN) ∧ (tN = 0 → ∀ i, 7 ≤ i → i ≤ 12 → fl i = 0) := by
    rcases ho_c (a := 7) (b := 12) (by decide) (by decide) fl01 with ⟨p, q⟩ | ⟨p, i, i1, i2, i3⟩
    · refine ⟨0, by decide, p, ?_, fun _ => q⟩
      rcases so_c2 (a := 7) (b := 12) (by decide) (by decide) kn01 with ⟨p', q'⟩ | ⟨p', k, k1, k2, k3⟩
      · exact p'
      · have e := (ky_01 h k (by omega)).2
        rw [fx_7 k k1 (by omega), q k k1 k2] at e
        rw [e] at k3
        exact absurd k3 o1
    · refine ⟨1, by decide, p, ?_, fun w => absurd w (by decide)⟩
      rcases so_c2 (a := 7) (b := 12) (by decide) (by decide) kn01 with ⟨p', q'⟩ | ⟨p', -⟩
      · have e := (ky_01 h i (by omega)).2
        rw [fx_7 i i1 (by omega), q' i i1 i2, i3] at e
        exact absurd e o1
      · exact p'
  obtain ⟨oN, n1, n2, n3⟩ : ∃ oN : Nat, oN ≤ 1 ∧ fl 13 = nI oN ∧ (oN = 1 ↔ fl 13 = 1) := by
    rcases fl01 13 (by decide) with q | q
    · exact ⟨0, by decide, q, ⟨fun w => absurd w (by decide), fun w => by rw [q] at w; exact absurd w o1⟩⟩
    · exact ⟨1, by decide, q, ⟨fun _ => q, fun _ => rfl⟩⟩
  have h13 : f_Known_has fl 13 = some (nI oN) := by
    rw [← n2]
    exact ha_c (i := 13) (by decide) (fl01 13 (by decide))
  have K13 : kn 13 = nI oN := by
    have : kn 13 = fl 13 := (ky_01 h 13 (by decide)).2
    rw [this, n2]
  have c13 : (13 : Int32).toNatClampNeg = 13 := by decide
  have ecl : f_Resolver_resolve x1 x2 x3 x4 a b c vals fl (nI st) = jn_Resolver_resolve_92 (nI st) 0 0 0 a b c vals fl (nI (dN + 2 * tN + 4 * oN)) (nI dN) (nI tN) := by
    have e66 : ∀ s0 s1 : Int32, jn_Resolver_resolve_66 (nI st) 0 0 0 a b c vals fl s0 s1 = jn_Resolver_resolve_92 (nI st) 0 0 0 a b c vals fl (s0 + s1) (if (s0 + s1) &&& 1 = 0 then 0 else 1) (if (s0 + s1) &&& 2 = 0 then 0 else 1) := by
      intro s0 s1
      unfold jn_Resolver_resolve_66 jn_Resolver_resolve_79
      by_cases q1 : (s0 + s1) &&& 1 = 0
      · by_cases q2 : (s0 + s1) &&& 2 = 0
        · simp only [q1, q2, ↓reduceIte]
        · simp only [q1, q2, ↓reduceIte]
      · by_cases q2 : (s0 + s1) &&& 2 = 0
        · simp only [q1, q2, ↓reduceIte]
        · simp only [q1, q2, ↓reduceIte]
    have e35 : ∀ s0 : Int32, jn_Resolver_resolve_35 (nI st) 0 0 0 a b c vals fl s0 = if nI tN = 0 then (if nI oN = 0 then jn_Resolver_resolve_66 (nI st) 0 0 0 a b c vals fl (s0 + 0) 0 else jn_Resolver_resolve_66 (nI st) 0 0 0 a b c vals fl (s0 + 0) 4) else (if nI oN = 0 then jn_Resolver_resolve_66 (nI st) 0 0 0 a b c vals fl (s0 + 2) 0 else jn_Resolver_resolve_66 (nI st) 0 0 0 a b c vals fl (s0 + 2) 4) := by
      intro s0
      unfold jn_Resolver_resolve_35 jn_Resolver_resolve_51
      rw [t2, ob_some, h13, ob_some, ob_some]
    unfold f_Resolver_resolve
    rw [d2, ob_some, e35, e35]
    rcases (show dN = 0 ∨ dN = 1 by omega) with rfl | rfl
    · rw [if_pos (by decide)]
      rcases (show tN = 0 ∨ tN = 1 by omega) with rfl | rfl
      · rw [if_pos (by decide)]
        rcases (show oN = 0 ∨ oN = 1 by omega) with rfl | rfl
        · have p1 : ((0 : Int32) + 0 + 0) = nI (0 + 2 * 0 + 4 * 0) := by decide
          have p2 : (if nI (0 + 2 * 0 + 4 * 0) &&& 1 = 0 then (0 : Int32) else 1) = nI 0 := by decide
          have p3 : (if nI (0 + 2 * 0 + 4 * 0) &&& 2 = 0 then (0 : Int32) else 1) = nI 0 := by decide
          rw [if_pos (by decide), e66, p1, p2, p3]
        · have p1 : ((0 : Int32) + 0 + 4) = nI (0 + 2 * 0 + 4 * 1) := by decide
          have p2 : (if nI (0 + 2 * 0 + 4 * 1) &&& 1 = 0 then (0 : Int32) else 1) = nI 0 := by decide
          have p3 : (if nI (0 + 2 * 0 + 4 * 1) &&& 2 = 0 then (0 : Int32) else 1) = nI 0 := by decide
          rw [if_neg (by decide), e66, p1, p2, p3]
      · rw [if_neg (by decide)]
        rcases (show oN = 0 ∨ oN = 1 by omega) with rfl | rfl
        · have p1 : ((0 : Int32) + 2 + 0) = nI (0 + 2 * 1 + 4 * 0) := by decide
          have p2 : (if nI (0 + 2 * 1 + 4 * 0) &&& 1 = 0 then (0 : Int32) else 1) = nI 0 := by decide
          have p3 : (if nI (0 + 2 * 1 + 4 * 0) &&& 2 = 0 then (0 : Int32) else 1) = nI 1 := by decide
          rw [if_pos (by decide), e66, p1, p2, p3]
        · have p1 : ((0 : Int32) + 2 + 4) = nI (0 + 2 * 1 + 4 * 1) := by decide
          have p2 : (if nI (0 + 2 * 1 + 4 * 1) &&& 1 = 0 then (0 : Int32) else 1) = nI 0 := by decide
          have p3 : (if nI (0 + 2 * 1 + 4 * 1) &&& 2 = 0 then (0 : Int32) else 1) = nI 1 := by decide
          rw [if_neg (by decide), e66, p1, p2, p3]
    · rw [if_neg (by decide)]
      rcases (show tN = 0 ∨ tN = 1 by omega) with rfl | rfl
      · rw [if_pos (by decide)]
        rcases (show oN = 0 ∨ oN = 1 by omega) with rfl | rfl
        · have p1 : ((1 : Int32) + 0 + 0) = nI (1 + 2 * 0 + 4 * 0) := by decide
          have p2 : (if nI (1 + 2 * 0 + 4 * 0) &&& 1 = 0 then (0 : Int32) else 1) = nI 1 := by decide
          have p3 : (if nI (1 + 2 * 0 + 4 * 0) &&& 2 = 0 then (0 : Int32) else 1) = nI 0 := by decide
          rw [if_pos (by decide), e66, p1, p2, p3]
        · have p1 : ((1 : Int32) + 0 + 4) = nI (1 + 2 * 0 + 4 * 1) := by decide
          have p2 : (if nI (1 + 2 * 0 + 4 * 1) &&& 1 = 0 then (0 : Int32) else 1) = nI 1 := by decide
          have p3 : (if nI (1 + 2 * 0 + 4 * 1) &&& 2 = 0 then (0 : Int32) else 1) = nI 0 := by decide
          rw [if_neg (by decide), e66, p1, p2, p3]
      · rw [if_neg (by decide)]
        rcases (show oN = 0 ∨ oN = 1 by omega) with rfl | rfl
        · have p1 : ((1 : Int32) + 2 + 0) = nI (1 + 2 * 1 + 4 * 0) := by decide
          have p2 : (if nI (1 + 2 * 1 + 4 * 0) &&& 1 = 0 then (0 : Int32) else 1) = nI 1 := by decide
          have p3 : (if nI (1 + 2 * 1 + 4 * 0) &&& 2 = 0 then (0 : Int32) else 1) = nI 1 := by decide
          rw [if_pos (by decide), e66, p1, p2, p3]
        · have p1 : ((1 : Int32) + 2 + 4) = nI (1 + 2 * 1 + 4 * 1) := by decide
          have p2 : (if nI (1 + 2 * 1 + 4 * 1) &&& 1 = 0 then (0 : Int32) else 1) = nI 1 := by decide
          have p3 : (if nI (1 + 2 * 1 + 4 * 1) &&& 2 = 0 then (0 : Int32) else 1) = nI 1 := by decide
          rw [if_neg (by decide), e66, p1, p2, p3]
  refine ⟨dN + 2 * tN + 4 * oN, by omega, ?_⟩
  rw [ecl]
  unfold jn_Resolver_resolve_92 f_SkeletonClockModel_resolve
  rw [d3, ob_some, t3, ob_some, c13, K13]
  by_cases z : dN = 0 ∧ tN = 0 ∧ oN = 0
  · obtain ⟨rfl, rfl, rfl⟩ := z
    rw [if_pos (by decide), if_pos (by decide), if_pos (by decide), if_pos (by decide)]
    exact ⟨_, _, rfl, rfl, Or.inl ⟨rfl, rfl⟩⟩
  · have e37 : (if nI dN = 0 then (if nI tN = 0 then (if nI oN = 0 then (some ((0 : Int32), RP, RD, RS, RN, RO)) else (jn_SkeletonClockModel_resolve_37 RP RD RS RN RO kn va (nI st) (nI dN) (nI tN))) else (jn_SkeletonClockModel_resolve_37 RP RD RS RN RO kn va (nI st) (nI dN) (nI tN))) else (jn_SkeletonClockModel_resolve_37 RP RD RS RN RO kn va (nI st) (nI dN) (nI tN))) = jn_SkeletonClockModel_resolve_37 RP RD RS RN RO kn va (nI st) (nI dN) (nI tN) := by
      by_cases q1 : dN = 0
      · rw [if_pos (by rw [q1]; decide)]
        by_cases q2 : tN = 0
        · rw [if_pos (by rw [q2]; decide), if_neg (nI_ne0 (by omega) (by omega))]
        · rw [if_neg (nI_ne0 (by omega) (by omega))]
      · rw [if_neg (nI_ne0 (by omega) (by omega))]
    rw [e37, if_neg (nI_ne0 (by omega) (by omega))]
    unfold jn_SkeletonClockModel_resolve_37
    rcases (show dN = 0 ∨ dN = 1 by omega) with rfl | rfl
    · have hz := d4 rfl
      have c0 : (0 : Int32).toNatClampNeg = 0 := by decide
      have c6 : (6 : Int32).toNatClampNeg = 6 := by decide
      have K0 : kn 0 = fl 0 := (ky_01 h 0 (by decide)).2
      have K6 : kn 6 = fl 1 := (ky_01 h 1 (by decide)).2
      have rule : f_SkeletonClockModel_rule kn = some (nI 0) := by
        unfold f_SkeletonClockModel_rule jn_SkeletonClockModel_rule_29 jn_SkeletonClockModel_rule_51
        rw [c0, c6, K0, K6, hz 0 (by decide), hz 1 (by decide), if_pos rfl, if_pos rfl, if_pos rfl]
        rfl
      rw [if_pos (by decide), rule, ob_some, if_pos (by decide)]
      exact t67_c (RP := RP) (RD := RD) (RS := RS) (RN := RN) (RO := RO) (r := 0) (dN := 0) (tN := tN) (oN := oN) (db := 0) h hst (by decide) (by decide) (by decide) t1 n1 n3 (fun _ => rfl) (fun _ => hz) t4 a b c (fun w => absurd w (by decide))
    · rw [if_neg (by decide)]
      rcases fdt_c h hst with ⟨⟨us, dy, f1⟩, f2⟩ | ⟨r, d, r1, r2, r3, r4, r5, r6, r7⟩
      · rw [f1, ob_some, if_pos rfl]
        rcases f2 with f2 | ⟨r, r1, r2, r3, r4, r5⟩
        · rw [f2, ob_some, if_neg (by decide), if_pos rfl]
          exact ⟨_, _, rfl, rfl, Or.inl ⟨rfl, rfl⟩⟩
        · have sg : ¬ (2 : Int32) ≤ nI st := by
            rw [kk2]
            exact nI_ge (by omega) (by decide)
          rw [r3, ob_some, if_neg (by decide), if_neg (nI_ne0 (by omega) (by omega)), if_neg sg, r5, ob_some, if_pos rfl]
          exact ⟨_, _, rfl, rfl, Or.inl ⟨rfl, rfl⟩⟩
      · have good := t67_c (RP := RP) (RD := RD) (RS := RS) (RN := RN) (RO := RO) (st := st) (r := r) (dN := 1) (tN := tN) (oN := oN) (db := d) h hst (by omega) r7 (by decide) t1 n1 n3 (fun w => absurd w (by decide)) (fun w => by omega) t4 a b c (fun _ => r5)
        have o10 : ¬ (1 : Int32) = 0 := by decide
        rw [r6, ob_some]
        dsimp only
        rw [if_neg o10, r3, ob_some, if_neg (by decide), if_neg (nI_ne0 (by omega) (by omega))]
        by_cases s2 : st = 2
        · rw [if_pos (by rw [s2]; decide)]
          exact good
        · have sg : ¬ (2 : Int32) ≤ nI st := by
            rw [kk2]
            exact nI_ge (by omega) (by decide)
          rw [if_neg sg, r4 (by omega), ob_some, if_neg (by decide)]
          exact good
