-- ===== end of PART A; then your names; then what follows =====
/-! THE CLAIM OUT OF ONE WALK OF THE LAW'S BODY. Your part is whole_start (and what it stands on); all else here is the same for every law, but numbers. -/
def R_law : String := "SkeletonClockLaw"
def lw_P (b : Addr) (xs : List Int32) (args : Array Value) (s : State) : Prop := args = #[.ref b] ∧ s.IntsAt b xs ∧ xs.length ≤ 3072 ∧ (Jvm.Cond.and given_1 narrow_1).before args s = true
def lw_Q (_ : Array Value) (s : State) (o : Outcome) (t : State) : Prop := o = .returned (some (.int 1)) ∧ Framed s o t [] 600000 7302250
def lw_Z (below : List Frame) (a : Array Value) (s : State) : State → Prop := fun t => ∃ o, t.status = .running ∧ Ended t below o ∧ lw_Q a s o t
/-- the law's own end, with 1 on the stack, nothing written that was there before, its room as the claim has it -/
theorem lw_ret {p : Program} {l : Launch} {e : Env} {s : State} {m : MethodId} {below : List Frame} {meth : Method} {c : Code} {b : Nat} (hx : p.tables.exec = Jvm.exec) (hb : c.code = code) (hr : meth.sig.returnType = ret) (hlocks : meth.locks = false) {pc : Nat} {H : Heap} {ls : Array Slot} (hdg : decode code pc = .ok (.ireturn, 1)) : W p l e room_1 s m #[Value.ref b] below meth c H [] 600000 7302250 (lw_Z below #[Value.ref b] s) (F0 m pc ls [.int 1]) := by
  intro T hT X
  obtain ⟨fs, hret, hrun, hended, hW, hframe⟩ := X.leave (v := some (.int 1)) (hlocks := hlocks) (fun h => by rw [hr] at h; cases h)
  have hmeth' : T.vm.method? m = some meth := X.method'
  refine ⟨T.setFrames fs, ?_, .returned (some (.int 1)), hrun, hended, rfl, ⟨_, rfl⟩, hW, hframe⟩
  jvm_step X.here [X.here.top, hx, hb, hdg, hmeth', hr, ret, narrow_b1]
  (try refine ⟨rfl, ?_⟩); (try refine ⟨rfl, ?_⟩)
  first | (intro acts; rw [hret _ acts rfl rfl rfl]) | rw [hret _ _ rfl rfl rfl]
  exact Steps.refl _
/-- what holds at the law's entry: the machine, the code, the tables' words (any of lw_tbl by 'hts w (by decide +kernel)'), the script of L ints xs at the cell b, what the Statement gives of the start (any of its parts by flat_of_before) -/
def lw_At (p : Program) (s : State) (m : MethodId) (meth : Method) (c : Code) (b L : Nat) (xs : Nat → Int32) : Prop :=
  p.tables.exec = Jvm.exec ∧ c.code = code ∧ meth.sig.returnType = ret ∧ c.maxLocals = 4 ∧ s.vm.findClass R_law = some m.cls ∧ (∀ w ∈ lw_tbl, w.before #[Value.ref b] s = true) ∧ va_X b L xs s s.heap ∧ b < s.heap.size ∧ meth.locks = false ∧ (Jvm.Cond.and given_1 narrow_1).before #[Value.ref b] s = true
theorem gm_1_21 : Cond.instantiable "SkeletonClock" (10 : Nat) ∈ GW := gw_1 (i := 21) rfl rfl
theorem gm_4_125 : Cond.instantiable "SkeletonClockModel" (31 : Nat) ∈ GW := gw_4 (i := 125) rfl rfl
/-! What holds at the law's entry, in the form of the contracts. -/
theorem vkS_congr {len : List Nat} {byt : List (List Int32)} {f g f' g' : Nat → Nat} {A : Nat → Prop} {U : State} {H : Heap} (h : vk_S 4 len byt f g A U H) (hf : ∀ i, i < 4 → f' i = f i) (hg : ∀ i, i < 4 → g' i = g i) : vk_S 4 len byt f' g' A U H :=
  ⟨fun i hi => by rw [hf i hi, hg i hi]; exact h.1 i hi, fun i j hi hj e => h.2 i j hi hj (by rw [← hf i hi, ← hf j hj]; exact e)⟩
theorem eq_val {args : Array Value} {s : State} {a b : Term} {v : Value} (h : (Cond.eq a b).before args s = true) (hb : b.eval args s none [] s = some v) : a.eval args s none [] s = some v := by
  obtain ⟨w, h1, h2⟩ := Cond.eq_one (show (Cond.eq a b).holds args s none s [] = true from h)
  rw [hb] at h2
  cases h2
  exact h1
def tm_ (i : Nat) : Term := match i with
  | 0 => .string "SkeletonClock$PatternParser" 65
  | 1 => .string "SkeletonClock$Names" 11
  | 2 => .string "SkeletonClock$Names" 13
  | _ => .string "SkeletonClock$Names" 15
def FLS : List Cond := flatC (Jvm.Cond.and given_1 narrow_1)
theorem fl_ex : ∀ i, i < 4 → Cond.exactly (tm_ i) "java/lang/String" ∈ FLS := by decide +kernel
theorem fl_co : ∀ i, i < 4 → Cond.eq (.field (tm_ i) "java/lang/String" "coder" "B") (.int 0) ∈ FLS := by decide +kernel
theorem fl_ar : ∀ i, i < 4 → Cond.arrayOf (.field (tm_ i) "java/lang/String" "value" "[B") .byte ∈ FLS := by decide +kernel
theorem fl_le : ∀ i, i < 4 → Cond.eq (.length (.field (tm_ i) "java/lang/String" "value" "[B")) (.int (Int32.ofNat (tx_len.getD i 0))) ∈ FLS := by decide +kernel
theorem fl_run {n k : Nat} {f : Nat → Cond} (h : (FLS.drop k).take n = (List.range n).map f) {j : Nat} (hj : j < n) : f j ∈ FLS := by
  have h1 : f j ∈ (FLS.drop k).take n := by
    rw [h]
    exact List.mem_map.mpr ⟨j, List.mem_range.mpr hj, rfl⟩
  exact List.mem_of_mem_drop (List.mem_of_mem_take h1)
theorem fl_el0 : (FLS.drop 47).take 15 = (List.range 15).map (fun j => Cond.eq (.elem (.field (tm_ 0) "java/lang/String" "value" "[B") (.int (Int32.ofNat j))) (.int ((tx_byt.getD 0 []).getD j 0))) := by decide +kernel
theorem fl_el1 : (FLS.drop 86).take 108 = (List.range 108).map (fun j => Cond.eq (.elem (.field (tm_ 1) "java/lang/String" "value" "[B") (.int (Int32.ofNat j))) (.int ((tx_byt.getD 1 []).getD j 0))) := by decide +kernel
theorem fl_el2 : (FLS.drop 200).take 63 = (List.range 63).map (fun j => Cond.eq (.elem (.field (tm_ 2) "java/lang/String" "value" "[B") (.int (Int32.ofNat j))) (.int ((tx_byt.getD 2 []).getD j 0))) := by decide +kernel
theorem fl_el3 : (FLS.drop 270).take 4 = (List.range 4).map (fun j => Cond.eq (.elem (.field (tm_ 3) "java/lang/String" "value" "[B") (.int (Int32.ofNat j))) (.int ((tx_byt.getD 3 []).getD j 0))) := by decide +kernel
theorem fl_el (i : Nat) (hi : i < 4) (j : Nat) (hj : j < tx_len.getD i 0) : Cond.eq (.elem (.field (tm_ i) "java/lang/String" "value" "[B") (.int (Int32.ofNat j))) (.int ((tx_byt.getD i []).getD j 0)) ∈ FLS := by
  rcases (show i = 0 ∨ i = 1 ∨ i = 2 ∨ i = 3 by omega) with rfl | rfl | rfl | rfl
  · exact fl_run fl_el0 hj
  · exact fl_run fl_el1 hj
  · exact fl_run fl_el2 hj
  · exact fl_run fl_el3 hj
theorem fl_ne : ∀ i, i < 4 → ∀ j, j < 4 → i ≠ j → Cond.not (Cond.eq (tm_ i) (tm_ j)) ∈ FLS ∨ Cond.not (Cond.eq (tm_ j) (tm_ i)) ∈ FLS := by decide +kernel
theorem fl_one : Cond.eq (.string "SkeletonClock$PatternParser" 65) (.string "SkeletonClock" 130) ∈ FLS ∨ Cond.eq (.string "SkeletonClock" 130) (.string "SkeletonClock$PatternParser" 65) ∈ FLS := by decide +kernel
theorem fl_t0 : Cond.arrayOf (.static "SkeletonClock$Days" "BEFORE_MONTH" "[I") .int ∈ FLS ∧ Cond.eq (.length (.static "SkeletonClock$Days" "BEFORE_MONTH" "[I")) (.int (Int32.ofNat 13)) ∈ FLS := by decide +kernel
theorem fl_e0r : (FLS.drop 7).take 13 = (List.range 13).map (fun j => Cond.eq (.elem (.static "SkeletonClock$Days" "BEFORE_MONTH" "[I") (.int (Int32.ofNat j))) (.int (tb_before j))) := by decide +kernel
theorem fl_e0 (j : Nat) (hj : j < 13) : Cond.eq (.elem (.static "SkeletonClock$Days" "BEFORE_MONTH" "[I") (.int (Int32.ofNat j))) (.int (tb_before j)) ∈ FLS := fl_run fl_e0r hj
theorem fl_t1 : Cond.arrayOf (.static "SkeletonClock$Pattern" "ALLOWED" "[I") .int ∈ FLS ∧ Cond.eq (.length (.static "SkeletonClock$Pattern" "ALLOWED" "[I")) (.int (Int32.ofNat 15)) ∈ FLS := by decide +kernel
theorem fl_e1r : (FLS.drop 28).take 15 = (List.range 15).map (fun j => Cond.eq (.elem (.static "SkeletonClock$Pattern" "ALLOWED" "[I") (.int (Int32.ofNat j))) (.int (tb_allowed j))) := by decide +kernel
theorem fl_e1 (j : Nat) (hj : j < 15) : Cond.eq (.elem (.static "SkeletonClock$Pattern" "ALLOWED" "[I") (.int (Int32.ofNat j))) (.int (tb_allowed j)) ∈ FLS := fl_run fl_e1r hj
theorem fl_cs : Cond.eq (.static "java/lang/String" "COMPACT_STRINGS" "Z") (.int 1) ∈ FLS := by decide +kernel
theorem fl_sf : Cond.isRef (.static "jdk/internal/util/Preconditions" "SIOOBE_FORMATTER" "Ljava/util/function/BiFunction;") ∈ FLS := by decide +kernel
set_option maxHeartbeats 4000000 in
set_option maxRecDepth 100000 in
theorem lw_KX {p : Program} {s : State} {m : MethodId} {meth : Method} {c : Code} {b L : Nat} {xs : Nat → Int32} (C0 : lw_At p s m meth c b L xs) : ∃ (D : va_G) (kk : Nat → ClassId) (st : Nat → Nat), KX D kk st (fun q => s.heap.size ≤ q) s := by
  obtain ⟨-, -, -, -, -, hts, -, -, -, hgv⟩ := C0
  have hG : ∀ w ∈ GW, w.before #[Value.ref b] s = true := fun w h => hts w (List.mem_filter.mp h).1
  have hs : ∀ w ∈ FLS, w.before #[Value.ref b] s = true := flat_of_before _ hgv
  have hA : ∀ a : Nat, a < s.heap.size → ¬ (fun q => s.heap.size ≤ q) a := fun a h h' => Nat.lt_irrefl _ (Nat.lt_of_lt_of_le h h')
  obtain ⟨c0, i0, k0⟩ := u_known hG us_SkeletonClock (hG _ gm_1_21)
  obtain ⟨c1, i1, k1⟩ := u_known hG us_Row (hG _ gm_1_29)
  obtain ⟨c2, i2, k2⟩ := u_known hG us_Pattern (hG _ gm_1_55)
  obtain ⟨c3, i3, k3⟩ := u_known hG us_PatternParser (hG _ gm_1_49)
  obtain ⟨c4, i4, k4⟩ := u_known hG us_Nest (hG _ gm_1_97)
  obtain ⟨c5, i5, k5⟩ := u_known hG us_Moment (hG _ gm_1_173)
  obtain ⟨c6, i6, k6⟩ := u_known hG us_Printer (hG _ gm_1_89)
  obtain ⟨c7, i7, k7⟩ := u_known hG us_Known (hG _ gm_1_130)
  obtain ⟨c8, i8, k8⟩ := u_known hG us_TextReader (hG _ gm_1_124)
  obtain ⟨c9, i9, k9⟩ := u_known hG us_Resolver (hG _ gm_1_167)
  obtain ⟨c10, i10, k10⟩ := u_known hG us_SkeletonClockModel (hG _ gm_4_125)
  obtain ⟨a0, z0, y0, e0, f0, h0⟩ := Cond.arrayClass_spec (hG _ gm_1_73)
  obtain ⟨a1, z1, y1, e1, f1, h1⟩ := Cond.arrayClass_spec (hG _ gm_1_45)
  obtain ⟨a2, z2, y2, e2, f2, h2⟩ := Cond.arrayClass_spec (hG _ gm_1_149)
  obtain ⟨a3, z3, y3, e3, f3, h3⟩ := Cond.arrayClass_spec (hG _ gm_5_5)
  have hao : (Cond.arrayOver (.object "SkeletonClock$Pattern")).before #[Value.ref b] s = true := (hts (Cond.arrayOver (FieldType.object "SkeletonClock$Pattern")) (tl_1 _ (List.mem_of_getElem? (i := 47) rfl)))
  obtain ⟨y4, a4, z4, g4, -, f4, h4, e4⟩ := Cond.arrayOver_spec hao
  obtain ⟨t0, v0, T0⟩ := va_Tof (f := fun j => .int (tb_before j)) (A := fun q => s.heap.size ≤ q) (by decide) (hs _ fl_t0.1) (eq_val (hs _ fl_t0.2) rfl) (fun j hj => eq_val (hs _ (fl_e0 j hj)) rfl) hA
  obtain ⟨t1, v1, T1⟩ := va_Tof (f := fun j => .int (tb_allowed j)) (A := fun q => s.heap.size ≤ q) (by decide) (hs _ fl_t1.1) (eq_val (hs _ fl_t1.2) rfl) (fun j hj => eq_val (hs _ (fl_e1 j hj)) rfl) hA
  obtain ⟨adK, adV, hV, hE⟩ := vk_Sof (tm := tm_) (len := tx_len) (byt := tx_byt) (A := fun q => s.heap.size ≤ q) (by decide) (fun i hi => hs _ (fl_ex i hi)) (fun i hi => hs _ (fl_co i hi)) (fun i hi => hs _ (fl_ar i hi)) (fun i hi => hs _ (fl_le i hi)) (fun i hi j hj => hs _ (fl_el i hi j hj)) (fun i j hi hj hij => (fl_ne i hi j hj hij).imp (hs _) (hs _)) hA
  have zq := va_Zqof (A := fun q => s.heap.size ≤ q) (hts (Cond.laysStatic "jdk/internal/util/Preconditions" "SIOOBE_FORMATTER" "Ljava/util/function/BiFunction;") (tl_2 _ (List.mem_of_getElem? (i := 153) rfl))) (hG _ gm_1_17) (hs _ fl_sf) hA
  have hq : ∃ q : Nat, va_Z "jdk/internal/util/Preconditions" "SIOOBE_FORMATTER" "Ljava/util/function/BiFunction;" (va_rf (sq q)) (fun q => s.heap.size ≤ q) s s.heap := by
    rcases zq with h | ⟨t, h⟩
    · exact ⟨0, h⟩
    · exact ⟨t + 1, h⟩
  obtain ⟨q2, hq⟩ := hq
  refine ⟨(fun k => match k with
    | 0 => c0
    | 1 => c1
    | 2 => c2
    | 3 => c3
    | 4 => c4
    | 5 => c5
    | 6 => c6
    | 7 => c7
    | 8 => c8
    | 9 => c9
    | _ => c10, fun k => match k with
    | 0 => i0
    | 1 => i1
    | 2 => i2
    | 3 => i3
    | 4 => i4
    | 5 => i5
    | 6 => i6
    | 7 => i7
    | 8 => i8
    | 9 => i9
    | _ => i10), (fun k => match k with
    | 0 => a0
    | 1 => a1
    | 2 => a2
    | 3 => a3
    | _ => a4), (fun k => if k = 0 then t0 else if k = 1 then t1 else if k = 2 then q2 else if k < 20 then adK (k - 10) else adV (k - 20)), ⟨?_, ?_⟩, ⟨?_, ?_⟩, ?_⟩
  · intro k q hk
    have hl : k < 11 := (List.getElem?_eq_some_iff.mp hk).1
    rcases (show k = 0 ∨ k = 1 ∨ k = 2 ∨ k = 3 ∨ k = 4 ∨ k = 5 ∨ k = 6 ∨ k = 7 ∨ k = 8 ∨ k = 9 ∨ k = 10 by omega) with rfl | rfl | rfl | rfl | rfl | rfl | rfl | rfl | rfl | rfl | rfl
    · cases hk
      exact k0
    · cases hk
      exact k1
    · cases hk
      exact k2
    · cases hk
      exact k3
    · cases hk
      exact k4
    · cases hk
      exact k5
    · cases hk
      exact k6
    · cases hk
      exact k7
    · cases hk
      exact k8
    · cases hk
      exact k9
    · cases hk
      exact k10
  · intro k q hk
    have hl : k < 5 := (List.getElem?_eq_some_iff.mp hk).1
    rcases (show k = 0 ∨ k = 1 ∨ k = 2 ∨ k = 3 ∨ k = 4 by omega) with rfl | rfl | rfl | rfl | rfl
    · cases hk
      exact ⟨fun n z => ⟨fun k h => (by cases h), z0, f0, y0, h0⟩, e0⟩
    · cases hk
      exact ⟨fun n z => ⟨fun k h => (by cases h), z1, f1, y1, h1⟩, e1⟩
    · cases hk
      exact ⟨fun n z => ⟨fun k h => (by cases h), z2, f2, y2, h2⟩, e2⟩
    · cases hk
      exact ⟨fun n z => ⟨fun k h => (by cases h), z3, f3, y3, h3⟩, e3⟩
    · cases hk
      exact ⟨fun n z => ⟨fun k h => (by cases h), z4, f4, y4, h4⟩, z4, y4, f4, h4, g4, e4⟩
  · intro w hw
    have h1 := hts w (List.mem_filter.mp hw).1
    have h2 : kn_is w = true := (List.mem_filter.mp hw).2
    cases w <;> first | exact va_Nw.of rfl h1 | (simp [kn_is] at h2)
  · have hp : (Term.string "SkeletonClock" 130).eval #[Value.ref b] s none [] s = some (.ref (adK 0)) := by
      rcases fl_one with h | h
      · obtain ⟨w, h1, h2⟩ := Cond.eq_one (show (Cond.eq (.string "SkeletonClock$PatternParser" 65) (.string "SkeletonClock" 130)).holds #[Value.ref b] s none s [] = true from hs _ h)
        have h3 := hE 0 (by decide)
        have h3 : (Term.string "SkeletonClock$PatternParser" 65).eval #[Value.ref b] s none [] s = some (.ref (adK 0)) := h3
        rw [h3] at h1
        cases h1
        exact h2
      · exact eq_val (hs _ h) (hE 0 (by decide))
    exact ⟨vk_R.of (hts (Cond.stringRef "SkeletonClock$PatternParser" (65 : Nat) "uYMdDEwHhamsSXx") (tl_2 _ (List.mem_of_getElem? (i := 96) rfl))) (hE 0 (by decide)), vk_R.of (hts (Cond.stringRef "SkeletonClock" (130 : Nat) "uYMdDEwHhamsSXx") (tl_3 _ (List.mem_of_getElem? (i := 32) rfl))) hp, vk_R.of (hts (Cond.stringRef "SkeletonClock$Names" (11 : Nat) "January  February March    April    May      June     July     August   SeptemberOctober  November December ") (tl_3 _ (List.mem_of_getElem? (i := 98) rfl))) (hE 1 (by decide)), vk_R.of (hts (Cond.stringRef "SkeletonClock$Names" (13 : Nat) "Monday   Tuesday  WednesdayThursday Friday   Saturday Sunday   ") (tl_3 _ (List.mem_of_getElem? (i := 99) rfl))) (hE 2 (by decide)), vk_R.of (hts (Cond.stringRef "SkeletonClock$Names" (15 : Nat) "AMPM") (tl_3 _ (List.mem_of_getElem? (i := 100) rfl))) (hE 3 (by decide))⟩
  · refine ⟨va_Zof (hts (Cond.laysStatic "SkeletonClock$Days" "BEFORE_MONTH" "[I") (tl_2 _ (List.mem_of_getElem? (i := 1) rfl))) (hG _ gm_1_12) v0 hA, T0, va_Zof (hts (Cond.laysStatic "SkeletonClock$Pattern" "ALLOWED" "[I") (tl_2 _ (List.mem_of_getElem? (i := 192) rfl))) (hG _ gm_1_4) v1 hA, T1, va_Zof (hts (Cond.laysStatic "java/lang/String" "COMPACT_STRINGS" "Z") (tl_2 _ (List.mem_of_getElem? (i := 110) rfl))) (hG _ gm_1_14) (eq_val (hs _ fl_cs) rfl) hA, ?_, hq, va_AO.of hao⟩
    refine vkS_congr hV (fun i hi => ?_) (fun i hi => ?_)
    · rcases (show i = 0 ∨ i = 1 ∨ i = 2 ∨ i = 3 by omega) with rfl | rfl | rfl | rfl <;> rfl
    · rcases (show i = 0 ∨ i = 1 ∨ i = 2 ∨ i = 3 by omega) with rfl | rfl | rfl | rfl <;> rfl
