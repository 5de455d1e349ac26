/-! print: the class's walk. -/
def ptI (i : Nat) : Int32 := if i ≤ 6 then 1 else if i ≤ 12 then 2 else 4
theorem pt_tab : ∀ i, i < 15 → f_SkeletonClock_partOf (nI i) = some (ptI i) ∧ f_SkeletonClockModel_partOf (nI (fxL.getD i 0)) = some (ptI i) := by decide +kernel
def ms (P : Int32) (kd : Nat → Int32) (k : Nat) : Prop := ∃ i, i < 15 ∧ kd k = nI i ∧ P &&& ptI i = 0
/-- M is what piece k puts down -/
def QW (v : Nat → Int32) (D : Int64) (S N O : Int32) (g : Nat → Int64) (n : Nat) (kd nb so co cn : Nat → Int32) (k : Nat) (M : List Nat) : Prop :=
  M.length ≤ 10 ∧ (so k = 2 → M = []) ∧
  (so k ≠ 2 → ∀ L sz f, Dr L sz f → L.length + 10 ≤ 200 → ∃ sz' f', f_Printer_writePiece sz f v (nI n) kd nb (nI k) = some (sz', f') ∧ Dr (L ++ M) sz' f') ∧
  (so k = 0 → ∀ L sz f, Dr L sz f → L.length + 10 ≤ 256 → ∃ sz' f', f_SkeletonClockModel_out sz f (co k) = some (sz', f') ∧ Dr (L ++ M) sz' f') ∧
  (so k = 1 → ∃ j, f_SkeletonClockModel_fieldOf (co k) = some j ∧ ∀ L sz f, Dr L sz f → L.length + 10 ≤ 256 → ∃ sz' f', f_SkeletonClockModel_show sz D S N O f g j (co k) (cn k) = some (sz', f') ∧ Dr (L ++ M) sz' f')
theorem qw_c {d s m o : Int} {v : Nat → Int32} {g : Nat → Int64} (hs : 0 ≤ s ∧ s < 86400) (hm : 0 ≤ m ∧ m ≤ 999999999) (ho : -1080 ≤ o ∧ o ≤ 1080) (hy : -999999999 ≤ yr d ∧ yr d ≤ 999999999) (hv : ∀ k, k < 14 → v k = iI (FV d s m o k)) (hg : R_nam g) {n : Nat} (hn : n ≤ 20) {kd nb so co cn ar en : Nat → Int32} {E : Nat → Nat} (h : PV n kd nb so co cn ar en E) (k : Nat) (hk : k < n) : ∃ M, QW v (jI d) (iI s) (iI m) (iI o) g n kd nb so co cn k M := by
  rcases h.1 k hk with q | q
  · rcases q with ⟨q1, q2, q3, c, c1, c2, q4⟩ | ⟨q1, i, c, i1, c1, c2, q2, q3, q4, q5, q6⟩
    · refine ⟨[c], Nat.succ_le_succ (Nat.zero_le _), fun z => ?_, fun _ L sz f hL hl => ?_, fun _ L sz f hL hl => ?_, fun z => ?_⟩
      · rw [q1] at z
        exact absurd z (by decide)
      · obtain ⟨r, a, b, p, w⟩ := dr_put hL ⟨c1, c2⟩ (by omega)
        refine ⟨a, b, ?_, w⟩
        unfold f_Printer_writePiece
        rw [(pk_c hn hk kd).1, (pk_c hn hk nb).2, ob_some, ob_some, q2, if_pos rfl, q3, q4, m16 (by omega), p, ob_some]
      · obtain ⟨a, b, p, w⟩ := dr_out hL ⟨c1, c2⟩ (by omega)
        exact ⟨a, b, by rw [q4]; exact p, w⟩
      · rw [q1] at z
        exact absurd z (by decide)
    · obtain ⟨M, m1, m2, m3⟩ := pf_c hs hm ho hy hv hg i1 ⟨c1, c2⟩ q6 hn hk q2 q4
      refine ⟨M, m1, fun z => ?_, fun _ => m2, fun z => ?_, fun _ => ⟨nI (fxL.getD i 0), by rw [q3]; exact (fx_tab i i1).1, by rw [q3, q5]; exact m3⟩⟩
      · rw [q1] at z
        exact absurd z (by decide)
      · rw [q1] at z
        exact absurd z (by decide)
  · refine ⟨[], by decide, fun _ => rfl, fun z => absurd q.1 z, fun z => ?_, fun z => ?_⟩
    · rw [q.1] at z
      exact absurd z (by decide)
    · rw [q.1] at z
      exact absurd z (by decide)
/-- the three kinds of pieces -/
def K3 (n : Nat) (kd nb so : Nat → Int32) (E : Nat → Nat) : Prop := ∀ k, k < n → (so k = 2 ∧ kd k = 16 ∧ nb k = nI (E k)) ∨ (so k = 0 ∧ kd k = 15) ∨ (so k = 1 ∧ ∃ i, i < 15 ∧ kd k = nI i)
theorem k3_of {n : Nat} {kd nb so co cn ar en : Nat → Int32} {E : Nat → Nat} (h : PV n kd nb so co cn ar en E) (hE : ∀ j, j < n → so j = 2 → E j ≤ n) (hn : n ≤ 20) : K3 n kd nb so E := by
  intro k hk
  rcases h.1 k hk with q | ⟨q1, q2, q3, q4⟩
  · rcases q with ⟨q1, q2, -⟩ | ⟨q1, i, c, i1, c1, c2, q2, -⟩
    · exact Or.inr (Or.inl ⟨q1, q2⟩)
    · exact Or.inr (Or.inr ⟨q1, i, i1, q2⟩)
  · refine Or.inl ⟨q1, q2, ?_⟩
    rcases q4 with q4 | q4
    · exact q4.2.1
    · have := hE k hk q1
      omega
theorem i15 {i : Nat} (h : i < 15) : ¬ nI i = 16 ∧ ¬ nI i = 15 := by
  constructor
  · intro q
    have := (nI_eq (by omega) (by decide)).mp (q.trans kk16)
    omega
  · intro q
    have := (nI_eq (by omega) (by decide)).mp (q.trans kk15)
    omega
theorem wr_l {P : Int32} {v : Nat → Int32} {D : Int64} {S N O : Int32} {g : Nat → Int64} {n : Nat} {kd nb so co cn ar : Nat → Int32} {E : Nat → Nat} {out : Nat → List Nat} (h : SP n so ar E) (hn : n ≤ 20) (h3 : K3 n kd nb so E) (hw : ∀ k, k < n → QW v D S N O g n kd nb so co cn k (out k)) : ∀ m p F sz f dp q ends pl mk, n - p ≤ m → p ≤ n → m < F → Dr (Vd n so ar E (ms P kd) out p) sz f → NS so E p dp q ends → (∀ i, i < dp → pl i = nI (Vd n so ar E (ms P kd) out (q i)).length) → IV so ar E (ms P kd) p → ∃ r, lp_Printer_write_17 P v (nI n) kd nb F (nI p) sz f (nI dp) ends pl mk = some r ∧ (((∃ k, k < n ∧ ar k = -1 ∧ ms P kd k) ∧ ∃ o, r = .inl ((0 : Int32), o)) ∨ ((∀ k, k < n → ar k = -1 → ¬ ms P kd k) ∧ ∃ x sz' f' o, r = .inr (x, sz', f', o) ∧ Dr (Vd n so ar E (ms P kd) out n) sz' f')) := by
  have hl : ∀ p, p ≤ n → (Vd n so ar E (ms P kd) out p).length ≤ 10 * p := fun p hp => cat_len p (fun i hi => (hw i (by omega)).1)
  have h0 : ∀ k, k < n → so k = 2 → out k = [] := fun k hk => (hw k hk).2.1
  intro m
  induction m with
  | zero =>
    intro p F sz f dp q ends pl mk hm hp hF hD hN hP hI
    obtain ⟨F, rfl⟩ : ∃ H, F = H + 1 := ⟨F - 1, by omega⟩
    have e : p = n := by omega
    subst e
    exact ⟨_, by rw [lp_Printer_write_17, st_Printer_write_17, if_pos (nI_le (Nat.le_refl _) (by omega))], Or.inr ⟨hI.2, _, _, _, _, rfl, hD⟩⟩
  | succ m ih =>
    intro p F sz f dp q ends pl mk hm hp hF hD hN hP hI
    obtain ⟨F, rfl⟩ : ∃ H, F = H + 1 := ⟨F - 1, by omega⟩
    by_cases e : p = n
    · subst e
      exact ⟨_, by rw [lp_Printer_write_17, st_Printer_write_17, if_pos (nI_le (Nat.le_refl _) (by omega))], Or.inr ⟨hI.2, _, _, _, _, rfl, hD⟩⟩
    have hpn : p < n := by omega
    obtain ⟨e, e1, e2, e3, e4⟩ := cb_c h hn hpn hN
    have ll := hl p (by omega)
    have ep : e ≤ p := e3.1
    rw [lp_Printer_write_17, st_Printer_write_17, if_neg (nI_ge hpn (by omega)), e2, ob_some, (pk_c hn hpn kd).1, ob_some]
    have hP' : ∀ i, i < e → pl i = nI (Vd n so ar E (ms P kd) out (q i)).length := fun i hi => hP i (by omega)
    rcases h3 p hpn with ⟨s1, s2, s3⟩ | ⟨s1, s2⟩ | ⟨s1, i, i1, s2⟩
    · have nm : ¬ ms P kd p := fun ⟨i, i1, i2, _⟩ => (i15 i1).1 (i2.symm.trans s2)
      obtain ⟨iv1, iv2⟩ := iv_step (out := out) h hn hpn hI nm
      rw [h0 p hpn s1, List.append_nil] at iv2
      rw [s2, if_pos rfl, (pk_c hn hpn nb).2, ob_some, s3, no_c (by omega), ob_some, nI_1]
      refine ih (p + 1) F sz f (e + 1) (qU q e p) _ _ _ (by omega) (by omega) (by omega) (by rw [iv2]; exact hD) (ns_open h hpn e3 e4 s1) (fun i hi => ?_) iv1
      dsimp only
      unfold qU
      by_cases y : i = e
      · rw [y, pk_us, if_pos rfl]
        exact hD.1
      · rw [pk_un y, if_neg y]
        exact hP' i (by omega)
    · have nm : ¬ ms P kd p := fun ⟨i, i1, i2, _⟩ => (i15 i1).2 (i2.symm.trans s2)
      obtain ⟨iv1, iv2⟩ := iv_step (out := out) h hn hpn hI nm
      have s12 : so p ≠ 2 := by
        rw [s1]
        decide
      obtain ⟨sz', f', w1, w2⟩ := (hw p hpn).2.2.1 s12 _ sz f hD (by omega)
      rw [s2, if_neg (by decide), if_pos rfl, w1, ob_some, nI_1]
      exact ih (p + 1) F sz' f' e q ends pl mk (by omega) (by omega) (by omega) (by rw [iv2]; exact w2) (ns_step e3 s12) hP' iv1
    · have s12 : so p ≠ 2 := by
        rw [s1]
        decide
      rw [s2, if_neg (i15 i1).1, if_neg (i15 i1).2]
      unfold f_Moment_has
      rw [(pt_tab i i1).1, ob_some]
      by_cases z : P &&& ptI i = 0
      · have hm2 : ms P kd p := ⟨i, i1, s2, z⟩
        rw [if_pos z, ob_some, if_pos rfl]
        rcases ns_top h hpn e3 e4 with ⟨t1, t2⟩ | ⟨e', t1, t2⟩
        · subst t2
          unfold f_Nest_isEmpty
          rw [if_pos (by decide), ob_some, if_neg (by decide)]
          exact ⟨_, rfl, Or.inl ⟨⟨p, hpn, t1, hm2⟩, _, rfl⟩⟩
        · subst t1
          have qe := e3.2.1 e' (by omega)
          have qn : q e' < p := qe.1
          obtain ⟨l1, l2, l3, l4⟩ := nl_c (e := e') (by omega) ends (nI n)
          obtain ⟨l5, l6, l7, l8⟩ := nl_c (e := e') (by omega) pl (nI n)
          obtain ⟨j1, j2, M, j3⟩ := iv_jump (out := out) h hn hpn hI hm2 t2 (by omega) s12 h0
          have hD2 := hD
          rw [j3] at hD2 ll
          obtain ⟨c1, c2⟩ := dr_cut hD2 (by omega)
          have ae := h.1 (q e') (by omega) qe.2.1
          have ab := e4 e' (by omega)
          rw [l4, ob_some, if_pos rfl, l6, ob_some, hP' e' (by omega), c1, ob_some, l1, ob_some, qe.2.2, nI_1]
          have mx : (if nI (p + 1) < nI (E (q e')) then nI (E (q e')) else nI (p + 1)) = nI (E (q e')) := by
            by_cases y : p + 1 < E (q e')
            · rw [if_pos (nI_lt y (by omega))]
            · rw [if_neg (nI_nlt (by omega) (by omega))]
              congr 1
              omega
          rw [mx]
          exact ih (E (q e')) F _ f (e' + 1) q ends pl mk (by omega) (by omega) (by omega) (by rw [j2]; exact c2) (ns_jump h hpn e3 s12 qn qe.2.1 ab) hP' j1
      · have nm : ¬ ms P kd p := fun ⟨i', i1', i2, i3⟩ => by
          have : i' = i := (nI_eq (by omega) (by omega)).mp (i2.symm.trans s2)
          rw [this] at i3
          exact z i3
        obtain ⟨iv1, iv2⟩ := iv_step (out := out) h hn hpn hI nm
        obtain ⟨sz', f', w1, w2⟩ := (hw p hpn).2.2.1 s12 _ sz f hD (by omega)
        rw [if_neg z, ob_some, if_neg (by decide), w1, ob_some, nI_1]
        exact ih (p + 1) F sz' f' e q ends pl mk (by omega) (by omega) (by omega) (by rw [iv2]; exact w2) (ns_step e3 s12) hP' iv1
theorem rs_any (z : Int32) : f_Row_shorten z 0 = some 0 := by
  unfold f_Row_shorten
  by_cases a : (0 : Int32) < z
  · rw [if_pos a]
    decide
  · rw [if_neg a, if_neg a]
theorem dr_nil (f : Nat → Int32) : Dr [] 0 f := ⟨rfl, fun x hx => (List.not_mem_nil hx).elim, fun j hj => absurd hj (Nat.not_lt_zero j)⟩
theorem wr_c {P : Int32} {v : Nat → Int32} {D : Int64} {S N O : Int32} {g : Nat → Int64} {n : Nat} {kd nb so co cn ar : Nat → Int32} {E : Nat → Nat} {out : Nat → List Nat} (h : SP n so ar E) (hn : n ≤ 20) (h3 : K3 n kd nb so E) (hw : ∀ k, k < n → QW v D S N O g n kd nb so co cn k (out k)) (sz : Int32) (f : Nat → Int32) (dp : Int32) (ends pl mk : Nat → Int32) : ∃ r, f_Printer_write sz f dp ends pl mk P v (nI n) kd nb = some r ∧ (((∃ k, k < n ∧ ar k = -1 ∧ ms P kd k) ∧ r.1 = 0) ∨ ((∀ k, k < n → ar k = -1 → ¬ ms P kd k) ∧ r.1 = 1 ∧ Dr (Vd n so ar E (ms P kd) out n) r.2.1 r.2.2.1)) := by
  obtain ⟨r, r1, r2⟩ := wr_l (P := P) (out := out) h hn h3 hw n 0 FU 0 f 0 (fun _ => 0) ends pl mk (by omega) (by omega) (by unfold FU; omega) (dr_nil f) ⟨Nat.le_refl _, fun i hi => by omega, fun i j a b => by omega, fun a ha => by omega⟩ (fun i hi => by omega) ⟨fun a ha => by omega, fun k hk => by omega⟩
  unfold f_Printer_write f_Nest_clear
  rw [rs_any, ob_some, ob_some]
  rw [← kk0] at r1
  rw [r1, ob_some]
  rcases r2 with ⟨a, o, rfl⟩ | ⟨a, x, s2, f2, o, rfl, b⟩
  · exact ⟨_, rfl, Or.inl ⟨a, rfl⟩⟩
  · exact ⟨_, rfl, Or.inr ⟨a, rfl, b⟩⟩
