/-! Rows for the law's loop: calls by worlds that are given, the pool's changes. -/
section KF
variable {p : Program} {l : Launch} {e : Env} {R : Room} {s : State} {m : MethodId} {args : Array Value} {below : List Frame} {meth : Method} {c : Code} {H : Heap} {locs : List Loc} {cells slots : Nat} {Q : State → Prop}
variable {cc : ByteArray} {pc : Nat} {ls : Array Slot} {rest st0 : List Value} {D : va_G} {kk : Nat → ClassId} {st : Nat → Nat} {A : Nat → Prop} {ws wc wr w1 w2 pl Xs cx rx : va_W}
theorem va_free2 (hDc : va_D A wc) (hS : va_S A s.heap H locs) (hA : ∀ q, s.heap.size ≤ q → A q) : ∀ q, va_A wc H.size q → A q := by
  intro q hq
  rcases hq with ⟨k, e0, hk⟩ | h
  · exact hDc.2 k (q, e0) hk
  · exact hA q (Nat.le_trans hS.1 h)
theorem KP.at2 {av : List Value} (X : KX D kk st A s) (hA : ∀ q, s.heap.size ≤ q → A q) (hS : va_S A s.heap H locs) (hPc : va_P D classes wc H) (hDc : va_D A wc) :
    ∀ U : State, U.heap = H → s.WarmedH U.vm → KPc D kk st av wc H.size av.toArray U := by
  intro U hU hw
  obtain ⟨hK, hN, hW⟩ := X
  refine ⟨rfl, by rw [hU], by rw [hU]; exact hPc, hDc.weaken (fun _ _ _ _ => trivial), va_K.moved hw.alike hK, NN.warm hw hN, ?_⟩
  rw [hU]
  exact SW.moved hw.alike ((hW.kept (fun a h h' => hS.2.1 a h h')).narrow (va_free2 hDc hS hA))
theorem r_V2 {nL idx n maxL mc ms : Nat} {own : String} {y : MethodName} {bytes : ByteArray} {ret : Option FieldType} {rm : Room} {As : List Value} {b : Nat} {Qc : Array Value → State → Outcome → State → Prop} {free : Addr → Prop} (S : CallFix p m c cc nL s args GW own) (X : KX D kk st A s) (hA : ∀ q, s.heap.size ≤ q → A q) (hS : va_S A s.heap H locs) (hPc : va_P D classes wc H) (hDc : va_D A wc)
    (hM : Met l y (Cond.code y bytes maxL ret :: GW) rm (KPc D kk st (.ref b :: As) wc H.size) Qc mc ms free)
    (g0 : Cond.code y bytes maxL ret ∈ GW) (g1 : Cond.methodLink own idx y ∈ GW) (g2 : Cond.instanceMethod y ∈ GW) (g3 : Cond.selects y.cls y y ∈ GW) (g4 : Cond.initialized y.cls ∈ GW) (hr : kr_okc R rm maxL mc ms) (hd : kd_ok y n)
    (q0 ci : Nat) {fs : List Value} {q : vw_C} (he : wc[q0]? = some (b, .inr (ci, fs))) (hc : classes[ci]? = some q) (hq : q.1 = y.cls) (hAs : As.length = n) (hl : ls.size = nL) (hstk : st0 = As.reverse ++ .ref b :: rest) (hst : (rest.map fun v => v.category).sum ≤ 8)
    (hdg : decode cc pc = .ok (.invokevirtual idx, 3)) (hcs : cells + mc ≤ R.cells ∧ slots + ms ≤ R.slots) :
    va_Run p l e R s m args below meth c H locs cells slots mc ms (F0 m pc ls st0) rest (Qc (Value.ref b :: As).toArray) free := by
  refine va_runV (C := y.cls) S hM (cwV n S.2.2.2.2 (gi_app (fun _ h => h) g0 ?_) rfl hr.1 hr.2.1 ⟨rfl, hd⟩ ⟨hr.2.2.1, hr.2.2.2⟩) ⟨KP.blind, ?_, KP.at2 X hA hS hPc hDc⟩ rfl hAs hl hstk (lv_room hst) hdg hcs
  · intro w hw
    simp only [List.mem_cons, List.mem_nil_iff, or_false] at hw
    rcases hw with rfl | rfl | rfl | rfl
    · exact g1
    · exact g2
    · exact g3
    · exact g4
  · obtain ⟨cell, a1, a2, a3⟩ := va_recv X.1 hPc hc he
    exact ⟨cell, a1, a2, by rw [← hq]; exact a3⟩
/-- a call whose cells are a part of the literal ones and the whole tail -/
theorem k_iP {r' : Int32} {a : Array Value} {pl1 : va_W} (hr : va_Run p l e R s m args below meth c H locs cells slots 0 0 (F0 m pc ls st0) rest (KQi D kk r' (rx ++ pl1) (va_A (cx ++ pl) H.size) a) (va_A (cx ++ pl) H.size)) (hA : ∀ q, s.heap.size ≤ q → A q) (hP : va_P D classes (Xs ++ pl) H) (hD : va_D A (Xs ++ pl)) (hS : va_S A s.heap H locs) (isC isR isF : List Nat) (h1 : isC.filterMap (fun i => Xs[i]?) = cx) (h2 : isC.map (fun i => Xs[i]?) = cx.map some) (hn : va_nd isC = true) (h3 : isR.map (fun i => Xs[i]?) = wr.map some) (h3n : va_nd isR = true) (h4 : ∀ i ∈ isR, i ∉ isC)
    (h5 : isF.filterMap (fun i => (wr ++ rx)[i]?) = w2) (h6 : isF.map (fun i => (wr ++ rx)[i]?) = w2.map some) (h6n : va_nd isF = true)
    (kx : ∀ (H1 : Heap) (locs1 : List Loc), va_P D classes (w2 ++ pl1) H1 → va_D A (w2 ++ pl1) → va_S A s.heap H1 locs1 → W p l e R s m args below meth c H1 locs1 cells slots Q (F0 m (pc + 3) ls (.int r' :: rest))) : W p l e R s m args below meth c H locs cells slots Q (F0 m pc ls st0) := by
  obtain ⟨hPc, hDc⟩ := re_t hP hD isC h1 h2 hn
  have hF := va_free2 hDc hS hA
  refine va_calli hr hS (fun q _ h => hF q h) hF (fun r u t H1 locs1 ht hvm hp hB hz hk hS1 => ?_)
  obtain ⟨hP1, hK1, hD1⟩ := hB
  rw [ht] at hP1
  obtain ⟨a1, a2⟩ := va_joinP hP hD isC isR h2 h3 h3n h4 hk hF hP1 hD1
  obtain ⟨b1, b2⟩ := re_t a1 a2 isF h5 h6 h6n
  have hp : r = r' := hp
  subst hp
  exact kx H1 locs1 b1 b2 hS1
end KF
theorem PW_congr {kk : Nat → ClassId} {ad ad' : Nat → Nat × Nat × Nat} {ps ps' : Nat → Option PSt} {ks : List Nat} (h : ∀ j ∈ ks, pcellO kk (ad' j) (ps' j) = pcellO kk (ad j) (ps j)) : PW kk ad' ps' ks = PW kk ad ps ks := by
  unfold PW
  induction ks with
  | nil => rfl
  | cons j js ih =>
    rw [List.flatMap_cons, List.flatMap_cons, h j List.mem_cons_self, ih (fun i hi => h i (List.mem_cons_of_mem _ hi))]
/-- a pattern changed in its place -/
theorem pw_set {kk : Nat → ClassId} {ad : Nat → Nat × Nat × Nat} {ps : Nat → Option PSt} {Xs : va_W} {ks : List Nat} {i : Nat} {q : PSt} (hn : ks.Nodup) (hi : i ∈ ks) : ((Xs ++ pcell kk (ad i) q) ++ PW kk ad ps (ks.erase i)).Perm (Xs ++ PW kk ad (ups ps i (some q)) ks) := by
  have h1 := (pw_split (kk := kk) (ad := ad) (ps := ups ps i (some q)) (Xs := Xs) hi ups_s).symm
  have h2 : PW kk ad (ups ps i (some q)) (ks.erase i) = PW kk ad ps (ks.erase i) := PW_congr (fun j hj => by
    have h3 : j ≠ i := fun h => by subst h; exact (hn.not_mem_erase) hj
    rw [ups_n h3])
  rw [h2] at h1
  exact h1
/-- a pattern where none was -/
theorem pw_new {kk : Nat → ClassId} {ad : Nat → Nat × Nat × Nat} {ps : Nat → Option PSt} {Xs : va_W} {ks : List Nat} {i : Nat} {q : PSt} {a : Nat × Nat × Nat} (hn : ks.Nodup) (hi : i ∈ ks) (h0 : ps i = none) : ((Xs ++ pcell kk a q) ++ PW kk ad ps ks).Perm (Xs ++ PW kk (ups ad i a) (ups ps i (some q)) ks) := by
  have h1 := (pw_split (kk := kk) (ad := ups ad i a) (ps := ups ps i (some q)) (Xs := Xs) hi ups_s).symm
  rw [ups_s] at h1
  have h2 : PW kk (ups ad i a) (ups ps i (some q)) (ks.erase i) = PW kk ad ps (ks.erase i) := PW_congr (fun j hj => by
    have h3 : j ≠ i := fun h => by subst h; exact (hn.not_mem_erase) hj
    rw [ups_n h3, ups_n h3])
  rw [h2] at h1
  have h4 : (PW kk ad ps ks).Perm (PW kk ad ps (ks.erase i)) := by
    have h5 : (PW kk ad ps ks).Perm (PW kk ad ps (i :: ks.erase i)) := List.Perm.flatMap_right _ (List.perm_cons_erase hi)
    have h6 : PW kk ad ps (i :: ks.erase i) = PW kk ad ps (ks.erase i) := by
      unfold PW
      rw [List.flatMap_cons, h0]
      rfl
    rw [h6] at h5
    exact h5
  exact (h4.append_left _).trans h1
theorem sl_set {ad : Nat → Nat × Nat × Nat} {ps : Nat → Option PSt} {i : Nat} {q q' : PSt} (h : ps i = some q) : sl ad (ups ps i (some q')) = sl ad ps := by
  funext j
  unfold sl
  by_cases hj : j = i
  · subst hj
    rw [ups_s, h]
    rfl
  · rw [ups_n hj]
theorem sl_new {ad : Nat → Nat × Nat × Nat} {ps : Nat → Option PSt} {i : Nat} {q : PSt} {a : Nat × Nat × Nat} : va_up (sl ad ps) i (some a.1) = sl (ups ad i a) (ups ps i (some q)) := by
  funext j
  unfold sl va_up
  by_cases hj : j = i
  · subst hj
    rw [if_pos rfl, ups_s, ups_s]
    rfl
  · rw [if_neg hj, ups_n hj, ups_n hj]
