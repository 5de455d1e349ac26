/-! Base rows of this proof: options, words, the contract's form, calls. -/
theorem ih_t {α : Type} {c : Prop} [Decidable c] {a b y : α} (hc : c) (h : (if c then a else b) = y) : a = y := by
  rw [if_pos hc] at h
  exact h
theorem ih_f {α : Type} {c : Prop} [Decidable c] {a b y : α} (hc : ¬ c) (h : (if c then a else b) = y) : b = y := by
  rw [if_neg hc] at h
  exact h
theorem ih_g {α : Type} {c : Prop} [Decidable c] {a : Option α} {y : α} (h : (if c then a else none) = some y) : c ∧ a = some y := by
  by_cases hc : c
  · rw [if_pos hc] at h
    exact ⟨hc, h⟩
  · rw [if_neg hc] at h
    cases h
theorem ih_b {α β : Type} {x : Option α} {g : α → Option β} {y : β} (h : x.bind g = some y) : ∃ a, x = some a ∧ g a = some y := by
  cases x with
  | none => cases h
  | some a => exact ⟨a, rfl, h⟩
theorem ih_n {α : Type} {y : α} {P : Prop} (h : none = some y) : P := by cases h
/-- fuel for the loops of methods that are called: more than any of them takes -/
def FU : Nat := 1000
theorem bo_n {v : Int32} (h : v = 0 ∨ v = 1) : narrow .boolean (.int v) = .int v := by
  rcases h with rfl | rfl <;> rfl
theorem bo_f {v : Int32} (h : v = 0 ∨ v = 1) : fits .boolean (.int v) = true := by
  rcases h with rfl | rfl <;> rfl
/-- the words that a contract keeps, and the words between nest mates -/
def GW : List Cond := lw_tbl.filter goodWord
def kn_is : Cond → Bool
  | .fieldLinkNest .. => true
  | .methodLinkNest .. => true
  | _ => false
def NW : List Cond := lw_tbl.filter kn_is
theorem gw_in {i : Nat} {w : Cond} (h : lw_tbl[i]? = some w) (g : goodWord w = true) : w ∈ GW := List.mem_filter.mpr ⟨List.mem_of_getElem? h, g⟩
theorem nw_in {i : Nat} {w : Cond} (h : lw_tbl[i]? = some w) (g : kn_is w = true) : w ∈ NW := List.mem_filter.mpr ⟨List.mem_of_getElem? h, g⟩
theorem gw_good {w : Cond} (h : w ∈ GW) : (w.onTables && w.keeps) = true ∨ ∃ ty, w = .arrayClass ty := good_of_word (List.mem_filter.mp h).2
theorem gi_cons {big : List Cond} {c : Cond} (hG : ∀ w ∈ GW, w ∈ big) (hc : c ∈ GW) : GoodIn big (c :: GW) := by
  intro w hw
  rcases List.mem_cons.mp hw with rfl | hw
  · exact ⟨hG _ hc, gw_good hc⟩
  · exact ⟨hG _ hw, gw_good hw⟩
theorem gi_app {big l : List Cond} {c : Cond} (hG : ∀ w ∈ GW, w ∈ big) (hc : c ∈ GW) (hl : ∀ w ∈ l, w ∈ GW) : GoodIn big (l ++ (c :: GW)) := by
  intro w hw
  rcases List.mem_append.mp hw with hw | hw
  · exact ⟨hG _ (hl w hw), gw_good (hl w hw)⟩
  · exact gi_cons hG hc w hw
def NN (st : Nat → Nat) (U : State) : Prop := (∀ w ∈ NW, va_Nw w U) ∧ VR st U
theorem NN.warm {st : Nat → Nat} {s U : State} (hW : s.WarmedH U.vm) (h : NN st s) : NN st U := by
  refine ⟨fun w hw => ?_, h.2.warm hW⟩
  have h1 := h.1 w hw
  have h2 : kn_is w = true := (List.mem_filter.mp hw).2
  cases w <;> first | exact va_Nw.warmF hW h1 | exact va_Nw.warmM hW h1 | (simp [kn_is] at h2)
theorem NN.same {st : Nat → Nat} {s U : State} (hv : s.vm = U.vm) (h : NN st s) : NN st U := by
  refine ⟨fun w hw => ?_, h.2.same hv.symm⟩
  have h1 := h.1 w hw
  have h2 : kn_is w = true := (List.mem_filter.mp hw).2
  cases w <;> first | exact va_Nw.same rfl hv h1 | (simp [kn_is] at h2)
/-- the array classes, in one order for all contracts -/
abbrev TY (kk : Nat → ClassId) : List (ClassId × FieldType) := [(kk 0, .int), (kk 1, .char), (kk 2, .boolean), (kk 3, .long), (kk 4, .object "SkeletonClock$Pattern")]
/-- what holds all the way: classes, nest words, statics -/
def KX (D : va_G) (kk : Nat → ClassId) (st : Nat → Nat) (A : Nat → Prop) (s : State) : Prop := va_K D classes (TY kk) s ∧ NN st s ∧ SW st A s s.heap
def KP (D : va_G) (kk : Nat → ClassId) (st : Nat → Nat) (ws : va_W) (sz : Nat) (U : State) : Prop :=
  U.heap.size = sz ∧ va_P D classes ws U.heap ∧ va_D (fun _ => True) ws ∧ va_K D classes (TY kk) U ∧ NN st U ∧ SW st (va_A ws sz) U U.heap
abbrev KPc (D : va_G) (kk : Nat → ClassId) (st : Nat → Nat) (av : List Value) (ws : va_W) (sz : Nat) : Array Value → State → Prop := va_Pc av (KP D kk st ws sz)
def KB (D : va_G) (kk : Nat → ClassId) (A : Nat → Prop) (w1 : va_W) (t : State) : Prop := va_P D classes w1 t.heap ∧ va_K D classes (TY kk) t ∧ va_D A w1
abbrev KQi (D : va_G) (kk : Nat → ClassId) (r' : Int32) (w1 : va_W) (A : Nat → Prop) : Array Value → State → Outcome → State → Prop := va_Qi (fun (r : Int32) (_ : Unit) => r = r') (fun _ t => KB D kk A w1 t) A
abbrev KQl (D : va_G) (kk : Nat → ClassId) (r' : Int64) (w1 : va_W) (A : Nat → Prop) : Array Value → State → Outcome → State → Prop := va_Ql (fun (r : Int64) (_ : Unit) => r = r') (fun _ t => KB D kk A w1 t) A
abbrev KQv (D : va_G) (kk : Nat → ClassId) (w1 : va_W) (A : Nat → Prop) : Array Value → State → Outcome → State → Prop := va_Qv (fun (_ : Unit) => True) (fun _ t => KB D kk A w1 t) A
abbrev KQr (D : va_G) (kk : Nat → ClassId) (r' : Nat) (w1 : va_W) (A : Nat → Prop) : Array Value → State → Outcome → State → Prop := va_Qr (fun (_ : Unit) => True) (fun _ a t => a = r' ∧ KB D kk A w1 t) A
theorem KP.blind {D : va_G} {kk : Nat → ClassId} {st : Nat → Nat} {av : List Value} {ws : va_W} {sz : Nat} : FrameBlind (KPc D kk st av ws sz) := by
  intro a U g mk q
  obtain ⟨q0, q1, qP, qD, qK, qN, qS⟩ := q
  exact ⟨q0, q1, qP, qD, va_K.moved (u := U) (U := U.calling g mk a) (Vm.Alike.refl U.vm) qK, NN.same (s := U) (U := U.calling g mk a) rfl qN, SW.moved (u := U) (U := U.calling g mk a) (Vm.Alike.refl U.vm) qS⟩
section KC
variable {p : Program} {l : Launch} {e : Env} {R : Room} {s : State} {m : MethodId} {args : Array Value} {below : List Frame} {meth : Method} {c : Code} {H : Heap} {locs : List Loc} {cells slots : Nat} {Q : State → Prop}
variable {cc : ByteArray} {pc : Nat} {ls : Array Slot} {rest st0 : List Value} {D : va_G} {kk : Nat → ClassId} {st : Nat → Nat} {A : Nat → Prop} {ws wc wr w1 w2 : va_W}
theorem KP.at {av : List Value} (X : KX D kk st A s) (hA : ∀ q, s.heap.size ≤ q → A q) (hP : va_P D classes ws H) (hD : va_D A ws) (hS : va_S A s.heap H locs) (isC : List Nat) (hn : va_nd isC = true) (h1 : isC.filterMap (fun i => ws[i]?) = wc) (h2 : isC.map (fun i => ws[i]?) = wc.map some) :
    ∀ U : State, U.heap = H → s.WarmedH U.vm → KPc D kk st av wc H.size av.toArray U := by
  intro U hU hw
  obtain ⟨hK, hN, hW⟩ := X
  have hPc := hP.sub isC h1
  have hDc := hD.sub isC hn h2
  refine ⟨rfl, by rw [hU], by rw [hU]; exact hPc, hDc.weaken (fun _ _ _ _ => trivial), va_K.moved hw.alike hK, NN.warm hw hN, ?_⟩
  rw [hU]
  exact SW.moved hw.alike ((hW.kept (fun a h h' => hS.2.1 a h h')).narrow (va_free hD hS hA isC h2))
/-- behind a call: the callee's cells as it left them, the rest as it was -/
theorem kj {H1 : Heap} (hP : va_P D classes ws H) (hD : va_D A ws) (hS : va_S A s.heap H locs) (hA : ∀ q, s.heap.size ≤ q → A q) (isC isR isF : List Nat) (h2 : isC.map (fun i => ws[i]?) = wc.map some) (h3 : isR.map (fun i => ws[i]?) = wr.map some) (h3n : va_nd isR = true) (h4 : ∀ i ∈ isR, i ∉ isC)
    (h5 : isF.filterMap (fun i => (wr ++ w1)[i]?) = w2) (h6 : isF.map (fun i => (wr ++ w1)[i]?) = w2.map some) (h6n : va_nd isF = true)
    (hk : ∀ q : Nat, q < H.size → ¬ va_A wc H.size q → H1[q]? = H[q]?) (hP1 : va_P D classes w1 H1) (hD1 : va_D (va_A wc H.size) w1) : va_P D classes w2 H1 ∧ va_D A w2 := by
  obtain ⟨a, b⟩ := va_join hP hD isC isR h2 h3 h3n h4 hk (va_free hD hS hA isC h2) hP1 hD1
  exact ⟨a.sub isF h5, b.sub isF h6n h6⟩
/-- behind a call that left its cells as they were -/
theorem kj_ro {H1 : Heap} (hP : va_P D classes ws H) (hD : va_D A ws) (isC : List Nat) (h2 : isC.map (fun i => ws[i]?) = wc.map some) (hk : ∀ q : Nat, q < H.size → ¬ va_A wc H.size q → H1[q]? = H[q]?) (hP1 : va_P D classes wc H1) : va_P D classes ws H1 := by
  intro k q hq
  by_cases ha : va_A wc H.size q.1
  · rcases ha with ⟨j, e0, hj⟩ | hsz
    · have h7 : (isC.map (fun i => ws[i]?))[j]? = some (some (q.1, e0)) := by
        rw [h2, List.getElem?_map, hj]
        rfl
      rw [List.getElem?_map] at h7
      cases hi : isC[j]? with
      | none => rw [hi] at h7; cases h7
      | some i =>
        rw [hi] at h7
        have h8 : ws[i]? = some (q.1, e0) := Option.some.inj h7
        have h9 := hD.1 k i q (q.1, e0) hq h8 rfl
        subst h9
        have h10 : q = (q.1, e0) := Option.some.inj (hq.symm.trans h8)
        rw [h10]
        exact hP1 j _ hj
    · have h7 := (hP k q hq).lt
      omega
  · exact (hP k q hq).kept (hk q.1 (hP k q hq).lt ha)
theorem k_i {r' : Int32} {a : Array Value} (hr : va_Run p l e R s m args below meth c H locs cells slots 0 0 (F0 m pc ls st0) rest (KQi D kk r' w1 (va_A wc H.size) a) (va_A wc H.size)) (hA : ∀ q, s.heap.size ≤ q → A q) (hP : va_P D classes ws H) (hD : va_D A ws) (hS : va_S A s.heap H locs) (isC isR isF : List Nat) (h2 : isC.map (fun i => ws[i]?) = wc.map some) (h3 : isR.map (fun i => ws[i]?) = wr.map some) (h3n : va_nd isR = true) (h4 : ∀ i ∈ isR, i ∉ isC)
    (h5 : isF.filterMap (fun i => (wr ++ w1)[i]?) = w2) (h6 : isF.map (fun i => (wr ++ w1)[i]?) = w2.map some) (h6n : va_nd isF = true)
    (kx : ∀ (H1 : Heap) (locs1 : List Loc), va_P D classes w2 H1 → va_D A w2 → va_S A s.heap H1 locs1 → W p l e R s m args below meth c H1 locs1 cells slots Q (F0 m (pc + 3) ls (.int r' :: rest))) : W p l e R s m args below meth c H locs cells slots Q (F0 m pc ls st0) := by
  have hF := va_free hD hS hA isC h2
  refine va_calli hr hS (fun q _ h => hF q h) hF (fun r u t H1 locs1 ht hvm hp hB hz hk hS1 => ?_)
  obtain ⟨hP1, hK1, hD1⟩ := hB
  rw [ht] at hP1
  obtain ⟨a1, a2⟩ := kj hP hD hS hA isC isR isF h2 h3 h3n h4 h5 h6 h6n hk hP1 hD1
  have hp : r = r' := hp
  subst hp
  exact kx H1 locs1 a1 a2 hS1
theorem k_l {r' : Int64} {a : Array Value} (hr : va_Run p l e R s m args below meth c H locs cells slots 0 0 (F0 m pc ls st0) rest (KQl D kk r' w1 (va_A wc H.size) a) (va_A wc H.size)) (hA : ∀ q, s.heap.size ≤ q → A q) (hP : va_P D classes ws H) (hD : va_D A ws) (hS : va_S A s.heap H locs) (isC isR isF : List Nat) (h2 : isC.map (fun i => ws[i]?) = wc.map some) (h3 : isR.map (fun i => ws[i]?) = wr.map some) (h3n : va_nd isR = true) (h4 : ∀ i ∈ isR, i ∉ isC)
    (h5 : isF.filterMap (fun i => (wr ++ w1)[i]?) = w2) (h6 : isF.map (fun i => (wr ++ w1)[i]?) = w2.map some) (h6n : va_nd isF = true)
    (kx : ∀ (H1 : Heap) (locs1 : List Loc), va_P D classes w2 H1 → va_D A w2 → va_S A s.heap H1 locs1 → W p l e R s m args below meth c H1 locs1 cells slots Q (F0 m (pc + 3) ls (.long r' :: rest))) : W p l e R s m args below meth c H locs cells slots Q (F0 m pc ls st0) := by
  have hF := va_free hD hS hA isC h2
  refine va_calll hr hS (fun q _ h => hF q h) hF (fun r u t H1 locs1 ht hvm hp hB hz hk hS1 => ?_)
  obtain ⟨hP1, hK1, hD1⟩ := hB
  rw [ht] at hP1
  obtain ⟨a1, a2⟩ := kj hP hD hS hA isC isR isF h2 h3 h3n h4 h5 h6 h6n hk hP1 hD1
  have hp : r = r' := hp
  subst hp
  exact kx H1 locs1 a1 a2 hS1
theorem k_v {a : Array Value} (hr : va_Run p l e R s m args below meth c H locs cells slots 0 0 (F0 m pc ls st0) rest (KQv D kk w1 (va_A wc H.size) a) (va_A wc H.size)) (hA : ∀ q, s.heap.size ≤ q → A q) (hP : va_P D classes ws H) (hD : va_D A ws) (hS : va_S A s.heap H locs) (isC isR isF : List Nat) (h2 : isC.map (fun i => ws[i]?) = wc.map some) (h3 : isR.map (fun i => ws[i]?) = wr.map some) (h3n : va_nd isR = true) (h4 : ∀ i ∈ isR, i ∉ isC)
    (h5 : isF.filterMap (fun i => (wr ++ w1)[i]?) = w2) (h6 : isF.map (fun i => (wr ++ w1)[i]?) = w2.map some) (h6n : va_nd isF = true)
    (kx : ∀ (H1 : Heap) (locs1 : List Loc), va_P D classes w2 H1 → va_D A w2 → va_S A s.heap H1 locs1 → W p l e R s m args below meth c H1 locs1 cells slots Q (F0 m (pc + 3) ls rest)) : W p l e R s m args below meth c H locs cells slots Q (F0 m pc ls st0) := by
  have hF := va_free hD hS hA isC h2
  refine va_callv hr hS (fun q _ h => hF q h) hF (fun u t H1 locs1 ht hvm hp hB hz hk hS1 => ?_)
  obtain ⟨hP1, hK1, hD1⟩ := hB
  rw [ht] at hP1
  obtain ⟨a1, a2⟩ := kj hP hD hS hA isC isR isF h2 h3 h3n h4 h5 h6 h6n hk hP1 hD1
  exact kx H1 locs1 a1 a2 hS1
theorem k_io {r' : Int32} {a : Array Value} (hr : va_Run p l e R s m args below meth c H locs cells slots 0 0 (F0 m pc ls st0) rest (KQi D kk r' wc (va_A wc H.size) a) (va_A wc H.size)) (hA : ∀ q, s.heap.size ≤ q → A q) (hP : va_P D classes ws H) (hD : va_D A ws) (hS : va_S A s.heap H locs) (isC : List Nat) (h2 : isC.map (fun i => ws[i]?) = wc.map some)
    (kx : ∀ (H1 : Heap) (locs1 : List Loc), va_P D classes ws H1 → va_S A s.heap H1 locs1 → W p l e R s m args below meth c H1 locs1 cells slots Q (F0 m (pc + 3) ls (.int r' :: rest))) : W p l e R s m args below meth c H locs cells slots Q (F0 m pc ls st0) := by
  have hF := va_free hD hS hA isC h2
  refine va_calli hr hS (fun q _ h => hF q h) hF (fun r u t H1 locs1 ht hvm hp hB hz hk hS1 => ?_)
  obtain ⟨hP1, hK1, hD1⟩ := hB
  rw [ht] at hP1
  have hp : r = r' := hp
  subst hp
  exact kx H1 locs1 (kj_ro hP hD isC h2 hk hP1) hS1
theorem k_lo {r' : Int64} {a : Array Value} (hr : va_Run p l e R s m args below meth c H locs cells slots 0 0 (F0 m pc ls st0) rest (KQl D kk r' wc (va_A wc H.size) a) (va_A wc H.size)) (hA : ∀ q, s.heap.size ≤ q → A q) (hP : va_P D classes ws H) (hD : va_D A ws) (hS : va_S A s.heap H locs) (isC : List Nat) (h2 : isC.map (fun i => ws[i]?) = wc.map some)
    (kx : ∀ (H1 : Heap) (locs1 : List Loc), va_P D classes ws H1 → va_S A s.heap H1 locs1 → W p l e R s m args below meth c H1 locs1 cells slots Q (F0 m (pc + 3) ls (.long r' :: rest))) : W p l e R s m args below meth c H locs cells slots Q (F0 m pc ls st0) := by
  have hF := va_free hD hS hA isC h2
  refine va_calll hr hS (fun q _ h => hF q h) hF (fun r u t H1 locs1 ht hvm hp hB hz hk hS1 => ?_)
  obtain ⟨hP1, hK1, hD1⟩ := hB
  rw [ht] at hP1
  have hp : r = r' := hp
  subst hp
  exact kx H1 locs1 (kj_ro hP hD isC h2 hk hP1) hS1
theorem k_vo {a : Array Value} (hr : va_Run p l e R s m args below meth c H locs cells slots 0 0 (F0 m pc ls st0) rest (KQv D kk wc (va_A wc H.size) a) (va_A wc H.size)) (hA : ∀ q, s.heap.size ≤ q → A q) (hP : va_P D classes ws H) (hD : va_D A ws) (hS : va_S A s.heap H locs) (isC : List Nat) (h2 : isC.map (fun i => ws[i]?) = wc.map some)
    (kx : ∀ (H1 : Heap) (locs1 : List Loc), va_P D classes ws H1 → va_S A s.heap H1 locs1 → W p l e R s m args below meth c H1 locs1 cells slots Q (F0 m (pc + 3) ls rest)) : W p l e R s m args below meth c H locs cells slots Q (F0 m pc ls st0) := by
  have hF := va_free hD hS hA isC h2
  refine va_callv hr hS (fun q _ h => hF q h) hF (fun u t H1 locs1 ht hvm hp hB hz hk hS1 => ?_)
  obtain ⟨hP1, hK1, hD1⟩ := hB
  rw [ht] at hP1
  exact kx H1 locs1 (kj_ro hP hD isC h2 hk hP1) hS1
theorem k_ao {r' : Nat} {a : Array Value} (hr : va_Run p l e R s m args below meth c H locs cells slots 0 0 (F0 m pc ls st0) rest (KQr D kk r' wc (va_A wc H.size) a) (va_A wc H.size)) (hA : ∀ q, s.heap.size ≤ q → A q) (hP : va_P D classes ws H) (hD : va_D A ws) (hS : va_S A s.heap H locs) (isC : List Nat) (h2 : isC.map (fun i => ws[i]?) = wc.map some)
    (kx : ∀ (H1 : Heap) (locs1 : List Loc), va_P D classes ws H1 → va_S A s.heap H1 locs1 → W p l e R s m args below meth c H1 locs1 cells slots Q (F0 m (pc + 3) ls (.ref r' :: rest))) : W p l e R s m args below meth c H locs cells slots Q (F0 m pc ls st0) := by
  have hF := va_free hD hS hA isC h2
  refine va_callr hr hS (fun q _ h => hF q h) hF (fun u ra t H1 locs1 ht hvm hp hB hz hk hS1 => ?_)
  obtain ⟨hp, hP1, hK1, hD1⟩ := hB
  rw [ht] at hP1
  subst hp
  exact kx H1 locs1 (kj_ro hP hD isC h2 hk hP1) hS1
/-- the runs: a contract of this form at a call -/
abbrev kr_ok (R : Room) (rm : Room) (maxL : Nat) : Prop := rm.cells = 0 ∧ rm.slots = 0 ∧ rm.frames + 1 ≤ R.frames ∧ 8 + (maxL + 11) + rm.locals ≤ R.locals
abbrev kd_ok (y : MethodName) (n : Nat) : Prop := y.cls ≠ "java/lang/invoke/MethodHandle" ∧ y.cls ≠ "java/lang/invoke/VarHandle" ∧ (parseMethodDescriptor y.desc).map (fun d => d.parameters.length) = some n
theorem r_V {nL idx n maxL : Nat} {own : String} {y : MethodName} {bytes : ByteArray} {ret : Option FieldType} {rm : Room} {As : List Value} {b : Nat} {Qc : Array Value → State → Outcome → State → Prop} {free : Addr → Prop} (S : CallFix p m c cc nL s args GW own) (X : KX D kk st A s) (hA : ∀ q, s.heap.size ≤ q → A q) (hP : va_P D classes ws H) (hD : va_D A ws) (hS : va_S A s.heap H locs)
    (hM : Met l y (Cond.code y bytes maxL ret :: GW) rm (KPc D kk st (.ref b :: As) wc H.size) Qc 0 0 free)
    (g0 : Cond.code y bytes maxL ret ∈ GW) (g1 : Cond.methodLink own idx y ∈ GW) (g2 : Cond.instanceMethod y ∈ GW) (g3 : Cond.selects y.cls y y ∈ GW) (g4 : Cond.initialized y.cls ∈ GW) (hr : kr_ok R rm maxL) (hd : kd_ok y n)
    (isC : List Nat) (hn : va_nd isC = true) (h1 : isC.filterMap (fun i => ws[i]?) = wc) (h2 : isC.map (fun i => ws[i]?) = wc.map some)
    (q0 ci : Nat) {fs : List Value} {q : vw_C} (he : ws[q0]? = some (b, .inr (ci, fs))) (hc : classes[ci]? = some q) (hq : q.1 = y.cls) (hAs : As.length = n) (hl : ls.size = nL) (hstk : st0 = As.reverse ++ .ref b :: rest) (hst : (rest.map fun v => v.category).sum ≤ 8)
    (hdg : decode cc pc = .ok (.invokevirtual idx, 3)) (hcs : cells ≤ R.cells ∧ slots ≤ R.slots) :
    va_Run p l e R s m args below meth c H locs cells slots 0 0 (F0 m pc ls st0) rest (Qc (Value.ref b :: As).toArray) free := by
  refine va_runV (C := y.cls) S hM (cwV n S.2.2.2.2 (gi_app (fun _ h => h) g0 ?_) rfl hr.1 hr.2.1 ⟨rfl, hd⟩ ⟨hr.2.2.1, hr.2.2.2⟩) ⟨KP.blind, ?_, KP.at X hA hP hD hS isC hn h1 h2⟩ rfl hAs hl hstk (lv_room hst) hdg hcs
  · intro w hw
    simp only [List.mem_cons, List.mem_nil_iff, or_false] at hw
    rcases hw with rfl | rfl | rfl | rfl
    · exact g1
    · exact g2
    · exact g3
    · exact g4
  · obtain ⟨cell, a1, a2, a3⟩ := va_recv X.1 hP hc he
    exact ⟨cell, a1, a2, by rw [← hq]; exact a3⟩
theorem r_VH {nL idx n maxL : Nat} {own : String} {y : MethodName} {bytes : ByteArray} {ret : Option FieldType} {rm : Room} {As : List Value} {b : Nat} {Qc : Array Value → State → Outcome → State → Prop} {free : Addr → Prop} (S : CallFix p m c cc nL s args GW own) (X : KX D kk st A s) (hA : ∀ q, s.heap.size ≤ q → A q) (hP : va_P D classes ws H) (hD : va_D A ws) (hS : va_S A s.heap H locs)
    (hM : Met l y (Cond.code y bytes maxL ret :: GW) rm (KPc D kk st (.ref b :: As) wc H.size) Qc 0 0 free)
    (g0 : Cond.code y bytes maxL ret ∈ GW) (g1 : Cond.methodLink own idx y ∈ GW) (g2 : Cond.instanceMethod y ∈ GW) (g3 : Cond.selects y.cls y y ∈ GW) (g4 : Cond.initialized y.cls ∈ GW) (hr : kr_ok R rm maxL) (hd : kd_ok y n)
    (isC : List Nat) (hn : va_nd isC = true) (h1 : isC.filterMap (fun i => ws[i]?) = wc) (h2 : isC.map (fun i => ws[i]?) = wc.map some)
    (hrv : ∃ cell : Cell, H[b]? = some cell ∧ cell.vm.isStatics = false ∧ s.vm.findClass y.cls = some cell.cls) (hAs : As.length = n) (hl : ls.size = nL) (hstk : st0 = As.reverse ++ .ref b :: rest) (hst : (rest.map fun v => v.category).sum ≤ 8)
    (hdg : decode cc pc = .ok (.invokevirtual idx, 3)) (hcs : cells ≤ R.cells ∧ slots ≤ R.slots) :
    va_Run p l e R s m args below meth c H locs cells slots 0 0 (F0 m pc ls st0) rest (Qc (Value.ref b :: As).toArray) free := by
  refine va_runV (C := y.cls) S hM (cwV n S.2.2.2.2 (gi_app (fun _ h => h) g0 ?_) rfl hr.1 hr.2.1 ⟨rfl, hd⟩ ⟨hr.2.2.1, hr.2.2.2⟩) ⟨KP.blind, ?_, KP.at X hA hP hD hS isC hn h1 h2⟩ rfl hAs hl hstk (lv_room hst) hdg hcs
  · intro w hw
    simp only [List.mem_cons, List.mem_nil_iff, or_false] at hw
    rcases hw with rfl | rfl | rfl | rfl
    · exact g1
    · exact g2
    · exact g3
    · exact g4
  · exact hrv
theorem r_S {nL idx n maxL : Nat} {own : String} {y : MethodName} {bytes : ByteArray} {ret : Option FieldType} {rm : Room} {As : List Value} {Qc : Array Value → State → Outcome → State → Prop} {free : Addr → Prop} (S : CallFix p m c cc nL s args GW own) (X : KX D kk st A s) (hA : ∀ q, s.heap.size ≤ q → A q) (hP : va_P D classes ws H) (hD : va_D A ws) (hS : va_S A s.heap H locs)
    (hM : Met l y (Cond.code y bytes maxL ret :: GW) rm (KPc D kk st As wc H.size) Qc 0 0 free)
    (g0 : Cond.code y bytes maxL ret ∈ GW) (g1 : Cond.methodLink own idx y ∈ GW) (g2 : Cond.static y ∈ GW) (g4 : Cond.initialized y.cls ∈ GW) (hr : kr_ok R rm maxL) (hd : kd_ok y n)
    (isC : List Nat) (hn : va_nd isC = true) (h1 : isC.filterMap (fun i => ws[i]?) = wc) (h2 : isC.map (fun i => ws[i]?) = wc.map some) (hAs : As.length = n) (hl : ls.size = nL) (hstk : st0 = As.reverse ++ rest) (hst : (rest.map fun v => v.category).sum ≤ 8)
    (hdg : decode cc pc = .ok (.invokestatic idx, 3)) (hcs : cells ≤ R.cells ∧ slots ≤ R.slots) :
    va_Run p l e R s m args below meth c H locs cells slots 0 0 (F0 m pc ls st0) rest (Qc As.toArray) free := by
  have hts := S.2.2.2.2
  refine va_runS S hM ⟨callB_of n hts (gi_cons (fun _ h => h) g0) rfl hr.1 hr.2.1 (hts _ g4) (hts _ g1) hd ⟨hr.2.2.1, hr.2.2.2⟩, hts _ g2⟩ ⟨KP.blind, KP.at X hA hP hD hS isC hn h1 h2⟩ rfl hAs hl hstk (lv_room hst) hdg hcs
theorem r_VN {nL idx n maxL : Nat} {own host : String} {y : MethodName} {bytes : ByteArray} {ret : Option FieldType} {rm : Room} {As : List Value} {b : Nat} {Qc : Array Value → State → Outcome → State → Prop} {free : Addr → Prop} (S : CallFix p m c cc nL s args GW own) (X : KX D kk st A s) (hA : ∀ q, s.heap.size ≤ q → A q) (hP : va_P D classes ws H) (hD : va_D A ws) (hS : va_S A s.heap H locs)
    (hM : Met l y (Cond.code y bytes maxL ret :: GW) rm (KPc D kk st (.ref b :: As) wc H.size) Qc 0 0 free)
    (g0 : Cond.code y bytes maxL ret ∈ GW) (g1 : Cond.methodLinkNest own idx y host ∈ NW) (g2 : Cond.instanceMethod y ∈ GW) (g3 : Cond.selects y.cls y y ∈ GW) (g4 : Cond.initialized y.cls ∈ GW) (hr : kr_ok R rm maxL) (hd : kd_ok y n)
    (isC : List Nat) (hn : va_nd isC = true) (h1 : isC.filterMap (fun i => ws[i]?) = wc) (h2 : isC.map (fun i => ws[i]?) = wc.map some)
    (q0 ci : Nat) {fs : List Value} {q : vw_C} (he : ws[q0]? = some (b, .inr (ci, fs))) (hc : classes[ci]? = some q) (hq : q.1 = y.cls) (hAs : As.length = n) (hl : ls.size = nL) (hstk : st0 = As.reverse ++ .ref b :: rest) (hst : (rest.map fun v => v.category).sum ≤ 8)
    (hdg : decode cc pc = .ok (.invokevirtual idx, 3)) (hcs : cells ≤ R.cells ∧ slots ≤ R.slots) :
    va_Run p l e R s m args below meth c H locs cells slots 0 0 (F0 m pc ls st0) rest (Qc (Value.ref b :: As).toArray) free := by
  have hts := S.2.2.2.2
  refine va_runVN (C := y.cls) (host := host) S hM ⟨va_cnB n hts (gi_cons (fun _ h => h) g0) rfl hr.1 hr.2.1 (X.2.1.1 _ g1) (hts _ g4) hd ⟨hr.2.2.1, hr.2.2.2⟩, hts _ g2, hts _ g3⟩ ⟨KP.blind, ?_, KP.at X hA hP hD hS isC hn h1 h2⟩ rfl hAs hl hstk (lv_room hst) hdg hcs
  obtain ⟨cell, a1, a2, a3⟩ := va_recv X.1 hP hc he
  exact ⟨cell, a1, a2, by rw [← hq]; exact a3⟩
theorem r_SN {nL idx n maxL : Nat} {own host : String} {y : MethodName} {bytes : ByteArray} {ret : Option FieldType} {rm : Room} {As : List Value} {Qc : Array Value → State → Outcome → State → Prop} {free : Addr → Prop} (S : CallFix p m c cc nL s args GW own) (X : KX D kk st A s) (hA : ∀ q, s.heap.size ≤ q → A q) (hP : va_P D classes ws H) (hD : va_D A ws) (hS : va_S A s.heap H locs)
    (hM : Met l y (Cond.code y bytes maxL ret :: GW) rm (KPc D kk st As wc H.size) Qc 0 0 free)
    (g0 : Cond.code y bytes maxL ret ∈ GW) (g1 : Cond.methodLinkNest own idx y host ∈ NW) (g2 : Cond.static y ∈ GW) (g4 : Cond.initialized y.cls ∈ GW) (hr : kr_ok R rm maxL) (hd : kd_ok y n)
    (isC : List Nat) (hn : va_nd isC = true) (h1 : isC.filterMap (fun i => ws[i]?) = wc) (h2 : isC.map (fun i => ws[i]?) = wc.map some) (hAs : As.length = n) (hl : ls.size = nL) (hstk : st0 = As.reverse ++ rest) (hst : (rest.map fun v => v.category).sum ≤ 8)
    (hdg : decode cc pc = .ok (.invokestatic idx, 3)) (hcs : cells ≤ R.cells ∧ slots ≤ R.slots) :
    va_Run p l e R s m args below meth c H locs cells slots 0 0 (F0 m pc ls st0) rest (Qc As.toArray) free := by
  have hts := S.2.2.2.2
  refine va_runSN (host := host) S hM ⟨va_cnB n hts (gi_cons (fun _ h => h) g0) rfl hr.1 hr.2.1 (X.2.1.1 _ g1) (hts _ g4) hd ⟨hr.2.2.1, hr.2.2.2⟩, hts _ g2, trivial⟩ ⟨KP.blind, KP.at X hA hP hD hS isC hn h1 h2⟩ rfl hAs hl hstk (lv_room hst) hdg hcs
/-- long compares with the branch behind them -/
theorem lq_lt (hx : p.tables.exec = Jvm.exec) (hb : c.code = cc) {x y : Int64} {off : Int} {tgt : Nat} (hd1 : decode cc pc = .ok (.lcmp, 1)) (hd2 : decode cc (pc + 1) = .ok (.ifCond .lt off, 3)) (ht : ((pc + 1 : Nat) : Int) + off = (tgt : Int)) (kt : x < y → W p l e R s m args below meth c H locs cells slots Q (F0 m tgt ls rest)) (kf : ¬ x < y → W p l e R s m args below meth c H locs cells slots Q (F0 m (pc + 1 + 3) ls rest)) : W p l e R s m args below meth c H locs cells slots Q (F0 m pc ls (.long y :: .long x :: rest)) :=
  W.lcmp hx hb hd1 (lv_if_lt hx hb hd2 ht (fun h => kt ((lg_cmp_lt x y).mp h)) (fun h => kf (fun q => h ((lg_cmp_lt x y).mpr q))))
theorem lq_ge (hx : p.tables.exec = Jvm.exec) (hb : c.code = cc) {x y : Int64} {off : Int} {tgt : Nat} (hd1 : decode cc pc = .ok (.lcmp, 1)) (hd2 : decode cc (pc + 1) = .ok (.ifCond .ge off, 3)) (ht : ((pc + 1 : Nat) : Int) + off = (tgt : Int)) (kt : y ≤ x → W p l e R s m args below meth c H locs cells slots Q (F0 m tgt ls rest)) (kf : ¬ y ≤ x → W p l e R s m args below meth c H locs cells slots Q (F0 m (pc + 1 + 3) ls rest)) : W p l e R s m args below meth c H locs cells slots Q (F0 m pc ls (.long y :: .long x :: rest)) :=
  W.lcmp hx hb hd1 (lv_if_ge hx hb hd2 ht (fun h => kt ((lg_cmp_ge x y).mp h)) (fun h => kf (fun q => h ((lg_cmp_ge x y).mpr q))))
theorem lq_gt (hx : p.tables.exec = Jvm.exec) (hb : c.code = cc) {x y : Int64} {off : Int} {tgt : Nat} (hd1 : decode cc pc = .ok (.lcmp, 1)) (hd2 : decode cc (pc + 1) = .ok (.ifCond .gt off, 3)) (ht : ((pc + 1 : Nat) : Int) + off = (tgt : Int)) (kt : y < x → W p l e R s m args below meth c H locs cells slots Q (F0 m tgt ls rest)) (kf : ¬ y < x → W p l e R s m args below meth c H locs cells slots Q (F0 m (pc + 1 + 3) ls rest)) : W p l e R s m args below meth c H locs cells slots Q (F0 m pc ls (.long y :: .long x :: rest)) :=
  W.lcmp hx hb hd1 (lv_if_gt hx hb hd2 ht (fun h => kt ((lg_cmp_gt x y).mp h)) (fun h => kf (fun q => h ((lg_cmp_gt x y).mpr q))))
theorem lq_le (hx : p.tables.exec = Jvm.exec) (hb : c.code = cc) {x y : Int64} {off : Int} {tgt : Nat} (hd1 : decode cc pc = .ok (.lcmp, 1)) (hd2 : decode cc (pc + 1) = .ok (.ifCond .le off, 3)) (ht : ((pc + 1 : Nat) : Int) + off = (tgt : Int)) (kt : x ≤ y → W p l e R s m args below meth c H locs cells slots Q (F0 m tgt ls rest)) (kf : ¬ x ≤ y → W p l e R s m args below meth c H locs cells slots Q (F0 m (pc + 1 + 3) ls rest)) : W p l e R s m args below meth c H locs cells slots Q (F0 m pc ls (.long y :: .long x :: rest)) :=
  W.lcmp hx hb hd1 (lv_if_le hx hb hd2 ht (fun h => kt ((lg_cmp_le x y).mp h)) (fun h => kf (fun q => h ((lg_cmp_le x y).mpr q))))
theorem lq_eq (hx : p.tables.exec = Jvm.exec) (hb : c.code = cc) {x y : Int64} {off : Int} {tgt : Nat} (hd1 : decode cc pc = .ok (.lcmp, 1)) (hd2 : decode cc (pc + 1) = .ok (.ifCond .eq off, 3)) (ht : ((pc + 1 : Nat) : Int) + off = (tgt : Int)) (kt : x = y → W p l e R s m args below meth c H locs cells slots Q (F0 m tgt ls rest)) (kf : ¬ x = y → W p l e R s m args below meth c H locs cells slots Q (F0 m (pc + 1 + 3) ls rest)) : W p l e R s m args below meth c H locs cells slots Q (F0 m pc ls (.long y :: .long x :: rest)) :=
  W.lcmp hx hb hd1 (lv_if_eq hx hb hd2 ht (fun h => kt ((lg_cmp_eq x y).mp h)) (fun h => kf (fun q => h ((lg_cmp_eq x y).mpr q))))
theorem lq_ne (hx : p.tables.exec = Jvm.exec) (hb : c.code = cc) {x y : Int64} {off : Int} {tgt : Nat} (hd1 : decode cc pc = .ok (.lcmp, 1)) (hd2 : decode cc (pc + 1) = .ok (.ifCond .ne off, 3)) (ht : ((pc + 1 : Nat) : Int) + off = (tgt : Int)) (kt : ¬ x = y → W p l e R s m args below meth c H locs cells slots Q (F0 m tgt ls rest)) (kf : x = y → W p l e R s m args below meth c H locs cells slots Q (F0 m (pc + 1 + 3) ls rest)) : W p l e R s m args below meth c H locs cells slots Q (F0 m pc ls (.long y :: .long x :: rest)) :=
  W.lcmp hx hb hd1 (lv_if_ne hx hb hd2 ht (fun h => kt (fun q => h ((lg_cmp_eq x y).mpr q))) (fun h => kf ((lg_cmp_eq x y).mp h)))
/-- the end of a method -/
theorem k_ire {v : Int32} (S : p.tables.exec = Jvm.exec) (hb : c.code = cc) (hr : meth.sig.returnType = some .int) (hlk : meth.locks = false) (X : KX D kk st A s) (hP : va_P D classes ws H) (hD : va_D A ws) (hS : va_S A s.heap H locs) (hdg : decode cc pc = .ok (.ireturn, 1)) : W p l e R s m args below meth c H locs cells slots (MQ below (KQi D kk v ws A) args s cells slots A) (F0 m pc ls [.int v]) :=
  W.iret S hb hr (fun t ht hW => ⟨⟨v, (), rfl, rfl, by rw [ht]; exact hP, va_K.moved hW.alike X.1, hD⟩, hS.F ht⟩) hS.2.2 hdg hlk
theorem k_zre {v : Int32} (S : p.tables.exec = Jvm.exec) (hb : c.code = cc) (hr : meth.sig.returnType = some .boolean) (hlk : meth.locks = false) (X : KX D kk st A s) (hP : va_P D classes ws H) (hD : va_D A ws) (hS : va_S A s.heap H locs) (hv : v = 0 ∨ v = 1) (hdg : decode cc pc = .ok (.ireturn, 1)) : W p l e R s m args below meth c H locs cells slots (MQ below (KQi D kk v ws A) args s cells slots A) (F0 m pc ls [.int v]) :=
  W.zret S hb hr (bo_n hv) (fun t ht hW => ⟨⟨v, (), rfl, rfl, by rw [ht]; exact hP, va_K.moved hW.alike X.1, hD⟩, hS.F ht⟩) hS.2.2 hdg hlk
theorem k_lre {v : Int64} (S : p.tables.exec = Jvm.exec) (hb : c.code = cc) (hr : meth.sig.returnType = some .long) (hlk : meth.locks = false) (X : KX D kk st A s) (hP : va_P D classes ws H) (hD : va_D A ws) (hS : va_S A s.heap H locs) (hdg : decode cc pc = .ok (.lreturn, 1)) : W p l e R s m args below meth c H locs cells slots (MQ below (KQl D kk v ws A) args s cells slots A) (F0 m pc ls [.long v]) :=
  W.lret S hb hr (fun t ht hW => ⟨⟨v, (), rfl, rfl, by rw [ht]; exact hP, va_K.moved hW.alike X.1, hD⟩, hS.F ht⟩) hS.2.2 hdg hlk
theorem k_vre (S : p.tables.exec = Jvm.exec) (hb : c.code = cc) (hr : meth.sig.returnType = none) (hlk : meth.locks = false) (X : KX D kk st A s) (hP : va_P D classes ws H) (hD : va_D A ws) (hS : va_S A s.heap H locs) (hdg : decode cc pc = .ok (.return_, 1)) : W p l e R s m args below meth c H locs cells slots (MQ below (KQv D kk ws A) args s cells slots A) (F0 m pc ls []) :=
  W.vret S hb hr (fun t ht hW => ⟨⟨(), rfl, trivial, by rw [ht]; exact hP, va_K.moved hW.alike X.1, hD⟩, hS.F ht⟩) hS.2.2 hdg hlk
theorem k_nre {v : Int32} {ty : FieldType} (S : p.tables.exec = Jvm.exec) (hb : c.code = cc) (hr : meth.sig.returnType = some ty) (hlk : meth.locks = false) (X : KX D kk st A s) (hP : va_P D classes ws H) (hD : va_D A ws) (hS : va_S A s.heap H locs) (hv : narrow ty (.int v) = .int v) (hdg : decode cc pc = .ok (.ireturn, 1)) : W p l e R s m args below meth c H locs cells slots (MQ below (KQi D kk v ws A) args s cells slots A) (F0 m pc ls [.int v]) :=
  W.zret S hb hr hv (fun t ht hW => ⟨⟨v, (), rfl, rfl, by rw [ht]; exact hP, va_K.moved hW.alike X.1, hD⟩, hS.F ht⟩) hS.2.2 hdg hlk
theorem k_are {v : Nat} {C : String} (S : p.tables.exec = Jvm.exec) (hb : c.code = cc) (hr : meth.sig.returnType = some (.object C)) (hlk : meth.locks = false) (X : KX D kk st A s) (hP : va_P D classes ws H) (hD : va_D A ws) (hS : va_S A s.heap H locs) (hdg : decode cc pc = .ok (.areturn, 1)) : W p l e R s m args below meth c H locs cells slots (MQ below (KQr D kk v ws A) args s cells slots A) (F0 m pc ls [.ref v]) :=
  W.aret S hb hr (Or.inl ⟨C, rfl⟩) (Or.inr ⟨v, rfl⟩) (fun t ht hW => ⟨⟨(), v, rfl, trivial, rfl, by rw [ht]; exact hP, va_K.moved hW.alike X.1, hD⟩, hS.F ht⟩) hS.2.2 hdg hlk
/-- fields -/
theorem k_get {own C : String} {T : u_T} {N ci idx nL a : Nat} (S : CallFix p m c cc nL s args GW own) (X : KX D kk st A s) (hin : ∀ w ∈ u_ws C T N, w ∈ GW) (hP : va_P D classes ws H) (q0 : Nat) {fs : List Value} (he : ws[q0]? = some (a, .inr (ci, fs))) (hc : classes[ci]? = some (C, T, N)) (k : Nat) (hk : k < N) (g : Cond.fieldLink own idx (T k).1 (T k).2.1 (T k).2.2.1 ∈ GW) {v : Value} (hv : fs[k]? = some v) (hdg : decode cc pc = .ok (.getfield idx, 3)) (kx : W p l e R s m args below meth c H locs cells slots Q (F0 m (pc + 3) ls (v :: rest))) : W p l e R s m args below meth c H locs cells slots Q (F0 m pc ls (.ref a :: rest)) :=
  va_get S.1 S.2.1 S.2.2.2.2 hin S.2.2.2.1 X.1 hP q0 he hc k hk (S.2.2.2.2 _ g) (fun _ h => h) hv hdg kx
theorem k_getN {own C host : String} {T : u_T} {N ci idx nL a : Nat} (S : CallFix p m c cc nL s args GW own) (X : KX D kk st A s) (hin : ∀ w ∈ u_ws C T N, w ∈ GW) (hP : va_P D classes ws H) (q0 : Nat) {fs : List Value} (he : ws[q0]? = some (a, .inr (ci, fs))) (hc : classes[ci]? = some (C, T, N)) (k : Nat) (hk : k < N) (g : Cond.fieldLinkNest own idx (T k).1 (T k).2.1 (T k).2.2.1 host ∈ NW) {v : Value} (hv : fs[k]? = some v) (hdg : decode cc pc = .ok (.getfield idx, 3)) (kx : W p l e R s m args below meth c H locs cells slots Q (F0 m (pc + 3) ls (v :: rest))) : W p l e R s m args below meth c H locs cells slots Q (F0 m pc ls (.ref a :: rest)) :=
  va_getN S.1 S.2.1 S.2.2.2.2 hin S.2.2.2.1 X.1 hP q0 he hc k hk (va_Nw.use rfl (X.2.1.1 _ g)) (fun _ h => h) hv hdg kx
theorem k_put {own C : String} {T : u_T} {N ci idx nL a : Nat} (S : CallFix p m c cc nL s args GW own) (X : KX D kk st A s) (hin : ∀ w ∈ u_ws C T N, w ∈ GW) (ty0 : Nat → FieldType) (hty : ∀ k, k < N → parseFieldDescriptor (T k).2.2.1 = some (ty0 k)) (hnm : ∀ a, a < N → ∀ b, b < N → a ≠ b → (T a).2.1 ≠ (T b).2.1) (hP : va_P D classes ws H) (hD : va_D A ws) (hS : va_S A s.heap H locs) (q0 : Nat) {fs : List Value} (he : ws[q0]? = some (a, .inr (ci, fs))) (hc : classes[ci]? = some (C, T, N)) (k : Nat) (hk : k < N) (g : Cond.fieldLink own idx (T k).1 (T k).2.1 (T k).2.2.1 ∈ GW) (hfin : (T k).2.2.2 = false) {v : Value} (hn : narrow (ty0 k) v = v) (hf : fits (ty0 k) v = true) (hl : k < fs.length) (hdg : decode cc pc = .ok (.putfield idx, 3))
    (kx : ∀ (H1 : Heap) (locs1 : List Loc), va_P D classes (ws.set q0 (a, .inr (ci, fs.set k v))) H1 → va_D A (ws.set q0 (a, .inr (ci, fs.set k v))) → va_S A s.heap H1 locs1 → W p l e R s m args below meth c H1 locs1 cells slots Q (F0 m (pc + 3) ls rest)) : W p l e R s m args below meth c H locs cells slots Q (F0 m pc ls (v :: .ref a :: rest)) :=
  va_put S.1 S.2.1 S.2.2.2.2 hin ty0 hty hnm S.2.2.2.1 X.1 hP hD hS q0 he hc k hk (S.2.2.2.2 _ g) (fun _ h => h) hfin (hty k hk) hn hf hl hdg kx
theorem k_putN {own C host : String} {T : u_T} {N ci idx nL a : Nat} (S : CallFix p m c cc nL s args GW own) (X : KX D kk st A s) (hin : ∀ w ∈ u_ws C T N, w ∈ GW) (ty0 : Nat → FieldType) (hty : ∀ k, k < N → parseFieldDescriptor (T k).2.2.1 = some (ty0 k)) (hnm : ∀ a, a < N → ∀ b, b < N → a ≠ b → (T a).2.1 ≠ (T b).2.1) (hP : va_P D classes ws H) (hD : va_D A ws) (hS : va_S A s.heap H locs) (q0 : Nat) {fs : List Value} (he : ws[q0]? = some (a, .inr (ci, fs))) (hc : classes[ci]? = some (C, T, N)) (k : Nat) (hk : k < N) (g : Cond.fieldLinkNest own idx (T k).1 (T k).2.1 (T k).2.2.1 host ∈ NW) (hfin : (T k).2.2.2 = false) {v : Value} (hn : narrow (ty0 k) v = v) (hf : fits (ty0 k) v = true) (hl : k < fs.length) (hdg : decode cc pc = .ok (.putfield idx, 3))
    (kx : ∀ (H1 : Heap) (locs1 : List Loc), va_P D classes (ws.set q0 (a, .inr (ci, fs.set k v))) H1 → va_D A (ws.set q0 (a, .inr (ci, fs.set k v))) → va_S A s.heap H1 locs1 → W p l e R s m args below meth c H1 locs1 cells slots Q (F0 m (pc + 3) ls rest)) : W p l e R s m args below meth c H locs cells slots Q (F0 m pc ls (v :: .ref a :: rest)) :=
  va_putN S.1 S.2.1 S.2.2.2.2 hin ty0 hty hnm S.2.2.2.1 X.1 hP hD hS q0 he hc k hk (va_Nw.use rfl (X.2.1.1 _ g)) (fun _ h => h) hfin (hty k hk) hn hf hl hdg kx
theorem SW.rv (h : SW st A s s.heap) (i : Nat) (hi : i < 4) (hS : va_S A s.heap H locs) : ∃ cell : Cell, H[st (10 + i)]? = some cell ∧ cell.vm.isStatics = false ∧ s.vm.findClass "java/lang/String" = some cell.cls :=
  vk_recv (adK := fun i => st (10 + i)) h.vs hi hS
end KC
/-- the kit's 'a contract out of a walk', for a method that no entry runs instead -/
theorem Met.ofWF {l : Launch} {y : MethodName} {ws ws' : List Cond} {rm : Room} {Pc : Array Value → State → Prop} {Qc : Array Value → State → Outcome → State → Prop} {mc ms : Nat} {free : Addr → Prop} {cc : ByteArray} {maxL : Nat} {ret : Option FieldType}
    (hy : plainFor y = true) (hw : ws = Cond.code y cc maxL ret :: ws')
    (body : ∀ p e s m args below meth c s₁, BodyLoose p l y (headSpec ws rm) cc maxL ret e s m args below meth c s₁ → c.maxLocals = maxL → Pc args s →
      W p l e (headSpec ws rm).room s m args below meth c s.heap [] 0 0 (MQ below Qc args s mc ms free) (entryFrame m args maxL)) : Met l y ws rm Pc Qc mc ms free := by
  refine MetFree.of_bodySF (code := cc) (maxLocals := maxL) (ret := ret) hy ?_ ?_
  · intro args s m h hn
    obtain ⟨meth, c, h1, h2, h3, h4, h5, h6, -, -⟩ := Cond.code_spec hn (atoms_spec (ws := ws) h _ (by rw [hw]; exact List.mem_cons_self))
    exact ⟨meth, c, h1, h2, h3, h4, h5, h6⟩
  · intro p e s m args below meth c s₁ B hml hP _
    have hh0 : s₁.heap = s.heap := by rw [B.state]; rfl
    obtain ⟨t, a1, o, b1, b2, b3⟩ := body p e s m args below meth c s₁ B hml hP s₁ hh0 (Stand.of_body B)
    exact ⟨t, o, a1, b1, b2, ⟨b3.1, b3.2⟩⟩
/-- the start of a method -/
theorem k_start {l : Launch} {y : MethodName} {bytes : ByteArray} {maxL mc ms : Nat} {ret : Option FieldType} {rm : Room} {D : va_G} {kk : Nat → ClassId} {st : Nat → Nat} {av : List Value} {ws : va_W} {sz : Nat} {Qc : (Nat → Prop) → Array Value → State → Outcome → State → Prop} (hy : plainFor y = true) (hlen : (lg_sl av).length ≤ maxL)
    (body : ∀ (p : Program) (e : Env) (s : State) (m : MethodId) (below : List Frame) (meth : Method) (c : Code) (A : Nat → Prop) (ls : Array Slot), CallFix p m c bytes maxL s av.toArray GW y.cls → meth.name = y.name → meth.sig.returnType = ret → meth.locks = false → (∀ q, s.heap.size ≤ q → A q) → KX D kk st A s → va_P D classes ws s.heap → va_D A ws → va_S A s.heap s.heap [] → lv_has ls maxL (lv_args 0 av) →
      W p l e rm s m av.toArray below meth c s.heap [] 0 0 (MQ below (Qc A) av.toArray s mc ms A) (F0 m 0 ls [])) :
    Met l y (Cond.code y bytes maxL ret :: GW) rm (KPc D kk st av ws sz) (Qc (va_A ws sz)) mc ms (va_A ws sz) := by
  refine Met.ofWF (cc := bytes) (maxL := maxL) (ret := ret) hy rfl ?_
  intro p e s m args below meth c s₁ B hml hv
  obtain ⟨rfl, hsz, hP, hD0, hK, hN, hW⟩ := hv
  subst hsz
  have hts := atoms_spec (ws := Cond.code y bytes maxL ret :: GW) B.pre
  have hl := lv_entry av (n := maxL) hlen
  rw [lg_entry_eq]
  exact body p e s m below meth c (va_A ws s.heap.size) _ ⟨B.exec, B.bytes, hml, findClass_of_methodNamed B.named, fun w h => hts w (List.mem_cons_of_mem _ h)⟩ (name_of_methodNamed B.named B.method).1 B.returns B.notSynchronized (fun q h => Or.inr h) ⟨hK, hN, hW⟩ hP (hD0.self (sz := s.heap.size)) va_S.rf hl
theorem ii_ {x : Int32} {n : Int} {v : Int32} (h : Int32.ofInt n = v) : x + Int32.ofInt n = x + v := by rw [h]
def sel {R V T : Type} (u : R ⊕ V) (f : R → Option T) (g : V → Option T) : Option T := match u with
  | .inl r => f r
  | .inr v => g v
theorem sel_l {R V T : Type} {o : R} {f : R → Option T} {g : V → Option T} {y : Option T} (h : sel (.inl o) f g = y) : f o = y := h
theorem sel_r {R V T : Type} {v : V} {f : R → Option T} {g : V → Option T} {y : Option T} (h : sel (.inr v) f g = y) : g v = y := h
/-! Rows for constructors. -/
theorem ra_find {U : State} {cA : ClassId} {ty : FieldType} (h : va_RA U cA ty) : U.vm.findClass ("[" ++ ty.toString) = some cA := by
  cases ty with
  | object C =>
    obtain ⟨kA, comp, h1, h2, h3, h4⟩ := h
    exact h4
  | _ => exact h
abbrev KQc {S' : Type} (D : va_G) (kk : Nat → ClassId) (w1 : S' → va_W) (A : Nat → Prop) : Array Value → State → Outcome → State → Prop := va_Qv (fun (_ : S') => True) (fun u t => KB D kk A (w1 u) t) A
section KD
variable {p : Program} {l : Launch} {e : Env} {R : Room} {s : State} {m : MethodId} {args : Array Value} {below : List Frame} {meth : Method} {c : Code} {H : Heap} {locs : List Loc} {cells slots : Nat} {Q : State → Prop}
variable {cc : ByteArray} {pc : Nat} {ls : Array Slot} {rest st0 : List Value} {D : va_G} {kk : Nat → ClassId} {st : Nat → Nat} {A : Nat → Prop} {ws wc wr w2 : va_W}
theorem k_newa {nL : Nat} {own : String} {atype : ArrayType} {ty : FieldType} {kA : ClassId} (S : CallFix p m c cc nL s args GW own) (X : KX D kk st A s) (hA : ∀ q, s.heap.size ≤ q → A q) (hP : va_P D classes ws H) (hD : va_D A ws) (hS : va_S A s.heap H locs) (g : Cond.arrayClass (newarray.typeOf atype) ∈ GW) (hty : newarray.typeOf atype = ty) (t0 : Nat) (ht : (TY kk)[t0]? = some (kA, ty)) {n : Int32} {N' : Nat} {a0 : vp_A} (ha : ∀ cA : ClassId, vp_cell cA a0 = arrV cA N' (fun _ => defaultValue ty)) (hn : ¬ n < 0) (hN : n.toNatClampNeg = N') (hbytes : N' * componentBytes ty ≤ 536870912) (hcells : cells + 1 ≤ R.cells) (hslots : slots + N' ≤ R.slots) (hdg : decode cc pc = .ok (.newarray atype, 2))
    (kx : ∀ (q : Nat) (H1 : Heap), va_P D classes (ws ++ [(q, .inl (kA, a0))]) H1 → va_D A (ws ++ [(q, .inl (kA, a0))]) → va_S A s.heap H1 locs → W p l e R s m args below meth c H1 locs (cells + 1) (slots + N') Q (F0 m (pc + 2) ls (.ref q :: rest))) : W p l e R s m args below meth c H locs cells slots Q (F0 m pc ls (.int n :: rest)) := by
  refine va_newa S.1 S.2.1 (S.2.2.2.2 _ g) hty X.1 hP hD hS hA ha hn hN hbytes hcells hslots hdg (fun q cA H1 hK2 hP2 hD2 hS2 => ?_)
  have e1 := ra_find (X.1.2 t0 _ ht).2
  have e2 := ra_find (hK2.2 5 (cA, ty) rfl).2
  have e3 : cA = kA := Option.some.inj (e2.symm.trans e1)
  subst e3
  exact kx q H1 hP2 hD2 hS2
theorem k_newq {nL : Nat} {own : String} {idx : Nat} (S : CallFix p m c cc nL s args GW own) (X : KX D kk st A s) (hA : ∀ q, s.heap.size ≤ q → A q) (hP : va_P D classes ws H) (hD : va_D A ws) (hS : va_S A s.heap H locs) (g : Cond.classLink own idx "SkeletonClock$Pattern" ∈ GW) {n : Int32} {N' : Nat} (hn : ¬ n < 0) (hN : n.toNatClampNeg = N') (hbytes : N' * 4 ≤ 536870912) (hcells : cells + 1 ≤ R.cells) (hslots : slots + N' ≤ R.slots) (hdg : decode cc pc = .ok (.anewarray idx, 3))
    (kx : ∀ (q : Nat) (H1 : Heap), va_P D classes (ws ++ [(q, .inl (kk 4, N', .inr (.inr (.inr (.inr (fun _ => none))))))]) H1 → va_D A (ws ++ [(q, .inl (kk 4, N', .inr (.inr (.inr (.inr (fun _ => none))))))]) → va_S A s.heap H1 locs → W p l e R s m args below meth c H1 locs (cells + 1) (slots + N') Q (F0 m (pc + 3) ls (.ref q :: rest))) : W p l e R s m args below meth c H locs cells slots Q (F0 m pc ls (.int n :: rest)) := by
  refine va_newq S.1 S.2.1 S.2.2.2.1 (S.2.2.2.2 _ g) X.2.2.ao X.1 hP hD hS hA hn hN hbytes hcells hslots hdg (fun q cA H1 hK2 hP2 hD2 hS2 => ?_)
  have e1 := ra_find (X.1.2 4 _ rfl).2
  have e2 := ra_find (hK2.2 5 (cA, .object "SkeletonClock$Pattern") rfl).2
  have e3 : cA = kk 4 := Option.some.inj (e2.symm.trans e1)
  subst e3
  exact kx q H1 hP2 hD2 hS2
theorem k_new {nL : Nat} {own C : String} {T : u_T} {N ci idx : Nat} (S : CallFix p m c cc nL s args GW own) (X : KX D kk st A s) (hA : ∀ q, s.heap.size ≤ q → A q) (hP : va_P D classes ws H) (hD : va_D A ws) (hS : va_S A s.heap H locs) (hin : ∀ w ∈ u_ws C T N, w ∈ GW) (ty : Nat → FieldType) (hty : ∀ k, k < N → parseFieldDescriptor (T k).2.2.1 = some (ty k)) (g1 : Cond.classLink own idx C ∈ GW) (g2 : Cond.instantiable C N ∈ GW) (g3 : Cond.initialized C ∈ GW) (hc : classes[ci]? = some (C, T, N)) {fs : List Value} (hfs : ∀ j, j < N → defaultValue (ty j) = vp_V fs j) (hcells : cells + 1 ≤ R.cells) (hslots : slots + N ≤ R.slots) (hdg : decode cc pc = .ok (.new idx, 3))
    (kx : ∀ (q : Nat) (H1 : Heap), va_P D classes (ws ++ [(q, .inr (ci, fs))]) H1 → va_D A (ws ++ [(q, .inr (ci, fs))]) → va_S A s.heap H1 locs → W p l e R s m args below meth c H1 locs (cells + 1) (slots + N) Q (F0 m (pc + 3) ls (.ref q :: rest))) : W p l e R s m args below meth c H locs cells slots Q (F0 m pc ls rest) :=
  va_new S.1 S.2.1 S.2.2.2.2 hin ty hty S.2.2.2.1 (S.2.2.2.2 _ g1) (S.2.2.2.2 _ g2) (S.2.2.2.2 _ g3) X.1 hP hD hS hA hc hfs hcells hslots hdg kx
theorem k_putF {own C : String} {T : u_T} {N ci idx nL a : Nat} (S : CallFix p m c cc nL s args GW own) (X : KX D kk st A s) (hin : ∀ w ∈ u_ws C T N, w ∈ GW) (ty0 : Nat → FieldType) (hty : ∀ k, k < N → parseFieldDescriptor (T k).2.2.1 = some (ty0 k)) (hnm : ∀ a, a < N → ∀ b, b < N → a ≠ b → (T a).2.1 ≠ (T b).2.1) (hP : va_P D classes ws H) (hD : va_D A ws) (hS : va_S A s.heap H locs) (q0 : Nat) {fs : List Value} (he : ws[q0]? = some (a, .inr (ci, fs))) (hc : classes[ci]? = some (C, T, N)) (k : Nat) (hk : k < N) (g : Cond.fieldLink own idx (T k).1 (T k).2.1 (T k).2.2.1 ∈ GW) (hfin : (T k).2.2.2 = true) (hin2 : meth.name = "<init>") (hdecl : (T k).1 = own) {v : Value} (hn : narrow (ty0 k) v = v) (hf : fits (ty0 k) v = true) (hl : k < fs.length) (hdg : decode cc pc = .ok (.putfield idx, 3))
    (kx : ∀ (H1 : Heap) (locs1 : List Loc), va_P D classes (ws.set q0 (a, .inr (ci, fs.set k v))) H1 → va_D A (ws.set q0 (a, .inr (ci, fs.set k v))) → va_S A s.heap H1 locs1 → W p l e R s m args below meth c H1 locs1 cells slots Q (F0 m (pc + 3) ls rest)) : W p l e R s m args below meth c H locs cells slots Q (F0 m pc ls (v :: .ref a :: rest)) :=
  va_putF S.1 S.2.1 S.2.2.2.2 hin ty0 hty hnm S.2.2.2.1 X.1 hP hD hS q0 he hc k hk (S.2.2.2.2 _ g) (fun _ h => h) hfin hin2 hdecl (hty k hk) hn hf hl hdg kx
theorem k_c {S' : Type} {w1 : S' → va_W} {mc ms : Nat} {a : Array Value} (hr : va_Run p l e R s m args below meth c H locs cells slots mc ms (F0 m pc ls st0) rest (KQc D kk w1 (va_A wc H.size) a) (va_A wc H.size)) (hA : ∀ q, s.heap.size ≤ q → A q) (hP : va_P D classes ws H) (hD : va_D A ws) (hS : va_S A s.heap H locs) (isC isR : List Nat) (h2 : isC.map (fun i => ws[i]?) = wc.map some) (h3 : isR.map (fun i => ws[i]?) = wr.map some) (h3n : va_nd isR = true) (h4 : ∀ i ∈ isR, i ∉ isC)
    (kx : ∀ (u : S') (H1 : Heap) (locs1 : List Loc), va_P D classes (wr ++ w1 u) H1 → va_D A (wr ++ w1 u) → va_S A s.heap H1 locs1 → W p l e R s m args below meth c H1 locs1 (cells + mc) (slots + ms) Q (F0 m (pc + 3) ls rest)) : W p l e R s m args below meth c H locs cells slots Q (F0 m pc ls st0) := by
  have hF := va_free hD hS hA isC h2
  refine va_callv hr hS (fun q _ h => hF q h) hF (fun u t H1 locs1 ht hvm hp hB hz hk hS1 => ?_)
  obtain ⟨hP1, hK1, hD1⟩ := hB
  rw [ht] at hP1
  obtain ⟨a1, a2⟩ := va_join hP hD isC isR h2 h3 h3n h4 hk hF hP1 hD1
  exact kx u H1 locs1 a1 a2 hS1
abbrev kr_okc (R : Room) (rm : Room) (maxL mc ms : Nat) : Prop := rm.cells = mc ∧ rm.slots = ms ∧ rm.frames + 1 ≤ R.frames ∧ 8 + (maxL + 11) + rm.locals ≤ R.locals
theorem r_I {nL idx n maxL mc ms : Nat} {own : String} {y : MethodName} {bytes : ByteArray} {rm : Room} {As : List Value} {b : Nat} {Qc : Array Value → State → Outcome → State → Prop} {free : Addr → Prop} (S : CallFix p m c cc nL s args GW own) (X : KX D kk st A s) (hA : ∀ q, s.heap.size ≤ q → A q) (hP : va_P D classes ws H) (hD : va_D A ws) (hS : va_S A s.heap H locs)
    (hM : Met l y (Cond.code y bytes maxL none :: GW) rm (KPc D kk st (.ref b :: As) wc H.size) Qc mc ms free) (hy1 : y.name = "<init>")
    (g0 : Cond.code y bytes maxL none ∈ GW) (g1 : Cond.methodLink own idx y ∈ GW) (g2 : Cond.instanceMethod y ∈ GW) (g4 : Cond.initialized y.cls ∈ GW) (hr : kr_okc R rm maxL mc ms) (hd : kd_ok y n)
    (isC : List Nat) (hn : va_nd isC = true) (h1 : isC.filterMap (fun i => ws[i]?) = wc) (h2 : isC.map (fun i => ws[i]?) = wc.map some) (hAs : As.length = n) (hl : ls.size = nL) (hstk : st0 = As.reverse ++ .ref b :: rest) (hst : (rest.map fun v => v.category).sum ≤ 8)
    (hdg : decode cc pc = .ok (.invokespecial idx, 3)) (hcs : cells + mc ≤ R.cells ∧ slots + ms ≤ R.slots) :
    va_Run p l e R s m args below meth c H locs cells slots mc ms (F0 m pc ls st0) rest (Qc (Value.ref b :: As).toArray) free := by
  have hts := S.2.2.2.2
  refine va_runI S hM (cwI n hts (gi_cons (fun _ h => h) g0) rfl hr.1 hr.2.1 (hts _ g4) (hts _ g1) (hts _ g2) hy1 hd ⟨hr.2.2.1, hr.2.2.2⟩) ⟨KP.blind, KP.at X hA hP hD hS isC hn h1 h2⟩ rfl hAs hl hstk (lv_room hst) hdg hcs
theorem r_IN {nL idx n maxL mc ms : Nat} {own host : String} {y : MethodName} {bytes : ByteArray} {rm : Room} {As : List Value} {b : Nat} {Qc : Array Value → State → Outcome → State → Prop} {free : Addr → Prop} (S : CallFix p m c cc nL s args GW own) (X : KX D kk st A s) (hA : ∀ q, s.heap.size ≤ q → A q) (hP : va_P D classes ws H) (hD : va_D A ws) (hS : va_S A s.heap H locs)
    (hM : Met l y (Cond.code y bytes maxL none :: GW) rm (KPc D kk st (.ref b :: As) wc H.size) Qc mc ms free) (hy1 : y.name = "<init>")
    (g0 : Cond.code y bytes maxL none ∈ GW) (g1 : Cond.methodLinkNest own idx y host ∈ NW) (g2 : Cond.instanceMethod y ∈ GW) (g4 : Cond.initialized y.cls ∈ GW) (hr : kr_okc R rm maxL mc ms) (hd : kd_ok y n)
    (isC : List Nat) (hn : va_nd isC = true) (h1 : isC.filterMap (fun i => ws[i]?) = wc) (h2 : isC.map (fun i => ws[i]?) = wc.map some) (hAs : As.length = n) (hl : ls.size = nL) (hstk : st0 = As.reverse ++ .ref b :: rest) (hst : (rest.map fun v => v.category).sum ≤ 8)
    (hdg : decode cc pc = .ok (.invokespecial idx, 3)) (hcs : cells + mc ≤ R.cells ∧ slots + ms ≤ R.slots) :
    va_Run p l e R s m args below meth c H locs cells slots mc ms (F0 m pc ls st0) rest (Qc (Value.ref b :: As).toArray) free := by
  have hts := S.2.2.2.2
  refine va_runIN (host := host) S hM ⟨va_cnB n hts (gi_cons (fun _ h => h) g0) rfl hr.1 hr.2.1 (X.2.1.1 _ g1) (hts _ g4) hd ⟨hr.2.2.1, hr.2.2.2⟩, hy1, hts _ g2⟩ ⟨KP.blind, KP.at X hA hP hD hS isC hn h1 h2⟩ rfl hAs hl hstk (lv_room hst) hdg hcs
/-- the end of a constructor -/
theorem k_cre {S' : Type} {w1 : S' → va_W} (u : S') (hx : p.tables.exec = Jvm.exec) (hb : c.code = cc) (hr : meth.sig.returnType = none) (hlk : meth.locks = false) (X : KX D kk st A s) (hP : va_P D classes ws H) (hD : va_D A ws) (hS : va_S A s.heap H locs) (is : List Nat) (hn : va_nd is = true) (h1 : is.filterMap (fun i => ws[i]?) = w1 u) (h2 : is.map (fun i => ws[i]?) = (w1 u).map some) (hdg : decode cc pc = .ok (.return_, 1)) : W p l e R s m args below meth c H locs cells slots (MQ below (KQc D kk w1 A) args s cells slots A) (F0 m pc ls []) :=
  W.vret hx hb hr (fun t ht hW => ⟨⟨u, rfl, trivial, by rw [ht]; exact hP.sub is h1, va_K.moved hW.alike X.1, hD.sub is hn h2⟩, hS.F ht⟩) hS.2.2 hdg hlk
end KD
theorem tl_1 : ∀ w ∈ tables_1_1, w ∈ lw_tbl := fun _ h => List.mem_append_right _ (List.mem_append_left _ h)
theorem gw_1 {i : Nat} {w : Cond} (h : tables_1_1[i]? = some w) (g : goodWord w = true) : w ∈ GW := List.mem_filter.mpr ⟨tl_1 w (List.mem_of_getElem? h), g⟩
theorem gn_1 {i : Nat} {w : Cond} (h : tables_1_1[i]? = some w) (g : kn_is w = true) : w ∈ NW := List.mem_filter.mpr ⟨tl_1 w (List.mem_of_getElem? h), g⟩
theorem tl_2 : ∀ w ∈ tables_1_2, w ∈ lw_tbl := fun _ h => List.mem_append_right _ (List.mem_append_right _ (List.mem_append_left _ h))
theorem gw_2 {i : Nat} {w : Cond} (h : tables_1_2[i]? = some w) (g : goodWord w = true) : w ∈ GW := List.mem_filter.mpr ⟨tl_2 w (List.mem_of_getElem? h), g⟩
theorem gn_2 {i : Nat} {w : Cond} (h : tables_1_2[i]? = some w) (g : kn_is w = true) : w ∈ NW := List.mem_filter.mpr ⟨tl_2 w (List.mem_of_getElem? h), g⟩
theorem tl_3 : ∀ w ∈ tables_1_3, w ∈ lw_tbl := fun _ h => List.mem_append_right _ (List.mem_append_right _ (List.mem_append_right _ (List.mem_append_left _ h)))
theorem gw_3 {i : Nat} {w : Cond} (h : tables_1_3[i]? = some w) (g : goodWord w = true) : w ∈ GW := List.mem_filter.mpr ⟨tl_3 w (List.mem_of_getElem? h), g⟩
theorem gn_3 {i : Nat} {w : Cond} (h : tables_1_3[i]? = some w) (g : kn_is w = true) : w ∈ NW := List.mem_filter.mpr ⟨tl_3 w (List.mem_of_getElem? h), g⟩
theorem tl_4 : ∀ w ∈ tables_1_4, w ∈ lw_tbl := fun _ h => List.mem_append_right _ (List.mem_append_right _ (List.mem_append_right _ (List.mem_append_right _ (List.mem_append_left _ h))))
theorem gw_4 {i : Nat} {w : Cond} (h : tables_1_4[i]? = some w) (g : goodWord w = true) : w ∈ GW := List.mem_filter.mpr ⟨tl_4 w (List.mem_of_getElem? h), g⟩
theorem gn_4 {i : Nat} {w : Cond} (h : tables_1_4[i]? = some w) (g : kn_is w = true) : w ∈ NW := List.mem_filter.mpr ⟨tl_4 w (List.mem_of_getElem? h), g⟩
theorem tl_5 : ∀ w ∈ tables_1_5, w ∈ lw_tbl := fun _ h => List.mem_append_right _ (List.mem_append_right _ (List.mem_append_right _ (List.mem_append_right _ (List.mem_append_right _ (List.mem_append_left _ h)))))
theorem gw_5 {i : Nat} {w : Cond} (h : tables_1_5[i]? = some w) (g : goodWord w = true) : w ∈ GW := List.mem_filter.mpr ⟨tl_5 w (List.mem_of_getElem? h), g⟩
theorem gn_5 {i : Nat} {w : Cond} (h : tables_1_5[i]? = some w) (g : kn_is w = true) : w ∈ NW := List.mem_filter.mpr ⟨tl_5 w (List.mem_of_getElem? h), g⟩
theorem tl_6 : ∀ w ∈ tables_1_6, w ∈ lw_tbl := fun _ h => List.mem_append_right _ (List.mem_append_right _ (List.mem_append_right _ (List.mem_append_right _ (List.mem_append_right _ (List.mem_append_right _ (h))))))
theorem gw_6 {i : Nat} {w : Cond} (h : tables_1_6[i]? = some w) (g : goodWord w = true) : w ∈ GW := List.mem_filter.mpr ⟨tl_6 w (List.mem_of_getElem? h), g⟩
theorem gn_6 {i : Nat} {w : Cond} (h : tables_1_6[i]? = some w) (g : kn_is w = true) : w ∈ NW := List.mem_filter.mpr ⟨tl_6 w (List.mem_of_getElem? h), g⟩
theorem gs_1 {i : Nat} {y : MethodName} {n : Nat} (h : lw_privs_1[i]? = some (y, n)) : Cond.selects y.cls y y ∈ GW := by
  have h := List.mem_of_getElem? h
  have h : (y, n) ∈ lw_privs := List.mem_append_left _ h
  exact List.mem_filter.mpr ⟨List.mem_append_left _ (List.mem_map.mpr ⟨(y, n), h, rfl⟩), rfl⟩
theorem gs_2 {i : Nat} {y : MethodName} {n : Nat} (h : lw_privs_2[i]? = some (y, n)) : Cond.selects y.cls y y ∈ GW := by
  have h := List.mem_of_getElem? h
  have h : (y, n) ∈ lw_privs := List.mem_append_right _ (List.mem_append_left _ h)
  exact List.mem_filter.mpr ⟨List.mem_append_left _ (List.mem_map.mpr ⟨(y, n), h, rfl⟩), rfl⟩
theorem gs_3 {i : Nat} {y : MethodName} {n : Nat} (h : lw_privs_3[i]? = some (y, n)) : Cond.selects y.cls y y ∈ GW := by
  have h := List.mem_of_getElem? h
  have h : (y, n) ∈ lw_privs := List.mem_append_right _ (List.mem_append_right _ (List.mem_append_left _ h))
  exact List.mem_filter.mpr ⟨List.mem_append_left _ (List.mem_map.mpr ⟨(y, n), h, rfl⟩), rfl⟩
theorem gs_4 {i : Nat} {y : MethodName} {n : Nat} (h : lw_privs_4[i]? = some (y, n)) : Cond.selects y.cls y y ∈ GW := by
  have h := List.mem_of_getElem? h
  have h : (y, n) ∈ lw_privs := List.mem_append_right _ (List.mem_append_right _ (List.mem_append_right _ (List.mem_append_left _ h)))
  exact List.mem_filter.mpr ⟨List.mem_append_left _ (List.mem_map.mpr ⟨(y, n), h, rfl⟩), rfl⟩
theorem gs_5 {i : Nat} {y : MethodName} {n : Nat} (h : lw_privs_5[i]? = some (y, n)) : Cond.selects y.cls y y ∈ GW := by
  have h := List.mem_of_getElem? h
  have h : (y, n) ∈ lw_privs := List.mem_append_right _ (List.mem_append_right _ (List.mem_append_right _ (List.mem_append_right _ (h))))
  exact List.mem_filter.mpr ⟨List.mem_append_left _ (List.mem_map.mpr ⟨(y, n), h, rfl⟩), rfl⟩
theorem gm_2_29 : Cond.laysFinal "SkeletonClock" "SkeletonClock" "text" "LSkeletonClock$Row;" ∈ GW := gw_2 (i := 29) rfl rfl
theorem gm_2_31 : Cond.laysFinal "SkeletonClock" "SkeletonClock" "page" "LSkeletonClock$Row;" ∈ GW := gw_2 (i := 31) rfl rfl
theorem gm_2_33 : Cond.laysFinal "SkeletonClock" "SkeletonClock" "slots" "[LSkeletonClock$Pattern;" ∈ GW := gw_2 (i := 33) rfl rfl
theorem gm_2_35 : Cond.laysFinal "SkeletonClock" "SkeletonClock" "parser" "LSkeletonClock$PatternParser;" ∈ GW := gw_2 (i := 35) rfl rfl
theorem gm_2_37 : Cond.laysFinal "SkeletonClock" "SkeletonClock" "printer" "LSkeletonClock$Printer;" ∈ GW := gw_2 (i := 37) rfl rfl
theorem gm_2_39 : Cond.laysFinal "SkeletonClock" "SkeletonClock" "reader" "LSkeletonClock$TextReader;" ∈ GW := gw_2 (i := 39) rfl rfl
theorem gm_2_41 : Cond.laysFinal "SkeletonClock" "SkeletonClock" "resolver" "LSkeletonClock$Resolver;" ∈ GW := gw_2 (i := 41) rfl rfl
theorem gm_2_43 : Cond.laysFinal "SkeletonClock" "SkeletonClock" "now" "LSkeletonClock$Moment;" ∈ GW := gw_2 (i := 43) rfl rfl
theorem gm_2_45 : Cond.laysFinal "SkeletonClock" "SkeletonClock" "latest" "LSkeletonClock$Moment;" ∈ GW := gw_2 (i := 45) rfl rfl
theorem gm_2_47 : Cond.lays "SkeletonClock" "SkeletonClock" "nearest" "I" ∈ GW := gw_2 (i := 47) rfl rfl
theorem gm_1_40 : Cond.laysFinal "SkeletonClock$Row" "SkeletonClock$Row" "cells" "[C" ∈ GW := gw_1 (i := 40) rfl rfl
theorem gm_1_42 : Cond.lays "SkeletonClock$Row" "SkeletonClock$Row" "size" "I" ∈ GW := gw_1 (i := 42) rfl rfl
theorem gm_1_66 : Cond.laysFinal "SkeletonClock$Pattern" "SkeletonClock$Pattern" "kinds" "[I" ∈ GW := gw_1 (i := 66) rfl rfl
theorem gm_1_68 : Cond.laysFinal "SkeletonClock$Pattern" "SkeletonClock$Pattern" "numbers" "[I" ∈ GW := gw_1 (i := 68) rfl rfl
theorem gm_1_70 : Cond.lays "SkeletonClock$Pattern" "SkeletonClock$Pattern" "size" "I" ∈ GW := gw_1 (i := 70) rfl rfl
theorem gm_1_79 : Cond.laysFinal "SkeletonClock$PatternParser" "SkeletonClock$PatternParser" "pattern" "LSkeletonClock$Pattern;" ∈ GW := gw_1 (i := 79) rfl rfl
theorem gm_1_81 : Cond.laysFinal "SkeletonClock$PatternParser" "SkeletonClock$PatternParser" "open" "[I" ∈ GW := gw_1 (i := 81) rfl rfl
theorem gm_1_83 : Cond.lays "SkeletonClock$PatternParser" "SkeletonClock$PatternParser" "depth" "I" ∈ GW := gw_1 (i := 83) rfl rfl
theorem gm_1_85 : Cond.lays "SkeletonClock$PatternParser" "SkeletonClock$PatternParser" "quoted" "Z" ∈ GW := gw_1 (i := 85) rfl rfl
theorem gm_1_106 : Cond.laysFinal "SkeletonClock$Nest" "SkeletonClock$Nest" "ends" "[I" ∈ GW := gw_1 (i := 106) rfl rfl
theorem gm_1_108 : Cond.laysFinal "SkeletonClock$Nest" "SkeletonClock$Nest" "places" "[I" ∈ GW := gw_1 (i := 108) rfl rfl
theorem gm_1_110 : Cond.laysFinal "SkeletonClock$Nest" "SkeletonClock$Nest" "marks" "[I" ∈ GW := gw_1 (i := 110) rfl rfl
theorem gm_1_112 : Cond.lays "SkeletonClock$Nest" "SkeletonClock$Nest" "depth" "I" ∈ GW := gw_1 (i := 112) rfl rfl
theorem gm_1_183 : Cond.laysFinal "SkeletonClock$Moment" "SkeletonClock$Moment" "values" "[I" ∈ GW := gw_1 (i := 183) rfl rfl
theorem gm_1_185 : Cond.lays "SkeletonClock$Moment" "SkeletonClock$Moment" "seconds" "J" ∈ GW := gw_1 (i := 185) rfl rfl
theorem gm_1_187 : Cond.lays "SkeletonClock$Moment" "SkeletonClock$Moment" "parts" "I" ∈ GW := gw_1 (i := 187) rfl rfl
theorem gm_1_118 : Cond.laysFinal "SkeletonClock$Printer" "SkeletonClock$Printer" "draft" "LSkeletonClock$Row;" ∈ GW := gw_1 (i := 118) rfl rfl
theorem gm_1_120 : Cond.laysFinal "SkeletonClock$Printer" "SkeletonClock$Printer" "nest" "LSkeletonClock$Nest;" ∈ GW := gw_1 (i := 120) rfl rfl
theorem gm_1_140 : Cond.laysFinal "SkeletonClock$Known" "SkeletonClock$Known" "values" "[I" ∈ GW := gw_1 (i := 140) rfl rfl
theorem gm_1_142 : Cond.laysFinal "SkeletonClock$Known" "SkeletonClock$Known" "flags" "[Z" ∈ GW := gw_1 (i := 142) rfl rfl
theorem gm_1_144 : Cond.laysFinal "SkeletonClock$Known" "SkeletonClock$Known" "order" "[I" ∈ GW := gw_1 (i := 144) rfl rfl
theorem gm_1_146 : Cond.lays "SkeletonClock$Known" "SkeletonClock$Known" "size" "I" ∈ GW := gw_1 (i := 146) rfl rfl
theorem gm_1_157 : Cond.laysFinal "SkeletonClock$TextReader" "SkeletonClock$TextReader" "known" "LSkeletonClock$Known;" ∈ GW := gw_1 (i := 157) rfl rfl
theorem gm_1_159 : Cond.laysFinal "SkeletonClock$TextReader" "SkeletonClock$TextReader" "nest" "LSkeletonClock$Nest;" ∈ GW := gw_1 (i := 159) rfl rfl
theorem gm_1_161 : Cond.lays "SkeletonClock$TextReader" "SkeletonClock$TextReader" "loose" "Z" ∈ GW := gw_1 (i := 161) rfl rfl
theorem gm_1_163 : Cond.lays "SkeletonClock$TextReader" "SkeletonClock$TextReader" "place" "I" ∈ GW := gw_1 (i := 163) rfl rfl
theorem gm_1_196 : Cond.laysFinal "SkeletonClock$Resolver" "SkeletonClock$Resolver" "moment" "LSkeletonClock$Moment;" ∈ GW := gw_1 (i := 196) rfl rfl
theorem gm_1_198 : Cond.lays "SkeletonClock$Resolver" "SkeletonClock$Resolver" "style" "I" ∈ GW := gw_1 (i := 198) rfl rfl
theorem gm_1_200 : Cond.lays "SkeletonClock$Resolver" "SkeletonClock$Resolver" "used" "I" ∈ GW := gw_1 (i := 200) rfl rfl
theorem gm_1_202 : Cond.lays "SkeletonClock$Resolver" "SkeletonClock$Resolver" "day" "J" ∈ GW := gw_1 (i := 202) rfl rfl
theorem gm_1_204 : Cond.lays "SkeletonClock$Resolver" "SkeletonClock$Resolver" "second" "I" ∈ GW := gw_1 (i := 204) rfl rfl
theorem gm_4_182 : Cond.lays "SkeletonClockModel" "SkeletonClockModel" "length" "I" ∈ GW := gw_4 (i := 182) rfl rfl
theorem gm_4_184 : Cond.laysFinal "SkeletonClockModel" "SkeletonClockModel" "text" "[C" ∈ GW := gw_4 (i := 184) rfl rfl
theorem gm_4_186 : Cond.lays "SkeletonClockModel" "SkeletonClockModel" "used" "I" ∈ GW := gw_4 (i := 186) rfl rfl
theorem gm_4_188 : Cond.laysFinal "SkeletonClockModel" "SkeletonClockModel" "page" "[C" ∈ GW := gw_4 (i := 188) rfl rfl
theorem gm_4_190 : Cond.laysFinal "SkeletonClockModel" "SkeletonClockModel" "names" "[J" ∈ GW := gw_4 (i := 190) rfl rfl
theorem gm_4_192 : Cond.laysFinal "SkeletonClockModel" "SkeletonClockModel" "sort" "[I" ∈ GW := gw_4 (i := 192) rfl rfl
theorem gm_4_194 : Cond.laysFinal "SkeletonClockModel" "SkeletonClockModel" "code" "[I" ∈ GW := gw_4 (i := 194) rfl rfl
theorem gm_4_196 : Cond.laysFinal "SkeletonClockModel" "SkeletonClockModel" "count" "[I" ∈ GW := gw_4 (i := 196) rfl rfl
theorem gm_4_198 : Cond.laysFinal "SkeletonClockModel" "SkeletonClockModel" "around" "[I" ∈ GW := gw_4 (i := 198) rfl rfl
theorem gm_4_200 : Cond.laysFinal "SkeletonClockModel" "SkeletonClockModel" "end" "[I" ∈ GW := gw_4 (i := 200) rfl rfl
theorem gm_4_202 : Cond.laysFinal "SkeletonClockModel" "SkeletonClockModel" "size" "[I" ∈ GW := gw_4 (i := 202) rfl rfl
theorem gm_4_204 : Cond.laysFinal "SkeletonClockModel" "SkeletonClockModel" "there" "[Z" ∈ GW := gw_4 (i := 204) rfl rfl
theorem gm_4_206 : Cond.laysFinal "SkeletonClockModel" "SkeletonClockModel" "wish" "[I" ∈ GW := gw_4 (i := 206) rfl rfl
theorem gm_4_208 : Cond.laysFinal "SkeletonClockModel" "SkeletonClockModel" "have" "[I" ∈ GW := gw_4 (i := 208) rfl rfl
theorem gm_4_210 : Cond.lays "SkeletonClockModel" "SkeletonClockModel" "far" "I" ∈ GW := gw_4 (i := 210) rfl rfl
theorem gm_4_212 : Cond.lays "SkeletonClockModel" "SkeletonClockModel" "momentParts" "I" ∈ GW := gw_4 (i := 212) rfl rfl
theorem gm_4_214 : Cond.lays "SkeletonClockModel" "SkeletonClockModel" "momentDay" "J" ∈ GW := gw_4 (i := 214) rfl rfl
theorem gm_4_216 : Cond.lays "SkeletonClockModel" "SkeletonClockModel" "momentSecond" "I" ∈ GW := gw_4 (i := 216) rfl rfl
theorem gm_4_218 : Cond.lays "SkeletonClockModel" "SkeletonClockModel" "momentNano" "I" ∈ GW := gw_4 (i := 218) rfl rfl
theorem gm_4_220 : Cond.lays "SkeletonClockModel" "SkeletonClockModel" "momentOffset" "I" ∈ GW := gw_4 (i := 220) rfl rfl
theorem gm_4_222 : Cond.lays "SkeletonClockModel" "SkeletonClockModel" "readParts" "I" ∈ GW := gw_4 (i := 222) rfl rfl
theorem gm_4_224 : Cond.lays "SkeletonClockModel" "SkeletonClockModel" "readDay" "J" ∈ GW := gw_4 (i := 224) rfl rfl
theorem gm_4_226 : Cond.lays "SkeletonClockModel" "SkeletonClockModel" "readSecond" "I" ∈ GW := gw_4 (i := 226) rfl rfl
theorem gm_4_228 : Cond.lays "SkeletonClockModel" "SkeletonClockModel" "readNano" "I" ∈ GW := gw_4 (i := 228) rfl rfl
theorem gm_4_230 : Cond.lays "SkeletonClockModel" "SkeletonClockModel" "readOffset" "I" ∈ GW := gw_4 (i := 230) rfl rfl
theorem gm_4_232 : Cond.laysFinal "SkeletonClockModel" "SkeletonClockModel" "known" "[Z" ∈ GW := gw_4 (i := 232) rfl rfl
theorem gm_4_234 : Cond.laysFinal "SkeletonClockModel" "SkeletonClockModel" "value" "[J" ∈ GW := gw_4 (i := 234) rfl rfl
theorem gm_4_236 : Cond.laysFinal "SkeletonClockModel" "SkeletonClockModel" "before" "[Z" ∈ GW := gw_4 (i := 236) rfl rfl
theorem gm_4_238 : Cond.laysFinal "SkeletonClockModel" "SkeletonClockModel" "open" "[I" ∈ GW := gw_4 (i := 238) rfl rfl
theorem gm_5_0 : Cond.laysFinal "SkeletonClockModel" "SkeletonClockModel" "from" "[I" ∈ GW := gw_5 (i := 0) rfl rfl
theorem gm_5_2 : Cond.lays "SkeletonClockModel" "SkeletonClockModel" "alike" "Z" ∈ GW := gw_5 (i := 2) rfl rfl
theorem us_SkeletonClock : ∀ w ∈ u_ws R_SkeletonClock F_SkeletonClock 10, w ∈ GW := by
  intro w hw
  obtain ⟨k, hk, rfl⟩ := List.mem_map.mp hw
  have hk := List.mem_range.mp hk
  rcases (show k = 0 ∨ k = 1 ∨ k = 2 ∨ k = 3 ∨ k = 4 ∨ k = 5 ∨ k = 6 ∨ k = 7 ∨ k = 8 ∨ k = 9 by omega) with rfl | rfl | rfl | rfl | rfl | rfl | rfl | rfl | rfl | rfl
  · exact gm_2_29
  · exact gm_2_31
  · exact gm_2_33
  · exact gm_2_35
  · exact gm_2_37
  · exact gm_2_39
  · exact gm_2_41
  · exact gm_2_43
  · exact gm_2_45
  · exact gm_2_47
theorem us_Row : ∀ w ∈ u_ws R_Row F_Row 2, w ∈ GW := by
  intro w hw
  obtain ⟨k, hk, rfl⟩ := List.mem_map.mp hw
  have hk := List.mem_range.mp hk
  rcases (show k = 0 ∨ k = 1 by omega) with rfl | rfl
  · exact gm_1_40
  · exact gm_1_42
theorem us_Pattern : ∀ w ∈ u_ws R_Pattern F_Pattern 3, w ∈ GW := by
  intro w hw
  obtain ⟨k, hk, rfl⟩ := List.mem_map.mp hw
  have hk := List.mem_range.mp hk
  rcases (show k = 0 ∨ k = 1 ∨ k = 2 by omega) with rfl | rfl | rfl
  · exact gm_1_66
  · exact gm_1_68
  · exact gm_1_70
theorem us_PatternParser : ∀ w ∈ u_ws R_PatternParser F_PatternParser 4, w ∈ GW := by
  intro w hw
  obtain ⟨k, hk, rfl⟩ := List.mem_map.mp hw
  have hk := List.mem_range.mp hk
  rcases (show k = 0 ∨ k = 1 ∨ k = 2 ∨ k = 3 by omega) with rfl | rfl | rfl | rfl
  · exact gm_1_79
  · exact gm_1_81
  · exact gm_1_83
  · exact gm_1_85
theorem us_Nest : ∀ w ∈ u_ws R_Nest F_Nest 4, w ∈ GW := by
  intro w hw
  obtain ⟨k, hk, rfl⟩ := List.mem_map.mp hw
  have hk := List.mem_range.mp hk
  rcases (show k = 0 ∨ k = 1 ∨ k = 2 ∨ k = 3 by omega) with rfl | rfl | rfl | rfl
  · exact gm_1_106
  · exact gm_1_108
  · exact gm_1_110
  · exact gm_1_112
theorem us_Moment : ∀ w ∈ u_ws R_Moment F_Moment 3, w ∈ GW := by
  intro w hw
  obtain ⟨k, hk, rfl⟩ := List.mem_map.mp hw
  have hk := List.mem_range.mp hk
  rcases (show k = 0 ∨ k = 1 ∨ k = 2 by omega) with rfl | rfl | rfl
  · exact gm_1_183
  · exact gm_1_185
  · exact gm_1_187
theorem us_Printer : ∀ w ∈ u_ws R_Printer F_Printer 2, w ∈ GW := by
  intro w hw
  obtain ⟨k, hk, rfl⟩ := List.mem_map.mp hw
  have hk := List.mem_range.mp hk
  rcases (show k = 0 ∨ k = 1 by omega) with rfl | rfl
  · exact gm_1_118
  · exact gm_1_120
theorem us_Known : ∀ w ∈ u_ws R_Known F_Known 4, w ∈ GW := by
  intro w hw
  obtain ⟨k, hk, rfl⟩ := List.mem_map.mp hw
  have hk := List.mem_range.mp hk
  rcases (show k = 0 ∨ k = 1 ∨ k = 2 ∨ k = 3 by omega) with rfl | rfl | rfl | rfl
  · exact gm_1_140
  · exact gm_1_142
  · exact gm_1_144
  · exact gm_1_146
theorem us_TextReader : ∀ w ∈ u_ws R_TextReader F_TextReader 4, w ∈ GW := by
  intro w hw
  obtain ⟨k, hk, rfl⟩ := List.mem_map.mp hw
  have hk := List.mem_range.mp hk
  rcases (show k = 0 ∨ k = 1 ∨ k = 2 ∨ k = 3 by omega) with rfl | rfl | rfl | rfl
  · exact gm_1_157
  · exact gm_1_159
  · exact gm_1_161
  · exact gm_1_163
theorem us_Resolver : ∀ w ∈ u_ws R_Resolver F_Resolver 5, w ∈ GW := by
  intro w hw
  obtain ⟨k, hk, rfl⟩ := List.mem_map.mp hw
  have hk := List.mem_range.mp hk
  rcases (show k = 0 ∨ k = 1 ∨ k = 2 ∨ k = 3 ∨ k = 4 by omega) with rfl | rfl | rfl | rfl | rfl
  · exact gm_1_196
  · exact gm_1_198
  · exact gm_1_200
  · exact gm_1_202
  · exact gm_1_204
theorem us_SkeletonClockModel : ∀ w ∈ u_ws R_SkeletonClockModel F_SkeletonClockModel 31, w ∈ GW := by
  intro w hw
  obtain ⟨k, hk, rfl⟩ := List.mem_map.mp hw
  have hk := List.mem_range.mp hk
  rcases (show k = 0 ∨ k = 1 ∨ k = 2 ∨ k = 3 ∨ k = 4 ∨ k = 5 ∨ k = 6 ∨ k = 7 ∨ k = 8 ∨ k = 9 ∨ k = 10 ∨ k = 11 ∨ k = 12 ∨ k = 13 ∨ k = 14 ∨ k = 15 ∨ k = 16 ∨ k = 17 ∨ k = 18 ∨ k = 19 ∨ k = 20 ∨ k = 21 ∨ k = 22 ∨ k = 23 ∨ k = 24 ∨ k = 25 ∨ k = 26 ∨ k = 27 ∨ k = 28 ∨ k = 29 ∨ k = 30 by omega) with rfl | rfl | rfl | rfl | rfl | rfl | rfl | rfl | rfl | rfl | rfl | rfl | rfl | rfl | rfl | rfl | rfl | rfl | rfl | rfl | rfl | rfl | rfl | rfl | rfl | rfl | rfl | rfl | rfl | rfl | rfl
  · exact gm_4_182
  · exact gm_4_184
  · exact gm_4_186
  · exact gm_4_188
  · exact gm_4_190
  · exact gm_4_192
  · exact gm_4_194
  · exact gm_4_196
  · exact gm_4_198
  · exact gm_4_200
  · exact gm_4_202
  · exact gm_4_204
  · exact gm_4_206
  · exact gm_4_208
  · exact gm_4_210
  · exact gm_4_212
  · exact gm_4_214
  · exact gm_4_216
  · exact gm_4_218
  · exact gm_4_220
  · exact gm_4_222
  · exact gm_4_224
  · exact gm_4_226
  · exact gm_4_228
  · exact gm_4_230
  · exact gm_4_232
  · exact gm_4_234
  · exact gm_4_236
  · exact gm_4_238
  · exact gm_5_0
  · exact gm_5_2
