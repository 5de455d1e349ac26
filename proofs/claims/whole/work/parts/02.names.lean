def R_SkeletonClock : String := "SkeletonClock"
def F_SkeletonClock : u_T := fun k => match k with
  | 0 => ("SkeletonClock", "text", "LSkeletonClock$Row;", true)
  | 1 => ("SkeletonClock", "page", "LSkeletonClock$Row;", true)
  | 2 => ("SkeletonClock", "slots", "[LSkeletonClock$Pattern;", true)
  | 3 => ("SkeletonClock", "parser", "LSkeletonClock$PatternParser;", true)
  | 4 => ("SkeletonClock", "printer", "LSkeletonClock$Printer;", true)
  | 5 => ("SkeletonClock", "reader", "LSkeletonClock$TextReader;", true)
  | 6 => ("SkeletonClock", "resolver", "LSkeletonClock$Resolver;", true)
  | 7 => ("SkeletonClock", "now", "LSkeletonClock$Moment;", true)
  | 8 => ("SkeletonClock", "latest", "LSkeletonClock$Moment;", true)
  | _ => ("SkeletonClock", "nearest", "I", false)
def t_SkeletonClock : Nat → FieldType := fun k => match k with
  | 0 => .object "SkeletonClock$Row"
  | 1 => .object "SkeletonClock$Row"
  | 2 => .array (.object "SkeletonClock$Pattern")
  | 3 => .object "SkeletonClock$PatternParser"
  | 4 => .object "SkeletonClock$Printer"
  | 5 => .object "SkeletonClock$TextReader"
  | 6 => .object "SkeletonClock$Resolver"
  | 7 => .object "SkeletonClock$Moment"
  | 8 => .object "SkeletonClock$Moment"
  | _ => .int
theorem n_SkeletonClock : ∀ a, a < 10 → ∀ b, b < 10 → a ≠ b → (F_SkeletonClock a).2.1 ≠ (F_SkeletonClock b).2.1 := by decide +kernel
theorem t_SkeletonClock_ok : ∀ k, k < 10 → parseFieldDescriptor (F_SkeletonClock k).2.2.1 = some (t_SkeletonClock k) := by decide +kernel
def R_Row : String := "SkeletonClock$Row"
def F_Row : u_T := fun k => match k with
  | 0 => ("SkeletonClock$Row", "cells", "[C", true)
  | _ => ("SkeletonClock$Row", "size", "I", false)
def t_Row : Nat → FieldType := fun k => match k with
  | 0 => .array .char
  | _ => .int
theorem n_Row : ∀ a, a < 2 → ∀ b, b < 2 → a ≠ b → (F_Row a).2.1 ≠ (F_Row b).2.1 := by decide +kernel
theorem t_Row_ok : ∀ k, k < 2 → parseFieldDescriptor (F_Row k).2.2.1 = some (t_Row k) := by decide +kernel
def R_Pattern : String := "SkeletonClock$Pattern"
def F_Pattern : u_T := fun k => match k with
  | 0 => ("SkeletonClock$Pattern", "kinds", "[I", true)
  | 1 => ("SkeletonClock$Pattern", "numbers", "[I", true)
  | _ => ("SkeletonClock$Pattern", "size", "I", false)
def t_Pattern : Nat → FieldType := fun k => match k with
  | 0 => .array .int
  | 1 => .array .int
  | _ => .int
theorem n_Pattern : ∀ a, a < 3 → ∀ b, b < 3 → a ≠ b → (F_Pattern a).2.1 ≠ (F_Pattern b).2.1 := by decide +kernel
theorem t_Pattern_ok : ∀ k, k < 3 → parseFieldDescriptor (F_Pattern k).2.2.1 = some (t_Pattern k) := by decide +kernel
def R_PatternParser : String := "SkeletonClock$PatternParser"
def F_PatternParser : u_T := fun k => match k with
  | 0 => ("SkeletonClock$PatternParser", "pattern", "LSkeletonClock$Pattern;", true)
  | 1 => ("SkeletonClock$PatternParser", "open", "[I", true)
  | 2 => ("SkeletonClock$PatternParser", "depth", "I", false)
  | _ => ("SkeletonClock$PatternParser", "quoted", "Z", false)
def t_PatternParser : Nat → FieldType := fun k => match k with
  | 0 => .object "SkeletonClock$Pattern"
  | 1 => .array .int
  | 2 => .int
  | _ => .boolean
theorem n_PatternParser : ∀ a, a < 4 → ∀ b, b < 4 → a ≠ b → (F_PatternParser a).2.1 ≠ (F_PatternParser b).2.1 := by decide +kernel
theorem t_PatternParser_ok : ∀ k, k < 4 → parseFieldDescriptor (F_PatternParser k).2.2.1 = some (t_PatternParser k) := by decide +kernel
def R_Nest : String := "SkeletonClock$Nest"
def F_Nest : u_T := fun k => match k with
  | 0 => ("SkeletonClock$Nest", "ends", "[I", true)
  | 1 => ("SkeletonClock$Nest", "places", "[I", true)
  | 2 => ("SkeletonClock$Nest", "marks", "[I", true)
  | _ => ("SkeletonClock$Nest", "depth", "I", false)
def t_Nest : Nat → FieldType := fun k => match k with
  | 0 => .array .int
  | 1 => .array .int
  | 2 => .array .int
  | _ => .int
theorem n_Nest : ∀ a, a < 4 → ∀ b, b < 4 → a ≠ b → (F_Nest a).2.1 ≠ (F_Nest b).2.1 := by decide +kernel
theorem t_Nest_ok : ∀ k, k < 4 → parseFieldDescriptor (F_Nest k).2.2.1 = some (t_Nest k) := by decide +kernel
def R_Moment : String := "SkeletonClock$Moment"
def F_Moment : u_T := fun k => match k with
  | 0 => ("SkeletonClock$Moment", "values", "[I", true)
  | 1 => ("SkeletonClock$Moment", "seconds", "J", false)
  | _ => ("SkeletonClock$Moment", "parts", "I", false)
def t_Moment : Nat → FieldType := fun k => match k with
  | 0 => .array .int
  | 1 => .long
  | _ => .int
theorem n_Moment : ∀ a, a < 3 → ∀ b, b < 3 → a ≠ b → (F_Moment a).2.1 ≠ (F_Moment b).2.1 := by decide +kernel
theorem t_Moment_ok : ∀ k, k < 3 → parseFieldDescriptor (F_Moment k).2.2.1 = some (t_Moment k) := by decide +kernel
def R_Printer : String := "SkeletonClock$Printer"
def F_Printer : u_T := fun k => match k with
  | 0 => ("SkeletonClock$Printer", "draft", "LSkeletonClock$Row;", true)
  | _ => ("SkeletonClock$Printer", "nest", "LSkeletonClock$Nest;", true)
def t_Printer : Nat → FieldType := fun k => match k with
  | 0 => .object "SkeletonClock$Row"
  | _ => .object "SkeletonClock$Nest"
theorem n_Printer : ∀ a, a < 2 → ∀ b, b < 2 → a ≠ b → (F_Printer a).2.1 ≠ (F_Printer b).2.1 := by decide +kernel
theorem t_Printer_ok : ∀ k, k < 2 → parseFieldDescriptor (F_Printer k).2.2.1 = some (t_Printer k) := by decide +kernel
def R_Known : String := "SkeletonClock$Known"
def F_Known : u_T := fun k => match k with
  | 0 => ("SkeletonClock$Known", "values", "[I", true)
  | 1 => ("SkeletonClock$Known", "flags", "[Z", true)
  | 2 => ("SkeletonClock$Known", "order", "[I", true)
  | _ => ("SkeletonClock$Known", "size", "I", false)
def t_Known : Nat → FieldType := fun k => match k with
  | 0 => .array .int
  | 1 => .array .boolean
  | 2 => .array .int
  | _ => .int
theorem n_Known : ∀ a, a < 4 → ∀ b, b < 4 → a ≠ b → (F_Known a).2.1 ≠ (F_Known b).2.1 := by decide +kernel
theorem t_Known_ok : ∀ k, k < 4 → parseFieldDescriptor (F_Known k).2.2.1 = some (t_Known k) := by decide +kernel
def R_TextReader : String := "SkeletonClock$TextReader"
def F_TextReader : u_T := fun k => match k with
  | 0 => ("SkeletonClock$TextReader", "known", "LSkeletonClock$Known;", true)
  | 1 => ("SkeletonClock$TextReader", "nest", "LSkeletonClock$Nest;", true)
  | 2 => ("SkeletonClock$TextReader", "loose", "Z", false)
  | _ => ("SkeletonClock$TextReader", "place", "I", false)
def t_TextReader : Nat → FieldType := fun k => match k with
  | 0 => .object "SkeletonClock$Known"
  | 1 => .object "SkeletonClock$Nest"
  | 2 => .boolean
  | _ => .int
theorem n_TextReader : ∀ a, a < 4 → ∀ b, b < 4 → a ≠ b → (F_TextReader a).2.1 ≠ (F_TextReader b).2.1 := by decide +kernel
theorem t_TextReader_ok : ∀ k, k < 4 → parseFieldDescriptor (F_TextReader k).2.2.1 = some (t_TextReader k) := by decide +kernel
def R_Resolver : String := "SkeletonClock$Resolver"
def F_Resolver : u_T := fun k => match k with
  | 0 => ("SkeletonClock$Resolver", "moment", "LSkeletonClock$Moment;", true)
  | 1 => ("SkeletonClock$Resolver", "style", "I", false)
  | 2 => ("SkeletonClock$Resolver", "used", "I", false)
  | 3 => ("SkeletonClock$Resolver", "day", "J", false)
  | _ => ("SkeletonClock$Resolver", "second", "I", false)
def t_Resolver : Nat → FieldType := fun k => match k with
  | 0 => .object "SkeletonClock$Moment"
  | 1 => .int
  | 2 => .int
  | 3 => .long
  | _ => .int
theorem n_Resolver : ∀ a, a < 5 → ∀ b, b < 5 → a ≠ b → (F_Resolver a).2.1 ≠ (F_Resolver b).2.1 := by decide +kernel
theorem t_Resolver_ok : ∀ k, k < 5 → parseFieldDescriptor (F_Resolver k).2.2.1 = some (t_Resolver k) := by decide +kernel
def R_SkeletonClockModel : String := "SkeletonClockModel"
def F_SkeletonClockModel : u_T := fun k => match k with
  | 0 => ("SkeletonClockModel", "length", "I", false)
  | 1 => ("SkeletonClockModel", "text", "[C", true)
  | 2 => ("SkeletonClockModel", "used", "I", false)
  | 3 => ("SkeletonClockModel", "page", "[C", true)
  | 4 => ("SkeletonClockModel", "names", "[J", true)
  | 5 => ("SkeletonClockModel", "sort", "[I", true)
  | 6 => ("SkeletonClockModel", "code", "[I", true)
  | 7 => ("SkeletonClockModel", "count", "[I", true)
  | 8 => ("SkeletonClockModel", "around", "[I", true)
  | 9 => ("SkeletonClockModel", "end", "[I", true)
  | 10 => ("SkeletonClockModel", "size", "[I", true)
  | 11 => ("SkeletonClockModel", "there", "[Z", true)
  | 12 => ("SkeletonClockModel", "wish", "[I", true)
  | 13 => ("SkeletonClockModel", "have", "[I", true)
  | 14 => ("SkeletonClockModel", "far", "I", false)
  | 15 => ("SkeletonClockModel", "momentParts", "I", false)
  | 16 => ("SkeletonClockModel", "momentDay", "J", false)
  | 17 => ("SkeletonClockModel", "momentSecond", "I", false)
  | 18 => ("SkeletonClockModel", "momentNano", "I", false)
  | 19 => ("SkeletonClockModel", "momentOffset", "I", false)
  | 20 => ("SkeletonClockModel", "readParts", "I", false)
  | 21 => ("SkeletonClockModel", "readDay", "J", false)
  | 22 => ("SkeletonClockModel", "readSecond", "I", false)
  | 23 => ("SkeletonClockModel", "readNano", "I", false)
  | 24 => ("SkeletonClockModel", "readOffset", "I", false)
  | 25 => ("SkeletonClockModel", "known", "[Z", true)
  | 26 => ("SkeletonClockModel", "value", "[J", true)
  | 27 => ("SkeletonClockModel", "before", "[Z", true)
  | 28 => ("SkeletonClockModel", "open", "[I", true)
  | 29 => ("SkeletonClockModel", "from", "[I", true)
  | _ => ("SkeletonClockModel", "alike", "Z", false)
def t_SkeletonClockModel : Nat → FieldType := fun k => match k with
  | 0 => .int
  | 1 => .array .char
  | 2 => .int
  | 3 => .array .char
  | 4 => .array .long
  | 5 => .array .int
  | 6 => .array .int
  | 7 => .array .int
  | 8 => .array .int
  | 9 => .array .int
  | 10 => .array .int
  | 11 => .array .boolean
  | 12 => .array .int
  | 13 => .array .int
  | 14 => .int
  | 15 => .int
  | 16 => .long
  | 17 => .int
  | 18 => .int
  | 19 => .int
  | 20 => .int
  | 21 => .long
  | 22 => .int
  | 23 => .int
  | 24 => .int
  | 25 => .array .boolean
  | 26 => .array .long
  | 27 => .array .boolean
  | 28 => .array .int
  | 29 => .array .int
  | _ => .boolean
theorem n_SkeletonClockModel : ∀ a, a < 31 → ∀ b, b < 31 → a ≠ b → (F_SkeletonClockModel a).2.1 ≠ (F_SkeletonClockModel b).2.1 := by decide +kernel
theorem t_SkeletonClockModel_ok : ∀ k, k < 31 → parseFieldDescriptor (F_SkeletonClockModel k).2.2.1 = some (t_SkeletonClockModel k) := by decide +kernel
abbrev classes : List vw_C := [(R_SkeletonClock, F_SkeletonClock, 10), (R_Row, F_Row, 2), (R_Pattern, F_Pattern, 3), (R_PatternParser, F_PatternParser, 4), (R_Nest, F_Nest, 4), (R_Moment, F_Moment, 3), (R_Printer, F_Printer, 2), (R_Known, F_Known, 4), (R_TextReader, F_TextReader, 4), (R_Resolver, F_Resolver, 5), (R_SkeletonClockModel, F_SkeletonClockModel, 31)]
/-! What stands still: the static tables and the String constants. st 0, st 1: the tables' cells; st (10 + i): the i-th text; st (20 + i): its bytes. -/
def tb_beforeL : List Int32 := [0, 31, 59, 90, 120, 151, 181, 212, 243, 273, 304, 334, 365]
def tb_before (j : Nat) : Int32 := tb_beforeL.getD j 0
def tb_allowedL : List Int32 := [22, 22, 30, 6, 10, 24, 6, 6, 6, 2, 6, 6, 1022, 14, 14]
def tb_allowed (j : Nat) : Int32 := tb_allowedL.getD j 0
def tx_0 : String := "uYMdDEwHhamsSXx"
def tx_1 : String := "January  February March    April    May      June     July     August   SeptemberOctober  November December "
def tx_2 : String := "Monday   Tuesday  WednesdayThursday Friday   Saturday Sunday   "
def tx_3 : String := "AMPM"
def tx_len : List Nat := [15, 108, 63, 4]
def tx_byt : List (List Int32) := [tx_0.toList.map (fun c => Int32.ofNat c.toNat), tx_1.toList.map (fun c => Int32.ofNat c.toNat), tx_2.toList.map (fun c => Int32.ofNat c.toNat), tx_3.toList.map (fun c => Int32.ofNat c.toNat)]
/-- a reference or null, coded in a number -/
def sq (k : Nat) : Option Nat := if k = 0 then none else some (k - 1)
def SW (st : Nat → Nat) (A : Nat → Prop) (U : State) (H : Heap) : Prop :=
  va_Z "SkeletonClock$Days" "BEFORE_MONTH" "[I" (.ref (st 0)) A U H ∧ va_T .int (st 0) 13 (fun j => .int (tb_before j)) A U H ∧
  va_Z "SkeletonClock$Pattern" "ALLOWED" "[I" (.ref (st 1)) A U H ∧ va_T .int (st 1) 15 (fun j => .int (tb_allowed j)) A U H ∧
  va_Z "java/lang/String" "COMPACT_STRINGS" "Z" (.int 1) A U H ∧ vk_S 4 tx_len tx_byt (fun i => st (10 + i)) (fun i => st (20 + i)) A U H ∧
  va_Z "jdk/internal/util/Preconditions" "SIOOBE_FORMATTER" "Ljava/util/function/BiFunction;" (va_rf (sq (st 2))) A U H ∧ va_AO "SkeletonClock$Pattern" U
theorem SW.z0 {st : Nat → Nat} {A : Nat → Prop} {U : State} {H : Heap} (h : SW st A U H) : va_Z "SkeletonClock$Days" "BEFORE_MONTH" "[I" (.ref (st 0)) A U H := h.1
theorem SW.t0 {st : Nat → Nat} {A : Nat → Prop} {U : State} {H : Heap} (h : SW st A U H) : va_T .int (st 0) 13 (fun j => .int (tb_before j)) A U H := h.2.1
theorem SW.z1 {st : Nat → Nat} {A : Nat → Prop} {U : State} {H : Heap} (h : SW st A U H) : va_Z "SkeletonClock$Pattern" "ALLOWED" "[I" (.ref (st 1)) A U H := h.2.2.1
theorem SW.t1 {st : Nat → Nat} {A : Nat → Prop} {U : State} {H : Heap} (h : SW st A U H) : va_T .int (st 1) 15 (fun j => .int (tb_allowed j)) A U H := h.2.2.2.1
theorem SW.zc {st : Nat → Nat} {A : Nat → Prop} {U : State} {H : Heap} (h : SW st A U H) : va_Z "java/lang/String" "COMPACT_STRINGS" "Z" (.int 1) A U H := h.2.2.2.2.1
theorem SW.vs {st : Nat → Nat} {A : Nat → Prop} {U : State} {H : Heap} (h : SW st A U H) : vk_S 4 tx_len tx_byt (fun i => st (10 + i)) (fun i => st (20 + i)) A U H := h.2.2.2.2.2.1
theorem SW.zq {st : Nat → Nat} {A : Nat → Prop} {U : State} {H : Heap} (h : SW st A U H) : va_Z "jdk/internal/util/Preconditions" "SIOOBE_FORMATTER" "Ljava/util/function/BiFunction;" (va_rf (sq (st 2))) A U H := h.2.2.2.2.2.2.1
theorem SW.ao {st : Nat → Nat} {A : Nat → Prop} {U : State} {H : Heap} (h : SW st A U H) : va_AO "SkeletonClock$Pattern" U := h.2.2.2.2.2.2.2
theorem SW.moved {st : Nat → Nat} {A : Nat → Prop} {u U : State} {H : Heap} (hvm : u.vm.Alike U.vm) (h : SW st A u H) : SW st A U H :=
  ⟨va_Z.moved hvm h.1, va_T.moved hvm h.2.1, va_Z.moved hvm h.2.2.1, va_T.moved hvm h.2.2.2.1, va_Z.moved hvm h.2.2.2.2.1, vk_S.moved hvm h.2.2.2.2.2.1, va_Z.moved hvm h.2.2.2.2.2.2.1, va_AO.moved hvm h.2.2.2.2.2.2.2⟩
theorem SW.kept {st : Nat → Nat} {A : Nat → Prop} {U : State} {H H1 : Heap} (h : SW st A U H) (hq : ∀ a : Nat, a < H.size → ¬ A a → H1[a]? = H[a]?) : SW st A U H1 :=
  ⟨h.1.kept hq, h.2.1.kept hq, h.2.2.1.kept hq, h.2.2.2.1.kept hq, h.2.2.2.2.1.kept hq, h.2.2.2.2.2.1.kept hq, h.2.2.2.2.2.2.1.kept hq, h.2.2.2.2.2.2.2⟩
theorem SW.narrow {st : Nat → Nat} {A B : Nat → Prop} {U : State} {H : Heap} (h : SW st A U H) (hAB : ∀ q, B q → A q) : SW st B U H :=
  ⟨h.1.narrow hAB, h.2.1.narrow hAB, h.2.2.1.narrow hAB, h.2.2.2.1.narrow hAB, h.2.2.2.2.1.narrow hAB, h.2.2.2.2.2.1.narrow hAB, h.2.2.2.2.2.2.1.narrow hAB, h.2.2.2.2.2.2.2⟩
/-- the String constants, where classes load them -/
def VR (st : Nat → Nat) (U : State) : Prop := vk_R "SkeletonClock$PatternParser" 65 tx_0 (st 10) U ∧ vk_R "SkeletonClock" 130 tx_0 (st 10) U ∧ vk_R "SkeletonClock$Names" 11 tx_1 (st 11) U ∧ vk_R "SkeletonClock$Names" 13 tx_2 (st 12) U ∧ vk_R "SkeletonClock$Names" 15 tx_3 (st 13) U
theorem VR.same {st : Nat → Nat} {u U : State} (hv : U.vm = u.vm) (h : VR st u) : VR st U := ⟨h.1.same hv, h.2.1.same hv, h.2.2.1.same hv, h.2.2.2.1.same hv, h.2.2.2.2.same hv⟩
theorem VR.warm {st : Nat → Nat} {s U : State} (hW : s.WarmedH U.vm) (h : VR st s) : VR st U := ⟨h.1.warm hW, h.2.1.warm hW, h.2.2.1.warm hW, h.2.2.2.1.warm hW, h.2.2.2.2.warm hW⟩
/-- a pattern's contents: kinds, numbers, size -/
abbrev PSt : Type := (Nat → Int32) × (Nat → Int32) × Int32
def mps {T : Type} (o : Option PSt) (a : Option T) (f : PSt → Option T) : Option T := match o with
  | none => a
  | some q => f q
