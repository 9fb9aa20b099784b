-- written by wip/gen: fields, worlds
def T_Ref : u_T := fun k => match k with
  | 0 => ("OutwardTapeModel", "count", "I", false)
  | 1 => ("OutwardTapeModel", "kind", "[I", false)
  | 2 => ("OutwardTapeModel", "low", "[J", false)
  | 3 => ("OutwardTapeModel", "high", "[J", false)
  | 4 => ("OutwardTapeModel", "mark", "[I", false)
  | 5 => ("OutwardTapeModel", "code", "I", false)
  | 6 => ("OutwardTapeModel", "text", "[I", false)
  | 7 => ("OutwardTapeModel", "size", "I", false)
  | 8 => ("OutwardTapeModel", "limb", "[I", false)
  | 9 => ("OutwardTapeModel", "over", "Z", false)
  | 10 => ("OutwardTapeModel", "resultLow", "J", false)
  | 11 => ("OutwardTapeModel", "resultHigh", "J", false)
  | 12 => ("OutwardTapeModel", "none", "Z", false)
  | 13 => ("OutwardTapeModel", "place", "I", false)
  | 14 => ("OutwardTapeModel", "minus", "Z", false)
  | 15 => ("OutwardTapeModel", "digits", "J", false)
  | 16 => ("OutwardTapeModel", "power", "I", false)
  | 17 => ("OutwardTapeModel", "minus0", "Z", false)
  | 18 => ("OutwardTapeModel", "digits0", "J", false)
  | _ => ("OutwardTapeModel", "power0", "I", false)
def ty_Ref : Nat → FieldType := fun k => match k with
  | 0 => .int
  | 1 => .array .int
  | 2 => .array .long
  | 3 => .array .long
  | 4 => .array .int
  | 5 => .int
  | 6 => .array .int
  | 7 => .int
  | 8 => .array .int
  | 9 => .boolean
  | 10 => .long
  | 11 => .long
  | 12 => .boolean
  | 13 => .int
  | 14 => .boolean
  | 15 => .long
  | 16 => .int
  | 17 => .boolean
  | 18 => .long
  | _ => .int
theorem tk_Ref : ∀ k, k < 20 → parseFieldDescriptor (T_Ref k).2.2.1 = some (ty_Ref k) := by decide +kernel
theorem nm_Ref : ∀ a, a < 20 → ∀ b, b < 20 → a ≠ b → (T_Ref a).2.1 ≠ (T_Ref b).2.1 := by decide +kernel
theorem in_Ref : ∀ w ∈ u_ws "OutwardTapeModel" T_Ref 20, w ∈ lw_G := List.forall_mem_cons.mpr ⟨(m_4 19 rfl rfl), List.forall_mem_cons.mpr ⟨(m_4 21 rfl rfl), List.forall_mem_cons.mpr ⟨(m_4 23 rfl rfl), List.forall_mem_cons.mpr ⟨(m_4 25 rfl rfl), List.forall_mem_cons.mpr ⟨(m_4 27 rfl rfl), List.forall_mem_cons.mpr ⟨(m_4 29 rfl rfl), List.forall_mem_cons.mpr ⟨(m_4 31 rfl rfl), List.forall_mem_cons.mpr ⟨(m_4 33 rfl rfl), List.forall_mem_cons.mpr ⟨(m_4 35 rfl rfl), List.forall_mem_cons.mpr ⟨(m_4 37 rfl rfl), List.forall_mem_cons.mpr ⟨(m_4 39 rfl rfl), List.forall_mem_cons.mpr ⟨(m_4 41 rfl rfl), List.forall_mem_cons.mpr ⟨(m_4 43 rfl rfl), List.forall_mem_cons.mpr ⟨(m_4 45 rfl rfl), List.forall_mem_cons.mpr ⟨(m_4 47 rfl rfl), List.forall_mem_cons.mpr ⟨(m_4 49 rfl rfl), List.forall_mem_cons.mpr ⟨(m_4 51 rfl rfl), List.forall_mem_cons.mpr ⟨(m_4 53 rfl rfl), List.forall_mem_cons.mpr ⟨(m_4 55 rfl rfl), List.forall_mem_cons.mpr ⟨(m_4 57 rfl rfl), fun _ h => absurd h List.not_mem_nil⟩⟩⟩⟩⟩⟩⟩⟩⟩⟩⟩⟩⟩⟩⟩⟩⟩⟩⟩⟩
def T_Tape : u_T := fun k => match k with
  | 0 => ("OutwardTape", "text", "[C", true)
  | 1 => ("OutwardTape", "characters", "I", false)
  | 2 => ("OutwardTape", "cells", "[LOutwardTape$Cell;", true)
  | 3 => ("OutwardTape", "count", "I", false)
  | _ => ("OutwardTape", "reader", "LOutwardTape$LiteralReader;", true)
def ty_Tape : Nat → FieldType := fun k => match k with
  | 0 => .array .char
  | 1 => .int
  | 2 => .array (.object "OutwardTape$Cell")
  | 3 => .int
  | _ => .object "OutwardTape$LiteralReader"
theorem tk_Tape : ∀ k, k < 5 → parseFieldDescriptor (T_Tape k).2.2.1 = some (ty_Tape k) := by decide +kernel
theorem nm_Tape : ∀ a, a < 5 → ∀ b, b < 5 → a ≠ b → (T_Tape a).2.1 ≠ (T_Tape b).2.1 := by decide +kernel
theorem in_Tape : ∀ w ∈ u_ws "OutwardTape" T_Tape 5, w ∈ lw_G := List.forall_mem_cons.mpr ⟨(m_1 84 rfl rfl), List.forall_mem_cons.mpr ⟨(m_1 86 rfl rfl), List.forall_mem_cons.mpr ⟨(m_1 88 rfl rfl), List.forall_mem_cons.mpr ⟨(m_1 90 rfl rfl), List.forall_mem_cons.mpr ⟨(m_1 92 rfl rfl), fun _ h => absurd h List.not_mem_nil⟩⟩⟩⟩⟩
def T_Rd : u_T := fun k => match k with
  | 0 => ("OutwardTape$LiteralReader", "left", "LOutwardTape$Numeral;", true)
  | 1 => ("OutwardTape$LiteralReader", "right", "LOutwardTape$Numeral;", true)
  | 2 => ("OutwardTape$LiteralReader", "small", "[C", true)
  | 3 => ("OutwardTape$LiteralReader", "end", "I", false)
  | _ => ("OutwardTape$LiteralReader", "at", "I", false)
def ty_Rd : Nat → FieldType := fun k => match k with
  | 0 => .object "OutwardTape$Numeral"
  | 1 => .object "OutwardTape$Numeral"
  | 2 => .array .char
  | 3 => .int
  | _ => .int
theorem tk_Rd : ∀ k, k < 5 → parseFieldDescriptor (T_Rd k).2.2.1 = some (ty_Rd k) := by decide +kernel
theorem nm_Rd : ∀ a, a < 5 → ∀ b, b < 5 → a ≠ b → (T_Rd a).2.1 ≠ (T_Rd b).2.1 := by decide +kernel
theorem in_Rd : ∀ w ∈ u_ws "OutwardTape$LiteralReader" T_Rd 5, w ∈ lw_G := List.forall_mem_cons.mpr ⟨(m_1 68 rfl rfl), List.forall_mem_cons.mpr ⟨(m_1 70 rfl rfl), List.forall_mem_cons.mpr ⟨(m_1 72 rfl rfl), List.forall_mem_cons.mpr ⟨(m_1 74 rfl rfl), List.forall_mem_cons.mpr ⟨(m_1 76 rfl rfl), fun _ h => absurd h List.not_mem_nil⟩⟩⟩⟩⟩
def T_Num : u_T := fun k => match k with
  | 0 => ("OutwardTape$Numeral", "row", "[I", true)
  | 1 => ("OutwardTape$Numeral", "negative", "Z", false)
  | 2 => ("OutwardTape$Numeral", "digits", "J", false)
  | 3 => ("OutwardTape$Numeral", "digitCount", "I", false)
  | _ => ("OutwardTape$Numeral", "scale", "I", false)
def ty_Num : Nat → FieldType := fun k => match k with
  | 0 => .array .int
  | 1 => .boolean
  | 2 => .long
  | 3 => .int
  | _ => .int
theorem tk_Num : ∀ k, k < 5 → parseFieldDescriptor (T_Num k).2.2.1 = some (ty_Num k) := by decide +kernel
theorem nm_Num : ∀ a, a < 5 → ∀ b, b < 5 → a ≠ b → (T_Num a).2.1 ≠ (T_Num b).2.1 := by decide +kernel
theorem in_Num : ∀ w ∈ u_ws "OutwardTape$Numeral" T_Num 5, w ∈ lw_G := List.forall_mem_cons.mpr ⟨(m_1 50 rfl rfl), List.forall_mem_cons.mpr ⟨(m_1 52 rfl rfl), List.forall_mem_cons.mpr ⟨(m_1 54 rfl rfl), List.forall_mem_cons.mpr ⟨(m_1 56 rfl rfl), List.forall_mem_cons.mpr ⟨(m_1 58 rfl rfl), fun _ h => absurd h List.not_mem_nil⟩⟩⟩⟩⟩
def T_Cell : u_T := fun k => match k with
  | 0 => ("OutwardTape$Cell", "low", "J", true)
  | 1 => ("OutwardTape$Cell", "high", "J", true)
  | _ => ("OutwardTape$Cell", "mark", "I", true)
def ty_Cell : Nat → FieldType := fun k => match k with
  | 0 => .long
  | 1 => .long
  | _ => .int
theorem tk_Cell : ∀ k, k < 3 → parseFieldDescriptor (T_Cell k).2.2.1 = some (ty_Cell k) := by decide +kernel
theorem nm_Cell : ∀ a, a < 3 → ∀ b, b < 3 → a ≠ b → (T_Cell a).2.1 ≠ (T_Cell b).2.1 := by decide +kernel
theorem in_Cell : ∀ w ∈ u_ws "OutwardTape$Cell" T_Cell 3, w ∈ lw_G := List.forall_mem_cons.mpr ⟨(m_2 136 rfl rfl), List.forall_mem_cons.mpr ⟨(m_2 138 rfl rfl), List.forall_mem_cons.mpr ⟨(m_2 140 rfl rfl), fun _ h => absurd h List.not_mem_nil⟩⟩⟩
abbrev CLS : List vw_C := [("OutwardTapeModel", T_Ref, 20), ("OutwardTape", T_Tape, 5), ("OutwardTape$LiteralReader", T_Rd, 5), ("OutwardTape$Numeral", T_Num, 5), ("OutwardTape$Cell", T_Cell, 3)]
def wR (a : Nat → Nat) (q : Nat → ClassId) (g0 : Int32) (g1 : Nat → Int32) (g2 : Nat → Int64) (g3 : Nat → Int64) (g4 : Nat → Int32) (g5 : Int32) (g6 : Nat → Int32) (g7 : Int32) (g8 : Nat → Int32) (g9 : Int32) (g10 : Int64) (g11 : Int64) (g12 : Int32) (g13 : Int32) (g14 : Int32) (g15 : Int64) (g16 : Int32) (g17 : Int32) (g18 : Int64) (g19 : Int32) : va_W := [(a 0, .inr (0, [.int g0, .ref (a 1), .ref (a 2), .ref (a 3), .ref (a 4), .int g5, .ref (a 5), .int g7, .ref (a 6), .int g9, .long g10, .long g11, .int g12, .int g13, .int g14, .long g15, .int g16, .int g17, .long g18, .int g19])), (a 1, .inl (q 0, 40, .inl g1)), (a 2, .inl (q 1, 40, .inr (.inl g2))), (a 3, .inl (q 2, 40, .inr (.inl g3))), (a 4, .inl (q 3, 40, .inl g4)), (a 5, .inl (q 4, 60, .inl g6)), (a 6, .inl (q 5, 800, .inl g8))]
def tR (q : Nat → ClassId) : List (ClassId × FieldType) := [(q 0, .int), (q 1, .long), (q 2, .long), (q 3, .int), (q 4, .int), (q 5, .int)]
def dR (a : Nat → Nat) : va_W := [(a 0, .inr (0, [])), (a 1, .inr (0, [])), (a 2, .inr (0, [])), (a 3, .inr (0, [])), (a 4, .inr (0, [])), (a 5, .inr (0, [])), (a 6, .inr (0, []))]
