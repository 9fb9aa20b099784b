-- written by wip/gen/wrapg.py: what the law's wrappers answer (a code, the answer laid into the row), and the tape behind them
def f_Law_literal (gu : Int64)  (g0 : Int32) (g1 : Int32) (g2 : Nat → Int32) (g4 : Int32) (g5 : Int32) (g6 : Nat → Int32) (g7 : Int32) (g8 : Int64) (g9 : Int32) (g10 : Int32) (g11 : Nat → Int32) (g12 : Int32) (g13 : Int64) (g14 : Int32) (g15 : Int32) (g16 : Nat → Int32) (g17 : Nat → Option (Int64 × Int64 × Int32)) : Option (Int32 × Int64 × Int32 × Int32 × Int32 × (Nat → Int32) × Int32 × Int64 × Int32 × Int32 × (Nat → Int32) × Int32 × Int64 × Int32 × Int32 × (Nat → Int32) × (Nat → Option (Int64 × Int64 × Int32))) := (f_Tape_literal g0 g1 g2 g4 g5 g6 g7 g8 g9 g10 g11 g12 g13 g14 g15 g16 g17).bind fun r => match r with
  | .inl 0 => some (1, gu, g1, g4, g5, g6, g7, g8, g9, g10, g11, g12, g13, g14, g15, g16, g17)
  | .inl _ => none
  | .inr r => some (0, r.1.toInt64, r.2)
def f_Law_bounds (gu : Int64) (a1 : Int64) (a3 : Int64) (a5 : Int32) (g1 : Int32) (g17 : Nat → Option (Int64 × Int64 × Int32)) : Option (Int32 × Int64 × Int32 × (Nat → Option (Int64 × Int64 × Int32))) := (f_Tape_bounds a1 a3 a5 g1 g17).bind fun r => match r with
  | .inl 0 => some (2, gu, g1, g17)
  | .inl 1 => some (1, gu, g1, g17)
  | .inl _ => none
  | .inr r => some (0, r.1.toInt64, r.2)
def f_Law_unary (gu : Int64) (a1 : Int32) (a2 : Int32) (g1 : Int32) (g17 : Nat → Option (Int64 × Int64 × Int32)) : Option (Int32 × Int64 × Int32 × (Nat → Option (Int64 × Int64 × Int32))) := (f_Tape_unary a1 a2 g1 g17).bind fun r => match r with
  | .inl 0 => some (3, gu, g1, g17)
  | .inl 1 => some (1, gu, g1, g17)
  | .inl 2 => some (2, gu, g1, g17)
  | .inl _ => none
  | .inr r => some (0, r.1.toInt64, r.2)
def f_Law_binary (gu : Int64) (a1 : Int32) (a2 : Int32) (a3 : Int32) (g1 : Int32) (g17 : Nat → Option (Int64 × Int64 × Int32)) : Option (Int32 × Int64 × Int32 × (Nat → Option (Int64 × Int64 × Int32))) := (f_Tape_binary a1 a2 a3 g1 g17).bind fun r => match r with
  | .inl 0 => some (3, gu, g1, g17)
  | .inl 1 => some (1, gu, g1, g17)
  | .inl 2 => some (2, gu, g1, g17)
  | .inl _ => none
  | .inr r => some (0, r.1.toInt64, r.2)
def f_Law_decoration (gu : Int64) (a1 : Int32) (g1 : Int32) (g17 : Nat → Option (Int64 × Int64 × Int32)) : Option (Int32 × Int64) := (f_Tape_decoration a1 g1 g17).bind fun r => match r with
  | .inl 2 => some (1, gu)
  | .inl _ => none
  | .inr r => some (0, r.toInt64)
