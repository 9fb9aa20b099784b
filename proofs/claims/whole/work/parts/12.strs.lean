-- written by wip/gen/strs.py: the texts of the program
def strO : Nat → String := fun k => match k with
  | 0 => "OutwardTape"
  | 1 => "OutwardTape$LiteralReader"
  | 2 => "OutwardTape$LiteralReader"
  | 3 => "OutwardTape$LiteralReader"
  | 4 => "OutwardTape$LiteralReader"
  | 5 => "OutwardTape$LiteralReader"
  | 6 => "OutwardTape$LiteralReader"
  | 7 => "OutwardTape$LiteralReader"
  | 8 => "OutwardTape$LiteralReader"
  | 9 => "OutwardTape"
  | 10 => "OutwardTape"
  | _ => "OutwardTape"
def strI : Nat → Nat := fun k => match k with
  | 0 => 35
  | 1 => 106
  | 2 => 110
  | 3 => 140
  | 4 => 142
  | 5 => 91
  | 6 => 97
  | 7 => 99
  | 8 => 101
  | 9 => 50
  | 10 => 71
  | _ => 79
def strT : Nat → String := fun k => match k with
  | 0 => "the tape is full"
  | 1 => "empty"
  | 2 => "entire"
  | 3 => "infinity"
  | 4 => "inf"
  | 5 => "com"
  | 6 => "dac"
  | 7 => "def"
  | 8 => "trv"
  | 9 => "no such decoration"
  | 10 => "no such function"
  | _ => "no such cell"
def lenJ : List Nat := [16, 5, 6, 8, 3, 3, 3, 3, 3, 18, 16, 12]
def bytJ : List (List Int32) := [[116, 104, 101, 32, 116, 97, 112, 101, 32, 105, 115, 32, 102, 117, 108, 108], [101, 109, 112, 116, 121], [101, 110, 116, 105, 114, 101], [105, 110, 102, 105, 110, 105, 116, 121], [105, 110, 102], [99, 111, 109], [100, 97, 99], [100, 101, 102], [116, 114, 118], [110, 111, 32, 115, 117, 99, 104, 32, 100, 101, 99, 111, 114, 97, 116, 105, 111, 110], [110, 111, 32, 115, 117, 99, 104, 32, 102, 117, 110, 99, 116, 105, 111, 110], [110, 111, 32, 115, 117, 99, 104, 32, 99, 101, 108, 108]]
/-- the char at place k of the text i -/
def chJ (i k : Nat) : Int32 := (bytJ.getD i []).getD k 0
def f_Tape_append (a1_l : Int64) (a1_h : Int64) (a1_m : Int32) (g1 : Int32) (g17 : Nat → Option (Int64 × Int64 × Int32)) : Option (Int32 × Int32 × (Nat → Option (Int64 × Int64 × Int32))) := (if j_in g1 40 then some (g1 + 1 - 1, g1 + 1, va_up g17 g1.toNatClampNeg (some (a1_l, a1_h, a1_m))) else none)
