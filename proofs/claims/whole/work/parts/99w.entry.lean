-- what the statement gives of the start: the texts, the statics, the exceptions' classes
def ENF : List Cond := flatC (Jvm.Cond.and given_1 narrow_1)
def tmS (i : Nat) : Term := .string (strO i) (strI i)
set_option maxRecDepth 100000
theorem en_len : ∀ i : Nat, i < 12 → lenJ.getD i 0 < 2 ^ 31 := by decide +kernel
theorem en_ex : ∀ i : Nat, i < 12 → Cond.exactly (tmS i) "java/lang/String" ∈ ENF := by decide +kernel
theorem en_co : ∀ i : Nat, i < 12 → Cond.eq (.field (tmS i) "java/lang/String" "coder" "B") (.int 0) ∈ ENF := by decide +kernel
theorem en_ar : ∀ i : Nat, i < 12 → Cond.arrayOf (.field (tmS i) "java/lang/String" "value" "[B") .byte ∈ ENF := by decide +kernel
theorem en_le : ∀ i : Nat, i < 12 → Cond.eq (.length (.field (tmS i) "java/lang/String" "value" "[B")) (.int (Int32.ofNat (lenJ.getD i 0))) ∈ ENF := by decide +kernel
theorem en_el : ∀ i : Nat, i < 12 → ∀ j : Nat, j < lenJ.getD i 0 → Cond.eq (.elem (.field (tmS i) "java/lang/String" "value" "[B") (.int (Int32.ofNat j))) (.int ((bytJ.getD i []).getD j 0)) ∈ ENF := by decide +kernel
theorem en_ne : ∀ i : Nat, i < 12 → ∀ j : Nat, j < 12 → i < j → Cond.not (Cond.eq (tmS i) (tmS j)) ∈ ENF := by decide +kernel
theorem en_sr : ∀ i : Nat, i < 12 → Cond.stringRef (strO i) (strI i) (strT i) ∈ lw_tbl := by decide +kernel
theorem en_xw : ∀ w ∈ exW, w ∈ lw_tbl ∧ w.onTables = true := by decide +kernel
theorem en_S {args : Array Value} {s : State} (hts : ∀ w ∈ lw_tbl, w.before args s = true) (hg : (Jvm.Cond.and given_1 narrow_1).before args s = true) : ∃ adK adV : Nat → Nat, isS s.heap.size adK adV s ∧ ncX s ∧ va_AO "OutwardTape$Cell" s := by
  have hf : ∀ w ∈ ENF, w.before args s = true := flat_of_before _ hg
  have hA : ∀ a : Nat, a < s.heap.size → ¬ (fun x => s.heap.size ≤ x) a := fun a h h2 => absurd h (Nat.not_lt.mpr h2)
  obtain ⟨adK, adV, hS, hT⟩ := vk_Sof (args := args) (s := s) (N := 12) (tm := tmS) (len := lenJ) (byt := bytJ) (A := fun x => s.heap.size ≤ x) en_len (fun i h => hf _ (en_ex i h)) (fun i h => hf _ (en_co i h)) (fun i h => hf _ (en_ar i h)) (fun i h => hf _ (en_le i h)) (fun i h j hj => hf _ (en_el i h j hj)) (fun i j hi hj hij => by
    rcases Nat.lt_or_gt_of_ne hij with h | h
    · exact Or.inl (hf _ (en_ne i hi j hj h))
    · exact Or.inr (hf _ (en_ne j hj i hi h))) hA
  have l1 := hts (Cond.laysStatic "java/lang/Throwable" "UNASSIGNED_STACK" "[Ljava/lang/StackTraceElement;") (i_t2 (List.mem_of_getElem? (i := 48) rfl))
  have l2 := hts (Cond.laysStatic "java/lang/Throwable" "SUPPRESSED_SENTINEL" "Ljava/util/List;") (i_t2 (List.mem_of_getElem? (i := 50) rfl))
  have l3 := hts (Cond.laysStatic "java/lang/String" "COMPACT_STRINGS" "Z") (i_t2 (List.mem_of_getElem? (i := 169) rfl))
  have l4 := hts (Cond.laysStatic "jdk/internal/util/Preconditions" "SIOOBE_FORMATTER" "Ljava/util/function/BiFunction;") (i_t2 (List.mem_of_getElem? (i := 185) rfl))
  have t1 := hts (Cond.initialized "java/lang/Throwable") (i_t1 (List.mem_of_getElem? (i := 5) rfl))
  have t2 := hts (Cond.initialized "java/lang/String") (i_t1 (List.mem_of_getElem? (i := 11) rfl))
  have t3 := hts (Cond.initialized "jdk/internal/util/Preconditions") (i_t1 (List.mem_of_getElem? (i := 13) rfl))
  refine ⟨adK, adV, ⟨fun i hi => vk_R.of (hts _ (en_sr i hi)) (hT i hi), hS, va_Zof l3 t2 (va_eqt (hf _ (by decide +kernel))) hA, va_Zqof l4 t3 (hf _ (by decide +kernel)) hA, va_Zqof l1 t1 (hf _ (by decide +kernel)) hA, va_Zqof l2 t1 (hf _ (by decide +kernel)) hA, fun w hw => va_Nw.of (en_xw w hw).2 (hts w (en_xw w hw).1), l1, l2⟩, ⟨va_Nc.of (hf _ (by decide +kernel)), va_Nc.of (hf _ (by decide +kernel)), va_Nc.of (hf _ (by decide +kernel))⟩, va_AO.of (hts (Cond.arrayOver (.object "OutwardTape$Cell")) (i_t1 (List.mem_of_getElem? (i := 32) rfl)))⟩
theorem en_K {args : Array Value} {s : State} (hts : ∀ w ∈ lw_G, w.before args s = true) : ∃ D : va_G, va_K D CLS [] s := by
  obtain ⟨c0, i0, k0⟩ := u_known (C := "OutwardTapeModel") (T := T_Ref) (N := 20) hts in_Ref (hts (Cond.instantiable "OutwardTapeModel" 20) (m_3 234 rfl rfl))
  obtain ⟨c1, i1, k1⟩ := u_known (C := "OutwardTape") (T := T_Tape) (N := 5) hts in_Tape (hts (Cond.instantiable "OutwardTape" 5) (m_1 24 rfl rfl))
  obtain ⟨c2, i2, k2⟩ := u_known (C := "OutwardTape$LiteralReader") (T := T_Rd) (N := 5) hts in_Rd (hts (Cond.instantiable "OutwardTape$LiteralReader" 5) (m_1 34 rfl rfl))
  obtain ⟨c3, i3, k3⟩ := u_known (C := "OutwardTape$Numeral") (T := T_Num) (N := 5) hts in_Num (hts (Cond.instantiable "OutwardTape$Numeral" 5) (m_1 40 rfl rfl))
  obtain ⟨c4, i4, k4⟩ := u_known (C := "OutwardTape$Cell") (T := T_Cell) (N := 3) hts in_Cell (hts (Cond.instantiable "OutwardTape$Cell" 3) (m_2 112 rfl rfl))
  refine ⟨(fun k => match k with | 0 => c0 | 1 => c1 | 2 => c2 | 3 => c3 | _ => c4, fun k => match k with | 0 => i0 | 1 => i1 | 2 => i2 | 3 => i3 | _ => i4), fun c q hq => ?_, fun k q hq => by cases hq⟩
  match c, hq with
  | 0, hq => cases hq; exact k0
  | 1, hq => cases hq; exact k1
  | 2, hq => cases hq; exact k2
  | 3, hq => cases hq; exact k3
  | 4, hq => cases hq; exact k4
  | c + 5, hq => cases hq
