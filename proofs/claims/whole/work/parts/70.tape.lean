-- written by wip/gen/tape.py
abbrev rm_Num_begin : Room := { frames := 0, cells := 0, slots := 0, locals := 0 }
set_option maxRecDepth 100000 in
set_option maxHeartbeats 4000000 in
theorem k_Num_begin_0 {p : Program} {l : Launch} {e : Env} {s : State} {m : MethodId} {args : Array Value} {below : List Frame} {meth : Method} {c : Code} {D : va_G} {a : Nat → Nat} {q : Nat → ClassId} {L : Nat} {R : Nat} {A : Nat → Prop} (hC : CX p s m args meth c prog_6_method_2_code 2 "OutwardTape$Numeral" none) (hA : ∀ x, s.heap.size ≤ x → A x) (hK : va_K D CLS (tT q) s) {g0 : Int32} {g1 : Int32} {g2 : Nat → Int32} {g3 : Nat → Option Nat} {g4 : Int32} {g5 : Int32} {g6 : Nat → Int32} {g11 : Nat → Int32} {g12 : Int32} {g13 : Int64} {g14 : Int32} {g15 : Int32} {g16 : Nat → Int32} {r0 : Int32 × Int64 × Int32 × Int32} : ∀ (v1 : Int32) (g7 : Int32) (g8 : Int64) (g9 : Int32) (g10 : Int32) (H : Heap) (locs : List Loc) (ls : Array Slot), va_P D CLS (wT a q L R g0 g1 g2 g3 g4 g5 g6 g7 g8 g9 g10 g11 g12 g13 g14 g15 g16) H → va_D A (wT a q L R g0 g1 g2 g3 g4 g5 g6 g7 g8 g9 g10 g11 g12 g13 g14 g15 g16) → va_S A s.heap H locs → lv_has ls 2 [(0, .ref (a 5)), (1, .int v1)] → f_Num_begin_0  v1 g7 g8 g9 g10 = some r0 → W p l e rm_Num_begin s m args below meth c H locs 0 0 (MQ below (va_Qv (fun _ : Unit => True) (fun _ t => va_P D CLS (wT a q L R g0 g1 g2 g3 g4 g5 g6 r0.1 r0.2.1 r0.2.2.1 r0.2.2.2 g11 g12 g13 g14 g15 g16) t.heap) A) args s 0 0 A) (F0 m 0 ls []) := by
  obtain ⟨hx, hb, hml, hown, hts, hr, hlocks⟩ := id hC
  intro v1 g7 g8 g9 g10 H locs ls hP hD hS hl h
  rw [f_Num_begin_0] at h
  have hSz : s.heap.size ≤ H.size := hS.1
  refine lv_aload_n hx hb (dt_at dt_Num_begin 0 rfl) rfl (lv_at hl 0 rfl) ?_
  refine lv_iload_n hx hb (dt_at dt_Num_begin 1 rfl) rfl (lv_at hl 1 rfl) ?_
  obtain ⟨z1, h⟩ := og_of h
  refine va_put (D := D) (ci := 3) (v := .int v1) (ty := .boolean) (C := "OutwardTape$Numeral") (T := T_Num) (N := 5) hx hb hts in_Num ty_Num tk_Num nm_Num hown hK hP hD hS 5 rfl rfl 1 (by decide) (hts (Cond.fieldLink "OutwardTape$Numeral" 13 "OutwardTape$Numeral" "negative" "Z") (m_1 46 rfl rfl)) (fun _ h9 => h9) rfl (by decide +kernel) (j_z_nar z1) (j_z_fit z1) (Nat.le_of_ble_eq_true rfl) (dt_at dt_Num_begin 2 rfl) (fun H locs hP hD hS => ?_)
  have hP : va_P D CLS (wT a q L R g0 g1 g2 g3 g4 g5 g6 v1 g8 g9 g10 g11 g12 g13 g14 g15 g16) H := hP
  have hD : va_D A (wT a q L R g0 g1 g2 g3 g4 g5 g6 v1 g8 g9 g10 g11 g12 g13 g14 g15 g16) := hD
  refine lv_aload_n hx hb (dt_at dt_Num_begin 3 rfl) rfl (lv_at hl 0 rfl) ?_
  refine lv_lconst (v := 0) hx hb (dt_at dt_Num_begin 4 rfl) (by decide) ?_
  refine va_put (D := D) (ci := 3) (v := .long (0 : Int64)) (ty := .long) (C := "OutwardTape$Numeral") (T := T_Num) (N := 5) hx hb hts in_Num ty_Num tk_Num nm_Num hown hK hP hD hS 5 rfl rfl 2 (by decide) (hts (Cond.fieldLink "OutwardTape$Numeral" 17 "OutwardTape$Numeral" "digits" "J") (m_1 47 rfl rfl)) (fun _ h9 => h9) rfl (by decide +kernel) rfl rfl (Nat.le_of_ble_eq_true rfl) (dt_at dt_Num_begin 5 rfl) (fun H locs hP hD hS => ?_)
  have hP : va_P D CLS (wT a q L R g0 g1 g2 g3 g4 g5 g6 v1 (0 : Int64) g9 g10 g11 g12 g13 g14 g15 g16) H := hP
  have hD : va_D A (wT a q L R g0 g1 g2 g3 g4 g5 g6 v1 (0 : Int64) g9 g10 g11 g12 g13 g14 g15 g16) := hD
  refine lv_aload_n hx hb (dt_at dt_Num_begin 6 rfl) rfl (lv_at hl 0 rfl) ?_
  refine lv_iconst (v := 0) hx hb (dt_at dt_Num_begin 7 rfl) (by decide) ?_
  refine va_put (D := D) (ci := 3) (v := .int (0 : Int32)) (ty := .int) (C := "OutwardTape$Numeral") (T := T_Num) (N := 5) hx hb hts in_Num ty_Num tk_Num nm_Num hown hK hP hD hS 5 rfl rfl 3 (by decide) (hts (Cond.fieldLink "OutwardTape$Numeral" 21 "OutwardTape$Numeral" "digitCount" "I") (m_1 48 rfl rfl)) (fun _ h9 => h9) rfl (by decide +kernel) rfl rfl (Nat.le_of_ble_eq_true rfl) (dt_at dt_Num_begin 8 rfl) (fun H locs hP hD hS => ?_)
  have hP : va_P D CLS (wT a q L R g0 g1 g2 g3 g4 g5 g6 v1 (0 : Int64) (0 : Int32) g10 g11 g12 g13 g14 g15 g16) H := hP
  have hD : va_D A (wT a q L R g0 g1 g2 g3 g4 g5 g6 v1 (0 : Int64) (0 : Int32) g10 g11 g12 g13 g14 g15 g16) := hD
  refine lv_aload_n hx hb (dt_at dt_Num_begin 9 rfl) rfl (lv_at hl 0 rfl) ?_
  refine lv_iconst (v := 0) hx hb (dt_at dt_Num_begin 10 rfl) (by decide) ?_
  refine va_put (D := D) (ci := 3) (v := .int (0 : Int32)) (ty := .int) (C := "OutwardTape$Numeral") (T := T_Num) (N := 5) hx hb hts in_Num ty_Num tk_Num nm_Num hown hK hP hD hS 5 rfl rfl 4 (by decide) (hts (Cond.fieldLink "OutwardTape$Numeral" 25 "OutwardTape$Numeral" "scale" "I") (m_1 49 rfl rfl)) (fun _ h9 => h9) rfl (by decide +kernel) rfl rfl (Nat.le_of_ble_eq_true rfl) (dt_at dt_Num_begin 11 rfl) (fun H locs hP hD hS => ?_)
  have hP : va_P D CLS (wT a q L R g0 g1 g2 g3 g4 g5 g6 v1 (0 : Int64) (0 : Int32) (0 : Int32) g11 g12 g13 g14 g15 g16) H := hP
  have hD : va_D A (wT a q L R g0 g1 g2 g3 g4 g5 g6 v1 (0 : Int64) (0 : Int32) (0 : Int32) g11 g12 g13 g14 g15 g16) := hD
  obtain rfl := os_of h
  exact W.vret hx hb hr (fun t ht hW => ⟨⟨(), rfl, trivial, (hPt hP ht)⟩, hS.F ht⟩) hS.2.2 (dt_at dt_Num_begin 12 rfl)
set_option maxRecDepth 100000 in
set_option maxHeartbeats 4000000 in
theorem c_Num_begin (l : Launch) (D : va_G) (a : Nat → Nat) (q : Nat → ClassId) (L : Nat) (R : Nat) (hd : va_D (fun _ => True) (dT a)) (sz : Nat) (a1 : Int32) (g0 : Int32) (g1 : Int32) (g2 : Nat → Int32) (g3 : Nat → Option Nat) (g4 : Int32) (g5 : Int32) (g6 : Nat → Int32) (g7 : Int32) (g8 : Int64) (g9 : Int32) (g10 : Int32) (g11 : Nat → Int32) (g12 : Int32) (g13 : Int64) (g14 : Int32) (g15 : Int32) (g16 : Nat → Int32)   (r0 : Int32 × Int64 × Int32 × Int32) (h : f_Num_begin a1 g7 g8 g9 g10 = some r0) : Met l (⟨"OutwardTape$Numeral", "begin", "(Z)V"⟩ : MethodName) (WSm (⟨"OutwardTape$Numeral", "begin", "(Z)V"⟩ : MethodName) prog_6_method_2_code 2 none) rm_Num_begin (va_Pc [.ref (a 5), .int a1] (fun U => U.heap.size = sz ∧ va_P D CLS (wT a q L R g0 g1 g2 g3 g4 g5 g6 g7 g8 g9 g10 g11 g12 g13 g14 g15 g16) U.heap ∧ va_K D CLS (tT q) U)) (va_Qv (fun _ : Unit => True) (fun _ t => va_P D CLS (wT a q L R g0 g1 g2 g3 g4 g5 g6 r0.1 r0.2.1 r0.2.2.1 r0.2.2.2 g11 g12 g13 g14 g15 g16) t.heap) (va_A (dT a) sz)) 0 0 (va_A (dT a) sz) := by
  refine Met.ofW (cc := prog_6_method_2_code) (maxL := 2) (ret := none) (by decide) rfl ?_
  intro p e s m args below meth c s₁ B hml hv
  obtain ⟨rfl, hsz, hP, hK⟩ := hv
  subst hsz
  have hC := CX.of B hml rfl
  have hl := lv_entry [.ref (a 5), .int a1] (n := 2) (Nat.le_of_ble_eq_true rfl)
  rw [lg_entry_eq]
  generalize (lg_sl [.ref (a 5), .int a1] ++ List.replicate (2 - (lg_sl [.ref (a 5), .int a1]).length) Slot.unset).toArray = ls at hl ⊢
  have hl : lv_has ls 2 [(0, .ref (a 5)), (1, .int a1)] := hl
  exact k_Num_begin_0  hC (fun x h => Or.inr h) hK a1 g7 g8 g9 g10   s.heap [] ls hP (dD hd.self rfl) va_S.rf   (lv_sub hl [0, 1] rfl) h
abbrev rm_Num_addDigit : Room := { frames := 0, cells := 0, slots := 0, locals := 0 }
set_option maxRecDepth 100000 in
set_option maxHeartbeats 4000000 in
theorem k_Num_addDigit_15 {p : Program} {l : Launch} {e : Env} {s : State} {m : MethodId} {args : Array Value} {below : List Frame} {meth : Method} {c : Code} {D : va_G} {a : Nat → Nat} {q : Nat → ClassId} {L : Nat} {R : Nat} {A : Nat → Prop} (hC : CX p s m args meth c prog_6_method_3_code 2 "OutwardTape$Numeral" (some .boolean)) (hA : ∀ x, s.heap.size ≤ x → A x) (hK : va_K D CLS (tT q) s) {g0 : Int32} {g1 : Int32} {g2 : Nat → Int32} {g3 : Nat → Option Nat} {g4 : Int32} {g5 : Int32} {g6 : Nat → Int32} {g7 : Int32} {g10 : Int32} {g11 : Nat → Int32} {g12 : Int32} {g13 : Int64} {g14 : Int32} {g15 : Int32} {g16 : Nat → Int32} {r0 : Int32 × Int64 × Int32} : ∀ (v1 : Int32) (g8 : Int64) (g9 : Int32) (H : Heap) (locs : List Loc) (ls : Array Slot), va_P D CLS (wT a q L R g0 g1 g2 g3 g4 g5 g6 g7 g8 g9 g10 g11 g12 g13 g14 g15 g16) H → va_D A (wT a q L R g0 g1 g2 g3 g4 g5 g6 g7 g8 g9 g10 g11 g12 g13 g14 g15 g16) → va_S A s.heap H locs → lv_has ls 2 [(0, .ref (a 5)), (1, .int v1)] → f_Num_addDigit_15  v1 g8 g9 = some r0 → W p l e rm_Num_addDigit s m args below meth c H locs 0 0 (MQ below (va_Qi (fun (r : Int32) (_ : Unit) => r = r0.1) (fun _ t => va_P D CLS (wT a q L R g0 g1 g2 g3 g4 g5 g6 g7 r0.2.1 r0.2.2 g10 g11 g12 g13 g14 g15 g16) t.heap) A) args s 0 0 A) (F0 m 15 ls []) := by
  obtain ⟨hx, hb, hml, hown, hts, hr, hlocks⟩ := id hC
  intro v1 g8 g9 H locs ls hP hD hS hl h
  rw [f_Num_addDigit_15] at h
  have hSz : s.heap.size ≤ H.size := hS.1
  refine lv_aload_n hx hb (dt_at dt_Num_addDigit 9 rfl) rfl (lv_at hl 0 rfl) ?_
  refine va_get (D := D) (ci := 3) (v := .int g9) (C := "OutwardTape$Numeral") (T := T_Num) (N := 5) hx hb hts in_Num hown hK hP 5 rfl rfl 3 (by decide) (hts (Cond.fieldLink "OutwardTape$Numeral" 21 "OutwardTape$Numeral" "digitCount" "I") (m_1 48 rfl rfl)) (fun _ h9 => h9) rfl (dt_at dt_Num_addDigit 10 rfl) ?_
  refine lv_bipush (v := 18) hx hb (dt_at dt_Num_addDigit 11 rfl) (by decide) ?_
  refine lv_icmp_lt (tgt := 26) hx hb (dt_at dt_Num_addDigit 12 rfl) (by decide) (fun c1 => ?_) (fun c1 => ?_)
  · have h := if_p h c1
    refine lv_aload_n hx hb (dt_at dt_Num_addDigit 15 rfl) rfl (lv_at hl 0 rfl) ?_
    refine lv_aload_n hx hb (dt_at dt_Num_addDigit 16 rfl) rfl (lv_at hl 0 rfl) ?_
    refine va_get (D := D) (ci := 3) (v := .long g8) (C := "OutwardTape$Numeral") (T := T_Num) (N := 5) hx hb hts in_Num hown hK hP 5 rfl rfl 2 (by decide) (hts (Cond.fieldLink "OutwardTape$Numeral" 17 "OutwardTape$Numeral" "digits" "J") (m_1 47 rfl rfl)) (fun _ h9 => h9) rfl (dt_at dt_Num_addDigit 17 rfl) ?_
    refine lv_ldc2 (v := 10) hx hb hown (hts (Cond.constantLong "OutwardTape$Numeral" 28 (10)) (m_3 11 rfl rfl)) (dt_at dt_Num_addDigit 18 rfl) ?_
    refine lv_lmul hx hb (dt_at dt_Num_addDigit 19 rfl) ?_
    refine lv_iload_n hx hb (dt_at dt_Num_addDigit 20 rfl) rfl (lv_at hl 1 rfl) ?_
    refine lv_i2l (v := v1.toInt64) hx hb (dt_at dt_Num_addDigit 21 rfl) rfl ?_
    refine lv_ladd hx hb (dt_at dt_Num_addDigit 22 rfl) ?_
    obtain ⟨t2, e_t2, h⟩ := ol_of h
    refine lv_topl (fun u_t2 q_t2 => ?_)
    obtain rfl : t2 = u_t2 := e_t2.trans q_t2.symm
    refine va_put (D := D) (ci := 3) (v := .long t2) (ty := .long) (C := "OutwardTape$Numeral") (T := T_Num) (N := 5) hx hb hts in_Num ty_Num tk_Num nm_Num hown hK hP hD hS 5 rfl rfl 2 (by decide) (hts (Cond.fieldLink "OutwardTape$Numeral" 17 "OutwardTape$Numeral" "digits" "J") (m_1 47 rfl rfl)) (fun _ h9 => h9) rfl (by decide +kernel) rfl rfl (Nat.le_of_ble_eq_true rfl) (dt_at dt_Num_addDigit 23 rfl) (fun H locs hP hD hS => ?_)
    have hP : va_P D CLS (wT a q L R g0 g1 g2 g3 g4 g5 g6 g7 t2 g9 g10 g11 g12 g13 g14 g15 g16) H := hP
    have hD : va_D A (wT a q L R g0 g1 g2 g3 g4 g5 g6 g7 t2 g9 g10 g11 g12 g13 g14 g15 g16) := hD
    refine lv_aload_n hx hb (dt_at dt_Num_addDigit 24 rfl) rfl (lv_at hl 0 rfl) ?_
    refine lv_dup hx hb (dt_at dt_Num_addDigit 25 rfl) rfl ?_
    refine va_get (D := D) (ci := 3) (v := .int g9) (C := "OutwardTape$Numeral") (T := T_Num) (N := 5) hx hb hts in_Num hown hK hP 5 rfl rfl 3 (by decide) (hts (Cond.fieldLink "OutwardTape$Numeral" 21 "OutwardTape$Numeral" "digitCount" "I") (m_1 48 rfl rfl)) (fun _ h9 => h9) rfl (dt_at dt_Num_addDigit 26 rfl) ?_
    refine lv_iconst (v := 1) hx hb (dt_at dt_Num_addDigit 27 rfl) (by decide) ?_
    refine lv_iadd hx hb (dt_at dt_Num_addDigit 28 rfl) ?_
    obtain ⟨t3, e_t3, h⟩ := ol_of h
    refine lv_topi (fun u_t3 q_t3 => ?_)
    obtain rfl : t3 = u_t3 := e_t3.trans q_t3.symm
    refine va_put (D := D) (ci := 3) (v := .int t3) (ty := .int) (C := "OutwardTape$Numeral") (T := T_Num) (N := 5) hx hb hts in_Num ty_Num tk_Num nm_Num hown hK hP hD hS 5 rfl rfl 3 (by decide) (hts (Cond.fieldLink "OutwardTape$Numeral" 21 "OutwardTape$Numeral" "digitCount" "I") (m_1 48 rfl rfl)) (fun _ h9 => h9) rfl (by decide +kernel) rfl rfl (Nat.le_of_ble_eq_true rfl) (dt_at dt_Num_addDigit 29 rfl) (fun H locs hP hD hS => ?_)
    have hP : va_P D CLS (wT a q L R g0 g1 g2 g3 g4 g5 g6 g7 t2 t3 g10 g11 g12 g13 g14 g15 g16) H := hP
    have hD : va_D A (wT a q L R g0 g1 g2 g3 g4 g5 g6 g7 t2 t3 g10 g11 g12 g13 g14 g15 g16) := hD
    refine lv_iconst (v := 1) hx hb (dt_at dt_Num_addDigit 30 rfl) (by decide) ?_
    obtain rfl := os_of h
    exact W.zret (v := (1 : Int32)) (ty := .boolean) hx hb hr (by decide) (fun t ht hW => ⟨⟨_, (), rfl, rfl, (hPt hP ht)⟩, hS.F ht⟩) hS.2.2 (dt_at dt_Num_addDigit 31 rfl)
  · have h := if_n h c1
    refine lv_iconst (v := 0) hx hb (dt_at dt_Num_addDigit 13 rfl) (by decide) ?_
    obtain rfl := os_of h
    exact W.zret (v := (0 : Int32)) (ty := .boolean) hx hb hr (by decide) (fun t ht hW => ⟨⟨_, (), rfl, rfl, (hPt hP ht)⟩, hS.F ht⟩) hS.2.2 (dt_at dt_Num_addDigit 14 rfl)
set_option maxRecDepth 100000 in
set_option maxHeartbeats 4000000 in
theorem k_Num_addDigit_0 {p : Program} {l : Launch} {e : Env} {s : State} {m : MethodId} {args : Array Value} {below : List Frame} {meth : Method} {c : Code} {D : va_G} {a : Nat → Nat} {q : Nat → ClassId} {L : Nat} {R : Nat} {A : Nat → Prop} (hC : CX p s m args meth c prog_6_method_3_code 2 "OutwardTape$Numeral" (some .boolean)) (hA : ∀ x, s.heap.size ≤ x → A x) (hK : va_K D CLS (tT q) s) {g0 : Int32} {g1 : Int32} {g2 : Nat → Int32} {g3 : Nat → Option Nat} {g4 : Int32} {g5 : Int32} {g6 : Nat → Int32} {g7 : Int32} {g10 : Int32} {g11 : Nat → Int32} {g12 : Int32} {g13 : Int64} {g14 : Int32} {g15 : Int32} {g16 : Nat → Int32} {r0 : Int32 × Int64 × Int32} : ∀ (v1 : Int32) (g8 : Int64) (g9 : Int32) (H : Heap) (locs : List Loc) (ls : Array Slot), va_P D CLS (wT a q L R g0 g1 g2 g3 g4 g5 g6 g7 g8 g9 g10 g11 g12 g13 g14 g15 g16) H → va_D A (wT a q L R g0 g1 g2 g3 g4 g5 g6 g7 g8 g9 g10 g11 g12 g13 g14 g15 g16) → va_S A s.heap H locs → lv_has ls 2 [(0, .ref (a 5)), (1, .int v1)] → f_Num_addDigit_0  v1 g8 g9 = some r0 → W p l e rm_Num_addDigit s m args below meth c H locs 0 0 (MQ below (va_Qi (fun (r : Int32) (_ : Unit) => r = r0.1) (fun _ t => va_P D CLS (wT a q L R g0 g1 g2 g3 g4 g5 g6 g7 r0.2.1 r0.2.2 g10 g11 g12 g13 g14 g15 g16) t.heap) A) args s 0 0 A) (F0 m 0 ls []) := by
  obtain ⟨hx, hb, hml, hown, hts, hr, hlocks⟩ := id hC
  intro v1 g8 g9 H locs ls hP hD hS hl h
  rw [f_Num_addDigit_0] at h
  have hSz : s.heap.size ≤ H.size := hS.1
  refine lv_aload_n hx hb (dt_at dt_Num_addDigit 0 rfl) rfl (lv_at hl 0 rfl) ?_
  refine va_get (D := D) (ci := 3) (v := .long g8) (C := "OutwardTape$Numeral") (T := T_Num) (N := 5) hx hb hts in_Num hown hK hP 5 rfl rfl 2 (by decide) (hts (Cond.fieldLink "OutwardTape$Numeral" 17 "OutwardTape$Numeral" "digits" "J") (m_1 47 rfl rfl)) (fun _ h9 => h9) rfl (dt_at dt_Num_addDigit 1 rfl) ?_
  refine lv_lconst (v := 0) hx hb (dt_at dt_Num_addDigit 2 rfl) (by decide) ?_
  refine lc_ne (tgt := 15) hx hb (dt_at dt_Num_addDigit 3 rfl) (dt_at dt_Num_addDigit 4 rfl) (by decide) (fun c1 => ?_) (fun c1 => ?_)
  · have h := if_n h c1
    exact k_Num_addDigit_15 hC hA hK   v1 g8 g9 H locs ls hP hD hS   (lv_sub hl [0, 1] rfl) h
  · have h := if_p h c1
    refine lv_iload_n hx hb (dt_at dt_Num_addDigit 5 rfl) rfl (lv_at hl 1 rfl) ?_
    refine lv_if_ne (tgt := 15) hx hb (dt_at dt_Num_addDigit 6 rfl) (by decide) (fun c2 => ?_) (fun c2 => ?_)
    · have h := if_n h c2
      exact k_Num_addDigit_15 hC hA hK   v1 g8 g9 H locs ls hP hD hS   (lv_sub hl [0, 1] rfl) h
    · have h := if_p h c2
      refine lv_iconst (v := 1) hx hb (dt_at dt_Num_addDigit 7 rfl) (by decide) ?_
      obtain rfl := os_of h
      exact W.zret (v := (1 : Int32)) (ty := .boolean) hx hb hr (by decide) (fun t ht hW => ⟨⟨_, (), rfl, rfl, (hPt hP ht)⟩, hS.F ht⟩) hS.2.2 (dt_at dt_Num_addDigit 8 rfl)
set_option maxRecDepth 100000 in
set_option maxHeartbeats 4000000 in
theorem c_Num_addDigit (l : Launch) (D : va_G) (a : Nat → Nat) (q : Nat → ClassId) (L : Nat) (R : Nat) (hd : va_D (fun _ => True) (dT a)) (sz : Nat) (a1 : Int32) (g0 : Int32) (g1 : Int32) (g2 : Nat → Int32) (g3 : Nat → Option Nat) (g4 : Int32) (g5 : Int32) (g6 : Nat → Int32) (g7 : Int32) (g8 : Int64) (g9 : Int32) (g10 : Int32) (g11 : Nat → Int32) (g12 : Int32) (g13 : Int64) (g14 : Int32) (g15 : Int32) (g16 : Nat → Int32)   (r0 : Int32 × Int64 × Int32) (h : f_Num_addDigit a1 g8 g9 = some r0) : Met l (⟨"OutwardTape$Numeral", "addDigit", "(I)Z"⟩ : MethodName) (WSm (⟨"OutwardTape$Numeral", "addDigit", "(I)Z"⟩ : MethodName) prog_6_method_3_code 2 (some .boolean)) rm_Num_addDigit (va_Pc [.ref (a 5), .int a1] (fun U => U.heap.size = sz ∧ va_P D CLS (wT a q L R g0 g1 g2 g3 g4 g5 g6 g7 g8 g9 g10 g11 g12 g13 g14 g15 g16) U.heap ∧ va_K D CLS (tT q) U)) (va_Qi (fun (r : Int32) (_ : Unit) => r = r0.1) (fun _ t => va_P D CLS (wT a q L R g0 g1 g2 g3 g4 g5 g6 g7 r0.2.1 r0.2.2 g10 g11 g12 g13 g14 g15 g16) t.heap) (va_A (dT a) sz)) 0 0 (va_A (dT a) sz) := by
  refine Met.ofW (cc := prog_6_method_3_code) (maxL := 2) (ret := (some .boolean)) (by decide) rfl ?_
  intro p e s m args below meth c s₁ B hml hv
  obtain ⟨rfl, hsz, hP, hK⟩ := hv
  subst hsz
  have hC := CX.of B hml rfl
  have hl := lv_entry [.ref (a 5), .int a1] (n := 2) (Nat.le_of_ble_eq_true rfl)
  rw [lg_entry_eq]
  generalize (lg_sl [.ref (a 5), .int a1] ++ List.replicate (2 - (lg_sl [.ref (a 5), .int a1]).length) Slot.unset).toArray = ls at hl ⊢
  have hl : lv_has ls 2 [(0, .ref (a 5)), (1, .int a1)] := hl
  exact k_Num_addDigit_0  hC (fun x h => Or.inr h) hK a1 g8 g9   s.heap [] ls hP (dD hd.self rfl) va_S.rf   (lv_sub hl [0, 1] rfl) h
abbrev rm_Num_setScale : Room := { frames := 0, cells := 0, slots := 0, locals := 0 }
set_option maxRecDepth 100000 in
set_option maxHeartbeats 4000000 in
theorem k_Num_setScale_22 {p : Program} {l : Launch} {e : Env} {s : State} {m : MethodId} {args : Array Value} {below : List Frame} {meth : Method} {c : Code} {D : va_G} {a : Nat → Nat} {q : Nat → ClassId} {L : Nat} {R : Nat} {A : Nat → Prop} (hC : CX p s m args meth c prog_6_method_4_code 2 "OutwardTape$Numeral" (some .boolean)) (hA : ∀ x, s.heap.size ≤ x → A x) (hK : va_K D CLS (tT q) s) {g0 : Int32} {g1 : Int32} {g2 : Nat → Int32} {g3 : Nat → Option Nat} {g4 : Int32} {g5 : Int32} {g6 : Nat → Int32} {g7 : Int32} {g8 : Int64} {g9 : Int32} {g11 : Nat → Int32} {g12 : Int32} {g13 : Int64} {g14 : Int32} {g15 : Int32} {g16 : Nat → Int32} {r0 : Int32 × Int32} : ∀ (s0 : Int32) (g10 : Int32) (H : Heap) (locs : List Loc) (ls : Array Slot), va_P D CLS (wT a q L R g0 g1 g2 g3 g4 g5 g6 g7 g8 g9 g10 g11 g12 g13 g14 g15 g16) H → va_D A (wT a q L R g0 g1 g2 g3 g4 g5 g6 g7 g8 g9 g10 g11 g12 g13 g14 g15 g16) → va_S A s.heap H locs → lv_has ls 2 [] → f_Num_setScale_22  s0 g10 = some r0 → W p l e rm_Num_setScale s m args below meth c H locs 0 0 (MQ below (va_Qi (fun (r : Int32) (_ : Unit) => r = r0.1) (fun _ t => va_P D CLS (wT a q L R g0 g1 g2 g3 g4 g5 g6 g7 g8 g9 r0.2 g11 g12 g13 g14 g15 g16) t.heap) A) args s 0 0 A) (F0 m 22 ls [.int s0]) := by
  obtain ⟨hx, hb, hml, hown, hts, hr, hlocks⟩ := id hC
  intro s0 g10 H locs ls hP hD hS hl h
  rw [f_Num_setScale_22] at h
  have hSz : s.heap.size ≤ H.size := hS.1
  obtain ⟨hz, h⟩ := og_of h
  obtain rfl := os_of h
  exact W.zret (v := s0) (ty := .boolean) hx hb hr (j_z_nar hz) (fun t ht hW => ⟨⟨_, (), rfl, rfl, (hPt hP ht)⟩, hS.F ht⟩) hS.2.2 (dt_at dt_Num_setScale 12 rfl)
set_option maxRecDepth 100000 in
set_option maxHeartbeats 4000000 in
theorem k_Num_setScale_21 {p : Program} {l : Launch} {e : Env} {s : State} {m : MethodId} {args : Array Value} {below : List Frame} {meth : Method} {c : Code} {D : va_G} {a : Nat → Nat} {q : Nat → ClassId} {L : Nat} {R : Nat} {A : Nat → Prop} (hC : CX p s m args meth c prog_6_method_4_code 2 "OutwardTape$Numeral" (some .boolean)) (hA : ∀ x, s.heap.size ≤ x → A x) (hK : va_K D CLS (tT q) s) {g0 : Int32} {g1 : Int32} {g2 : Nat → Int32} {g3 : Nat → Option Nat} {g4 : Int32} {g5 : Int32} {g6 : Nat → Int32} {g7 : Int32} {g8 : Int64} {g9 : Int32} {g11 : Nat → Int32} {g12 : Int32} {g13 : Int64} {g14 : Int32} {g15 : Int32} {g16 : Nat → Int32} {r0 : Int32 × Int32} : ∀  (g10 : Int32) (H : Heap) (locs : List Loc) (ls : Array Slot), va_P D CLS (wT a q L R g0 g1 g2 g3 g4 g5 g6 g7 g8 g9 g10 g11 g12 g13 g14 g15 g16) H → va_D A (wT a q L R g0 g1 g2 g3 g4 g5 g6 g7 g8 g9 g10 g11 g12 g13 g14 g15 g16) → va_S A s.heap H locs → lv_has ls 2 [] → f_Num_setScale_21  g10 = some r0 → W p l e rm_Num_setScale s m args below meth c H locs 0 0 (MQ below (va_Qi (fun (r : Int32) (_ : Unit) => r = r0.1) (fun _ t => va_P D CLS (wT a q L R g0 g1 g2 g3 g4 g5 g6 g7 g8 g9 r0.2 g11 g12 g13 g14 g15 g16) t.heap) A) args s 0 0 A) (F0 m 21 ls []) := by
  obtain ⟨hx, hb, hml, hown, hts, hr, hlocks⟩ := id hC
  intro g10 H locs ls hP hD hS hl h
  rw [f_Num_setScale_21] at h
  have hSz : s.heap.size ≤ H.size := hS.1
  refine lv_iconst (v := 0) hx hb (dt_at dt_Num_setScale 11 rfl) (by decide) ?_
  exact k_Num_setScale_22 hC hA hK   (0 : Int32) g10 H locs ls hP hD hS   (lv_sub hl [] rfl) h
set_option maxRecDepth 100000 in
set_option maxHeartbeats 4000000 in
theorem k_Num_setScale_0 {p : Program} {l : Launch} {e : Env} {s : State} {m : MethodId} {args : Array Value} {below : List Frame} {meth : Method} {c : Code} {D : va_G} {a : Nat → Nat} {q : Nat → ClassId} {L : Nat} {R : Nat} {A : Nat → Prop} (hC : CX p s m args meth c prog_6_method_4_code 2 "OutwardTape$Numeral" (some .boolean)) (hA : ∀ x, s.heap.size ≤ x → A x) (hK : va_K D CLS (tT q) s) {g0 : Int32} {g1 : Int32} {g2 : Nat → Int32} {g3 : Nat → Option Nat} {g4 : Int32} {g5 : Int32} {g6 : Nat → Int32} {g7 : Int32} {g8 : Int64} {g9 : Int32} {g11 : Nat → Int32} {g12 : Int32} {g13 : Int64} {g14 : Int32} {g15 : Int32} {g16 : Nat → Int32} {r0 : Int32 × Int32} : ∀ (v1 : Int32) (g10 : Int32) (H : Heap) (locs : List Loc) (ls : Array Slot), va_P D CLS (wT a q L R g0 g1 g2 g3 g4 g5 g6 g7 g8 g9 g10 g11 g12 g13 g14 g15 g16) H → va_D A (wT a q L R g0 g1 g2 g3 g4 g5 g6 g7 g8 g9 g10 g11 g12 g13 g14 g15 g16) → va_S A s.heap H locs → lv_has ls 2 [(0, .ref (a 5)), (1, .int v1)] → f_Num_setScale_0  v1 g10 = some r0 → W p l e rm_Num_setScale s m args below meth c H locs 0 0 (MQ below (va_Qi (fun (r : Int32) (_ : Unit) => r = r0.1) (fun _ t => va_P D CLS (wT a q L R g0 g1 g2 g3 g4 g5 g6 g7 g8 g9 r0.2 g11 g12 g13 g14 g15 g16) t.heap) A) args s 0 0 A) (F0 m 0 ls []) := by
  obtain ⟨hx, hb, hml, hown, hts, hr, hlocks⟩ := id hC
  intro v1 g10 H locs ls hP hD hS hl h
  rw [f_Num_setScale_0] at h
  have hSz : s.heap.size ≤ H.size := hS.1
  refine lv_aload_n hx hb (dt_at dt_Num_setScale 0 rfl) rfl (lv_at hl 0 rfl) ?_
  refine lv_iload_n hx hb (dt_at dt_Num_setScale 1 rfl) rfl (lv_at hl 1 rfl) ?_
  refine va_put (D := D) (ci := 3) (v := .int v1) (ty := .int) (C := "OutwardTape$Numeral") (T := T_Num) (N := 5) hx hb hts in_Num ty_Num tk_Num nm_Num hown hK hP hD hS 5 rfl rfl 4 (by decide) (hts (Cond.fieldLink "OutwardTape$Numeral" 25 "OutwardTape$Numeral" "scale" "I") (m_1 49 rfl rfl)) (fun _ h9 => h9) rfl (by decide +kernel) rfl rfl (Nat.le_of_ble_eq_true rfl) (dt_at dt_Num_setScale 2 rfl) (fun H locs hP hD hS => ?_)
  have hP : va_P D CLS (wT a q L R g0 g1 g2 g3 g4 g5 g6 g7 g8 g9 v1 g11 g12 g13 g14 g15 g16) H := hP
  have hD : va_D A (wT a q L R g0 g1 g2 g3 g4 g5 g6 g7 g8 g9 v1 g11 g12 g13 g14 g15 g16) := hD
  refine lv_iload_n hx hb (dt_at dt_Num_setScale 3 rfl) rfl (lv_at hl 1 rfl) ?_
  refine lv_bipush (v := -40) hx hb (dt_at dt_Num_setScale 4 rfl) (by decide) ?_
  refine lv_icmp_lt (tgt := 21) hx hb (dt_at dt_Num_setScale 5 rfl) (by decide) (fun c1 => ?_) (fun c1 => ?_)
  · have h := if_p h c1
    exact k_Num_setScale_21 hC hA hK   v1 H locs ls hP hD hS   (lv_sub hl [] rfl) h
  · have h := if_n h c1
    refine lv_iload_n hx hb (dt_at dt_Num_setScale 6 rfl) rfl (lv_at hl 1 rfl) ?_
    refine lv_bipush (v := 40) hx hb (dt_at dt_Num_setScale 7 rfl) (by decide) ?_
    refine lv_icmp_gt (tgt := 21) hx hb (dt_at dt_Num_setScale 8 rfl) (by decide) (fun c2 => ?_) (fun c2 => ?_)
    · have h := if_p h c2
      exact k_Num_setScale_21 hC hA hK   v1 H locs ls hP hD hS   (lv_sub hl [] rfl) h
    · have h := if_n h c2
      refine lv_iconst (v := 1) hx hb (dt_at dt_Num_setScale 9 rfl) (by decide) ?_
      refine lv_goto (tgt := 22) hx hb (dt_at dt_Num_setScale 10 rfl) (by decide) ?_
      exact k_Num_setScale_22 hC hA hK   (1 : Int32) v1 H locs ls hP hD hS   (lv_sub hl [] rfl) h
set_option maxRecDepth 100000 in
set_option maxHeartbeats 4000000 in
theorem c_Num_setScale (l : Launch) (D : va_G) (a : Nat → Nat) (q : Nat → ClassId) (L : Nat) (R : Nat) (hd : va_D (fun _ => True) (dT a)) (sz : Nat) (a1 : Int32) (g0 : Int32) (g1 : Int32) (g2 : Nat → Int32) (g3 : Nat → Option Nat) (g4 : Int32) (g5 : Int32) (g6 : Nat → Int32) (g7 : Int32) (g8 : Int64) (g9 : Int32) (g10 : Int32) (g11 : Nat → Int32) (g12 : Int32) (g13 : Int64) (g14 : Int32) (g15 : Int32) (g16 : Nat → Int32)   (r0 : Int32 × Int32) (h : f_Num_setScale a1 g10 = some r0) : Met l (⟨"OutwardTape$Numeral", "setScale", "(I)Z"⟩ : MethodName) (WSm (⟨"OutwardTape$Numeral", "setScale", "(I)Z"⟩ : MethodName) prog_6_method_4_code 2 (some .boolean)) rm_Num_setScale (va_Pc [.ref (a 5), .int a1] (fun U => U.heap.size = sz ∧ va_P D CLS (wT a q L R g0 g1 g2 g3 g4 g5 g6 g7 g8 g9 g10 g11 g12 g13 g14 g15 g16) U.heap ∧ va_K D CLS (tT q) U)) (va_Qi (fun (r : Int32) (_ : Unit) => r = r0.1) (fun _ t => va_P D CLS (wT a q L R g0 g1 g2 g3 g4 g5 g6 g7 g8 g9 r0.2 g11 g12 g13 g14 g15 g16) t.heap) (va_A (dT a) sz)) 0 0 (va_A (dT a) sz) := by
  refine Met.ofW (cc := prog_6_method_4_code) (maxL := 2) (ret := (some .boolean)) (by decide) rfl ?_
  intro p e s m args below meth c s₁ B hml hv
  obtain ⟨rfl, hsz, hP, hK⟩ := hv
  subst hsz
  have hC := CX.of B hml rfl
  have hl := lv_entry [.ref (a 5), .int a1] (n := 2) (Nat.le_of_ble_eq_true rfl)
  rw [lg_entry_eq]
  generalize (lg_sl [.ref (a 5), .int a1] ++ List.replicate (2 - (lg_sl [.ref (a 5), .int a1]).length) Slot.unset).toArray = ls at hl ⊢
  have hl : lv_has ls 2 [(0, .ref (a 5)), (1, .int a1)] := hl
  exact k_Num_setScale_0  hC (fun x h => Or.inr h) hK a1 g10   s.heap [] ls hP (dD hd.self rfl) va_S.rf   (lv_sub hl [0, 1] rfl) h
abbrev rm_Num_isLargerThan : Room := { frames := 0, cells := 0, slots := 0, locals := 0 }
set_option maxRecDepth 100000 in
set_option maxHeartbeats 4000000 in
theorem k_Num_isLargerThan_131 {p : Program} {l : Launch} {e : Env} {s : State} {m : MethodId} {args : Array Value} {below : List Frame} {meth : Method} {c : Code} {D : va_G} {a : Nat → Nat} {q : Nat → ClassId} {L : Nat} {R : Nat} {A : Nat → Prop} (hC : CX p s m args meth c prog_6_method_7_code 8 "OutwardTape$Numeral" (some .boolean)) (hA : ∀ x, s.heap.size ≤ x → A x) (hK : va_K D CLS (tT q) s) {g0 : Int32} {g1 : Int32} {g2 : Nat → Int32} {g3 : Nat → Option Nat} {g4 : Int32} {g5 : Int32} {g6 : Nat → Int32} {g7 : Int32} {g8 : Int64} {g9 : Int32} {g10 : Int32} {g11 : Nat → Int32} {g12 : Int32} {g13 : Int64} {g14 : Int32} {g15 : Int32} {g16 : Nat → Int32} {r0 : Int32} : ∀ (s0 : Int32)  (H : Heap) (locs : List Loc) (ls : Array Slot), va_P D CLS (wT a q L R g0 g1 g2 g3 g4 g5 g6 g7 g8 g9 g10 g11 g12 g13 g14 g15 g16) H → va_D A (wT a q L R g0 g1 g2 g3 g4 g5 g6 g7 g8 g9 g10 g11 g12 g13 g14 g15 g16) → va_S A s.heap H locs → lv_has ls 8 [] → f_Num_isLargerThan_131  s0 g8 g10 g13 g15 = some r0 → W p l e rm_Num_isLargerThan s m args below meth c H locs 0 0 (MQ below (va_Qi (fun (r : Int32) (_ : Unit) => r = r0) (fun _ t => va_P D CLS (wT a q L R g0 g1 g2 g3 g4 g5 g6 g7 g8 g9 g10 g11 g12 g13 g14 g15 g16) t.heap) A) args s 0 0 A) (F0 m 131 ls [.int s0]) := by
  obtain ⟨hx, hb, hml, hown, hts, hr, hlocks⟩ := id hC
  intro s0 H locs ls hP hD hS hl h
  rw [f_Num_isLargerThan_131] at h
  have hSz : s.heap.size ≤ H.size := hS.1
  obtain ⟨hz, h⟩ := og_of h
  obtain rfl := os_of h
  exact W.zret (v := s0) (ty := .boolean) hx hb hr (j_z_nar hz) (fun t ht hW => ⟨⟨_, (), rfl, rfl, (hPt hP ht)⟩, hS.F ht⟩) hS.2.2 (dt_at dt_Num_isLargerThan 63 rfl)
set_option maxRecDepth 100000 in
set_option maxHeartbeats 4000000 in
theorem k_Num_isLargerThan_101 {p : Program} {l : Launch} {e : Env} {s : State} {m : MethodId} {args : Array Value} {below : List Frame} {meth : Method} {c : Code} {D : va_G} {a : Nat → Nat} {q : Nat → ClassId} {L : Nat} {R : Nat} {A : Nat → Prop} (hC : CX p s m args meth c prog_6_method_7_code 8 "OutwardTape$Numeral" (some .boolean)) (hA : ∀ x, s.heap.size ≤ x → A x) (hK : va_K D CLS (tT q) s) {g0 : Int32} {g1 : Int32} {g2 : Nat → Int32} {g3 : Nat → Option Nat} {g4 : Int32} {g5 : Int32} {g6 : Nat → Int32} {g7 : Int32} {g8 : Int64} {g9 : Int32} {g10 : Int32} {g11 : Nat → Int32} {g12 : Int32} {g13 : Int64} {g14 : Int32} {g15 : Int32} {g16 : Nat → Int32} {r0 : Int32} : ∀ (v2 : Int64) (v4 : Int64) (v6 : Int32)  (H : Heap) (locs : List Loc) (ls : Array Slot), va_P D CLS (wT a q L R g0 g1 g2 g3 g4 g5 g6 g7 g8 g9 g10 g11 g12 g13 g14 g15 g16) H → va_D A (wT a q L R g0 g1 g2 g3 g4 g5 g6 g7 g8 g9 g10 g11 g12 g13 g14 g15 g16) → va_S A s.heap H locs → lv_has ls 8 [(2, .long v2), (4, .long v4), (6, .int v6)] → f_Num_isLargerThan_101  v2 v4 v6 g8 g10 g13 g15 = some r0 → W p l e rm_Num_isLargerThan s m args below meth c H locs 0 0 (MQ below (va_Qi (fun (r : Int32) (_ : Unit) => r = r0) (fun _ t => va_P D CLS (wT a q L R g0 g1 g2 g3 g4 g5 g6 g7 g8 g9 g10 g11 g12 g13 g14 g15 g16) t.heap) A) args s 0 0 A) (F0 m 101 ls []) := by
  obtain ⟨hx, hb, hml, hown, hts, hr, hlocks⟩ := id hC
  intro v2 v4 v6 H locs ls hP hD hS hl h
  rw [f_Num_isLargerThan_101] at h
  have hSz : s.heap.size ≤ H.size := hS.1
  refine lv_iload hx hb (dt_at dt_Num_isLargerThan 48 rfl) (lv_at hl 2 rfl) ?_
  refine lv_if_ne (tgt := 121) hx hb (dt_at dt_Num_isLargerThan 49 rfl) (by decide) (fun c1 => ?_) (fun c1 => ?_)
  · have h := if_n h c1
    refine lv_iload hx hb (dt_at dt_Num_isLargerThan 58 rfl) (lv_at hl 2 rfl) ?_
    refine lv_if_le (tgt := 130) hx hb (dt_at dt_Num_isLargerThan 59 rfl) (by decide) (fun c2 => ?_) (fun c2 => ?_)
    · have h := if_p h c2
      refine lv_iconst (v := 0) hx hb (dt_at dt_Num_isLargerThan 62 rfl) (by decide) ?_
      exact k_Num_isLargerThan_131 hC hA hK   (0 : Int32) H locs ls hP hD hS   (lv_sub hl [] rfl) h
    · have h := if_n h c2
      refine lv_iconst (v := 1) hx hb (dt_at dt_Num_isLargerThan 60 rfl) (by decide) ?_
      refine lv_goto (tgt := 131) hx hb (dt_at dt_Num_isLargerThan 61 rfl) (by decide) ?_
      exact k_Num_isLargerThan_131 hC hA hK   (1 : Int32) H locs ls hP hD hS   (lv_sub hl [] rfl) h
  · have h := if_p h c1
    refine lv_lload_n hx hb (dt_at dt_Num_isLargerThan 50 rfl) rfl (lv_at hl 0 rfl) ?_
    refine lv_lload hx hb (dt_at dt_Num_isLargerThan 51 rfl) (lv_at hl 1 rfl) ?_
    refine lc_le (tgt := 117) hx hb (dt_at dt_Num_isLargerThan 52 rfl) (dt_at dt_Num_isLargerThan 53 rfl) (by decide) (fun c3 => ?_) (fun c3 => ?_)
    · have h := if_p h c3
      refine lv_iconst (v := 0) hx hb (dt_at dt_Num_isLargerThan 56 rfl) (by decide) ?_
      refine lv_goto (tgt := 131) hx hb (dt_at dt_Num_isLargerThan 57 rfl) (by decide) ?_
      exact k_Num_isLargerThan_131 hC hA hK   (0 : Int32) H locs ls hP hD hS   (lv_sub hl [] rfl) h
    · have h := if_n h c3
      refine lv_iconst (v := 1) hx hb (dt_at dt_Num_isLargerThan 54 rfl) (by decide) ?_
      refine lv_goto (tgt := 131) hx hb (dt_at dt_Num_isLargerThan 55 rfl) (by decide) ?_
      exact k_Num_isLargerThan_131 hC hA hK   (1 : Int32) H locs ls hP hD hS   (lv_sub hl [] rfl) h
set_option maxRecDepth 100000 in
set_option maxHeartbeats 4000000 in
theorem k_Num_isLargerThan_63 {p : Program} {l : Launch} {e : Env} {s : State} {m : MethodId} {args : Array Value} {below : List Frame} {meth : Method} {c : Code} {D : va_G} {a : Nat → Nat} {q : Nat → ClassId} {L : Nat} {R : Nat} {A : Nat → Prop} (hC : CX p s m args meth c prog_6_method_7_code 8 "OutwardTape$Numeral" (some .boolean)) (hA : ∀ x, s.heap.size ≤ x → A x) (hK : va_K D CLS (tT q) s) {g0 : Int32} {g1 : Int32} {g2 : Nat → Int32} {g3 : Nat → Option Nat} {g4 : Int32} {g5 : Int32} {g6 : Nat → Int32} {g7 : Int32} {g8 : Int64} {g9 : Int32} {g10 : Int32} {g11 : Nat → Int32} {g12 : Int32} {g13 : Int64} {g14 : Int32} {g15 : Int32} {g16 : Nat → Int32} {r0 : Int32} : ∀ n : Nat, ∀ (v2 : Int64) (v4 : Int64) (v6 : Int32) (v7 : Int32)  (H : Heap) (locs : List Loc) (ls : Array Slot), va_P D CLS (wT a q L R g0 g1 g2 g3 g4 g5 g6 g7 g8 g9 g10 g11 g12 g13 g14 g15 g16) H → va_D A (wT a q L R g0 g1 g2 g3 g4 g5 g6 g7 g8 g9 g10 g11 g12 g13 g14 g15 g16) → va_S A s.heap H locs → lv_has ls 8 [(2, .long v2), (4, .long v4), (6, .int v6), (7, .int v7)] → f_Num_isLargerThan_63  n v2 v4 v6 v7 g8 g10 g13 g15 = some r0 → W p l e rm_Num_isLargerThan s m args below meth c H locs 0 0 (MQ below (va_Qi (fun (r : Int32) (_ : Unit) => r = r0) (fun _ t => va_P D CLS (wT a q L R g0 g1 g2 g3 g4 g5 g6 g7 g8 g9 g10 g11 g12 g13 g14 g15 g16) t.heap) A) args s 0 0 A) (F0 m 63 ls []) := by
  obtain ⟨hx, hb, hml, hown, hts, hr, hlocks⟩ := id hC
  intro n
  induction n with
  | zero => intro v2 v4 v6 v7 H locs ls hP hD hS hl h; cases h
  | succ n ih =>
    intro v2 v4 v6 v7 H locs ls hP hD hS hl h
    rw [f_Num_isLargerThan_63] at h
    have hSz : s.heap.size ≤ H.size := hS.1
    refine lv_iload hx hb (dt_at dt_Num_isLargerThan 32 rfl) (lv_at hl 3 rfl) ?_
    refine lv_bipush (v := 18) hx hb (dt_at dt_Num_isLargerThan 33 rfl) (by decide) ?_
    refine lv_icmp_ge (tgt := 101) hx hb (dt_at dt_Num_isLargerThan 34 rfl) (by decide) (fun c1 => ?_) (fun c1 => ?_)
    · have h := if_p h c1
      exact k_Num_isLargerThan_101 hC hA hK   v2 v4 v6 H locs ls hP hD hS   (lv_sub hl [0, 1, 2] rfl) h
    · have h := if_n h c1
      refine lv_iload hx hb (dt_at dt_Num_isLargerThan 35 rfl) (lv_at hl 2 rfl) ?_
      refine lv_if_ge (tgt := 101) hx hb (dt_at dt_Num_isLargerThan 36 rfl) (by decide) (fun c2 => ?_) (fun c2 => ?_)
      · have h := if_p h c2
        exact k_Num_isLargerThan_101 hC hA hK   v2 v4 v6 H locs ls hP hD hS   (lv_sub hl [0, 1, 2] rfl) h
      · have h := if_n h c2
        refine lv_lload hx hb (dt_at dt_Num_isLargerThan 37 rfl) (lv_at hl 1 rfl) ?_
        refine lv_ldc2 (v := 100000000000000000) hx hb hown (hts (Cond.constantLong "OutwardTape$Numeral" 38 (100000000000000000)) (m_3 51 rfl rfl)) (dt_at dt_Num_isLargerThan 38 rfl) ?_
        refine lc_ge (tgt := 101) hx hb (dt_at dt_Num_isLargerThan 39 rfl) (dt_at dt_Num_isLargerThan 40 rfl) (by decide) (fun c3 => ?_) (fun c3 => ?_)
        · have h := if_p h c3
          exact k_Num_isLargerThan_101 hC hA hK   v2 v4 v6 H locs ls hP hD hS   (lv_sub hl [0, 1, 2] rfl) h
        · have h := if_n h c3
          refine lv_lload hx hb (dt_at dt_Num_isLargerThan 41 rfl) (lv_at hl 1 rfl) ?_
          refine lv_ldc2 (v := 10) hx hb hown (hts (Cond.constantLong "OutwardTape$Numeral" 28 (10)) (m_3 11 rfl rfl)) (dt_at dt_Num_isLargerThan 42 rfl) ?_
          refine lv_lmul hx hb (dt_at dt_Num_isLargerThan 43 rfl) ?_
          obtain ⟨t4, e_t4, h⟩ := ol_of h
          refine lv_topl (fun u_t4 q_t4 => ?_)
          obtain rfl : t4 = u_t4 := e_t4.trans q_t4.symm
          refine lv_lstore (lv' := [(4, .long t4), (2, .long v2), (6, .int v6), (7, .int v7)]) hx hb (dt_at dt_Num_isLargerThan 44 rfl) hl (by decide) rfl (fun ls hl => ?_)
          obtain ⟨t5, e_t5, h⟩ := ol_of h
          refine lv_iinc (v := t5) (lv' := [(6, .int t5), (4, .long t4), (2, .long v2), (7, .int v7)]) hx hb (dt_at dt_Num_isLargerThan 45 rfl) hl (k := 2) rfl (by rw [e_t5]; rfl) (by decide) rfl (fun ls hl => ?_)
          obtain ⟨t6, e_t6, h⟩ := ol_of h
          refine lv_iinc (v := t6) (lv' := [(7, .int t6), (6, .int t5), (4, .long t4), (2, .long v2)]) hx hb (dt_at dt_Num_isLargerThan 46 rfl) hl (k := 3) rfl (by rw [e_t6]; rfl) (by decide) rfl (fun ls hl => ?_)
          refine lv_goto (tgt := 63) hx hb (dt_at dt_Num_isLargerThan 47 rfl) (by decide) ?_
          exact ih v2 t4 t5 t6 H locs ls hP hD hS   (lv_sub hl [3, 2, 1, 0] rfl) h
set_option maxRecDepth 100000 in
set_option maxHeartbeats 4000000 in
theorem k_Num_isLargerThan_60 {p : Program} {l : Launch} {e : Env} {s : State} {m : MethodId} {args : Array Value} {below : List Frame} {meth : Method} {c : Code} {D : va_G} {a : Nat → Nat} {q : Nat → ClassId} {L : Nat} {R : Nat} {A : Nat → Prop} (hC : CX p s m args meth c prog_6_method_7_code 8 "OutwardTape$Numeral" (some .boolean)) (hA : ∀ x, s.heap.size ≤ x → A x) (hK : va_K D CLS (tT q) s) {g0 : Int32} {g1 : Int32} {g2 : Nat → Int32} {g3 : Nat → Option Nat} {g4 : Int32} {g5 : Int32} {g6 : Nat → Int32} {g7 : Int32} {g8 : Int64} {g9 : Int32} {g10 : Int32} {g11 : Nat → Int32} {g12 : Int32} {g13 : Int64} {g14 : Int32} {g15 : Int32} {g16 : Nat → Int32} {r0 : Int32} : ∀ (v2 : Int64) (v4 : Int64) (v6 : Int32)  (H : Heap) (locs : List Loc) (ls : Array Slot), va_P D CLS (wT a q L R g0 g1 g2 g3 g4 g5 g6 g7 g8 g9 g10 g11 g12 g13 g14 g15 g16) H → va_D A (wT a q L R g0 g1 g2 g3 g4 g5 g6 g7 g8 g9 g10 g11 g12 g13 g14 g15 g16) → va_S A s.heap H locs → lv_has ls 8 [(2, .long v2), (4, .long v4), (6, .int v6)] → f_Num_isLargerThan_60  v2 v4 v6 g8 g10 g13 g15 = some r0 → W p l e rm_Num_isLargerThan s m args below meth c H locs 0 0 (MQ below (va_Qi (fun (r : Int32) (_ : Unit) => r = r0) (fun _ t => va_P D CLS (wT a q L R g0 g1 g2 g3 g4 g5 g6 g7 g8 g9 g10 g11 g12 g13 g14 g15 g16) t.heap) A) args s 0 0 A) (F0 m 60 ls []) := by
  obtain ⟨hx, hb, hml, hown, hts, hr, hlocks⟩ := id hC
  intro v2 v4 v6 H locs ls hP hD hS hl h
  rw [f_Num_isLargerThan_60] at h
  have hSz : s.heap.size ≤ H.size := hS.1
  refine lv_iconst (v := 0) hx hb (dt_at dt_Num_isLargerThan 30 rfl) (by decide) ?_
  refine lv_istore (lv' := [(7, .int (0 : Int32)), (2, .long v2), (4, .long v4), (6, .int v6)]) hx hb (dt_at dt_Num_isLargerThan 31 rfl) hl (by decide) rfl (fun ls hl => ?_)
  exact k_Num_isLargerThan_63 hC hA hK  5000 v2 v4 v6 (0 : Int32) H locs ls hP hD hS   (lv_sub hl [1, 2, 3, 0] rfl) h
set_option maxRecDepth 100000 in
set_option maxHeartbeats 4000000 in
theorem k_Num_isLargerThan_25 {p : Program} {l : Launch} {e : Env} {s : State} {m : MethodId} {args : Array Value} {below : List Frame} {meth : Method} {c : Code} {D : va_G} {a : Nat → Nat} {q : Nat → ClassId} {L : Nat} {R : Nat} {A : Nat → Prop} (hC : CX p s m args meth c prog_6_method_7_code 8 "OutwardTape$Numeral" (some .boolean)) (hA : ∀ x, s.heap.size ≤ x → A x) (hK : va_K D CLS (tT q) s) {g0 : Int32} {g1 : Int32} {g2 : Nat → Int32} {g3 : Nat → Option Nat} {g4 : Int32} {g5 : Int32} {g6 : Nat → Int32} {g7 : Int32} {g8 : Int64} {g9 : Int32} {g10 : Int32} {g11 : Nat → Int32} {g12 : Int32} {g13 : Int64} {g14 : Int32} {g15 : Int32} {g16 : Nat → Int32} {r0 : Int32} : ∀ n : Nat, ∀ (v2 : Int64) (v4 : Int64) (v6 : Int32) (v7 : Int32)  (H : Heap) (locs : List Loc) (ls : Array Slot), va_P D CLS (wT a q L R g0 g1 g2 g3 g4 g5 g6 g7 g8 g9 g10 g11 g12 g13 g14 g15 g16) H → va_D A (wT a q L R g0 g1 g2 g3 g4 g5 g6 g7 g8 g9 g10 g11 g12 g13 g14 g15 g16) → va_S A s.heap H locs → lv_has ls 8 [(2, .long v2), (4, .long v4), (6, .int v6), (7, .int v7)] → f_Num_isLargerThan_25  n v2 v4 v6 v7 g8 g10 g13 g15 = some r0 → W p l e rm_Num_isLargerThan s m args below meth c H locs 0 0 (MQ below (va_Qi (fun (r : Int32) (_ : Unit) => r = r0) (fun _ t => va_P D CLS (wT a q L R g0 g1 g2 g3 g4 g5 g6 g7 g8 g9 g10 g11 g12 g13 g14 g15 g16) t.heap) A) args s 0 0 A) (F0 m 25 ls []) := by
  obtain ⟨hx, hb, hml, hown, hts, hr, hlocks⟩ := id hC
  intro n
  induction n with
  | zero => intro v2 v4 v6 v7 H locs ls hP hD hS hl h; cases h
  | succ n ih =>
    intro v2 v4 v6 v7 H locs ls hP hD hS hl h
    rw [f_Num_isLargerThan_25] at h
    have hSz : s.heap.size ≤ H.size := hS.1
    refine lv_iload hx hb (dt_at dt_Num_isLargerThan 14 rfl) (lv_at hl 3 rfl) ?_
    refine lv_bipush (v := 18) hx hb (dt_at dt_Num_isLargerThan 15 rfl) (by decide) ?_
    refine lv_icmp_ge (tgt := 60) hx hb (dt_at dt_Num_isLargerThan 16 rfl) (by decide) (fun c1 => ?_) (fun c1 => ?_)
    · have h := if_p h c1
      exact k_Num_isLargerThan_60 hC hA hK   v2 v4 v6 H locs ls hP hD hS   (lv_sub hl [0, 1, 2] rfl) h
    · have h := if_n h c1
      refine lv_iload hx hb (dt_at dt_Num_isLargerThan 17 rfl) (lv_at hl 2 rfl) ?_
      refine lv_if_le (tgt := 60) hx hb (dt_at dt_Num_isLargerThan 18 rfl) (by decide) (fun c2 => ?_) (fun c2 => ?_)
      · have h := if_p h c2
        exact k_Num_isLargerThan_60 hC hA hK   v2 v4 v6 H locs ls hP hD hS   (lv_sub hl [0, 1, 2] rfl) h
      · have h := if_n h c2
        refine lv_lload_n hx hb (dt_at dt_Num_isLargerThan 19 rfl) rfl (lv_at hl 0 rfl) ?_
        refine lv_ldc2 (v := 100000000000000000) hx hb hown (hts (Cond.constantLong "OutwardTape$Numeral" 38 (100000000000000000)) (m_3 51 rfl rfl)) (dt_at dt_Num_isLargerThan 20 rfl) ?_
        refine lc_ge (tgt := 60) hx hb (dt_at dt_Num_isLargerThan 21 rfl) (dt_at dt_Num_isLargerThan 22 rfl) (by decide) (fun c3 => ?_) (fun c3 => ?_)
        · have h := if_p h c3
          exact k_Num_isLargerThan_60 hC hA hK   v2 v4 v6 H locs ls hP hD hS   (lv_sub hl [0, 1, 2] rfl) h
        · have h := if_n h c3
          refine lv_lload_n hx hb (dt_at dt_Num_isLargerThan 23 rfl) rfl (lv_at hl 0 rfl) ?_
          refine lv_ldc2 (v := 10) hx hb hown (hts (Cond.constantLong "OutwardTape$Numeral" 28 (10)) (m_3 11 rfl rfl)) (dt_at dt_Num_isLargerThan 24 rfl) ?_
          refine lv_lmul hx hb (dt_at dt_Num_isLargerThan 25 rfl) ?_
          obtain ⟨t4, e_t4, h⟩ := ol_of h
          refine lv_topl (fun u_t4 q_t4 => ?_)
          obtain rfl : t4 = u_t4 := e_t4.trans q_t4.symm
          refine lv_lstore_n (lv' := [(2, .long t4), (4, .long v4), (6, .int v6), (7, .int v7)]) hx hb (dt_at dt_Num_isLargerThan 26 rfl) rfl hl (by decide) rfl (fun ls hl => ?_)
          obtain ⟨t5, e_t5, h⟩ := ol_of h
          refine lv_iinc (v := t5) (lv' := [(6, .int t5), (2, .long t4), (4, .long v4), (7, .int v7)]) hx hb (dt_at dt_Num_isLargerThan 27 rfl) hl (k := 2) rfl (by rw [e_t5]; rfl) (by decide) rfl (fun ls hl => ?_)
          obtain ⟨t6, e_t6, h⟩ := ol_of h
          refine lv_iinc (v := t6) (lv' := [(7, .int t6), (6, .int t5), (2, .long t4), (4, .long v4)]) hx hb (dt_at dt_Num_isLargerThan 28 rfl) hl (k := 3) rfl (by rw [e_t6]; rfl) (by decide) rfl (fun ls hl => ?_)
          refine lv_goto (tgt := 25) hx hb (dt_at dt_Num_isLargerThan 29 rfl) (by decide) ?_
          exact ih t4 v4 t5 t6 H locs ls hP hD hS   (lv_sub hl [2, 3, 1, 0] rfl) h
set_option maxRecDepth 100000 in
set_option maxHeartbeats 4000000 in
theorem k_Num_isLargerThan_0 {p : Program} {l : Launch} {e : Env} {s : State} {m : MethodId} {args : Array Value} {below : List Frame} {meth : Method} {c : Code} {D : va_G} {a : Nat → Nat} {q : Nat → ClassId} {L : Nat} {R : Nat} {A : Nat → Prop} (hC : CX p s m args meth c prog_6_method_7_code 8 "OutwardTape$Numeral" (some .boolean)) (hA : ∀ x, s.heap.size ≤ x → A x) (hK : va_K D CLS (tT q) s) {g0 : Int32} {g1 : Int32} {g2 : Nat → Int32} {g3 : Nat → Option Nat} {g4 : Int32} {g5 : Int32} {g6 : Nat → Int32} {g7 : Int32} {g8 : Int64} {g9 : Int32} {g10 : Int32} {g11 : Nat → Int32} {g12 : Int32} {g13 : Int64} {g14 : Int32} {g15 : Int32} {g16 : Nat → Int32} {r0 : Int32} : ∀   (H : Heap) (locs : List Loc) (ls : Array Slot), va_P D CLS (wT a q L R g0 g1 g2 g3 g4 g5 g6 g7 g8 g9 g10 g11 g12 g13 g14 g15 g16) H → va_D A (wT a q L R g0 g1 g2 g3 g4 g5 g6 g7 g8 g9 g10 g11 g12 g13 g14 g15 g16) → va_S A s.heap H locs → lv_has ls 8 [(0, .ref (a 5)), (1, .ref (a 7))] → f_Num_isLargerThan_0  g8 g10 g13 g15 = some r0 → W p l e rm_Num_isLargerThan s m args below meth c H locs 0 0 (MQ below (va_Qi (fun (r : Int32) (_ : Unit) => r = r0) (fun _ t => va_P D CLS (wT a q L R g0 g1 g2 g3 g4 g5 g6 g7 g8 g9 g10 g11 g12 g13 g14 g15 g16) t.heap) A) args s 0 0 A) (F0 m 0 ls []) := by
  obtain ⟨hx, hb, hml, hown, hts, hr, hlocks⟩ := id hC
  intro H locs ls hP hD hS hl h
  rw [f_Num_isLargerThan_0] at h
  have hSz : s.heap.size ≤ H.size := hS.1
  refine lv_aload_n hx hb (dt_at dt_Num_isLargerThan 0 rfl) rfl (lv_at hl 0 rfl) ?_
  refine va_get (D := D) (ci := 3) (v := .long g8) (C := "OutwardTape$Numeral") (T := T_Num) (N := 5) hx hb hts in_Num hown hK hP 5 rfl rfl 2 (by decide) (hts (Cond.fieldLink "OutwardTape$Numeral" 17 "OutwardTape$Numeral" "digits" "J") (m_1 47 rfl rfl)) (fun _ h9 => h9) rfl (dt_at dt_Num_isLargerThan 1 rfl) ?_
  refine lv_lstore_n (lv' := [(2, .long g8), (0, .ref (a 5)), (1, .ref (a 7))]) hx hb (dt_at dt_Num_isLargerThan 2 rfl) rfl hl (by decide) rfl (fun ls hl => ?_)
  refine lv_aload_n hx hb (dt_at dt_Num_isLargerThan 3 rfl) rfl (lv_at hl 2 rfl) ?_
  refine va_get (D := D) (ci := 3) (v := .long g13) (C := "OutwardTape$Numeral") (T := T_Num) (N := 5) hx hb hts in_Num hown hK hP 7 rfl rfl 2 (by decide) (hts (Cond.fieldLink "OutwardTape$Numeral" 17 "OutwardTape$Numeral" "digits" "J") (m_1 47 rfl rfl)) (fun _ h9 => h9) rfl (dt_at dt_Num_isLargerThan 4 rfl) ?_
  refine lv_lstore (lv' := [(4, .long g13), (2, .long g8), (0, .ref (a 5)), (1, .ref (a 7))]) hx hb (dt_at dt_Num_isLargerThan 5 rfl) hl (by decide) rfl (fun ls hl => ?_)
  refine lv_aload_n hx hb (dt_at dt_Num_isLargerThan 6 rfl) rfl (lv_at hl 2 rfl) ?_
  refine va_get (D := D) (ci := 3) (v := .int g10) (C := "OutwardTape$Numeral") (T := T_Num) (N := 5) hx hb hts in_Num hown hK hP 5 rfl rfl 4 (by decide) (hts (Cond.fieldLink "OutwardTape$Numeral" 25 "OutwardTape$Numeral" "scale" "I") (m_1 49 rfl rfl)) (fun _ h9 => h9) rfl (dt_at dt_Num_isLargerThan 7 rfl) ?_
  refine lv_aload_n hx hb (dt_at dt_Num_isLargerThan 8 rfl) rfl (lv_at hl 3 rfl) ?_
  refine va_get (D := D) (ci := 3) (v := .int g15) (C := "OutwardTape$Numeral") (T := T_Num) (N := 5) hx hb hts in_Num hown hK hP 7 rfl rfl 4 (by decide) (hts (Cond.fieldLink "OutwardTape$Numeral" 25 "OutwardTape$Numeral" "scale" "I") (m_1 49 rfl rfl)) (fun _ h9 => h9) rfl (dt_at dt_Num_isLargerThan 9 rfl) ?_
  refine lv_isub hx hb (dt_at dt_Num_isLargerThan 10 rfl) ?_
  obtain ⟨t1, e_t1, h⟩ := ol_of h
  refine lv_topi (fun u_t1 q_t1 => ?_)
  obtain rfl : t1 = u_t1 := e_t1.trans q_t1.symm
  refine lv_istore (lv' := [(6, .int t1), (4, .long g13), (2, .long g8), (0, .ref (a 5)), (1, .ref (a 7))]) hx hb (dt_at dt_Num_isLargerThan 11 rfl) hl (by decide) rfl (fun ls hl => ?_)
  refine lv_iconst (v := 0) hx hb (dt_at dt_Num_isLargerThan 12 rfl) (by decide) ?_
  refine lv_istore (lv' := [(7, .int (0 : Int32)), (6, .int t1), (4, .long g13), (2, .long g8), (0, .ref (a 5)), (1, .ref (a 7))]) hx hb (dt_at dt_Num_isLargerThan 13 rfl) hl (by decide) rfl (fun ls hl => ?_)
  exact k_Num_isLargerThan_25 hC hA hK  5000 g8 g13 t1 (0 : Int32) H locs ls hP hD hS   (lv_sub hl [3, 2, 1, 0] rfl) h
set_option maxRecDepth 100000 in
set_option maxHeartbeats 4000000 in
theorem c_Num_isLargerThan (l : Launch) (D : va_G) (a : Nat → Nat) (q : Nat → ClassId) (L : Nat) (R : Nat) (hd : va_D (fun _ => True) (dT a)) (sz : Nat)  (g0 : Int32) (g1 : Int32) (g2 : Nat → Int32) (g3 : Nat → Option Nat) (g4 : Int32) (g5 : Int32) (g6 : Nat → Int32) (g7 : Int32) (g8 : Int64) (g9 : Int32) (g10 : Int32) (g11 : Nat → Int32) (g12 : Int32) (g13 : Int64) (g14 : Int32) (g15 : Int32) (g16 : Nat → Int32)   (r0 : Int32) (h : f_Num_isLargerThan g8 g10 g13 g15 = some r0) : Met l (⟨"OutwardTape$Numeral", "isLargerThan", "(LOutwardTape$Numeral;)Z"⟩ : MethodName) (WSm (⟨"OutwardTape$Numeral", "isLargerThan", "(LOutwardTape$Numeral;)Z"⟩ : MethodName) prog_6_method_7_code 8 (some .boolean)) rm_Num_isLargerThan (va_Pc [.ref (a 5), .ref (a 7)] (fun U => U.heap.size = sz ∧ va_P D CLS (wT a q L R g0 g1 g2 g3 g4 g5 g6 g7 g8 g9 g10 g11 g12 g13 g14 g15 g16) U.heap ∧ va_K D CLS (tT q) U)) (va_Qi (fun (r : Int32) (_ : Unit) => r = r0) (fun _ t => va_P D CLS (wT a q L R g0 g1 g2 g3 g4 g5 g6 g7 g8 g9 g10 g11 g12 g13 g14 g15 g16) t.heap) (va_A (dT a) sz)) 0 0 (va_A (dT a) sz) := by
  refine Met.ofW (cc := prog_6_method_7_code) (maxL := 8) (ret := (some .boolean)) (by decide) rfl ?_
  intro p e s m args below meth c s₁ B hml hv
  obtain ⟨rfl, hsz, hP, hK⟩ := hv
  subst hsz
  have hC := CX.of B hml rfl
  have hl := lv_entry [.ref (a 5), .ref (a 7)] (n := 8) (Nat.le_of_ble_eq_true rfl)
  rw [lg_entry_eq]
  generalize (lg_sl [.ref (a 5), .ref (a 7)] ++ List.replicate (8 - (lg_sl [.ref (a 5), .ref (a 7)]).length) Slot.unset).toArray = ls at hl ⊢
  have hl : lv_has ls 8 [(0, .ref (a 5)), (1, .ref (a 7))] := hl
  exact k_Num_isLargerThan_0  hC (fun x h => Or.inr h) hK     s.heap [] ls hP (dD hd.self rfl) va_S.rf   (lv_sub hl [0, 1] rfl) h
abbrev rm_Num_signum : Room := { frames := 0, cells := 0, slots := 0, locals := 0 }
set_option maxRecDepth 100000 in
set_option maxHeartbeats 4000000 in
theorem k_Num_signum_25 {p : Program} {l : Launch} {e : Env} {s : State} {m : MethodId} {args : Array Value} {below : List Frame} {meth : Method} {c : Code} {D : va_G} {a : Nat → Nat} {q : Nat → ClassId} {L : Nat} {R : Nat} {A : Nat → Prop} (hC : CX p s m args meth c prog_6_method_6_code 1 "OutwardTape$Numeral" (some .int)) (hA : ∀ x, s.heap.size ≤ x → A x) (hK : va_K D CLS (tT q) s) {g0 : Int32} {g1 : Int32} {g2 : Nat → Int32} {g3 : Nat → Option Nat} {g4 : Int32} {g5 : Int32} {g6 : Nat → Int32} {g7 : Int32} {g8 : Int64} {g9 : Int32} {g10 : Int32} {g11 : Nat → Int32} {g12 : Int32} {g13 : Int64} {g14 : Int32} {g15 : Int32} {g16 : Nat → Int32} {r0 : Int32} : ∀ (s0 : Int32)  (H : Heap) (locs : List Loc) (ls : Array Slot), va_P D CLS (wT a q L R g0 g1 g2 g3 g4 g5 g6 g7 g8 g9 g10 g11 g12 g13 g14 g15 g16) H → va_D A (wT a q L R g0 g1 g2 g3 g4 g5 g6 g7 g8 g9 g10 g11 g12 g13 g14 g15 g16) → va_S A s.heap H locs → lv_has ls 1 [] → f_Num_signum_25  s0 g7 g8 = some r0 → W p l e rm_Num_signum s m args below meth c H locs 0 0 (MQ below (va_Qi (fun (r : Int32) (_ : Unit) => r = r0) (fun _ t => va_P D CLS (wT a q L R g0 g1 g2 g3 g4 g5 g6 g7 g8 g9 g10 g11 g12 g13 g14 g15 g16) t.heap) A) args s 0 0 A) (F0 m 25 ls [.int s0]) := by
  obtain ⟨hx, hb, hml, hown, hts, hr, hlocks⟩ := id hC
  intro s0 H locs ls hP hD hS hl h
  rw [f_Num_signum_25] at h
  have hSz : s.heap.size ≤ H.size := hS.1
  obtain rfl := os_of h
  exact W.iret (v := s0) hx hb hr (fun t ht hW => ⟨⟨_, (), rfl, rfl, (hPt hP ht)⟩, hS.F ht⟩) hS.2.2 (dt_at dt_Num_signum 13 rfl)
set_option maxRecDepth 100000 in
set_option maxHeartbeats 4000000 in
theorem k_Num_signum_0 {p : Program} {l : Launch} {e : Env} {s : State} {m : MethodId} {args : Array Value} {below : List Frame} {meth : Method} {c : Code} {D : va_G} {a : Nat → Nat} {q : Nat → ClassId} {L : Nat} {R : Nat} {A : Nat → Prop} (hC : CX p s m args meth c prog_6_method_6_code 1 "OutwardTape$Numeral" (some .int)) (hA : ∀ x, s.heap.size ≤ x → A x) (hK : va_K D CLS (tT q) s) {g0 : Int32} {g1 : Int32} {g2 : Nat → Int32} {g3 : Nat → Option Nat} {g4 : Int32} {g5 : Int32} {g6 : Nat → Int32} {g7 : Int32} {g8 : Int64} {g9 : Int32} {g10 : Int32} {g11 : Nat → Int32} {g12 : Int32} {g13 : Int64} {g14 : Int32} {g15 : Int32} {g16 : Nat → Int32} {r0 : Int32} : ∀   (H : Heap) (locs : List Loc) (ls : Array Slot), va_P D CLS (wT a q L R g0 g1 g2 g3 g4 g5 g6 g7 g8 g9 g10 g11 g12 g13 g14 g15 g16) H → va_D A (wT a q L R g0 g1 g2 g3 g4 g5 g6 g7 g8 g9 g10 g11 g12 g13 g14 g15 g16) → va_S A s.heap H locs → lv_has ls 1 [(0, .ref (a 5))] → f_Num_signum_0  g7 g8 = some r0 → W p l e rm_Num_signum s m args below meth c H locs 0 0 (MQ below (va_Qi (fun (r : Int32) (_ : Unit) => r = r0) (fun _ t => va_P D CLS (wT a q L R g0 g1 g2 g3 g4 g5 g6 g7 g8 g9 g10 g11 g12 g13 g14 g15 g16) t.heap) A) args s 0 0 A) (F0 m 0 ls []) := by
  obtain ⟨hx, hb, hml, hown, hts, hr, hlocks⟩ := id hC
  intro H locs ls hP hD hS hl h
  rw [f_Num_signum_0] at h
  have hSz : s.heap.size ≤ H.size := hS.1
  refine lv_aload_n hx hb (dt_at dt_Num_signum 0 rfl) rfl (lv_at hl 0 rfl) ?_
  refine va_get (D := D) (ci := 3) (v := .long g8) (C := "OutwardTape$Numeral") (T := T_Num) (N := 5) hx hb hts in_Num hown hK hP 5 rfl rfl 2 (by decide) (hts (Cond.fieldLink "OutwardTape$Numeral" 17 "OutwardTape$Numeral" "digits" "J") (m_1 47 rfl rfl)) (fun _ h9 => h9) rfl (dt_at dt_Num_signum 1 rfl) ?_
  refine lv_lconst (v := 0) hx hb (dt_at dt_Num_signum 2 rfl) (by decide) ?_
  refine lc_ne (tgt := 13) hx hb (dt_at dt_Num_signum 3 rfl) (dt_at dt_Num_signum 4 rfl) (by decide) (fun c1 => ?_) (fun c1 => ?_)
  · have h := if_n h c1
    refine lv_aload_n hx hb (dt_at dt_Num_signum 7 rfl) rfl (lv_at hl 0 rfl) ?_
    refine va_get (D := D) (ci := 3) (v := .int g7) (C := "OutwardTape$Numeral") (T := T_Num) (N := 5) hx hb hts in_Num hown hK hP 5 rfl rfl 1 (by decide) (hts (Cond.fieldLink "OutwardTape$Numeral" 13 "OutwardTape$Numeral" "negative" "Z") (m_1 46 rfl rfl)) (fun _ h9 => h9) rfl (dt_at dt_Num_signum 8 rfl) ?_
    refine lv_if_eq (tgt := 24) hx hb (dt_at dt_Num_signum 9 rfl) (by decide) (fun c2 => ?_) (fun c2 => ?_)
    · have h := if_p h c2
      refine lv_iconst (v := 1) hx hb (dt_at dt_Num_signum 12 rfl) (by decide) ?_
      exact k_Num_signum_25 hC hA hK   (1 : Int32) H locs ls hP hD hS   (lv_sub hl [] rfl) h
    · have h := if_n h c2
      refine lv_iconst (v := -1) hx hb (dt_at dt_Num_signum 10 rfl) (by decide) ?_
      refine lv_goto (tgt := 25) hx hb (dt_at dt_Num_signum 11 rfl) (by decide) ?_
      exact k_Num_signum_25 hC hA hK   (-1 : Int32) H locs ls hP hD hS   (lv_sub hl [] rfl) h
  · have h := if_p h c1
    refine lv_iconst (v := 0) hx hb (dt_at dt_Num_signum 5 rfl) (by decide) ?_
    refine lv_goto (tgt := 25) hx hb (dt_at dt_Num_signum 6 rfl) (by decide) ?_
    exact k_Num_signum_25 hC hA hK   (0 : Int32) H locs ls hP hD hS   (lv_sub hl [] rfl) h
set_option maxRecDepth 100000 in
set_option maxHeartbeats 4000000 in
theorem c_Num_signum (l : Launch) (D : va_G) (a : Nat → Nat) (q : Nat → ClassId) (L : Nat) (R : Nat) (hd : va_D (fun _ => True) (dT a)) (sz : Nat)  (g0 : Int32) (g1 : Int32) (g2 : Nat → Int32) (g3 : Nat → Option Nat) (g4 : Int32) (g5 : Int32) (g6 : Nat → Int32) (g7 : Int32) (g8 : Int64) (g9 : Int32) (g10 : Int32) (g11 : Nat → Int32) (g12 : Int32) (g13 : Int64) (g14 : Int32) (g15 : Int32) (g16 : Nat → Int32)   (r0 : Int32) (h : f_Num_signum g7 g8 = some r0) : Met l (⟨"OutwardTape$Numeral", "signum", "()I"⟩ : MethodName) (WSm (⟨"OutwardTape$Numeral", "signum", "()I"⟩ : MethodName) prog_6_method_6_code 1 (some .int)) rm_Num_signum (va_Pc [.ref (a 5)] (fun U => U.heap.size = sz ∧ va_P D CLS (wT a q L R g0 g1 g2 g3 g4 g5 g6 g7 g8 g9 g10 g11 g12 g13 g14 g15 g16) U.heap ∧ va_K D CLS (tT q) U)) (va_Qi (fun (r : Int32) (_ : Unit) => r = r0) (fun _ t => va_P D CLS (wT a q L R g0 g1 g2 g3 g4 g5 g6 g7 g8 g9 g10 g11 g12 g13 g14 g15 g16) t.heap) (va_A (dT a) sz)) 0 0 (va_A (dT a) sz) := by
  refine Met.ofW (cc := prog_6_method_6_code) (maxL := 1) (ret := (some .int)) (by decide) rfl ?_
  intro p e s m args below meth c s₁ B hml hv
  obtain ⟨rfl, hsz, hP, hK⟩ := hv
  subst hsz
  have hC := CX.of B hml rfl
  have hl := lv_entry [.ref (a 5)] (n := 1) (Nat.le_of_ble_eq_true rfl)
  rw [lg_entry_eq]
  generalize (lg_sl [.ref (a 5)] ++ List.replicate (1 - (lg_sl [.ref (a 5)]).length) Slot.unset).toArray = ls at hl ⊢
  have hl : lv_has ls 1 [(0, .ref (a 5))] := hl
  exact k_Num_signum_0  hC (fun x h => Or.inr h) hK     s.heap [] ls hP (dD hd.self rfl) va_S.rf   (lv_sub hl [0] rfl) h
abbrev rm_Num_isGreaterThan : Room := { frames := 1, cells := 0, slots := 0, locals := 27 }
set_option maxRecDepth 100000 in
set_option maxHeartbeats 4000000 in
theorem k_Num_isGreaterThan_55 {p : Program} {l : Launch} {e : Env} {s : State} {m : MethodId} {args : Array Value} {below : List Frame} {meth : Method} {c : Code} {D : va_G} {a : Nat → Nat} {q : Nat → ClassId} {L : Nat} {R : Nat} {A : Nat → Prop} (hC : CX p s m args meth c prog_6_method_5_code 4 "OutwardTape$Numeral" (some .boolean)) (hA : ∀ x, s.heap.size ≤ x → A x) (hK : va_K D CLS (tT q) s) {g0 : Int32} {g1 : Int32} {g2 : Nat → Int32} {g3 : Nat → Option Nat} {g4 : Int32} {g5 : Int32} {g6 : Nat → Int32} {g7 : Int32} {g8 : Int64} {g9 : Int32} {g10 : Int32} {g11 : Nat → Int32} {g12 : Int32} {g13 : Int64} {g14 : Int32} {g15 : Int32} {g16 : Nat → Int32} {r0 : Int32} : ∀ (s0 : Int32)  (H : Heap) (locs : List Loc) (ls : Array Slot), va_P D CLS (wT a q L R g0 g1 g2 g3 g4 g5 g6 g7 g8 g9 g10 g11 g12 g13 g14 g15 g16) H → va_D A (wT a q L R g0 g1 g2 g3 g4 g5 g6 g7 g8 g9 g10 g11 g12 g13 g14 g15 g16) → va_S A s.heap H locs → lv_has ls 4 [] → f_Num_isGreaterThan_55  s0 g7 g8 g10 g12 g13 g15 = some r0 → W p l e rm_Num_isGreaterThan s m args below meth c H locs 0 0 (MQ below (va_Qi (fun (r : Int32) (_ : Unit) => r = r0) (fun _ t => va_P D CLS (wT a q L R g0 g1 g2 g3 g4 g5 g6 g7 g8 g9 g10 g11 g12 g13 g14 g15 g16) t.heap) A) args s 0 0 A) (F0 m 55 ls [.int s0]) := by
  obtain ⟨hx, hb, hml, hown, hts, hr, hlocks⟩ := id hC
  intro s0 H locs ls hP hD hS hl h
  rw [f_Num_isGreaterThan_55] at h
  have hSz : s.heap.size ≤ H.size := hS.1
  obtain ⟨hz, h⟩ := og_of h
  obtain rfl := os_of h
  exact W.zret (v := s0) (ty := .boolean) hx hb hr (j_z_nar hz) (fun t ht hW => ⟨⟨_, (), rfl, rfl, (hPt hP ht)⟩, hS.F ht⟩) hS.2.2 (dt_at dt_Num_isGreaterThan 31 rfl)
set_option maxRecDepth 100000 in
set_option maxHeartbeats 4000000 in
theorem k_Num_isGreaterThan_54 {p : Program} {l : Launch} {e : Env} {s : State} {m : MethodId} {args : Array Value} {below : List Frame} {meth : Method} {c : Code} {D : va_G} {a : Nat → Nat} {q : Nat → ClassId} {L : Nat} {R : Nat} {A : Nat → Prop} (hC : CX p s m args meth c prog_6_method_5_code 4 "OutwardTape$Numeral" (some .boolean)) (hA : ∀ x, s.heap.size ≤ x → A x) (hK : va_K D CLS (tT q) s) {g0 : Int32} {g1 : Int32} {g2 : Nat → Int32} {g3 : Nat → Option Nat} {g4 : Int32} {g5 : Int32} {g6 : Nat → Int32} {g7 : Int32} {g8 : Int64} {g9 : Int32} {g10 : Int32} {g11 : Nat → Int32} {g12 : Int32} {g13 : Int64} {g14 : Int32} {g15 : Int32} {g16 : Nat → Int32} {r0 : Int32} : ∀   (H : Heap) (locs : List Loc) (ls : Array Slot), va_P D CLS (wT a q L R g0 g1 g2 g3 g4 g5 g6 g7 g8 g9 g10 g11 g12 g13 g14 g15 g16) H → va_D A (wT a q L R g0 g1 g2 g3 g4 g5 g6 g7 g8 g9 g10 g11 g12 g13 g14 g15 g16) → va_S A s.heap H locs → lv_has ls 4 [] → f_Num_isGreaterThan_54  g7 g8 g10 g12 g13 g15 = some r0 → W p l e rm_Num_isGreaterThan s m args below meth c H locs 0 0 (MQ below (va_Qi (fun (r : Int32) (_ : Unit) => r = r0) (fun _ t => va_P D CLS (wT a q L R g0 g1 g2 g3 g4 g5 g6 g7 g8 g9 g10 g11 g12 g13 g14 g15 g16) t.heap) A) args s 0 0 A) (F0 m 54 ls []) := by
  obtain ⟨hx, hb, hml, hown, hts, hr, hlocks⟩ := id hC
  intro H locs ls hP hD hS hl h
  rw [f_Num_isGreaterThan_54] at h
  have hSz : s.heap.size ≤ H.size := hS.1
  refine lv_iconst (v := 0) hx hb (dt_at dt_Num_isGreaterThan 30 rfl) (by decide) ?_
  exact k_Num_isGreaterThan_55 hC hA hK   (0 : Int32) H locs ls hP hD hS   (lv_sub hl [] rfl) h
set_option maxRecDepth 100000 in
set_option maxHeartbeats 4000000 in
theorem k_Num_isGreaterThan_25 {p : Program} {l : Launch} {e : Env} {s : State} {m : MethodId} {args : Array Value} {below : List Frame} {meth : Method} {c : Code} {D : va_G} {a : Nat → Nat} {q : Nat → ClassId} {L : Nat} {R : Nat} {A : Nat → Prop} (hC : CX p s m args meth c prog_6_method_5_code 4 "OutwardTape$Numeral" (some .boolean)) (hA : ∀ x, s.heap.size ≤ x → A x) (hK : va_K D CLS (tT q) s) {g0 : Int32} {g1 : Int32} {g2 : Nat → Int32} {g3 : Nat → Option Nat} {g4 : Int32} {g5 : Int32} {g6 : Nat → Int32} {g7 : Int32} {g8 : Int64} {g9 : Int32} {g10 : Int32} {g11 : Nat → Int32} {g12 : Int32} {g13 : Int64} {g14 : Int32} {g15 : Int32} {g16 : Nat → Int32} {r0 : Int32} : ∀ (s0 : Int32)  (H : Heap) (locs : List Loc) (ls : Array Slot), va_P D CLS (wT a q L R g0 g1 g2 g3 g4 g5 g6 g7 g8 g9 g10 g11 g12 g13 g14 g15 g16) H → va_D A (wT a q L R g0 g1 g2 g3 g4 g5 g6 g7 g8 g9 g10 g11 g12 g13 g14 g15 g16) → va_S A s.heap H locs → lv_has ls 4 [] → f_Num_isGreaterThan_25  s0 g7 g8 g10 g12 g13 g15 = some r0 → W p l e rm_Num_isGreaterThan s m args below meth c H locs 0 0 (MQ below (va_Qi (fun (r : Int32) (_ : Unit) => r = r0) (fun _ t => va_P D CLS (wT a q L R g0 g1 g2 g3 g4 g5 g6 g7 g8 g9 g10 g11 g12 g13 g14 g15 g16) t.heap) A) args s 0 0 A) (F0 m 25 ls [.int s0]) := by
  obtain ⟨hx, hb, hml, hown, hts, hr, hlocks⟩ := id hC
  intro s0 H locs ls hP hD hS hl h
  rw [f_Num_isGreaterThan_25] at h
  have hSz : s.heap.size ≤ H.size := hS.1
  obtain ⟨hz, h⟩ := og_of h
  obtain rfl := os_of h
  exact W.zret (v := s0) (ty := .boolean) hx hb hr (j_z_nar hz) (fun t ht hW => ⟨⟨_, (), rfl, rfl, (hPt hP ht)⟩, hS.F ht⟩) hS.2.2 (dt_at dt_Num_isGreaterThan 15 rfl)
set_option maxRecDepth 100000 in
set_option maxHeartbeats 4000000 in
theorem k_Num_isGreaterThan_0 {p : Program} {l : Launch} {e : Env} {s : State} {m : MethodId} {args : Array Value} {below : List Frame} {meth : Method} {c : Code} {D : va_G} {a : Nat → Nat} {q : Nat → ClassId} {L : Nat} {R : Nat} {A : Nat → Prop} (hC : CX p s m args meth c prog_6_method_5_code 4 "OutwardTape$Numeral" (some .boolean)) (hA : ∀ x, s.heap.size ≤ x → A x) (hK : va_K D CLS (tT q) s) {g0 : Int32} {g1 : Int32} {g2 : Nat → Int32} {g3 : Nat → Option Nat} {g4 : Int32} {g5 : Int32} {g6 : Nat → Int32} {g7 : Int32} {g8 : Int64} {g9 : Int32} {g10 : Int32} {g11 : Nat → Int32} {g12 : Int32} {g13 : Int64} {g14 : Int32} {g15 : Int32} {g16 : Nat → Int32} {r0 : Int32} : ∀   (H : Heap) (locs : List Loc) (ls : Array Slot), va_P D CLS (wT a q L R g0 g1 g2 g3 g4 g5 g6 g7 g8 g9 g10 g11 g12 g13 g14 g15 g16) H → va_D A (wT a q L R g0 g1 g2 g3 g4 g5 g6 g7 g8 g9 g10 g11 g12 g13 g14 g15 g16) → va_S A s.heap H locs → lv_has ls 4 [(0, .ref (a 5)), (1, .ref (a 7))] → f_Num_isGreaterThan_0  g7 g8 g10 g12 g13 g15 = some r0 → W p l e rm_Num_isGreaterThan s m args below meth c H locs 0 0 (MQ below (va_Qi (fun (r : Int32) (_ : Unit) => r = r0) (fun _ t => va_P D CLS (wT a q L R g0 g1 g2 g3 g4 g5 g6 g7 g8 g9 g10 g11 g12 g13 g14 g15 g16) t.heap) A) args s 0 0 A) (F0 m 0 ls []) := by
  obtain ⟨hx, hb, hml, hown, hts, hr, hlocks⟩ := id hC
  intro H locs ls hP hD hS hl h
  rw [f_Num_isGreaterThan_0] at h
  have hSz : s.heap.size ≤ H.size := hS.1
  refine lv_aload_n hx hb (dt_at dt_Num_isGreaterThan 0 rfl) rfl (lv_at hl 0 rfl) ?_
  obtain ⟨r1, h_r1, h⟩ := ob_of h
  have hPc := hP
  have hDc : va_D A (dT a) := dD (ws' := dT a) hD rfl
  have hKc := hK
  have hF := va_free (wc := dT a) hDc hS hA [0, 1, 2, 3, 4, 5, 6, 7, 8] rfl
  have hd : va_D (fun _ => True) (dT a) := hDc.weaken (fun _ _ _ _ => trivial)
  refine va_calli (va_runV (As := []) (rest := []) ⟨hx, hb, hml, hown, hts⟩ (c_Num_signum l D a q L R hd H.size  g0 g1 g2 g3 g4 g5 g6 g7 g8 g9 g10 g11 g12 g13 g14 g15 g16   r1 h_r1) (cwV 0 hts (gd_V (m_3 43 rfl rfl) (m_3 45 rfl rfl) (m_s 18 rfl rfl) (m_1 3 rfl rfl) (m_3 46 rfl rfl)) rfl rfl rfl (by decide +kernel) ⟨Nat.le_of_ble_eq_true rfl, Nat.le_of_ble_eq_true rfl⟩) ⟨fun a U g mk q => ⟨q.1, q.2.1, q.2.2.1, va_K.moved (u := U) (U := U.calling g mk a) (Vm.Alike.refl U.vm) q.2.2.2⟩, va_recv hK hP (ci := 3) (q0 := 5) rfl rfl, fun U hU hW => ⟨rfl, by rw [hU], by rw [hU]; exact hPc, va_K.moved hW.alike hKc⟩⟩ rfl rfl hl.1 rfl (lv_room (Nat.le_of_ble_eq_true rfl)) (dt_at dt_Num_isGreaterThan 1 rfl) ⟨Nat.le_of_ble_eq_true rfl, Nat.le_of_ble_eq_true rfl⟩) hS (fun x _ h9 => hF x h9) hF (fun u_r1 uu t H1 locs ht hvm hw hB hz1 hk1 hS => ?_)
  obtain rfl : r1 = u_r1 := hw.symm
  rw [ht] at hB
  have hP : va_P D CLS (wT a q L R g0 g1 g2 g3 g4 g5 g6 g7 g8 g9 g10 g11 g12 g13 g14 g15 g16) H1 := hB
  have hD : va_D A (wT a q L R g0 g1 g2 g3 g4 g5 g6 g7 g8 g9 g10 g11 g12 g13 g14 g15 g16) := dD hD rfl
  have hSz : s.heap.size ≤ H1.size := hS.1
  clear hk1 hz1 hPc hF hB ht
  generalize H1 = H at hP hS hSz  ⊢
  refine lv_istore_n (lv' := [(2, .int r1), (0, .ref (a 5)), (1, .ref (a 7))]) hx hb (dt_at dt_Num_isGreaterThan 2 rfl) rfl hl (by decide) rfl (fun ls hl => ?_)
  refine lv_aload_n hx hb (dt_at dt_Num_isGreaterThan 3 rfl) rfl (lv_at hl 2 rfl) ?_
  obtain ⟨r2, h_r2, h⟩ := ob_of h
  have hPc : va_P D CLS (wT (sw_a a) (sw_q q) L R g0 g1 g2 g3 g4 g5 g6 g12 g13 g14 g15 g16 g7 g8 g9 g10 g11) H := hP.sub [0, 1, 2, 3, 4, 7, 8, 5, 6] rfl
  have hDc : va_D A (dT (sw_a a)) := (dD (ws' := dT a) hD rfl).sub [0, 1, 2, 3, 4, 7, 8, 5, 6] (by decide) rfl
  have hKc : va_K D CLS (tT (sw_q q)) s := hK.sub [0, 1, 2, 4, 3] rfl
  have hF := va_free (wc := dT (sw_a a)) hDc hS hA [0, 1, 2, 3, 4, 5, 6, 7, 8] rfl
  have hd : va_D (fun _ => True) (dT (sw_a a)) := hDc.weaken (fun _ _ _ _ => trivial)
  refine va_calli (va_runV (As := []) (rest := []) ⟨hx, hb, hml, hown, hts⟩ (c_Num_signum l D (sw_a a) (sw_q q) L R hd H.size  g0 g1 g2 g3 g4 g5 g6 g12 g13 g14 g15 g16 g7 g8 g9 g10 g11   r2 h_r2) (cwV 0 hts (gd_V (m_3 43 rfl rfl) (m_3 45 rfl rfl) (m_s 18 rfl rfl) (m_1 3 rfl rfl) (m_3 46 rfl rfl)) rfl rfl rfl (by decide +kernel) ⟨Nat.le_of_ble_eq_true rfl, Nat.le_of_ble_eq_true rfl⟩) ⟨fun a U g mk q => ⟨q.1, q.2.1, q.2.2.1, va_K.moved (u := U) (U := U.calling g mk a) (Vm.Alike.refl U.vm) q.2.2.2⟩, va_recv hK hP (ci := 3) (q0 := 7) rfl rfl, fun U hU hW => ⟨rfl, by rw [hU], by rw [hU]; exact hPc, va_K.moved hW.alike hKc⟩⟩ rfl rfl hl.1 rfl (lv_room (Nat.le_of_ble_eq_true rfl)) (dt_at dt_Num_isGreaterThan 4 rfl) ⟨Nat.le_of_ble_eq_true rfl, Nat.le_of_ble_eq_true rfl⟩) hS (fun x _ h9 => hF x h9) hF (fun u_r2 uu t H1 locs ht hvm hw hB hz1 hk1 hS => ?_)
  obtain rfl : r2 = u_r2 := hw.symm
  rw [ht] at hB
  have hP : va_P D CLS (wT a q L R g0 g1 g2 g3 g4 g5 g6 g7 g8 g9 g10 g11 g12 g13 g14 g15 g16) H1 := hB.sub [0, 1, 2, 3, 4, 7, 8, 5, 6] rfl
  have hD : va_D A (wT a q L R g0 g1 g2 g3 g4 g5 g6 g7 g8 g9 g10 g11 g12 g13 g14 g15 g16) := dD hD rfl
  have hSz : s.heap.size ≤ H1.size := hS.1
  clear hk1 hz1 hPc hF hB ht
  generalize H1 = H at hP hS hSz  ⊢
  refine lv_istore_n (lv' := [(3, .int r2), (2, .int r1), (0, .ref (a 5)), (1, .ref (a 7))]) hx hb (dt_at dt_Num_isGreaterThan 5 rfl) rfl hl (by decide) rfl (fun ls hl => ?_)
  refine lv_iload_n hx hb (dt_at dt_Num_isGreaterThan 6 rfl) rfl (lv_at hl 1 rfl) ?_
  refine lv_iload_n hx hb (dt_at dt_Num_isGreaterThan 7 rfl) rfl (lv_at hl 0 rfl) ?_
  refine lv_icmp_eq (tgt := 26) hx hb (dt_at dt_Num_isGreaterThan 8 rfl) (by decide) (fun c3 => ?_) (fun c3 => ?_)
  · have h := if_p h c3
    refine lv_iload_n hx hb (dt_at dt_Num_isGreaterThan 16 rfl) rfl (lv_at hl 1 rfl) ?_
    refine lv_if_ge (tgt := 38) hx hb (dt_at dt_Num_isGreaterThan 17 rfl) (by decide) (fun c4 => ?_) (fun c4 => ?_)
    · have h := if_p h c4
      refine lv_iload_n hx hb (dt_at dt_Num_isGreaterThan 22 rfl) rfl (lv_at hl 1 rfl) ?_
      refine lv_if_le (tgt := 54) hx hb (dt_at dt_Num_isGreaterThan 23 rfl) (by decide) (fun c5 => ?_) (fun c5 => ?_)
      · have h := if_p h c5
        exact k_Num_isGreaterThan_54 hC hA hK   H locs ls hP hD hS   (lv_sub hl [] rfl) h
      · have h := if_n h c5
        refine lv_aload_n hx hb (dt_at dt_Num_isGreaterThan 24 rfl) rfl (lv_at hl 2 rfl) ?_
        refine lv_aload_n hx hb (dt_at dt_Num_isGreaterThan 25 rfl) rfl (lv_at hl 3 rfl) ?_
        obtain ⟨r6, h_r6, h⟩ := ob_of h
        have hPc := hP
        have hDc : va_D A (dT a) := dD (ws' := dT a) hD rfl
        have hKc := hK
        have hF := va_free (wc := dT a) hDc hS hA [0, 1, 2, 3, 4, 5, 6, 7, 8] rfl
        have hd : va_D (fun _ => True) (dT a) := hDc.weaken (fun _ _ _ _ => trivial)
        refine va_calli (va_runV (As := [.ref (a 7)]) (rest := []) ⟨hx, hb, hml, hown, hts⟩ (c_Num_isLargerThan l D a q L R hd H.size  g0 g1 g2 g3 g4 g5 g6 g7 g8 g9 g10 g11 g12 g13 g14 g15 g16   r6 h_r6) (cwV 1 hts (gd_V (m_3 47 rfl rfl) (m_3 49 rfl rfl) (m_s 19 rfl rfl) (m_1 3 rfl rfl) (m_3 50 rfl rfl)) rfl rfl rfl (by decide +kernel) ⟨Nat.le_of_ble_eq_true rfl, Nat.le_of_ble_eq_true rfl⟩) ⟨fun a U g mk q => ⟨q.1, q.2.1, q.2.2.1, va_K.moved (u := U) (U := U.calling g mk a) (Vm.Alike.refl U.vm) q.2.2.2⟩, va_recv hK hP (ci := 3) (q0 := 5) rfl rfl, fun U hU hW => ⟨rfl, by rw [hU], by rw [hU]; exact hPc, va_K.moved hW.alike hKc⟩⟩ rfl rfl hl.1 rfl (lv_room (Nat.le_of_ble_eq_true rfl)) (dt_at dt_Num_isGreaterThan 26 rfl) ⟨Nat.le_of_ble_eq_true rfl, Nat.le_of_ble_eq_true rfl⟩) hS (fun x _ h9 => hF x h9) hF (fun u_r6 uu t H1 locs ht hvm hw hB hz1 hk1 hS => ?_)
        obtain rfl : r6 = u_r6 := hw.symm
        rw [ht] at hB
        have hP : va_P D CLS (wT a q L R g0 g1 g2 g3 g4 g5 g6 g7 g8 g9 g10 g11 g12 g13 g14 g15 g16) H1 := hB
        have hD : va_D A (wT a q L R g0 g1 g2 g3 g4 g5 g6 g7 g8 g9 g10 g11 g12 g13 g14 g15 g16) := dD hD rfl
        have hSz : s.heap.size ≤ H1.size := hS.1
        clear hk1 hz1 hPc hF hB ht
        generalize H1 = H at hP hS hSz  ⊢
        refine lv_if_eq (tgt := 54) hx hb (dt_at dt_Num_isGreaterThan 27 rfl) (by decide) (fun c7 => ?_) (fun c7 => ?_)
        · have h := if_p h c7
          exact k_Num_isGreaterThan_54 hC hA hK   H locs ls hP hD hS   (lv_sub hl [] rfl) h
        · have h := if_n h c7
          refine lv_iconst (v := 1) hx hb (dt_at dt_Num_isGreaterThan 28 rfl) (by decide) ?_
          refine lv_goto (tgt := 55) hx hb (dt_at dt_Num_isGreaterThan 29 rfl) (by decide) ?_
          exact k_Num_isGreaterThan_55 hC hA hK   (1 : Int32) H locs ls hP hD hS   (lv_sub hl [] rfl) h
    · have h := if_n h c4
      refine lv_aload_n hx hb (dt_at dt_Num_isGreaterThan 18 rfl) rfl (lv_at hl 3 rfl) ?_
      refine lv_aload_n hx hb (dt_at dt_Num_isGreaterThan 19 rfl) rfl (lv_at hl 2 rfl) ?_
      obtain ⟨r8, h_r8, h⟩ := ob_of h
      have hPc : va_P D CLS (wT (sw_a a) (sw_q q) L R g0 g1 g2 g3 g4 g5 g6 g12 g13 g14 g15 g16 g7 g8 g9 g10 g11) H := hP.sub [0, 1, 2, 3, 4, 7, 8, 5, 6] rfl
      have hDc : va_D A (dT (sw_a a)) := (dD (ws' := dT a) hD rfl).sub [0, 1, 2, 3, 4, 7, 8, 5, 6] (by decide) rfl
      have hKc : va_K D CLS (tT (sw_q q)) s := hK.sub [0, 1, 2, 4, 3] rfl
      have hF := va_free (wc := dT (sw_a a)) hDc hS hA [0, 1, 2, 3, 4, 5, 6, 7, 8] rfl
      have hd : va_D (fun _ => True) (dT (sw_a a)) := hDc.weaken (fun _ _ _ _ => trivial)
      refine va_calli (va_runV (As := [.ref (a 5)]) (rest := []) ⟨hx, hb, hml, hown, hts⟩ (c_Num_isLargerThan l D (sw_a a) (sw_q q) L R hd H.size  g0 g1 g2 g3 g4 g5 g6 g12 g13 g14 g15 g16 g7 g8 g9 g10 g11   r8 h_r8) (cwV 1 hts (gd_V (m_3 47 rfl rfl) (m_3 49 rfl rfl) (m_s 19 rfl rfl) (m_1 3 rfl rfl) (m_3 50 rfl rfl)) rfl rfl rfl (by decide +kernel) ⟨Nat.le_of_ble_eq_true rfl, Nat.le_of_ble_eq_true rfl⟩) ⟨fun a U g mk q => ⟨q.1, q.2.1, q.2.2.1, va_K.moved (u := U) (U := U.calling g mk a) (Vm.Alike.refl U.vm) q.2.2.2⟩, va_recv hK hP (ci := 3) (q0 := 7) rfl rfl, fun U hU hW => ⟨rfl, by rw [hU], by rw [hU]; exact hPc, va_K.moved hW.alike hKc⟩⟩ rfl rfl hl.1 rfl (lv_room (Nat.le_of_ble_eq_true rfl)) (dt_at dt_Num_isGreaterThan 20 rfl) ⟨Nat.le_of_ble_eq_true rfl, Nat.le_of_ble_eq_true rfl⟩) hS (fun x _ h9 => hF x h9) hF (fun u_r8 uu t H1 locs ht hvm hw hB hz1 hk1 hS => ?_)
      obtain rfl : r8 = u_r8 := hw.symm
      rw [ht] at hB
      have hP : va_P D CLS (wT a q L R g0 g1 g2 g3 g4 g5 g6 g7 g8 g9 g10 g11 g12 g13 g14 g15 g16) H1 := hB.sub [0, 1, 2, 3, 4, 7, 8, 5, 6] rfl
      have hD : va_D A (wT a q L R g0 g1 g2 g3 g4 g5 g6 g7 g8 g9 g10 g11 g12 g13 g14 g15 g16) := dD hD rfl
      have hSz : s.heap.size ≤ H1.size := hS.1
      clear hk1 hz1 hPc hF hB ht
      generalize H1 = H at hP hS hSz  ⊢
      refine lv_goto (tgt := 55) hx hb (dt_at dt_Num_isGreaterThan 21 rfl) (by decide) ?_
      exact k_Num_isGreaterThan_55 hC hA hK   r8 H locs ls hP hD hS   (lv_sub hl [] rfl) h
  · have h := if_n h c3
    refine lv_iload_n hx hb (dt_at dt_Num_isGreaterThan 9 rfl) rfl (lv_at hl 1 rfl) ?_
    refine lv_iload_n hx hb (dt_at dt_Num_isGreaterThan 10 rfl) rfl (lv_at hl 0 rfl) ?_
    refine lv_icmp_le (tgt := 24) hx hb (dt_at dt_Num_isGreaterThan 11 rfl) (by decide) (fun c9 => ?_) (fun c9 => ?_)
    · have h := if_p h c9
      refine lv_iconst (v := 0) hx hb (dt_at dt_Num_isGreaterThan 14 rfl) (by decide) ?_
      exact k_Num_isGreaterThan_25 hC hA hK   (0 : Int32) H locs ls hP hD hS   (lv_sub hl [] rfl) h
    · have h := if_n h c9
      refine lv_iconst (v := 1) hx hb (dt_at dt_Num_isGreaterThan 12 rfl) (by decide) ?_
      refine lv_goto (tgt := 25) hx hb (dt_at dt_Num_isGreaterThan 13 rfl) (by decide) ?_
      exact k_Num_isGreaterThan_25 hC hA hK   (1 : Int32) H locs ls hP hD hS   (lv_sub hl [] rfl) h
set_option maxRecDepth 100000 in
set_option maxHeartbeats 4000000 in
theorem c_Num_isGreaterThan (l : Launch) (D : va_G) (a : Nat → Nat) (q : Nat → ClassId) (L : Nat) (R : Nat) (hd : va_D (fun _ => True) (dT a)) (sz : Nat)  (g0 : Int32) (g1 : Int32) (g2 : Nat → Int32) (g3 : Nat → Option Nat) (g4 : Int32) (g5 : Int32) (g6 : Nat → Int32) (g7 : Int32) (g8 : Int64) (g9 : Int32) (g10 : Int32) (g11 : Nat → Int32) (g12 : Int32) (g13 : Int64) (g14 : Int32) (g15 : Int32) (g16 : Nat → Int32)   (r0 : Int32) (h : f_Num_isGreaterThan g7 g8 g10 g12 g13 g15 = some r0) : Met l (⟨"OutwardTape$Numeral", "isGreaterThan", "(LOutwardTape$Numeral;)Z"⟩ : MethodName) (WSm (⟨"OutwardTape$Numeral", "isGreaterThan", "(LOutwardTape$Numeral;)Z"⟩ : MethodName) prog_6_method_5_code 4 (some .boolean)) rm_Num_isGreaterThan (va_Pc [.ref (a 5), .ref (a 7)] (fun U => U.heap.size = sz ∧ va_P D CLS (wT a q L R g0 g1 g2 g3 g4 g5 g6 g7 g8 g9 g10 g11 g12 g13 g14 g15 g16) U.heap ∧ va_K D CLS (tT q) U)) (va_Qi (fun (r : Int32) (_ : Unit) => r = r0) (fun _ t => va_P D CLS (wT a q L R g0 g1 g2 g3 g4 g5 g6 g7 g8 g9 g10 g11 g12 g13 g14 g15 g16) t.heap) (va_A (dT a) sz)) 0 0 (va_A (dT a) sz) := by
  refine Met.ofW (cc := prog_6_method_5_code) (maxL := 4) (ret := (some .boolean)) (by decide) rfl ?_
  intro p e s m args below meth c s₁ B hml hv
  obtain ⟨rfl, hsz, hP, hK⟩ := hv
  subst hsz
  have hC := CX.of B hml rfl
  have hl := lv_entry [.ref (a 5), .ref (a 7)] (n := 4) (Nat.le_of_ble_eq_true rfl)
  rw [lg_entry_eq]
  generalize (lg_sl [.ref (a 5), .ref (a 7)] ++ List.replicate (4 - (lg_sl [.ref (a 5), .ref (a 7)]).length) Slot.unset).toArray = ls at hl ⊢
  have hl : lv_has ls 4 [(0, .ref (a 5)), (1, .ref (a 7))] := hl
  exact k_Num_isGreaterThan_0  hC (fun x h => Or.inr h) hK     s.heap [] ls hP (dD hd.self rfl) va_S.rf   (lv_sub hl [0, 1] rfl) h
abbrev rm_Num_byFive : Room := { frames := 0, cells := 0, slots := 0, locals := 0 }
set_option maxRecDepth 100000 in
set_option maxHeartbeats 4000000 in
theorem k_Num_byFive_49 {p : Program} {l : Launch} {e : Env} {s : State} {m : MethodId} {args : Array Value} {below : List Frame} {meth : Method} {c : Code} {D : va_G} {a : Nat → Nat} {q : Nat → ClassId} {L : Nat} {R : Nat} {A : Nat → Prop} (hC : CX p s m args meth c prog_6_method_10_code 3 "OutwardTape$Numeral" (some .boolean)) (hA : ∀ x, s.heap.size ≤ x → A x) (hK : va_K D CLS (tT q) s) {g0 : Int32} {g1 : Int32} {g2 : Nat → Int32} {g3 : Nat → Option Nat} {g4 : Int32} {g5 : Int32} {g6 : Nat → Int32} {g7 : Int32} {g8 : Int64} {g9 : Int32} {g10 : Int32} {g12 : Int32} {g13 : Int64} {g14 : Int32} {g15 : Int32} {g16 : Nat → Int32} {r0 : Int32 × (Nat → Int32)} : ∀ (s0 : Int32) (g11 : Nat → Int32) (H : Heap) (locs : List Loc) (ls : Array Slot), va_P D CLS (wT a q L R g0 g1 g2 g3 g4 g5 g6 g7 g8 g9 g10 g11 g12 g13 g14 g15 g16) H → va_D A (wT a q L R g0 g1 g2 g3 g4 g5 g6 g7 g8 g9 g10 g11 g12 g13 g14 g15 g16) → va_S A s.heap H locs → lv_has ls 3 [] → f_Num_byFive_49  s0 g11 = some r0 → W p l e rm_Num_byFive s m args below meth c H locs 0 0 (MQ below (va_Qi (fun (r : Int32) (_ : Unit) => r = r0.1) (fun _ t => va_P D CLS (wT a q L R g0 g1 g2 g3 g4 g5 g6 g7 g8 g9 g10 r0.2 g12 g13 g14 g15 g16) t.heap) A) args s 0 0 A) (F0 m 49 ls [.int s0]) := by
  obtain ⟨hx, hb, hml, hown, hts, hr, hlocks⟩ := id hC
  intro s0 g11 H locs ls hP hD hS hl h
  rw [f_Num_byFive_49] at h
  have hSz : s.heap.size ≤ H.size := hS.1
  obtain ⟨hz, h⟩ := og_of h
  obtain rfl := os_of h
  exact W.zret (v := s0) (ty := .boolean) hx hb hr (j_z_nar hz) (fun t ht hW => ⟨⟨_, (), rfl, rfl, (hPt hP ht)⟩, hS.F ht⟩) hS.2.2 (dt_at dt_Num_byFive 33 rfl)
set_option maxRecDepth 100000 in
set_option maxHeartbeats 4000000 in
theorem k_Num_byFive_5 {p : Program} {l : Launch} {e : Env} {s : State} {m : MethodId} {args : Array Value} {below : List Frame} {meth : Method} {c : Code} {D : va_G} {a : Nat → Nat} {q : Nat → ClassId} {L : Nat} {R : Nat} {A : Nat → Prop} (hC : CX p s m args meth c prog_6_method_10_code 3 "OutwardTape$Numeral" (some .boolean)) (hA : ∀ x, s.heap.size ≤ x → A x) (hK : va_K D CLS (tT q) s) {g0 : Int32} {g1 : Int32} {g2 : Nat → Int32} {g3 : Nat → Option Nat} {g4 : Int32} {g5 : Int32} {g6 : Nat → Int32} {g7 : Int32} {g8 : Int64} {g9 : Int32} {g10 : Int32} {g12 : Int32} {g13 : Int64} {g14 : Int32} {g15 : Int32} {g16 : Nat → Int32} {r0 : Int32 × (Nat → Int32)} : ∀ n : Nat, ∀ (v1 : Int32) (v2 : Int32) (g11 : Nat → Int32) (H : Heap) (locs : List Loc) (ls : Array Slot), va_P D CLS (wT a q L R g0 g1 g2 g3 g4 g5 g6 g7 g8 g9 g10 g11 g12 g13 g14 g15 g16) H → va_D A (wT a q L R g0 g1 g2 g3 g4 g5 g6 g7 g8 g9 g10 g11 g12 g13 g14 g15 g16) → va_S A s.heap H locs → lv_has ls 3 [(0, .ref (a 5)), (1, .int v1), (2, .int v2)] → f_Num_byFive_5  n v1 v2 g11 = some r0 → W p l e rm_Num_byFive s m args below meth c H locs 0 0 (MQ below (va_Qi (fun (r : Int32) (_ : Unit) => r = r0.1) (fun _ t => va_P D CLS (wT a q L R g0 g1 g2 g3 g4 g5 g6 g7 g8 g9 g10 r0.2 g12 g13 g14 g15 g16) t.heap) A) args s 0 0 A) (F0 m 5 ls []) := by
  obtain ⟨hx, hb, hml, hown, hts, hr, hlocks⟩ := id hC
  intro n
  induction n with
  | zero => intro v1 v2 g11 H locs ls hP hD hS hl h; cases h
  | succ n ih =>
    intro v1 v2 g11 H locs ls hP hD hS hl h
    rw [f_Num_byFive_5] at h
    have hSz : s.heap.size ≤ H.size := hS.1
    refine lv_iload_n hx hb (dt_at dt_Num_byFive 4 rfl) rfl (lv_at hl 2 rfl) ?_
    refine lv_if_lt (tgt := 40) hx hb (dt_at dt_Num_byFive 5 rfl) (by decide) (fun c1 => ?_) (fun c1 => ?_)
    · have h := if_p h c1
      refine lv_iload_n hx hb (dt_at dt_Num_byFive 28 rfl) rfl (lv_at hl 1 rfl) ?_
      refine lv_if_ne (tgt := 48) hx hb (dt_at dt_Num_byFive 29 rfl) (by decide) (fun c2 => ?_) (fun c2 => ?_)
      · have h := if_n h c2
        refine lv_iconst (v := 0) hx hb (dt_at dt_Num_byFive 32 rfl) (by decide) ?_
        exact k_Num_byFive_49 hC hA hK   (0 : Int32) g11 H locs ls hP hD hS   (lv_sub hl [] rfl) h
      · have h := if_p h c2
        refine lv_iconst (v := 1) hx hb (dt_at dt_Num_byFive 30 rfl) (by decide) ?_
        refine lv_goto (tgt := 49) hx hb (dt_at dt_Num_byFive 31 rfl) (by decide) ?_
        exact k_Num_byFive_49 hC hA hK   (1 : Int32) g11 H locs ls hP hD hS   (lv_sub hl [] rfl) h
    · have h := if_n h c1
      refine lv_iload_n hx hb (dt_at dt_Num_byFive 6 rfl) rfl (lv_at hl 1 rfl) ?_
      refine lv_bipush (v := 8) hx hb (dt_at dt_Num_byFive 7 rfl) (by decide) ?_
      refine lv_ishl hx hb (dt_at dt_Num_byFive 8 rfl) ?_
      refine lv_aload_n hx hb (dt_at dt_Num_byFive 9 rfl) rfl (lv_at hl 0 rfl) ?_
      refine va_get (D := D) (ci := 3) (v := .ref (a 6)) (C := "OutwardTape$Numeral") (T := T_Num) (N := 5) hx hb hts in_Num hown hK hP 5 rfl rfl 0 (by decide) (hts (Cond.fieldLink "OutwardTape$Numeral" 9 "OutwardTape$Numeral" "row" "[I") (m_1 45 rfl rfl)) (fun _ h9 => h9) rfl (dt_at dt_Num_byFive 10 rfl) ?_
      refine lv_iload_n hx hb (dt_at dt_Num_byFive 11 rfl) rfl (lv_at hl 2 rfl) ?_
      obtain ⟨z3, h⟩ := og_of h
      refine va_iald hx hb hK hP 6 3 rfl rfl z3 (dt_at dt_Num_byFive 12 rfl) ?_
      refine lv_ior hx hb (dt_at dt_Num_byFive 13 rfl) ?_
      obtain ⟨t4, e_t4, h⟩ := ol_of h
      refine lv_topi (fun u_t4 q_t4 => ?_)
      obtain rfl : t4 = u_t4 := e_t4.trans q_t4.symm
      refine lv_istore_n (lv' := [(1, .int t4), (0, .ref (a 5)), (2, .int v2)]) hx hb (dt_at dt_Num_byFive 14 rfl) rfl hl (by decide) rfl (fun ls hl => ?_)
      refine lv_aload_n hx hb (dt_at dt_Num_byFive 15 rfl) rfl (lv_at hl 1 rfl) ?_
      refine va_get (D := D) (ci := 3) (v := .ref (a 6)) (C := "OutwardTape$Numeral") (T := T_Num) (N := 5) hx hb hts in_Num hown hK hP 5 rfl rfl 0 (by decide) (hts (Cond.fieldLink "OutwardTape$Numeral" 9 "OutwardTape$Numeral" "row" "[I") (m_1 45 rfl rfl)) (fun _ h9 => h9) rfl (dt_at dt_Num_byFive 16 rfl) ?_
      refine lv_iload_n hx hb (dt_at dt_Num_byFive 17 rfl) rfl (lv_at hl 2 rfl) ?_
      refine lv_iload_n hx hb (dt_at dt_Num_byFive 18 rfl) rfl (lv_at hl 0 rfl) ?_
      refine lv_iconst (v := 5) hx hb (dt_at dt_Num_byFive 19 rfl) (by decide) ?_
      refine lv_idiv hx hb (dt_at dt_Num_byFive 20 rfl) (by decide) ?_
      obtain ⟨z5, h⟩ := og_of h
      obtain ⟨t6, e_t6, h⟩ := ol_of h
      refine va_iast hx hb hK hP hD hS 6 3 rfl rfl z5 (dt_at dt_Num_byFive 21 rfl) (fun H locs hP hD hS => ?_)
      have hP : va_P D CLS (wT a q L R g0 g1 g2 g3 g4 g5 g6 g7 g8 g9 g10 t6 g12 g13 g14 g15 g16) H := by rw [e_t6]; exact hP
      have hD : va_D A (wT a q L R g0 g1 g2 g3 g4 g5 g6 g7 g8 g9 g10 t6 g12 g13 g14 g15 g16) := dD hD rfl
      refine lv_iload_n hx hb (dt_at dt_Num_byFive 22 rfl) rfl (lv_at hl 0 rfl) ?_
      refine lv_iconst (v := 5) hx hb (dt_at dt_Num_byFive 23 rfl) (by decide) ?_
      refine lv_irem hx hb (dt_at dt_Num_byFive 24 rfl) (by decide) ?_
      obtain ⟨t7, e_t7, h⟩ := ol_of h
      refine lv_topi (fun u_t7 q_t7 => ?_)
      obtain rfl : t7 = u_t7 := e_t7.trans q_t7.symm
      refine lv_istore_n (lv' := [(1, .int t7), (0, .ref (a 5)), (2, .int v2)]) hx hb (dt_at dt_Num_byFive 25 rfl) rfl hl (by decide) rfl (fun ls hl => ?_)
      obtain ⟨t8, e_t8, h⟩ := ol_of h
      refine lv_iinc (v := t8) (lv' := [(2, .int t8), (1, .int t7), (0, .ref (a 5))]) hx hb (dt_at dt_Num_byFive 26 rfl) hl (k := 2) rfl (by rw [e_t8]; rfl) (by decide) rfl (fun ls hl => ?_)
      refine lv_goto (tgt := 5) hx hb (dt_at dt_Num_byFive 27 rfl) (by decide) ?_
      exact ih t7 t8 t6 H locs ls hP hD hS   (lv_sub hl [2, 1, 0] rfl) h
set_option maxRecDepth 100000 in
set_option maxHeartbeats 4000000 in
theorem k_Num_byFive_0 {p : Program} {l : Launch} {e : Env} {s : State} {m : MethodId} {args : Array Value} {below : List Frame} {meth : Method} {c : Code} {D : va_G} {a : Nat → Nat} {q : Nat → ClassId} {L : Nat} {R : Nat} {A : Nat → Prop} (hC : CX p s m args meth c prog_6_method_10_code 3 "OutwardTape$Numeral" (some .boolean)) (hA : ∀ x, s.heap.size ≤ x → A x) (hK : va_K D CLS (tT q) s) {g0 : Int32} {g1 : Int32} {g2 : Nat → Int32} {g3 : Nat → Option Nat} {g4 : Int32} {g5 : Int32} {g6 : Nat → Int32} {g7 : Int32} {g8 : Int64} {g9 : Int32} {g10 : Int32} {g12 : Int32} {g13 : Int64} {g14 : Int32} {g15 : Int32} {g16 : Nat → Int32} {r0 : Int32 × (Nat → Int32)} : ∀  (g11 : Nat → Int32) (H : Heap) (locs : List Loc) (ls : Array Slot), va_P D CLS (wT a q L R g0 g1 g2 g3 g4 g5 g6 g7 g8 g9 g10 g11 g12 g13 g14 g15 g16) H → va_D A (wT a q L R g0 g1 g2 g3 g4 g5 g6 g7 g8 g9 g10 g11 g12 g13 g14 g15 g16) → va_S A s.heap H locs → lv_has ls 3 [(0, .ref (a 5))] → f_Num_byFive_0  g11 = some r0 → W p l e rm_Num_byFive s m args below meth c H locs 0 0 (MQ below (va_Qi (fun (r : Int32) (_ : Unit) => r = r0.1) (fun _ t => va_P D CLS (wT a q L R g0 g1 g2 g3 g4 g5 g6 g7 g8 g9 g10 r0.2 g12 g13 g14 g15 g16) t.heap) A) args s 0 0 A) (F0 m 0 ls []) := by
  obtain ⟨hx, hb, hml, hown, hts, hr, hlocks⟩ := id hC
  intro g11 H locs ls hP hD hS hl h
  rw [f_Num_byFive_0] at h
  have hSz : s.heap.size ≤ H.size := hS.1
  refine lv_iconst (v := 0) hx hb (dt_at dt_Num_byFive 0 rfl) (by decide) ?_
  refine lv_istore_n (lv' := [(1, .int (0 : Int32)), (0, .ref (a 5))]) hx hb (dt_at dt_Num_byFive 1 rfl) rfl hl (by decide) rfl (fun ls hl => ?_)
  refine lv_bipush (v := 27) hx hb (dt_at dt_Num_byFive 2 rfl) (by decide) ?_
  refine lv_istore_n (lv' := [(2, .int (27 : Int32)), (1, .int (0 : Int32)), (0, .ref (a 5))]) hx hb (dt_at dt_Num_byFive 3 rfl) rfl hl (by decide) rfl (fun ls hl => ?_)
  exact k_Num_byFive_5 hC hA hK  5000 (0 : Int32) (27 : Int32) g11 H locs ls hP hD hS   (lv_sub hl [2, 1, 0] rfl) h
set_option maxRecDepth 100000 in
set_option maxHeartbeats 4000000 in
theorem c_Num_byFive (l : Launch) (D : va_G) (a : Nat → Nat) (q : Nat → ClassId) (L : Nat) (R : Nat) (hd : va_D (fun _ => True) (dT a)) (sz : Nat)  (g0 : Int32) (g1 : Int32) (g2 : Nat → Int32) (g3 : Nat → Option Nat) (g4 : Int32) (g5 : Int32) (g6 : Nat → Int32) (g7 : Int32) (g8 : Int64) (g9 : Int32) (g10 : Int32) (g11 : Nat → Int32) (g12 : Int32) (g13 : Int64) (g14 : Int32) (g15 : Int32) (g16 : Nat → Int32)   (r0 : Int32 × (Nat → Int32)) (h : f_Num_byFive g11 = some r0) : Met l (⟨"OutwardTape$Numeral", "byFive", "()Z"⟩ : MethodName) (WSm (⟨"OutwardTape$Numeral", "byFive", "()Z"⟩ : MethodName) prog_6_method_10_code 3 (some .boolean)) rm_Num_byFive (va_Pc [.ref (a 5)] (fun U => U.heap.size = sz ∧ va_P D CLS (wT a q L R g0 g1 g2 g3 g4 g5 g6 g7 g8 g9 g10 g11 g12 g13 g14 g15 g16) U.heap ∧ va_K D CLS (tT q) U)) (va_Qi (fun (r : Int32) (_ : Unit) => r = r0.1) (fun _ t => va_P D CLS (wT a q L R g0 g1 g2 g3 g4 g5 g6 g7 g8 g9 g10 r0.2 g12 g13 g14 g15 g16) t.heap) (va_A (dT a) sz)) 0 0 (va_A (dT a) sz) := by
  refine Met.ofW (cc := prog_6_method_10_code) (maxL := 3) (ret := (some .boolean)) (by decide) rfl ?_
  intro p e s m args below meth c s₁ B hml hv
  obtain ⟨rfl, hsz, hP, hK⟩ := hv
  subst hsz
  have hC := CX.of B hml rfl
  have hl := lv_entry [.ref (a 5)] (n := 3) (Nat.le_of_ble_eq_true rfl)
  rw [lg_entry_eq]
  generalize (lg_sl [.ref (a 5)] ++ List.replicate (3 - (lg_sl [.ref (a 5)]).length) Slot.unset).toArray = ls at hl ⊢
  have hl : lv_has ls 3 [(0, .ref (a 5))] := hl
  exact k_Num_byFive_0  hC (fun x h => Or.inr h) hK  g11   s.heap [] ls hP (dD hd.self rfl) va_S.rf   (lv_sub hl [0] rfl) h
abbrev rm_Num_gathered : Room := { frames := 2, cells := 0, slots := 0, locals := 60 }
set_option maxRecDepth 100000 in
set_option maxHeartbeats 4000000 in
theorem k_Num_gathered_69 {p : Program} {l : Launch} {e : Env} {s : State} {m : MethodId} {args : Array Value} {below : List Frame} {meth : Method} {c : Code} {D : va_G} {a : Nat → Nat} {q : Nat → ClassId} {L : Nat} {R : Nat} {A : Nat → Prop} (hC : CX p s m args meth c prog_6_method_11_code 9 "OutwardTape$Numeral" (some .long)) (hA : ∀ x, s.heap.size ≤ x → A x) (hK : va_K D CLS (tT q) s) {g0 : Int32} {g1 : Int32} {g2 : Nat → Int32} {g3 : Nat → Option Nat} {g4 : Int32} {g5 : Int32} {g6 : Nat → Int32} {g7 : Int32} {g8 : Int64} {g9 : Int32} {g10 : Int32} {g11 : Nat → Int32} {g12 : Int32} {g13 : Int64} {g14 : Int32} {g15 : Int32} {g16 : Nat → Int32} {r0 : Int64} (k13 : Int32 → Int64 → Int32 → Int32 → Int32 → Int32 → (Nat → Int32) → Option (Int64)) (hk13 : ∀ (v3 : Int32) (v4 : Int64) (v6 : Int32) (v7 : Int32) (v8 : Int32)  (H : Heap) (locs : List Loc) (ls : Array Slot), va_P D CLS (wT a q L R g0 g1 g2 g3 g4 g5 g6 g7 g8 g9 g10 g11 g12 g13 g14 g15 g16) H → va_D A (wT a q L R g0 g1 g2 g3 g4 g5 g6 g7 g8 g9 g10 g11 g12 g13 g14 g15 g16) → va_S A s.heap H locs → lv_has ls 9 [(0, .ref (a 5)), (3, .int v3), (4, .long v4), (6, .int v6), (7, .int v7), (8, .int v8)] → k13 v3 v4 v6 v7 v8 g7 g11 = some r0 → W p l e rm_Num_gathered s m args below meth c H locs 0 0 (MQ below (va_Ql (fun (r : Int64) (_ : Unit) => r = r0) (fun _ t => va_P D CLS (wT a q L R g0 g1 g2 g3 g4 g5 g6 g7 g8 g9 g10 g11 g12 g13 g14 g15 g16) t.heap) A) args s 0 0 A) (F0 m 13 ls [])) : ∀ (v3 : Int32) (v4 : Int64) (v6 : Int32) (v7 : Int32) (v8 : Int32)  (H : Heap) (locs : List Loc) (ls : Array Slot), va_P D CLS (wT a q L R g0 g1 g2 g3 g4 g5 g6 g7 g8 g9 g10 g11 g12 g13 g14 g15 g16) H → va_D A (wT a q L R g0 g1 g2 g3 g4 g5 g6 g7 g8 g9 g10 g11 g12 g13 g14 g15 g16) → va_S A s.heap H locs → lv_has ls 9 [(0, .ref (a 5)), (3, .int v3), (4, .long v4), (6, .int v6), (7, .int v7), (8, .int v8)] → f_Num_gathered_69 k13 v3 v4 v6 v7 v8 g7 g11 = some r0 → W p l e rm_Num_gathered s m args below meth c H locs 0 0 (MQ below (va_Ql (fun (r : Int64) (_ : Unit) => r = r0) (fun _ t => va_P D CLS (wT a q L R g0 g1 g2 g3 g4 g5 g6 g7 g8 g9 g10 g11 g12 g13 g14 g15 g16) t.heap) A) args s 0 0 A) (F0 m 69 ls []) := by
  obtain ⟨hx, hb, hml, hown, hts, hr, hlocks⟩ := id hC
  intro v3 v4 v6 v7 v8 H locs ls hP hD hS hl h
  rw [f_Num_gathered_69] at h
  have hSz : s.heap.size ≤ H.size := hS.1
  obtain ⟨t1, e_t1, h⟩ := ol_of h
  refine lv_iinc (v := t1) (lv' := [(8, .int t1), (0, .ref (a 5)), (3, .int v3), (4, .long v4), (6, .int v6), (7, .int v7)]) hx hb (dt_at dt_Num_gathered 37 rfl) hl (k := 5) rfl (by rw [e_t1]; rfl) (by decide) rfl (fun ls hl => ?_)
  refine lv_goto (tgt := 13) hx hb (dt_at dt_Num_gathered 38 rfl) (by decide) ?_
  exact hk13 v3 v4 v6 v7 t1 H locs ls hP hD hS   (lv_sub hl [1, 2, 3, 4, 5, 0] rfl) h
set_option maxRecDepth 100000 in
set_option maxHeartbeats 4000000 in
theorem k_Num_gathered_63 {p : Program} {l : Launch} {e : Env} {s : State} {m : MethodId} {args : Array Value} {below : List Frame} {meth : Method} {c : Code} {D : va_G} {a : Nat → Nat} {q : Nat → ClassId} {L : Nat} {R : Nat} {A : Nat → Prop} (hC : CX p s m args meth c prog_6_method_11_code 9 "OutwardTape$Numeral" (some .long)) (hA : ∀ x, s.heap.size ≤ x → A x) (hK : va_K D CLS (tT q) s) {g0 : Int32} {g1 : Int32} {g2 : Nat → Int32} {g3 : Nat → Option Nat} {g4 : Int32} {g5 : Int32} {g6 : Nat → Int32} {g7 : Int32} {g8 : Int64} {g9 : Int32} {g10 : Int32} {g11 : Nat → Int32} {g12 : Int32} {g13 : Int64} {g14 : Int32} {g15 : Int32} {g16 : Nat → Int32} {r0 : Int64} (k13 : Int32 → Int64 → Int32 → Int32 → Int32 → Int32 → (Nat → Int32) → Option (Int64)) (hk13 : ∀ (v3 : Int32) (v4 : Int64) (v6 : Int32) (v7 : Int32) (v8 : Int32)  (H : Heap) (locs : List Loc) (ls : Array Slot), va_P D CLS (wT a q L R g0 g1 g2 g3 g4 g5 g6 g7 g8 g9 g10 g11 g12 g13 g14 g15 g16) H → va_D A (wT a q L R g0 g1 g2 g3 g4 g5 g6 g7 g8 g9 g10 g11 g12 g13 g14 g15 g16) → va_S A s.heap H locs → lv_has ls 9 [(0, .ref (a 5)), (3, .int v3), (4, .long v4), (6, .int v6), (7, .int v7), (8, .int v8)] → k13 v3 v4 v6 v7 v8 g7 g11 = some r0 → W p l e rm_Num_gathered s m args below meth c H locs 0 0 (MQ below (va_Ql (fun (r : Int64) (_ : Unit) => r = r0) (fun _ t => va_P D CLS (wT a q L R g0 g1 g2 g3 g4 g5 g6 g7 g8 g9 g10 g11 g12 g13 g14 g15 g16) t.heap) A) args s 0 0 A) (F0 m 13 ls [])) : ∀ (s0 : Int32) (s1 : Int32) (v3 : Int32) (v4 : Int64) (v6 : Int32) (v8 : Int32)  (H : Heap) (locs : List Loc) (ls : Array Slot), va_P D CLS (wT a q L R g0 g1 g2 g3 g4 g5 g6 g7 g8 g9 g10 g11 g12 g13 g14 g15 g16) H → va_D A (wT a q L R g0 g1 g2 g3 g4 g5 g6 g7 g8 g9 g10 g11 g12 g13 g14 g15 g16) → va_S A s.heap H locs → lv_has ls 9 [(0, .ref (a 5)), (3, .int v3), (4, .long v4), (6, .int v6), (8, .int v8)] → f_Num_gathered_63 k13 s0 s1 v3 v4 v6 v8 g7 g11 = some r0 → W p l e rm_Num_gathered s m args below meth c H locs 0 0 (MQ below (va_Ql (fun (r : Int64) (_ : Unit) => r = r0) (fun _ t => va_P D CLS (wT a q L R g0 g1 g2 g3 g4 g5 g6 g7 g8 g9 g10 g11 g12 g13 g14 g15 g16) t.heap) A) args s 0 0 A) (F0 m 63 ls [.int s0, .int s1]) := by
  obtain ⟨hx, hb, hml, hown, hts, hr, hlocks⟩ := id hC
  intro s0 s1 v3 v4 v6 v8 H locs ls hP hD hS hl h
  rw [f_Num_gathered_63] at h
  have hSz : s.heap.size ≤ H.size := hS.1
  refine lv_ior hx hb (dt_at dt_Num_gathered 34 rfl) ?_
  obtain ⟨t1, e_t1, h⟩ := ol_of h
  refine lv_topi (fun u_t1 q_t1 => ?_)
  obtain rfl : t1 = u_t1 := e_t1.trans q_t1.symm
  refine lv_istore (lv' := [(7, .int t1), (0, .ref (a 5)), (3, .int v3), (4, .long v4), (6, .int v6), (8, .int v8)]) hx hb (dt_at dt_Num_gathered 35 rfl) hl (by decide) rfl (fun ls hl => ?_)
  obtain ⟨t2, e_t2, h⟩ := ol_of h
  refine lv_iinc (v := t2) (lv' := [(6, .int t2), (7, .int t1), (0, .ref (a 5)), (3, .int v3), (4, .long v4), (8, .int v8)]) hx hb (dt_at dt_Num_gathered 36 rfl) hl (k := 4) rfl (by rw [e_t2]; rfl) (by decide) rfl (fun ls hl => ?_)
  exact k_Num_gathered_69 hC hA hK k13 hk13  v3 v4 t2 t1 v8 H locs ls hP hD hS   (lv_sub hl [2, 3, 4, 0, 1, 5] rfl) h
set_option maxRecDepth 100000 in
set_option maxHeartbeats 4000000 in
theorem k_Num_gathered_13 {p : Program} {l : Launch} {e : Env} {s : State} {m : MethodId} {args : Array Value} {below : List Frame} {meth : Method} {c : Code} {D : va_G} {a : Nat → Nat} {q : Nat → ClassId} {L : Nat} {R : Nat} {A : Nat → Prop} (hC : CX p s m args meth c prog_6_method_11_code 9 "OutwardTape$Numeral" (some .long)) (hA : ∀ x, s.heap.size ≤ x → A x) (hK : va_K D CLS (tT q) s) {g0 : Int32} {g1 : Int32} {g2 : Nat → Int32} {g3 : Nat → Option Nat} {g4 : Int32} {g5 : Int32} {g6 : Nat → Int32} {g7 : Int32} {g8 : Int64} {g9 : Int32} {g10 : Int32} {g11 : Nat → Int32} {g12 : Int32} {g13 : Int64} {g14 : Int32} {g15 : Int32} {g16 : Nat → Int32} {r0 : Int64} : ∀ n : Nat, ∀ (v3 : Int32) (v4 : Int64) (v6 : Int32) (v7 : Int32) (v8 : Int32)  (H : Heap) (locs : List Loc) (ls : Array Slot), va_P D CLS (wT a q L R g0 g1 g2 g3 g4 g5 g6 g7 g8 g9 g10 g11 g12 g13 g14 g15 g16) H → va_D A (wT a q L R g0 g1 g2 g3 g4 g5 g6 g7 g8 g9 g10 g11 g12 g13 g14 g15 g16) → va_S A s.heap H locs → lv_has ls 9 [(0, .ref (a 5)), (3, .int v3), (4, .long v4), (6, .int v6), (7, .int v7), (8, .int v8)] → f_Num_gathered_13  n v3 v4 v6 v7 v8 g7 g11 = some r0 → W p l e rm_Num_gathered s m args below meth c H locs 0 0 (MQ below (va_Ql (fun (r : Int64) (_ : Unit) => r = r0) (fun _ t => va_P D CLS (wT a q L R g0 g1 g2 g3 g4 g5 g6 g7 g8 g9 g10 g11 g12 g13 g14 g15 g16) t.heap) A) args s 0 0 A) (F0 m 13 ls []) := by
  obtain ⟨hx, hb, hml, hown, hts, hr, hlocks⟩ := id hC
  intro n
  induction n with
  | zero => intro v3 v4 v6 v7 v8 H locs ls hP hD hS hl h; cases h
  | succ n ih =>
    intro v3 v4 v6 v7 v8 H locs ls hP hD hS hl h
    rw [f_Num_gathered_13] at h
    have hSz : s.heap.size ≤ H.size := hS.1
    refine lv_iload hx hb (dt_at dt_Num_gathered 8 rfl) (lv_at hl 5 rfl) ?_
    refine lv_if_lt (tgt := 75) hx hb (dt_at dt_Num_gathered 9 rfl) (by decide) (fun c1 => ?_) (fun c1 => ?_)
    · have h := if_p h c1
      refine lv_aload_n hx hb (dt_at dt_Num_gathered 39 rfl) rfl (lv_at hl 0 rfl) ?_
      refine va_get (D := D) (ci := 3) (v := .int g7) (C := "OutwardTape$Numeral") (T := T_Num) (N := 5) hx hb hts in_Num hown hK hP 5 rfl rfl 1 (by decide) (hts (Cond.fieldLink "OutwardTape$Numeral" 13 "OutwardTape$Numeral" "negative" "Z") (m_1 46 rfl rfl)) (fun _ h9 => h9) rfl (dt_at dt_Num_gathered 40 rfl) ?_
      refine lv_lload hx hb (dt_at dt_Num_gathered 41 rfl) (lv_at hl 2 rfl) ?_
      refine lv_iload hx hb (dt_at dt_Num_gathered 42 rfl) (lv_at hl 4 rfl) ?_
      obtain ⟨r2, h_r2, h⟩ := ob_of h
      refine vp_callSl (W.runS (As := [.long v4, .int v7]) (rest := [.int g7]) ⟨hx, hb, hml, hown, hts⟩ (c_Exact_traced l v4 v7 r2 h_r2) (va_cwS 2 hts (gd_S (m_3 37 rfl rfl) (m_1 196 rfl rfl) (m_1 16 rfl rfl) (m_1 197 rfl rfl)) rfl rfl rfl (by decide +kernel) ⟨Nat.le_of_ble_eq_true rfl, Nat.le_of_ble_eq_true rfl⟩) ⟨fun _ _ _ _ q => q, fun U hU hW => ⟨rfl, trivial⟩⟩ rfl rfl hl.1 rfl (lv_room (Nat.le_of_ble_eq_true rfl)) (dt_at dt_Num_gathered 43 rfl) ⟨Nat.le_of_ble_eq_true rfl, Nat.le_of_ble_eq_true rfl⟩) (fun u_r2 q_r2 => ?_)
      obtain rfl : r2 = u_r2 := q_r2.symm
      refine lv_iload hx hb (dt_at dt_Num_gathered 44 rfl) (lv_at hl 3 rfl) ?_
      refine lv_iload_n hx hb (dt_at dt_Num_gathered 45 rfl) rfl (lv_at hl 1 rfl) ?_
      obtain ⟨r3, h_r3, h⟩ := ob_of h
      refine vp_callSl (W.runS (As := [.int g7, .long r2, .int v6, .int v3]) (rest := []) ⟨hx, hb, hml, hown, hts⟩ (c_Exact_rounded l g7 r2 v6 v3 r3 h_r3) (va_cwS 4 hts (gd_S (m_3 38 rfl rfl) (m_1 199 rfl rfl) (m_1 16 rfl rfl) (m_1 200 rfl rfl)) rfl rfl rfl (by decide +kernel) ⟨Nat.le_of_ble_eq_true rfl, Nat.le_of_ble_eq_true rfl⟩) ⟨fun _ _ _ _ q => q, fun U hU hW => ⟨rfl, trivial⟩⟩ rfl rfl hl.1 rfl (lv_room (Nat.le_of_ble_eq_true rfl)) (dt_at dt_Num_gathered 46 rfl) ⟨Nat.le_of_ble_eq_true rfl, Nat.le_of_ble_eq_true rfl⟩) (fun u_r3 q_r3 => ?_)
      obtain rfl : r3 = u_r3 := q_r3.symm
      obtain rfl := os_of h
      exact W.lret (v := r3) hx hb hr (fun t ht hW => ⟨⟨_, (), rfl, rfl, (hPt hP ht)⟩, hS.F ht⟩) hS.2.2 (dt_at dt_Num_gathered 47 rfl)
    · have h := if_n h c1
      refine lv_lload hx hb (dt_at dt_Num_gathered 10 rfl) (lv_at hl 2 rfl) ?_
      refine lv_ldc2 (v := 9007199254740992) hx hb hown (hts (Cond.constantLong "OutwardTape$Numeral" 53 (9007199254740992)) (m_3 36 rfl rfl)) (dt_at dt_Num_gathered 11 rfl) ?_
      refine lc_ge (tgt := 46) hx hb (dt_at dt_Num_gathered 12 rfl) (dt_at dt_Num_gathered 13 rfl) (by decide) (fun c4 => ?_) (fun c4 => ?_)
      · have h := if_p h c4
        refine lv_iload hx hb (dt_at dt_Num_gathered 25 rfl) (lv_at hl 4 rfl) ?_
        refine lv_aload_n hx hb (dt_at dt_Num_gathered 26 rfl) rfl (lv_at hl 0 rfl) ?_
        refine va_get (D := D) (ci := 3) (v := .ref (a 6)) (C := "OutwardTape$Numeral") (T := T_Num) (N := 5) hx hb hts in_Num hown hK hP 5 rfl rfl 0 (by decide) (hts (Cond.fieldLink "OutwardTape$Numeral" 9 "OutwardTape$Numeral" "row" "[I") (m_1 45 rfl rfl)) (fun _ h9 => h9) rfl (dt_at dt_Num_gathered 27 rfl) ?_
        refine lv_iload hx hb (dt_at dt_Num_gathered 28 rfl) (lv_at hl 5 rfl) ?_
        obtain ⟨z5, h⟩ := og_of h
        refine va_iald hx hb hK hP 6 3 rfl rfl z5 (dt_at dt_Num_gathered 29 rfl) ?_
        refine lv_if_eq (tgt := 62) hx hb (dt_at dt_Num_gathered 30 rfl) (by decide) (fun c6 => ?_) (fun c6 => ?_)
        · have h := if_p h c6
          refine lv_iconst (v := 0) hx hb (dt_at dt_Num_gathered 33 rfl) (by decide) ?_
          exact k_Num_gathered_63 hC hA hK (f_Num_gathered_13  n) ih  (0 : Int32) v7 v3 v4 v6 v8 H locs ls hP hD hS   (lv_sub hl [0, 1, 2, 3, 5] rfl) h
        · have h := if_n h c6
          refine lv_iconst (v := 1) hx hb (dt_at dt_Num_gathered 31 rfl) (by decide) ?_
          refine lv_goto (tgt := 63) hx hb (dt_at dt_Num_gathered 32 rfl) (by decide) ?_
          exact k_Num_gathered_63 hC hA hK (f_Num_gathered_13  n) ih  (1 : Int32) v7 v3 v4 v6 v8 H locs ls hP hD hS   (lv_sub hl [0, 1, 2, 3, 5] rfl) h
      · have h := if_n h c4
        refine lv_lload hx hb (dt_at dt_Num_gathered 14 rfl) (lv_at hl 2 rfl) ?_
        refine lv_bipush (v := 8) hx hb (dt_at dt_Num_gathered 15 rfl) (by decide) ?_
        refine lv_lshl (v := (j_lshl v4 (8 : Int32))) hx hb (dt_at dt_Num_gathered 16 rfl) rfl ?_
        refine lv_aload_n hx hb (dt_at dt_Num_gathered 17 rfl) rfl (lv_at hl 0 rfl) ?_
        refine va_get (D := D) (ci := 3) (v := .ref (a 6)) (C := "OutwardTape$Numeral") (T := T_Num) (N := 5) hx hb hts in_Num hown hK hP 5 rfl rfl 0 (by decide) (hts (Cond.fieldLink "OutwardTape$Numeral" 9 "OutwardTape$Numeral" "row" "[I") (m_1 45 rfl rfl)) (fun _ h9 => h9) rfl (dt_at dt_Num_gathered 18 rfl) ?_
        refine lv_iload hx hb (dt_at dt_Num_gathered 19 rfl) (lv_at hl 5 rfl) ?_
        obtain ⟨z7, h⟩ := og_of h
        refine va_iald hx hb hK hP 6 3 rfl rfl z7 (dt_at dt_Num_gathered 20 rfl) ?_
        refine lv_i2l (v := (g11 v8.toNatClampNeg).toInt64) hx hb (dt_at dt_Num_gathered 21 rfl) rfl ?_
        refine lv_lor hx hb (dt_at dt_Num_gathered 22 rfl) ?_
        obtain ⟨t8, e_t8, h⟩ := ol_of h
        refine lv_topl (fun u_t8 q_t8 => ?_)
        obtain rfl : t8 = u_t8 := e_t8.trans q_t8.symm
        refine lv_lstore (lv' := [(4, .long t8), (0, .ref (a 5)), (3, .int v3), (6, .int v6), (7, .int v7), (8, .int v8)]) hx hb (dt_at dt_Num_gathered 23 rfl) hl (by decide) rfl (fun ls hl => ?_)
        refine lv_goto (tgt := 69) hx hb (dt_at dt_Num_gathered 24 rfl) (by decide) ?_
        exact k_Num_gathered_69 hC hA hK (f_Num_gathered_13  n) ih  v3 t8 v6 v7 v8 H locs ls hP hD hS   (lv_sub hl [1, 2, 0, 3, 4, 5] rfl) h
set_option maxRecDepth 100000 in
set_option maxHeartbeats 4000000 in
theorem k_Num_gathered_0 {p : Program} {l : Launch} {e : Env} {s : State} {m : MethodId} {args : Array Value} {below : List Frame} {meth : Method} {c : Code} {D : va_G} {a : Nat → Nat} {q : Nat → ClassId} {L : Nat} {R : Nat} {A : Nat → Prop} (hC : CX p s m args meth c prog_6_method_11_code 9 "OutwardTape$Numeral" (some .long)) (hA : ∀ x, s.heap.size ≤ x → A x) (hK : va_K D CLS (tT q) s) {g0 : Int32} {g1 : Int32} {g2 : Nat → Int32} {g3 : Nat → Option Nat} {g4 : Int32} {g5 : Int32} {g6 : Nat → Int32} {g7 : Int32} {g8 : Int64} {g9 : Int32} {g10 : Int32} {g11 : Nat → Int32} {g12 : Int32} {g13 : Int64} {g14 : Int32} {g15 : Int32} {g16 : Nat → Int32} {r0 : Int64} : ∀ (v1 : Int32) (v2 : Int32) (v3 : Int32)  (H : Heap) (locs : List Loc) (ls : Array Slot), va_P D CLS (wT a q L R g0 g1 g2 g3 g4 g5 g6 g7 g8 g9 g10 g11 g12 g13 g14 g15 g16) H → va_D A (wT a q L R g0 g1 g2 g3 g4 g5 g6 g7 g8 g9 g10 g11 g12 g13 g14 g15 g16) → va_S A s.heap H locs → lv_has ls 9 [(0, .ref (a 5)), (1, .int v1), (2, .int v2), (3, .int v3)] → f_Num_gathered_0  v1 v2 v3 g7 g11 = some r0 → W p l e rm_Num_gathered s m args below meth c H locs 0 0 (MQ below (va_Ql (fun (r : Int64) (_ : Unit) => r = r0) (fun _ t => va_P D CLS (wT a q L R g0 g1 g2 g3 g4 g5 g6 g7 g8 g9 g10 g11 g12 g13 g14 g15 g16) t.heap) A) args s 0 0 A) (F0 m 0 ls []) := by
  obtain ⟨hx, hb, hml, hown, hts, hr, hlocks⟩ := id hC
  intro v1 v2 v3 H locs ls hP hD hS hl h
  rw [f_Num_gathered_0] at h
  have hSz : s.heap.size ≤ H.size := hS.1
  refine lv_lconst (v := 0) hx hb (dt_at dt_Num_gathered 0 rfl) (by decide) ?_
  refine lv_lstore (lv' := [(4, .long (0 : Int64)), (0, .ref (a 5)), (1, .int v1), (2, .int v2), (3, .int v3)]) hx hb (dt_at dt_Num_gathered 1 rfl) hl (by decide) rfl (fun ls hl => ?_)
  refine lv_iload_n hx hb (dt_at dt_Num_gathered 2 rfl) rfl (lv_at hl 2 rfl) ?_
  refine lv_istore (lv' := [(6, .int v1), (4, .long (0 : Int64)), (0, .ref (a 5)), (1, .int v1), (2, .int v2), (3, .int v3)]) hx hb (dt_at dt_Num_gathered 3 rfl) hl (by decide) rfl (fun ls hl => ?_)
  refine lv_iload_n hx hb (dt_at dt_Num_gathered 4 rfl) rfl (lv_at hl 4 rfl) ?_
  refine lv_istore (lv' := [(7, .int v2), (6, .int v1), (4, .long (0 : Int64)), (0, .ref (a 5)), (1, .int v1), (2, .int v2), (3, .int v3)]) hx hb (dt_at dt_Num_gathered 5 rfl) hl (by decide) rfl (fun ls hl => ?_)
  refine lv_bipush (v := 27) hx hb (dt_at dt_Num_gathered 6 rfl) (by decide) ?_
  refine lv_istore (lv' := [(8, .int (27 : Int32)), (7, .int v2), (6, .int v1), (4, .long (0 : Int64)), (0, .ref (a 5)), (1, .int v1), (2, .int v2), (3, .int v3)]) hx hb (dt_at dt_Num_gathered 7 rfl) hl (by decide) rfl (fun ls hl => ?_)
  exact k_Num_gathered_13 hC hA hK  5000 v3 (0 : Int64) v1 v2 (27 : Int32) H locs ls hP hD hS   (lv_sub hl [4, 7, 3, 2, 1, 0] rfl) h
set_option maxRecDepth 100000 in
set_option maxHeartbeats 4000000 in
theorem c_Num_gathered (l : Launch) (D : va_G) (a : Nat → Nat) (q : Nat → ClassId) (L : Nat) (R : Nat) (hd : va_D (fun _ => True) (dT a)) (sz : Nat) (a1 : Int32) (a2 : Int32) (a3 : Int32) (g0 : Int32) (g1 : Int32) (g2 : Nat → Int32) (g3 : Nat → Option Nat) (g4 : Int32) (g5 : Int32) (g6 : Nat → Int32) (g7 : Int32) (g8 : Int64) (g9 : Int32) (g10 : Int32) (g11 : Nat → Int32) (g12 : Int32) (g13 : Int64) (g14 : Int32) (g15 : Int32) (g16 : Nat → Int32)   (r0 : Int64) (h : f_Num_gathered a1 a2 a3 g7 g11 = some r0) : Met l (⟨"OutwardTape$Numeral", "gathered", "(IZI)J"⟩ : MethodName) (WSm (⟨"OutwardTape$Numeral", "gathered", "(IZI)J"⟩ : MethodName) prog_6_method_11_code 9 (some .long)) rm_Num_gathered (va_Pc [.ref (a 5), .int a1, .int a2, .int a3] (fun U => U.heap.size = sz ∧ va_P D CLS (wT a q L R g0 g1 g2 g3 g4 g5 g6 g7 g8 g9 g10 g11 g12 g13 g14 g15 g16) U.heap ∧ va_K D CLS (tT q) U)) (va_Ql (fun (r : Int64) (_ : Unit) => r = r0) (fun _ t => va_P D CLS (wT a q L R g0 g1 g2 g3 g4 g5 g6 g7 g8 g9 g10 g11 g12 g13 g14 g15 g16) t.heap) (va_A (dT a) sz)) 0 0 (va_A (dT a) sz) := by
  refine Met.ofW (cc := prog_6_method_11_code) (maxL := 9) (ret := (some .long)) (by decide) rfl ?_
  intro p e s m args below meth c s₁ B hml hv
  obtain ⟨rfl, hsz, hP, hK⟩ := hv
  subst hsz
  have hC := CX.of B hml rfl
  have hl := lv_entry [.ref (a 5), .int a1, .int a2, .int a3] (n := 9) (Nat.le_of_ble_eq_true rfl)
  rw [lg_entry_eq]
  generalize (lg_sl [.ref (a 5), .int a1, .int a2, .int a3] ++ List.replicate (9 - (lg_sl [.ref (a 5), .int a1, .int a2, .int a3]).length) Slot.unset).toArray = ls at hl ⊢
  have hl : lv_has ls 9 [(0, .ref (a 5)), (1, .int a1), (2, .int a2), (3, .int a3)] := hl
  exact k_Num_gathered_0  hC (fun x h => Or.inr h) hK a1 a2 a3    s.heap [] ls hP (dD hd.self rfl) va_S.rf   (lv_sub hl [0, 1, 2, 3] rfl) h
abbrev rm_Num_timesFive : Room := { frames := 0, cells := 0, slots := 0, locals := 0 }
set_option maxRecDepth 100000 in
set_option maxHeartbeats 4000000 in
theorem k_Num_timesFive_4 {p : Program} {l : Launch} {e : Env} {s : State} {m : MethodId} {args : Array Value} {below : List Frame} {meth : Method} {c : Code} {D : va_G} {a : Nat → Nat} {q : Nat → ClassId} {L : Nat} {R : Nat} {A : Nat → Prop} (hC : CX p s m args meth c prog_6_method_9_code 3 "OutwardTape$Numeral" none) (hA : ∀ x, s.heap.size ≤ x → A x) (hK : va_K D CLS (tT q) s) {g0 : Int32} {g1 : Int32} {g2 : Nat → Int32} {g3 : Nat → Option Nat} {g4 : Int32} {g5 : Int32} {g6 : Nat → Int32} {g7 : Int32} {g8 : Int64} {g9 : Int32} {g10 : Int32} {g12 : Int32} {g13 : Int64} {g14 : Int32} {g15 : Int32} {g16 : Nat → Int32} {r0 : (Nat → Int32)} : ∀ n : Nat, ∀ (v1 : Int32) (v2 : Int32) (g11 : Nat → Int32) (H : Heap) (locs : List Loc) (ls : Array Slot), va_P D CLS (wT a q L R g0 g1 g2 g3 g4 g5 g6 g7 g8 g9 g10 g11 g12 g13 g14 g15 g16) H → va_D A (wT a q L R g0 g1 g2 g3 g4 g5 g6 g7 g8 g9 g10 g11 g12 g13 g14 g15 g16) → va_S A s.heap H locs → lv_has ls 3 [(0, .ref (a 5)), (1, .int v1), (2, .int v2)] → f_Num_timesFive_4  n v1 v2 g11 = some r0 → W p l e rm_Num_timesFive s m args below meth c H locs 0 0 (MQ below (va_Qv (fun _ : Unit => True) (fun _ t => va_P D CLS (wT a q L R g0 g1 g2 g3 g4 g5 g6 g7 g8 g9 g10 r0 g12 g13 g14 g15 g16) t.heap) A) args s 0 0 A) (F0 m 4 ls []) := by
  obtain ⟨hx, hb, hml, hown, hts, hr, hlocks⟩ := id hC
  intro n
  induction n with
  | zero => intro v1 v2 g11 H locs ls hP hD hS hl h; cases h
  | succ n ih =>
    intro v1 v2 g11 H locs ls hP hD hS hl h
    rw [f_Num_timesFive_4] at h
    have hSz : s.heap.size ≤ H.size := hS.1
    refine lv_iload_n hx hb (dt_at dt_Num_timesFive 4 rfl) rfl (lv_at hl 2 rfl) ?_
    refine lv_bipush (v := 28) hx hb (dt_at dt_Num_timesFive 5 rfl) (by decide) ?_
    refine lv_icmp_ge (tgt := 43) hx hb (dt_at dt_Num_timesFive 6 rfl) (by decide) (fun c1 => ?_) (fun c1 => ?_)
    · have h := if_p h c1
      obtain rfl := os_of h
      exact W.vret hx hb hr (fun t ht hW => ⟨⟨(), rfl, trivial, (hPt hP ht)⟩, hS.F ht⟩) hS.2.2 (dt_at dt_Num_timesFive 29 rfl)
    · have h := if_n h c1
      refine lv_iload_n hx hb (dt_at dt_Num_timesFive 7 rfl) rfl (lv_at hl 1 rfl) ?_
      refine lv_aload_n hx hb (dt_at dt_Num_timesFive 8 rfl) rfl (lv_at hl 0 rfl) ?_
      refine va_get (D := D) (ci := 3) (v := .ref (a 6)) (C := "OutwardTape$Numeral") (T := T_Num) (N := 5) hx hb hts in_Num hown hK hP 5 rfl rfl 0 (by decide) (hts (Cond.fieldLink "OutwardTape$Numeral" 9 "OutwardTape$Numeral" "row" "[I") (m_1 45 rfl rfl)) (fun _ h9 => h9) rfl (dt_at dt_Num_timesFive 9 rfl) ?_
      refine lv_iload_n hx hb (dt_at dt_Num_timesFive 10 rfl) rfl (lv_at hl 2 rfl) ?_
      obtain ⟨z2, h⟩ := og_of h
      refine va_iald hx hb hK hP 6 3 rfl rfl z2 (dt_at dt_Num_timesFive 11 rfl) ?_
      refine lv_iconst (v := 5) hx hb (dt_at dt_Num_timesFive 12 rfl) (by decide) ?_
      refine lv_imul hx hb (dt_at dt_Num_timesFive 13 rfl) ?_
      refine lv_iadd hx hb (dt_at dt_Num_timesFive 14 rfl) ?_
      obtain ⟨t3, e_t3, h⟩ := ol_of h
      refine lv_topi (fun u_t3 q_t3 => ?_)
      obtain rfl : t3 = u_t3 := e_t3.trans q_t3.symm
      refine lv_istore_n (lv' := [(1, .int t3), (0, .ref (a 5)), (2, .int v2)]) hx hb (dt_at dt_Num_timesFive 15 rfl) rfl hl (by decide) rfl (fun ls hl => ?_)
      refine lv_aload_n hx hb (dt_at dt_Num_timesFive 16 rfl) rfl (lv_at hl 1 rfl) ?_
      refine va_get (D := D) (ci := 3) (v := .ref (a 6)) (C := "OutwardTape$Numeral") (T := T_Num) (N := 5) hx hb hts in_Num hown hK hP 5 rfl rfl 0 (by decide) (hts (Cond.fieldLink "OutwardTape$Numeral" 9 "OutwardTape$Numeral" "row" "[I") (m_1 45 rfl rfl)) (fun _ h9 => h9) rfl (dt_at dt_Num_timesFive 17 rfl) ?_
      refine lv_iload_n hx hb (dt_at dt_Num_timesFive 18 rfl) rfl (lv_at hl 2 rfl) ?_
      refine lv_iload_n hx hb (dt_at dt_Num_timesFive 19 rfl) rfl (lv_at hl 0 rfl) ?_
      refine lv_sipush (v := 255) hx hb (dt_at dt_Num_timesFive 20 rfl) (by decide) ?_
      refine lv_iand hx hb (dt_at dt_Num_timesFive 21 rfl) ?_
      obtain ⟨z4, h⟩ := og_of h
      obtain ⟨t5, e_t5, h⟩ := ol_of h
      refine va_iast hx hb hK hP hD hS 6 3 rfl rfl z4 (dt_at dt_Num_timesFive 22 rfl) (fun H locs hP hD hS => ?_)
      have hP : va_P D CLS (wT a q L R g0 g1 g2 g3 g4 g5 g6 g7 g8 g9 g10 t5 g12 g13 g14 g15 g16) H := by rw [e_t5]; exact hP
      have hD : va_D A (wT a q L R g0 g1 g2 g3 g4 g5 g6 g7 g8 g9 g10 t5 g12 g13 g14 g15 g16) := dD hD rfl
      refine lv_iload_n hx hb (dt_at dt_Num_timesFive 23 rfl) rfl (lv_at hl 0 rfl) ?_
      refine lv_bipush (v := 8) hx hb (dt_at dt_Num_timesFive 24 rfl) (by decide) ?_
      refine lv_iushr (v := (j_iushr t3 (8 : Int32))) hx hb (dt_at dt_Num_timesFive 25 rfl) rfl ?_
      obtain ⟨t6, e_t6, h⟩ := ol_of h
      refine lv_topi (fun u_t6 q_t6 => ?_)
      obtain rfl : t6 = u_t6 := e_t6.trans q_t6.symm
      refine lv_istore_n (lv' := [(1, .int t6), (0, .ref (a 5)), (2, .int v2)]) hx hb (dt_at dt_Num_timesFive 26 rfl) rfl hl (by decide) rfl (fun ls hl => ?_)
      obtain ⟨t7, e_t7, h⟩ := ol_of h
      refine lv_iinc (v := t7) (lv' := [(2, .int t7), (1, .int t6), (0, .ref (a 5))]) hx hb (dt_at dt_Num_timesFive 27 rfl) hl (k := 2) rfl (by rw [e_t7]; rfl) (by decide) rfl (fun ls hl => ?_)
      refine lv_goto (tgt := 4) hx hb (dt_at dt_Num_timesFive 28 rfl) (by decide) ?_
      exact ih t6 t7 t5 H locs ls hP hD hS   (lv_sub hl [2, 1, 0] rfl) h
set_option maxRecDepth 100000 in
set_option maxHeartbeats 4000000 in
theorem k_Num_timesFive_0 {p : Program} {l : Launch} {e : Env} {s : State} {m : MethodId} {args : Array Value} {below : List Frame} {meth : Method} {c : Code} {D : va_G} {a : Nat → Nat} {q : Nat → ClassId} {L : Nat} {R : Nat} {A : Nat → Prop} (hC : CX p s m args meth c prog_6_method_9_code 3 "OutwardTape$Numeral" none) (hA : ∀ x, s.heap.size ≤ x → A x) (hK : va_K D CLS (tT q) s) {g0 : Int32} {g1 : Int32} {g2 : Nat → Int32} {g3 : Nat → Option Nat} {g4 : Int32} {g5 : Int32} {g6 : Nat → Int32} {g7 : Int32} {g8 : Int64} {g9 : Int32} {g10 : Int32} {g12 : Int32} {g13 : Int64} {g14 : Int32} {g15 : Int32} {g16 : Nat → Int32} {r0 : (Nat → Int32)} : ∀  (g11 : Nat → Int32) (H : Heap) (locs : List Loc) (ls : Array Slot), va_P D CLS (wT a q L R g0 g1 g2 g3 g4 g5 g6 g7 g8 g9 g10 g11 g12 g13 g14 g15 g16) H → va_D A (wT a q L R g0 g1 g2 g3 g4 g5 g6 g7 g8 g9 g10 g11 g12 g13 g14 g15 g16) → va_S A s.heap H locs → lv_has ls 3 [(0, .ref (a 5))] → f_Num_timesFive_0  g11 = some r0 → W p l e rm_Num_timesFive s m args below meth c H locs 0 0 (MQ below (va_Qv (fun _ : Unit => True) (fun _ t => va_P D CLS (wT a q L R g0 g1 g2 g3 g4 g5 g6 g7 g8 g9 g10 r0 g12 g13 g14 g15 g16) t.heap) A) args s 0 0 A) (F0 m 0 ls []) := by
  obtain ⟨hx, hb, hml, hown, hts, hr, hlocks⟩ := id hC
  intro g11 H locs ls hP hD hS hl h
  rw [f_Num_timesFive_0] at h
  have hSz : s.heap.size ≤ H.size := hS.1
  refine lv_iconst (v := 0) hx hb (dt_at dt_Num_timesFive 0 rfl) (by decide) ?_
  refine lv_istore_n (lv' := [(1, .int (0 : Int32)), (0, .ref (a 5))]) hx hb (dt_at dt_Num_timesFive 1 rfl) rfl hl (by decide) rfl (fun ls hl => ?_)
  refine lv_iconst (v := 0) hx hb (dt_at dt_Num_timesFive 2 rfl) (by decide) ?_
  refine lv_istore_n (lv' := [(2, .int (0 : Int32)), (1, .int (0 : Int32)), (0, .ref (a 5))]) hx hb (dt_at dt_Num_timesFive 3 rfl) rfl hl (by decide) rfl (fun ls hl => ?_)
  exact k_Num_timesFive_4 hC hA hK  5000 (0 : Int32) (0 : Int32) g11 H locs ls hP hD hS   (lv_sub hl [2, 1, 0] rfl) h
set_option maxRecDepth 100000 in
set_option maxHeartbeats 4000000 in
theorem c_Num_timesFive (l : Launch) (D : va_G) (a : Nat → Nat) (q : Nat → ClassId) (L : Nat) (R : Nat) (hd : va_D (fun _ => True) (dT a)) (sz : Nat)  (g0 : Int32) (g1 : Int32) (g2 : Nat → Int32) (g3 : Nat → Option Nat) (g4 : Int32) (g5 : Int32) (g6 : Nat → Int32) (g7 : Int32) (g8 : Int64) (g9 : Int32) (g10 : Int32) (g11 : Nat → Int32) (g12 : Int32) (g13 : Int64) (g14 : Int32) (g15 : Int32) (g16 : Nat → Int32)   (r0 : (Nat → Int32)) (h : f_Num_timesFive g11 = some r0) : Met l (⟨"OutwardTape$Numeral", "timesFive", "()V"⟩ : MethodName) (WSm (⟨"OutwardTape$Numeral", "timesFive", "()V"⟩ : MethodName) prog_6_method_9_code 3 none) rm_Num_timesFive (va_Pc [.ref (a 5)] (fun U => U.heap.size = sz ∧ va_P D CLS (wT a q L R g0 g1 g2 g3 g4 g5 g6 g7 g8 g9 g10 g11 g12 g13 g14 g15 g16) U.heap ∧ va_K D CLS (tT q) U)) (va_Qv (fun _ : Unit => True) (fun _ t => va_P D CLS (wT a q L R g0 g1 g2 g3 g4 g5 g6 g7 g8 g9 g10 r0 g12 g13 g14 g15 g16) t.heap) (va_A (dT a) sz)) 0 0 (va_A (dT a) sz) := by
  refine Met.ofW (cc := prog_6_method_9_code) (maxL := 3) (ret := none) (by decide) rfl ?_
  intro p e s m args below meth c s₁ B hml hv
  obtain ⟨rfl, hsz, hP, hK⟩ := hv
  subst hsz
  have hC := CX.of B hml rfl
  have hl := lv_entry [.ref (a 5)] (n := 3) (Nat.le_of_ble_eq_true rfl)
  rw [lg_entry_eq]
  generalize (lg_sl [.ref (a 5)] ++ List.replicate (3 - (lg_sl [.ref (a 5)]).length) Slot.unset).toArray = ls at hl ⊢
  have hl : lv_has ls 3 [(0, .ref (a 5))] := hl
  exact k_Num_timesFive_0  hC (fun x h => Or.inr h) hK  g11   s.heap [] ls hP (dD hd.self rfl) va_S.rf   (lv_sub hl [0] rfl) h
abbrev rm_Num_rounded : Room := { frames := 3, cells := 0, slots := 0, locals := 88 }
set_option maxRecDepth 100000 in
set_option maxHeartbeats 4000000 in
theorem k_Num_rounded_142 {p : Program} {l : Launch} {e : Env} {s : State} {m : MethodId} {args : Array Value} {below : List Frame} {meth : Method} {c : Code} {D : va_G} {a : Nat → Nat} {q : Nat → ClassId} {L : Nat} {R : Nat} {A : Nat → Prop} (hC : CX p s m args meth c prog_6_method_8_code 5 "OutwardTape$Numeral" (some .long)) (hA : ∀ x, s.heap.size ≤ x → A x) (hK : va_K D CLS (tT q) s) {g0 : Int32} {g1 : Int32} {g2 : Nat → Int32} {g3 : Nat → Option Nat} {g4 : Int32} {g5 : Int32} {g6 : Nat → Int32} {g7 : Int32} {g8 : Int64} {g9 : Int32} {g10 : Int32} {g12 : Int32} {g13 : Int64} {g14 : Int32} {g15 : Int32} {g16 : Nat → Int32} {r0 : Int64 × (Nat → Int32)} : ∀ (v1 : Int32) (v2 : Int32) (v3 : Int32) (g11 : Nat → Int32) (H : Heap) (locs : List Loc) (ls : Array Slot), va_P D CLS (wT a q L R g0 g1 g2 g3 g4 g5 g6 g7 g8 g9 g10 g11 g12 g13 g14 g15 g16) H → va_D A (wT a q L R g0 g1 g2 g3 g4 g5 g6 g7 g8 g9 g10 g11 g12 g13 g14 g15 g16) → va_S A s.heap H locs → lv_has ls 5 [(0, .ref (a 5)), (1, .int v1), (2, .int v2), (3, .int v3)] → f_Num_rounded_142  v1 v2 v3 g7 g8 g10 g11 = some r0 → W p l e rm_Num_rounded s m args below meth c H locs 0 0 (MQ below (va_Ql (fun (r : Int64) (_ : Unit) => r = r0.1) (fun _ t => va_P D CLS (wT a q L R g0 g1 g2 g3 g4 g5 g6 g7 g8 g9 g10 r0.2 g12 g13 g14 g15 g16) t.heap) A) args s 0 0 A) (F0 m 142 ls []) := by
  obtain ⟨hx, hb, hml, hown, hts, hr, hlocks⟩ := id hC
  intro v1 v2 v3 g11 H locs ls hP hD hS hl h
  rw [f_Num_rounded_142] at h
  have hSz : s.heap.size ≤ H.size := hS.1
  refine lv_aload_n hx hb (dt_at dt_Num_rounded 74 rfl) rfl (lv_at hl 0 rfl) ?_
  refine lv_aload_n hx hb (dt_at dt_Num_rounded 75 rfl) rfl (lv_at hl 0 rfl) ?_
  refine va_get (D := D) (ci := 3) (v := .int g10) (C := "OutwardTape$Numeral") (T := T_Num) (N := 5) hx hb hts in_Num hown hK hP 5 rfl rfl 4 (by decide) (hts (Cond.fieldLink "OutwardTape$Numeral" 25 "OutwardTape$Numeral" "scale" "I") (m_1 49 rfl rfl)) (fun _ h9 => h9) rfl (dt_at dt_Num_rounded 76 rfl) ?_
  refine lv_bipush (v := 8) hx hb (dt_at dt_Num_rounded 77 rfl) (by decide) ?_
  refine lv_iload_n hx hb (dt_at dt_Num_rounded 78 rfl) rfl (lv_at hl 2 rfl) ?_
  refine lv_imul hx hb (dt_at dt_Num_rounded 79 rfl) ?_
  refine lv_isub hx hb (dt_at dt_Num_rounded 80 rfl) ?_
  refine lv_iload_n hx hb (dt_at dt_Num_rounded 81 rfl) rfl (lv_at hl 3 rfl) ?_
  refine lv_iload_n hx hb (dt_at dt_Num_rounded 82 rfl) rfl (lv_at hl 1 rfl) ?_
  obtain ⟨r1, h_r1, h⟩ := ob_of h
  have hPc := hP
  have hDc : va_D A (dT a) := dD (ws' := dT a) hD rfl
  have hKc := hK
  have hF := va_free (wc := dT a) hDc hS hA [0, 1, 2, 3, 4, 5, 6, 7, 8] rfl
  have hd : va_D (fun _ => True) (dT a) := hDc.weaken (fun _ _ _ _ => trivial)
  refine va_calll (va_runV (As := [.int (g10 - ((8 : Int32) * v2)), .int v3, .int v1]) (rest := []) ⟨hx, hb, hml, hown, hts⟩ (c_Num_gathered l D a q L R hd H.size (g10 - ((8 : Int32) * v2)) v3 v1 g0 g1 g2 g3 g4 g5 g6 g7 g8 g9 g10 g11 g12 g13 g14 g15 g16   r1 h_r1) (cwV 3 hts (gd_V (m_3 32 rfl rfl) (m_3 34 rfl rfl) (m_s 17 rfl rfl) (m_1 3 rfl rfl) (m_3 35 rfl rfl)) rfl rfl rfl (by decide +kernel) ⟨Nat.le_of_ble_eq_true rfl, Nat.le_of_ble_eq_true rfl⟩) ⟨fun a U g mk q => ⟨q.1, q.2.1, q.2.2.1, va_K.moved (u := U) (U := U.calling g mk a) (Vm.Alike.refl U.vm) q.2.2.2⟩, va_recv hK hP (ci := 3) (q0 := 5) rfl rfl, fun U hU hW => ⟨rfl, by rw [hU], by rw [hU]; exact hPc, va_K.moved hW.alike hKc⟩⟩ rfl rfl hl.1 rfl (lv_room (Nat.le_of_ble_eq_true rfl)) (dt_at dt_Num_rounded 83 rfl) ⟨Nat.le_of_ble_eq_true rfl, Nat.le_of_ble_eq_true rfl⟩) hS (fun x _ h9 => hF x h9) hF (fun u_r1 uu t H1 locs ht hvm hw hB hz1 hk1 hS => ?_)
  obtain rfl : r1 = u_r1 := hw.symm
  rw [ht] at hB
  have hP : va_P D CLS (wT a q L R g0 g1 g2 g3 g4 g5 g6 g7 g8 g9 g10 g11 g12 g13 g14 g15 g16) H1 := hB
  have hD : va_D A (wT a q L R g0 g1 g2 g3 g4 g5 g6 g7 g8 g9 g10 g11 g12 g13 g14 g15 g16) := dD hD rfl
  have hSz : s.heap.size ≤ H1.size := hS.1
  clear hk1 hz1 hPc hF hB ht
  generalize H1 = H at hP hS hSz  ⊢
  obtain rfl := os_of h
  exact W.lret (v := r1) hx hb hr (fun t ht hW => ⟨⟨_, (), rfl, rfl, (hPt hP ht)⟩, hS.F ht⟩) hS.2.2 (dt_at dt_Num_rounded 84 rfl)
set_option maxRecDepth 100000 in
set_option maxHeartbeats 4000000 in
theorem k_Num_rounded_134 {p : Program} {l : Launch} {e : Env} {s : State} {m : MethodId} {args : Array Value} {below : List Frame} {meth : Method} {c : Code} {D : va_G} {a : Nat → Nat} {q : Nat → ClassId} {L : Nat} {R : Nat} {A : Nat → Prop} (hC : CX p s m args meth c prog_6_method_8_code 5 "OutwardTape$Numeral" (some .long)) (hA : ∀ x, s.heap.size ≤ x → A x) (hK : va_K D CLS (tT q) s) {g0 : Int32} {g1 : Int32} {g2 : Nat → Int32} {g3 : Nat → Option Nat} {g4 : Int32} {g5 : Int32} {g6 : Nat → Int32} {g7 : Int32} {g8 : Int64} {g9 : Int32} {g10 : Int32} {g12 : Int32} {g13 : Int64} {g14 : Int32} {g15 : Int32} {g16 : Nat → Int32} {r0 : Int64 × (Nat → Int32)} (k104 : Int32 → Int32 → Int32 → Int32 → Int32 → Int64 → Int32 → (Nat → Int32) → Option (Int64 × (Nat → Int32))) (hk104 : ∀ (v1 : Int32) (v2 : Int32) (v3 : Int32) (v4 : Int32) (g11 : Nat → Int32) (H : Heap) (locs : List Loc) (ls : Array Slot), va_P D CLS (wT a q L R g0 g1 g2 g3 g4 g5 g6 g7 g8 g9 g10 g11 g12 g13 g14 g15 g16) H → va_D A (wT a q L R g0 g1 g2 g3 g4 g5 g6 g7 g8 g9 g10 g11 g12 g13 g14 g15 g16) → va_S A s.heap H locs → lv_has ls 5 [(0, .ref (a 5)), (1, .int v1), (2, .int v2), (3, .int v3), (4, .int v4)] → k104 v1 v2 v3 v4 g7 g8 g10 g11 = some r0 → W p l e rm_Num_rounded s m args below meth c H locs 0 0 (MQ below (va_Ql (fun (r : Int64) (_ : Unit) => r = r0.1) (fun _ t => va_P D CLS (wT a q L R g0 g1 g2 g3 g4 g5 g6 g7 g8 g9 g10 r0.2 g12 g13 g14 g15 g16) t.heap) A) args s 0 0 A) (F0 m 104 ls [])) : ∀ (s0 : Int32) (s1 : Int32) (v1 : Int32) (v2 : Int32) (v4 : Int32) (g11 : Nat → Int32) (H : Heap) (locs : List Loc) (ls : Array Slot), va_P D CLS (wT a q L R g0 g1 g2 g3 g4 g5 g6 g7 g8 g9 g10 g11 g12 g13 g14 g15 g16) H → va_D A (wT a q L R g0 g1 g2 g3 g4 g5 g6 g7 g8 g9 g10 g11 g12 g13 g14 g15 g16) → va_S A s.heap H locs → lv_has ls 5 [(0, .ref (a 5)), (1, .int v1), (2, .int v2), (4, .int v4)] → f_Num_rounded_134 k104 s0 s1 v1 v2 v4 g7 g8 g10 g11 = some r0 → W p l e rm_Num_rounded s m args below meth c H locs 0 0 (MQ below (va_Ql (fun (r : Int64) (_ : Unit) => r = r0.1) (fun _ t => va_P D CLS (wT a q L R g0 g1 g2 g3 g4 g5 g6 g7 g8 g9 g10 r0.2 g12 g13 g14 g15 g16) t.heap) A) args s 0 0 A) (F0 m 134 ls [.int s0, .int s1]) := by
  obtain ⟨hx, hb, hml, hown, hts, hr, hlocks⟩ := id hC
  intro s0 s1 v1 v2 v4 g11 H locs ls hP hD hS hl h
  rw [f_Num_rounded_134] at h
  have hSz : s.heap.size ≤ H.size := hS.1
  refine lv_ior hx hb (dt_at dt_Num_rounded 70 rfl) ?_
  obtain ⟨t1, e_t1, h⟩ := ol_of h
  refine lv_topi (fun u_t1 q_t1 => ?_)
  obtain rfl : t1 = u_t1 := e_t1.trans q_t1.symm
  refine lv_istore_n (lv' := [(3, .int t1), (0, .ref (a 5)), (1, .int v1), (2, .int v2), (4, .int v4)]) hx hb (dt_at dt_Num_rounded 71 rfl) rfl hl (by decide) rfl (fun ls hl => ?_)
  obtain ⟨t2, e_t2, h⟩ := ol_of h
  refine lv_iinc (v := t2) (lv' := [(4, .int t2), (3, .int t1), (0, .ref (a 5)), (1, .int v1), (2, .int v2)]) hx hb (dt_at dt_Num_rounded 72 rfl) hl (k := 4) rfl (by rw [e_t2]; rfl) (by decide) rfl (fun ls hl => ?_)
  refine lv_goto (tgt := 104) hx hb (dt_at dt_Num_rounded 73 rfl) (by decide) ?_
  exact hk104 v1 v2 t1 t2 g11 H locs ls hP hD hS   (lv_sub hl [2, 3, 4, 1, 0] rfl) h
set_option maxRecDepth 100000 in
set_option maxHeartbeats 4000000 in
theorem k_Num_rounded_104 {p : Program} {l : Launch} {e : Env} {s : State} {m : MethodId} {args : Array Value} {below : List Frame} {meth : Method} {c : Code} {D : va_G} {a : Nat → Nat} {q : Nat → ClassId} {L : Nat} {R : Nat} {A : Nat → Prop} (hC : CX p s m args meth c prog_6_method_8_code 5 "OutwardTape$Numeral" (some .long)) (hA : ∀ x, s.heap.size ≤ x → A x) (hK : va_K D CLS (tT q) s) {g0 : Int32} {g1 : Int32} {g2 : Nat → Int32} {g3 : Nat → Option Nat} {g4 : Int32} {g5 : Int32} {g6 : Nat → Int32} {g7 : Int32} {g8 : Int64} {g9 : Int32} {g10 : Int32} {g12 : Int32} {g13 : Int64} {g14 : Int32} {g15 : Int32} {g16 : Nat → Int32} {r0 : Int64 × (Nat → Int32)} : ∀ n : Nat, ∀ (v1 : Int32) (v2 : Int32) (v3 : Int32) (v4 : Int32) (g11 : Nat → Int32) (H : Heap) (locs : List Loc) (ls : Array Slot), va_P D CLS (wT a q L R g0 g1 g2 g3 g4 g5 g6 g7 g8 g9 g10 g11 g12 g13 g14 g15 g16) H → va_D A (wT a q L R g0 g1 g2 g3 g4 g5 g6 g7 g8 g9 g10 g11 g12 g13 g14 g15 g16) → va_S A s.heap H locs → lv_has ls 5 [(0, .ref (a 5)), (1, .int v1), (2, .int v2), (3, .int v3), (4, .int v4)] → f_Num_rounded_104  n v1 v2 v3 v4 g7 g8 g10 g11 = some r0 → W p l e rm_Num_rounded s m args below meth c H locs 0 0 (MQ below (va_Ql (fun (r : Int64) (_ : Unit) => r = r0.1) (fun _ t => va_P D CLS (wT a q L R g0 g1 g2 g3 g4 g5 g6 g7 g8 g9 g10 r0.2 g12 g13 g14 g15 g16) t.heap) A) args s 0 0 A) (F0 m 104 ls []) := by
  obtain ⟨hx, hb, hml, hown, hts, hr, hlocks⟩ := id hC
  intro n
  induction n with
  | zero => intro v1 v2 v3 v4 g11 H locs ls hP hD hS hl h; cases h
  | succ n ih =>
    intro v1 v2 v3 v4 g11 H locs ls hP hD hS hl h
    rw [f_Num_rounded_104] at h
    have hSz : s.heap.size ≤ H.size := hS.1
    refine lv_iload hx hb (dt_at dt_Num_rounded 55 rfl) (lv_at hl 4 rfl) ?_
    refine lv_bipush (v := 40) hx hb (dt_at dt_Num_rounded 56 rfl) (by decide) ?_
    refine lv_icmp_ge (tgt := 142) hx hb (dt_at dt_Num_rounded 57 rfl) (by decide) (fun c1 => ?_) (fun c1 => ?_)
    · have h := if_p h c1
      exact k_Num_rounded_142 hC hA hK   v1 v2 v3 g11 H locs ls hP hD hS   (lv_sub hl [0, 1, 2, 3] rfl) h
    · have h := if_n h c1
      refine lv_iload hx hb (dt_at dt_Num_rounded 58 rfl) (lv_at hl 4 rfl) ?_
      refine lv_aload_n hx hb (dt_at dt_Num_rounded 59 rfl) rfl (lv_at hl 0 rfl) ?_
      refine va_get (D := D) (ci := 3) (v := .int g10) (C := "OutwardTape$Numeral") (T := T_Num) (N := 5) hx hb hts in_Num hown hK hP 5 rfl rfl 4 (by decide) (hts (Cond.fieldLink "OutwardTape$Numeral" 25 "OutwardTape$Numeral" "scale" "I") (m_1 49 rfl rfl)) (fun _ h9 => h9) rfl (dt_at dt_Num_rounded 60 rfl) ?_
      refine lv_ineg hx hb (dt_at dt_Num_rounded 61 rfl) ?_
      refine lv_icmp_ge (tgt := 142) hx hb (dt_at dt_Num_rounded 62 rfl) (by decide) (fun c2 => ?_) (fun c2 => ?_)
      · have h := if_p h c2
        exact k_Num_rounded_142 hC hA hK   v1 v2 v3 g11 H locs ls hP hD hS   (lv_sub hl [0, 1, 2, 3] rfl) h
      · have h := if_n h c2
        refine lv_iload_n hx hb (dt_at dt_Num_rounded 63 rfl) rfl (lv_at hl 3 rfl) ?_
        refine lv_aload_n hx hb (dt_at dt_Num_rounded 64 rfl) rfl (lv_at hl 0 rfl) ?_
        obtain ⟨r3, h_r3, h⟩ := ob_of h
        have hPc := hP
        have hDc : va_D A (dT a) := dD (ws' := dT a) hD rfl
        have hKc := hK
        have hF := va_free (wc := dT a) hDc hS hA [0, 1, 2, 3, 4, 5, 6, 7, 8] rfl
        have hd : va_D (fun _ => True) (dT a) := hDc.weaken (fun _ _ _ _ => trivial)
        refine va_calli (va_runV (As := []) (rest := [.int v3]) ⟨hx, hb, hml, hown, hts⟩ (c_Num_byFive l D a q L R hd H.size  g0 g1 g2 g3 g4 g5 g6 g7 g8 g9 g10 g11 g12 g13 g14 g15 g16   r3 h_r3) (cwV 0 hts (gd_V (m_3 28 rfl rfl) (m_3 30 rfl rfl) (m_s 16 rfl rfl) (m_1 3 rfl rfl) (m_3 31 rfl rfl)) rfl rfl rfl (by decide +kernel) ⟨Nat.le_of_ble_eq_true rfl, Nat.le_of_ble_eq_true rfl⟩) ⟨fun a U g mk q => ⟨q.1, q.2.1, q.2.2.1, va_K.moved (u := U) (U := U.calling g mk a) (Vm.Alike.refl U.vm) q.2.2.2⟩, va_recv hK hP (ci := 3) (q0 := 5) rfl rfl, fun U hU hW => ⟨rfl, by rw [hU], by rw [hU]; exact hPc, va_K.moved hW.alike hKc⟩⟩ rfl rfl hl.1 rfl (lv_room (Nat.le_of_ble_eq_true rfl)) (dt_at dt_Num_rounded 65 rfl) ⟨Nat.le_of_ble_eq_true rfl, Nat.le_of_ble_eq_true rfl⟩) hS (fun x _ h9 => hF x h9) hF (fun u_r3 uu t H1 locs ht hvm hw hB hz1 hk1 hS => ?_)
        subst hw
        rw [ht] at hB
        have hP : va_P D CLS (wT a q L R g0 g1 g2 g3 g4 g5 g6 g7 g8 g9 g10 r3.2 g12 g13 g14 g15 g16) H1 := hB
        have hD : va_D A (wT a q L R g0 g1 g2 g3 g4 g5 g6 g7 g8 g9 g10 r3.2 g12 g13 g14 g15 g16) := dD hD rfl
        have hSz : s.heap.size ≤ H1.size := hS.1
        clear hk1 hz1 hPc hF hB ht
        generalize H1 = H at hP hS hSz  ⊢
        refine lv_if_ne (tgt := 133) hx hb (dt_at dt_Num_rounded 66 rfl) (by decide) (fun c4 => ?_) (fun c4 => ?_)
        · have h := if_n h c4
          refine lv_iconst (v := 0) hx hb (dt_at dt_Num_rounded 69 rfl) (by decide) ?_
          exact k_Num_rounded_134 hC hA hK (f_Num_rounded_104  n) ih  (0 : Int32) v3 v1 v2 v4 r3.2 H locs ls hP hD hS   (lv_sub hl [0, 1, 2, 4] rfl) h
        · have h := if_p h c4
          refine lv_iconst (v := 1) hx hb (dt_at dt_Num_rounded 67 rfl) (by decide) ?_
          refine lv_goto (tgt := 134) hx hb (dt_at dt_Num_rounded 68 rfl) (by decide) ?_
          exact k_Num_rounded_134 hC hA hK (f_Num_rounded_104  n) ih  (1 : Int32) v3 v1 v2 v4 r3.2 H locs ls hP hD hS   (lv_sub hl [0, 1, 2, 4] rfl) h
set_option maxRecDepth 100000 in
set_option maxHeartbeats 4000000 in
theorem k_Num_rounded_101 {p : Program} {l : Launch} {e : Env} {s : State} {m : MethodId} {args : Array Value} {below : List Frame} {meth : Method} {c : Code} {D : va_G} {a : Nat → Nat} {q : Nat → ClassId} {L : Nat} {R : Nat} {A : Nat → Prop} (hC : CX p s m args meth c prog_6_method_8_code 5 "OutwardTape$Numeral" (some .long)) (hA : ∀ x, s.heap.size ≤ x → A x) (hK : va_K D CLS (tT q) s) {g0 : Int32} {g1 : Int32} {g2 : Nat → Int32} {g3 : Nat → Option Nat} {g4 : Int32} {g5 : Int32} {g6 : Nat → Int32} {g7 : Int32} {g8 : Int64} {g9 : Int32} {g10 : Int32} {g12 : Int32} {g13 : Int64} {g14 : Int32} {g15 : Int32} {g16 : Nat → Int32} {r0 : Int64 × (Nat → Int32)} : ∀ (v1 : Int32) (v2 : Int32) (v3 : Int32) (g11 : Nat → Int32) (H : Heap) (locs : List Loc) (ls : Array Slot), va_P D CLS (wT a q L R g0 g1 g2 g3 g4 g5 g6 g7 g8 g9 g10 g11 g12 g13 g14 g15 g16) H → va_D A (wT a q L R g0 g1 g2 g3 g4 g5 g6 g7 g8 g9 g10 g11 g12 g13 g14 g15 g16) → va_S A s.heap H locs → lv_has ls 5 [(0, .ref (a 5)), (1, .int v1), (2, .int v2), (3, .int v3)] → f_Num_rounded_101  v1 v2 v3 g7 g8 g10 g11 = some r0 → W p l e rm_Num_rounded s m args below meth c H locs 0 0 (MQ below (va_Ql (fun (r : Int64) (_ : Unit) => r = r0.1) (fun _ t => va_P D CLS (wT a q L R g0 g1 g2 g3 g4 g5 g6 g7 g8 g9 g10 r0.2 g12 g13 g14 g15 g16) t.heap) A) args s 0 0 A) (F0 m 101 ls []) := by
  obtain ⟨hx, hb, hml, hown, hts, hr, hlocks⟩ := id hC
  intro v1 v2 v3 g11 H locs ls hP hD hS hl h
  rw [f_Num_rounded_101] at h
  have hSz : s.heap.size ≤ H.size := hS.1
  refine lv_iconst (v := 0) hx hb (dt_at dt_Num_rounded 53 rfl) (by decide) ?_
  refine lv_istore (lv' := [(4, .int (0 : Int32)), (0, .ref (a 5)), (1, .int v1), (2, .int v2), (3, .int v3)]) hx hb (dt_at dt_Num_rounded 54 rfl) hl (by decide) rfl (fun ls hl => ?_)
  exact k_Num_rounded_104 hC hA hK  5000 v1 v2 v3 (0 : Int32) g11 H locs ls hP hD hS   (lv_sub hl [1, 2, 3, 4, 0] rfl) h
set_option maxRecDepth 100000 in
set_option maxHeartbeats 4000000 in
theorem k_Num_rounded_75 {p : Program} {l : Launch} {e : Env} {s : State} {m : MethodId} {args : Array Value} {below : List Frame} {meth : Method} {c : Code} {D : va_G} {a : Nat → Nat} {q : Nat → ClassId} {L : Nat} {R : Nat} {A : Nat → Prop} (hC : CX p s m args meth c prog_6_method_8_code 5 "OutwardTape$Numeral" (some .long)) (hA : ∀ x, s.heap.size ≤ x → A x) (hK : va_K D CLS (tT q) s) {g0 : Int32} {g1 : Int32} {g2 : Nat → Int32} {g3 : Nat → Option Nat} {g4 : Int32} {g5 : Int32} {g6 : Nat → Int32} {g7 : Int32} {g8 : Int64} {g9 : Int32} {g10 : Int32} {g12 : Int32} {g13 : Int64} {g14 : Int32} {g15 : Int32} {g16 : Nat → Int32} {r0 : Int64 × (Nat → Int32)} : ∀ n : Nat, ∀ (v1 : Int32) (v2 : Int32) (v3 : Int32) (v4 : Int32) (g11 : Nat → Int32) (H : Heap) (locs : List Loc) (ls : Array Slot), va_P D CLS (wT a q L R g0 g1 g2 g3 g4 g5 g6 g7 g8 g9 g10 g11 g12 g13 g14 g15 g16) H → va_D A (wT a q L R g0 g1 g2 g3 g4 g5 g6 g7 g8 g9 g10 g11 g12 g13 g14 g15 g16) → va_S A s.heap H locs → lv_has ls 5 [(0, .ref (a 5)), (1, .int v1), (2, .int v2), (3, .int v3), (4, .int v4)] → f_Num_rounded_75  n v1 v2 v3 v4 g7 g8 g10 g11 = some r0 → W p l e rm_Num_rounded s m args below meth c H locs 0 0 (MQ below (va_Ql (fun (r : Int64) (_ : Unit) => r = r0.1) (fun _ t => va_P D CLS (wT a q L R g0 g1 g2 g3 g4 g5 g6 g7 g8 g9 g10 r0.2 g12 g13 g14 g15 g16) t.heap) A) args s 0 0 A) (F0 m 75 ls []) := by
  obtain ⟨hx, hb, hml, hown, hts, hr, hlocks⟩ := id hC
  intro n
  induction n with
  | zero => intro v1 v2 v3 v4 g11 H locs ls hP hD hS hl h; cases h
  | succ n ih =>
    intro v1 v2 v3 v4 g11 H locs ls hP hD hS hl h
    rw [f_Num_rounded_75] at h
    have hSz : s.heap.size ≤ H.size := hS.1
    refine lv_iload hx hb (dt_at dt_Num_rounded 42 rfl) (lv_at hl 4 rfl) ?_
    refine lv_bipush (v := 40) hx hb (dt_at dt_Num_rounded 43 rfl) (by decide) ?_
    refine lv_icmp_ge (tgt := 101) hx hb (dt_at dt_Num_rounded 44 rfl) (by decide) (fun c1 => ?_) (fun c1 => ?_)
    · have h := if_p h c1
      exact k_Num_rounded_101 hC hA hK   v1 v2 v3 g11 H locs ls hP hD hS   (lv_sub hl [0, 1, 2, 3] rfl) h
    · have h := if_n h c1
      refine lv_iload hx hb (dt_at dt_Num_rounded 45 rfl) (lv_at hl 4 rfl) ?_
      refine lv_aload_n hx hb (dt_at dt_Num_rounded 46 rfl) rfl (lv_at hl 0 rfl) ?_
      refine va_get (D := D) (ci := 3) (v := .int g10) (C := "OutwardTape$Numeral") (T := T_Num) (N := 5) hx hb hts in_Num hown hK hP 5 rfl rfl 4 (by decide) (hts (Cond.fieldLink "OutwardTape$Numeral" 25 "OutwardTape$Numeral" "scale" "I") (m_1 49 rfl rfl)) (fun _ h9 => h9) rfl (dt_at dt_Num_rounded 47 rfl) ?_
      refine lv_icmp_ge (tgt := 101) hx hb (dt_at dt_Num_rounded 48 rfl) (by decide) (fun c2 => ?_) (fun c2 => ?_)
      · have h := if_p h c2
        exact k_Num_rounded_101 hC hA hK   v1 v2 v3 g11 H locs ls hP hD hS   (lv_sub hl [0, 1, 2, 3] rfl) h
      · have h := if_n h c2
        refine lv_aload_n hx hb (dt_at dt_Num_rounded 49 rfl) rfl (lv_at hl 0 rfl) ?_
        obtain ⟨r3, h_r3, h⟩ := ob_of h
        have hPc := hP
        have hDc : va_D A (dT a) := dD (ws' := dT a) hD rfl
        have hKc := hK
        have hF := va_free (wc := dT a) hDc hS hA [0, 1, 2, 3, 4, 5, 6, 7, 8] rfl
        have hd : va_D (fun _ => True) (dT a) := hDc.weaken (fun _ _ _ _ => trivial)
        refine va_callv (va_runV (As := []) (rest := []) ⟨hx, hb, hml, hown, hts⟩ (c_Num_timesFive l D a q L R hd H.size  g0 g1 g2 g3 g4 g5 g6 g7 g8 g9 g10 g11 g12 g13 g14 g15 g16   r3 h_r3) (cwV 0 hts (gd_V (m_3 24 rfl rfl) (m_3 26 rfl rfl) (m_s 15 rfl rfl) (m_1 3 rfl rfl) (m_3 27 rfl rfl)) rfl rfl rfl (by decide +kernel) ⟨Nat.le_of_ble_eq_true rfl, Nat.le_of_ble_eq_true rfl⟩) ⟨fun a U g mk q => ⟨q.1, q.2.1, q.2.2.1, va_K.moved (u := U) (U := U.calling g mk a) (Vm.Alike.refl U.vm) q.2.2.2⟩, va_recv hK hP (ci := 3) (q0 := 5) rfl rfl, fun U hU hW => ⟨rfl, by rw [hU], by rw [hU]; exact hPc, va_K.moved hW.alike hKc⟩⟩ rfl rfl hl.1 rfl (lv_room (Nat.le_of_ble_eq_true rfl)) (dt_at dt_Num_rounded 50 rfl) ⟨Nat.le_of_ble_eq_true rfl, Nat.le_of_ble_eq_true rfl⟩) hS (fun x _ h9 => hF x h9) hF (fun uu t H1 locs ht hvm hw hB hz1 hk1 hS => ?_)
        rw [ht] at hB
        have hP : va_P D CLS (wT a q L R g0 g1 g2 g3 g4 g5 g6 g7 g8 g9 g10 r3 g12 g13 g14 g15 g16) H1 := hB
        have hD : va_D A (wT a q L R g0 g1 g2 g3 g4 g5 g6 g7 g8 g9 g10 r3 g12 g13 g14 g15 g16) := dD hD rfl
        have hSz : s.heap.size ≤ H1.size := hS.1
        clear hk1 hz1 hPc hF hB ht
        generalize H1 = H at hP hS hSz  ⊢
        obtain ⟨t4, e_t4, h⟩ := ol_of h
        refine lv_iinc (v := t4) (lv' := [(4, .int t4), (0, .ref (a 5)), (1, .int v1), (2, .int v2), (3, .int v3)]) hx hb (dt_at dt_Num_rounded 51 rfl) hl (k := 4) rfl (by rw [e_t4]; rfl) (by decide) rfl (fun ls hl => ?_)
        refine lv_goto (tgt := 75) hx hb (dt_at dt_Num_rounded 52 rfl) (by decide) ?_
        exact ih v1 v2 v3 t4 r3 H locs ls hP hD hS   (lv_sub hl [1, 2, 3, 4, 0] rfl) h
set_option maxRecDepth 100000 in
set_option maxHeartbeats 4000000 in
theorem k_Num_rounded_63 {p : Program} {l : Launch} {e : Env} {s : State} {m : MethodId} {args : Array Value} {below : List Frame} {meth : Method} {c : Code} {D : va_G} {a : Nat → Nat} {q : Nat → ClassId} {L : Nat} {R : Nat} {A : Nat → Prop} (hC : CX p s m args meth c prog_6_method_8_code 5 "OutwardTape$Numeral" (some .long)) (hA : ∀ x, s.heap.size ≤ x → A x) (hK : va_K D CLS (tT q) s) {g0 : Int32} {g1 : Int32} {g2 : Nat → Int32} {g3 : Nat → Option Nat} {g4 : Int32} {g5 : Int32} {g6 : Nat → Int32} {g7 : Int32} {g8 : Int64} {g9 : Int32} {g10 : Int32} {g12 : Int32} {g13 : Int64} {g14 : Int32} {g15 : Int32} {g16 : Nat → Int32} {r0 : Int64 × (Nat → Int32)} (k16 : Int32 → Int32 → Int32 → Int32 → Int64 → Int32 → (Nat → Int32) → Option (Int64 × (Nat → Int32))) (hk16 : ∀ (v1 : Int32) (v2 : Int32) (v3 : Int32) (g11 : Nat → Int32) (H : Heap) (locs : List Loc) (ls : Array Slot), va_P D CLS (wT a q L R g0 g1 g2 g3 g4 g5 g6 g7 g8 g9 g10 g11 g12 g13 g14 g15 g16) H → va_D A (wT a q L R g0 g1 g2 g3 g4 g5 g6 g7 g8 g9 g10 g11 g12 g13 g14 g15 g16) → va_S A s.heap H locs → lv_has ls 5 [(0, .ref (a 5)), (1, .int v1), (2, .int v2), (3, .int v3)] → k16 v1 v2 v3 g7 g8 g10 g11 = some r0 → W p l e rm_Num_rounded s m args below meth c H locs 0 0 (MQ below (va_Ql (fun (r : Int64) (_ : Unit) => r = r0.1) (fun _ t => va_P D CLS (wT a q L R g0 g1 g2 g3 g4 g5 g6 g7 g8 g9 g10 r0.2 g12 g13 g14 g15 g16) t.heap) A) args s 0 0 A) (F0 m 16 ls [])) : ∀ (s0 : Int32) (s1 : Int32) (v1 : Int32) (v2 : Int32) (v3 : Int32) (g11 : Nat → Int32) (H : Heap) (locs : List Loc) (ls : Array Slot), va_P D CLS (wT a q L R g0 g1 g2 g3 g4 g5 g6 g7 g8 g9 g10 g11 g12 g13 g14 g15 g16) H → va_D A (wT a q L R g0 g1 g2 g3 g4 g5 g6 g7 g8 g9 g10 g11 g12 g13 g14 g15 g16) → va_S A s.heap H locs → lv_has ls 5 [(0, .ref (a 5)), (1, .int v1), (2, .int v2), (3, .int v3)] → f_Num_rounded_63 k16 s0 s1 v1 v2 v3 g7 g8 g10 g11 = some r0 → W p l e rm_Num_rounded s m args below meth c H locs 0 0 (MQ below (va_Ql (fun (r : Int64) (_ : Unit) => r = r0.1) (fun _ t => va_P D CLS (wT a q L R g0 g1 g2 g3 g4 g5 g6 g7 g8 g9 g10 r0.2 g12 g13 g14 g15 g16) t.heap) A) args s 0 0 A) (F0 m 63 ls [.int s0, .int s1, .ref (a 6)]) := by
  obtain ⟨hx, hb, hml, hown, hts, hr, hlocks⟩ := id hC
  intro s0 s1 v1 v2 v3 g11 H locs ls hP hD hS hl h
  rw [f_Num_rounded_63] at h
  have hSz : s.heap.size ≤ H.size := hS.1
  obtain ⟨z1, h⟩ := og_of h
  obtain ⟨t2, e_t2, h⟩ := ol_of h
  refine va_iast hx hb hK hP hD hS 6 3 rfl rfl z1 (dt_at dt_Num_rounded 35 rfl) (fun H locs hP hD hS => ?_)
  have hP : va_P D CLS (wT a q L R g0 g1 g2 g3 g4 g5 g6 g7 g8 g9 g10 t2 g12 g13 g14 g15 g16) H := by rw [e_t2]; exact hP
  have hD : va_D A (wT a q L R g0 g1 g2 g3 g4 g5 g6 g7 g8 g9 g10 t2 g12 g13 g14 g15 g16) := dD hD rfl
  obtain ⟨t3, e_t3, h⟩ := ol_of h
  refine lv_iinc (v := t3) (lv' := [(3, .int t3), (0, .ref (a 5)), (1, .int v1), (2, .int v2)]) hx hb (dt_at dt_Num_rounded 36 rfl) hl (k := 3) rfl (by rw [e_t3]; rfl) (by decide) rfl (fun ls hl => ?_)
  refine lv_goto (tgt := 16) hx hb (dt_at dt_Num_rounded 37 rfl) (by decide) ?_
  exact hk16 v1 v2 t3 t2 H locs ls hP hD hS   (lv_sub hl [1, 2, 3, 0] rfl) h
set_option maxRecDepth 100000 in
set_option maxHeartbeats 4000000 in
theorem k_Num_rounded_62 {p : Program} {l : Launch} {e : Env} {s : State} {m : MethodId} {args : Array Value} {below : List Frame} {meth : Method} {c : Code} {D : va_G} {a : Nat → Nat} {q : Nat → ClassId} {L : Nat} {R : Nat} {A : Nat → Prop} (hC : CX p s m args meth c prog_6_method_8_code 5 "OutwardTape$Numeral" (some .long)) (hA : ∀ x, s.heap.size ≤ x → A x) (hK : va_K D CLS (tT q) s) {g0 : Int32} {g1 : Int32} {g2 : Nat → Int32} {g3 : Nat → Option Nat} {g4 : Int32} {g5 : Int32} {g6 : Nat → Int32} {g7 : Int32} {g8 : Int64} {g9 : Int32} {g10 : Int32} {g12 : Int32} {g13 : Int64} {g14 : Int32} {g15 : Int32} {g16 : Nat → Int32} {r0 : Int64 × (Nat → Int32)} (k16 : Int32 → Int32 → Int32 → Int32 → Int64 → Int32 → (Nat → Int32) → Option (Int64 × (Nat → Int32))) (hk16 : ∀ (v1 : Int32) (v2 : Int32) (v3 : Int32) (g11 : Nat → Int32) (H : Heap) (locs : List Loc) (ls : Array Slot), va_P D CLS (wT a q L R g0 g1 g2 g3 g4 g5 g6 g7 g8 g9 g10 g11 g12 g13 g14 g15 g16) H → va_D A (wT a q L R g0 g1 g2 g3 g4 g5 g6 g7 g8 g9 g10 g11 g12 g13 g14 g15 g16) → va_S A s.heap H locs → lv_has ls 5 [(0, .ref (a 5)), (1, .int v1), (2, .int v2), (3, .int v3)] → k16 v1 v2 v3 g7 g8 g10 g11 = some r0 → W p l e rm_Num_rounded s m args below meth c H locs 0 0 (MQ below (va_Ql (fun (r : Int64) (_ : Unit) => r = r0.1) (fun _ t => va_P D CLS (wT a q L R g0 g1 g2 g3 g4 g5 g6 g7 g8 g9 g10 r0.2 g12 g13 g14 g15 g16) t.heap) A) args s 0 0 A) (F0 m 16 ls [])) : ∀ (s0 : Int32) (v1 : Int32) (v2 : Int32) (v3 : Int32) (g11 : Nat → Int32) (H : Heap) (locs : List Loc) (ls : Array Slot), va_P D CLS (wT a q L R g0 g1 g2 g3 g4 g5 g6 g7 g8 g9 g10 g11 g12 g13 g14 g15 g16) H → va_D A (wT a q L R g0 g1 g2 g3 g4 g5 g6 g7 g8 g9 g10 g11 g12 g13 g14 g15 g16) → va_S A s.heap H locs → lv_has ls 5 [(0, .ref (a 5)), (1, .int v1), (2, .int v2), (3, .int v3)] → f_Num_rounded_62 k16 s0 v1 v2 v3 g7 g8 g10 g11 = some r0 → W p l e rm_Num_rounded s m args below meth c H locs 0 0 (MQ below (va_Ql (fun (r : Int64) (_ : Unit) => r = r0.1) (fun _ t => va_P D CLS (wT a q L R g0 g1 g2 g3 g4 g5 g6 g7 g8 g9 g10 r0.2 g12 g13 g14 g15 g16) t.heap) A) args s 0 0 A) (F0 m 62 ls [.int s0, .ref (a 6)]) := by
  obtain ⟨hx, hb, hml, hown, hts, hr, hlocks⟩ := id hC
  intro s0 v1 v2 v3 g11 H locs ls hP hD hS hl h
  rw [f_Num_rounded_62] at h
  have hSz : s.heap.size ≤ H.size := hS.1
  refine lv_iconst (v := 0) hx hb (dt_at dt_Num_rounded 34 rfl) (by decide) ?_
  exact k_Num_rounded_63 hC hA hK k16 hk16  (0 : Int32) s0 v1 v2 v3 g11 H locs ls hP hD hS   (lv_sub hl [0, 1, 2, 3] rfl) h
set_option maxRecDepth 100000 in
set_option maxHeartbeats 4000000 in
theorem k_Num_rounded_16 {p : Program} {l : Launch} {e : Env} {s : State} {m : MethodId} {args : Array Value} {below : List Frame} {meth : Method} {c : Code} {D : va_G} {a : Nat → Nat} {q : Nat → ClassId} {L : Nat} {R : Nat} {A : Nat → Prop} (hC : CX p s m args meth c prog_6_method_8_code 5 "OutwardTape$Numeral" (some .long)) (hA : ∀ x, s.heap.size ≤ x → A x) (hK : va_K D CLS (tT q) s) {g0 : Int32} {g1 : Int32} {g2 : Nat → Int32} {g3 : Nat → Option Nat} {g4 : Int32} {g5 : Int32} {g6 : Nat → Int32} {g7 : Int32} {g8 : Int64} {g9 : Int32} {g10 : Int32} {g12 : Int32} {g13 : Int64} {g14 : Int32} {g15 : Int32} {g16 : Nat → Int32} {r0 : Int64 × (Nat → Int32)} : ∀ n : Nat, ∀ (v1 : Int32) (v2 : Int32) (v3 : Int32) (g11 : Nat → Int32) (H : Heap) (locs : List Loc) (ls : Array Slot), va_P D CLS (wT a q L R g0 g1 g2 g3 g4 g5 g6 g7 g8 g9 g10 g11 g12 g13 g14 g15 g16) H → va_D A (wT a q L R g0 g1 g2 g3 g4 g5 g6 g7 g8 g9 g10 g11 g12 g13 g14 g15 g16) → va_S A s.heap H locs → lv_has ls 5 [(0, .ref (a 5)), (1, .int v1), (2, .int v2), (3, .int v3)] → f_Num_rounded_16  n v1 v2 v3 g7 g8 g10 g11 = some r0 → W p l e rm_Num_rounded s m args below meth c H locs 0 0 (MQ below (va_Ql (fun (r : Int64) (_ : Unit) => r = r0.1) (fun _ t => va_P D CLS (wT a q L R g0 g1 g2 g3 g4 g5 g6 g7 g8 g9 g10 r0.2 g12 g13 g14 g15 g16) t.heap) A) args s 0 0 A) (F0 m 16 ls []) := by
  obtain ⟨hx, hb, hml, hown, hts, hr, hlocks⟩ := id hC
  intro n
  induction n with
  | zero => intro v1 v2 v3 g11 H locs ls hP hD hS hl h; cases h
  | succ n ih =>
    intro v1 v2 v3 g11 H locs ls hP hD hS hl h
    rw [f_Num_rounded_16] at h
    have hSz : s.heap.size ≤ H.size := hS.1
    refine lv_iload_n hx hb (dt_at dt_Num_rounded 9 rfl) rfl (lv_at hl 3 rfl) ?_
    refine lv_bipush (v := 28) hx hb (dt_at dt_Num_rounded 10 rfl) (by decide) ?_
    refine lv_icmp_ge (tgt := 70) hx hb (dt_at dt_Num_rounded 11 rfl) (by decide) (fun c1 => ?_) (fun c1 => ?_)
    · have h := if_p h c1
      refine lv_iconst (v := 0) hx hb (dt_at dt_Num_rounded 38 rfl) (by decide) ?_
      refine lv_istore_n (lv' := [(3, .int (0 : Int32)), (0, .ref (a 5)), (1, .int v1), (2, .int v2)]) hx hb (dt_at dt_Num_rounded 39 rfl) rfl hl (by decide) rfl (fun ls hl => ?_)
      refine lv_iconst (v := 0) hx hb (dt_at dt_Num_rounded 40 rfl) (by decide) ?_
      refine lv_istore (lv' := [(4, .int (0 : Int32)), (3, .int (0 : Int32)), (0, .ref (a 5)), (1, .int v1), (2, .int v2)]) hx hb (dt_at dt_Num_rounded 41 rfl) hl (by decide) rfl (fun ls hl => ?_)
      exact k_Num_rounded_75 hC hA hK  5000 v1 v2 (0 : Int32) (0 : Int32) g11 H locs ls hP hD hS   (lv_sub hl [2, 3, 4, 1, 0] rfl) h
    · have h := if_n h c1
      refine lv_iload_n hx hb (dt_at dt_Num_rounded 12 rfl) rfl (lv_at hl 3 rfl) ?_
      refine lv_iload_n hx hb (dt_at dt_Num_rounded 13 rfl) rfl (lv_at hl 2 rfl) ?_
      refine lv_isub hx hb (dt_at dt_Num_rounded 14 rfl) ?_
      obtain ⟨t2, e_t2, h⟩ := ol_of h
      refine lv_topi (fun u_t2 q_t2 => ?_)
      obtain rfl : t2 = u_t2 := e_t2.trans q_t2.symm
      refine lv_istore (lv' := [(4, .int t2), (0, .ref (a 5)), (1, .int v1), (2, .int v2), (3, .int v3)]) hx hb (dt_at dt_Num_rounded 15 rfl) hl (by decide) rfl (fun ls hl => ?_)
      refine lv_aload_n hx hb (dt_at dt_Num_rounded 16 rfl) rfl (lv_at hl 1 rfl) ?_
      refine va_get (D := D) (ci := 3) (v := .ref (a 6)) (C := "OutwardTape$Numeral") (T := T_Num) (N := 5) hx hb hts in_Num hown hK hP 5 rfl rfl 0 (by decide) (hts (Cond.fieldLink "OutwardTape$Numeral" 9 "OutwardTape$Numeral" "row" "[I") (m_1 45 rfl rfl)) (fun _ h9 => h9) rfl (dt_at dt_Num_rounded 17 rfl) ?_
      refine lv_iload_n hx hb (dt_at dt_Num_rounded 18 rfl) rfl (lv_at hl 4 rfl) ?_
      refine lv_iload hx hb (dt_at dt_Num_rounded 19 rfl) (lv_at hl 0 rfl) ?_
      refine lv_if_lt (tgt := 62) hx hb (dt_at dt_Num_rounded 20 rfl) (by decide) (fun c3 => ?_) (fun c3 => ?_)
      · have h := if_p h c3
        exact k_Num_rounded_62 hC hA hK (f_Num_rounded_16  n) ih  v3 v1 v2 v3 g11 H locs ls hP hD hS   (lv_sub hl [1, 2, 3, 4] rfl) h
      · have h := if_n h c3
        refine lv_iload hx hb (dt_at dt_Num_rounded 21 rfl) (lv_at hl 0 rfl) ?_
        refine lv_bipush (v := 8) hx hb (dt_at dt_Num_rounded 22 rfl) (by decide) ?_
        refine lv_icmp_ge (tgt := 62) hx hb (dt_at dt_Num_rounded 23 rfl) (by decide) (fun c4 => ?_) (fun c4 => ?_)
        · have h := if_p h c4
          exact k_Num_rounded_62 hC hA hK (f_Num_rounded_16  n) ih  v3 v1 v2 v3 g11 H locs ls hP hD hS   (lv_sub hl [1, 2, 3, 4] rfl) h
        · have h := if_n h c4
          refine lv_aload_n hx hb (dt_at dt_Num_rounded 24 rfl) rfl (lv_at hl 1 rfl) ?_
          refine va_get (D := D) (ci := 3) (v := .long g8) (C := "OutwardTape$Numeral") (T := T_Num) (N := 5) hx hb hts in_Num hown hK hP 5 rfl rfl 2 (by decide) (hts (Cond.fieldLink "OutwardTape$Numeral" 17 "OutwardTape$Numeral" "digits" "J") (m_1 47 rfl rfl)) (fun _ h9 => h9) rfl (dt_at dt_Num_rounded 25 rfl) ?_
          refine lv_bipush (v := 8) hx hb (dt_at dt_Num_rounded 26 rfl) (by decide) ?_
          refine lv_iload hx hb (dt_at dt_Num_rounded 27 rfl) (lv_at hl 0 rfl) ?_
          refine lv_imul hx hb (dt_at dt_Num_rounded 28 rfl) ?_
          refine lv_lushr (v := (j_lushr g8 ((8 : Int32) * t2))) hx hb (dt_at dt_Num_rounded 29 rfl) rfl ?_
          refine lv_l2i (v := (j_lushr g8 ((8 : Int32) * t2)).toInt32) hx hb (dt_at dt_Num_rounded 30 rfl) rfl ?_
          refine lv_sipush (v := 255) hx hb (dt_at dt_Num_rounded 31 rfl) (by decide) ?_
          refine lv_iand hx hb (dt_at dt_Num_rounded 32 rfl) ?_
          refine lv_goto (tgt := 63) hx hb (dt_at dt_Num_rounded 33 rfl) (by decide) ?_
          exact k_Num_rounded_63 hC hA hK (f_Num_rounded_16  n) ih  (((j_lushr g8 ((8 : Int32) * t2)).toInt32) &&& (255 : Int32)) v3 v1 v2 v3 g11 H locs ls hP hD hS   (lv_sub hl [1, 2, 3, 4] rfl) h
set_option maxRecDepth 100000 in
set_option maxHeartbeats 4000000 in
theorem k_Num_rounded_13 {p : Program} {l : Launch} {e : Env} {s : State} {m : MethodId} {args : Array Value} {below : List Frame} {meth : Method} {c : Code} {D : va_G} {a : Nat → Nat} {q : Nat → ClassId} {L : Nat} {R : Nat} {A : Nat → Prop} (hC : CX p s m args meth c prog_6_method_8_code 5 "OutwardTape$Numeral" (some .long)) (hA : ∀ x, s.heap.size ≤ x → A x) (hK : va_K D CLS (tT q) s) {g0 : Int32} {g1 : Int32} {g2 : Nat → Int32} {g3 : Nat → Option Nat} {g4 : Int32} {g5 : Int32} {g6 : Nat → Int32} {g7 : Int32} {g8 : Int64} {g9 : Int32} {g10 : Int32} {g12 : Int32} {g13 : Int64} {g14 : Int32} {g15 : Int32} {g16 : Nat → Int32} {r0 : Int64 × (Nat → Int32)} : ∀ (s0 : Int32) (v1 : Int32) (g11 : Nat → Int32) (H : Heap) (locs : List Loc) (ls : Array Slot), va_P D CLS (wT a q L R g0 g1 g2 g3 g4 g5 g6 g7 g8 g9 g10 g11 g12 g13 g14 g15 g16) H → va_D A (wT a q L R g0 g1 g2 g3 g4 g5 g6 g7 g8 g9 g10 g11 g12 g13 g14 g15 g16) → va_S A s.heap H locs → lv_has ls 5 [(0, .ref (a 5)), (1, .int v1)] → f_Num_rounded_13  s0 v1 g7 g8 g10 g11 = some r0 → W p l e rm_Num_rounded s m args below meth c H locs 0 0 (MQ below (va_Ql (fun (r : Int64) (_ : Unit) => r = r0.1) (fun _ t => va_P D CLS (wT a q L R g0 g1 g2 g3 g4 g5 g6 g7 g8 g9 g10 r0.2 g12 g13 g14 g15 g16) t.heap) A) args s 0 0 A) (F0 m 13 ls [.int s0]) := by
  obtain ⟨hx, hb, hml, hown, hts, hr, hlocks⟩ := id hC
  intro s0 v1 g11 H locs ls hP hD hS hl h
  rw [f_Num_rounded_13] at h
  have hSz : s.heap.size ≤ H.size := hS.1
  refine lv_istore_n (lv' := [(2, .int s0), (0, .ref (a 5)), (1, .int v1)]) hx hb (dt_at dt_Num_rounded 6 rfl) rfl hl (by decide) rfl (fun ls hl => ?_)
  refine lv_iconst (v := 0) hx hb (dt_at dt_Num_rounded 7 rfl) (by decide) ?_
  refine lv_istore_n (lv' := [(3, .int (0 : Int32)), (2, .int s0), (0, .ref (a 5)), (1, .int v1)]) hx hb (dt_at dt_Num_rounded 8 rfl) rfl hl (by decide) rfl (fun ls hl => ?_)
  exact k_Num_rounded_16 hC hA hK  5000 v1 s0 (0 : Int32) g11 H locs ls hP hD hS   (lv_sub hl [2, 3, 1, 0] rfl) h
set_option maxRecDepth 100000 in
set_option maxHeartbeats 4000000 in
theorem k_Num_rounded_0 {p : Program} {l : Launch} {e : Env} {s : State} {m : MethodId} {args : Array Value} {below : List Frame} {meth : Method} {c : Code} {D : va_G} {a : Nat → Nat} {q : Nat → ClassId} {L : Nat} {R : Nat} {A : Nat → Prop} (hC : CX p s m args meth c prog_6_method_8_code 5 "OutwardTape$Numeral" (some .long)) (hA : ∀ x, s.heap.size ≤ x → A x) (hK : va_K D CLS (tT q) s) {g0 : Int32} {g1 : Int32} {g2 : Nat → Int32} {g3 : Nat → Option Nat} {g4 : Int32} {g5 : Int32} {g6 : Nat → Int32} {g7 : Int32} {g8 : Int64} {g9 : Int32} {g10 : Int32} {g12 : Int32} {g13 : Int64} {g14 : Int32} {g15 : Int32} {g16 : Nat → Int32} {r0 : Int64 × (Nat → Int32)} : ∀ (v1 : Int32) (g11 : Nat → Int32) (H : Heap) (locs : List Loc) (ls : Array Slot), va_P D CLS (wT a q L R g0 g1 g2 g3 g4 g5 g6 g7 g8 g9 g10 g11 g12 g13 g14 g15 g16) H → va_D A (wT a q L R g0 g1 g2 g3 g4 g5 g6 g7 g8 g9 g10 g11 g12 g13 g14 g15 g16) → va_S A s.heap H locs → lv_has ls 5 [(0, .ref (a 5)), (1, .int v1)] → f_Num_rounded_0  v1 g7 g8 g10 g11 = some r0 → W p l e rm_Num_rounded s m args below meth c H locs 0 0 (MQ below (va_Ql (fun (r : Int64) (_ : Unit) => r = r0.1) (fun _ t => va_P D CLS (wT a q L R g0 g1 g2 g3 g4 g5 g6 g7 g8 g9 g10 r0.2 g12 g13 g14 g15 g16) t.heap) A) args s 0 0 A) (F0 m 0 ls []) := by
  obtain ⟨hx, hb, hml, hown, hts, hr, hlocks⟩ := id hC
  intro v1 g11 H locs ls hP hD hS hl h
  rw [f_Num_rounded_0] at h
  have hSz : s.heap.size ≤ H.size := hS.1
  refine lv_aload_n hx hb (dt_at dt_Num_rounded 0 rfl) rfl (lv_at hl 0 rfl) ?_
  refine va_get (D := D) (ci := 3) (v := .int g10) (C := "OutwardTape$Numeral") (T := T_Num) (N := 5) hx hb hts in_Num hown hK hP 5 rfl rfl 4 (by decide) (hts (Cond.fieldLink "OutwardTape$Numeral" 25 "OutwardTape$Numeral" "scale" "I") (m_1 49 rfl rfl)) (fun _ h9 => h9) rfl (dt_at dt_Num_rounded 1 rfl) ?_
  refine lv_if_ge (tgt := 12) hx hb (dt_at dt_Num_rounded 2 rfl) (by decide) (fun c1 => ?_) (fun c1 => ?_)
  · have h := if_p h c1
    refine lv_iconst (v := 0) hx hb (dt_at dt_Num_rounded 5 rfl) (by decide) ?_
    exact k_Num_rounded_13 hC hA hK   (0 : Int32) v1 g11 H locs ls hP hD hS   (lv_sub hl [0, 1] rfl) h
  · have h := if_n h c1
    refine lv_bipush (v := 20) hx hb (dt_at dt_Num_rounded 3 rfl) (by decide) ?_
    refine lv_goto (tgt := 13) hx hb (dt_at dt_Num_rounded 4 rfl) (by decide) ?_
    exact k_Num_rounded_13 hC hA hK   (20 : Int32) v1 g11 H locs ls hP hD hS   (lv_sub hl [0, 1] rfl) h
set_option maxRecDepth 100000 in
set_option maxHeartbeats 4000000 in
theorem c_Num_rounded (l : Launch) (D : va_G) (a : Nat → Nat) (q : Nat → ClassId) (L : Nat) (R : Nat) (hd : va_D (fun _ => True) (dT a)) (sz : Nat) (a1 : Int32) (g0 : Int32) (g1 : Int32) (g2 : Nat → Int32) (g3 : Nat → Option Nat) (g4 : Int32) (g5 : Int32) (g6 : Nat → Int32) (g7 : Int32) (g8 : Int64) (g9 : Int32) (g10 : Int32) (g11 : Nat → Int32) (g12 : Int32) (g13 : Int64) (g14 : Int32) (g15 : Int32) (g16 : Nat → Int32)   (r0 : Int64 × (Nat → Int32)) (h : f_Num_rounded a1 g7 g8 g10 g11 = some r0) : Met l (⟨"OutwardTape$Numeral", "rounded", "(I)J"⟩ : MethodName) (WSm (⟨"OutwardTape$Numeral", "rounded", "(I)J"⟩ : MethodName) prog_6_method_8_code 5 (some .long)) rm_Num_rounded (va_Pc [.ref (a 5), .int a1] (fun U => U.heap.size = sz ∧ va_P D CLS (wT a q L R g0 g1 g2 g3 g4 g5 g6 g7 g8 g9 g10 g11 g12 g13 g14 g15 g16) U.heap ∧ va_K D CLS (tT q) U)) (va_Ql (fun (r : Int64) (_ : Unit) => r = r0.1) (fun _ t => va_P D CLS (wT a q L R g0 g1 g2 g3 g4 g5 g6 g7 g8 g9 g10 r0.2 g12 g13 g14 g15 g16) t.heap) (va_A (dT a) sz)) 0 0 (va_A (dT a) sz) := by
  refine Met.ofW (cc := prog_6_method_8_code) (maxL := 5) (ret := (some .long)) (by decide) rfl ?_
  intro p e s m args below meth c s₁ B hml hv
  obtain ⟨rfl, hsz, hP, hK⟩ := hv
  subst hsz
  have hC := CX.of B hml rfl
  have hl := lv_entry [.ref (a 5), .int a1] (n := 5) (Nat.le_of_ble_eq_true rfl)
  rw [lg_entry_eq]
  generalize (lg_sl [.ref (a 5), .int a1] ++ List.replicate (5 - (lg_sl [.ref (a 5), .int a1]).length) Slot.unset).toArray = ls at hl ⊢
  have hl : lv_has ls 5 [(0, .ref (a 5)), (1, .int a1)] := hl
  exact k_Num_rounded_0  hC (fun x h => Or.inr h) hK a1 g11   s.heap [] ls hP (dD hd.self rfl) va_S.rf   (lv_sub hl [0, 1] rfl) h
abbrev rm_Rd_begin : Room := { frames := 1, cells := 0, slots := 0, locals := 24 }
set_option maxRecDepth 100000 in
set_option maxHeartbeats 4000000 in
theorem k_Rd_begin_71 {p : Program} {l : Launch} {e : Env} {s : State} {m : MethodId} {args : Array Value} {below : List Frame} {meth : Method} {c : Code} {D : va_G} {a : Nat → Nat} {q : Nat → ClassId} {L : Nat} {R : Nat} {A : Nat → Prop} (hC : CX p s m args meth c prog_5_method_3_code 5 "OutwardTape$LiteralReader" none) (hA : ∀ x, s.heap.size ≤ x → A x) (hK : va_K D CLS (tT q) s) {g0 : Int32} {g1 : Int32} {g2 : Nat → Int32} {g3 : Nat → Option Nat} {g7 : Int32} {g8 : Int64} {g9 : Int32} {g10 : Int32} {g11 : Nat → Int32} {g12 : Int32} {g13 : Int64} {g14 : Int32} {g15 : Int32} {g16 : Nat → Int32} {r0 : Int32 × Int32 × (Nat → Int32)} (k25 : Int32 → (Nat → Int32) → Int32 → Int32 → (Nat → Int32) → Option (Int32 × Int32 × (Nat → Int32))) (hk25 : ∀ (v3 : Int32) (g4 : Int32) (g5 : Int32) (g6 : Nat → Int32) (H : Heap) (locs : List Loc) (ls : Array Slot), va_P D CLS (wT a q L R g0 g1 g2 g3 g4 g5 g6 g7 g8 g9 g10 g11 g12 g13 g14 g15 g16) H → va_D A (wT a q L R g0 g1 g2 g3 g4 g5 g6 g7 g8 g9 g10 g11 g12 g13 g14 g15 g16) → va_S A s.heap H locs → lv_has ls 5 [(0, .ref (a 3)), (1, .ref (a 1)), (3, .int v3)] → k25 v3 g2 g4 g5 g6 = some r0 → W p l e rm_Rd_begin s m args below meth c H locs 0 0 (MQ below (va_Qv (fun _ : Unit => True) (fun _ t => va_P D CLS (wT a q L R g0 g1 g2 g3 r0.1 r0.2.1 r0.2.2 g7 g8 g9 g10 g11 g12 g13 g14 g15 g16) t.heap) A) args s 0 0 A) (F0 m 25 ls [])) : ∀ (s0 : Int32) (s1 : Int32) (v3 : Int32) (g4 : Int32) (g5 : Int32) (g6 : Nat → Int32) (H : Heap) (locs : List Loc) (ls : Array Slot), va_P D CLS (wT a q L R g0 g1 g2 g3 g4 g5 g6 g7 g8 g9 g10 g11 g12 g13 g14 g15 g16) H → va_D A (wT a q L R g0 g1 g2 g3 g4 g5 g6 g7 g8 g9 g10 g11 g12 g13 g14 g15 g16) → va_S A s.heap H locs → lv_has ls 5 [(0, .ref (a 3)), (1, .ref (a 1)), (3, .int v3)] → f_Rd_begin_71 k25 s0 s1 v3 g2 g4 g5 g6 = some r0 → W p l e rm_Rd_begin s m args below meth c H locs 0 0 (MQ below (va_Qv (fun _ : Unit => True) (fun _ t => va_P D CLS (wT a q L R g0 g1 g2 g3 r0.1 r0.2.1 r0.2.2 g7 g8 g9 g10 g11 g12 g13 g14 g15 g16) t.heap) A) args s 0 0 A) (F0 m 71 ls [.int s0, .int s1, .ref (a 4)]) := by
  obtain ⟨hx, hb, hml, hown, hts, hr, hlocks⟩ := id hC
  intro s0 s1 v3 g4 g5 g6 H locs ls hP hD hS hl h
  rw [f_Rd_begin_71] at h
  have hSz : s.heap.size ≤ H.size := hS.1
  obtain ⟨z1, h⟩ := og_of h
  obtain ⟨t2, e_t2, h⟩ := ol_of h
  refine va_cast hx hb hK hP hD hS 4 2 rfl rfl z1 (dt_at dt_Rd_begin 40 rfl) (fun H locs hP hD hS => ?_)
  have hP : va_P D CLS (wT a q L R g0 g1 g2 g3 g4 g5 t2 g7 g8 g9 g10 g11 g12 g13 g14 g15 g16) H := by rw [e_t2]; exact hP
  have hD : va_D A (wT a q L R g0 g1 g2 g3 g4 g5 t2 g7 g8 g9 g10 g11 g12 g13 g14 g15 g16) := dD hD rfl
  obtain ⟨t3, e_t3, h⟩ := ol_of h
  refine lv_iinc (v := t3) (lv' := [(3, .int t3), (0, .ref (a 3)), (1, .ref (a 1))]) hx hb (dt_at dt_Rd_begin 41 rfl) hl (k := 2) rfl (by rw [e_t3]; rfl) (by decide) rfl (fun ls hl => ?_)
  refine lv_goto (tgt := 25) hx hb (dt_at dt_Rd_begin 42 rfl) (by decide) ?_
  exact hk25 t3 g4 g5 t2 H locs ls hP hD hS   (lv_sub hl [1, 2, 0] rfl) h
set_option maxRecDepth 100000 in
set_option maxHeartbeats 4000000 in
theorem k_Rd_begin_69 {p : Program} {l : Launch} {e : Env} {s : State} {m : MethodId} {args : Array Value} {below : List Frame} {meth : Method} {c : Code} {D : va_G} {a : Nat → Nat} {q : Nat → ClassId} {L : Nat} {R : Nat} {A : Nat → Prop} (hC : CX p s m args meth c prog_5_method_3_code 5 "OutwardTape$LiteralReader" none) (hA : ∀ x, s.heap.size ≤ x → A x) (hK : va_K D CLS (tT q) s) {g0 : Int32} {g1 : Int32} {g2 : Nat → Int32} {g3 : Nat → Option Nat} {g7 : Int32} {g8 : Int64} {g9 : Int32} {g10 : Int32} {g11 : Nat → Int32} {g12 : Int32} {g13 : Int64} {g14 : Int32} {g15 : Int32} {g16 : Nat → Int32} {r0 : Int32 × Int32 × (Nat → Int32)} (k25 : Int32 → (Nat → Int32) → Int32 → Int32 → (Nat → Int32) → Option (Int32 × Int32 × (Nat → Int32))) (hk25 : ∀ (v3 : Int32) (g4 : Int32) (g5 : Int32) (g6 : Nat → Int32) (H : Heap) (locs : List Loc) (ls : Array Slot), va_P D CLS (wT a q L R g0 g1 g2 g3 g4 g5 g6 g7 g8 g9 g10 g11 g12 g13 g14 g15 g16) H → va_D A (wT a q L R g0 g1 g2 g3 g4 g5 g6 g7 g8 g9 g10 g11 g12 g13 g14 g15 g16) → va_S A s.heap H locs → lv_has ls 5 [(0, .ref (a 3)), (1, .ref (a 1)), (3, .int v3)] → k25 v3 g2 g4 g5 g6 = some r0 → W p l e rm_Rd_begin s m args below meth c H locs 0 0 (MQ below (va_Qv (fun _ : Unit => True) (fun _ t => va_P D CLS (wT a q L R g0 g1 g2 g3 r0.1 r0.2.1 r0.2.2 g7 g8 g9 g10 g11 g12 g13 g14 g15 g16) t.heap) A) args s 0 0 A) (F0 m 25 ls [])) : ∀ (s0 : Int32) (v3 : Int32) (v4 : Int32) (g4 : Int32) (g5 : Int32) (g6 : Nat → Int32) (H : Heap) (locs : List Loc) (ls : Array Slot), va_P D CLS (wT a q L R g0 g1 g2 g3 g4 g5 g6 g7 g8 g9 g10 g11 g12 g13 g14 g15 g16) H → va_D A (wT a q L R g0 g1 g2 g3 g4 g5 g6 g7 g8 g9 g10 g11 g12 g13 g14 g15 g16) → va_S A s.heap H locs → lv_has ls 5 [(0, .ref (a 3)), (1, .ref (a 1)), (3, .int v3), (4, .int v4)] → f_Rd_begin_69 k25 s0 v3 v4 g2 g4 g5 g6 = some r0 → W p l e rm_Rd_begin s m args below meth c H locs 0 0 (MQ below (va_Qv (fun _ : Unit => True) (fun _ t => va_P D CLS (wT a q L R g0 g1 g2 g3 r0.1 r0.2.1 r0.2.2 g7 g8 g9 g10 g11 g12 g13 g14 g15 g16) t.heap) A) args s 0 0 A) (F0 m 69 ls [.int s0, .ref (a 4)]) := by
  obtain ⟨hx, hb, hml, hown, hts, hr, hlocks⟩ := id hC
  intro s0 v3 v4 g4 g5 g6 H locs ls hP hD hS hl h
  rw [f_Rd_begin_69] at h
  have hSz : s.heap.size ≤ H.size := hS.1
  refine lv_iload hx hb (dt_at dt_Rd_begin 39 rfl) (lv_at hl 3 rfl) ?_
  exact k_Rd_begin_71 hC hA hK k25 hk25  v4 s0 v3 g4 g5 g6 H locs ls hP hD hS   (lv_sub hl [0, 1, 2] rfl) h
set_option maxRecDepth 100000 in
set_option maxHeartbeats 4000000 in
theorem k_Rd_begin_25 {p : Program} {l : Launch} {e : Env} {s : State} {m : MethodId} {args : Array Value} {below : List Frame} {meth : Method} {c : Code} {D : va_G} {a : Nat → Nat} {q : Nat → ClassId} {L : Nat} {R : Nat} {A : Nat → Prop} (hC : CX p s m args meth c prog_5_method_3_code 5 "OutwardTape$LiteralReader" none) (hA : ∀ x, s.heap.size ≤ x → A x) (hK : va_K D CLS (tT q) s) {g0 : Int32} {g1 : Int32} {g2 : Nat → Int32} {g3 : Nat → Option Nat} {g7 : Int32} {g8 : Int64} {g9 : Int32} {g10 : Int32} {g11 : Nat → Int32} {g12 : Int32} {g13 : Int64} {g14 : Int32} {g15 : Int32} {g16 : Nat → Int32} {r0 : Int32 × Int32 × (Nat → Int32)} : ∀ n : Nat, ∀ (v3 : Int32) (g4 : Int32) (g5 : Int32) (g6 : Nat → Int32) (H : Heap) (locs : List Loc) (ls : Array Slot), va_P D CLS (wT a q L R g0 g1 g2 g3 g4 g5 g6 g7 g8 g9 g10 g11 g12 g13 g14 g15 g16) H → va_D A (wT a q L R g0 g1 g2 g3 g4 g5 g6 g7 g8 g9 g10 g11 g12 g13 g14 g15 g16) → va_S A s.heap H locs → lv_has ls 5 [(0, .ref (a 3)), (1, .ref (a 1)), (3, .int v3)] → f_Rd_begin_25  n v3 g2 g4 g5 g6 = some r0 → W p l e rm_Rd_begin s m args below meth c H locs 0 0 (MQ below (va_Qv (fun _ : Unit => True) (fun _ t => va_P D CLS (wT a q L R g0 g1 g2 g3 r0.1 r0.2.1 r0.2.2 g7 g8 g9 g10 g11 g12 g13 g14 g15 g16) t.heap) A) args s 0 0 A) (F0 m 25 ls []) := by
  obtain ⟨hx, hb, hml, hown, hts, hr, hlocks⟩ := id hC
  intro n
  induction n with
  | zero => intro v3 g4 g5 g6 H locs ls hP hD hS hl h; cases h
  | succ n ih =>
    intro v3 g4 g5 g6 H locs ls hP hD hS hl h
    rw [f_Rd_begin_25] at h
    have hSz : s.heap.size ≤ H.size := hS.1
    refine lv_iload_n hx hb (dt_at dt_Rd_begin 15 rfl) rfl (lv_at hl 2 rfl) ?_
    refine lv_aload_n hx hb (dt_at dt_Rd_begin 16 rfl) rfl (lv_at hl 0 rfl) ?_
    refine va_get (D := D) (ci := 2) (v := .int g4) (C := "OutwardTape$LiteralReader") (T := T_Rd) (N := 5) hx hb hts in_Rd hown hK hP 3 rfl rfl 3 (by decide) (hts (Cond.fieldLink "OutwardTape$LiteralReader" 25 "OutwardTape$LiteralReader" "end" "I") (m_1 66 rfl rfl)) (fun _ h9 => h9) rfl (dt_at dt_Rd_begin 17 rfl) ?_
    refine lv_icmp_ge (tgt := 78) hx hb (dt_at dt_Rd_begin 18 rfl) (by decide) (fun c1 => ?_) (fun c1 => ?_)
    · have h := if_p h c1
      obtain rfl := os_of h
      exact W.vret hx hb hr (fun t ht hW => ⟨⟨(), rfl, trivial, (hPt hP ht)⟩, hS.F ht⟩) hS.2.2 (dt_at dt_Rd_begin 43 rfl)
    · have h := if_n h c1
      refine lv_aload_n hx hb (dt_at dt_Rd_begin 19 rfl) rfl (lv_at hl 1 rfl) ?_
      refine lv_iload_n hx hb (dt_at dt_Rd_begin 20 rfl) rfl (lv_at hl 2 rfl) ?_
      obtain ⟨z2, h⟩ := og_of h
      refine va_cald hx hb hK hP 1 0 rfl rfl z2 (dt_at dt_Rd_begin 21 rfl) ?_
      obtain ⟨t3, e_t3, h⟩ := ol_of h
      refine lv_topi (fun u_t3 q_t3 => ?_)
      obtain rfl : t3 = u_t3 := e_t3.trans q_t3.symm
      refine lv_istore (lv' := [(4, .int t3), (0, .ref (a 3)), (1, .ref (a 1)), (3, .int v3)]) hx hb (dt_at dt_Rd_begin 22 rfl) hl (by decide) rfl (fun ls hl => ?_)
      refine lv_aload_n hx hb (dt_at dt_Rd_begin 23 rfl) rfl (lv_at hl 1 rfl) ?_
      refine va_get (D := D) (ci := 2) (v := .ref (a 4)) (C := "OutwardTape$LiteralReader") (T := T_Rd) (N := 5) hx hb hts in_Rd hown hK hP 3 rfl rfl 2 (by decide) (hts (Cond.fieldLink "OutwardTape$LiteralReader" 21 "OutwardTape$LiteralReader" "small" "[C") (m_1 65 rfl rfl)) (fun _ h9 => h9) rfl (dt_at dt_Rd_begin 24 rfl) ?_
      refine lv_iload_n hx hb (dt_at dt_Rd_begin 25 rfl) rfl (lv_at hl 3 rfl) ?_
      refine lv_iload hx hb (dt_at dt_Rd_begin 26 rfl) (lv_at hl 0 rfl) ?_
      refine lv_bipush (v := 65) hx hb (dt_at dt_Rd_begin 27 rfl) (by decide) ?_
      refine lv_icmp_lt (tgt := 69) hx hb (dt_at dt_Rd_begin 28 rfl) (by decide) (fun c4 => ?_) (fun c4 => ?_)
      · have h := if_p h c4
        exact k_Rd_begin_69 hC hA hK (f_Rd_begin_25  n) ih  v3 v3 t3 g4 g5 g6 H locs ls hP hD hS   (lv_sub hl [1, 2, 3, 0] rfl) h
      · have h := if_n h c4
        refine lv_iload hx hb (dt_at dt_Rd_begin 29 rfl) (lv_at hl 0 rfl) ?_
        refine lv_bipush (v := 90) hx hb (dt_at dt_Rd_begin 30 rfl) (by decide) ?_
        refine lv_icmp_gt (tgt := 69) hx hb (dt_at dt_Rd_begin 31 rfl) (by decide) (fun c5 => ?_) (fun c5 => ?_)
        · have h := if_p h c5
          exact k_Rd_begin_69 hC hA hK (f_Rd_begin_25  n) ih  v3 v3 t3 g4 g5 g6 H locs ls hP hD hS   (lv_sub hl [1, 2, 3, 0] rfl) h
        · have h := if_n h c5
          refine lv_iload hx hb (dt_at dt_Rd_begin 32 rfl) (lv_at hl 0 rfl) ?_
          refine lv_bipush (v := 65) hx hb (dt_at dt_Rd_begin 33 rfl) (by decide) ?_
          refine lv_isub hx hb (dt_at dt_Rd_begin 34 rfl) ?_
          refine lv_bipush (v := 97) hx hb (dt_at dt_Rd_begin 35 rfl) (by decide) ?_
          refine lv_iadd hx hb (dt_at dt_Rd_begin 36 rfl) ?_
          refine lv_i2c (v := (j_i2c ((t3 - (65 : Int32)) + (97 : Int32)))) hx hb (dt_at dt_Rd_begin 37 rfl) rfl ?_
          refine lv_goto (tgt := 71) hx hb (dt_at dt_Rd_begin 38 rfl) (by decide) ?_
          exact k_Rd_begin_71 hC hA hK (f_Rd_begin_25  n) ih  (j_i2c ((t3 - (65 : Int32)) + (97 : Int32))) v3 v3 g4 g5 g6 H locs ls hP hD hS   (lv_sub hl [1, 2, 3] rfl) h
set_option maxRecDepth 100000 in
set_option maxHeartbeats 4000000 in
theorem k_Rd_begin_0 {p : Program} {l : Launch} {e : Env} {s : State} {m : MethodId} {args : Array Value} {below : List Frame} {meth : Method} {c : Code} {D : va_G} {a : Nat → Nat} {q : Nat → ClassId} {L : Nat} {R : Nat} {A : Nat → Prop} (hC : CX p s m args meth c prog_5_method_3_code 5 "OutwardTape$LiteralReader" none) (hA : ∀ x, s.heap.size ≤ x → A x) (hK : va_K D CLS (tT q) s) {g0 : Int32} {g1 : Int32} {g2 : Nat → Int32} {g3 : Nat → Option Nat} {g7 : Int32} {g8 : Int64} {g9 : Int32} {g10 : Int32} {g11 : Nat → Int32} {g12 : Int32} {g13 : Int64} {g14 : Int32} {g15 : Int32} {g16 : Nat → Int32} {r0 : Int32 × Int32 × (Nat → Int32)} : ∀ (v2 : Int32) (g4 : Int32) (g5 : Int32) (g6 : Nat → Int32) (H : Heap) (locs : List Loc) (ls : Array Slot), va_P D CLS (wT a q L R g0 g1 g2 g3 g4 g5 g6 g7 g8 g9 g10 g11 g12 g13 g14 g15 g16) H → va_D A (wT a q L R g0 g1 g2 g3 g4 g5 g6 g7 g8 g9 g10 g11 g12 g13 g14 g15 g16) → va_S A s.heap H locs → lv_has ls 5 [(0, .ref (a 3)), (1, .ref (a 1)), (2, .int v2)] → f_Rd_begin_0  v2 g2 g4 g5 g6 = some r0 → W p l e rm_Rd_begin s m args below meth c H locs 0 0 (MQ below (va_Qv (fun _ : Unit => True) (fun _ t => va_P D CLS (wT a q L R g0 g1 g2 g3 r0.1 r0.2.1 r0.2.2 g7 g8 g9 g10 g11 g12 g13 g14 g15 g16) t.heap) A) args s 0 0 A) (F0 m 0 ls []) := by
  obtain ⟨hx, hb, hml, hown, hts, hr, hlocks⟩ := id hC
  intro v2 g4 g5 g6 H locs ls hP hD hS hl h
  rw [f_Rd_begin_0] at h
  have hSz : s.heap.size ≤ H.size := hS.1
  refine lv_aload_n hx hb (dt_at dt_Rd_begin 0 rfl) rfl (lv_at hl 0 rfl) ?_
  refine lv_iload_n hx hb (dt_at dt_Rd_begin 1 rfl) rfl (lv_at hl 2 rfl) ?_
  refine lv_aload_n hx hb (dt_at dt_Rd_begin 2 rfl) rfl (lv_at hl 1 rfl) ?_
  refine va_alen (v := 60) hx hb hK hP 1 0 rfl rfl rfl (dt_at dt_Rd_begin 3 rfl) ?_
  obtain ⟨t1, e_t1, h⟩ := ol_of h
  refine va_mmin hx hb (hml.trans hl.1.symm) hown (hts (Cond.methodLink "OutwardTape$LiteralReader" 70 Lib.Math.min.name) (m_2 97 rfl rfl)) (hts (Cond.static Lib.Math.min.name) (m_2 98 rfl rfl)) (hts (Cond.initialized "java/lang/Math") (m_1 9 rfl rfl)) (hts (Cond.code Lib.Math.min.name Lib.Math.min.code 2 (some .int)) (m_2 99 rfl rfl)) (Nat.le_of_ble_eq_true rfl) (Nat.le_of_ble_eq_true rfl) (Nat.le_of_ble_eq_true rfl) (Nat.le_of_ble_eq_true rfl) (dt_at dt_Rd_begin 4 rfl) ?_
  refine lv_topi (fun u_t1 q_t1 => ?_)
  obtain rfl : t1 = u_t1 := e_t1.trans q_t1.symm
  refine lv_aload_n hx hb (dt_at dt_Rd_begin 5 rfl) rfl (lv_at hl 0 rfl) ?_
  refine va_get (D := D) (ci := 2) (v := .ref (a 4)) (C := "OutwardTape$LiteralReader") (T := T_Rd) (N := 5) hx hb hts in_Rd hown hK hP 3 rfl rfl 2 (by decide) (hts (Cond.fieldLink "OutwardTape$LiteralReader" 21 "OutwardTape$LiteralReader" "small" "[C") (m_1 65 rfl rfl)) (fun _ h9 => h9) rfl (dt_at dt_Rd_begin 6 rfl) ?_
  refine va_alen (v := 60) hx hb hK hP 4 2 rfl rfl rfl (dt_at dt_Rd_begin 7 rfl) ?_
  obtain ⟨t2, e_t2, h⟩ := ol_of h
  refine va_mmin hx hb (hml.trans hl.1.symm) hown (hts (Cond.methodLink "OutwardTape$LiteralReader" 70 Lib.Math.min.name) (m_2 97 rfl rfl)) (hts (Cond.static Lib.Math.min.name) (m_2 98 rfl rfl)) (hts (Cond.initialized "java/lang/Math") (m_1 9 rfl rfl)) (hts (Cond.code Lib.Math.min.name Lib.Math.min.code 2 (some .int)) (m_2 99 rfl rfl)) (Nat.le_of_ble_eq_true rfl) (Nat.le_of_ble_eq_true rfl) (Nat.le_of_ble_eq_true rfl) (Nat.le_of_ble_eq_true rfl) (dt_at dt_Rd_begin 8 rfl) ?_
  refine lv_topi (fun u_t2 q_t2 => ?_)
  obtain rfl : t2 = u_t2 := e_t2.trans q_t2.symm
  refine va_put (D := D) (ci := 2) (v := .int t2) (ty := .int) (C := "OutwardTape$LiteralReader") (T := T_Rd) (N := 5) hx hb hts in_Rd ty_Rd tk_Rd nm_Rd hown hK hP hD hS 3 rfl rfl 3 (by decide) (hts (Cond.fieldLink "OutwardTape$LiteralReader" 25 "OutwardTape$LiteralReader" "end" "I") (m_1 66 rfl rfl)) (fun _ h9 => h9) rfl (by decide +kernel) rfl rfl (Nat.le_of_ble_eq_true rfl) (dt_at dt_Rd_begin 9 rfl) (fun H locs hP hD hS => ?_)
  have hP : va_P D CLS (wT a q L R g0 g1 g2 g3 t2 g5 g6 g7 g8 g9 g10 g11 g12 g13 g14 g15 g16) H := hP
  have hD : va_D A (wT a q L R g0 g1 g2 g3 t2 g5 g6 g7 g8 g9 g10 g11 g12 g13 g14 g15 g16) := hD
  refine lv_aload_n hx hb (dt_at dt_Rd_begin 10 rfl) rfl (lv_at hl 0 rfl) ?_
  refine lv_iconst (v := 0) hx hb (dt_at dt_Rd_begin 11 rfl) (by decide) ?_
  refine va_put (D := D) (ci := 2) (v := .int (0 : Int32)) (ty := .int) (C := "OutwardTape$LiteralReader") (T := T_Rd) (N := 5) hx hb hts in_Rd ty_Rd tk_Rd nm_Rd hown hK hP hD hS 3 rfl rfl 4 (by decide) (hts (Cond.fieldLink "OutwardTape$LiteralReader" 29 "OutwardTape$LiteralReader" "at" "I") (m_1 67 rfl rfl)) (fun _ h9 => h9) rfl (by decide +kernel) rfl rfl (Nat.le_of_ble_eq_true rfl) (dt_at dt_Rd_begin 12 rfl) (fun H locs hP hD hS => ?_)
  have hP : va_P D CLS (wT a q L R g0 g1 g2 g3 t2 (0 : Int32) g6 g7 g8 g9 g10 g11 g12 g13 g14 g15 g16) H := hP
  have hD : va_D A (wT a q L R g0 g1 g2 g3 t2 (0 : Int32) g6 g7 g8 g9 g10 g11 g12 g13 g14 g15 g16) := hD
  refine lv_iconst (v := 0) hx hb (dt_at dt_Rd_begin 13 rfl) (by decide) ?_
  refine lv_istore_n (lv' := [(3, .int (0 : Int32)), (0, .ref (a 3)), (1, .ref (a 1)), (2, .int v2)]) hx hb (dt_at dt_Rd_begin 14 rfl) rfl hl (by decide) rfl (fun ls hl => ?_)
  exact k_Rd_begin_25 hC hA hK  5000 (0 : Int32) t2 (0 : Int32) g6 H locs ls hP hD hS   (lv_sub hl [1, 2, 0] rfl) h
set_option maxRecDepth 100000 in
set_option maxHeartbeats 4000000 in
theorem c_Rd_begin (l : Launch) (D : va_G) (a : Nat → Nat) (q : Nat → ClassId) (L : Nat) (R : Nat) (hd : va_D (fun _ => True) (dT a)) (sz : Nat) (a2 : Int32) (g0 : Int32) (g1 : Int32) (g2 : Nat → Int32) (g3 : Nat → Option Nat) (g4 : Int32) (g5 : Int32) (g6 : Nat → Int32) (g7 : Int32) (g8 : Int64) (g9 : Int32) (g10 : Int32) (g11 : Nat → Int32) (g12 : Int32) (g13 : Int64) (g14 : Int32) (g15 : Int32) (g16 : Nat → Int32)   (r0 : Int32 × Int32 × (Nat → Int32)) (h : f_Rd_begin a2 g2 g4 g5 g6 = some r0) : Met l (⟨"OutwardTape$LiteralReader", "begin", "([CI)V"⟩ : MethodName) (WSm (⟨"OutwardTape$LiteralReader", "begin", "([CI)V"⟩ : MethodName) prog_5_method_3_code 5 none) rm_Rd_begin (va_Pc [.ref (a 3), .ref (a 1), .int a2] (fun U => U.heap.size = sz ∧ va_P D CLS (wT a q L R g0 g1 g2 g3 g4 g5 g6 g7 g8 g9 g10 g11 g12 g13 g14 g15 g16) U.heap ∧ va_K D CLS (tT q) U)) (va_Qv (fun _ : Unit => True) (fun _ t => va_P D CLS (wT a q L R g0 g1 g2 g3 r0.1 r0.2.1 r0.2.2 g7 g8 g9 g10 g11 g12 g13 g14 g15 g16) t.heap) (va_A (dT a) sz)) 0 0 (va_A (dT a) sz) := by
  refine Met.ofW (cc := prog_5_method_3_code) (maxL := 5) (ret := none) (by decide) rfl ?_
  intro p e s m args below meth c s₁ B hml hv
  obtain ⟨rfl, hsz, hP, hK⟩ := hv
  subst hsz
  have hC := CX.of B hml rfl
  have hl := lv_entry [.ref (a 3), .ref (a 1), .int a2] (n := 5) (Nat.le_of_ble_eq_true rfl)
  rw [lg_entry_eq]
  generalize (lg_sl [.ref (a 3), .ref (a 1), .int a2] ++ List.replicate (5 - (lg_sl [.ref (a 3), .ref (a 1), .int a2]).length) Slot.unset).toArray = ls at hl ⊢
  have hl : lv_has ls 5 [(0, .ref (a 3)), (1, .ref (a 1)), (2, .int a2)] := hl
  exact k_Rd_begin_0  hC (fun x h => Or.inr h) hK a2 g4 g5 g6   s.heap [] ls hP (dD hd.self rfl) va_S.rf   (lv_sub hl [0, 1, 2] rfl) h
abbrev rm_Rd_next : Room := { frames := 0, cells := 0, slots := 0, locals := 0 }
set_option maxRecDepth 100000 in
set_option maxHeartbeats 4000000 in
theorem k_Rd_next_24 {p : Program} {l : Launch} {e : Env} {s : State} {m : MethodId} {args : Array Value} {below : List Frame} {meth : Method} {c : Code} {D : va_G} {a : Nat → Nat} {q : Nat → ClassId} {L : Nat} {R : Nat} {A : Nat → Prop} (hC : CX p s m args meth c prog_5_method_14_code 1 "OutwardTape$LiteralReader" (some .char)) (hA : ∀ x, s.heap.size ≤ x → A x) (hK : va_K D CLS (tT q) s) {g0 : Int32} {g1 : Int32} {g2 : Nat → Int32} {g3 : Nat → Option Nat} {g4 : Int32} {g5 : Int32} {g6 : Nat → Int32} {g7 : Int32} {g8 : Int64} {g9 : Int32} {g10 : Int32} {g11 : Nat → Int32} {g12 : Int32} {g13 : Int64} {g14 : Int32} {g15 : Int32} {g16 : Nat → Int32} {r0 : Int32} : ∀ (s0 : Int32)  (H : Heap) (locs : List Loc) (ls : Array Slot), va_P D CLS (wT a q L R g0 g1 g2 g3 g4 g5 g6 g7 g8 g9 g10 g11 g12 g13 g14 g15 g16) H → va_D A (wT a q L R g0 g1 g2 g3 g4 g5 g6 g7 g8 g9 g10 g11 g12 g13 g14 g15 g16) → va_S A s.heap H locs → lv_has ls 1 [] → f_Rd_next_24  s0 g4 g5 g6 = some r0 → W p l e rm_Rd_next s m args below meth c H locs 0 0 (MQ below (va_Qi (fun (r : Int32) (_ : Unit) => r = r0) (fun _ t => va_P D CLS (wT a q L R g0 g1 g2 g3 g4 g5 g6 g7 g8 g9 g10 g11 g12 g13 g14 g15 g16) t.heap) A) args s 0 0 A) (F0 m 24 ls [.int s0]) := by
  obtain ⟨hx, hb, hml, hown, hts, hr, hlocks⟩ := id hC
  intro s0 H locs ls hP hD hS hl h
  rw [f_Rd_next_24] at h
  have hSz : s.heap.size ≤ H.size := hS.1
  obtain ⟨hz, h⟩ := og_of h
  obtain rfl := os_of h
  exact W.zret (v := s0) (ty := .char) hx hb hr (j_c_nar hz) (fun t ht hW => ⟨⟨_, (), rfl, rfl, (hPt hP ht)⟩, hS.F ht⟩) hS.2.2 (dt_at dt_Rd_next 12 rfl)
set_option maxRecDepth 100000 in
set_option maxHeartbeats 4000000 in
theorem k_Rd_next_0 {p : Program} {l : Launch} {e : Env} {s : State} {m : MethodId} {args : Array Value} {below : List Frame} {meth : Method} {c : Code} {D : va_G} {a : Nat → Nat} {q : Nat → ClassId} {L : Nat} {R : Nat} {A : Nat → Prop} (hC : CX p s m args meth c prog_5_method_14_code 1 "OutwardTape$LiteralReader" (some .char)) (hA : ∀ x, s.heap.size ≤ x → A x) (hK : va_K D CLS (tT q) s) {g0 : Int32} {g1 : Int32} {g2 : Nat → Int32} {g3 : Nat → Option Nat} {g4 : Int32} {g5 : Int32} {g6 : Nat → Int32} {g7 : Int32} {g8 : Int64} {g9 : Int32} {g10 : Int32} {g11 : Nat → Int32} {g12 : Int32} {g13 : Int64} {g14 : Int32} {g15 : Int32} {g16 : Nat → Int32} {r0 : Int32} : ∀   (H : Heap) (locs : List Loc) (ls : Array Slot), va_P D CLS (wT a q L R g0 g1 g2 g3 g4 g5 g6 g7 g8 g9 g10 g11 g12 g13 g14 g15 g16) H → va_D A (wT a q L R g0 g1 g2 g3 g4 g5 g6 g7 g8 g9 g10 g11 g12 g13 g14 g15 g16) → va_S A s.heap H locs → lv_has ls 1 [(0, .ref (a 3))] → f_Rd_next_0  g4 g5 g6 = some r0 → W p l e rm_Rd_next s m args below meth c H locs 0 0 (MQ below (va_Qi (fun (r : Int32) (_ : Unit) => r = r0) (fun _ t => va_P D CLS (wT a q L R g0 g1 g2 g3 g4 g5 g6 g7 g8 g9 g10 g11 g12 g13 g14 g15 g16) t.heap) A) args s 0 0 A) (F0 m 0 ls []) := by
  obtain ⟨hx, hb, hml, hown, hts, hr, hlocks⟩ := id hC
  intro H locs ls hP hD hS hl h
  rw [f_Rd_next_0] at h
  have hSz : s.heap.size ≤ H.size := hS.1
  refine lv_aload_n hx hb (dt_at dt_Rd_next 0 rfl) rfl (lv_at hl 0 rfl) ?_
  refine va_get (D := D) (ci := 2) (v := .int g5) (C := "OutwardTape$LiteralReader") (T := T_Rd) (N := 5) hx hb hts in_Rd hown hK hP 3 rfl rfl 4 (by decide) (hts (Cond.fieldLink "OutwardTape$LiteralReader" 29 "OutwardTape$LiteralReader" "at" "I") (m_1 67 rfl rfl)) (fun _ h9 => h9) rfl (dt_at dt_Rd_next 1 rfl) ?_
  refine lv_aload_n hx hb (dt_at dt_Rd_next 2 rfl) rfl (lv_at hl 0 rfl) ?_
  refine va_get (D := D) (ci := 2) (v := .int g4) (C := "OutwardTape$LiteralReader") (T := T_Rd) (N := 5) hx hb hts in_Rd hown hK hP 3 rfl rfl 3 (by decide) (hts (Cond.fieldLink "OutwardTape$LiteralReader" 25 "OutwardTape$LiteralReader" "end" "I") (m_1 66 rfl rfl)) (fun _ h9 => h9) rfl (dt_at dt_Rd_next 3 rfl) ?_
  refine lv_icmp_ge (tgt := 23) hx hb (dt_at dt_Rd_next 4 rfl) (by decide) (fun c1 => ?_) (fun c1 => ?_)
  · have h := if_p h c1
    refine lv_iconst (v := 0) hx hb (dt_at dt_Rd_next 11 rfl) (by decide) ?_
    exact k_Rd_next_24 hC hA hK   (0 : Int32) H locs ls hP hD hS   (lv_sub hl [] rfl) h
  · have h := if_n h c1
    refine lv_aload_n hx hb (dt_at dt_Rd_next 5 rfl) rfl (lv_at hl 0 rfl) ?_
    refine va_get (D := D) (ci := 2) (v := .ref (a 4)) (C := "OutwardTape$LiteralReader") (T := T_Rd) (N := 5) hx hb hts in_Rd hown hK hP 3 rfl rfl 2 (by decide) (hts (Cond.fieldLink "OutwardTape$LiteralReader" 21 "OutwardTape$LiteralReader" "small" "[C") (m_1 65 rfl rfl)) (fun _ h9 => h9) rfl (dt_at dt_Rd_next 6 rfl) ?_
    refine lv_aload_n hx hb (dt_at dt_Rd_next 7 rfl) rfl (lv_at hl 0 rfl) ?_
    refine va_get (D := D) (ci := 2) (v := .int g5) (C := "OutwardTape$LiteralReader") (T := T_Rd) (N := 5) hx hb hts in_Rd hown hK hP 3 rfl rfl 4 (by decide) (hts (Cond.fieldLink "OutwardTape$LiteralReader" 29 "OutwardTape$LiteralReader" "at" "I") (m_1 67 rfl rfl)) (fun _ h9 => h9) rfl (dt_at dt_Rd_next 8 rfl) ?_
    obtain ⟨z2, h⟩ := og_of h
    refine va_cald hx hb hK hP 4 2 rfl rfl z2 (dt_at dt_Rd_next 9 rfl) ?_
    refine lv_goto (tgt := 24) hx hb (dt_at dt_Rd_next 10 rfl) (by decide) ?_
    exact k_Rd_next_24 hC hA hK   (g6 g5.toNatClampNeg) H locs ls hP hD hS   (lv_sub hl [] rfl) h
set_option maxRecDepth 100000 in
set_option maxHeartbeats 4000000 in
theorem c_Rd_next (l : Launch) (D : va_G) (a : Nat → Nat) (q : Nat → ClassId) (L : Nat) (R : Nat) (hd : va_D (fun _ => True) (dT a)) (sz : Nat)  (g0 : Int32) (g1 : Int32) (g2 : Nat → Int32) (g3 : Nat → Option Nat) (g4 : Int32) (g5 : Int32) (g6 : Nat → Int32) (g7 : Int32) (g8 : Int64) (g9 : Int32) (g10 : Int32) (g11 : Nat → Int32) (g12 : Int32) (g13 : Int64) (g14 : Int32) (g15 : Int32) (g16 : Nat → Int32)   (r0 : Int32) (h : f_Rd_next g4 g5 g6 = some r0) : Met l (⟨"OutwardTape$LiteralReader", "next", "()C"⟩ : MethodName) (WSm (⟨"OutwardTape$LiteralReader", "next", "()C"⟩ : MethodName) prog_5_method_14_code 1 (some .char)) rm_Rd_next (va_Pc [.ref (a 3)] (fun U => U.heap.size = sz ∧ va_P D CLS (wT a q L R g0 g1 g2 g3 g4 g5 g6 g7 g8 g9 g10 g11 g12 g13 g14 g15 g16) U.heap ∧ va_K D CLS (tT q) U)) (va_Qi (fun (r : Int32) (_ : Unit) => r = r0) (fun _ t => va_P D CLS (wT a q L R g0 g1 g2 g3 g4 g5 g6 g7 g8 g9 g10 g11 g12 g13 g14 g15 g16) t.heap) (va_A (dT a) sz)) 0 0 (va_A (dT a) sz) := by
  refine Met.ofW (cc := prog_5_method_14_code) (maxL := 1) (ret := (some .char)) (by decide) rfl ?_
  intro p e s m args below meth c s₁ B hml hv
  obtain ⟨rfl, hsz, hP, hK⟩ := hv
  subst hsz
  have hC := CX.of B hml rfl
  have hl := lv_entry [.ref (a 3)] (n := 1) (Nat.le_of_ble_eq_true rfl)
  rw [lg_entry_eq]
  generalize (lg_sl [.ref (a 3)] ++ List.replicate (1 - (lg_sl [.ref (a 3)]).length) Slot.unset).toArray = ls at hl ⊢
  have hl : lv_has ls 1 [(0, .ref (a 3))] := hl
  exact k_Rd_next_0  hC (fun x h => Or.inr h) hK     s.heap [] ls hP (dD hd.self rfl) va_S.rf   (lv_sub hl [0] rfl) h
abbrev rm_Rd_readDigits : Room := { frames := 1, cells := 0, slots := 0, locals := 21 }
set_option maxRecDepth 100000 in
set_option maxHeartbeats 4000000 in
theorem k_Rd_readDigits_60 {p : Program} {l : Launch} {e : Env} {s : State} {m : MethodId} {args : Array Value} {below : List Frame} {meth : Method} {c : Code} {D : va_G} {a : Nat → Nat} {q : Nat → ClassId} {L : Nat} {R : Nat} {A : Nat → Prop} (hC : CX p s m args meth c prog_5_method_11_code 2 "OutwardTape$LiteralReader" (some .boolean)) (hA : ∀ x, s.heap.size ≤ x → A x) (hK : va_K D CLS (tT q) s) {g0 : Int32} {g1 : Int32} {g2 : Nat → Int32} {g3 : Nat → Option Nat} {g4 : Int32} {g6 : Nat → Int32} {g7 : Int32} {g10 : Int32} {g11 : Nat → Int32} {g12 : Int32} {g13 : Int64} {g14 : Int32} {g15 : Int32} {g16 : Nat → Int32} {r0 : Int32 × Int32 × Int64 × Int32} : ∀  (g5 : Int32) (g8 : Int64) (g9 : Int32) (H : Heap) (locs : List Loc) (ls : Array Slot), va_P D CLS (wT a q L R g0 g1 g2 g3 g4 g5 g6 g7 g8 g9 g10 g11 g12 g13 g14 g15 g16) H → va_D A (wT a q L R g0 g1 g2 g3 g4 g5 g6 g7 g8 g9 g10 g11 g12 g13 g14 g15 g16) → va_S A s.heap H locs → lv_has ls 2 [] → f_Rd_readDigits_60  g4 g5 g6 g8 g9 = some r0 → W p l e rm_Rd_readDigits s m args below meth c H locs 0 0 (MQ below (va_Qi (fun (r : Int32) (_ : Unit) => r = r0.1) (fun _ t => va_P D CLS (wT a q L R g0 g1 g2 g3 g4 r0.2.1 g6 g7 r0.2.2.1 r0.2.2.2 g10 g11 g12 g13 g14 g15 g16) t.heap) A) args s 0 0 A) (F0 m 60 ls []) := by
  obtain ⟨hx, hb, hml, hown, hts, hr, hlocks⟩ := id hC
  intro g5 g8 g9 H locs ls hP hD hS hl h
  rw [f_Rd_readDigits_60] at h
  have hSz : s.heap.size ≤ H.size := hS.1
  refine lv_iconst (v := 1) hx hb (dt_at dt_Rd_readDigits 31 rfl) (by decide) ?_
  obtain rfl := os_of h
  exact W.zret (v := (1 : Int32)) (ty := .boolean) hx hb hr (by decide) (fun t ht hW => ⟨⟨_, (), rfl, rfl, (hPt hP ht)⟩, hS.F ht⟩) hS.2.2 (dt_at dt_Rd_readDigits 32 rfl)
set_option maxRecDepth 100000 in
set_option maxHeartbeats 4000000 in
theorem k_Rd_readDigits_0 {p : Program} {l : Launch} {e : Env} {s : State} {m : MethodId} {args : Array Value} {below : List Frame} {meth : Method} {c : Code} {D : va_G} {a : Nat → Nat} {q : Nat → ClassId} {L : Nat} {R : Nat} {A : Nat → Prop} (hC : CX p s m args meth c prog_5_method_11_code 2 "OutwardTape$LiteralReader" (some .boolean)) (hA : ∀ x, s.heap.size ≤ x → A x) (hK : va_K D CLS (tT q) s) {g0 : Int32} {g1 : Int32} {g2 : Nat → Int32} {g3 : Nat → Option Nat} {g4 : Int32} {g6 : Nat → Int32} {g7 : Int32} {g10 : Int32} {g11 : Nat → Int32} {g12 : Int32} {g13 : Int64} {g14 : Int32} {g15 : Int32} {g16 : Nat → Int32} {r0 : Int32 × Int32 × Int64 × Int32} : ∀ n : Nat, ∀  (g5 : Int32) (g8 : Int64) (g9 : Int32) (H : Heap) (locs : List Loc) (ls : Array Slot), va_P D CLS (wT a q L R g0 g1 g2 g3 g4 g5 g6 g7 g8 g9 g10 g11 g12 g13 g14 g15 g16) H → va_D A (wT a q L R g0 g1 g2 g3 g4 g5 g6 g7 g8 g9 g10 g11 g12 g13 g14 g15 g16) → va_S A s.heap H locs → lv_has ls 2 [(0, .ref (a 3)), (1, .ref (a 5))] → f_Rd_readDigits_0  n g4 g5 g6 g8 g9 = some r0 → W p l e rm_Rd_readDigits s m args below meth c H locs 0 0 (MQ below (va_Qi (fun (r : Int32) (_ : Unit) => r = r0.1) (fun _ t => va_P D CLS (wT a q L R g0 g1 g2 g3 g4 r0.2.1 g6 g7 r0.2.2.1 r0.2.2.2 g10 g11 g12 g13 g14 g15 g16) t.heap) A) args s 0 0 A) (F0 m 0 ls []) := by
  obtain ⟨hx, hb, hml, hown, hts, hr, hlocks⟩ := id hC
  intro n
  induction n with
  | zero => intro g5 g8 g9 H locs ls hP hD hS hl h; cases h
  | succ n ih =>
    intro g5 g8 g9 H locs ls hP hD hS hl h
    rw [f_Rd_readDigits_0] at h
    have hSz : s.heap.size ≤ H.size := hS.1
    refine lv_aload_n hx hb (dt_at dt_Rd_readDigits 0 rfl) rfl (lv_at hl 0 rfl) ?_
    refine va_get (D := D) (ci := 2) (v := .int g5) (C := "OutwardTape$LiteralReader") (T := T_Rd) (N := 5) hx hb hts in_Rd hown hK hP 3 rfl rfl 4 (by decide) (hts (Cond.fieldLink "OutwardTape$LiteralReader" 29 "OutwardTape$LiteralReader" "at" "I") (m_1 67 rfl rfl)) (fun _ h9 => h9) rfl (dt_at dt_Rd_readDigits 1 rfl) ?_
    refine lv_aload_n hx hb (dt_at dt_Rd_readDigits 2 rfl) rfl (lv_at hl 0 rfl) ?_
    refine va_get (D := D) (ci := 2) (v := .int g4) (C := "OutwardTape$LiteralReader") (T := T_Rd) (N := 5) hx hb hts in_Rd hown hK hP 3 rfl rfl 3 (by decide) (hts (Cond.fieldLink "OutwardTape$LiteralReader" 25 "OutwardTape$LiteralReader" "end" "I") (m_1 66 rfl rfl)) (fun _ h9 => h9) rfl (dt_at dt_Rd_readDigits 3 rfl) ?_
    refine lv_icmp_ge (tgt := 60) hx hb (dt_at dt_Rd_readDigits 4 rfl) (by decide) (fun c1 => ?_) (fun c1 => ?_)
    · have h := if_p h c1
      exact k_Rd_readDigits_60 hC hA hK   g5 g8 g9 H locs ls hP hD hS   (lv_sub hl [] rfl) h
    · have h := if_n h c1
      refine lv_aload_n hx hb (dt_at dt_Rd_readDigits 5 rfl) rfl (lv_at hl 0 rfl) ?_
      refine va_get (D := D) (ci := 2) (v := .ref (a 4)) (C := "OutwardTape$LiteralReader") (T := T_Rd) (N := 5) hx hb hts in_Rd hown hK hP 3 rfl rfl 2 (by decide) (hts (Cond.fieldLink "OutwardTape$LiteralReader" 21 "OutwardTape$LiteralReader" "small" "[C") (m_1 65 rfl rfl)) (fun _ h9 => h9) rfl (dt_at dt_Rd_readDigits 6 rfl) ?_
      refine lv_aload_n hx hb (dt_at dt_Rd_readDigits 7 rfl) rfl (lv_at hl 0 rfl) ?_
      refine va_get (D := D) (ci := 2) (v := .int g5) (C := "OutwardTape$LiteralReader") (T := T_Rd) (N := 5) hx hb hts in_Rd hown hK hP 3 rfl rfl 4 (by decide) (hts (Cond.fieldLink "OutwardTape$LiteralReader" 29 "OutwardTape$LiteralReader" "at" "I") (m_1 67 rfl rfl)) (fun _ h9 => h9) rfl (dt_at dt_Rd_readDigits 8 rfl) ?_
      obtain ⟨z2, h⟩ := og_of h
      refine va_cald hx hb hK hP 4 2 rfl rfl z2 (dt_at dt_Rd_readDigits 9 rfl) ?_
      obtain ⟨r3, h_r3, h⟩ := ob_of h
      refine vp_callSi (W.runS (As := [.int (g6 g5.toNatClampNeg)]) (rest := []) ⟨hx, hb, hml, hown, hts⟩ (c_Rd_isDigit l (g6 g5.toNatClampNeg) r3 h_r3) (va_cwS 1 hts (gd_S (m_2 232 rfl rfl) (m_2 233 rfl rfl) (m_1 2 rfl rfl) (m_2 234 rfl rfl)) rfl rfl rfl (by decide +kernel) ⟨Nat.le_of_ble_eq_true rfl, Nat.le_of_ble_eq_true rfl⟩) ⟨fun _ _ _ _ q => q, fun U hU hW => ⟨rfl, trivial⟩⟩ rfl rfl hl.1 rfl (lv_room (Nat.le_of_ble_eq_true rfl)) (dt_at dt_Rd_readDigits 10 rfl) ⟨Nat.le_of_ble_eq_true rfl, Nat.le_of_ble_eq_true rfl⟩) (fun u_r3 q_r3 => ?_)
      obtain rfl : r3 = u_r3 := q_r3.symm
      refine lv_if_eq (tgt := 60) hx hb (dt_at dt_Rd_readDigits 11 rfl) (by decide) (fun c4 => ?_) (fun c4 => ?_)
      · have h := if_p h c4
        exact k_Rd_readDigits_60 hC hA hK   g5 g8 g9 H locs ls hP hD hS   (lv_sub hl [] rfl) h
      · have h := if_n h c4
        refine lv_aload_n hx hb (dt_at dt_Rd_readDigits 12 rfl) rfl (lv_at hl 1 rfl) ?_
        refine lv_aload_n hx hb (dt_at dt_Rd_readDigits 13 rfl) rfl (lv_at hl 0 rfl) ?_
        refine va_get (D := D) (ci := 2) (v := .ref (a 4)) (C := "OutwardTape$LiteralReader") (T := T_Rd) (N := 5) hx hb hts in_Rd hown hK hP 3 rfl rfl 2 (by decide) (hts (Cond.fieldLink "OutwardTape$LiteralReader" 21 "OutwardTape$LiteralReader" "small" "[C") (m_1 65 rfl rfl)) (fun _ h9 => h9) rfl (dt_at dt_Rd_readDigits 14 rfl) ?_
        refine lv_aload_n hx hb (dt_at dt_Rd_readDigits 15 rfl) rfl (lv_at hl 0 rfl) ?_
        refine va_get (D := D) (ci := 2) (v := .int g5) (C := "OutwardTape$LiteralReader") (T := T_Rd) (N := 5) hx hb hts in_Rd hown hK hP 3 rfl rfl 4 (by decide) (hts (Cond.fieldLink "OutwardTape$LiteralReader" 29 "OutwardTape$LiteralReader" "at" "I") (m_1 67 rfl rfl)) (fun _ h9 => h9) rfl (dt_at dt_Rd_readDigits 16 rfl) ?_
        obtain ⟨z5, h⟩ := og_of h
        refine va_cald hx hb hK hP 4 2 rfl rfl z5 (dt_at dt_Rd_readDigits 17 rfl) ?_
        refine lv_bipush (v := 48) hx hb (dt_at dt_Rd_readDigits 18 rfl) (by decide) ?_
        refine lv_isub hx hb (dt_at dt_Rd_readDigits 19 rfl) ?_
        obtain ⟨r6, h_r6, h⟩ := ob_of h
        have hPc := hP
        have hDc : va_D A (dT a) := dD (ws' := dT a) hD rfl
        have hKc := hK
        have hF := va_free (wc := dT a) hDc hS hA [0, 1, 2, 3, 4, 5, 6, 7, 8] rfl
        have hd : va_D (fun _ => True) (dT a) := hDc.weaken (fun _ _ _ _ => trivial)
        refine va_calli (va_runV (As := [.int ((g6 g5.toNatClampNeg) - (48 : Int32))]) (rest := []) ⟨hx, hb, hml, hown, hts⟩ (c_Num_addDigit l D a q L R hd H.size ((g6 g5.toNatClampNeg) - (48 : Int32)) g0 g1 g2 g3 g4 g5 g6 g7 g8 g9 g10 g11 g12 g13 g14 g15 g16   r6 h_r6) (cwV 1 hts (gd_V (m_3 7 rfl rfl) (m_3 8 rfl rfl) (m_3 9 rfl rfl) (m_1 3 rfl rfl) (m_3 10 rfl rfl)) rfl rfl rfl (by decide +kernel) ⟨Nat.le_of_ble_eq_true rfl, Nat.le_of_ble_eq_true rfl⟩) ⟨fun a U g mk q => ⟨q.1, q.2.1, q.2.2.1, va_K.moved (u := U) (U := U.calling g mk a) (Vm.Alike.refl U.vm) q.2.2.2⟩, va_recv hK hP (ci := 3) (q0 := 5) rfl rfl, fun U hU hW => ⟨rfl, by rw [hU], by rw [hU]; exact hPc, va_K.moved hW.alike hKc⟩⟩ rfl rfl hl.1 rfl (lv_room (Nat.le_of_ble_eq_true rfl)) (dt_at dt_Rd_readDigits 20 rfl) ⟨Nat.le_of_ble_eq_true rfl, Nat.le_of_ble_eq_true rfl⟩) hS (fun x _ h9 => hF x h9) hF (fun u_r6 uu t H1 locs ht hvm hw hB hz1 hk1 hS => ?_)
        subst hw
        rw [ht] at hB
        have hP : va_P D CLS (wT a q L R g0 g1 g2 g3 g4 g5 g6 g7 r6.2.1 r6.2.2 g10 g11 g12 g13 g14 g15 g16) H1 := hB
        have hD : va_D A (wT a q L R g0 g1 g2 g3 g4 g5 g6 g7 r6.2.1 r6.2.2 g10 g11 g12 g13 g14 g15 g16) := dD hD rfl
        have hSz : s.heap.size ≤ H1.size := hS.1
        clear hk1 hz1 hPc hF hB ht
        generalize H1 = H at hP hS hSz  ⊢
        refine lv_if_ne (tgt := 47) hx hb (dt_at dt_Rd_readDigits 21 rfl) (by decide) (fun c7 => ?_) (fun c7 => ?_)
        · have h := if_n h c7
          refine lv_aload_n hx hb (dt_at dt_Rd_readDigits 24 rfl) rfl (lv_at hl 0 rfl) ?_
          refine lv_dup hx hb (dt_at dt_Rd_readDigits 25 rfl) rfl ?_
          refine va_get (D := D) (ci := 2) (v := .int g5) (C := "OutwardTape$LiteralReader") (T := T_Rd) (N := 5) hx hb hts in_Rd hown hK hP 3 rfl rfl 4 (by decide) (hts (Cond.fieldLink "OutwardTape$LiteralReader" 29 "OutwardTape$LiteralReader" "at" "I") (m_1 67 rfl rfl)) (fun _ h9 => h9) rfl (dt_at dt_Rd_readDigits 26 rfl) ?_
          refine lv_iconst (v := 1) hx hb (dt_at dt_Rd_readDigits 27 rfl) (by decide) ?_
          refine lv_iadd hx hb (dt_at dt_Rd_readDigits 28 rfl) ?_
          obtain ⟨t8, e_t8, h⟩ := ol_of h
          refine lv_topi (fun u_t8 q_t8 => ?_)
          obtain rfl : t8 = u_t8 := e_t8.trans q_t8.symm
          refine va_put (D := D) (ci := 2) (v := .int t8) (ty := .int) (C := "OutwardTape$LiteralReader") (T := T_Rd) (N := 5) hx hb hts in_Rd ty_Rd tk_Rd nm_Rd hown hK hP hD hS 3 rfl rfl 4 (by decide) (hts (Cond.fieldLink "OutwardTape$LiteralReader" 29 "OutwardTape$LiteralReader" "at" "I") (m_1 67 rfl rfl)) (fun _ h9 => h9) rfl (by decide +kernel) rfl rfl (Nat.le_of_ble_eq_true rfl) (dt_at dt_Rd_readDigits 29 rfl) (fun H locs hP hD hS => ?_)
          have hP : va_P D CLS (wT a q L R g0 g1 g2 g3 g4 t8 g6 g7 r6.2.1 r6.2.2 g10 g11 g12 g13 g14 g15 g16) H := hP
          have hD : va_D A (wT a q L R g0 g1 g2 g3 g4 t8 g6 g7 r6.2.1 r6.2.2 g10 g11 g12 g13 g14 g15 g16) := hD
          refine lv_goto (tgt := 0) hx hb (dt_at dt_Rd_readDigits 30 rfl) (by decide) ?_
          exact ih t8 r6.2.1 r6.2.2 H locs ls hP hD hS   (lv_sub hl [0, 1] rfl) h
        · have h := if_p h c7
          refine lv_iconst (v := 0) hx hb (dt_at dt_Rd_readDigits 22 rfl) (by decide) ?_
          obtain rfl := os_of h
          exact W.zret (v := (0 : Int32)) (ty := .boolean) hx hb hr (by decide) (fun t ht hW => ⟨⟨_, (), rfl, rfl, (hPt hP ht)⟩, hS.F ht⟩) hS.2.2 (dt_at dt_Rd_readDigits 23 rfl)
set_option maxRecDepth 100000 in
set_option maxHeartbeats 4000000 in
theorem c_Rd_readDigits (l : Launch) (D : va_G) (a : Nat → Nat) (q : Nat → ClassId) (L : Nat) (R : Nat) (hd : va_D (fun _ => True) (dT a)) (sz : Nat)  (g0 : Int32) (g1 : Int32) (g2 : Nat → Int32) (g3 : Nat → Option Nat) (g4 : Int32) (g5 : Int32) (g6 : Nat → Int32) (g7 : Int32) (g8 : Int64) (g9 : Int32) (g10 : Int32) (g11 : Nat → Int32) (g12 : Int32) (g13 : Int64) (g14 : Int32) (g15 : Int32) (g16 : Nat → Int32)   (r0 : Int32 × Int32 × Int64 × Int32) (h : f_Rd_readDigits g4 g5 g6 g8 g9 = some r0) : Met l (⟨"OutwardTape$LiteralReader", "readDigits", "(LOutwardTape$Numeral;)Z"⟩ : MethodName) (WSm (⟨"OutwardTape$LiteralReader", "readDigits", "(LOutwardTape$Numeral;)Z"⟩ : MethodName) prog_5_method_11_code 2 (some .boolean)) rm_Rd_readDigits (va_Pc [.ref (a 3), .ref (a 5)] (fun U => U.heap.size = sz ∧ va_P D CLS (wT a q L R g0 g1 g2 g3 g4 g5 g6 g7 g8 g9 g10 g11 g12 g13 g14 g15 g16) U.heap ∧ va_K D CLS (tT q) U)) (va_Qi (fun (r : Int32) (_ : Unit) => r = r0.1) (fun _ t => va_P D CLS (wT a q L R g0 g1 g2 g3 g4 r0.2.1 g6 g7 r0.2.2.1 r0.2.2.2 g10 g11 g12 g13 g14 g15 g16) t.heap) (va_A (dT a) sz)) 0 0 (va_A (dT a) sz) := by
  refine Met.ofW (cc := prog_5_method_11_code) (maxL := 2) (ret := (some .boolean)) (by decide) rfl ?_
  intro p e s m args below meth c s₁ B hml hv
  obtain ⟨rfl, hsz, hP, hK⟩ := hv
  subst hsz
  have hC := CX.of B hml rfl
  have hl := lv_entry [.ref (a 3), .ref (a 5)] (n := 2) (Nat.le_of_ble_eq_true rfl)
  rw [lg_entry_eq]
  generalize (lg_sl [.ref (a 3), .ref (a 5)] ++ List.replicate (2 - (lg_sl [.ref (a 3), .ref (a 5)]).length) Slot.unset).toArray = ls at hl ⊢
  have hl : lv_has ls 2 [(0, .ref (a 3)), (1, .ref (a 5))] := hl
  exact k_Rd_readDigits_0  hC (fun x h => Or.inr h) hK 5000  g5 g8 g9   s.heap [] ls hP (dD hd.self rfl) va_S.rf   (lv_sub hl [0, 1] rfl) h
abbrev rm_Rd_take : Room := { frames := 1, cells := 0, slots := 0, locals := 20 }
set_option maxRecDepth 100000 in
set_option maxHeartbeats 4000000 in
theorem k_Rd_take_0 {p : Program} {l : Launch} {e : Env} {s : State} {m : MethodId} {args : Array Value} {below : List Frame} {meth : Method} {c : Code} {D : va_G} {a : Nat → Nat} {q : Nat → ClassId} {L : Nat} {R : Nat} {A : Nat → Prop} (hC : CX p s m args meth c prog_5_method_15_code 2 "OutwardTape$LiteralReader" (some .boolean)) (hA : ∀ x, s.heap.size ≤ x → A x) (hK : va_K D CLS (tT q) s) {g0 : Int32} {g1 : Int32} {g2 : Nat → Int32} {g3 : Nat → Option Nat} {g4 : Int32} {g6 : Nat → Int32} {g7 : Int32} {g8 : Int64} {g9 : Int32} {g10 : Int32} {g11 : Nat → Int32} {g12 : Int32} {g13 : Int64} {g14 : Int32} {g15 : Int32} {g16 : Nat → Int32} {r0 : Int32 × Int32} : ∀ (v1 : Int32) (g5 : Int32) (H : Heap) (locs : List Loc) (ls : Array Slot), va_P D CLS (wT a q L R g0 g1 g2 g3 g4 g5 g6 g7 g8 g9 g10 g11 g12 g13 g14 g15 g16) H → va_D A (wT a q L R g0 g1 g2 g3 g4 g5 g6 g7 g8 g9 g10 g11 g12 g13 g14 g15 g16) → va_S A s.heap H locs → lv_has ls 2 [(0, .ref (a 3)), (1, .int v1)] → f_Rd_take_0  v1 g4 g5 g6 = some r0 → W p l e rm_Rd_take s m args below meth c H locs 0 0 (MQ below (va_Qi (fun (r : Int32) (_ : Unit) => r = r0.1) (fun _ t => va_P D CLS (wT a q L R g0 g1 g2 g3 g4 r0.2 g6 g7 g8 g9 g10 g11 g12 g13 g14 g15 g16) t.heap) A) args s 0 0 A) (F0 m 0 ls []) := by
  obtain ⟨hx, hb, hml, hown, hts, hr, hlocks⟩ := id hC
  intro v1 g5 H locs ls hP hD hS hl h
  rw [f_Rd_take_0] at h
  have hSz : s.heap.size ≤ H.size := hS.1
  refine lv_aload_n hx hb (dt_at dt_Rd_take 0 rfl) rfl (lv_at hl 0 rfl) ?_
  obtain ⟨r1, h_r1, h⟩ := ob_of h
  have hPc := hP
  have hDc : va_D A (dT a) := dD (ws' := dT a) hD rfl
  have hKc := hK
  have hF := va_free (wc := dT a) hDc hS hA [0, 1, 2, 3, 4, 5, 6, 7, 8] rfl
  have hd : va_D (fun _ => True) (dT a) := hDc.weaken (fun _ _ _ _ => trivial)
  refine va_calli (va_runV (As := []) (rest := []) ⟨hx, hb, hml, hown, hts⟩ (c_Rd_next l D a q L R hd H.size  g0 g1 g2 g3 g4 g5 g6 g7 g8 g9 g10 g11 g12 g13 g14 g15 g16   r1 h_r1) (cwV 0 hts (gd_V (m_2 104 rfl rfl) (m_2 106 rfl rfl) (m_s 5 rfl rfl) (m_1 2 rfl rfl) (m_2 107 rfl rfl)) rfl rfl rfl (by decide +kernel) ⟨Nat.le_of_ble_eq_true rfl, Nat.le_of_ble_eq_true rfl⟩) ⟨fun a U g mk q => ⟨q.1, q.2.1, q.2.2.1, va_K.moved (u := U) (U := U.calling g mk a) (Vm.Alike.refl U.vm) q.2.2.2⟩, va_recv hK hP (ci := 2) (q0 := 3) rfl rfl, fun U hU hW => ⟨rfl, by rw [hU], by rw [hU]; exact hPc, va_K.moved hW.alike hKc⟩⟩ rfl rfl hl.1 rfl (lv_room (Nat.le_of_ble_eq_true rfl)) (dt_at dt_Rd_take 1 rfl) ⟨Nat.le_of_ble_eq_true rfl, Nat.le_of_ble_eq_true rfl⟩) hS (fun x _ h9 => hF x h9) hF (fun u_r1 uu t H1 locs ht hvm hw hB hz1 hk1 hS => ?_)
  obtain rfl : r1 = u_r1 := hw.symm
  rw [ht] at hB
  have hP : va_P D CLS (wT a q L R g0 g1 g2 g3 g4 g5 g6 g7 g8 g9 g10 g11 g12 g13 g14 g15 g16) H1 := hB
  have hD : va_D A (wT a q L R g0 g1 g2 g3 g4 g5 g6 g7 g8 g9 g10 g11 g12 g13 g14 g15 g16) := dD hD rfl
  have hSz : s.heap.size ≤ H1.size := hS.1
  clear hk1 hz1 hPc hF hB ht
  generalize H1 = H at hP hS hSz  ⊢
  refine lv_iload_n hx hb (dt_at dt_Rd_take 2 rfl) rfl (lv_at hl 1 rfl) ?_
  refine lv_icmp_eq (tgt := 10) hx hb (dt_at dt_Rd_take 3 rfl) (by decide) (fun c2 => ?_) (fun c2 => ?_)
  · have h := if_p h c2
    refine lv_aload_n hx hb (dt_at dt_Rd_take 6 rfl) rfl (lv_at hl 0 rfl) ?_
    refine lv_dup hx hb (dt_at dt_Rd_take 7 rfl) rfl ?_
    refine va_get (D := D) (ci := 2) (v := .int g5) (C := "OutwardTape$LiteralReader") (T := T_Rd) (N := 5) hx hb hts in_Rd hown hK hP 3 rfl rfl 4 (by decide) (hts (Cond.fieldLink "OutwardTape$LiteralReader" 29 "OutwardTape$LiteralReader" "at" "I") (m_1 67 rfl rfl)) (fun _ h9 => h9) rfl (dt_at dt_Rd_take 8 rfl) ?_
    refine lv_iconst (v := 1) hx hb (dt_at dt_Rd_take 9 rfl) (by decide) ?_
    refine lv_iadd hx hb (dt_at dt_Rd_take 10 rfl) ?_
    obtain ⟨t3, e_t3, h⟩ := ol_of h
    refine lv_topi (fun u_t3 q_t3 => ?_)
    obtain rfl : t3 = u_t3 := e_t3.trans q_t3.symm
    refine va_put (D := D) (ci := 2) (v := .int t3) (ty := .int) (C := "OutwardTape$LiteralReader") (T := T_Rd) (N := 5) hx hb hts in_Rd ty_Rd tk_Rd nm_Rd hown hK hP hD hS 3 rfl rfl 4 (by decide) (hts (Cond.fieldLink "OutwardTape$LiteralReader" 29 "OutwardTape$LiteralReader" "at" "I") (m_1 67 rfl rfl)) (fun _ h9 => h9) rfl (by decide +kernel) rfl rfl (Nat.le_of_ble_eq_true rfl) (dt_at dt_Rd_take 11 rfl) (fun H locs hP hD hS => ?_)
    have hP : va_P D CLS (wT a q L R g0 g1 g2 g3 g4 t3 g6 g7 g8 g9 g10 g11 g12 g13 g14 g15 g16) H := hP
    have hD : va_D A (wT a q L R g0 g1 g2 g3 g4 t3 g6 g7 g8 g9 g10 g11 g12 g13 g14 g15 g16) := hD
    refine lv_iconst (v := 1) hx hb (dt_at dt_Rd_take 12 rfl) (by decide) ?_
    obtain rfl := os_of h
    exact W.zret (v := (1 : Int32)) (ty := .boolean) hx hb hr (by decide) (fun t ht hW => ⟨⟨_, (), rfl, rfl, (hPt hP ht)⟩, hS.F ht⟩) hS.2.2 (dt_at dt_Rd_take 13 rfl)
  · have h := if_n h c2
    refine lv_iconst (v := 0) hx hb (dt_at dt_Rd_take 4 rfl) (by decide) ?_
    obtain rfl := os_of h
    exact W.zret (v := (0 : Int32)) (ty := .boolean) hx hb hr (by decide) (fun t ht hW => ⟨⟨_, (), rfl, rfl, (hPt hP ht)⟩, hS.F ht⟩) hS.2.2 (dt_at dt_Rd_take 5 rfl)
set_option maxRecDepth 100000 in
set_option maxHeartbeats 4000000 in
theorem c_Rd_take (l : Launch) (D : va_G) (a : Nat → Nat) (q : Nat → ClassId) (L : Nat) (R : Nat) (hd : va_D (fun _ => True) (dT a)) (sz : Nat) (a1 : Int32) (g0 : Int32) (g1 : Int32) (g2 : Nat → Int32) (g3 : Nat → Option Nat) (g4 : Int32) (g5 : Int32) (g6 : Nat → Int32) (g7 : Int32) (g8 : Int64) (g9 : Int32) (g10 : Int32) (g11 : Nat → Int32) (g12 : Int32) (g13 : Int64) (g14 : Int32) (g15 : Int32) (g16 : Nat → Int32)   (r0 : Int32 × Int32) (h : f_Rd_take a1 g4 g5 g6 = some r0) : Met l (⟨"OutwardTape$LiteralReader", "take", "(C)Z"⟩ : MethodName) (WSm (⟨"OutwardTape$LiteralReader", "take", "(C)Z"⟩ : MethodName) prog_5_method_15_code 2 (some .boolean)) rm_Rd_take (va_Pc [.ref (a 3), .int a1] (fun U => U.heap.size = sz ∧ va_P D CLS (wT a q L R g0 g1 g2 g3 g4 g5 g6 g7 g8 g9 g10 g11 g12 g13 g14 g15 g16) U.heap ∧ va_K D CLS (tT q) U)) (va_Qi (fun (r : Int32) (_ : Unit) => r = r0.1) (fun _ t => va_P D CLS (wT a q L R g0 g1 g2 g3 g4 r0.2 g6 g7 g8 g9 g10 g11 g12 g13 g14 g15 g16) t.heap) (va_A (dT a) sz)) 0 0 (va_A (dT a) sz) := by
  refine Met.ofW (cc := prog_5_method_15_code) (maxL := 2) (ret := (some .boolean)) (by decide) rfl ?_
  intro p e s m args below meth c s₁ B hml hv
  obtain ⟨rfl, hsz, hP, hK⟩ := hv
  subst hsz
  have hC := CX.of B hml rfl
  have hl := lv_entry [.ref (a 3), .int a1] (n := 2) (Nat.le_of_ble_eq_true rfl)
  rw [lg_entry_eq]
  generalize (lg_sl [.ref (a 3), .int a1] ++ List.replicate (2 - (lg_sl [.ref (a 3), .int a1]).length) Slot.unset).toArray = ls at hl ⊢
  have hl : lv_has ls 2 [(0, .ref (a 3)), (1, .int a1)] := hl
  exact k_Rd_take_0  hC (fun x h => Or.inr h) hK a1 g5   s.heap [] ls hP (dD hd.self rfl) va_S.rf   (lv_sub hl [0, 1] rfl) h
abbrev rm_Rd_readExponent : Room := { frames := 2, cells := 0, slots := 0, locals := 41 }
set_option maxRecDepth 100000 in
set_option maxHeartbeats 4000000 in
theorem k_Rd_readExponent_111 {p : Program} {l : Launch} {e : Env} {s : State} {m : MethodId} {args : Array Value} {below : List Frame} {meth : Method} {c : Code} {D : va_G} {a : Nat → Nat} {q : Nat → ClassId} {L : Nat} {R : Nat} {A : Nat → Prop} (hC : CX p s m args meth c prog_5_method_12_code 6 "OutwardTape$LiteralReader" (some .boolean)) (hA : ∀ x, s.heap.size ≤ x → A x) (hK : va_K D CLS (tT q) s) {g0 : Int32} {g1 : Int32} {g2 : Nat → Int32} {g3 : Nat → Option Nat} {g4 : Int32} {g6 : Nat → Int32} {g7 : Int32} {g8 : Int64} {g9 : Int32} {g11 : Nat → Int32} {g12 : Int32} {g13 : Int64} {g14 : Int32} {g15 : Int32} {g16 : Nat → Int32} {r0 : Int32 × Int32 × Int32} : ∀ (s0 : Int32) (g5 : Int32) (g10 : Int32) (H : Heap) (locs : List Loc) (ls : Array Slot), va_P D CLS (wT a q L R g0 g1 g2 g3 g4 g5 g6 g7 g8 g9 g10 g11 g12 g13 g14 g15 g16) H → va_D A (wT a q L R g0 g1 g2 g3 g4 g5 g6 g7 g8 g9 g10 g11 g12 g13 g14 g15 g16) → va_S A s.heap H locs → lv_has ls 6 [] → f_Rd_readExponent_111  s0 g4 g5 g6 g10 = some r0 → W p l e rm_Rd_readExponent s m args below meth c H locs 0 0 (MQ below (va_Qi (fun (r : Int32) (_ : Unit) => r = r0.1) (fun _ t => va_P D CLS (wT a q L R g0 g1 g2 g3 g4 r0.2.1 g6 g7 g8 g9 r0.2.2 g11 g12 g13 g14 g15 g16) t.heap) A) args s 0 0 A) (F0 m 111 ls [.int s0]) := by
  obtain ⟨hx, hb, hml, hown, hts, hr, hlocks⟩ := id hC
  intro s0 g5 g10 H locs ls hP hD hS hl h
  rw [f_Rd_readExponent_111] at h
  have hSz : s.heap.size ≤ H.size := hS.1
  obtain ⟨hz, h⟩ := og_of h
  obtain rfl := os_of h
  exact W.zret (v := s0) (ty := .boolean) hx hb hr (j_z_nar hz) (fun t ht hW => ⟨⟨_, (), rfl, rfl, (hPt hP ht)⟩, hS.F ht⟩) hS.2.2 (dt_at dt_Rd_readExponent 59 rfl)
set_option maxRecDepth 100000 in
set_option maxHeartbeats 4000000 in
theorem k_Rd_readExponent_110 {p : Program} {l : Launch} {e : Env} {s : State} {m : MethodId} {args : Array Value} {below : List Frame} {meth : Method} {c : Code} {D : va_G} {a : Nat → Nat} {q : Nat → ClassId} {L : Nat} {R : Nat} {A : Nat → Prop} (hC : CX p s m args meth c prog_5_method_12_code 6 "OutwardTape$LiteralReader" (some .boolean)) (hA : ∀ x, s.heap.size ≤ x → A x) (hK : va_K D CLS (tT q) s) {g0 : Int32} {g1 : Int32} {g2 : Nat → Int32} {g3 : Nat → Option Nat} {g4 : Int32} {g6 : Nat → Int32} {g7 : Int32} {g8 : Int64} {g9 : Int32} {g11 : Nat → Int32} {g12 : Int32} {g13 : Int64} {g14 : Int32} {g15 : Int32} {g16 : Nat → Int32} {r0 : Int32 × Int32 × Int32} : ∀  (g5 : Int32) (g10 : Int32) (H : Heap) (locs : List Loc) (ls : Array Slot), va_P D CLS (wT a q L R g0 g1 g2 g3 g4 g5 g6 g7 g8 g9 g10 g11 g12 g13 g14 g15 g16) H → va_D A (wT a q L R g0 g1 g2 g3 g4 g5 g6 g7 g8 g9 g10 g11 g12 g13 g14 g15 g16) → va_S A s.heap H locs → lv_has ls 6 [] → f_Rd_readExponent_110  g4 g5 g6 g10 = some r0 → W p l e rm_Rd_readExponent s m args below meth c H locs 0 0 (MQ below (va_Qi (fun (r : Int32) (_ : Unit) => r = r0.1) (fun _ t => va_P D CLS (wT a q L R g0 g1 g2 g3 g4 r0.2.1 g6 g7 g8 g9 r0.2.2 g11 g12 g13 g14 g15 g16) t.heap) A) args s 0 0 A) (F0 m 110 ls []) := by
  obtain ⟨hx, hb, hml, hown, hts, hr, hlocks⟩ := id hC
  intro g5 g10 H locs ls hP hD hS hl h
  rw [f_Rd_readExponent_110] at h
  have hSz : s.heap.size ≤ H.size := hS.1
  refine lv_iconst (v := 0) hx hb (dt_at dt_Rd_readExponent 58 rfl) (by decide) ?_
  exact k_Rd_readExponent_111 hC hA hK   (0 : Int32) g5 g10 H locs ls hP hD hS   (lv_sub hl [] rfl) h
set_option maxRecDepth 100000 in
set_option maxHeartbeats 4000000 in
theorem k_Rd_readExponent_98 {p : Program} {l : Launch} {e : Env} {s : State} {m : MethodId} {args : Array Value} {below : List Frame} {meth : Method} {c : Code} {D : va_G} {a : Nat → Nat} {q : Nat → ClassId} {L : Nat} {R : Nat} {A : Nat → Prop} (hC : CX p s m args meth c prog_5_method_12_code 6 "OutwardTape$LiteralReader" (some .boolean)) (hA : ∀ x, s.heap.size ≤ x → A x) (hK : va_K D CLS (tT q) s) {g0 : Int32} {g1 : Int32} {g2 : Nat → Int32} {g3 : Nat → Option Nat} {g4 : Int32} {g6 : Nat → Int32} {g7 : Int32} {g8 : Int64} {g9 : Int32} {g11 : Nat → Int32} {g12 : Int32} {g13 : Int64} {g14 : Int32} {g15 : Int32} {g16 : Nat → Int32} {r0 : Int32 × Int32 × Int32} : ∀ (s0 : Int32) (v2 : Int32) (g5 : Int32) (g10 : Int32) (H : Heap) (locs : List Loc) (ls : Array Slot), va_P D CLS (wT a q L R g0 g1 g2 g3 g4 g5 g6 g7 g8 g9 g10 g11 g12 g13 g14 g15 g16) H → va_D A (wT a q L R g0 g1 g2 g3 g4 g5 g6 g7 g8 g9 g10 g11 g12 g13 g14 g15 g16) → va_S A s.heap H locs → lv_has ls 6 [(2, .int v2)] → f_Rd_readExponent_98  s0 v2 g4 g5 g6 g10 = some r0 → W p l e rm_Rd_readExponent s m args below meth c H locs 0 0 (MQ below (va_Qi (fun (r : Int32) (_ : Unit) => r = r0.1) (fun _ t => va_P D CLS (wT a q L R g0 g1 g2 g3 g4 r0.2.1 g6 g7 g8 g9 r0.2.2 g11 g12 g13 g14 g15 g16) t.heap) A) args s 0 0 A) (F0 m 98 ls [.int s0, .ref (a 5)]) := by
  obtain ⟨hx, hb, hml, hown, hts, hr, hlocks⟩ := id hC
  intro s0 v2 g5 g10 H locs ls hP hD hS hl h
  rw [f_Rd_readExponent_98] at h
  have hSz : s.heap.size ≤ H.size := hS.1
  refine lv_iload_n hx hb (dt_at dt_Rd_readExponent 52 rfl) rfl (lv_at hl 0 rfl) ?_
  refine lv_isub hx hb (dt_at dt_Rd_readExponent 53 rfl) ?_
  obtain ⟨r1, h_r1, h⟩ := ob_of h
  have hPc := hP
  have hDc : va_D A (dT a) := dD (ws' := dT a) hD rfl
  have hKc := hK
  have hF := va_free (wc := dT a) hDc hS hA [0, 1, 2, 3, 4, 5, 6, 7, 8] rfl
  have hd : va_D (fun _ => True) (dT a) := hDc.weaken (fun _ _ _ _ => trivial)
  refine va_calli (va_runV (As := [.int (s0 - v2)]) (rest := []) ⟨hx, hb, hml, hown, hts⟩ (c_Num_setScale l D a q L R hd H.size (s0 - v2) g0 g1 g2 g3 g4 g5 g6 g7 g8 g9 g10 g11 g12 g13 g14 g15 g16   r1 h_r1) (cwV 1 hts (gd_V (m_3 16 rfl rfl) (m_3 17 rfl rfl) (m_3 18 rfl rfl) (m_1 3 rfl rfl) (m_3 19 rfl rfl)) rfl rfl rfl (by decide +kernel) ⟨Nat.le_of_ble_eq_true rfl, Nat.le_of_ble_eq_true rfl⟩) ⟨fun a U g mk q => ⟨q.1, q.2.1, q.2.2.1, va_K.moved (u := U) (U := U.calling g mk a) (Vm.Alike.refl U.vm) q.2.2.2⟩, va_recv hK hP (ci := 3) (q0 := 5) rfl rfl, fun U hU hW => ⟨rfl, by rw [hU], by rw [hU]; exact hPc, va_K.moved hW.alike hKc⟩⟩ rfl rfl hl.1 rfl (lv_room (Nat.le_of_ble_eq_true rfl)) (dt_at dt_Rd_readExponent 54 rfl) ⟨Nat.le_of_ble_eq_true rfl, Nat.le_of_ble_eq_true rfl⟩) hS (fun x _ h9 => hF x h9) hF (fun u_r1 uu t H1 locs ht hvm hw hB hz1 hk1 hS => ?_)
  subst hw
  rw [ht] at hB
  have hP : va_P D CLS (wT a q L R g0 g1 g2 g3 g4 g5 g6 g7 g8 g9 r1.2 g11 g12 g13 g14 g15 g16) H1 := hB
  have hD : va_D A (wT a q L R g0 g1 g2 g3 g4 g5 g6 g7 g8 g9 r1.2 g11 g12 g13 g14 g15 g16) := dD hD rfl
  have hSz : s.heap.size ≤ H1.size := hS.1
  clear hk1 hz1 hPc hF hB ht
  generalize H1 = H at hP hS hSz  ⊢
  refine lv_if_eq (tgt := 110) hx hb (dt_at dt_Rd_readExponent 55 rfl) (by decide) (fun c2 => ?_) (fun c2 => ?_)
  · have h := if_p h c2
    exact k_Rd_readExponent_110 hC hA hK   g5 r1.2 H locs ls hP hD hS   (lv_sub hl [] rfl) h
  · have h := if_n h c2
    refine lv_iconst (v := 1) hx hb (dt_at dt_Rd_readExponent 56 rfl) (by decide) ?_
    refine lv_goto (tgt := 111) hx hb (dt_at dt_Rd_readExponent 57 rfl) (by decide) ?_
    exact k_Rd_readExponent_111 hC hA hK   (1 : Int32) g5 r1.2 H locs ls hP hD hS   (lv_sub hl [] rfl) h
set_option maxRecDepth 100000 in
set_option maxHeartbeats 4000000 in
theorem k_Rd_readExponent_76 {p : Program} {l : Launch} {e : Env} {s : State} {m : MethodId} {args : Array Value} {below : List Frame} {meth : Method} {c : Code} {D : va_G} {a : Nat → Nat} {q : Nat → ClassId} {L : Nat} {R : Nat} {A : Nat → Prop} (hC : CX p s m args meth c prog_5_method_12_code 6 "OutwardTape$LiteralReader" (some .boolean)) (hA : ∀ x, s.heap.size ≤ x → A x) (hK : va_K D CLS (tT q) s) {g0 : Int32} {g1 : Int32} {g2 : Nat → Int32} {g3 : Nat → Option Nat} {g4 : Int32} {g6 : Nat → Int32} {g7 : Int32} {g8 : Int64} {g9 : Int32} {g11 : Nat → Int32} {g12 : Int32} {g13 : Int64} {g14 : Int32} {g15 : Int32} {g16 : Nat → Int32} {r0 : Int32 × Int32 × Int32} : ∀ (v2 : Int32) (v3 : Int32) (v4 : Int32) (v5 : Int32) (g5 : Int32) (g10 : Int32) (H : Heap) (locs : List Loc) (ls : Array Slot), va_P D CLS (wT a q L R g0 g1 g2 g3 g4 g5 g6 g7 g8 g9 g10 g11 g12 g13 g14 g15 g16) H → va_D A (wT a q L R g0 g1 g2 g3 g4 g5 g6 g7 g8 g9 g10 g11 g12 g13 g14 g15 g16) → va_S A s.heap H locs → lv_has ls 6 [(0, .ref (a 3)), (1, .ref (a 5)), (2, .int v2), (3, .int v3), (4, .int v4), (5, .int v5)] → f_Rd_readExponent_76  v2 v3 v4 v5 g4 g5 g6 g10 = some r0 → W p l e rm_Rd_readExponent s m args below meth c H locs 0 0 (MQ below (va_Qi (fun (r : Int32) (_ : Unit) => r = r0.1) (fun _ t => va_P D CLS (wT a q L R g0 g1 g2 g3 g4 r0.2.1 g6 g7 g8 g9 r0.2.2 g11 g12 g13 g14 g15 g16) t.heap) A) args s 0 0 A) (F0 m 76 ls []) := by
  obtain ⟨hx, hb, hml, hown, hts, hr, hlocks⟩ := id hC
  intro v2 v3 v4 v5 g5 g10 H locs ls hP hD hS hl h
  rw [f_Rd_readExponent_76] at h
  have hSz : s.heap.size ≤ H.size := hS.1
  refine lv_aload_n hx hb (dt_at dt_Rd_readExponent 41 rfl) rfl (lv_at hl 0 rfl) ?_
  refine va_get (D := D) (ci := 2) (v := .int g5) (C := "OutwardTape$LiteralReader") (T := T_Rd) (N := 5) hx hb hts in_Rd hown hK hP 3 rfl rfl 4 (by decide) (hts (Cond.fieldLink "OutwardTape$LiteralReader" 29 "OutwardTape$LiteralReader" "at" "I") (m_1 67 rfl rfl)) (fun _ h9 => h9) rfl (dt_at dt_Rd_readExponent 42 rfl) ?_
  refine lv_iload hx hb (dt_at dt_Rd_readExponent 43 rfl) (lv_at hl 5 rfl) ?_
  refine lv_icmp_le (tgt := 110) hx hb (dt_at dt_Rd_readExponent 44 rfl) (by decide) (fun c1 => ?_) (fun c1 => ?_)
  · have h := if_p h c1
    exact k_Rd_readExponent_110 hC hA hK   g5 g10 H locs ls hP hD hS   (lv_sub hl [] rfl) h
  · have h := if_n h c1
    refine lv_aload_n hx hb (dt_at dt_Rd_readExponent 45 rfl) rfl (lv_at hl 1 rfl) ?_
    refine lv_iload_n hx hb (dt_at dt_Rd_readExponent 46 rfl) rfl (lv_at hl 3 rfl) ?_
    refine lv_if_eq (tgt := 96) hx hb (dt_at dt_Rd_readExponent 47 rfl) (by decide) (fun c2 => ?_) (fun c2 => ?_)
    · have h := if_p h c2
      refine lv_iload hx hb (dt_at dt_Rd_readExponent 51 rfl) (lv_at hl 4 rfl) ?_
      exact k_Rd_readExponent_98 hC hA hK   v4 v2 g5 g10 H locs ls hP hD hS   (lv_sub hl [2] rfl) h
    · have h := if_n h c2
      refine lv_iload hx hb (dt_at dt_Rd_readExponent 48 rfl) (lv_at hl 4 rfl) ?_
      refine lv_ineg hx hb (dt_at dt_Rd_readExponent 49 rfl) ?_
      refine lv_goto (tgt := 98) hx hb (dt_at dt_Rd_readExponent 50 rfl) (by decide) ?_
      exact k_Rd_readExponent_98 hC hA hK   (-v4) v2 g5 g10 H locs ls hP hD hS   (lv_sub hl [2] rfl) h
set_option maxRecDepth 100000 in
set_option maxHeartbeats 4000000 in
theorem k_Rd_readExponent_27 {p : Program} {l : Launch} {e : Env} {s : State} {m : MethodId} {args : Array Value} {below : List Frame} {meth : Method} {c : Code} {D : va_G} {a : Nat → Nat} {q : Nat → ClassId} {L : Nat} {R : Nat} {A : Nat → Prop} (hC : CX p s m args meth c prog_5_method_12_code 6 "OutwardTape$LiteralReader" (some .boolean)) (hA : ∀ x, s.heap.size ≤ x → A x) (hK : va_K D CLS (tT q) s) {g0 : Int32} {g1 : Int32} {g2 : Nat → Int32} {g3 : Nat → Option Nat} {g4 : Int32} {g6 : Nat → Int32} {g7 : Int32} {g8 : Int64} {g9 : Int32} {g11 : Nat → Int32} {g12 : Int32} {g13 : Int64} {g14 : Int32} {g15 : Int32} {g16 : Nat → Int32} {r0 : Int32 × Int32 × Int32} : ∀ n : Nat, ∀ (v2 : Int32) (v3 : Int32) (v4 : Int32) (v5 : Int32) (g5 : Int32) (g10 : Int32) (H : Heap) (locs : List Loc) (ls : Array Slot), va_P D CLS (wT a q L R g0 g1 g2 g3 g4 g5 g6 g7 g8 g9 g10 g11 g12 g13 g14 g15 g16) H → va_D A (wT a q L R g0 g1 g2 g3 g4 g5 g6 g7 g8 g9 g10 g11 g12 g13 g14 g15 g16) → va_S A s.heap H locs → lv_has ls 6 [(0, .ref (a 3)), (1, .ref (a 5)), (2, .int v2), (3, .int v3), (4, .int v4), (5, .int v5)] → f_Rd_readExponent_27  n v2 v3 v4 v5 g4 g5 g6 g10 = some r0 → W p l e rm_Rd_readExponent s m args below meth c H locs 0 0 (MQ below (va_Qi (fun (r : Int32) (_ : Unit) => r = r0.1) (fun _ t => va_P D CLS (wT a q L R g0 g1 g2 g3 g4 r0.2.1 g6 g7 g8 g9 r0.2.2 g11 g12 g13 g14 g15 g16) t.heap) A) args s 0 0 A) (F0 m 27 ls []) := by
  obtain ⟨hx, hb, hml, hown, hts, hr, hlocks⟩ := id hC
  intro n
  induction n with
  | zero => intro v2 v3 v4 v5 g5 g10 H locs ls hP hD hS hl h; cases h
  | succ n ih =>
    intro v2 v3 v4 v5 g5 g10 H locs ls hP hD hS hl h
    rw [f_Rd_readExponent_27] at h
    have hSz : s.heap.size ≤ H.size := hS.1
    refine lv_aload_n hx hb (dt_at dt_Rd_readExponent 15 rfl) rfl (lv_at hl 0 rfl) ?_
    refine va_get (D := D) (ci := 2) (v := .int g5) (C := "OutwardTape$LiteralReader") (T := T_Rd) (N := 5) hx hb hts in_Rd hown hK hP 3 rfl rfl 4 (by decide) (hts (Cond.fieldLink "OutwardTape$LiteralReader" 29 "OutwardTape$LiteralReader" "at" "I") (m_1 67 rfl rfl)) (fun _ h9 => h9) rfl (dt_at dt_Rd_readExponent 16 rfl) ?_
    refine lv_iload hx hb (dt_at dt_Rd_readExponent 17 rfl) (lv_at hl 5 rfl) ?_
    refine lv_iconst (v := 2) hx hb (dt_at dt_Rd_readExponent 18 rfl) (by decide) ?_
    refine lv_iadd hx hb (dt_at dt_Rd_readExponent 19 rfl) ?_
    refine lv_icmp_ge (tgt := 76) hx hb (dt_at dt_Rd_readExponent 20 rfl) (by decide) (fun c1 => ?_) (fun c1 => ?_)
    · have h := if_p h c1
      exact k_Rd_readExponent_76 hC hA hK   v2 v3 v4 v5 g5 g10 H locs ls hP hD hS   (lv_sub hl [0, 1, 2, 3, 4, 5] rfl) h
    · have h := if_n h c1
      refine lv_aload_n hx hb (dt_at dt_Rd_readExponent 21 rfl) rfl (lv_at hl 0 rfl) ?_
      obtain ⟨r2, h_r2, h⟩ := ob_of h
      have hPc := hP
      have hDc : va_D A (dT a) := dD (ws' := dT a) hD rfl
      have hKc := hK
      have hF := va_free (wc := dT a) hDc hS hA [0, 1, 2, 3, 4, 5, 6, 7, 8] rfl
      have hd : va_D (fun _ => True) (dT a) := hDc.weaken (fun _ _ _ _ => trivial)
      refine va_calli (va_runV (As := []) (rest := []) ⟨hx, hb, hml, hown, hts⟩ (c_Rd_next l D a q L R hd H.size  g0 g1 g2 g3 g4 g5 g6 g7 g8 g9 g10 g11 g12 g13 g14 g15 g16   r2 h_r2) (cwV 0 hts (gd_V (m_2 104 rfl rfl) (m_2 106 rfl rfl) (m_s 5 rfl rfl) (m_1 2 rfl rfl) (m_2 107 rfl rfl)) rfl rfl rfl (by decide +kernel) ⟨Nat.le_of_ble_eq_true rfl, Nat.le_of_ble_eq_true rfl⟩) ⟨fun a U g mk q => ⟨q.1, q.2.1, q.2.2.1, va_K.moved (u := U) (U := U.calling g mk a) (Vm.Alike.refl U.vm) q.2.2.2⟩, va_recv hK hP (ci := 2) (q0 := 3) rfl rfl, fun U hU hW => ⟨rfl, by rw [hU], by rw [hU]; exact hPc, va_K.moved hW.alike hKc⟩⟩ rfl rfl hl.1 rfl (lv_room (Nat.le_of_ble_eq_true rfl)) (dt_at dt_Rd_readExponent 22 rfl) ⟨Nat.le_of_ble_eq_true rfl, Nat.le_of_ble_eq_true rfl⟩) hS (fun x _ h9 => hF x h9) hF (fun u_r2 uu t H1 locs ht hvm hw hB hz1 hk1 hS => ?_)
      obtain rfl : r2 = u_r2 := hw.symm
      rw [ht] at hB
      have hP : va_P D CLS (wT a q L R g0 g1 g2 g3 g4 g5 g6 g7 g8 g9 g10 g11 g12 g13 g14 g15 g16) H1 := hB
      have hD : va_D A (wT a q L R g0 g1 g2 g3 g4 g5 g6 g7 g8 g9 g10 g11 g12 g13 g14 g15 g16) := dD hD rfl
      have hSz : s.heap.size ≤ H1.size := hS.1
      clear hk1 hz1 hPc hF hB ht
      generalize H1 = H at hP hS hSz  ⊢
      obtain ⟨r3, h_r3, h⟩ := ob_of h
      refine vp_callSi (W.runS (As := [.int r2]) (rest := []) ⟨hx, hb, hml, hown, hts⟩ (c_Rd_isDigit l r2 r3 h_r3) (va_cwS 1 hts (gd_S (m_2 232 rfl rfl) (m_2 233 rfl rfl) (m_1 2 rfl rfl) (m_2 234 rfl rfl)) rfl rfl rfl (by decide +kernel) ⟨Nat.le_of_ble_eq_true rfl, Nat.le_of_ble_eq_true rfl⟩) ⟨fun _ _ _ _ q => q, fun U hU hW => ⟨rfl, trivial⟩⟩ rfl rfl hl.1 rfl (lv_room (Nat.le_of_ble_eq_true rfl)) (dt_at dt_Rd_readExponent 23 rfl) ⟨Nat.le_of_ble_eq_true rfl, Nat.le_of_ble_eq_true rfl⟩) (fun u_r3 q_r3 => ?_)
      obtain rfl : r3 = u_r3 := q_r3.symm
      refine lv_if_eq (tgt := 76) hx hb (dt_at dt_Rd_readExponent 24 rfl) (by decide) (fun c4 => ?_) (fun c4 => ?_)
      · have h := if_p h c4
        exact k_Rd_readExponent_76 hC hA hK   v2 v3 v4 v5 g5 g10 H locs ls hP hD hS   (lv_sub hl [0, 1, 2, 3, 4, 5] rfl) h
      · have h := if_n h c4
        refine lv_iload hx hb (dt_at dt_Rd_readExponent 25 rfl) (lv_at hl 4 rfl) ?_
        refine lv_bipush (v := 10) hx hb (dt_at dt_Rd_readExponent 26 rfl) (by decide) ?_
        refine lv_imul hx hb (dt_at dt_Rd_readExponent 27 rfl) ?_
        refine lv_aload_n hx hb (dt_at dt_Rd_readExponent 28 rfl) rfl (lv_at hl 0 rfl) ?_
        obtain ⟨r5, h_r5, h⟩ := ob_of h
        have hPc := hP
        have hDc : va_D A (dT a) := dD (ws' := dT a) hD rfl
        have hKc := hK
        have hF := va_free (wc := dT a) hDc hS hA [0, 1, 2, 3, 4, 5, 6, 7, 8] rfl
        have hd : va_D (fun _ => True) (dT a) := hDc.weaken (fun _ _ _ _ => trivial)
        refine va_calli (va_runV (As := []) (rest := [.int (v4 * (10 : Int32))]) ⟨hx, hb, hml, hown, hts⟩ (c_Rd_next l D a q L R hd H.size  g0 g1 g2 g3 g4 g5 g6 g7 g8 g9 g10 g11 g12 g13 g14 g15 g16   r5 h_r5) (cwV 0 hts (gd_V (m_2 104 rfl rfl) (m_2 106 rfl rfl) (m_s 5 rfl rfl) (m_1 2 rfl rfl) (m_2 107 rfl rfl)) rfl rfl rfl (by decide +kernel) ⟨Nat.le_of_ble_eq_true rfl, Nat.le_of_ble_eq_true rfl⟩) ⟨fun a U g mk q => ⟨q.1, q.2.1, q.2.2.1, va_K.moved (u := U) (U := U.calling g mk a) (Vm.Alike.refl U.vm) q.2.2.2⟩, va_recv hK hP (ci := 2) (q0 := 3) rfl rfl, fun U hU hW => ⟨rfl, by rw [hU], by rw [hU]; exact hPc, va_K.moved hW.alike hKc⟩⟩ rfl rfl hl.1 rfl (lv_room (Nat.le_of_ble_eq_true rfl)) (dt_at dt_Rd_readExponent 29 rfl) ⟨Nat.le_of_ble_eq_true rfl, Nat.le_of_ble_eq_true rfl⟩) hS (fun x _ h9 => hF x h9) hF (fun u_r5 uu t H1 locs ht hvm hw hB hz1 hk1 hS => ?_)
        obtain rfl : r5 = u_r5 := hw.symm
        rw [ht] at hB
        have hP : va_P D CLS (wT a q L R g0 g1 g2 g3 g4 g5 g6 g7 g8 g9 g10 g11 g12 g13 g14 g15 g16) H1 := hB
        have hD : va_D A (wT a q L R g0 g1 g2 g3 g4 g5 g6 g7 g8 g9 g10 g11 g12 g13 g14 g15 g16) := dD hD rfl
        have hSz : s.heap.size ≤ H1.size := hS.1
        clear hk1 hz1 hPc hF hB ht
        generalize H1 = H at hP hS hSz  ⊢
        refine lv_bipush (v := 48) hx hb (dt_at dt_Rd_readExponent 30 rfl) (by decide) ?_
        refine lv_isub hx hb (dt_at dt_Rd_readExponent 31 rfl) ?_
        refine lv_iadd hx hb (dt_at dt_Rd_readExponent 32 rfl) ?_
        obtain ⟨t6, e_t6, h⟩ := ol_of h
        refine lv_topi (fun u_t6 q_t6 => ?_)
        obtain rfl : t6 = u_t6 := e_t6.trans q_t6.symm
        refine lv_istore (lv' := [(4, .int t6), (0, .ref (a 3)), (1, .ref (a 5)), (2, .int v2), (3, .int v3), (5, .int v5)]) hx hb (dt_at dt_Rd_readExponent 33 rfl) hl (by decide) rfl (fun ls hl => ?_)
        refine lv_aload_n hx hb (dt_at dt_Rd_readExponent 34 rfl) rfl (lv_at hl 1 rfl) ?_
        refine lv_dup hx hb (dt_at dt_Rd_readExponent 35 rfl) rfl ?_
        refine va_get (D := D) (ci := 2) (v := .int g5) (C := "OutwardTape$LiteralReader") (T := T_Rd) (N := 5) hx hb hts in_Rd hown hK hP 3 rfl rfl 4 (by decide) (hts (Cond.fieldLink "OutwardTape$LiteralReader" 29 "OutwardTape$LiteralReader" "at" "I") (m_1 67 rfl rfl)) (fun _ h9 => h9) rfl (dt_at dt_Rd_readExponent 36 rfl) ?_
        refine lv_iconst (v := 1) hx hb (dt_at dt_Rd_readExponent 37 rfl) (by decide) ?_
        refine lv_iadd hx hb (dt_at dt_Rd_readExponent 38 rfl) ?_
        obtain ⟨t7, e_t7, h⟩ := ol_of h
        refine lv_topi (fun u_t7 q_t7 => ?_)
        obtain rfl : t7 = u_t7 := e_t7.trans q_t7.symm
        refine va_put (D := D) (ci := 2) (v := .int t7) (ty := .int) (C := "OutwardTape$LiteralReader") (T := T_Rd) (N := 5) hx hb hts in_Rd ty_Rd tk_Rd nm_Rd hown hK hP hD hS 3 rfl rfl 4 (by decide) (hts (Cond.fieldLink "OutwardTape$LiteralReader" 29 "OutwardTape$LiteralReader" "at" "I") (m_1 67 rfl rfl)) (fun _ h9 => h9) rfl (by decide +kernel) rfl rfl (Nat.le_of_ble_eq_true rfl) (dt_at dt_Rd_readExponent 39 rfl) (fun H locs hP hD hS => ?_)
        have hP : va_P D CLS (wT a q L R g0 g1 g2 g3 g4 t7 g6 g7 g8 g9 g10 g11 g12 g13 g14 g15 g16) H := hP
        have hD : va_D A (wT a q L R g0 g1 g2 g3 g4 t7 g6 g7 g8 g9 g10 g11 g12 g13 g14 g15 g16) := hD
        refine lv_goto (tgt := 27) hx hb (dt_at dt_Rd_readExponent 40 rfl) (by decide) ?_
        exact ih v2 v3 t6 v5 t7 g10 H locs ls hP hD hS   (lv_sub hl [1, 2, 3, 4, 0, 5] rfl) h
set_option maxRecDepth 100000 in
set_option maxHeartbeats 4000000 in
theorem k_Rd_readExponent_18 {p : Program} {l : Launch} {e : Env} {s : State} {m : MethodId} {args : Array Value} {below : List Frame} {meth : Method} {c : Code} {D : va_G} {a : Nat → Nat} {q : Nat → ClassId} {L : Nat} {R : Nat} {A : Nat → Prop} (hC : CX p s m args meth c prog_5_method_12_code 6 "OutwardTape$LiteralReader" (some .boolean)) (hA : ∀ x, s.heap.size ≤ x → A x) (hK : va_K D CLS (tT q) s) {g0 : Int32} {g1 : Int32} {g2 : Nat → Int32} {g3 : Nat → Option Nat} {g4 : Int32} {g6 : Nat → Int32} {g7 : Int32} {g8 : Int64} {g9 : Int32} {g11 : Nat → Int32} {g12 : Int32} {g13 : Int64} {g14 : Int32} {g15 : Int32} {g16 : Nat → Int32} {r0 : Int32 × Int32 × Int32} : ∀ (v2 : Int32) (v3 : Int32) (g5 : Int32) (g10 : Int32) (H : Heap) (locs : List Loc) (ls : Array Slot), va_P D CLS (wT a q L R g0 g1 g2 g3 g4 g5 g6 g7 g8 g9 g10 g11 g12 g13 g14 g15 g16) H → va_D A (wT a q L R g0 g1 g2 g3 g4 g5 g6 g7 g8 g9 g10 g11 g12 g13 g14 g15 g16) → va_S A s.heap H locs → lv_has ls 6 [(0, .ref (a 3)), (1, .ref (a 5)), (2, .int v2), (3, .int v3)] → f_Rd_readExponent_18  v2 v3 g4 g5 g6 g10 = some r0 → W p l e rm_Rd_readExponent s m args below meth c H locs 0 0 (MQ below (va_Qi (fun (r : Int32) (_ : Unit) => r = r0.1) (fun _ t => va_P D CLS (wT a q L R g0 g1 g2 g3 g4 r0.2.1 g6 g7 g8 g9 r0.2.2 g11 g12 g13 g14 g15 g16) t.heap) A) args s 0 0 A) (F0 m 18 ls []) := by
  obtain ⟨hx, hb, hml, hown, hts, hr, hlocks⟩ := id hC
  intro v2 v3 g5 g10 H locs ls hP hD hS hl h
  rw [f_Rd_readExponent_18] at h
  have hSz : s.heap.size ≤ H.size := hS.1
  refine lv_iconst (v := 0) hx hb (dt_at dt_Rd_readExponent 10 rfl) (by decide) ?_
  refine lv_istore (lv' := [(4, .int (0 : Int32)), (0, .ref (a 3)), (1, .ref (a 5)), (2, .int v2), (3, .int v3)]) hx hb (dt_at dt_Rd_readExponent 11 rfl) hl (by decide) rfl (fun ls hl => ?_)
  refine lv_aload_n hx hb (dt_at dt_Rd_readExponent 12 rfl) rfl (lv_at hl 1 rfl) ?_
  refine va_get (D := D) (ci := 2) (v := .int g5) (C := "OutwardTape$LiteralReader") (T := T_Rd) (N := 5) hx hb hts in_Rd hown hK hP 3 rfl rfl 4 (by decide) (hts (Cond.fieldLink "OutwardTape$LiteralReader" 29 "OutwardTape$LiteralReader" "at" "I") (m_1 67 rfl rfl)) (fun _ h9 => h9) rfl (dt_at dt_Rd_readExponent 13 rfl) ?_
  refine lv_istore (lv' := [(5, .int g5), (4, .int (0 : Int32)), (0, .ref (a 3)), (1, .ref (a 5)), (2, .int v2), (3, .int v3)]) hx hb (dt_at dt_Rd_readExponent 14 rfl) hl (by decide) rfl (fun ls hl => ?_)
  exact k_Rd_readExponent_27 hC hA hK  5000 v2 v3 (0 : Int32) g5 g5 g10 H locs ls hP hD hS   (lv_sub hl [2, 3, 4, 5, 1, 0] rfl) h
set_option maxRecDepth 100000 in
set_option maxHeartbeats 4000000 in
theorem k_Rd_readExponent_0 {p : Program} {l : Launch} {e : Env} {s : State} {m : MethodId} {args : Array Value} {below : List Frame} {meth : Method} {c : Code} {D : va_G} {a : Nat → Nat} {q : Nat → ClassId} {L : Nat} {R : Nat} {A : Nat → Prop} (hC : CX p s m args meth c prog_5_method_12_code 6 "OutwardTape$LiteralReader" (some .boolean)) (hA : ∀ x, s.heap.size ≤ x → A x) (hK : va_K D CLS (tT q) s) {g0 : Int32} {g1 : Int32} {g2 : Nat → Int32} {g3 : Nat → Option Nat} {g4 : Int32} {g6 : Nat → Int32} {g7 : Int32} {g8 : Int64} {g9 : Int32} {g11 : Nat → Int32} {g12 : Int32} {g13 : Int64} {g14 : Int32} {g15 : Int32} {g16 : Nat → Int32} {r0 : Int32 × Int32 × Int32} : ∀ (v2 : Int32) (g5 : Int32) (g10 : Int32) (H : Heap) (locs : List Loc) (ls : Array Slot), va_P D CLS (wT a q L R g0 g1 g2 g3 g4 g5 g6 g7 g8 g9 g10 g11 g12 g13 g14 g15 g16) H → va_D A (wT a q L R g0 g1 g2 g3 g4 g5 g6 g7 g8 g9 g10 g11 g12 g13 g14 g15 g16) → va_S A s.heap H locs → lv_has ls 6 [(0, .ref (a 3)), (1, .ref (a 5)), (2, .int v2)] → f_Rd_readExponent_0  v2 g4 g5 g6 g10 = some r0 → W p l e rm_Rd_readExponent s m args below meth c H locs 0 0 (MQ below (va_Qi (fun (r : Int32) (_ : Unit) => r = r0.1) (fun _ t => va_P D CLS (wT a q L R g0 g1 g2 g3 g4 r0.2.1 g6 g7 g8 g9 r0.2.2 g11 g12 g13 g14 g15 g16) t.heap) A) args s 0 0 A) (F0 m 0 ls []) := by
  obtain ⟨hx, hb, hml, hown, hts, hr, hlocks⟩ := id hC
  intro v2 g5 g10 H locs ls hP hD hS hl h
  rw [f_Rd_readExponent_0] at h
  have hSz : s.heap.size ≤ H.size := hS.1
  refine lv_aload_n hx hb (dt_at dt_Rd_readExponent 0 rfl) rfl (lv_at hl 0 rfl) ?_
  refine lv_bipush (v := 45) hx hb (dt_at dt_Rd_readExponent 1 rfl) (by decide) ?_
  obtain ⟨r1, h_r1, h⟩ := ob_of h
  have hPc := hP
  have hDc : va_D A (dT a) := dD (ws' := dT a) hD rfl
  have hKc := hK
  have hF := va_free (wc := dT a) hDc hS hA [0, 1, 2, 3, 4, 5, 6, 7, 8] rfl
  have hd : va_D (fun _ => True) (dT a) := hDc.weaken (fun _ _ _ _ => trivial)
  refine va_calli (va_runV (As := [.int (45 : Int32)]) (rest := []) ⟨hx, hb, hml, hown, hts⟩ (c_Rd_take l D a q L R hd H.size (45 : Int32) g0 g1 g2 g3 g4 g5 g6 g7 g8 g9 g10 g11 g12 g13 g14 g15 g16   r1 h_r1) (cwV 1 hts (gd_V (m_2 100 rfl rfl) (m_2 102 rfl rfl) (m_s 4 rfl rfl) (m_1 2 rfl rfl) (m_2 103 rfl rfl)) rfl rfl rfl (by decide +kernel) ⟨Nat.le_of_ble_eq_true rfl, Nat.le_of_ble_eq_true rfl⟩) ⟨fun a U g mk q => ⟨q.1, q.2.1, q.2.2.1, va_K.moved (u := U) (U := U.calling g mk a) (Vm.Alike.refl U.vm) q.2.2.2⟩, va_recv hK hP (ci := 2) (q0 := 3) rfl rfl, fun U hU hW => ⟨rfl, by rw [hU], by rw [hU]; exact hPc, va_K.moved hW.alike hKc⟩⟩ rfl rfl hl.1 rfl (lv_room (Nat.le_of_ble_eq_true rfl)) (dt_at dt_Rd_readExponent 2 rfl) ⟨Nat.le_of_ble_eq_true rfl, Nat.le_of_ble_eq_true rfl⟩) hS (fun x _ h9 => hF x h9) hF (fun u_r1 uu t H1 locs ht hvm hw hB hz1 hk1 hS => ?_)
  subst hw
  rw [ht] at hB
  have hP : va_P D CLS (wT a q L R g0 g1 g2 g3 g4 r1.2 g6 g7 g8 g9 g10 g11 g12 g13 g14 g15 g16) H1 := hB
  have hD : va_D A (wT a q L R g0 g1 g2 g3 g4 r1.2 g6 g7 g8 g9 g10 g11 g12 g13 g14 g15 g16) := dD hD rfl
  have hSz : s.heap.size ≤ H1.size := hS.1
  clear hk1 hz1 hPc hF hB ht
  generalize H1 = H at hP hS hSz  ⊢
  obtain ⟨t2, e_t2, h⟩ := ol_of h
  refine lv_topi (fun u_t2 q_t2 => ?_)
  obtain rfl : t2 = u_t2 := e_t2.trans q_t2.symm
  refine lv_istore_n (lv' := [(3, .int t2), (0, .ref (a 3)), (1, .ref (a 5)), (2, .int v2)]) hx hb (dt_at dt_Rd_readExponent 3 rfl) rfl hl (by decide) rfl (fun ls hl => ?_)
  refine lv_iload_n hx hb (dt_at dt_Rd_readExponent 4 rfl) rfl (lv_at hl 0 rfl) ?_
  refine lv_if_ne (tgt := 18) hx hb (dt_at dt_Rd_readExponent 5 rfl) (by decide) (fun c3 => ?_) (fun c3 => ?_)
  · have h := if_n h c3
    exact k_Rd_readExponent_18 hC hA hK   v2 t2 r1.2 g10 H locs ls hP hD hS   (lv_sub hl [1, 2, 3, 0] rfl) h
  · have h := if_p h c3
    refine lv_aload_n hx hb (dt_at dt_Rd_readExponent 6 rfl) rfl (lv_at hl 1 rfl) ?_
    refine lv_bipush (v := 43) hx hb (dt_at dt_Rd_readExponent 7 rfl) (by decide) ?_
    obtain ⟨r4, h_r4, h⟩ := ob_of h
    have hPc := hP
    have hDc : va_D A (dT a) := dD (ws' := dT a) hD rfl
    have hKc := hK
    have hF := va_free (wc := dT a) hDc hS hA [0, 1, 2, 3, 4, 5, 6, 7, 8] rfl
    have hd : va_D (fun _ => True) (dT a) := hDc.weaken (fun _ _ _ _ => trivial)
    refine va_calli (va_runV (As := [.int (43 : Int32)]) (rest := []) ⟨hx, hb, hml, hown, hts⟩ (c_Rd_take l D a q L R hd H.size (43 : Int32) g0 g1 g2 g3 g4 r1.2 g6 g7 g8 g9 g10 g11 g12 g13 g14 g15 g16   r4 h_r4) (cwV 1 hts (gd_V (m_2 100 rfl rfl) (m_2 102 rfl rfl) (m_s 4 rfl rfl) (m_1 2 rfl rfl) (m_2 103 rfl rfl)) rfl rfl rfl (by decide +kernel) ⟨Nat.le_of_ble_eq_true rfl, Nat.le_of_ble_eq_true rfl⟩) ⟨fun a U g mk q => ⟨q.1, q.2.1, q.2.2.1, va_K.moved (u := U) (U := U.calling g mk a) (Vm.Alike.refl U.vm) q.2.2.2⟩, va_recv hK hP (ci := 2) (q0 := 3) rfl rfl, fun U hU hW => ⟨rfl, by rw [hU], by rw [hU]; exact hPc, va_K.moved hW.alike hKc⟩⟩ rfl rfl hl.1 rfl (lv_room (Nat.le_of_ble_eq_true rfl)) (dt_at dt_Rd_readExponent 8 rfl) ⟨Nat.le_of_ble_eq_true rfl, Nat.le_of_ble_eq_true rfl⟩) hS (fun x _ h9 => hF x h9) hF (fun u_r4 uu t H1 locs ht hvm hw hB hz1 hk1 hS => ?_)
    subst hw
    rw [ht] at hB
    have hP : va_P D CLS (wT a q L R g0 g1 g2 g3 g4 r4.2 g6 g7 g8 g9 g10 g11 g12 g13 g14 g15 g16) H1 := hB
    have hD : va_D A (wT a q L R g0 g1 g2 g3 g4 r4.2 g6 g7 g8 g9 g10 g11 g12 g13 g14 g15 g16) := dD hD rfl
    have hSz : s.heap.size ≤ H1.size := hS.1
    clear hk1 hz1 hPc hF hB ht
    generalize H1 = H at hP hS hSz  ⊢
    refine lv_pop hx hb (dt_at dt_Rd_readExponent 9 rfl) rfl ?_
    exact k_Rd_readExponent_18 hC hA hK   v2 t2 r4.2 g10 H locs ls hP hD hS   (lv_sub hl [1, 2, 3, 0] rfl) h
set_option maxRecDepth 100000 in
set_option maxHeartbeats 4000000 in
theorem c_Rd_readExponent (l : Launch) (D : va_G) (a : Nat → Nat) (q : Nat → ClassId) (L : Nat) (R : Nat) (hd : va_D (fun _ => True) (dT a)) (sz : Nat) (a2 : Int32) (g0 : Int32) (g1 : Int32) (g2 : Nat → Int32) (g3 : Nat → Option Nat) (g4 : Int32) (g5 : Int32) (g6 : Nat → Int32) (g7 : Int32) (g8 : Int64) (g9 : Int32) (g10 : Int32) (g11 : Nat → Int32) (g12 : Int32) (g13 : Int64) (g14 : Int32) (g15 : Int32) (g16 : Nat → Int32)   (r0 : Int32 × Int32 × Int32) (h : f_Rd_readExponent a2 g4 g5 g6 g10 = some r0) : Met l (⟨"OutwardTape$LiteralReader", "readExponent", "(LOutwardTape$Numeral;I)Z"⟩ : MethodName) (WSm (⟨"OutwardTape$LiteralReader", "readExponent", "(LOutwardTape$Numeral;I)Z"⟩ : MethodName) prog_5_method_12_code 6 (some .boolean)) rm_Rd_readExponent (va_Pc [.ref (a 3), .ref (a 5), .int a2] (fun U => U.heap.size = sz ∧ va_P D CLS (wT a q L R g0 g1 g2 g3 g4 g5 g6 g7 g8 g9 g10 g11 g12 g13 g14 g15 g16) U.heap ∧ va_K D CLS (tT q) U)) (va_Qi (fun (r : Int32) (_ : Unit) => r = r0.1) (fun _ t => va_P D CLS (wT a q L R g0 g1 g2 g3 g4 r0.2.1 g6 g7 g8 g9 r0.2.2 g11 g12 g13 g14 g15 g16) t.heap) (va_A (dT a) sz)) 0 0 (va_A (dT a) sz) := by
  refine Met.ofW (cc := prog_5_method_12_code) (maxL := 6) (ret := (some .boolean)) (by decide) rfl ?_
  intro p e s m args below meth c s₁ B hml hv
  obtain ⟨rfl, hsz, hP, hK⟩ := hv
  subst hsz
  have hC := CX.of B hml rfl
  have hl := lv_entry [.ref (a 3), .ref (a 5), .int a2] (n := 6) (Nat.le_of_ble_eq_true rfl)
  rw [lg_entry_eq]
  generalize (lg_sl [.ref (a 3), .ref (a 5), .int a2] ++ List.replicate (6 - (lg_sl [.ref (a 3), .ref (a 5), .int a2]).length) Slot.unset).toArray = ls at hl ⊢
  have hl : lv_has ls 6 [(0, .ref (a 3)), (1, .ref (a 5)), (2, .int a2)] := hl
  exact k_Rd_readExponent_0  hC (fun x h => Or.inr h) hK a2 g5 g10   s.heap [] ls hP (dD hd.self rfl) va_S.rf   (lv_sub hl [0, 1, 2] rfl) h
abbrev rm_Rd_readNumber : Room := { frames := 3, cells := 0, slots := 0, locals := 66 }
set_option maxRecDepth 100000 in
set_option maxHeartbeats 4000000 in
theorem k_Rd_readNumber_93 {p : Program} {l : Launch} {e : Env} {s : State} {m : MethodId} {args : Array Value} {below : List Frame} {meth : Method} {c : Code} {D : va_G} {a : Nat → Nat} {q : Nat → ClassId} {L : Nat} {R : Nat} {A : Nat → Prop} (hC : CX p s m args meth c prog_5_method_10_code 6 "OutwardTape$LiteralReader" (some .boolean)) (hA : ∀ x, s.heap.size ≤ x → A x) (hK : va_K D CLS (tT q) s) {g0 : Int32} {g1 : Int32} {g2 : Nat → Int32} {g3 : Nat → Option Nat} {g4 : Int32} {g6 : Nat → Int32} {g7 : Int32} {g11 : Nat → Int32} {g12 : Int32} {g13 : Int64} {g14 : Int32} {g15 : Int32} {g16 : Nat → Int32} {r0 : Int32 × Int32 × Int64 × Int32 × Int32} : ∀ (s0 : Int32) (g5 : Int32) (g8 : Int64) (g9 : Int32) (g10 : Int32) (H : Heap) (locs : List Loc) (ls : Array Slot), va_P D CLS (wT a q L R g0 g1 g2 g3 g4 g5 g6 g7 g8 g9 g10 g11 g12 g13 g14 g15 g16) H → va_D A (wT a q L R g0 g1 g2 g3 g4 g5 g6 g7 g8 g9 g10 g11 g12 g13 g14 g15 g16) → va_S A s.heap H locs → lv_has ls 6 [] → f_Rd_readNumber_93  s0 g4 g5 g6 g8 g9 g10 = some r0 → W p l e rm_Rd_readNumber s m args below meth c H locs 0 0 (MQ below (va_Qi (fun (r : Int32) (_ : Unit) => r = r0.1) (fun _ t => va_P D CLS (wT a q L R g0 g1 g2 g3 g4 r0.2.1 g6 g7 r0.2.2.1 r0.2.2.2.1 r0.2.2.2.2 g11 g12 g13 g14 g15 g16) t.heap) A) args s 0 0 A) (F0 m 93 ls [.int s0]) := by
  obtain ⟨hx, hb, hml, hown, hts, hr, hlocks⟩ := id hC
  intro s0 g5 g8 g9 g10 H locs ls hP hD hS hl h
  rw [f_Rd_readNumber_93] at h
  have hSz : s.heap.size ≤ H.size := hS.1
  obtain ⟨hz, h⟩ := og_of h
  obtain rfl := os_of h
  exact W.zret (v := s0) (ty := .boolean) hx hb hr (j_z_nar hz) (fun t ht hW => ⟨⟨_, (), rfl, rfl, (hPt hP ht)⟩, hS.F ht⟩) hS.2.2 (dt_at dt_Rd_readNumber 53 rfl)
set_option maxRecDepth 100000 in
set_option maxHeartbeats 4000000 in
theorem k_Rd_readNumber_50 {p : Program} {l : Launch} {e : Env} {s : State} {m : MethodId} {args : Array Value} {below : List Frame} {meth : Method} {c : Code} {D : va_G} {a : Nat → Nat} {q : Nat → ClassId} {L : Nat} {R : Nat} {A : Nat → Prop} (hC : CX p s m args meth c prog_5_method_10_code 6 "OutwardTape$LiteralReader" (some .boolean)) (hA : ∀ x, s.heap.size ≤ x → A x) (hK : va_K D CLS (tT q) s) {g0 : Int32} {g1 : Int32} {g2 : Nat → Int32} {g3 : Nat → Option Nat} {g4 : Int32} {g6 : Nat → Int32} {g7 : Int32} {g11 : Nat → Int32} {g12 : Int32} {g13 : Int64} {g14 : Int32} {g15 : Int32} {g16 : Nat → Int32} {r0 : Int32 × Int32 × Int64 × Int32 × Int32} : ∀ (v2 : Int32) (v3 : Int32) (g5 : Int32) (g8 : Int64) (g9 : Int32) (g10 : Int32) (H : Heap) (locs : List Loc) (ls : Array Slot), va_P D CLS (wT a q L R g0 g1 g2 g3 g4 g5 g6 g7 g8 g9 g10 g11 g12 g13 g14 g15 g16) H → va_D A (wT a q L R g0 g1 g2 g3 g4 g5 g6 g7 g8 g9 g10 g11 g12 g13 g14 g15 g16) → va_S A s.heap H locs → lv_has ls 6 [(0, .ref (a 3)), (1, .ref (a 5)), (2, .int v2), (3, .int v3)] → f_Rd_readNumber_50  v2 v3 g4 g5 g6 g8 g9 g10 = some r0 → W p l e rm_Rd_readNumber s m args below meth c H locs 0 0 (MQ below (va_Qi (fun (r : Int32) (_ : Unit) => r = r0.1) (fun _ t => va_P D CLS (wT a q L R g0 g1 g2 g3 g4 r0.2.1 g6 g7 r0.2.2.1 r0.2.2.2.1 r0.2.2.2.2 g11 g12 g13 g14 g15 g16) t.heap) A) args s 0 0 A) (F0 m 50 ls []) := by
  obtain ⟨hx, hb, hml, hown, hts, hr, hlocks⟩ := id hC
  intro v2 v3 g5 g8 g9 g10 H locs ls hP hD hS hl h
  rw [f_Rd_readNumber_50] at h
  have hSz : s.heap.size ≤ H.size := hS.1
  refine lv_aload_n hx hb (dt_at dt_Rd_readNumber 29 rfl) rfl (lv_at hl 0 rfl) ?_
  refine va_get (D := D) (ci := 2) (v := .int g5) (C := "OutwardTape$LiteralReader") (T := T_Rd) (N := 5) hx hb hts in_Rd hown hK hP 3 rfl rfl 4 (by decide) (hts (Cond.fieldLink "OutwardTape$LiteralReader" 29 "OutwardTape$LiteralReader" "at" "I") (m_1 67 rfl rfl)) (fun _ h9 => h9) rfl (dt_at dt_Rd_readNumber 30 rfl) ?_
  refine lv_iload_n hx hb (dt_at dt_Rd_readNumber 31 rfl) rfl (lv_at hl 2 rfl) ?_
  refine lv_isub hx hb (dt_at dt_Rd_readNumber 32 rfl) ?_
  obtain ⟨t1, e_t1, h⟩ := ol_of h
  refine lv_topi (fun u_t1 q_t1 => ?_)
  obtain rfl : t1 = u_t1 := e_t1.trans q_t1.symm
  refine lv_istore (lv' := [(5, .int t1), (0, .ref (a 3)), (1, .ref (a 5)), (2, .int v2), (3, .int v3)]) hx hb (dt_at dt_Rd_readNumber 33 rfl) hl (by decide) rfl (fun ls hl => ?_)
  refine lv_iload_n hx hb (dt_at dt_Rd_readNumber 34 rfl) rfl (lv_at hl 4 rfl) ?_
  refine lv_iload hx hb (dt_at dt_Rd_readNumber 35 rfl) (lv_at hl 0 rfl) ?_
  refine lv_iadd hx hb (dt_at dt_Rd_readNumber 36 rfl) ?_
  refine lv_if_ne (tgt := 67) hx hb (dt_at dt_Rd_readNumber 37 rfl) (by decide) (fun c2 => ?_) (fun c2 => ?_)
  · have h := if_n h c2
    refine lv_aload_n hx hb (dt_at dt_Rd_readNumber 40 rfl) rfl (lv_at hl 1 rfl) ?_
    refine lv_bipush (v := 101) hx hb (dt_at dt_Rd_readNumber 41 rfl) (by decide) ?_
    obtain ⟨r3, h_r3, h⟩ := ob_of h
    have hPc := hP
    have hDc : va_D A (dT a) := dD (ws' := dT a) hD rfl
    have hKc := hK
    have hF := va_free (wc := dT a) hDc hS hA [0, 1, 2, 3, 4, 5, 6, 7, 8] rfl
    have hd : va_D (fun _ => True) (dT a) := hDc.weaken (fun _ _ _ _ => trivial)
    refine va_calli (va_runV (As := [.int (101 : Int32)]) (rest := []) ⟨hx, hb, hml, hown, hts⟩ (c_Rd_take l D a q L R hd H.size (101 : Int32) g0 g1 g2 g3 g4 g5 g6 g7 g8 g9 g10 g11 g12 g13 g14 g15 g16   r3 h_r3) (cwV 1 hts (gd_V (m_2 100 rfl rfl) (m_2 102 rfl rfl) (m_s 4 rfl rfl) (m_1 2 rfl rfl) (m_2 103 rfl rfl)) rfl rfl rfl (by decide +kernel) ⟨Nat.le_of_ble_eq_true rfl, Nat.le_of_ble_eq_true rfl⟩) ⟨fun a U g mk q => ⟨q.1, q.2.1, q.2.2.1, va_K.moved (u := U) (U := U.calling g mk a) (Vm.Alike.refl U.vm) q.2.2.2⟩, va_recv hK hP (ci := 2) (q0 := 3) rfl rfl, fun U hU hW => ⟨rfl, by rw [hU], by rw [hU]; exact hPc, va_K.moved hW.alike hKc⟩⟩ rfl rfl hl.1 rfl (lv_room (Nat.le_of_ble_eq_true rfl)) (dt_at dt_Rd_readNumber 42 rfl) ⟨Nat.le_of_ble_eq_true rfl, Nat.le_of_ble_eq_true rfl⟩) hS (fun x _ h9 => hF x h9) hF (fun u_r3 uu t H1 locs ht hvm hw hB hz1 hk1 hS => ?_)
    subst hw
    rw [ht] at hB
    have hP : va_P D CLS (wT a q L R g0 g1 g2 g3 g4 r3.2 g6 g7 g8 g9 g10 g11 g12 g13 g14 g15 g16) H1 := hB
    have hD : va_D A (wT a q L R g0 g1 g2 g3 g4 r3.2 g6 g7 g8 g9 g10 g11 g12 g13 g14 g15 g16) := dD hD rfl
    have hSz : s.heap.size ≤ H1.size := hS.1
    clear hk1 hz1 hPc hF hB ht
    generalize H1 = H at hP hS hSz  ⊢
    refine lv_if_eq (tgt := 86) hx hb (dt_at dt_Rd_readNumber 43 rfl) (by decide) (fun c4 => ?_) (fun c4 => ?_)
    · have h := if_p h c4
      refine lv_aload_n hx hb (dt_at dt_Rd_readNumber 49 rfl) rfl (lv_at hl 2 rfl) ?_
      refine lv_iload hx hb (dt_at dt_Rd_readNumber 50 rfl) (lv_at hl 0 rfl) ?_
      refine lv_ineg hx hb (dt_at dt_Rd_readNumber 51 rfl) ?_
      obtain ⟨r5, h_r5, h⟩ := ob_of h
      have hPc := hP
      have hDc : va_D A (dT a) := dD (ws' := dT a) hD rfl
      have hKc := hK
      have hF := va_free (wc := dT a) hDc hS hA [0, 1, 2, 3, 4, 5, 6, 7, 8] rfl
      have hd : va_D (fun _ => True) (dT a) := hDc.weaken (fun _ _ _ _ => trivial)
      refine va_calli (va_runV (As := [.int (-t1)]) (rest := []) ⟨hx, hb, hml, hown, hts⟩ (c_Num_setScale l D a q L R hd H.size (-t1) g0 g1 g2 g3 g4 r3.2 g6 g7 g8 g9 g10 g11 g12 g13 g14 g15 g16   r5 h_r5) (cwV 1 hts (gd_V (m_3 16 rfl rfl) (m_3 17 rfl rfl) (m_3 18 rfl rfl) (m_1 3 rfl rfl) (m_3 19 rfl rfl)) rfl rfl rfl (by decide +kernel) ⟨Nat.le_of_ble_eq_true rfl, Nat.le_of_ble_eq_true rfl⟩) ⟨fun a U g mk q => ⟨q.1, q.2.1, q.2.2.1, va_K.moved (u := U) (U := U.calling g mk a) (Vm.Alike.refl U.vm) q.2.2.2⟩, va_recv hK hP (ci := 3) (q0 := 5) rfl rfl, fun U hU hW => ⟨rfl, by rw [hU], by rw [hU]; exact hPc, va_K.moved hW.alike hKc⟩⟩ rfl rfl hl.1 rfl (lv_room (Nat.le_of_ble_eq_true rfl)) (dt_at dt_Rd_readNumber 52 rfl) ⟨Nat.le_of_ble_eq_true rfl, Nat.le_of_ble_eq_true rfl⟩) hS (fun x _ h9 => hF x h9) hF (fun u_r5 uu t H1 locs ht hvm hw hB hz1 hk1 hS => ?_)
      subst hw
      rw [ht] at hB
      have hP : va_P D CLS (wT a q L R g0 g1 g2 g3 g4 r3.2 g6 g7 g8 g9 r5.2 g11 g12 g13 g14 g15 g16) H1 := hB
      have hD : va_D A (wT a q L R g0 g1 g2 g3 g4 r3.2 g6 g7 g8 g9 r5.2 g11 g12 g13 g14 g15 g16) := dD hD rfl
      have hSz : s.heap.size ≤ H1.size := hS.1
      clear hk1 hz1 hPc hF hB ht
      generalize H1 = H at hP hS hSz  ⊢
      exact k_Rd_readNumber_93 hC hA hK   r5.1 r3.2 g8 g9 r5.2 H locs ls hP hD hS   (lv_sub hl [] rfl) h
    · have h := if_n h c4
      refine lv_aload_n hx hb (dt_at dt_Rd_readNumber 44 rfl) rfl (lv_at hl 1 rfl) ?_
      refine lv_aload_n hx hb (dt_at dt_Rd_readNumber 45 rfl) rfl (lv_at hl 2 rfl) ?_
      refine lv_iload hx hb (dt_at dt_Rd_readNumber 46 rfl) (lv_at hl 0 rfl) ?_
      obtain ⟨r6, h_r6, h⟩ := ob_of h
      have hPc := hP
      have hDc : va_D A (dT a) := dD (ws' := dT a) hD rfl
      have hKc := hK
      have hF := va_free (wc := dT a) hDc hS hA [0, 1, 2, 3, 4, 5, 6, 7, 8] rfl
      have hd : va_D (fun _ => True) (dT a) := hDc.weaken (fun _ _ _ _ => trivial)
      refine va_calli (va_runV (As := [.ref (a 5), .int t1]) (rest := []) ⟨hx, hb, hml, hown, hts⟩ (c_Rd_readExponent l D a q L R hd H.size t1 g0 g1 g2 g3 g4 r3.2 g6 g7 g8 g9 g10 g11 g12 g13 g14 g15 g16   r6 h_r6) (cwV 2 hts (gd_V (m_3 12 rfl rfl) (m_3 14 rfl rfl) (m_s 14 rfl rfl) (m_1 2 rfl rfl) (m_3 15 rfl rfl)) rfl rfl rfl (by decide +kernel) ⟨Nat.le_of_ble_eq_true rfl, Nat.le_of_ble_eq_true rfl⟩) ⟨fun a U g mk q => ⟨q.1, q.2.1, q.2.2.1, va_K.moved (u := U) (U := U.calling g mk a) (Vm.Alike.refl U.vm) q.2.2.2⟩, va_recv hK hP (ci := 2) (q0 := 3) rfl rfl, fun U hU hW => ⟨rfl, by rw [hU], by rw [hU]; exact hPc, va_K.moved hW.alike hKc⟩⟩ rfl rfl hl.1 rfl (lv_room (Nat.le_of_ble_eq_true rfl)) (dt_at dt_Rd_readNumber 47 rfl) ⟨Nat.le_of_ble_eq_true rfl, Nat.le_of_ble_eq_true rfl⟩) hS (fun x _ h9 => hF x h9) hF (fun u_r6 uu t H1 locs ht hvm hw hB hz1 hk1 hS => ?_)
      subst hw
      rw [ht] at hB
      have hP : va_P D CLS (wT a q L R g0 g1 g2 g3 g4 r6.2.1 g6 g7 g8 g9 r6.2.2 g11 g12 g13 g14 g15 g16) H1 := hB
      have hD : va_D A (wT a q L R g0 g1 g2 g3 g4 r6.2.1 g6 g7 g8 g9 r6.2.2 g11 g12 g13 g14 g15 g16) := dD hD rfl
      have hSz : s.heap.size ≤ H1.size := hS.1
      clear hk1 hz1 hPc hF hB ht
      generalize H1 = H at hP hS hSz  ⊢
      refine lv_goto (tgt := 93) hx hb (dt_at dt_Rd_readNumber 48 rfl) (by decide) ?_
      exact k_Rd_readNumber_93 hC hA hK   r6.1 r6.2.1 g8 g9 r6.2.2 H locs ls hP hD hS   (lv_sub hl [] rfl) h
  · have h := if_p h c2
    refine lv_iconst (v := 0) hx hb (dt_at dt_Rd_readNumber 38 rfl) (by decide) ?_
    obtain rfl := os_of h
    exact W.zret (v := (0 : Int32)) (ty := .boolean) hx hb hr (by decide) (fun t ht hW => ⟨⟨_, (), rfl, rfl, (hPt hP ht)⟩, hS.F ht⟩) hS.2.2 (dt_at dt_Rd_readNumber 39 rfl)
set_option maxRecDepth 100000 in
set_option maxHeartbeats 4000000 in
theorem k_Rd_readNumber_0 {p : Program} {l : Launch} {e : Env} {s : State} {m : MethodId} {args : Array Value} {below : List Frame} {meth : Method} {c : Code} {D : va_G} {a : Nat → Nat} {q : Nat → ClassId} {L : Nat} {R : Nat} {A : Nat → Prop} (hC : CX p s m args meth c prog_5_method_10_code 6 "OutwardTape$LiteralReader" (some .boolean)) (hA : ∀ x, s.heap.size ≤ x → A x) (hK : va_K D CLS (tT q) s) {g0 : Int32} {g1 : Int32} {g2 : Nat → Int32} {g3 : Nat → Option Nat} {g4 : Int32} {g6 : Nat → Int32} {g7 : Int32} {g11 : Nat → Int32} {g12 : Int32} {g13 : Int64} {g14 : Int32} {g15 : Int32} {g16 : Nat → Int32} {r0 : Int32 × Int32 × Int64 × Int32 × Int32} : ∀  (g5 : Int32) (g8 : Int64) (g9 : Int32) (g10 : Int32) (H : Heap) (locs : List Loc) (ls : Array Slot), va_P D CLS (wT a q L R g0 g1 g2 g3 g4 g5 g6 g7 g8 g9 g10 g11 g12 g13 g14 g15 g16) H → va_D A (wT a q L R g0 g1 g2 g3 g4 g5 g6 g7 g8 g9 g10 g11 g12 g13 g14 g15 g16) → va_S A s.heap H locs → lv_has ls 6 [(0, .ref (a 3)), (1, .ref (a 5))] → f_Rd_readNumber_0  g4 g5 g6 g8 g9 g10 = some r0 → W p l e rm_Rd_readNumber s m args below meth c H locs 0 0 (MQ below (va_Qi (fun (r : Int32) (_ : Unit) => r = r0.1) (fun _ t => va_P D CLS (wT a q L R g0 g1 g2 g3 g4 r0.2.1 g6 g7 r0.2.2.1 r0.2.2.2.1 r0.2.2.2.2 g11 g12 g13 g14 g15 g16) t.heap) A) args s 0 0 A) (F0 m 0 ls []) := by
  obtain ⟨hx, hb, hml, hown, hts, hr, hlocks⟩ := id hC
  intro g5 g8 g9 g10 H locs ls hP hD hS hl h
  rw [f_Rd_readNumber_0] at h
  have hSz : s.heap.size ≤ H.size := hS.1
  refine lv_aload_n hx hb (dt_at dt_Rd_readNumber 0 rfl) rfl (lv_at hl 0 rfl) ?_
  refine va_get (D := D) (ci := 2) (v := .int g5) (C := "OutwardTape$LiteralReader") (T := T_Rd) (N := 5) hx hb hts in_Rd hown hK hP 3 rfl rfl 4 (by decide) (hts (Cond.fieldLink "OutwardTape$LiteralReader" 29 "OutwardTape$LiteralReader" "at" "I") (m_1 67 rfl rfl)) (fun _ h9 => h9) rfl (dt_at dt_Rd_readNumber 1 rfl) ?_
  refine lv_istore_n (lv' := [(2, .int g5), (0, .ref (a 3)), (1, .ref (a 5))]) hx hb (dt_at dt_Rd_readNumber 2 rfl) rfl hl (by decide) rfl (fun ls hl => ?_)
  refine lv_aload_n hx hb (dt_at dt_Rd_readNumber 3 rfl) rfl (lv_at hl 1 rfl) ?_
  refine lv_aload_n hx hb (dt_at dt_Rd_readNumber 4 rfl) rfl (lv_at hl 2 rfl) ?_
  obtain ⟨r1, h_r1, h⟩ := ob_of h
  have hPc := hP
  have hDc : va_D A (dT a) := dD (ws' := dT a) hD rfl
  have hKc := hK
  have hF := va_free (wc := dT a) hDc hS hA [0, 1, 2, 3, 4, 5, 6, 7, 8] rfl
  have hd : va_D (fun _ => True) (dT a) := hDc.weaken (fun _ _ _ _ => trivial)
  refine va_calli (va_runV (As := [.ref (a 5)]) (rest := []) ⟨hx, hb, hml, hown, hts⟩ (c_Rd_readDigits l D a q L R hd H.size  g0 g1 g2 g3 g4 g5 g6 g7 g8 g9 g10 g11 g12 g13 g14 g15 g16   r1 h_r1) (cwV 1 hts (gd_V (m_3 3 rfl rfl) (m_3 5 rfl rfl) (m_s 13 rfl rfl) (m_1 2 rfl rfl) (m_3 6 rfl rfl)) rfl rfl rfl (by decide +kernel) ⟨Nat.le_of_ble_eq_true rfl, Nat.le_of_ble_eq_true rfl⟩) ⟨fun a U g mk q => ⟨q.1, q.2.1, q.2.2.1, va_K.moved (u := U) (U := U.calling g mk a) (Vm.Alike.refl U.vm) q.2.2.2⟩, va_recv hK hP (ci := 2) (q0 := 3) rfl rfl, fun U hU hW => ⟨rfl, by rw [hU], by rw [hU]; exact hPc, va_K.moved hW.alike hKc⟩⟩ rfl rfl hl.1 rfl (lv_room (Nat.le_of_ble_eq_true rfl)) (dt_at dt_Rd_readNumber 5 rfl) ⟨Nat.le_of_ble_eq_true rfl, Nat.le_of_ble_eq_true rfl⟩) hS (fun x _ h9 => hF x h9) hF (fun u_r1 uu t H1 locs ht hvm hw hB hz1 hk1 hS => ?_)
  subst hw
  rw [ht] at hB
  have hP : va_P D CLS (wT a q L R g0 g1 g2 g3 g4 r1.2.1 g6 g7 r1.2.2.1 r1.2.2.2 g10 g11 g12 g13 g14 g15 g16) H1 := hB
  have hD : va_D A (wT a q L R g0 g1 g2 g3 g4 r1.2.1 g6 g7 r1.2.2.1 r1.2.2.2 g10 g11 g12 g13 g14 g15 g16) := dD hD rfl
  have hSz : s.heap.size ≤ H1.size := hS.1
  clear hk1 hz1 hPc hF hB ht
  generalize H1 = H at hP hS hSz  ⊢
  refine lv_if_ne (tgt := 15) hx hb (dt_at dt_Rd_readNumber 6 rfl) (by decide) (fun c2 => ?_) (fun c2 => ?_)
  · have h := if_n h c2
    refine lv_aload_n hx hb (dt_at dt_Rd_readNumber 9 rfl) rfl (lv_at hl 1 rfl) ?_
    refine va_get (D := D) (ci := 2) (v := .int r1.2.1) (C := "OutwardTape$LiteralReader") (T := T_Rd) (N := 5) hx hb hts in_Rd hown hK hP 3 rfl rfl 4 (by decide) (hts (Cond.fieldLink "OutwardTape$LiteralReader" 29 "OutwardTape$LiteralReader" "at" "I") (m_1 67 rfl rfl)) (fun _ h9 => h9) rfl (dt_at dt_Rd_readNumber 10 rfl) ?_
    refine lv_iload_n hx hb (dt_at dt_Rd_readNumber 11 rfl) rfl (lv_at hl 0 rfl) ?_
    refine lv_isub hx hb (dt_at dt_Rd_readNumber 12 rfl) ?_
    obtain ⟨t3, e_t3, h⟩ := ol_of h
    refine lv_topi (fun u_t3 q_t3 => ?_)
    obtain rfl : t3 = u_t3 := e_t3.trans q_t3.symm
    refine lv_istore_n (lv' := [(3, .int t3), (2, .int g5), (0, .ref (a 3)), (1, .ref (a 5))]) hx hb (dt_at dt_Rd_readNumber 13 rfl) rfl hl (by decide) rfl (fun ls hl => ?_)
    refine lv_aload_n hx hb (dt_at dt_Rd_readNumber 14 rfl) rfl (lv_at hl 2 rfl) ?_
    refine lv_bipush (v := 46) hx hb (dt_at dt_Rd_readNumber 15 rfl) (by decide) ?_
    obtain ⟨r4, h_r4, h⟩ := ob_of h
    have hPc := hP
    have hDc : va_D A (dT a) := dD (ws' := dT a) hD rfl
    have hKc := hK
    have hF := va_free (wc := dT a) hDc hS hA [0, 1, 2, 3, 4, 5, 6, 7, 8] rfl
    have hd : va_D (fun _ => True) (dT a) := hDc.weaken (fun _ _ _ _ => trivial)
    refine va_calli (va_runV (As := [.int (46 : Int32)]) (rest := []) ⟨hx, hb, hml, hown, hts⟩ (c_Rd_take l D a q L R hd H.size (46 : Int32) g0 g1 g2 g3 g4 r1.2.1 g6 g7 r1.2.2.1 r1.2.2.2 g10 g11 g12 g13 g14 g15 g16   r4 h_r4) (cwV 1 hts (gd_V (m_2 100 rfl rfl) (m_2 102 rfl rfl) (m_s 4 rfl rfl) (m_1 2 rfl rfl) (m_2 103 rfl rfl)) rfl rfl rfl (by decide +kernel) ⟨Nat.le_of_ble_eq_true rfl, Nat.le_of_ble_eq_true rfl⟩) ⟨fun a U g mk q => ⟨q.1, q.2.1, q.2.2.1, va_K.moved (u := U) (U := U.calling g mk a) (Vm.Alike.refl U.vm) q.2.2.2⟩, va_recv hK hP (ci := 2) (q0 := 3) rfl rfl, fun U hU hW => ⟨rfl, by rw [hU], by rw [hU]; exact hPc, va_K.moved hW.alike hKc⟩⟩ rfl rfl hl.1 rfl (lv_room (Nat.le_of_ble_eq_true rfl)) (dt_at dt_Rd_readNumber 16 rfl) ⟨Nat.le_of_ble_eq_true rfl, Nat.le_of_ble_eq_true rfl⟩) hS (fun x _ h9 => hF x h9) hF (fun u_r4 uu t H1 locs ht hvm hw hB hz1 hk1 hS => ?_)
    subst hw
    rw [ht] at hB
    have hP : va_P D CLS (wT a q L R g0 g1 g2 g3 g4 r4.2 g6 g7 r1.2.2.1 r1.2.2.2 g10 g11 g12 g13 g14 g15 g16) H1 := hB
    have hD : va_D A (wT a q L R g0 g1 g2 g3 g4 r4.2 g6 g7 r1.2.2.1 r1.2.2.2 g10 g11 g12 g13 g14 g15 g16) := dD hD rfl
    have hSz : s.heap.size ≤ H1.size := hS.1
    clear hk1 hz1 hPc hF hB ht
    generalize H1 = H at hP hS hSz  ⊢
    obtain ⟨t5, e_t5, h⟩ := ol_of h
    refine lv_topi (fun u_t5 q_t5 => ?_)
    obtain rfl : t5 = u_t5 := e_t5.trans q_t5.symm
    refine lv_istore (lv' := [(4, .int t5), (3, .int t3), (2, .int g5), (0, .ref (a 3)), (1, .ref (a 5))]) hx hb (dt_at dt_Rd_readNumber 17 rfl) hl (by decide) rfl (fun ls hl => ?_)
    refine lv_aload_n hx hb (dt_at dt_Rd_readNumber 18 rfl) rfl (lv_at hl 3 rfl) ?_
    refine va_get (D := D) (ci := 2) (v := .int r4.2) (C := "OutwardTape$LiteralReader") (T := T_Rd) (N := 5) hx hb hts in_Rd hown hK hP 3 rfl rfl 4 (by decide) (hts (Cond.fieldLink "OutwardTape$LiteralReader" 29 "OutwardTape$LiteralReader" "at" "I") (m_1 67 rfl rfl)) (fun _ h9 => h9) rfl (dt_at dt_Rd_readNumber 19 rfl) ?_
    obtain ⟨t6, e_t6, h⟩ := ol_of h
    refine lv_topi (fun u_t6 q_t6 => ?_)
    obtain rfl : t6 = u_t6 := e_t6.trans q_t6.symm
    refine lv_istore_n (lv' := [(2, .int t6), (4, .int t5), (3, .int t3), (0, .ref (a 3)), (1, .ref (a 5))]) hx hb (dt_at dt_Rd_readNumber 20 rfl) rfl hl (by decide) rfl (fun ls hl => ?_)
    refine lv_iload hx hb (dt_at dt_Rd_readNumber 21 rfl) (lv_at hl 1 rfl) ?_
    refine lv_if_eq (tgt := 50) hx hb (dt_at dt_Rd_readNumber 22 rfl) (by decide) (fun c7 => ?_) (fun c7 => ?_)
    · have h := if_p h c7
      exact k_Rd_readNumber_50 hC hA hK   t6 t3 r4.2 r1.2.2.1 r1.2.2.2 g10 H locs ls hP hD hS   (lv_sub hl [3, 4, 0, 2] rfl) h
    · have h := if_n h c7
      refine lv_aload_n hx hb (dt_at dt_Rd_readNumber 23 rfl) rfl (lv_at hl 3 rfl) ?_
      refine lv_aload_n hx hb (dt_at dt_Rd_readNumber 24 rfl) rfl (lv_at hl 4 rfl) ?_
      obtain ⟨r8, h_r8, h⟩ := ob_of h
      have hPc := hP
      have hDc : va_D A (dT a) := dD (ws' := dT a) hD rfl
      have hKc := hK
      have hF := va_free (wc := dT a) hDc hS hA [0, 1, 2, 3, 4, 5, 6, 7, 8] rfl
      have hd : va_D (fun _ => True) (dT a) := hDc.weaken (fun _ _ _ _ => trivial)
      refine va_calli (va_runV (As := [.ref (a 5)]) (rest := []) ⟨hx, hb, hml, hown, hts⟩ (c_Rd_readDigits l D a q L R hd H.size  g0 g1 g2 g3 g4 r4.2 g6 g7 r1.2.2.1 r1.2.2.2 g10 g11 g12 g13 g14 g15 g16   r8 h_r8) (cwV 1 hts (gd_V (m_3 3 rfl rfl) (m_3 5 rfl rfl) (m_s 13 rfl rfl) (m_1 2 rfl rfl) (m_3 6 rfl rfl)) rfl rfl rfl (by decide +kernel) ⟨Nat.le_of_ble_eq_true rfl, Nat.le_of_ble_eq_true rfl⟩) ⟨fun a U g mk q => ⟨q.1, q.2.1, q.2.2.1, va_K.moved (u := U) (U := U.calling g mk a) (Vm.Alike.refl U.vm) q.2.2.2⟩, va_recv hK hP (ci := 2) (q0 := 3) rfl rfl, fun U hU hW => ⟨rfl, by rw [hU], by rw [hU]; exact hPc, va_K.moved hW.alike hKc⟩⟩ rfl rfl hl.1 rfl (lv_room (Nat.le_of_ble_eq_true rfl)) (dt_at dt_Rd_readNumber 25 rfl) ⟨Nat.le_of_ble_eq_true rfl, Nat.le_of_ble_eq_true rfl⟩) hS (fun x _ h9 => hF x h9) hF (fun u_r8 uu t H1 locs ht hvm hw hB hz1 hk1 hS => ?_)
      subst hw
      rw [ht] at hB
      have hP : va_P D CLS (wT a q L R g0 g1 g2 g3 g4 r8.2.1 g6 g7 r8.2.2.1 r8.2.2.2 g10 g11 g12 g13 g14 g15 g16) H1 := hB
      have hD : va_D A (wT a q L R g0 g1 g2 g3 g4 r8.2.1 g6 g7 r8.2.2.1 r8.2.2.2 g10 g11 g12 g13 g14 g15 g16) := dD hD rfl
      have hSz : s.heap.size ≤ H1.size := hS.1
      clear hk1 hz1 hPc hF hB ht
      generalize H1 = H at hP hS hSz  ⊢
      refine lv_if_ne (tgt := 50) hx hb (dt_at dt_Rd_readNumber 26 rfl) (by decide) (fun c9 => ?_) (fun c9 => ?_)
      · have h := if_n h c9
        exact k_Rd_readNumber_50 hC hA hK   t6 t3 r8.2.1 r8.2.2.1 r8.2.2.2 g10 H locs ls hP hD hS   (lv_sub hl [3, 4, 0, 2] rfl) h
      · have h := if_p h c9
        refine lv_iconst (v := 0) hx hb (dt_at dt_Rd_readNumber 27 rfl) (by decide) ?_
        obtain rfl := os_of h
        exact W.zret (v := (0 : Int32)) (ty := .boolean) hx hb hr (by decide) (fun t ht hW => ⟨⟨_, (), rfl, rfl, (hPt hP ht)⟩, hS.F ht⟩) hS.2.2 (dt_at dt_Rd_readNumber 28 rfl)
  · have h := if_p h c2
    refine lv_iconst (v := 0) hx hb (dt_at dt_Rd_readNumber 7 rfl) (by decide) ?_
    obtain rfl := os_of h
    exact W.zret (v := (0 : Int32)) (ty := .boolean) hx hb hr (by decide) (fun t ht hW => ⟨⟨_, (), rfl, rfl, (hPt hP ht)⟩, hS.F ht⟩) hS.2.2 (dt_at dt_Rd_readNumber 8 rfl)
set_option maxRecDepth 100000 in
set_option maxHeartbeats 4000000 in
theorem c_Rd_readNumber (l : Launch) (D : va_G) (a : Nat → Nat) (q : Nat → ClassId) (L : Nat) (R : Nat) (hd : va_D (fun _ => True) (dT a)) (sz : Nat)  (g0 : Int32) (g1 : Int32) (g2 : Nat → Int32) (g3 : Nat → Option Nat) (g4 : Int32) (g5 : Int32) (g6 : Nat → Int32) (g7 : Int32) (g8 : Int64) (g9 : Int32) (g10 : Int32) (g11 : Nat → Int32) (g12 : Int32) (g13 : Int64) (g14 : Int32) (g15 : Int32) (g16 : Nat → Int32)   (r0 : Int32 × Int32 × Int64 × Int32 × Int32) (h : f_Rd_readNumber g4 g5 g6 g8 g9 g10 = some r0) : Met l (⟨"OutwardTape$LiteralReader", "readNumber", "(LOutwardTape$Numeral;)Z"⟩ : MethodName) (WSm (⟨"OutwardTape$LiteralReader", "readNumber", "(LOutwardTape$Numeral;)Z"⟩ : MethodName) prog_5_method_10_code 6 (some .boolean)) rm_Rd_readNumber (va_Pc [.ref (a 3), .ref (a 5)] (fun U => U.heap.size = sz ∧ va_P D CLS (wT a q L R g0 g1 g2 g3 g4 g5 g6 g7 g8 g9 g10 g11 g12 g13 g14 g15 g16) U.heap ∧ va_K D CLS (tT q) U)) (va_Qi (fun (r : Int32) (_ : Unit) => r = r0.1) (fun _ t => va_P D CLS (wT a q L R g0 g1 g2 g3 g4 r0.2.1 g6 g7 r0.2.2.1 r0.2.2.2.1 r0.2.2.2.2 g11 g12 g13 g14 g15 g16) t.heap) (va_A (dT a) sz)) 0 0 (va_A (dT a) sz) := by
  refine Met.ofW (cc := prog_5_method_10_code) (maxL := 6) (ret := (some .boolean)) (by decide) rfl ?_
  intro p e s m args below meth c s₁ B hml hv
  obtain ⟨rfl, hsz, hP, hK⟩ := hv
  subst hsz
  have hC := CX.of B hml rfl
  have hl := lv_entry [.ref (a 3), .ref (a 5)] (n := 6) (Nat.le_of_ble_eq_true rfl)
  rw [lg_entry_eq]
  generalize (lg_sl [.ref (a 3), .ref (a 5)] ++ List.replicate (6 - (lg_sl [.ref (a 3), .ref (a 5)]).length) Slot.unset).toArray = ls at hl ⊢
  have hl : lv_has ls 6 [(0, .ref (a 3)), (1, .ref (a 5))] := hl
  exact k_Rd_readNumber_0  hC (fun x h => Or.inr h) hK  g5 g8 g9 g10   s.heap [] ls hP (dD hd.self rfl) va_S.rf   (lv_sub hl [0, 1] rfl) h
abbrev rm_Rd_takeWord : Room := { frames := 4, cells := 0, slots := 0, locals := 96 }
set_option maxRecDepth 100000 in
set_option maxHeartbeats 4000000 in
theorem k_Rd_takeWord_20 {p : Program} {l : Launch} {e : Env} {s : State} {m : MethodId} {args : Array Value} {below : List Frame} {meth : Method} {c : Code} {D : va_G} {a : Nat → Nat} {q : Nat → ClassId} {L : Nat} {R : Nat} {A : Nat → Prop} (hC : CX p s m args meth c prog_5_method_16_code 3 "OutwardTape$LiteralReader" (some .boolean)) (hA : ∀ x, s.heap.size ≤ x → A x) (hK : va_K D CLS (tT q) s) {n0 : Nat} {adK adV : Nat → Nat} (hSt : isS n0 adK adV s) (hAn : ∀ x, A x → n0 ≤ x) {g0 : Int32} {g1 : Int32} {g2 : Nat → Int32} {g3 : Nat → Option Nat} {g4 : Int32} {g6 : Nat → Int32} {g7 : Int32} {g8 : Int64} {g9 : Int32} {g10 : Int32} {g11 : Nat → Int32} {g12 : Int32} {g13 : Int64} {g14 : Int32} {g15 : Int32} {g16 : Nat → Int32} {r0 : Int32 × Int32} : ∀ n : Nat, ∀ (v1_w : Nat) (v2 : Int32) (g5 : Int32) (H : Heap) (locs : List Loc) (ls : Array Slot), va_P D CLS (wT a q L R g0 g1 g2 g3 g4 g5 g6 g7 g8 g9 g10 g11 g12 g13 g14 g15 g16) H → va_D A (wT a q L R g0 g1 g2 g3 g4 g5 g6 g7 g8 g9 g10 g11 g12 g13 g14 g15 g16) → va_S A s.heap H locs → lv_has ls 3 [(0, .ref (a 3)), (1, .ref (adK v1_w)), (2, .int v2)] → f_Rd_takeWord_20  n v1_w v2 g4 g5 g6 = some r0 → W p l e rm_Rd_takeWord s m args below meth c H locs 0 0 (MQ below (va_Qi (fun (r : Int32) (_ : Unit) => r = r0.1) (fun _ t => va_P D CLS (wT a q L R g0 g1 g2 g3 g4 r0.2 g6 g7 g8 g9 g10 g11 g12 g13 g14 g15 g16) t.heap) A) args s 0 0 A) (F0 m 20 ls []) := by
  obtain ⟨hx, hb, hml, hown, hts, hr, hlocks⟩ := id hC
  intro n
  induction n with
  | zero => intro v1_w v2 g5 H locs ls hP hD hS hl h; cases h
  | succ n ih =>
    intro v1_w v2 g5 H locs ls hP hD hS hl h
    rw [f_Rd_takeWord_20] at h
    have hSz : s.heap.size ≤ H.size := hS.1
    refine lv_iload_n hx hb (dt_at dt_Rd_takeWord 12 rfl) rfl (lv_at hl 2 rfl) ?_
    refine lv_aload_n hx hb (dt_at dt_Rd_takeWord 13 rfl) rfl (lv_at hl 1 rfl) ?_
    obtain ⟨z1, h⟩ := og_of h
    refine vp_callSi (W.runV (As := []) (rest := [.int v2]) ⟨hx, hb, hml, hown, hts⟩ (c_Str_length l n0 adK adV v1_w z1) (cwV 0 hts (gd_V (m_2 160 rfl rfl) (m_2 161 rfl rfl) (m_2 162 rfl rfl) (m_1 11 rfl rfl) (m_2 163 rfl rfl)) rfl rfl rfl (by decide +kernel) ⟨Nat.le_of_ble_eq_true rfl, Nat.le_of_ble_eq_true rfl⟩) ⟨fun a U g mk q => ⟨q.1, isS.call q.2⟩, vk_recv (hSt.2.1.narrow hAn) z1 hS, fun U hU hW => ⟨rfl, isS.go hSt hS hAn hU hW⟩⟩ rfl rfl hl.1 rfl (lv_room (Nat.le_of_ble_eq_true rfl)) (dt_at dt_Rd_takeWord 14 rfl) ⟨Nat.le_of_ble_eq_true rfl, Nat.le_of_ble_eq_true rfl⟩) (fun u_q q_q => ?_)
    subst q_q
    refine lv_icmp_ge (tgt := 55) hx hb (dt_at dt_Rd_takeWord 15 rfl) (by decide) (fun c2 => ?_) (fun c2 => ?_)
    · have h := if_p h c2
      refine lv_aload_n hx hb (dt_at dt_Rd_takeWord 31 rfl) rfl (lv_at hl 0 rfl) ?_
      refine lv_dup hx hb (dt_at dt_Rd_takeWord 32 rfl) rfl ?_
      refine va_get (D := D) (ci := 2) (v := .int g5) (C := "OutwardTape$LiteralReader") (T := T_Rd) (N := 5) hx hb hts in_Rd hown hK hP 3 rfl rfl 4 (by decide) (hts (Cond.fieldLink "OutwardTape$LiteralReader" 29 "OutwardTape$LiteralReader" "at" "I") (m_1 67 rfl rfl)) (fun _ h9 => h9) rfl (dt_at dt_Rd_takeWord 33 rfl) ?_
      refine lv_aload_n hx hb (dt_at dt_Rd_takeWord 34 rfl) rfl (lv_at hl 1 rfl) ?_
      obtain ⟨z3, h⟩ := og_of h
      refine vp_callSi (W.runV (As := []) (rest := [.int g5, .ref (a 3)]) ⟨hx, hb, hml, hown, hts⟩ (c_Str_length l n0 adK adV v1_w z3) (cwV 0 hts (gd_V (m_2 160 rfl rfl) (m_2 161 rfl rfl) (m_2 162 rfl rfl) (m_1 11 rfl rfl) (m_2 163 rfl rfl)) rfl rfl rfl (by decide +kernel) ⟨Nat.le_of_ble_eq_true rfl, Nat.le_of_ble_eq_true rfl⟩) ⟨fun a U g mk q => ⟨q.1, isS.call q.2⟩, vk_recv (hSt.2.1.narrow hAn) z3 hS, fun U hU hW => ⟨rfl, isS.go hSt hS hAn hU hW⟩⟩ rfl rfl hl.1 rfl (lv_room (Nat.le_of_ble_eq_true rfl)) (dt_at dt_Rd_takeWord 35 rfl) ⟨Nat.le_of_ble_eq_true rfl, Nat.le_of_ble_eq_true rfl⟩) (fun u_q q_q => ?_)
      subst q_q
      refine lv_iadd hx hb (dt_at dt_Rd_takeWord 36 rfl) ?_
      obtain ⟨t4, e_t4, h⟩ := ol_of h
      refine lv_topi (fun u_t4 q_t4 => ?_)
      obtain rfl : t4 = u_t4 := e_t4.trans q_t4.symm
      refine va_put (D := D) (ci := 2) (v := .int t4) (ty := .int) (C := "OutwardTape$LiteralReader") (T := T_Rd) (N := 5) hx hb hts in_Rd ty_Rd tk_Rd nm_Rd hown hK hP hD hS 3 rfl rfl 4 (by decide) (hts (Cond.fieldLink "OutwardTape$LiteralReader" 29 "OutwardTape$LiteralReader" "at" "I") (m_1 67 rfl rfl)) (fun _ h9 => h9) rfl (by decide +kernel) rfl rfl (Nat.le_of_ble_eq_true rfl) (dt_at dt_Rd_takeWord 37 rfl) (fun H locs hP hD hS => ?_)
      have hP : va_P D CLS (wT a q L R g0 g1 g2 g3 g4 t4 g6 g7 g8 g9 g10 g11 g12 g13 g14 g15 g16) H := hP
      have hD : va_D A (wT a q L R g0 g1 g2 g3 g4 t4 g6 g7 g8 g9 g10 g11 g12 g13 g14 g15 g16) := hD
      refine lv_iconst (v := 1) hx hb (dt_at dt_Rd_takeWord 38 rfl) (by decide) ?_
      obtain rfl := os_of h
      exact W.zret (v := (1 : Int32)) (ty := .boolean) hx hb hr (by decide) (fun t ht hW => ⟨⟨_, (), rfl, rfl, (hPt hP ht)⟩, hS.F ht⟩) hS.2.2 (dt_at dt_Rd_takeWord 39 rfl)
    · have h := if_n h c2
      refine lv_aload_n hx hb (dt_at dt_Rd_takeWord 16 rfl) rfl (lv_at hl 0 rfl) ?_
      refine va_get (D := D) (ci := 2) (v := .ref (a 4)) (C := "OutwardTape$LiteralReader") (T := T_Rd) (N := 5) hx hb hts in_Rd hown hK hP 3 rfl rfl 2 (by decide) (hts (Cond.fieldLink "OutwardTape$LiteralReader" 21 "OutwardTape$LiteralReader" "small" "[C") (m_1 65 rfl rfl)) (fun _ h9 => h9) rfl (dt_at dt_Rd_takeWord 17 rfl) ?_
      refine lv_aload_n hx hb (dt_at dt_Rd_takeWord 18 rfl) rfl (lv_at hl 0 rfl) ?_
      refine va_get (D := D) (ci := 2) (v := .int g5) (C := "OutwardTape$LiteralReader") (T := T_Rd) (N := 5) hx hb hts in_Rd hown hK hP 3 rfl rfl 4 (by decide) (hts (Cond.fieldLink "OutwardTape$LiteralReader" 29 "OutwardTape$LiteralReader" "at" "I") (m_1 67 rfl rfl)) (fun _ h9 => h9) rfl (dt_at dt_Rd_takeWord 19 rfl) ?_
      refine lv_iload_n hx hb (dt_at dt_Rd_takeWord 20 rfl) rfl (lv_at hl 2 rfl) ?_
      refine lv_iadd hx hb (dt_at dt_Rd_takeWord 21 rfl) ?_
      obtain ⟨z5, h⟩ := og_of h
      refine va_cald hx hb hK hP 4 2 rfl rfl z5 (dt_at dt_Rd_takeWord 22 rfl) ?_
      refine lv_aload_n hx hb (dt_at dt_Rd_takeWord 23 rfl) rfl (lv_at hl 1 rfl) ?_
      refine lv_iload_n hx hb (dt_at dt_Rd_takeWord 24 rfl) rfl (lv_at hl 2 rfl) ?_
      obtain ⟨z6, h⟩ := og_of h
      refine vp_callSi (W.runV (As := [.int v2]) (rest := [.int (g6 (g5 + v2).toNatClampNeg)]) ⟨hx, hb, hml, hown, hts⟩ (c_Str_charAtI l n0 adK adV v1_w v2 z6.1 z6.2) (cwV 1 hts (gd_V (m_2 170 rfl rfl) (m_2 171 rfl rfl) (m_2 172 rfl rfl) (m_1 11 rfl rfl) (m_2 173 rfl rfl)) rfl rfl rfl (by decide +kernel) ⟨Nat.le_of_ble_eq_true rfl, Nat.le_of_ble_eq_true rfl⟩) ⟨fun a U g mk q => ⟨q.1, isS.call q.2⟩, vk_recv (hSt.2.1.narrow hAn) z6.1 hS, fun U hU hW => ⟨rfl, isS.go hSt hS hAn hU hW⟩⟩ rfl rfl hl.1 rfl (lv_room (Nat.le_of_ble_eq_true rfl)) (dt_at dt_Rd_takeWord 25 rfl) ⟨Nat.le_of_ble_eq_true rfl, Nat.le_of_ble_eq_true rfl⟩) (fun u_q q_q => ?_)
      subst q_q
      refine lv_icmp_eq (tgt := 49) hx hb (dt_at dt_Rd_takeWord 26 rfl) (by decide) (fun c7 => ?_) (fun c7 => ?_)
      · have h := if_p h c7
        obtain ⟨t8, e_t8, h⟩ := ol_of h
        refine lv_iinc (v := t8) (lv' := [(2, .int t8), (0, .ref (a 3)), (1, .ref (adK v1_w))]) hx hb (dt_at dt_Rd_takeWord 29 rfl) hl (k := 2) rfl (by rw [e_t8]; rfl) (by decide) rfl (fun ls hl => ?_)
        refine lv_goto (tgt := 20) hx hb (dt_at dt_Rd_takeWord 30 rfl) (by decide) ?_
        exact ih v1_w t8 g5 H locs ls hP hD hS   (lv_sub hl [1, 2, 0] rfl) h
      · have h := if_n h c7
        refine lv_iconst (v := 0) hx hb (dt_at dt_Rd_takeWord 27 rfl) (by decide) ?_
        obtain rfl := os_of h
        exact W.zret (v := (0 : Int32)) (ty := .boolean) hx hb hr (by decide) (fun t ht hW => ⟨⟨_, (), rfl, rfl, (hPt hP ht)⟩, hS.F ht⟩) hS.2.2 (dt_at dt_Rd_takeWord 28 rfl)
set_option maxRecDepth 100000 in
set_option maxHeartbeats 4000000 in
theorem k_Rd_takeWord_0 {p : Program} {l : Launch} {e : Env} {s : State} {m : MethodId} {args : Array Value} {below : List Frame} {meth : Method} {c : Code} {D : va_G} {a : Nat → Nat} {q : Nat → ClassId} {L : Nat} {R : Nat} {A : Nat → Prop} (hC : CX p s m args meth c prog_5_method_16_code 3 "OutwardTape$LiteralReader" (some .boolean)) (hA : ∀ x, s.heap.size ≤ x → A x) (hK : va_K D CLS (tT q) s) {n0 : Nat} {adK adV : Nat → Nat} (hSt : isS n0 adK adV s) (hAn : ∀ x, A x → n0 ≤ x) {g0 : Int32} {g1 : Int32} {g2 : Nat → Int32} {g3 : Nat → Option Nat} {g4 : Int32} {g6 : Nat → Int32} {g7 : Int32} {g8 : Int64} {g9 : Int32} {g10 : Int32} {g11 : Nat → Int32} {g12 : Int32} {g13 : Int64} {g14 : Int32} {g15 : Int32} {g16 : Nat → Int32} {r0 : Int32 × Int32} : ∀ (v1_w : Nat) (g5 : Int32) (H : Heap) (locs : List Loc) (ls : Array Slot), va_P D CLS (wT a q L R g0 g1 g2 g3 g4 g5 g6 g7 g8 g9 g10 g11 g12 g13 g14 g15 g16) H → va_D A (wT a q L R g0 g1 g2 g3 g4 g5 g6 g7 g8 g9 g10 g11 g12 g13 g14 g15 g16) → va_S A s.heap H locs → lv_has ls 3 [(0, .ref (a 3)), (1, .ref (adK v1_w))] → f_Rd_takeWord_0  v1_w g4 g5 g6 = some r0 → W p l e rm_Rd_takeWord s m args below meth c H locs 0 0 (MQ below (va_Qi (fun (r : Int32) (_ : Unit) => r = r0.1) (fun _ t => va_P D CLS (wT a q L R g0 g1 g2 g3 g4 r0.2 g6 g7 g8 g9 g10 g11 g12 g13 g14 g15 g16) t.heap) A) args s 0 0 A) (F0 m 0 ls []) := by
  obtain ⟨hx, hb, hml, hown, hts, hr, hlocks⟩ := id hC
  intro v1_w g5 H locs ls hP hD hS hl h
  rw [f_Rd_takeWord_0] at h
  have hSz : s.heap.size ≤ H.size := hS.1
  refine lv_aload_n hx hb (dt_at dt_Rd_takeWord 0 rfl) rfl (lv_at hl 0 rfl) ?_
  refine va_get (D := D) (ci := 2) (v := .int g5) (C := "OutwardTape$LiteralReader") (T := T_Rd) (N := 5) hx hb hts in_Rd hown hK hP 3 rfl rfl 4 (by decide) (hts (Cond.fieldLink "OutwardTape$LiteralReader" 29 "OutwardTape$LiteralReader" "at" "I") (m_1 67 rfl rfl)) (fun _ h9 => h9) rfl (dt_at dt_Rd_takeWord 1 rfl) ?_
  refine lv_aload_n hx hb (dt_at dt_Rd_takeWord 2 rfl) rfl (lv_at hl 1 rfl) ?_
  obtain ⟨z1, h⟩ := og_of h
  refine vp_callSi (W.runV (As := []) (rest := [.int g5]) ⟨hx, hb, hml, hown, hts⟩ (c_Str_length l n0 adK adV v1_w z1) (cwV 0 hts (gd_V (m_2 160 rfl rfl) (m_2 161 rfl rfl) (m_2 162 rfl rfl) (m_1 11 rfl rfl) (m_2 163 rfl rfl)) rfl rfl rfl (by decide +kernel) ⟨Nat.le_of_ble_eq_true rfl, Nat.le_of_ble_eq_true rfl⟩) ⟨fun a U g mk q => ⟨q.1, isS.call q.2⟩, vk_recv (hSt.2.1.narrow hAn) z1 hS, fun U hU hW => ⟨rfl, isS.go hSt hS hAn hU hW⟩⟩ rfl rfl hl.1 rfl (lv_room (Nat.le_of_ble_eq_true rfl)) (dt_at dt_Rd_takeWord 3 rfl) ⟨Nat.le_of_ble_eq_true rfl, Nat.le_of_ble_eq_true rfl⟩) (fun u_q q_q => ?_)
  subst q_q
  refine lv_iadd hx hb (dt_at dt_Rd_takeWord 4 rfl) ?_
  refine lv_aload_n hx hb (dt_at dt_Rd_takeWord 5 rfl) rfl (lv_at hl 0 rfl) ?_
  refine va_get (D := D) (ci := 2) (v := .int g4) (C := "OutwardTape$LiteralReader") (T := T_Rd) (N := 5) hx hb hts in_Rd hown hK hP 3 rfl rfl 3 (by decide) (hts (Cond.fieldLink "OutwardTape$LiteralReader" 25 "OutwardTape$LiteralReader" "end" "I") (m_1 66 rfl rfl)) (fun _ h9 => h9) rfl (dt_at dt_Rd_takeWord 6 rfl) ?_
  refine lv_icmp_le (tgt := 18) hx hb (dt_at dt_Rd_takeWord 7 rfl) (by decide) (fun c2 => ?_) (fun c2 => ?_)
  · have h := if_p h c2
    refine lv_iconst (v := 0) hx hb (dt_at dt_Rd_takeWord 10 rfl) (by decide) ?_
    refine lv_istore_n (lv' := [(2, .int (0 : Int32)), (0, .ref (a 3)), (1, .ref (adK v1_w))]) hx hb (dt_at dt_Rd_takeWord 11 rfl) rfl hl (by decide) rfl (fun ls hl => ?_)
    exact k_Rd_takeWord_20 hC hA hK hSt hAn  5000 v1_w (0 : Int32) g5 H locs ls hP hD hS   (lv_sub hl [1, 2, 0] rfl) h
  · have h := if_n h c2
    refine lv_iconst (v := 0) hx hb (dt_at dt_Rd_takeWord 8 rfl) (by decide) ?_
    obtain rfl := os_of h
    exact W.zret (v := (0 : Int32)) (ty := .boolean) hx hb hr (by decide) (fun t ht hW => ⟨⟨_, (), rfl, rfl, (hPt hP ht)⟩, hS.F ht⟩) hS.2.2 (dt_at dt_Rd_takeWord 9 rfl)
set_option maxRecDepth 100000 in
set_option maxHeartbeats 4000000 in
theorem c_Rd_takeWord (l : Launch) (D : va_G) (a : Nat → Nat) (q : Nat → ClassId) (L : Nat) (R : Nat) (hd : va_D (fun _ => True) (dT a)) (sz : Nat) (a1_w : Nat) (g0 : Int32) (g1 : Int32) (g2 : Nat → Int32) (g3 : Nat → Option Nat) (g4 : Int32) (g5 : Int32) (g6 : Nat → Int32) (g7 : Int32) (g8 : Int64) (g9 : Int32) (g10 : Int32) (g11 : Nat → Int32) (g12 : Int32) (g13 : Int64) (g14 : Int32) (g15 : Int32) (g16 : Nat → Int32)  (n0 : Nat) (adK adV : Nat → Nat) (hn0 : ∀ x, va_A (dT a) sz x → n0 ≤ x)  (r0 : Int32 × Int32) (h : f_Rd_takeWord a1_w g4 g5 g6 = some r0) : Met l (⟨"OutwardTape$LiteralReader", "takeWord", "(Ljava/lang/String;)Z"⟩ : MethodName) (WSm (⟨"OutwardTape$LiteralReader", "takeWord", "(Ljava/lang/String;)Z"⟩ : MethodName) prog_5_method_16_code 3 (some .boolean)) rm_Rd_takeWord (va_Pc [.ref (a 3), .ref (adK a1_w)] (fun U => U.heap.size = sz ∧ va_P D CLS (wT a q L R g0 g1 g2 g3 g4 g5 g6 g7 g8 g9 g10 g11 g12 g13 g14 g15 g16) U.heap ∧ va_K D CLS (tT q) U ∧ isS n0 adK adV U)) (va_Qi (fun (r : Int32) (_ : Unit) => r = r0.1) (fun _ t => va_P D CLS (wT a q L R g0 g1 g2 g3 g4 r0.2 g6 g7 g8 g9 g10 g11 g12 g13 g14 g15 g16) t.heap) (va_A (dT a) sz)) 0 0 (va_A (dT a) sz) := by
  refine Met.ofW (cc := prog_5_method_16_code) (maxL := 3) (ret := (some .boolean)) (by decide) rfl ?_
  intro p e s m args below meth c s₁ B hml hv
  obtain ⟨rfl, hsz, hP, hK, hSt⟩ := hv
  subst hsz
  have hC := CX.of B hml rfl
  have hl := lv_entry [.ref (a 3), .ref (adK a1_w)] (n := 3) (Nat.le_of_ble_eq_true rfl)
  rw [lg_entry_eq]
  generalize (lg_sl [.ref (a 3), .ref (adK a1_w)] ++ List.replicate (3 - (lg_sl [.ref (a 3), .ref (adK a1_w)]).length) Slot.unset).toArray = ls at hl ⊢
  have hl : lv_has ls 3 [(0, .ref (a 3)), (1, .ref (adK a1_w))] := hl
  exact k_Rd_takeWord_0  hC (fun x h => Or.inr h) hK hSt hn0 a1_w g5   s.heap [] ls hP (dD hd.self rfl) va_S.rf   (lv_sub hl [0, 1] rfl) h
abbrev rm_Rd_readEnd : Room := { frames := 5, cells := 0, slots := 0, locals := 118 }
set_option maxRecDepth 100000 in
set_option maxHeartbeats 4000000 in
theorem k_Rd_readEnd_97 {p : Program} {l : Launch} {e : Env} {s : State} {m : MethodId} {args : Array Value} {below : List Frame} {meth : Method} {c : Code} {D : va_G} {a : Nat → Nat} {q : Nat → ClassId} {L : Nat} {R : Nat} {A : Nat → Prop} (hC : CX p s m args meth c prog_5_method_9_code 4 "OutwardTape$LiteralReader" (some .int)) (hA : ∀ x, s.heap.size ≤ x → A x) (hK : va_K D CLS (tT q) s) {n0 : Nat} {adK adV : Nat → Nat} (hSt : isS n0 adK adV s) (hAn : ∀ x, A x → n0 ≤ x) {g0 : Int32} {g1 : Int32} {g2 : Nat → Int32} {g3 : Nat → Option Nat} {g4 : Int32} {g6 : Nat → Int32} {g11 : Nat → Int32} {g12 : Int32} {g13 : Int64} {g14 : Int32} {g15 : Int32} {g16 : Nat → Int32} {r0 : Int32 × Int32 × Int32 × Int64 × Int32 × Int32} : ∀ (s0 : Int32) (g5 : Int32) (g7 : Int32) (g8 : Int64) (g9 : Int32) (g10 : Int32) (H : Heap) (locs : List Loc) (ls : Array Slot), va_P D CLS (wT a q L R g0 g1 g2 g3 g4 g5 g6 g7 g8 g9 g10 g11 g12 g13 g14 g15 g16) H → va_D A (wT a q L R g0 g1 g2 g3 g4 g5 g6 g7 g8 g9 g10 g11 g12 g13 g14 g15 g16) → va_S A s.heap H locs → lv_has ls 4 [] → f_Rd_readEnd_97  s0 g4 g5 g6 g7 g8 g9 g10 = some r0 → W p l e rm_Rd_readEnd s m args below meth c H locs 0 0 (MQ below (va_Qi (fun (r : Int32) (_ : Unit) => r = r0.1) (fun _ t => va_P D CLS (wT a q L R g0 g1 g2 g3 g4 r0.2.1 g6 r0.2.2.1 r0.2.2.2.1 r0.2.2.2.2.1 r0.2.2.2.2.2 g11 g12 g13 g14 g15 g16) t.heap) A) args s 0 0 A) (F0 m 97 ls [.int s0]) := by
  obtain ⟨hx, hb, hml, hown, hts, hr, hlocks⟩ := id hC
  intro s0 g5 g7 g8 g9 g10 H locs ls hP hD hS hl h
  rw [f_Rd_readEnd_97] at h
  have hSz : s.heap.size ≤ H.size := hS.1
  obtain rfl := os_of h
  exact W.iret (v := s0) hx hb hr (fun t ht hW => ⟨⟨_, (), rfl, rfl, (hPt hP ht)⟩, hS.F ht⟩) hS.2.2 (dt_at dt_Rd_readEnd 50 rfl)
set_option maxRecDepth 100000 in
set_option maxHeartbeats 4000000 in
theorem k_Rd_readEnd_79 {p : Program} {l : Launch} {e : Env} {s : State} {m : MethodId} {args : Array Value} {below : List Frame} {meth : Method} {c : Code} {D : va_G} {a : Nat → Nat} {q : Nat → ClassId} {L : Nat} {R : Nat} {A : Nat → Prop} (hC : CX p s m args meth c prog_5_method_9_code 4 "OutwardTape$LiteralReader" (some .int)) (hA : ∀ x, s.heap.size ≤ x → A x) (hK : va_K D CLS (tT q) s) {n0 : Nat} {adK adV : Nat → Nat} (hSt : isS n0 adK adV s) (hAn : ∀ x, A x → n0 ≤ x) {g0 : Int32} {g1 : Int32} {g2 : Nat → Int32} {g3 : Nat → Option Nat} {g4 : Int32} {g6 : Nat → Int32} {g11 : Nat → Int32} {g12 : Int32} {g13 : Int64} {g14 : Int32} {g15 : Int32} {g16 : Nat → Int32} {r0 : Int32 × Int32 × Int32 × Int64 × Int32 × Int32} : ∀ (v2 : Int32) (g5 : Int32) (g7 : Int32) (g8 : Int64) (g9 : Int32) (g10 : Int32) (H : Heap) (locs : List Loc) (ls : Array Slot), va_P D CLS (wT a q L R g0 g1 g2 g3 g4 g5 g6 g7 g8 g9 g10 g11 g12 g13 g14 g15 g16) H → va_D A (wT a q L R g0 g1 g2 g3 g4 g5 g6 g7 g8 g9 g10 g11 g12 g13 g14 g15 g16) → va_S A s.heap H locs → lv_has ls 4 [(0, .ref (a 3)), (1, .ref (a 5)), (2, .int v2)] → f_Rd_readEnd_79  v2 g4 g5 g6 g7 g8 g9 g10 = some r0 → W p l e rm_Rd_readEnd s m args below meth c H locs 0 0 (MQ below (va_Qi (fun (r : Int32) (_ : Unit) => r = r0.1) (fun _ t => va_P D CLS (wT a q L R g0 g1 g2 g3 g4 r0.2.1 g6 r0.2.2.1 r0.2.2.2.1 r0.2.2.2.2.1 r0.2.2.2.2.2 g11 g12 g13 g14 g15 g16) t.heap) A) args s 0 0 A) (F0 m 79 ls []) := by
  obtain ⟨hx, hb, hml, hown, hts, hr, hlocks⟩ := id hC
  intro v2 g5 g7 g8 g9 g10 H locs ls hP hD hS hl h
  rw [f_Rd_readEnd_79] at h
  have hSz : s.heap.size ≤ H.size := hS.1
  refine lv_aload_n hx hb (dt_at dt_Rd_readEnd 40 rfl) rfl (lv_at hl 1 rfl) ?_
  refine lv_iload_n hx hb (dt_at dt_Rd_readEnd 41 rfl) rfl (lv_at hl 2 rfl) ?_
  obtain ⟨r1, h_r1, h⟩ := ob_of h
  have hPc := hP
  have hDc : va_D A (dT a) := dD (ws' := dT a) hD rfl
  have hKc := hK
  have hF := va_free (wc := dT a) hDc hS hA [0, 1, 2, 3, 4, 5, 6, 7, 8] rfl
  have hd : va_D (fun _ => True) (dT a) := hDc.weaken (fun _ _ _ _ => trivial)
  refine va_callv (va_runV (As := [.int v2]) (rest := []) ⟨hx, hb, hml, hown, hts⟩ (c_Num_begin l D a q L R hd H.size v2 g0 g1 g2 g3 g4 g5 g6 g7 g8 g9 g10 g11 g12 g13 g14 g15 g16   r1 h_r1) (cwV 1 hts (gd_V (m_2 235 rfl rfl) (m_2 236 rfl rfl) (m_2 237 rfl rfl) (m_1 3 rfl rfl) (m_2 238 rfl rfl)) rfl rfl rfl (by decide +kernel) ⟨Nat.le_of_ble_eq_true rfl, Nat.le_of_ble_eq_true rfl⟩) ⟨fun a U g mk q => ⟨q.1, q.2.1, q.2.2.1, va_K.moved (u := U) (U := U.calling g mk a) (Vm.Alike.refl U.vm) q.2.2.2⟩, va_recv hK hP (ci := 3) (q0 := 5) rfl rfl, fun U hU hW => ⟨rfl, by rw [hU], by rw [hU]; exact hPc, va_K.moved hW.alike hKc⟩⟩ rfl rfl hl.1 rfl (lv_room (Nat.le_of_ble_eq_true rfl)) (dt_at dt_Rd_readEnd 42 rfl) ⟨Nat.le_of_ble_eq_true rfl, Nat.le_of_ble_eq_true rfl⟩) hS (fun x _ h9 => hF x h9) hF (fun uu t H1 locs ht hvm hw hB hz1 hk1 hS => ?_)
  rw [ht] at hB
  have hP : va_P D CLS (wT a q L R g0 g1 g2 g3 g4 g5 g6 r1.1 r1.2.1 r1.2.2.1 r1.2.2.2 g11 g12 g13 g14 g15 g16) H1 := hB
  have hD : va_D A (wT a q L R g0 g1 g2 g3 g4 g5 g6 r1.1 r1.2.1 r1.2.2.1 r1.2.2.2 g11 g12 g13 g14 g15 g16) := dD hD rfl
  have hSz : s.heap.size ≤ H1.size := hS.1
  clear hk1 hz1 hPc hF hB ht
  generalize H1 = H at hP hS hSz  ⊢
  refine lv_aload_n hx hb (dt_at dt_Rd_readEnd 43 rfl) rfl (lv_at hl 0 rfl) ?_
  refine lv_aload_n hx hb (dt_at dt_Rd_readEnd 44 rfl) rfl (lv_at hl 1 rfl) ?_
  obtain ⟨r2, h_r2, h⟩ := ob_of h
  have hPc := hP
  have hDc : va_D A (dT a) := dD (ws' := dT a) hD rfl
  have hKc := hK
  have hF := va_free (wc := dT a) hDc hS hA [0, 1, 2, 3, 4, 5, 6, 7, 8] rfl
  have hd : va_D (fun _ => True) (dT a) := hDc.weaken (fun _ _ _ _ => trivial)
  refine va_calli (va_runV (As := [.ref (a 5)]) (rest := []) ⟨hx, hb, hml, hown, hts⟩ (c_Rd_readNumber l D a q L R hd H.size  g0 g1 g2 g3 g4 g5 g6 r1.1 r1.2.1 r1.2.2.1 r1.2.2.2 g11 g12 g13 g14 g15 g16   r2 h_r2) (cwV 1 hts (gd_V (m_2 239 rfl rfl) (m_3 1 rfl rfl) (m_s 12 rfl rfl) (m_1 2 rfl rfl) (m_3 2 rfl rfl)) rfl rfl rfl (by decide +kernel) ⟨Nat.le_of_ble_eq_true rfl, Nat.le_of_ble_eq_true rfl⟩) ⟨fun a U g mk q => ⟨q.1, q.2.1, q.2.2.1, va_K.moved (u := U) (U := U.calling g mk a) (Vm.Alike.refl U.vm) q.2.2.2⟩, va_recv hK hP (ci := 2) (q0 := 3) rfl rfl, fun U hU hW => ⟨rfl, by rw [hU], by rw [hU]; exact hPc, va_K.moved hW.alike hKc⟩⟩ rfl rfl hl.1 rfl (lv_room (Nat.le_of_ble_eq_true rfl)) (dt_at dt_Rd_readEnd 45 rfl) ⟨Nat.le_of_ble_eq_true rfl, Nat.le_of_ble_eq_true rfl⟩) hS (fun x _ h9 => hF x h9) hF (fun u_r2 uu t H1 locs ht hvm hw hB hz1 hk1 hS => ?_)
  subst hw
  rw [ht] at hB
  have hP : va_P D CLS (wT a q L R g0 g1 g2 g3 g4 r2.2.1 g6 r1.1 r2.2.2.1 r2.2.2.2.1 r2.2.2.2.2 g11 g12 g13 g14 g15 g16) H1 := hB
  have hD : va_D A (wT a q L R g0 g1 g2 g3 g4 r2.2.1 g6 r1.1 r2.2.2.1 r2.2.2.2.1 r2.2.2.2.2 g11 g12 g13 g14 g15 g16) := dD hD rfl
  have hSz : s.heap.size ≤ H1.size := hS.1
  clear hk1 hz1 hPc hF hB ht
  generalize H1 = H at hP hS hSz  ⊢
  refine lv_if_eq (tgt := 96) hx hb (dt_at dt_Rd_readEnd 46 rfl) (by decide) (fun c3 => ?_) (fun c3 => ?_)
  · have h := if_p h c3
    refine lv_iconst (v := 0) hx hb (dt_at dt_Rd_readEnd 49 rfl) (by decide) ?_
    exact k_Rd_readEnd_97 hC hA hK hSt hAn   (0 : Int32) r2.2.1 r1.1 r2.2.2.1 r2.2.2.2.1 r2.2.2.2.2 H locs ls hP hD hS   (lv_sub hl [] rfl) h
  · have h := if_n h c3
    refine lv_iconst (v := 2) hx hb (dt_at dt_Rd_readEnd 47 rfl) (by decide) ?_
    refine lv_goto (tgt := 97) hx hb (dt_at dt_Rd_readEnd 48 rfl) (by decide) ?_
    exact k_Rd_readEnd_97 hC hA hK hSt hAn   (2 : Int32) r2.2.1 r1.1 r2.2.2.1 r2.2.2.2.1 r2.2.2.2.2 H locs ls hP hD hS   (lv_sub hl [] rfl) h
set_option maxRecDepth 100000 in
set_option maxHeartbeats 4000000 in
theorem k_Rd_readEnd_53 {p : Program} {l : Launch} {e : Env} {s : State} {m : MethodId} {args : Array Value} {below : List Frame} {meth : Method} {c : Code} {D : va_G} {a : Nat → Nat} {q : Nat → ClassId} {L : Nat} {R : Nat} {A : Nat → Prop} (hC : CX p s m args meth c prog_5_method_9_code 4 "OutwardTape$LiteralReader" (some .int)) (hA : ∀ x, s.heap.size ≤ x → A x) (hK : va_K D CLS (tT q) s) {n0 : Nat} {adK adV : Nat → Nat} (hSt : isS n0 adK adV s) (hAn : ∀ x, A x → n0 ≤ x) {g0 : Int32} {g1 : Int32} {g2 : Nat → Int32} {g3 : Nat → Option Nat} {g4 : Int32} {g6 : Nat → Int32} {g11 : Nat → Int32} {g12 : Int32} {g13 : Int64} {g14 : Int32} {g15 : Int32} {g16 : Nat → Int32} {r0 : Int32 × Int32 × Int32 × Int64 × Int32 × Int32} : ∀ (s0 : Int32) (g5 : Int32) (g7 : Int32) (g8 : Int64) (g9 : Int32) (g10 : Int32) (H : Heap) (locs : List Loc) (ls : Array Slot), va_P D CLS (wT a q L R g0 g1 g2 g3 g4 g5 g6 g7 g8 g9 g10 g11 g12 g13 g14 g15 g16) H → va_D A (wT a q L R g0 g1 g2 g3 g4 g5 g6 g7 g8 g9 g10 g11 g12 g13 g14 g15 g16) → va_S A s.heap H locs → lv_has ls 4 [] → f_Rd_readEnd_53  s0 g4 g5 g6 g7 g8 g9 g10 = some r0 → W p l e rm_Rd_readEnd s m args below meth c H locs 0 0 (MQ below (va_Qi (fun (r : Int32) (_ : Unit) => r = r0.1) (fun _ t => va_P D CLS (wT a q L R g0 g1 g2 g3 g4 r0.2.1 g6 r0.2.2.1 r0.2.2.2.1 r0.2.2.2.2.1 r0.2.2.2.2.2 g11 g12 g13 g14 g15 g16) t.heap) A) args s 0 0 A) (F0 m 53 ls [.int s0]) := by
  obtain ⟨hx, hb, hml, hown, hts, hr, hlocks⟩ := id hC
  intro s0 g5 g7 g8 g9 g10 H locs ls hP hD hS hl h
  rw [f_Rd_readEnd_53] at h
  have hSz : s.heap.size ≤ H.size := hS.1
  obtain rfl := os_of h
  exact W.iret (v := s0) hx hb hr (fun t ht hW => ⟨⟨_, (), rfl, rfl, (hPt hP ht)⟩, hS.F ht⟩) hS.2.2 (dt_at dt_Rd_readEnd 27 rfl)
set_option maxRecDepth 100000 in
set_option maxHeartbeats 4000000 in
theorem k_Rd_readEnd_44 {p : Program} {l : Launch} {e : Env} {s : State} {m : MethodId} {args : Array Value} {below : List Frame} {meth : Method} {c : Code} {D : va_G} {a : Nat → Nat} {q : Nat → ClassId} {L : Nat} {R : Nat} {A : Nat → Prop} (hC : CX p s m args meth c prog_5_method_9_code 4 "OutwardTape$LiteralReader" (some .int)) (hA : ∀ x, s.heap.size ≤ x → A x) (hK : va_K D CLS (tT q) s) {n0 : Nat} {adK adV : Nat → Nat} (hSt : isS n0 adK adV s) (hAn : ∀ x, A x → n0 ≤ x) {g0 : Int32} {g1 : Int32} {g2 : Nat → Int32} {g3 : Nat → Option Nat} {g4 : Int32} {g6 : Nat → Int32} {g11 : Nat → Int32} {g12 : Int32} {g13 : Int64} {g14 : Int32} {g15 : Int32} {g16 : Nat → Int32} {r0 : Int32 × Int32 × Int32 × Int64 × Int32 × Int32} : ∀ (v2 : Int32) (g5 : Int32) (g7 : Int32) (g8 : Int64) (g9 : Int32) (g10 : Int32) (H : Heap) (locs : List Loc) (ls : Array Slot), va_P D CLS (wT a q L R g0 g1 g2 g3 g4 g5 g6 g7 g8 g9 g10 g11 g12 g13 g14 g15 g16) H → va_D A (wT a q L R g0 g1 g2 g3 g4 g5 g6 g7 g8 g9 g10 g11 g12 g13 g14 g15 g16) → va_S A s.heap H locs → lv_has ls 4 [(2, .int v2)] → f_Rd_readEnd_44  v2 g4 g5 g6 g7 g8 g9 g10 = some r0 → W p l e rm_Rd_readEnd s m args below meth c H locs 0 0 (MQ below (va_Qi (fun (r : Int32) (_ : Unit) => r = r0.1) (fun _ t => va_P D CLS (wT a q L R g0 g1 g2 g3 g4 r0.2.1 g6 r0.2.2.1 r0.2.2.2.1 r0.2.2.2.2.1 r0.2.2.2.2.2 g11 g12 g13 g14 g15 g16) t.heap) A) args s 0 0 A) (F0 m 44 ls []) := by
  obtain ⟨hx, hb, hml, hown, hts, hr, hlocks⟩ := id hC
  intro v2 g5 g7 g8 g9 g10 H locs ls hP hD hS hl h
  rw [f_Rd_readEnd_44] at h
  have hSz : s.heap.size ≤ H.size := hS.1
  refine lv_iload_n hx hb (dt_at dt_Rd_readEnd 22 rfl) rfl (lv_at hl 0 rfl) ?_
  refine lv_if_eq (tgt := 52) hx hb (dt_at dt_Rd_readEnd 23 rfl) (by decide) (fun c1 => ?_) (fun c1 => ?_)
  · have h := if_p h c1
    refine lv_iconst (v := 4) hx hb (dt_at dt_Rd_readEnd 26 rfl) (by decide) ?_
    exact k_Rd_readEnd_53 hC hA hK hSt hAn   (4 : Int32) g5 g7 g8 g9 g10 H locs ls hP hD hS   (lv_sub hl [] rfl) h
  · have h := if_n h c1
    refine lv_iconst (v := 3) hx hb (dt_at dt_Rd_readEnd 24 rfl) (by decide) ?_
    refine lv_goto (tgt := 53) hx hb (dt_at dt_Rd_readEnd 25 rfl) (by decide) ?_
    exact k_Rd_readEnd_53 hC hA hK hSt hAn   (3 : Int32) g5 g7 g8 g9 g10 H locs ls hP hD hS   (lv_sub hl [] rfl) h
set_option maxRecDepth 100000 in
set_option maxHeartbeats 4000000 in
theorem k_Rd_readEnd_25 {p : Program} {l : Launch} {e : Env} {s : State} {m : MethodId} {args : Array Value} {below : List Frame} {meth : Method} {c : Code} {D : va_G} {a : Nat → Nat} {q : Nat → ClassId} {L : Nat} {R : Nat} {A : Nat → Prop} (hC : CX p s m args meth c prog_5_method_9_code 4 "OutwardTape$LiteralReader" (some .int)) (hA : ∀ x, s.heap.size ≤ x → A x) (hK : va_K D CLS (tT q) s) {n0 : Nat} {adK adV : Nat → Nat} (hSt : isS n0 adK adV s) (hAn : ∀ x, A x → n0 ≤ x) {g0 : Int32} {g1 : Int32} {g2 : Nat → Int32} {g3 : Nat → Option Nat} {g4 : Int32} {g6 : Nat → Int32} {g11 : Nat → Int32} {g12 : Int32} {g13 : Int64} {g14 : Int32} {g15 : Int32} {g16 : Nat → Int32} {r0 : Int32 × Int32 × Int32 × Int64 × Int32 × Int32} : ∀ (s0 : Int32) (v2 : Int32) (g5 : Int32) (g7 : Int32) (g8 : Int64) (g9 : Int32) (g10 : Int32) (H : Heap) (locs : List Loc) (ls : Array Slot), va_P D CLS (wT a q L R g0 g1 g2 g3 g4 g5 g6 g7 g8 g9 g10 g11 g12 g13 g14 g15 g16) H → va_D A (wT a q L R g0 g1 g2 g3 g4 g5 g6 g7 g8 g9 g10 g11 g12 g13 g14 g15 g16) → va_S A s.heap H locs → lv_has ls 4 [(0, .ref (a 3)), (1, .ref (a 5)), (2, .int v2)] → f_Rd_readEnd_25  s0 v2 g4 g5 g6 g7 g8 g9 g10 = some r0 → W p l e rm_Rd_readEnd s m args below meth c H locs 0 0 (MQ below (va_Qi (fun (r : Int32) (_ : Unit) => r = r0.1) (fun _ t => va_P D CLS (wT a q L R g0 g1 g2 g3 g4 r0.2.1 g6 r0.2.2.1 r0.2.2.2.1 r0.2.2.2.2.1 r0.2.2.2.2.2 g11 g12 g13 g14 g15 g16) t.heap) A) args s 0 0 A) (F0 m 25 ls [.int s0]) := by
  obtain ⟨hx, hb, hml, hown, hts, hr, hlocks⟩ := id hC
  intro s0 v2 g5 g7 g8 g9 g10 H locs ls hP hD hS hl h
  rw [f_Rd_readEnd_25] at h
  have hSz : s.heap.size ≤ H.size := hS.1
  refine lv_istore_n (lv' := [(3, .int s0), (0, .ref (a 3)), (1, .ref (a 5)), (2, .int v2)]) hx hb (dt_at dt_Rd_readEnd 13 rfl) rfl hl (by decide) rfl (fun ls hl => ?_)
  refine lv_aload_n hx hb (dt_at dt_Rd_readEnd 14 rfl) rfl (lv_at hl 1 rfl) ?_
  refine va_ldcS (tx := "infinity") (q := adK 3) hx hb hown (hSt.1 3 (by decide)) (dt_at dt_Rd_readEnd 15 rfl) ?_
  obtain ⟨r2, h_r2, h⟩ := ob_of h
  have hPc := hP
  have hDc : va_D A (dT a) := dD (ws' := dT a) hD rfl
  have hKc := hK
  have hF := va_free (wc := dT a) hDc hS hA [0, 1, 2, 3, 4, 5, 6, 7, 8] rfl
  have hd : va_D (fun _ => True) (dT a) := hDc.weaken (fun _ _ _ _ => trivial)
  refine va_calli (va_runV (As := [.ref (adK 3)]) (rest := []) ⟨hx, hb, hml, hown, hts⟩ (c_Rd_takeWord l D a q L R hd H.size 3 g0 g1 g2 g3 g4 g5 g6 g7 g8 g9 g10 g11 g12 g13 g14 g15 g16  n0 adK adV (fun x h9 => hAn x (hF x h9))  r2 h_r2) (cwV 1 hts (gd_V (m_2 156 rfl rfl) (m_2 158 rfl rfl) (m_s 8 rfl rfl) (m_1 2 rfl rfl) (m_2 159 rfl rfl)) rfl rfl rfl (by decide +kernel) ⟨Nat.le_of_ble_eq_true rfl, Nat.le_of_ble_eq_true rfl⟩) ⟨fun a U g mk q => ⟨q.1, q.2.1, q.2.2.1, va_K.moved (u := U) (U := U.calling g mk a) (Vm.Alike.refl U.vm) q.2.2.2.1, isS.call q.2.2.2.2⟩, va_recv hK hP (ci := 2) (q0 := 3) rfl rfl, fun U hU hW => ⟨rfl, by rw [hU], by rw [hU]; exact hPc, va_K.moved hW.alike hKc, hSt.go hS hAn hU hW⟩⟩ rfl rfl hl.1 rfl (lv_room (Nat.le_of_ble_eq_true rfl)) (dt_at dt_Rd_readEnd 16 rfl) ⟨Nat.le_of_ble_eq_true rfl, Nat.le_of_ble_eq_true rfl⟩) hS (fun x _ h9 => hF x h9) hF (fun u_r2 uu t H1 locs ht hvm hw hB hz1 hk1 hS => ?_)
  subst hw
  rw [ht] at hB
  have hP : va_P D CLS (wT a q L R g0 g1 g2 g3 g4 r2.2 g6 g7 g8 g9 g10 g11 g12 g13 g14 g15 g16) H1 := hB
  have hD : va_D A (wT a q L R g0 g1 g2 g3 g4 r2.2 g6 g7 g8 g9 g10 g11 g12 g13 g14 g15 g16) := dD hD rfl
  have hSz : s.heap.size ≤ H1.size := hS.1
  clear hk1 hz1 hPc hF hB ht
  generalize H1 = H at hP hS hSz  ⊢
  refine lv_if_ne (tgt := 44) hx hb (dt_at dt_Rd_readEnd 17 rfl) (by decide) (fun c3 => ?_) (fun c3 => ?_)
  · have h := if_n h c3
    exact k_Rd_readEnd_44 hC hA hK hSt hAn   v2 r2.2 g7 g8 g9 g10 H locs ls hP hD hS   (lv_sub hl [3] rfl) h
  · have h := if_p h c3
    refine lv_aload_n hx hb (dt_at dt_Rd_readEnd 18 rfl) rfl (lv_at hl 1 rfl) ?_
    refine va_ldcS (tx := "inf") (q := adK 4) hx hb hown (hSt.1 4 (by decide)) (dt_at dt_Rd_readEnd 19 rfl) ?_
    obtain ⟨r5, h_r5, h⟩ := ob_of h
    have hPc := hP
    have hDc : va_D A (dT a) := dD (ws' := dT a) hD rfl
    have hKc := hK
    have hF := va_free (wc := dT a) hDc hS hA [0, 1, 2, 3, 4, 5, 6, 7, 8] rfl
    have hd : va_D (fun _ => True) (dT a) := hDc.weaken (fun _ _ _ _ => trivial)
    refine va_calli (va_runV (As := [.ref (adK 4)]) (rest := []) ⟨hx, hb, hml, hown, hts⟩ (c_Rd_takeWord l D a q L R hd H.size 4 g0 g1 g2 g3 g4 r2.2 g6 g7 g8 g9 g10 g11 g12 g13 g14 g15 g16  n0 adK adV (fun x h9 => hAn x (hF x h9))  r5 h_r5) (cwV 1 hts (gd_V (m_2 156 rfl rfl) (m_2 158 rfl rfl) (m_s 8 rfl rfl) (m_1 2 rfl rfl) (m_2 159 rfl rfl)) rfl rfl rfl (by decide +kernel) ⟨Nat.le_of_ble_eq_true rfl, Nat.le_of_ble_eq_true rfl⟩) ⟨fun a U g mk q => ⟨q.1, q.2.1, q.2.2.1, va_K.moved (u := U) (U := U.calling g mk a) (Vm.Alike.refl U.vm) q.2.2.2.1, isS.call q.2.2.2.2⟩, va_recv hK hP (ci := 2) (q0 := 3) rfl rfl, fun U hU hW => ⟨rfl, by rw [hU], by rw [hU]; exact hPc, va_K.moved hW.alike hKc, hSt.go hS hAn hU hW⟩⟩ rfl rfl hl.1 rfl (lv_room (Nat.le_of_ble_eq_true rfl)) (dt_at dt_Rd_readEnd 20 rfl) ⟨Nat.le_of_ble_eq_true rfl, Nat.le_of_ble_eq_true rfl⟩) hS (fun x _ h9 => hF x h9) hF (fun u_r5 uu t H1 locs ht hvm hw hB hz1 hk1 hS => ?_)
    subst hw
    rw [ht] at hB
    have hP : va_P D CLS (wT a q L R g0 g1 g2 g3 g4 r5.2 g6 g7 g8 g9 g10 g11 g12 g13 g14 g15 g16) H1 := hB
    have hD : va_D A (wT a q L R g0 g1 g2 g3 g4 r5.2 g6 g7 g8 g9 g10 g11 g12 g13 g14 g15 g16) := dD hD rfl
    have hSz : s.heap.size ≤ H1.size := hS.1
    clear hk1 hz1 hPc hF hB ht
    generalize H1 = H at hP hS hSz  ⊢
    refine lv_if_eq (tgt := 54) hx hb (dt_at dt_Rd_readEnd 21 rfl) (by decide) (fun c6 => ?_) (fun c6 => ?_)
    · have h := if_p h c6
      refine lv_iload_n hx hb (dt_at dt_Rd_readEnd 28 rfl) rfl (lv_at hl 0 rfl) ?_
      refine lv_if_ne (tgt := 79) hx hb (dt_at dt_Rd_readEnd 29 rfl) (by decide) (fun c7 => ?_) (fun c7 => ?_)
      · have h := if_n h c7
        exact k_Rd_readEnd_79 hC hA hK hSt hAn   v2 r5.2 g7 g8 g9 g10 H locs ls hP hD hS   (lv_sub hl [1, 2, 3] rfl) h
      · have h := if_p h c7
        refine lv_aload_n hx hb (dt_at dt_Rd_readEnd 30 rfl) rfl (lv_at hl 1 rfl) ?_
        obtain ⟨r8, h_r8, h⟩ := ob_of h
        have hPc := hP
        have hDc : va_D A (dT a) := dD (ws' := dT a) hD rfl
        have hKc := hK
        have hF := va_free (wc := dT a) hDc hS hA [0, 1, 2, 3, 4, 5, 6, 7, 8] rfl
        have hd : va_D (fun _ => True) (dT a) := hDc.weaken (fun _ _ _ _ => trivial)
        refine va_calli (va_runV (As := []) (rest := []) ⟨hx, hb, hml, hown, hts⟩ (c_Rd_next l D a q L R hd H.size  g0 g1 g2 g3 g4 r5.2 g6 g7 g8 g9 g10 g11 g12 g13 g14 g15 g16   r8 h_r8) (cwV 0 hts (gd_V (m_2 104 rfl rfl) (m_2 106 rfl rfl) (m_s 5 rfl rfl) (m_1 2 rfl rfl) (m_2 107 rfl rfl)) rfl rfl rfl (by decide +kernel) ⟨Nat.le_of_ble_eq_true rfl, Nat.le_of_ble_eq_true rfl⟩) ⟨fun a U g mk q => ⟨q.1, q.2.1, q.2.2.1, va_K.moved (u := U) (U := U.calling g mk a) (Vm.Alike.refl U.vm) q.2.2.2⟩, va_recv hK hP (ci := 2) (q0 := 3) rfl rfl, fun U hU hW => ⟨rfl, by rw [hU], by rw [hU]; exact hPc, va_K.moved hW.alike hKc⟩⟩ rfl rfl hl.1 rfl (lv_room (Nat.le_of_ble_eq_true rfl)) (dt_at dt_Rd_readEnd 31 rfl) ⟨Nat.le_of_ble_eq_true rfl, Nat.le_of_ble_eq_true rfl⟩) hS (fun x _ h9 => hF x h9) hF (fun u_r8 uu t H1 locs ht hvm hw hB hz1 hk1 hS => ?_)
        obtain rfl : r8 = u_r8 := hw.symm
        rw [ht] at hB
        have hP : va_P D CLS (wT a q L R g0 g1 g2 g3 g4 r5.2 g6 g7 g8 g9 g10 g11 g12 g13 g14 g15 g16) H1 := hB
        have hD : va_D A (wT a q L R g0 g1 g2 g3 g4 r5.2 g6 g7 g8 g9 g10 g11 g12 g13 g14 g15 g16) := dD hD rfl
        have hSz : s.heap.size ≤ H1.size := hS.1
        clear hk1 hz1 hPc hF hB ht
        generalize H1 = H at hP hS hSz  ⊢
        refine lv_bipush (v := 46) hx hb (dt_at dt_Rd_readEnd 32 rfl) (by decide) ?_
        refine lv_icmp_eq (tgt := 79) hx hb (dt_at dt_Rd_readEnd 33 rfl) (by decide) (fun c9 => ?_) (fun c9 => ?_)
        · have h := if_p h c9
          exact k_Rd_readEnd_79 hC hA hK hSt hAn   v2 r5.2 g7 g8 g9 g10 H locs ls hP hD hS   (lv_sub hl [1, 2, 3] rfl) h
        · have h := if_n h c9
          refine lv_aload_n hx hb (dt_at dt_Rd_readEnd 34 rfl) rfl (lv_at hl 1 rfl) ?_
          obtain ⟨r10, h_r10, h⟩ := ob_of h
          have hPc := hP
          have hDc : va_D A (dT a) := dD (ws' := dT a) hD rfl
          have hKc := hK
          have hF := va_free (wc := dT a) hDc hS hA [0, 1, 2, 3, 4, 5, 6, 7, 8] rfl
          have hd : va_D (fun _ => True) (dT a) := hDc.weaken (fun _ _ _ _ => trivial)
          refine va_calli (va_runV (As := []) (rest := []) ⟨hx, hb, hml, hown, hts⟩ (c_Rd_next l D a q L R hd H.size  g0 g1 g2 g3 g4 r5.2 g6 g7 g8 g9 g10 g11 g12 g13 g14 g15 g16   r10 h_r10) (cwV 0 hts (gd_V (m_2 104 rfl rfl) (m_2 106 rfl rfl) (m_s 5 rfl rfl) (m_1 2 rfl rfl) (m_2 107 rfl rfl)) rfl rfl rfl (by decide +kernel) ⟨Nat.le_of_ble_eq_true rfl, Nat.le_of_ble_eq_true rfl⟩) ⟨fun a U g mk q => ⟨q.1, q.2.1, q.2.2.1, va_K.moved (u := U) (U := U.calling g mk a) (Vm.Alike.refl U.vm) q.2.2.2⟩, va_recv hK hP (ci := 2) (q0 := 3) rfl rfl, fun U hU hW => ⟨rfl, by rw [hU], by rw [hU]; exact hPc, va_K.moved hW.alike hKc⟩⟩ rfl rfl hl.1 rfl (lv_room (Nat.le_of_ble_eq_true rfl)) (dt_at dt_Rd_readEnd 35 rfl) ⟨Nat.le_of_ble_eq_true rfl, Nat.le_of_ble_eq_true rfl⟩) hS (fun x _ h9 => hF x h9) hF (fun u_r10 uu t H1 locs ht hvm hw hB hz1 hk1 hS => ?_)
          obtain rfl : r10 = u_r10 := hw.symm
          rw [ht] at hB
          have hP : va_P D CLS (wT a q L R g0 g1 g2 g3 g4 r5.2 g6 g7 g8 g9 g10 g11 g12 g13 g14 g15 g16) H1 := hB
          have hD : va_D A (wT a q L R g0 g1 g2 g3 g4 r5.2 g6 g7 g8 g9 g10 g11 g12 g13 g14 g15 g16) := dD hD rfl
          have hSz : s.heap.size ≤ H1.size := hS.1
          clear hk1 hz1 hPc hF hB ht
          generalize H1 = H at hP hS hSz  ⊢
          obtain ⟨r11, h_r11, h⟩ := ob_of h
          refine vp_callSi (W.runS (As := [.int r10]) (rest := []) ⟨hx, hb, hml, hown, hts⟩ (c_Rd_isDigit l r10 r11 h_r11) (va_cwS 1 hts (gd_S (m_2 232 rfl rfl) (m_2 233 rfl rfl) (m_1 2 rfl rfl) (m_2 234 rfl rfl)) rfl rfl rfl (by decide +kernel) ⟨Nat.le_of_ble_eq_true rfl, Nat.le_of_ble_eq_true rfl⟩) ⟨fun _ _ _ _ q => q, fun U hU hW => ⟨rfl, trivial⟩⟩ rfl rfl hl.1 rfl (lv_room (Nat.le_of_ble_eq_true rfl)) (dt_at dt_Rd_readEnd 36 rfl) ⟨Nat.le_of_ble_eq_true rfl, Nat.le_of_ble_eq_true rfl⟩) (fun u_r11 q_r11 => ?_)
          obtain rfl : r11 = u_r11 := q_r11.symm
          refine lv_if_ne (tgt := 79) hx hb (dt_at dt_Rd_readEnd 37 rfl) (by decide) (fun c12 => ?_) (fun c12 => ?_)
          · have h := if_n h c12
            exact k_Rd_readEnd_79 hC hA hK hSt hAn   v2 r5.2 g7 g8 g9 g10 H locs ls hP hD hS   (lv_sub hl [1, 2, 3] rfl) h
          · have h := if_p h c12
            refine lv_iconst (v := 1) hx hb (dt_at dt_Rd_readEnd 38 rfl) (by decide) ?_
            obtain rfl := os_of h
            exact W.iret (v := (1 : Int32)) hx hb hr (fun t ht hW => ⟨⟨_, (), rfl, rfl, (hPt hP ht)⟩, hS.F ht⟩) hS.2.2 (dt_at dt_Rd_readEnd 39 rfl)
    · have h := if_n h c6
      exact k_Rd_readEnd_44 hC hA hK hSt hAn   v2 r5.2 g7 g8 g9 g10 H locs ls hP hD hS   (lv_sub hl [3] rfl) h
set_option maxRecDepth 100000 in
set_option maxHeartbeats 4000000 in
theorem k_Rd_readEnd_20 {p : Program} {l : Launch} {e : Env} {s : State} {m : MethodId} {args : Array Value} {below : List Frame} {meth : Method} {c : Code} {D : va_G} {a : Nat → Nat} {q : Nat → ClassId} {L : Nat} {R : Nat} {A : Nat → Prop} (hC : CX p s m args meth c prog_5_method_9_code 4 "OutwardTape$LiteralReader" (some .int)) (hA : ∀ x, s.heap.size ≤ x → A x) (hK : va_K D CLS (tT q) s) {n0 : Nat} {adK adV : Nat → Nat} (hSt : isS n0 adK adV s) (hAn : ∀ x, A x → n0 ≤ x) {g0 : Int32} {g1 : Int32} {g2 : Nat → Int32} {g3 : Nat → Option Nat} {g4 : Int32} {g6 : Nat → Int32} {g11 : Nat → Int32} {g12 : Int32} {g13 : Int64} {g14 : Int32} {g15 : Int32} {g16 : Nat → Int32} {r0 : Int32 × Int32 × Int32 × Int64 × Int32 × Int32} : ∀ (v2 : Int32) (g5 : Int32) (g7 : Int32) (g8 : Int64) (g9 : Int32) (g10 : Int32) (H : Heap) (locs : List Loc) (ls : Array Slot), va_P D CLS (wT a q L R g0 g1 g2 g3 g4 g5 g6 g7 g8 g9 g10 g11 g12 g13 g14 g15 g16) H → va_D A (wT a q L R g0 g1 g2 g3 g4 g5 g6 g7 g8 g9 g10 g11 g12 g13 g14 g15 g16) → va_S A s.heap H locs → lv_has ls 4 [(0, .ref (a 3)), (1, .ref (a 5)), (2, .int v2)] → f_Rd_readEnd_20  v2 g4 g5 g6 g7 g8 g9 g10 = some r0 → W p l e rm_Rd_readEnd s m args below meth c H locs 0 0 (MQ below (va_Qi (fun (r : Int32) (_ : Unit) => r = r0.1) (fun _ t => va_P D CLS (wT a q L R g0 g1 g2 g3 g4 r0.2.1 g6 r0.2.2.1 r0.2.2.2.1 r0.2.2.2.2.1 r0.2.2.2.2.2 g11 g12 g13 g14 g15 g16) t.heap) A) args s 0 0 A) (F0 m 20 ls []) := by
  obtain ⟨hx, hb, hml, hown, hts, hr, hlocks⟩ := id hC
  intro v2 g5 g7 g8 g9 g10 H locs ls hP hD hS hl h
  rw [f_Rd_readEnd_20] at h
  have hSz : s.heap.size ≤ H.size := hS.1
  refine lv_iconst (v := 1) hx hb (dt_at dt_Rd_readEnd 10 rfl) (by decide) ?_
  refine lv_goto (tgt := 25) hx hb (dt_at dt_Rd_readEnd 11 rfl) (by decide) ?_
  exact k_Rd_readEnd_25 hC hA hK hSt hAn   (1 : Int32) v2 g5 g7 g8 g9 g10 H locs ls hP hD hS   (lv_sub hl [0, 1, 2] rfl) h
set_option maxRecDepth 100000 in
set_option maxHeartbeats 4000000 in
theorem k_Rd_readEnd_0 {p : Program} {l : Launch} {e : Env} {s : State} {m : MethodId} {args : Array Value} {below : List Frame} {meth : Method} {c : Code} {D : va_G} {a : Nat → Nat} {q : Nat → ClassId} {L : Nat} {R : Nat} {A : Nat → Prop} (hC : CX p s m args meth c prog_5_method_9_code 4 "OutwardTape$LiteralReader" (some .int)) (hA : ∀ x, s.heap.size ≤ x → A x) (hK : va_K D CLS (tT q) s) {n0 : Nat} {adK adV : Nat → Nat} (hSt : isS n0 adK adV s) (hAn : ∀ x, A x → n0 ≤ x) {g0 : Int32} {g1 : Int32} {g2 : Nat → Int32} {g3 : Nat → Option Nat} {g4 : Int32} {g6 : Nat → Int32} {g11 : Nat → Int32} {g12 : Int32} {g13 : Int64} {g14 : Int32} {g15 : Int32} {g16 : Nat → Int32} {r0 : Int32 × Int32 × Int32 × Int64 × Int32 × Int32} : ∀  (g5 : Int32) (g7 : Int32) (g8 : Int64) (g9 : Int32) (g10 : Int32) (H : Heap) (locs : List Loc) (ls : Array Slot), va_P D CLS (wT a q L R g0 g1 g2 g3 g4 g5 g6 g7 g8 g9 g10 g11 g12 g13 g14 g15 g16) H → va_D A (wT a q L R g0 g1 g2 g3 g4 g5 g6 g7 g8 g9 g10 g11 g12 g13 g14 g15 g16) → va_S A s.heap H locs → lv_has ls 4 [(0, .ref (a 3)), (1, .ref (a 5))] → f_Rd_readEnd_0  g4 g5 g6 g7 g8 g9 g10 = some r0 → W p l e rm_Rd_readEnd s m args below meth c H locs 0 0 (MQ below (va_Qi (fun (r : Int32) (_ : Unit) => r = r0.1) (fun _ t => va_P D CLS (wT a q L R g0 g1 g2 g3 g4 r0.2.1 g6 r0.2.2.1 r0.2.2.2.1 r0.2.2.2.2.1 r0.2.2.2.2.2 g11 g12 g13 g14 g15 g16) t.heap) A) args s 0 0 A) (F0 m 0 ls []) := by
  obtain ⟨hx, hb, hml, hown, hts, hr, hlocks⟩ := id hC
  intro g5 g7 g8 g9 g10 H locs ls hP hD hS hl h
  rw [f_Rd_readEnd_0] at h
  have hSz : s.heap.size ≤ H.size := hS.1
  refine lv_aload_n hx hb (dt_at dt_Rd_readEnd 0 rfl) rfl (lv_at hl 0 rfl) ?_
  refine lv_bipush (v := 45) hx hb (dt_at dt_Rd_readEnd 1 rfl) (by decide) ?_
  obtain ⟨r1, h_r1, h⟩ := ob_of h
  have hPc := hP
  have hDc : va_D A (dT a) := dD (ws' := dT a) hD rfl
  have hKc := hK
  have hF := va_free (wc := dT a) hDc hS hA [0, 1, 2, 3, 4, 5, 6, 7, 8] rfl
  have hd : va_D (fun _ => True) (dT a) := hDc.weaken (fun _ _ _ _ => trivial)
  refine va_calli (va_runV (As := [.int (45 : Int32)]) (rest := []) ⟨hx, hb, hml, hown, hts⟩ (c_Rd_take l D a q L R hd H.size (45 : Int32) g0 g1 g2 g3 g4 g5 g6 g7 g8 g9 g10 g11 g12 g13 g14 g15 g16   r1 h_r1) (cwV 1 hts (gd_V (m_2 100 rfl rfl) (m_2 102 rfl rfl) (m_s 4 rfl rfl) (m_1 2 rfl rfl) (m_2 103 rfl rfl)) rfl rfl rfl (by decide +kernel) ⟨Nat.le_of_ble_eq_true rfl, Nat.le_of_ble_eq_true rfl⟩) ⟨fun a U g mk q => ⟨q.1, q.2.1, q.2.2.1, va_K.moved (u := U) (U := U.calling g mk a) (Vm.Alike.refl U.vm) q.2.2.2⟩, va_recv hK hP (ci := 2) (q0 := 3) rfl rfl, fun U hU hW => ⟨rfl, by rw [hU], by rw [hU]; exact hPc, va_K.moved hW.alike hKc⟩⟩ rfl rfl hl.1 rfl (lv_room (Nat.le_of_ble_eq_true rfl)) (dt_at dt_Rd_readEnd 2 rfl) ⟨Nat.le_of_ble_eq_true rfl, Nat.le_of_ble_eq_true rfl⟩) hS (fun x _ h9 => hF x h9) hF (fun u_r1 uu t H1 locs ht hvm hw hB hz1 hk1 hS => ?_)
  subst hw
  rw [ht] at hB
  have hP : va_P D CLS (wT a q L R g0 g1 g2 g3 g4 r1.2 g6 g7 g8 g9 g10 g11 g12 g13 g14 g15 g16) H1 := hB
  have hD : va_D A (wT a q L R g0 g1 g2 g3 g4 r1.2 g6 g7 g8 g9 g10 g11 g12 g13 g14 g15 g16) := dD hD rfl
  have hSz : s.heap.size ≤ H1.size := hS.1
  clear hk1 hz1 hPc hF hB ht
  generalize H1 = H at hP hS hSz  ⊢
  obtain ⟨t2, e_t2, h⟩ := ol_of h
  refine lv_topi (fun u_t2 q_t2 => ?_)
  obtain rfl : t2 = u_t2 := e_t2.trans q_t2.symm
  refine lv_istore_n (lv' := [(2, .int t2), (0, .ref (a 3)), (1, .ref (a 5))]) hx hb (dt_at dt_Rd_readEnd 3 rfl) rfl hl (by decide) rfl (fun ls hl => ?_)
  refine lv_iload_n hx hb (dt_at dt_Rd_readEnd 4 rfl) rfl (lv_at hl 0 rfl) ?_
  refine lv_if_ne (tgt := 20) hx hb (dt_at dt_Rd_readEnd 5 rfl) (by decide) (fun c3 => ?_) (fun c3 => ?_)
  · have h := if_n h c3
    exact k_Rd_readEnd_20 hC hA hK hSt hAn   t2 r1.2 g7 g8 g9 g10 H locs ls hP hD hS   (lv_sub hl [1, 2, 0] rfl) h
  · have h := if_p h c3
    refine lv_aload_n hx hb (dt_at dt_Rd_readEnd 6 rfl) rfl (lv_at hl 1 rfl) ?_
    refine lv_bipush (v := 43) hx hb (dt_at dt_Rd_readEnd 7 rfl) (by decide) ?_
    obtain ⟨r4, h_r4, h⟩ := ob_of h
    have hPc := hP
    have hDc : va_D A (dT a) := dD (ws' := dT a) hD rfl
    have hKc := hK
    have hF := va_free (wc := dT a) hDc hS hA [0, 1, 2, 3, 4, 5, 6, 7, 8] rfl
    have hd : va_D (fun _ => True) (dT a) := hDc.weaken (fun _ _ _ _ => trivial)
    refine va_calli (va_runV (As := [.int (43 : Int32)]) (rest := []) ⟨hx, hb, hml, hown, hts⟩ (c_Rd_take l D a q L R hd H.size (43 : Int32) g0 g1 g2 g3 g4 r1.2 g6 g7 g8 g9 g10 g11 g12 g13 g14 g15 g16   r4 h_r4) (cwV 1 hts (gd_V (m_2 100 rfl rfl) (m_2 102 rfl rfl) (m_s 4 rfl rfl) (m_1 2 rfl rfl) (m_2 103 rfl rfl)) rfl rfl rfl (by decide +kernel) ⟨Nat.le_of_ble_eq_true rfl, Nat.le_of_ble_eq_true rfl⟩) ⟨fun a U g mk q => ⟨q.1, q.2.1, q.2.2.1, va_K.moved (u := U) (U := U.calling g mk a) (Vm.Alike.refl U.vm) q.2.2.2⟩, va_recv hK hP (ci := 2) (q0 := 3) rfl rfl, fun U hU hW => ⟨rfl, by rw [hU], by rw [hU]; exact hPc, va_K.moved hW.alike hKc⟩⟩ rfl rfl hl.1 rfl (lv_room (Nat.le_of_ble_eq_true rfl)) (dt_at dt_Rd_readEnd 8 rfl) ⟨Nat.le_of_ble_eq_true rfl, Nat.le_of_ble_eq_true rfl⟩) hS (fun x _ h9 => hF x h9) hF (fun u_r4 uu t H1 locs ht hvm hw hB hz1 hk1 hS => ?_)
    subst hw
    rw [ht] at hB
    have hP : va_P D CLS (wT a q L R g0 g1 g2 g3 g4 r4.2 g6 g7 g8 g9 g10 g11 g12 g13 g14 g15 g16) H1 := hB
    have hD : va_D A (wT a q L R g0 g1 g2 g3 g4 r4.2 g6 g7 g8 g9 g10 g11 g12 g13 g14 g15 g16) := dD hD rfl
    have hSz : s.heap.size ≤ H1.size := hS.1
    clear hk1 hz1 hPc hF hB ht
    generalize H1 = H at hP hS hSz  ⊢
    refine lv_if_eq (tgt := 24) hx hb (dt_at dt_Rd_readEnd 9 rfl) (by decide) (fun c5 => ?_) (fun c5 => ?_)
    · have h := if_p h c5
      refine lv_iconst (v := 0) hx hb (dt_at dt_Rd_readEnd 12 rfl) (by decide) ?_
      exact k_Rd_readEnd_25 hC hA hK hSt hAn   (0 : Int32) t2 r4.2 g7 g8 g9 g10 H locs ls hP hD hS   (lv_sub hl [1, 2, 0] rfl) h
    · have h := if_n h c5
      exact k_Rd_readEnd_20 hC hA hK hSt hAn   t2 r4.2 g7 g8 g9 g10 H locs ls hP hD hS   (lv_sub hl [1, 2, 0] rfl) h
set_option maxRecDepth 100000 in
set_option maxHeartbeats 4000000 in
theorem c_Rd_readEnd (l : Launch) (D : va_G) (a : Nat → Nat) (q : Nat → ClassId) (L : Nat) (R : Nat) (hd : va_D (fun _ => True) (dT a)) (sz : Nat)  (g0 : Int32) (g1 : Int32) (g2 : Nat → Int32) (g3 : Nat → Option Nat) (g4 : Int32) (g5 : Int32) (g6 : Nat → Int32) (g7 : Int32) (g8 : Int64) (g9 : Int32) (g10 : Int32) (g11 : Nat → Int32) (g12 : Int32) (g13 : Int64) (g14 : Int32) (g15 : Int32) (g16 : Nat → Int32)  (n0 : Nat) (adK adV : Nat → Nat) (hn0 : ∀ x, va_A (dT a) sz x → n0 ≤ x)  (r0 : Int32 × Int32 × Int32 × Int64 × Int32 × Int32) (h : f_Rd_readEnd g4 g5 g6 g7 g8 g9 g10 = some r0) : Met l (⟨"OutwardTape$LiteralReader", "readEnd", "(LOutwardTape$Numeral;)I"⟩ : MethodName) (WSm (⟨"OutwardTape$LiteralReader", "readEnd", "(LOutwardTape$Numeral;)I"⟩ : MethodName) prog_5_method_9_code 4 (some .int)) rm_Rd_readEnd (va_Pc [.ref (a 3), .ref (a 5)] (fun U => U.heap.size = sz ∧ va_P D CLS (wT a q L R g0 g1 g2 g3 g4 g5 g6 g7 g8 g9 g10 g11 g12 g13 g14 g15 g16) U.heap ∧ va_K D CLS (tT q) U ∧ isS n0 adK adV U)) (va_Qi (fun (r : Int32) (_ : Unit) => r = r0.1) (fun _ t => va_P D CLS (wT a q L R g0 g1 g2 g3 g4 r0.2.1 g6 r0.2.2.1 r0.2.2.2.1 r0.2.2.2.2.1 r0.2.2.2.2.2 g11 g12 g13 g14 g15 g16) t.heap) (va_A (dT a) sz)) 0 0 (va_A (dT a) sz) := by
  refine Met.ofW (cc := prog_5_method_9_code) (maxL := 4) (ret := (some .int)) (by decide) rfl ?_
  intro p e s m args below meth c s₁ B hml hv
  obtain ⟨rfl, hsz, hP, hK, hSt⟩ := hv
  subst hsz
  have hC := CX.of B hml rfl
  have hl := lv_entry [.ref (a 3), .ref (a 5)] (n := 4) (Nat.le_of_ble_eq_true rfl)
  rw [lg_entry_eq]
  generalize (lg_sl [.ref (a 3), .ref (a 5)] ++ List.replicate (4 - (lg_sl [.ref (a 3), .ref (a 5)]).length) Slot.unset).toArray = ls at hl ⊢
  have hl : lv_has ls 4 [(0, .ref (a 3)), (1, .ref (a 5))] := hl
  exact k_Rd_readEnd_0  hC (fun x h => Or.inr h) hK hSt hn0  g5 g7 g8 g9 g10   s.heap [] ls hP (dD hd.self rfl) va_S.rf   (lv_sub hl [0, 1] rfl) h
abbrev rm_Rd_takeSpaces : Room := { frames := 0, cells := 0, slots := 0, locals := 0 }
set_option maxRecDepth 100000 in
set_option maxHeartbeats 4000000 in
theorem k_Rd_takeSpaces_38 {p : Program} {l : Launch} {e : Env} {s : State} {m : MethodId} {args : Array Value} {below : List Frame} {meth : Method} {c : Code} {D : va_G} {a : Nat → Nat} {q : Nat → ClassId} {L : Nat} {R : Nat} {A : Nat → Prop} (hC : CX p s m args meth c prog_5_method_17_code 1 "OutwardTape$LiteralReader" none) (hA : ∀ x, s.heap.size ≤ x → A x) (hK : va_K D CLS (tT q) s) {g0 : Int32} {g1 : Int32} {g2 : Nat → Int32} {g3 : Nat → Option Nat} {g4 : Int32} {g6 : Nat → Int32} {g7 : Int32} {g8 : Int64} {g9 : Int32} {g10 : Int32} {g11 : Nat → Int32} {g12 : Int32} {g13 : Int64} {g14 : Int32} {g15 : Int32} {g16 : Nat → Int32} {r0 : Int32} : ∀  (g5 : Int32) (H : Heap) (locs : List Loc) (ls : Array Slot), va_P D CLS (wT a q L R g0 g1 g2 g3 g4 g5 g6 g7 g8 g9 g10 g11 g12 g13 g14 g15 g16) H → va_D A (wT a q L R g0 g1 g2 g3 g4 g5 g6 g7 g8 g9 g10 g11 g12 g13 g14 g15 g16) → va_S A s.heap H locs → lv_has ls 1 [] → f_Rd_takeSpaces_38  g4 g5 g6 = some r0 → W p l e rm_Rd_takeSpaces s m args below meth c H locs 0 0 (MQ below (va_Qv (fun _ : Unit => True) (fun _ t => va_P D CLS (wT a q L R g0 g1 g2 g3 g4 r0 g6 g7 g8 g9 g10 g11 g12 g13 g14 g15 g16) t.heap) A) args s 0 0 A) (F0 m 38 ls []) := by
  obtain ⟨hx, hb, hml, hown, hts, hr, hlocks⟩ := id hC
  intro g5 H locs ls hP hD hS hl h
  rw [f_Rd_takeSpaces_38] at h
  have hSz : s.heap.size ≤ H.size := hS.1
  obtain rfl := os_of h
  exact W.vret hx hb hr (fun t ht hW => ⟨⟨(), rfl, trivial, (hPt hP ht)⟩, hS.F ht⟩) hS.2.2 (dt_at dt_Rd_takeSpaces 19 rfl)
set_option maxRecDepth 100000 in
set_option maxHeartbeats 4000000 in
theorem k_Rd_takeSpaces_0 {p : Program} {l : Launch} {e : Env} {s : State} {m : MethodId} {args : Array Value} {below : List Frame} {meth : Method} {c : Code} {D : va_G} {a : Nat → Nat} {q : Nat → ClassId} {L : Nat} {R : Nat} {A : Nat → Prop} (hC : CX p s m args meth c prog_5_method_17_code 1 "OutwardTape$LiteralReader" none) (hA : ∀ x, s.heap.size ≤ x → A x) (hK : va_K D CLS (tT q) s) {g0 : Int32} {g1 : Int32} {g2 : Nat → Int32} {g3 : Nat → Option Nat} {g4 : Int32} {g6 : Nat → Int32} {g7 : Int32} {g8 : Int64} {g9 : Int32} {g10 : Int32} {g11 : Nat → Int32} {g12 : Int32} {g13 : Int64} {g14 : Int32} {g15 : Int32} {g16 : Nat → Int32} {r0 : Int32} : ∀ n : Nat, ∀  (g5 : Int32) (H : Heap) (locs : List Loc) (ls : Array Slot), va_P D CLS (wT a q L R g0 g1 g2 g3 g4 g5 g6 g7 g8 g9 g10 g11 g12 g13 g14 g15 g16) H → va_D A (wT a q L R g0 g1 g2 g3 g4 g5 g6 g7 g8 g9 g10 g11 g12 g13 g14 g15 g16) → va_S A s.heap H locs → lv_has ls 1 [(0, .ref (a 3))] → f_Rd_takeSpaces_0  n g4 g5 g6 = some r0 → W p l e rm_Rd_takeSpaces s m args below meth c H locs 0 0 (MQ below (va_Qv (fun _ : Unit => True) (fun _ t => va_P D CLS (wT a q L R g0 g1 g2 g3 g4 r0 g6 g7 g8 g9 g10 g11 g12 g13 g14 g15 g16) t.heap) A) args s 0 0 A) (F0 m 0 ls []) := by
  obtain ⟨hx, hb, hml, hown, hts, hr, hlocks⟩ := id hC
  intro n
  induction n with
  | zero => intro g5 H locs ls hP hD hS hl h; cases h
  | succ n ih =>
    intro g5 H locs ls hP hD hS hl h
    rw [f_Rd_takeSpaces_0] at h
    have hSz : s.heap.size ≤ H.size := hS.1
    refine lv_aload_n hx hb (dt_at dt_Rd_takeSpaces 0 rfl) rfl (lv_at hl 0 rfl) ?_
    refine va_get (D := D) (ci := 2) (v := .int g5) (C := "OutwardTape$LiteralReader") (T := T_Rd) (N := 5) hx hb hts in_Rd hown hK hP 3 rfl rfl 4 (by decide) (hts (Cond.fieldLink "OutwardTape$LiteralReader" 29 "OutwardTape$LiteralReader" "at" "I") (m_1 67 rfl rfl)) (fun _ h9 => h9) rfl (dt_at dt_Rd_takeSpaces 1 rfl) ?_
    refine lv_aload_n hx hb (dt_at dt_Rd_takeSpaces 2 rfl) rfl (lv_at hl 0 rfl) ?_
    refine va_get (D := D) (ci := 2) (v := .int g4) (C := "OutwardTape$LiteralReader") (T := T_Rd) (N := 5) hx hb hts in_Rd hown hK hP 3 rfl rfl 3 (by decide) (hts (Cond.fieldLink "OutwardTape$LiteralReader" 25 "OutwardTape$LiteralReader" "end" "I") (m_1 66 rfl rfl)) (fun _ h9 => h9) rfl (dt_at dt_Rd_takeSpaces 3 rfl) ?_
    refine lv_icmp_ge (tgt := 38) hx hb (dt_at dt_Rd_takeSpaces 4 rfl) (by decide) (fun c1 => ?_) (fun c1 => ?_)
    · have h := if_p h c1
      exact k_Rd_takeSpaces_38 hC hA hK   g5 H locs ls hP hD hS   (lv_sub hl [] rfl) h
    · have h := if_n h c1
      refine lv_aload_n hx hb (dt_at dt_Rd_takeSpaces 5 rfl) rfl (lv_at hl 0 rfl) ?_
      refine va_get (D := D) (ci := 2) (v := .ref (a 4)) (C := "OutwardTape$LiteralReader") (T := T_Rd) (N := 5) hx hb hts in_Rd hown hK hP 3 rfl rfl 2 (by decide) (hts (Cond.fieldLink "OutwardTape$LiteralReader" 21 "OutwardTape$LiteralReader" "small" "[C") (m_1 65 rfl rfl)) (fun _ h9 => h9) rfl (dt_at dt_Rd_takeSpaces 6 rfl) ?_
      refine lv_aload_n hx hb (dt_at dt_Rd_takeSpaces 7 rfl) rfl (lv_at hl 0 rfl) ?_
      refine va_get (D := D) (ci := 2) (v := .int g5) (C := "OutwardTape$LiteralReader") (T := T_Rd) (N := 5) hx hb hts in_Rd hown hK hP 3 rfl rfl 4 (by decide) (hts (Cond.fieldLink "OutwardTape$LiteralReader" 29 "OutwardTape$LiteralReader" "at" "I") (m_1 67 rfl rfl)) (fun _ h9 => h9) rfl (dt_at dt_Rd_takeSpaces 8 rfl) ?_
      obtain ⟨z2, h⟩ := og_of h
      refine va_cald hx hb hK hP 4 2 rfl rfl z2 (dt_at dt_Rd_takeSpaces 9 rfl) ?_
      refine lv_bipush (v := 32) hx hb (dt_at dt_Rd_takeSpaces 10 rfl) (by decide) ?_
      refine lv_icmp_ne (tgt := 38) hx hb (dt_at dt_Rd_takeSpaces 11 rfl) (by decide) (fun c3 => ?_) (fun c3 => ?_)
      · have h := if_n h c3
        exact k_Rd_takeSpaces_38 hC hA hK   g5 H locs ls hP hD hS   (lv_sub hl [] rfl) h
      · have h := if_p h c3
        refine lv_aload_n hx hb (dt_at dt_Rd_takeSpaces 12 rfl) rfl (lv_at hl 0 rfl) ?_
        refine lv_dup hx hb (dt_at dt_Rd_takeSpaces 13 rfl) rfl ?_
        refine va_get (D := D) (ci := 2) (v := .int g5) (C := "OutwardTape$LiteralReader") (T := T_Rd) (N := 5) hx hb hts in_Rd hown hK hP 3 rfl rfl 4 (by decide) (hts (Cond.fieldLink "OutwardTape$LiteralReader" 29 "OutwardTape$LiteralReader" "at" "I") (m_1 67 rfl rfl)) (fun _ h9 => h9) rfl (dt_at dt_Rd_takeSpaces 14 rfl) ?_
        refine lv_iconst (v := 1) hx hb (dt_at dt_Rd_takeSpaces 15 rfl) (by decide) ?_
        refine lv_iadd hx hb (dt_at dt_Rd_takeSpaces 16 rfl) ?_
        obtain ⟨t4, e_t4, h⟩ := ol_of h
        refine lv_topi (fun u_t4 q_t4 => ?_)
        obtain rfl : t4 = u_t4 := e_t4.trans q_t4.symm
        refine va_put (D := D) (ci := 2) (v := .int t4) (ty := .int) (C := "OutwardTape$LiteralReader") (T := T_Rd) (N := 5) hx hb hts in_Rd ty_Rd tk_Rd nm_Rd hown hK hP hD hS 3 rfl rfl 4 (by decide) (hts (Cond.fieldLink "OutwardTape$LiteralReader" 29 "OutwardTape$LiteralReader" "at" "I") (m_1 67 rfl rfl)) (fun _ h9 => h9) rfl (by decide +kernel) rfl rfl (Nat.le_of_ble_eq_true rfl) (dt_at dt_Rd_takeSpaces 17 rfl) (fun H locs hP hD hS => ?_)
        have hP : va_P D CLS (wT a q L R g0 g1 g2 g3 g4 t4 g6 g7 g8 g9 g10 g11 g12 g13 g14 g15 g16) H := hP
        have hD : va_D A (wT a q L R g0 g1 g2 g3 g4 t4 g6 g7 g8 g9 g10 g11 g12 g13 g14 g15 g16) := hD
        refine lv_goto (tgt := 0) hx hb (dt_at dt_Rd_takeSpaces 18 rfl) (by decide) ?_
        exact ih t4 H locs ls hP hD hS   (lv_sub hl [0] rfl) h
set_option maxRecDepth 100000 in
set_option maxHeartbeats 4000000 in
theorem c_Rd_takeSpaces (l : Launch) (D : va_G) (a : Nat → Nat) (q : Nat → ClassId) (L : Nat) (R : Nat) (hd : va_D (fun _ => True) (dT a)) (sz : Nat)  (g0 : Int32) (g1 : Int32) (g2 : Nat → Int32) (g3 : Nat → Option Nat) (g4 : Int32) (g5 : Int32) (g6 : Nat → Int32) (g7 : Int32) (g8 : Int64) (g9 : Int32) (g10 : Int32) (g11 : Nat → Int32) (g12 : Int32) (g13 : Int64) (g14 : Int32) (g15 : Int32) (g16 : Nat → Int32)   (r0 : Int32) (h : f_Rd_takeSpaces g4 g5 g6 = some r0) : Met l (⟨"OutwardTape$LiteralReader", "takeSpaces", "()V"⟩ : MethodName) (WSm (⟨"OutwardTape$LiteralReader", "takeSpaces", "()V"⟩ : MethodName) prog_5_method_17_code 1 none) rm_Rd_takeSpaces (va_Pc [.ref (a 3)] (fun U => U.heap.size = sz ∧ va_P D CLS (wT a q L R g0 g1 g2 g3 g4 g5 g6 g7 g8 g9 g10 g11 g12 g13 g14 g15 g16) U.heap ∧ va_K D CLS (tT q) U)) (va_Qv (fun _ : Unit => True) (fun _ t => va_P D CLS (wT a q L R g0 g1 g2 g3 g4 r0 g6 g7 g8 g9 g10 g11 g12 g13 g14 g15 g16) t.heap) (va_A (dT a) sz)) 0 0 (va_A (dT a) sz) := by
  refine Met.ofW (cc := prog_5_method_17_code) (maxL := 1) (ret := none) (by decide) rfl ?_
  intro p e s m args below meth c s₁ B hml hv
  obtain ⟨rfl, hsz, hP, hK⟩ := hv
  subst hsz
  have hC := CX.of B hml rfl
  have hl := lv_entry [.ref (a 3)] (n := 1) (Nat.le_of_ble_eq_true rfl)
  rw [lg_entry_eq]
  generalize (lg_sl [.ref (a 3)] ++ List.replicate (1 - (lg_sl [.ref (a 3)]).length) Slot.unset).toArray = ls at hl ⊢
  have hl : lv_has ls 1 [(0, .ref (a 3))] := hl
  exact k_Rd_takeSpaces_0  hC (fun x h => Or.inr h) hK 5000  g5   s.heap [] ls hP (dD hd.self rfl) va_S.rf   (lv_sub hl [0] rfl) h
abbrev rm_Rd_takeClosing : Room := { frames := 2, cells := 0, slots := 0, locals := 41 }
set_option maxRecDepth 100000 in
set_option maxHeartbeats 4000000 in
theorem k_Rd_takeClosing_0 {p : Program} {l : Launch} {e : Env} {s : State} {m : MethodId} {args : Array Value} {below : List Frame} {meth : Method} {c : Code} {D : va_G} {a : Nat → Nat} {q : Nat → ClassId} {L : Nat} {R : Nat} {A : Nat → Prop} (hC : CX p s m args meth c prog_5_method_18_code 1 "OutwardTape$LiteralReader" (some .boolean)) (hA : ∀ x, s.heap.size ≤ x → A x) (hK : va_K D CLS (tT q) s) {g0 : Int32} {g1 : Int32} {g2 : Nat → Int32} {g3 : Nat → Option Nat} {g4 : Int32} {g6 : Nat → Int32} {g7 : Int32} {g8 : Int64} {g9 : Int32} {g10 : Int32} {g11 : Nat → Int32} {g12 : Int32} {g13 : Int64} {g14 : Int32} {g15 : Int32} {g16 : Nat → Int32} {r0 : Int32 × Int32} : ∀  (g5 : Int32) (H : Heap) (locs : List Loc) (ls : Array Slot), va_P D CLS (wT a q L R g0 g1 g2 g3 g4 g5 g6 g7 g8 g9 g10 g11 g12 g13 g14 g15 g16) H → va_D A (wT a q L R g0 g1 g2 g3 g4 g5 g6 g7 g8 g9 g10 g11 g12 g13 g14 g15 g16) → va_S A s.heap H locs → lv_has ls 1 [(0, .ref (a 3))] → f_Rd_takeClosing_0  g4 g5 g6 = some r0 → W p l e rm_Rd_takeClosing s m args below meth c H locs 0 0 (MQ below (va_Qi (fun (r : Int32) (_ : Unit) => r = r0.1) (fun _ t => va_P D CLS (wT a q L R g0 g1 g2 g3 g4 r0.2 g6 g7 g8 g9 g10 g11 g12 g13 g14 g15 g16) t.heap) A) args s 0 0 A) (F0 m 0 ls []) := by
  obtain ⟨hx, hb, hml, hown, hts, hr, hlocks⟩ := id hC
  intro g5 H locs ls hP hD hS hl h
  rw [f_Rd_takeClosing_0] at h
  have hSz : s.heap.size ≤ H.size := hS.1
  refine lv_aload_n hx hb (dt_at dt_Rd_takeClosing 0 rfl) rfl (lv_at hl 0 rfl) ?_
  obtain ⟨r1, h_r1, h⟩ := ob_of h
  have hPc := hP
  have hDc : va_D A (dT a) := dD (ws' := dT a) hD rfl
  have hKc := hK
  have hF := va_free (wc := dT a) hDc hS hA [0, 1, 2, 3, 4, 5, 6, 7, 8] rfl
  have hd : va_D (fun _ => True) (dT a) := hDc.weaken (fun _ _ _ _ => trivial)
  refine va_callv (va_runV (As := []) (rest := []) ⟨hx, hb, hml, hown, hts⟩ (c_Rd_takeSpaces l D a q L R hd H.size  g0 g1 g2 g3 g4 g5 g6 g7 g8 g9 g10 g11 g12 g13 g14 g15 g16   r1 h_r1) (cwV 0 hts (gd_V (m_2 143 rfl rfl) (m_2 145 rfl rfl) (m_s 6 rfl rfl) (m_1 2 rfl rfl) (m_2 146 rfl rfl)) rfl rfl rfl (by decide +kernel) ⟨Nat.le_of_ble_eq_true rfl, Nat.le_of_ble_eq_true rfl⟩) ⟨fun a U g mk q => ⟨q.1, q.2.1, q.2.2.1, va_K.moved (u := U) (U := U.calling g mk a) (Vm.Alike.refl U.vm) q.2.2.2⟩, va_recv hK hP (ci := 2) (q0 := 3) rfl rfl, fun U hU hW => ⟨rfl, by rw [hU], by rw [hU]; exact hPc, va_K.moved hW.alike hKc⟩⟩ rfl rfl hl.1 rfl (lv_room (Nat.le_of_ble_eq_true rfl)) (dt_at dt_Rd_takeClosing 1 rfl) ⟨Nat.le_of_ble_eq_true rfl, Nat.le_of_ble_eq_true rfl⟩) hS (fun x _ h9 => hF x h9) hF (fun uu t H1 locs ht hvm hw hB hz1 hk1 hS => ?_)
  rw [ht] at hB
  have hP : va_P D CLS (wT a q L R g0 g1 g2 g3 g4 r1 g6 g7 g8 g9 g10 g11 g12 g13 g14 g15 g16) H1 := hB
  have hD : va_D A (wT a q L R g0 g1 g2 g3 g4 r1 g6 g7 g8 g9 g10 g11 g12 g13 g14 g15 g16) := dD hD rfl
  have hSz : s.heap.size ≤ H1.size := hS.1
  clear hk1 hz1 hPc hF hB ht
  generalize H1 = H at hP hS hSz  ⊢
  refine lv_aload_n hx hb (dt_at dt_Rd_takeClosing 2 rfl) rfl (lv_at hl 0 rfl) ?_
  refine lv_bipush (v := 93) hx hb (dt_at dt_Rd_takeClosing 3 rfl) (by decide) ?_
  obtain ⟨r2, h_r2, h⟩ := ob_of h
  have hPc := hP
  have hDc : va_D A (dT a) := dD (ws' := dT a) hD rfl
  have hKc := hK
  have hF := va_free (wc := dT a) hDc hS hA [0, 1, 2, 3, 4, 5, 6, 7, 8] rfl
  have hd : va_D (fun _ => True) (dT a) := hDc.weaken (fun _ _ _ _ => trivial)
  refine va_calli (va_runV (As := [.int (93 : Int32)]) (rest := []) ⟨hx, hb, hml, hown, hts⟩ (c_Rd_take l D a q L R hd H.size (93 : Int32) g0 g1 g2 g3 g4 r1 g6 g7 g8 g9 g10 g11 g12 g13 g14 g15 g16   r2 h_r2) (cwV 1 hts (gd_V (m_2 100 rfl rfl) (m_2 102 rfl rfl) (m_s 4 rfl rfl) (m_1 2 rfl rfl) (m_2 103 rfl rfl)) rfl rfl rfl (by decide +kernel) ⟨Nat.le_of_ble_eq_true rfl, Nat.le_of_ble_eq_true rfl⟩) ⟨fun a U g mk q => ⟨q.1, q.2.1, q.2.2.1, va_K.moved (u := U) (U := U.calling g mk a) (Vm.Alike.refl U.vm) q.2.2.2⟩, va_recv hK hP (ci := 2) (q0 := 3) rfl rfl, fun U hU hW => ⟨rfl, by rw [hU], by rw [hU]; exact hPc, va_K.moved hW.alike hKc⟩⟩ rfl rfl hl.1 rfl (lv_room (Nat.le_of_ble_eq_true rfl)) (dt_at dt_Rd_takeClosing 4 rfl) ⟨Nat.le_of_ble_eq_true rfl, Nat.le_of_ble_eq_true rfl⟩) hS (fun x _ h9 => hF x h9) hF (fun u_r2 uu t H1 locs ht hvm hw hB hz1 hk1 hS => ?_)
  subst hw
  rw [ht] at hB
  have hP : va_P D CLS (wT a q L R g0 g1 g2 g3 g4 r2.2 g6 g7 g8 g9 g10 g11 g12 g13 g14 g15 g16) H1 := hB
  have hD : va_D A (wT a q L R g0 g1 g2 g3 g4 r2.2 g6 g7 g8 g9 g10 g11 g12 g13 g14 g15 g16) := dD hD rfl
  have hSz : s.heap.size ≤ H1.size := hS.1
  clear hk1 hz1 hPc hF hB ht
  generalize H1 = H at hP hS hSz  ⊢
  obtain ⟨hz, h⟩ := og_of h
  obtain rfl := os_of h
  exact W.zret (v := r2.1) (ty := .boolean) hx hb hr (j_z_nar hz) (fun t ht hW => ⟨⟨_, (), rfl, rfl, (hPt hP ht)⟩, hS.F ht⟩) hS.2.2 (dt_at dt_Rd_takeClosing 5 rfl)
set_option maxRecDepth 100000 in
set_option maxHeartbeats 4000000 in
theorem c_Rd_takeClosing (l : Launch) (D : va_G) (a : Nat → Nat) (q : Nat → ClassId) (L : Nat) (R : Nat) (hd : va_D (fun _ => True) (dT a)) (sz : Nat)  (g0 : Int32) (g1 : Int32) (g2 : Nat → Int32) (g3 : Nat → Option Nat) (g4 : Int32) (g5 : Int32) (g6 : Nat → Int32) (g7 : Int32) (g8 : Int64) (g9 : Int32) (g10 : Int32) (g11 : Nat → Int32) (g12 : Int32) (g13 : Int64) (g14 : Int32) (g15 : Int32) (g16 : Nat → Int32)   (r0 : Int32 × Int32) (h : f_Rd_takeClosing g4 g5 g6 = some r0) : Met l (⟨"OutwardTape$LiteralReader", "takeClosing", "()Z"⟩ : MethodName) (WSm (⟨"OutwardTape$LiteralReader", "takeClosing", "()Z"⟩ : MethodName) prog_5_method_18_code 1 (some .boolean)) rm_Rd_takeClosing (va_Pc [.ref (a 3)] (fun U => U.heap.size = sz ∧ va_P D CLS (wT a q L R g0 g1 g2 g3 g4 g5 g6 g7 g8 g9 g10 g11 g12 g13 g14 g15 g16) U.heap ∧ va_K D CLS (tT q) U)) (va_Qi (fun (r : Int32) (_ : Unit) => r = r0.1) (fun _ t => va_P D CLS (wT a q L R g0 g1 g2 g3 g4 r0.2 g6 g7 g8 g9 g10 g11 g12 g13 g14 g15 g16) t.heap) (va_A (dT a) sz)) 0 0 (va_A (dT a) sz) := by
  refine Met.ofW (cc := prog_5_method_18_code) (maxL := 1) (ret := (some .boolean)) (by decide) rfl ?_
  intro p e s m args below meth c s₁ B hml hv
  obtain ⟨rfl, hsz, hP, hK⟩ := hv
  subst hsz
  have hC := CX.of B hml rfl
  have hl := lv_entry [.ref (a 3)] (n := 1) (Nat.le_of_ble_eq_true rfl)
  rw [lg_entry_eq]
  generalize (lg_sl [.ref (a 3)] ++ List.replicate (1 - (lg_sl [.ref (a 3)]).length) Slot.unset).toArray = ls at hl ⊢
  have hl : lv_has ls 1 [(0, .ref (a 3))] := hl
  exact k_Rd_takeClosing_0  hC (fun x h => Or.inr h) hK  g5   s.heap [] ls hP (dD hd.self rfl) va_S.rf   (lv_sub hl [0] rfl) h
abbrev rm_Rd_readEnds : Room := { frames := 6, cells := 2, slots := 6, locals := 141 }
set_option maxRecDepth 100000 in
set_option maxHeartbeats 4000000 in
theorem k_Rd_readEnds_168 {p : Program} {l : Launch} {e : Env} {s : State} {m : MethodId} {args : Array Value} {below : List Frame} {meth : Method} {c : Code} {D : va_G} {a : Nat → Nat} {q : Nat → ClassId} {PL : List Nat} {A : Nat → Prop} (hC : CX p s m args meth c prog_5_method_7_code 5 "OutwardTape$LiteralReader" (some (.object "OutwardTape$Cell"))) (hA : ∀ x, s.heap.size ≤ x → A x) (hK : va_K D CLS (tT q) s) {n0 : Nat} {adK adV : Nat → Nat} (hSt : isS n0 adK adV s) (hAn : ∀ x, A x → n0 ≤ x) {g0 : Int32} {g1 : Int32} {g2 : Nat → Int32} {g3 : Nat → Option Nat} {g4 : Int32} {g6 : Nat → Int32} {r0 : Int64 × Int64 × Int32 × Int32 × Int32 × Int64 × Int32 × Int32 × (Nat → Int32) × Int32 × Int64 × Int32 × Int32 × (Nat → Int32)} : ∀ (s0 : Int64) (s1 : Int64) (g5 : Int32) (g7 : Int32) (g8 : Int64) (g9 : Int32) (g10 : Int32) (g11 : Nat → Int32) (g12 : Int32) (g13 : Int64) (g14 : Int32) (g15 : Int32) (g16 : Nat → Int32) (H : Heap) (locs : List Loc) (ls : Array Slot), va_P D CLS (wT a q (a 5) (a 7) g0 g1 g2 g3 g4 g5 g6 g7 g8 g9 g10 g11 g12 g13 g14 g15 g16) H → va_D A (wT a q (a 5) (a 7) g0 g1 g2 g3 g4 g5 g6 g7 g8 g9 g10 g11 g12 g13 g14 g15 g16) → va_S A s.heap H locs → lv_has ls 5 [] → f_Rd_readEnds_168  s0 s1 g4 g5 g6 g7 g8 g9 g10 g11 g12 g13 g14 g15 g16 = some r0 → W p l e rm_Rd_readEnds s m args below meth c H locs 0 0 (MQ below (va_Qr (fun _ : Unit => True) (fun _ ra t => (va_P D CLS (wT a q (a 5) (a 7) g0 g1 g2 g3 g4 r0.2.2.2.1 g6 r0.2.2.2.2.1 r0.2.2.2.2.2.1 r0.2.2.2.2.2.2.1 r0.2.2.2.2.2.2.2.1 r0.2.2.2.2.2.2.2.2.1 r0.2.2.2.2.2.2.2.2.2.1 r0.2.2.2.2.2.2.2.2.2.2.1 r0.2.2.2.2.2.2.2.2.2.2.2.1 r0.2.2.2.2.2.2.2.2.2.2.2.2.1 r0.2.2.2.2.2.2.2.2.2.2.2.2.2) t.heap) ∧ isC D t.heap ra r0.1 r0.2.1 r0.2.2.1 ∧ (s.heap.size ≤ ra ∨ ra ∈ PL)) A) args s 2 6 A) (F0 m 168 ls [.long s0, .long s1]) := by
  obtain ⟨hx, hb, hml, hown, hts, hr, hlocks⟩ := id hC
  intro s0 s1 g5 g7 g8 g9 g10 g11 g12 g13 g14 g15 g16 H locs ls hP hD hS hl h
  rw [f_Rd_readEnds_168] at h
  have hSz : s.heap.size ≤ H.size := hS.1
  obtain ⟨r1, h_r1, h⟩ := ob_of h
  have hPc : va_P D CLS (wE a q) H := fun k q h => by simp [wE] at h
  have hd : va_D (fun _ => True) (dE a) := dE_D a
  have hKc : va_K D CLS (tE q) s := hK.sub (tys' := []) [] rfl
  have hF : ∀ x, va_A (dE a) H.size x → A x := fun x h9 => h9.elim (fun ⟨k, e, h⟩ => by simp [dE] at h) (fun g => hA _ (Nat.le_trans hS.1 g))
  refine va_callr (va_runS (As := [.long s1, .long s0]) (rest := []) ⟨hx, hb, hml, hown, hts⟩ (c_Rd_strongest l D a q  hd H.size s1 s0    r1 h_r1) (va_cwS 2 hts (gd_S (m_2 215 rfl rfl) (m_2 216 rfl rfl) (m_1 2 rfl rfl) (m_2 217 rfl rfl)) rfl rfl rfl (by decide +kernel) ⟨Nat.le_of_ble_eq_true rfl, Nat.le_of_ble_eq_true rfl⟩) ⟨fun a U g mk q => ⟨q.1, q.2.1, q.2.2.1, va_K.moved (u := U) (U := U.calling g mk a) (Vm.Alike.refl U.vm) q.2.2.2⟩, fun U hU hW => ⟨rfl, by rw [hU], by rw [hU]; exact hPc, va_K.moved hW.alike hKc⟩⟩ rfl rfl hl.1 rfl (lv_room (Nat.le_of_ble_eq_true rfl)) (dt_at dt_Rd_readEnds 85 rfl) ⟨Nat.le_of_ble_eq_true rfl, Nat.le_of_ble_eq_true rfl⟩) hS (fun x _ h9 => hF x h9) hF (fun uu y_r1 t H1 locs ht hvm hw hB hz1 hk1 hS => ?_)
  obtain ⟨hB, hc_r1, hq_r1⟩ := hB
  rw [ht] at hc_r1
  have hn_r1 : nin (dT a) y_r1 := nin_cases hq_r1 (fun g9 => nin_big hP g9 rfl) (fun g9 => by simp at g9)
  have hf_r1 : s.heap.size ≤ y_r1 ∨ y_r1 ∈ PL := nin_cases hq_r1 (fun g9 => Or.inl (Nat.le_trans hSz g9)) (fun g9 => by simp at g9)
  clear hq_r1
  have hP := va_P.kept hP (fun k q hq => hk1 _ (hP k q hq).lt (not_AE (hP k q hq).lt))
  refine W.widen (k := 2) (n := 6) (Nat.le_of_ble_eq_true rfl) (Nat.le_of_ble_eq_true rfl) ?_
  have hSz : s.heap.size ≤ H1.size := hS.1
  clear hk1 hz1 hPc hF hB ht
  generalize H1 = H at hP hS hSz hc_r1 ⊢
  obtain rfl := os_of h
  exact W.aret hx hb hr (Or.inl ⟨_, rfl⟩) (Or.inr ⟨_, rfl⟩) (fun t ht hW => ⟨⟨(), y_r1, rfl, trivial, (hPt hP ht), hPt hc_r1 ht, hf_r1⟩, hS.F ht⟩) hS.2.2 (dt_at dt_Rd_readEnds 86 rfl)
set_option maxRecDepth 100000 in
set_option maxHeartbeats 4000000 in
theorem k_Rd_readEnds_147 {p : Program} {l : Launch} {e : Env} {s : State} {m : MethodId} {args : Array Value} {below : List Frame} {meth : Method} {c : Code} {D : va_G} {a : Nat → Nat} {q : Nat → ClassId} {PL : List Nat} {A : Nat → Prop} (hC : CX p s m args meth c prog_5_method_7_code 5 "OutwardTape$LiteralReader" (some (.object "OutwardTape$Cell"))) (hA : ∀ x, s.heap.size ≤ x → A x) (hK : va_K D CLS (tT q) s) {n0 : Nat} {adK adV : Nat → Nat} (hSt : isS n0 adK adV s) (hAn : ∀ x, A x → n0 ≤ x) {g0 : Int32} {g1 : Int32} {g2 : Nat → Int32} {g3 : Nat → Option Nat} {g4 : Int32} {g6 : Nat → Int32} {r0 : Int64 × Int64 × Int32 × Int32 × Int32 × Int64 × Int32 × Int32 × (Nat → Int32) × Int32 × Int64 × Int32 × Int32 × (Nat → Int32)} : ∀ (s0 : Int64) (v2 : Int32) (g5 : Int32) (g7 : Int32) (g8 : Int64) (g9 : Int32) (g10 : Int32) (g11 : Nat → Int32) (g12 : Int32) (g13 : Int64) (g14 : Int32) (g15 : Int32) (g16 : Nat → Int32) (H : Heap) (locs : List Loc) (ls : Array Slot), va_P D CLS (wT a q (a 5) (a 7) g0 g1 g2 g3 g4 g5 g6 g7 g8 g9 g10 g11 g12 g13 g14 g15 g16) H → va_D A (wT a q (a 5) (a 7) g0 g1 g2 g3 g4 g5 g6 g7 g8 g9 g10 g11 g12 g13 g14 g15 g16) → va_S A s.heap H locs → lv_has ls 5 [(0, .ref (a 3)), (2, .int v2)] → f_Rd_readEnds_147  s0 v2 g4 g5 g6 g7 g8 g9 g10 g11 g12 g13 g14 g15 g16 = some r0 → W p l e rm_Rd_readEnds s m args below meth c H locs 0 0 (MQ below (va_Qr (fun _ : Unit => True) (fun _ ra t => (va_P D CLS (wT a q (a 5) (a 7) g0 g1 g2 g3 g4 r0.2.2.2.1 g6 r0.2.2.2.2.1 r0.2.2.2.2.2.1 r0.2.2.2.2.2.2.1 r0.2.2.2.2.2.2.2.1 r0.2.2.2.2.2.2.2.2.1 r0.2.2.2.2.2.2.2.2.2.1 r0.2.2.2.2.2.2.2.2.2.2.1 r0.2.2.2.2.2.2.2.2.2.2.2.1 r0.2.2.2.2.2.2.2.2.2.2.2.2.1 r0.2.2.2.2.2.2.2.2.2.2.2.2.2) t.heap) ∧ isC D t.heap ra r0.1 r0.2.1 r0.2.2.1 ∧ (s.heap.size ≤ ra ∨ ra ∈ PL)) A) args s 2 6 A) (F0 m 147 ls [.long s0]) := by
  obtain ⟨hx, hb, hml, hown, hts, hr, hlocks⟩ := id hC
  intro s0 v2 g5 g7 g8 g9 g10 g11 g12 g13 g14 g15 g16 H locs ls hP hD hS hl h
  rw [f_Rd_readEnds_147] at h
  have hSz : s.heap.size ≤ H.size := hS.1
  refine lv_lstore_n (lv' := [(3, .long s0), (0, .ref (a 3)), (2, .int v2)]) hx hb (dt_at dt_Rd_readEnds 74 rfl) rfl hl (by decide) rfl (fun ls hl => ?_)
  refine lv_lload_n hx hb (dt_at dt_Rd_readEnds 75 rfl) rfl (lv_at hl 0 rfl) ?_
  refine lv_iload_n hx hb (dt_at dt_Rd_readEnds 76 rfl) rfl (lv_at hl 2 rfl) ?_
  refine lv_iconst (v := 2) hx hb (dt_at dt_Rd_readEnds 77 rfl) (by decide) ?_
  refine lv_icmp_ne (tgt := 165) hx hb (dt_at dt_Rd_readEnds 78 rfl) (by decide) (fun c1 => ?_) (fun c1 => ?_)
  · have h := if_n h c1
    refine lv_ldc2 (v := 9218868437227405312) hx hb hown (hts (Cond.constantLong "OutwardTape$LiteralReader" 116 (9218868437227405312)) (m_2 214 rfl rfl)) (dt_at dt_Rd_readEnds 84 rfl) ?_
    exact k_Rd_readEnds_168 (PL := PL) hC hA hK hSt hAn   (9218868437227405312 : Int64) s0 g5 g7 g8 g9 g10 g11 g12 g13 g14 g15 g16 H locs ls hP hD hS   (lv_sub hl [] rfl) h
  · have h := if_p h c1
    refine lv_aload_n hx hb (dt_at dt_Rd_readEnds 79 rfl) rfl (lv_at hl 1 rfl) ?_
    refine va_get (D := D) (ci := 2) (v := .ref (a 7)) (C := "OutwardTape$LiteralReader") (T := T_Rd) (N := 5) hx hb hts in_Rd hown hK hP 3 rfl rfl 1 (by decide) (hts (Cond.fieldLink "OutwardTape$LiteralReader" 18 "OutwardTape$LiteralReader" "right" "LOutwardTape$Numeral;") (m_1 64 rfl rfl)) (fun _ h9 => h9) rfl (dt_at dt_Rd_readEnds 80 rfl) ?_
    refine lv_iconst (v := 1) hx hb (dt_at dt_Rd_readEnds 81 rfl) (by decide) ?_
    obtain ⟨r2, h_r2, h⟩ := ob_of h
    have hPc : va_P D CLS (wT (sw_a a) (sw_q q) (a 5) (a 7) g0 g1 g2 g3 g4 g5 g6 g12 g13 g14 g15 g16 g7 g8 g9 g10 g11) H := hP.sub [0, 1, 2, 3, 4, 7, 8, 5, 6] rfl
    have hDc : va_D A (dT (sw_a a)) := (dD (ws' := dT a) hD rfl).sub [0, 1, 2, 3, 4, 7, 8, 5, 6] (by decide) rfl
    have hKc : va_K D CLS (tT (sw_q q)) s := hK.sub [0, 1, 2, 4, 3] rfl
    have hF := va_free (wc := dT (sw_a a)) hDc hS hA [0, 1, 2, 3, 4, 5, 6, 7, 8] rfl
    have hd : va_D (fun _ => True) (dT (sw_a a)) := hDc.weaken (fun _ _ _ _ => trivial)
    refine va_calll (va_runV (As := [.int (1 : Int32)]) (rest := [.long s0]) ⟨hx, hb, hml, hown, hts⟩ (c_Num_rounded l D (sw_a a) (sw_q q) (a 5) (a 7) hd H.size (1 : Int32) g0 g1 g2 g3 g4 g5 g6 g12 g13 g14 g15 g16 g7 g8 g9 g10 g11   r2 h_r2) (cwV 1 hts (gd_V (m_3 20 rfl rfl) (m_3 21 rfl rfl) (m_3 22 rfl rfl) (m_1 3 rfl rfl) (m_3 23 rfl rfl)) rfl rfl rfl (by decide +kernel) ⟨Nat.le_of_ble_eq_true rfl, Nat.le_of_ble_eq_true rfl⟩) ⟨fun a U g mk q => ⟨q.1, q.2.1, q.2.2.1, va_K.moved (u := U) (U := U.calling g mk a) (Vm.Alike.refl U.vm) q.2.2.2⟩, va_recv hK hP (ci := 3) (q0 := 7) rfl rfl, fun U hU hW => ⟨rfl, by rw [hU], by rw [hU]; exact hPc, va_K.moved hW.alike hKc⟩⟩ rfl rfl hl.1 rfl (lv_room (Nat.le_of_ble_eq_true rfl)) (dt_at dt_Rd_readEnds 82 rfl) ⟨Nat.le_of_ble_eq_true rfl, Nat.le_of_ble_eq_true rfl⟩) hS (fun x _ h9 => hF x h9) hF (fun u_r2 uu t H1 locs ht hvm hw hB hz1 hk1 hS => ?_)
    subst hw
    rw [ht] at hB
    have hP : va_P D CLS (wT a q (a 5) (a 7) g0 g1 g2 g3 g4 g5 g6 g7 g8 g9 g10 g11 g12 g13 g14 g15 r2.2) H1 := hB.sub [0, 1, 2, 3, 4, 7, 8, 5, 6] rfl
    have hD : va_D A (wT a q (a 5) (a 7) g0 g1 g2 g3 g4 g5 g6 g7 g8 g9 g10 g11 g12 g13 g14 g15 r2.2) := dD hD rfl
    have hSz : s.heap.size ≤ H1.size := hS.1
    clear hk1 hz1 hPc hF hB ht
    generalize H1 = H at hP hS hSz  ⊢
    refine lv_goto (tgt := 168) hx hb (dt_at dt_Rd_readEnds 83 rfl) (by decide) ?_
    exact k_Rd_readEnds_168 (PL := PL) hC hA hK hSt hAn   r2.1 s0 g5 g7 g8 g9 g10 g11 g12 g13 g14 g15 r2.2 H locs ls hP hD hS   (lv_sub hl [] rfl) h
set_option maxRecDepth 100000 in
set_option maxHeartbeats 4000000 in
theorem k_Rd_readEnds_128 {p : Program} {l : Launch} {e : Env} {s : State} {m : MethodId} {args : Array Value} {below : List Frame} {meth : Method} {c : Code} {D : va_G} {a : Nat → Nat} {q : Nat → ClassId} {PL : List Nat} {A : Nat → Prop} (hC : CX p s m args meth c prog_5_method_7_code 5 "OutwardTape$LiteralReader" (some (.object "OutwardTape$Cell"))) (hA : ∀ x, s.heap.size ≤ x → A x) (hK : va_K D CLS (tT q) s) {n0 : Nat} {adK adV : Nat → Nat} (hSt : isS n0 adK adV s) (hAn : ∀ x, A x → n0 ≤ x) {g0 : Int32} {g1 : Int32} {g2 : Nat → Int32} {g3 : Nat → Option Nat} {g4 : Int32} {g6 : Nat → Int32} {r0 : Int64 × Int64 × Int32 × Int32 × Int32 × Int64 × Int32 × Int32 × (Nat → Int32) × Int32 × Int64 × Int32 × Int32 × (Nat → Int32)} : ∀ (v1 : Int32) (v2 : Int32) (g5 : Int32) (g7 : Int32) (g8 : Int64) (g9 : Int32) (g10 : Int32) (g11 : Nat → Int32) (g12 : Int32) (g13 : Int64) (g14 : Int32) (g15 : Int32) (g16 : Nat → Int32) (H : Heap) (locs : List Loc) (ls : Array Slot), va_P D CLS (wT a q (a 5) (a 7) g0 g1 g2 g3 g4 g5 g6 g7 g8 g9 g10 g11 g12 g13 g14 g15 g16) H → va_D A (wT a q (a 5) (a 7) g0 g1 g2 g3 g4 g5 g6 g7 g8 g9 g10 g11 g12 g13 g14 g15 g16) → va_S A s.heap H locs → lv_has ls 5 [(0, .ref (a 3)), (1, .int v1), (2, .int v2)] → f_Rd_readEnds_128  v1 v2 g4 g5 g6 g7 g8 g9 g10 g11 g12 g13 g14 g15 g16 = some r0 → W p l e rm_Rd_readEnds s m args below meth c H locs 0 0 (MQ below (va_Qr (fun _ : Unit => True) (fun _ ra t => (va_P D CLS (wT a q (a 5) (a 7) g0 g1 g2 g3 g4 r0.2.2.2.1 g6 r0.2.2.2.2.1 r0.2.2.2.2.2.1 r0.2.2.2.2.2.2.1 r0.2.2.2.2.2.2.2.1 r0.2.2.2.2.2.2.2.2.1 r0.2.2.2.2.2.2.2.2.2.1 r0.2.2.2.2.2.2.2.2.2.2.1 r0.2.2.2.2.2.2.2.2.2.2.2.1 r0.2.2.2.2.2.2.2.2.2.2.2.2.1 r0.2.2.2.2.2.2.2.2.2.2.2.2.2) t.heap) ∧ isC D t.heap ra r0.1 r0.2.1 r0.2.2.1 ∧ (s.heap.size ≤ ra ∨ ra ∈ PL)) A) args s 2 6 A) (F0 m 128 ls []) := by
  obtain ⟨hx, hb, hml, hown, hts, hr, hlocks⟩ := id hC
  intro v1 v2 g5 g7 g8 g9 g10 g11 g12 g13 g14 g15 g16 H locs ls hP hD hS hl h
  rw [f_Rd_readEnds_128] at h
  have hSz : s.heap.size ≤ H.size := hS.1
  refine lv_iload_n hx hb (dt_at dt_Rd_readEnds 65 rfl) rfl (lv_at hl 1 rfl) ?_
  refine lv_iconst (v := 2) hx hb (dt_at dt_Rd_readEnds 66 rfl) (by decide) ?_
  refine lv_icmp_ne (tgt := 144) hx hb (dt_at dt_Rd_readEnds 67 rfl) (by decide) (fun c1 => ?_) (fun c1 => ?_)
  · have h := if_n h c1
    refine lv_ldc2 (v := -9218868437227405312) hx hb hown (hts (Cond.constantLong "OutwardTape$LiteralReader" 114 (-9218868437227405312)) (m_2 213 rfl rfl)) (dt_at dt_Rd_readEnds 73 rfl) ?_
    exact k_Rd_readEnds_147 (PL := PL) hC hA hK hSt hAn   (-9218868437227405312 : Int64) v2 g5 g7 g8 g9 g10 g11 g12 g13 g14 g15 g16 H locs ls hP hD hS   (lv_sub hl [0, 2] rfl) h
  · have h := if_p h c1
    refine lv_aload_n hx hb (dt_at dt_Rd_readEnds 68 rfl) rfl (lv_at hl 0 rfl) ?_
    refine va_get (D := D) (ci := 2) (v := .ref (a 5)) (C := "OutwardTape$LiteralReader") (T := T_Rd) (N := 5) hx hb hts in_Rd hown hK hP 3 rfl rfl 0 (by decide) (hts (Cond.fieldLink "OutwardTape$LiteralReader" 12 "OutwardTape$LiteralReader" "left" "LOutwardTape$Numeral;") (m_1 63 rfl rfl)) (fun _ h9 => h9) rfl (dt_at dt_Rd_readEnds 69 rfl) ?_
    refine lv_iconst (v := -1) hx hb (dt_at dt_Rd_readEnds 70 rfl) (by decide) ?_
    obtain ⟨r2, h_r2, h⟩ := ob_of h
    have hPc := hP
    have hDc : va_D A (dT a) := dD (ws' := dT a) hD rfl
    have hKc := hK
    have hF := va_free (wc := dT a) hDc hS hA [0, 1, 2, 3, 4, 5, 6, 7, 8] rfl
    have hd : va_D (fun _ => True) (dT a) := hDc.weaken (fun _ _ _ _ => trivial)
    refine va_calll (va_runV (As := [.int (-1 : Int32)]) (rest := []) ⟨hx, hb, hml, hown, hts⟩ (c_Num_rounded l D a q (a 5) (a 7) hd H.size (-1 : Int32) g0 g1 g2 g3 g4 g5 g6 g7 g8 g9 g10 g11 g12 g13 g14 g15 g16   r2 h_r2) (cwV 1 hts (gd_V (m_3 20 rfl rfl) (m_3 21 rfl rfl) (m_3 22 rfl rfl) (m_1 3 rfl rfl) (m_3 23 rfl rfl)) rfl rfl rfl (by decide +kernel) ⟨Nat.le_of_ble_eq_true rfl, Nat.le_of_ble_eq_true rfl⟩) ⟨fun a U g mk q => ⟨q.1, q.2.1, q.2.2.1, va_K.moved (u := U) (U := U.calling g mk a) (Vm.Alike.refl U.vm) q.2.2.2⟩, va_recv hK hP (ci := 3) (q0 := 5) rfl rfl, fun U hU hW => ⟨rfl, by rw [hU], by rw [hU]; exact hPc, va_K.moved hW.alike hKc⟩⟩ rfl rfl hl.1 rfl (lv_room (Nat.le_of_ble_eq_true rfl)) (dt_at dt_Rd_readEnds 71 rfl) ⟨Nat.le_of_ble_eq_true rfl, Nat.le_of_ble_eq_true rfl⟩) hS (fun x _ h9 => hF x h9) hF (fun u_r2 uu t H1 locs ht hvm hw hB hz1 hk1 hS => ?_)
    subst hw
    rw [ht] at hB
    have hP : va_P D CLS (wT a q (a 5) (a 7) g0 g1 g2 g3 g4 g5 g6 g7 g8 g9 g10 r2.2 g12 g13 g14 g15 g16) H1 := hB
    have hD : va_D A (wT a q (a 5) (a 7) g0 g1 g2 g3 g4 g5 g6 g7 g8 g9 g10 r2.2 g12 g13 g14 g15 g16) := dD hD rfl
    have hSz : s.heap.size ≤ H1.size := hS.1
    clear hk1 hz1 hPc hF hB ht
    generalize H1 = H at hP hS hSz  ⊢
    refine lv_goto (tgt := 147) hx hb (dt_at dt_Rd_readEnds 72 rfl) (by decide) ?_
    exact k_Rd_readEnds_147 (PL := PL) hC hA hK hSt hAn   r2.1 v2 g5 g7 g8 g9 g10 r2.2 g12 g13 g14 g15 g16 H locs ls hP hD hS   (lv_sub hl [0, 2] rfl) h
set_option maxRecDepth 100000 in
set_option maxHeartbeats 4000000 in
theorem k_Rd_readEnds_96 {p : Program} {l : Launch} {e : Env} {s : State} {m : MethodId} {args : Array Value} {below : List Frame} {meth : Method} {c : Code} {D : va_G} {a : Nat → Nat} {q : Nat → ClassId} {PL : List Nat} {A : Nat → Prop} (hC : CX p s m args meth c prog_5_method_7_code 5 "OutwardTape$LiteralReader" (some (.object "OutwardTape$Cell"))) (hA : ∀ x, s.heap.size ≤ x → A x) (hK : va_K D CLS (tT q) s) {n0 : Nat} {adK adV : Nat → Nat} (hSt : isS n0 adK adV s) (hAn : ∀ x, A x → n0 ≤ x) {g0 : Int32} {g1 : Int32} {g2 : Nat → Int32} {g3 : Nat → Option Nat} {g4 : Int32} {g6 : Nat → Int32} {r0 : Int64 × Int64 × Int32 × Int32 × Int32 × Int64 × Int32 × Int32 × (Nat → Int32) × Int32 × Int64 × Int32 × Int32 × (Nat → Int32)} : ∀  (g5 : Int32) (g7 : Int32) (g8 : Int64) (g9 : Int32) (g10 : Int32) (g11 : Nat → Int32) (g12 : Int32) (g13 : Int64) (g14 : Int32) (g15 : Int32) (g16 : Nat → Int32) (H : Heap) (locs : List Loc) (ls : Array Slot), va_P D CLS (wT a q (a 5) (a 7) g0 g1 g2 g3 g4 g5 g6 g7 g8 g9 g10 g11 g12 g13 g14 g15 g16) H → va_D A (wT a q (a 5) (a 7) g0 g1 g2 g3 g4 g5 g6 g7 g8 g9 g10 g11 g12 g13 g14 g15 g16) → va_S A s.heap H locs → lv_has ls 5 [] → f_Rd_readEnds_96  g4 g5 g6 g7 g8 g9 g10 g11 g12 g13 g14 g15 g16 = some r0 → W p l e rm_Rd_readEnds s m args below meth c H locs 0 0 (MQ below (va_Qr (fun _ : Unit => True) (fun _ ra t => (va_P D CLS (wT a q (a 5) (a 7) g0 g1 g2 g3 g4 r0.2.2.2.1 g6 r0.2.2.2.2.1 r0.2.2.2.2.2.1 r0.2.2.2.2.2.2.1 r0.2.2.2.2.2.2.2.1 r0.2.2.2.2.2.2.2.2.1 r0.2.2.2.2.2.2.2.2.2.1 r0.2.2.2.2.2.2.2.2.2.2.1 r0.2.2.2.2.2.2.2.2.2.2.2.1 r0.2.2.2.2.2.2.2.2.2.2.2.2.1 r0.2.2.2.2.2.2.2.2.2.2.2.2.2) t.heap) ∧ isC D t.heap ra r0.1 r0.2.1 r0.2.2.1 ∧ (s.heap.size ≤ ra ∨ ra ∈ PL)) A) args s 2 6 A) (F0 m 96 ls []) := by
  obtain ⟨hx, hb, hml, hown, hts, hr, hlocks⟩ := id hC
  intro g5 g7 g8 g9 g10 g11 g12 g13 g14 g15 g16 H locs ls hP hD hS hl h
  rw [f_Rd_readEnds_96] at h
  have hSz : s.heap.size ≤ H.size := hS.1
  obtain ⟨r1, h_r1, h⟩ := ob_of h
  have hPc : va_P D CLS (wE a q) H := fun k q h => by simp [wE] at h
  have hd : va_D (fun _ => True) (dE a) := dE_D a
  have hKc : va_K D CLS (tE q) s := hK.sub (tys' := []) [] rfl
  have hF : ∀ x, va_A (dE a) H.size x → A x := fun x h9 => h9.elim (fun ⟨k, e, h⟩ => by simp [dE] at h) (fun g => hA _ (Nat.le_trans hS.1 g))
  refine va_callr (va_runS (As := []) (rest := []) ⟨hx, hb, hml, hown, hts⟩ (c_Cell_ill l D a q  hd H.size     r1 h_r1) (va_cwS 0 hts (gd_S (m_2 108 rfl rfl) (m_2 109 rfl rfl) (m_1 10 rfl rfl) (m_2 110 rfl rfl)) rfl rfl rfl (by decide +kernel) ⟨Nat.le_of_ble_eq_true rfl, Nat.le_of_ble_eq_true rfl⟩) ⟨fun a U g mk q => ⟨q.1, q.2.1, q.2.2.1, va_K.moved (u := U) (U := U.calling g mk a) (Vm.Alike.refl U.vm) q.2.2.2⟩, fun U hU hW => ⟨rfl, by rw [hU], by rw [hU]; exact hPc, va_K.moved hW.alike hKc⟩⟩ rfl rfl hl.1 rfl (lv_room (Nat.le_of_ble_eq_true rfl)) (dt_at dt_Rd_readEnds 49 rfl) ⟨Nat.le_of_ble_eq_true rfl, Nat.le_of_ble_eq_true rfl⟩) hS (fun x _ h9 => hF x h9) hF (fun uu y_r1 t H1 locs ht hvm hw hB hz1 hk1 hS => ?_)
  obtain ⟨hB, hc_r1, hq_r1⟩ := hB
  rw [ht] at hc_r1
  have hn_r1 : nin (dT a) y_r1 := nin_cases hq_r1 (fun g9 => nin_big hP g9 rfl) (fun g9 => by simp at g9)
  have hf_r1 : s.heap.size ≤ y_r1 ∨ y_r1 ∈ PL := nin_cases hq_r1 (fun g9 => Or.inl (Nat.le_trans hSz g9)) (fun g9 => by simp at g9)
  clear hq_r1
  have hP := va_P.kept hP (fun k q hq => hk1 _ (hP k q hq).lt (not_AE (hP k q hq).lt))
  refine W.widen (k := 1) (n := 3) (Nat.le_of_ble_eq_true rfl) (Nat.le_of_ble_eq_true rfl) ?_
  have hSz : s.heap.size ≤ H1.size := hS.1
  clear hk1 hz1 hPc hF hB ht
  generalize H1 = H at hP hS hSz hc_r1 ⊢
  obtain rfl := os_of h
  refine W.widen (k := 2) (n := 6) (Nat.le_of_ble_eq_true rfl) (Nat.le_of_ble_eq_true rfl) ?_
  exact W.aret hx hb hr (Or.inl ⟨_, rfl⟩) (Or.inr ⟨_, rfl⟩) (fun t ht hW => ⟨⟨(), y_r1, rfl, trivial, (hPt hP ht), hPt hc_r1 ht, hf_r1⟩, hS.F ht⟩) hS.2.2 (dt_at dt_Rd_readEnds 50 rfl)
set_option maxRecDepth 100000 in
set_option maxHeartbeats 4000000 in
theorem k_Rd_readEnds_63 {p : Program} {l : Launch} {e : Env} {s : State} {m : MethodId} {args : Array Value} {below : List Frame} {meth : Method} {c : Code} {D : va_G} {a : Nat → Nat} {q : Nat → ClassId} {PL : List Nat} {A : Nat → Prop} (hC : CX p s m args meth c prog_5_method_7_code 5 "OutwardTape$LiteralReader" (some (.object "OutwardTape$Cell"))) (hA : ∀ x, s.heap.size ≤ x → A x) (hK : va_K D CLS (tT q) s) {n0 : Nat} {adK adV : Nat → Nat} (hSt : isS n0 adK adV s) (hAn : ∀ x, A x → n0 ≤ x) {g0 : Int32} {g1 : Int32} {g2 : Nat → Int32} {g3 : Nat → Option Nat} {g4 : Int32} {g6 : Nat → Int32} {r0 : Int64 × Int64 × Int32 × Int32 × Int32 × Int64 × Int32 × Int32 × (Nat → Int32) × Int32 × Int64 × Int32 × Int32 × (Nat → Int32)} : ∀  (g5 : Int32) (g7 : Int32) (g8 : Int64) (g9 : Int32) (g10 : Int32) (g11 : Nat → Int32) (g12 : Int32) (g13 : Int64) (g14 : Int32) (g15 : Int32) (g16 : Nat → Int32) (H : Heap) (locs : List Loc) (ls : Array Slot), va_P D CLS (wT a q (a 5) (a 7) g0 g1 g2 g3 g4 g5 g6 g7 g8 g9 g10 g11 g12 g13 g14 g15 g16) H → va_D A (wT a q (a 5) (a 7) g0 g1 g2 g3 g4 g5 g6 g7 g8 g9 g10 g11 g12 g13 g14 g15 g16) → va_S A s.heap H locs → lv_has ls 5 [] → f_Rd_readEnds_63  g4 g5 g6 g7 g8 g9 g10 g11 g12 g13 g14 g15 g16 = some r0 → W p l e rm_Rd_readEnds s m args below meth c H locs 0 0 (MQ below (va_Qr (fun _ : Unit => True) (fun _ ra t => (va_P D CLS (wT a q (a 5) (a 7) g0 g1 g2 g3 g4 r0.2.2.2.1 g6 r0.2.2.2.2.1 r0.2.2.2.2.2.1 r0.2.2.2.2.2.2.1 r0.2.2.2.2.2.2.2.1 r0.2.2.2.2.2.2.2.2.1 r0.2.2.2.2.2.2.2.2.2.1 r0.2.2.2.2.2.2.2.2.2.2.1 r0.2.2.2.2.2.2.2.2.2.2.2.1 r0.2.2.2.2.2.2.2.2.2.2.2.2.1 r0.2.2.2.2.2.2.2.2.2.2.2.2.2) t.heap) ∧ isC D t.heap ra r0.1 r0.2.1 r0.2.2.1 ∧ (s.heap.size ≤ ra ∨ ra ∈ PL)) A) args s 2 6 A) (F0 m 63 ls []) := by
  obtain ⟨hx, hb, hml, hown, hts, hr, hlocks⟩ := id hC
  intro g5 g7 g8 g9 g10 g11 g12 g13 g14 g15 g16 H locs ls hP hD hS hl h
  rw [f_Rd_readEnds_63] at h
  have hSz : s.heap.size ≤ H.size := hS.1
  obtain ⟨r1, h_r1, h⟩ := ob_of h
  have hPc : va_P D CLS (wE a q) H := fun k q h => by simp [wE] at h
  have hd : va_D (fun _ => True) (dE a) := dE_D a
  have hKc : va_K D CLS (tE q) s := hK.sub (tys' := []) [] rfl
  have hF : ∀ x, va_A (dE a) H.size x → A x := fun x h9 => h9.elim (fun ⟨k, e, h⟩ => by simp [dE] at h) (fun g => hA _ (Nat.le_trans hS.1 g))
  refine va_callr (va_runS (As := []) (rest := []) ⟨hx, hb, hml, hown, hts⟩ (c_Cell_ill l D a q  hd H.size     r1 h_r1) (va_cwS 0 hts (gd_S (m_2 108 rfl rfl) (m_2 109 rfl rfl) (m_1 10 rfl rfl) (m_2 110 rfl rfl)) rfl rfl rfl (by decide +kernel) ⟨Nat.le_of_ble_eq_true rfl, Nat.le_of_ble_eq_true rfl⟩) ⟨fun a U g mk q => ⟨q.1, q.2.1, q.2.2.1, va_K.moved (u := U) (U := U.calling g mk a) (Vm.Alike.refl U.vm) q.2.2.2⟩, fun U hU hW => ⟨rfl, by rw [hU], by rw [hU]; exact hPc, va_K.moved hW.alike hKc⟩⟩ rfl rfl hl.1 rfl (lv_room (Nat.le_of_ble_eq_true rfl)) (dt_at dt_Rd_readEnds 32 rfl) ⟨Nat.le_of_ble_eq_true rfl, Nat.le_of_ble_eq_true rfl⟩) hS (fun x _ h9 => hF x h9) hF (fun uu y_r1 t H1 locs ht hvm hw hB hz1 hk1 hS => ?_)
  obtain ⟨hB, hc_r1, hq_r1⟩ := hB
  rw [ht] at hc_r1
  have hn_r1 : nin (dT a) y_r1 := nin_cases hq_r1 (fun g9 => nin_big hP g9 rfl) (fun g9 => by simp at g9)
  have hf_r1 : s.heap.size ≤ y_r1 ∨ y_r1 ∈ PL := nin_cases hq_r1 (fun g9 => Or.inl (Nat.le_trans hSz g9)) (fun g9 => by simp at g9)
  clear hq_r1
  have hP := va_P.kept hP (fun k q hq => hk1 _ (hP k q hq).lt (not_AE (hP k q hq).lt))
  refine W.widen (k := 1) (n := 3) (Nat.le_of_ble_eq_true rfl) (Nat.le_of_ble_eq_true rfl) ?_
  have hSz : s.heap.size ≤ H1.size := hS.1
  clear hk1 hz1 hPc hF hB ht
  generalize H1 = H at hP hS hSz hc_r1 ⊢
  obtain rfl := os_of h
  refine W.widen (k := 2) (n := 6) (Nat.le_of_ble_eq_true rfl) (Nat.le_of_ble_eq_true rfl) ?_
  exact W.aret hx hb hr (Or.inl ⟨_, rfl⟩) (Or.inr ⟨_, rfl⟩) (fun t ht hW => ⟨⟨(), y_r1, rfl, trivial, (hPt hP ht), hPt hc_r1 ht, hf_r1⟩, hS.F ht⟩) hS.2.2 (dt_at dt_Rd_readEnds 33 rfl)
set_option maxRecDepth 100000 in
set_option maxHeartbeats 4000000 in
theorem k_Rd_readEnds_41 {p : Program} {l : Launch} {e : Env} {s : State} {m : MethodId} {args : Array Value} {below : List Frame} {meth : Method} {c : Code} {D : va_G} {a : Nat → Nat} {q : Nat → ClassId} {PL : List Nat} {A : Nat → Prop} (hC : CX p s m args meth c prog_5_method_7_code 5 "OutwardTape$LiteralReader" (some (.object "OutwardTape$Cell"))) (hA : ∀ x, s.heap.size ≤ x → A x) (hK : va_K D CLS (tT q) s) {n0 : Nat} {adK adV : Nat → Nat} (hSt : isS n0 adK adV s) (hAn : ∀ x, A x → n0 ≤ x) {g0 : Int32} {g1 : Int32} {g2 : Nat → Int32} {g3 : Nat → Option Nat} {g4 : Int32} {g6 : Nat → Int32} {r0 : Int64 × Int64 × Int32 × Int32 × Int32 × Int64 × Int32 × Int32 × (Nat → Int32) × Int32 × Int64 × Int32 × Int32 × (Nat → Int32)} : ∀ (v1 : Int32) (g5 : Int32) (g7 : Int32) (g8 : Int64) (g9 : Int32) (g10 : Int32) (g11 : Nat → Int32) (g12 : Int32) (g13 : Int64) (g14 : Int32) (g15 : Int32) (g16 : Nat → Int32) (H : Heap) (locs : List Loc) (ls : Array Slot), va_P D CLS (wT a q (a 5) (a 7) g0 g1 g2 g3 g4 g5 g6 g7 g8 g9 g10 g11 g12 g13 g14 g15 g16) H → va_D A (wT a q (a 5) (a 7) g0 g1 g2 g3 g4 g5 g6 g7 g8 g9 g10 g11 g12 g13 g14 g15 g16) → va_S A s.heap H locs → lv_has ls 5 [(0, .ref (a 3)), (1, .int v1)] → f_Rd_readEnds_41  v1 g4 g5 g6 g7 g8 g9 g10 g11 g12 g13 g14 g15 g16 = some r0 → W p l e rm_Rd_readEnds s m args below meth c H locs 0 0 (MQ below (va_Qr (fun _ : Unit => True) (fun _ ra t => (va_P D CLS (wT a q (a 5) (a 7) g0 g1 g2 g3 g4 r0.2.2.2.1 g6 r0.2.2.2.2.1 r0.2.2.2.2.2.1 r0.2.2.2.2.2.2.1 r0.2.2.2.2.2.2.2.1 r0.2.2.2.2.2.2.2.2.1 r0.2.2.2.2.2.2.2.2.2.1 r0.2.2.2.2.2.2.2.2.2.2.1 r0.2.2.2.2.2.2.2.2.2.2.2.1 r0.2.2.2.2.2.2.2.2.2.2.2.2.1 r0.2.2.2.2.2.2.2.2.2.2.2.2.2) t.heap) ∧ isC D t.heap ra r0.1 r0.2.1 r0.2.2.1 ∧ (s.heap.size ≤ ra ∨ ra ∈ PL)) A) args s 2 6 A) (F0 m 41 ls []) := by
  obtain ⟨hx, hb, hml, hown, hts, hr, hlocks⟩ := id hC
  intro v1 g5 g7 g8 g9 g10 g11 g12 g13 g14 g15 g16 H locs ls hP hD hS hl h
  rw [f_Rd_readEnds_41] at h
  have hSz : s.heap.size ≤ H.size := hS.1
  refine lv_aload_n hx hb (dt_at dt_Rd_readEnds 21 rfl) rfl (lv_at hl 0 rfl) ?_
  obtain ⟨r1, h_r1, h⟩ := ob_of h
  have hPc := hP
  have hDc : va_D A (dT a) := dD (ws' := dT a) hD rfl
  have hKc := hK
  have hF := va_free (wc := dT a) hDc hS hA [0, 1, 2, 3, 4, 5, 6, 7, 8] rfl
  have hd : va_D (fun _ => True) (dT a) := hDc.weaken (fun _ _ _ _ => trivial)
  refine va_callv (va_runV (As := []) (rest := []) ⟨hx, hb, hml, hown, hts⟩ (c_Rd_takeSpaces l D a q (a 5) (a 7) hd H.size  g0 g1 g2 g3 g4 g5 g6 g7 g8 g9 g10 g11 g12 g13 g14 g15 g16   r1 h_r1) (cwV 0 hts (gd_V (m_2 143 rfl rfl) (m_2 145 rfl rfl) (m_s 6 rfl rfl) (m_1 2 rfl rfl) (m_2 146 rfl rfl)) rfl rfl rfl (by decide +kernel) ⟨Nat.le_of_ble_eq_true rfl, Nat.le_of_ble_eq_true rfl⟩) ⟨fun a U g mk q => ⟨q.1, q.2.1, q.2.2.1, va_K.moved (u := U) (U := U.calling g mk a) (Vm.Alike.refl U.vm) q.2.2.2⟩, va_recv hK hP (ci := 2) (q0 := 3) rfl rfl, fun U hU hW => ⟨rfl, by rw [hU], by rw [hU]; exact hPc, va_K.moved hW.alike hKc⟩⟩ rfl rfl hl.1 rfl (lv_room (Nat.le_of_ble_eq_true rfl)) (dt_at dt_Rd_readEnds 22 rfl) ⟨Nat.le_of_ble_eq_true rfl, Nat.le_of_ble_eq_true rfl⟩) hS (fun x _ h9 => hF x h9) hF (fun uu t H1 locs ht hvm hw hB hz1 hk1 hS => ?_)
  rw [ht] at hB
  have hP : va_P D CLS (wT a q (a 5) (a 7) g0 g1 g2 g3 g4 r1 g6 g7 g8 g9 g10 g11 g12 g13 g14 g15 g16) H1 := hB
  have hD : va_D A (wT a q (a 5) (a 7) g0 g1 g2 g3 g4 r1 g6 g7 g8 g9 g10 g11 g12 g13 g14 g15 g16) := dD hD rfl
  have hSz : s.heap.size ≤ H1.size := hS.1
  clear hk1 hz1 hPc hF hB ht
  generalize H1 = H at hP hS hSz  ⊢
  refine lv_iload_n hx hb (dt_at dt_Rd_readEnds 23 rfl) rfl (lv_at hl 1 rfl) ?_
  refine lv_if_eq (tgt := 63) hx hb (dt_at dt_Rd_readEnds 24 rfl) (by decide) (fun c2 => ?_) (fun c2 => ?_)
  · have h := if_p h c2
    exact k_Rd_readEnds_63 (PL := PL) hC hA hK hSt hAn   r1 g7 g8 g9 g10 g11 g12 g13 g14 g15 g16 H locs ls hP hD hS   (lv_sub hl [] rfl) h
  · have h := if_n h c2
    refine lv_iload_n hx hb (dt_at dt_Rd_readEnds 25 rfl) rfl (lv_at hl 1 rfl) ?_
    refine lv_iconst (v := 4) hx hb (dt_at dt_Rd_readEnds 26 rfl) (by decide) ?_
    refine lv_icmp_eq (tgt := 63) hx hb (dt_at dt_Rd_readEnds 27 rfl) (by decide) (fun c3 => ?_) (fun c3 => ?_)
    · have h := if_p h c3
      exact k_Rd_readEnds_63 (PL := PL) hC hA hK hSt hAn   r1 g7 g8 g9 g10 g11 g12 g13 g14 g15 g16 H locs ls hP hD hS   (lv_sub hl [] rfl) h
    · have h := if_n h c3
      refine lv_aload_n hx hb (dt_at dt_Rd_readEnds 28 rfl) rfl (lv_at hl 0 rfl) ?_
      refine lv_bipush (v := 44) hx hb (dt_at dt_Rd_readEnds 29 rfl) (by decide) ?_
      obtain ⟨r4, h_r4, h⟩ := ob_of h
      have hPc := hP
      have hDc : va_D A (dT a) := dD (ws' := dT a) hD rfl
      have hKc := hK
      have hF := va_free (wc := dT a) hDc hS hA [0, 1, 2, 3, 4, 5, 6, 7, 8] rfl
      have hd : va_D (fun _ => True) (dT a) := hDc.weaken (fun _ _ _ _ => trivial)
      refine va_calli (va_runV (As := [.int (44 : Int32)]) (rest := []) ⟨hx, hb, hml, hown, hts⟩ (c_Rd_take l D a q (a 5) (a 7) hd H.size (44 : Int32) g0 g1 g2 g3 g4 r1 g6 g7 g8 g9 g10 g11 g12 g13 g14 g15 g16   r4 h_r4) (cwV 1 hts (gd_V (m_2 100 rfl rfl) (m_2 102 rfl rfl) (m_s 4 rfl rfl) (m_1 2 rfl rfl) (m_2 103 rfl rfl)) rfl rfl rfl (by decide +kernel) ⟨Nat.le_of_ble_eq_true rfl, Nat.le_of_ble_eq_true rfl⟩) ⟨fun a U g mk q => ⟨q.1, q.2.1, q.2.2.1, va_K.moved (u := U) (U := U.calling g mk a) (Vm.Alike.refl U.vm) q.2.2.2⟩, va_recv hK hP (ci := 2) (q0 := 3) rfl rfl, fun U hU hW => ⟨rfl, by rw [hU], by rw [hU]; exact hPc, va_K.moved hW.alike hKc⟩⟩ rfl rfl hl.1 rfl (lv_room (Nat.le_of_ble_eq_true rfl)) (dt_at dt_Rd_readEnds 30 rfl) ⟨Nat.le_of_ble_eq_true rfl, Nat.le_of_ble_eq_true rfl⟩) hS (fun x _ h9 => hF x h9) hF (fun u_r4 uu t H1 locs ht hvm hw hB hz1 hk1 hS => ?_)
      subst hw
      rw [ht] at hB
      have hP : va_P D CLS (wT a q (a 5) (a 7) g0 g1 g2 g3 g4 r4.2 g6 g7 g8 g9 g10 g11 g12 g13 g14 g15 g16) H1 := hB
      have hD : va_D A (wT a q (a 5) (a 7) g0 g1 g2 g3 g4 r4.2 g6 g7 g8 g9 g10 g11 g12 g13 g14 g15 g16) := dD hD rfl
      have hSz : s.heap.size ≤ H1.size := hS.1
      clear hk1 hz1 hPc hF hB ht
      generalize H1 = H at hP hS hSz  ⊢
      refine lv_if_ne (tgt := 67) hx hb (dt_at dt_Rd_readEnds 31 rfl) (by decide) (fun c5 => ?_) (fun c5 => ?_)
      · have h := if_n h c5
        refine lv_aload_n hx hb (dt_at dt_Rd_readEnds 34 rfl) rfl (lv_at hl 0 rfl) ?_
        obtain ⟨r6, h_r6, h⟩ := ob_of h
        have hPc := hP
        have hDc : va_D A (dT a) := dD (ws' := dT a) hD rfl
        have hKc := hK
        have hF := va_free (wc := dT a) hDc hS hA [0, 1, 2, 3, 4, 5, 6, 7, 8] rfl
        have hd : va_D (fun _ => True) (dT a) := hDc.weaken (fun _ _ _ _ => trivial)
        refine va_callv (va_runV (As := []) (rest := []) ⟨hx, hb, hml, hown, hts⟩ (c_Rd_takeSpaces l D a q (a 5) (a 7) hd H.size  g0 g1 g2 g3 g4 r4.2 g6 g7 g8 g9 g10 g11 g12 g13 g14 g15 g16   r6 h_r6) (cwV 0 hts (gd_V (m_2 143 rfl rfl) (m_2 145 rfl rfl) (m_s 6 rfl rfl) (m_1 2 rfl rfl) (m_2 146 rfl rfl)) rfl rfl rfl (by decide +kernel) ⟨Nat.le_of_ble_eq_true rfl, Nat.le_of_ble_eq_true rfl⟩) ⟨fun a U g mk q => ⟨q.1, q.2.1, q.2.2.1, va_K.moved (u := U) (U := U.calling g mk a) (Vm.Alike.refl U.vm) q.2.2.2⟩, va_recv hK hP (ci := 2) (q0 := 3) rfl rfl, fun U hU hW => ⟨rfl, by rw [hU], by rw [hU]; exact hPc, va_K.moved hW.alike hKc⟩⟩ rfl rfl hl.1 rfl (lv_room (Nat.le_of_ble_eq_true rfl)) (dt_at dt_Rd_readEnds 35 rfl) ⟨Nat.le_of_ble_eq_true rfl, Nat.le_of_ble_eq_true rfl⟩) hS (fun x _ h9 => hF x h9) hF (fun uu t H1 locs ht hvm hw hB hz1 hk1 hS => ?_)
        rw [ht] at hB
        have hP : va_P D CLS (wT a q (a 5) (a 7) g0 g1 g2 g3 g4 r6 g6 g7 g8 g9 g10 g11 g12 g13 g14 g15 g16) H1 := hB
        have hD : va_D A (wT a q (a 5) (a 7) g0 g1 g2 g3 g4 r6 g6 g7 g8 g9 g10 g11 g12 g13 g14 g15 g16) := dD hD rfl
        have hSz : s.heap.size ≤ H1.size := hS.1
        clear hk1 hz1 hPc hF hB ht
        generalize H1 = H at hP hS hSz  ⊢
        refine lv_aload_n hx hb (dt_at dt_Rd_readEnds 36 rfl) rfl (lv_at hl 0 rfl) ?_
        refine lv_aload_n hx hb (dt_at dt_Rd_readEnds 37 rfl) rfl (lv_at hl 0 rfl) ?_
        refine va_get (D := D) (ci := 2) (v := .ref (a 7)) (C := "OutwardTape$LiteralReader") (T := T_Rd) (N := 5) hx hb hts in_Rd hown hK hP 3 rfl rfl 1 (by decide) (hts (Cond.fieldLink "OutwardTape$LiteralReader" 18 "OutwardTape$LiteralReader" "right" "LOutwardTape$Numeral;") (m_1 64 rfl rfl)) (fun _ h9 => h9) rfl (dt_at dt_Rd_readEnds 38 rfl) ?_
        obtain ⟨r7, h_r7, h⟩ := ob_of h
        have hPc : va_P D CLS (wT (sw_a a) (sw_q q) (a 5) (a 7) g0 g1 g2 g3 g4 r6 g6 g12 g13 g14 g15 g16 g7 g8 g9 g10 g11) H := hP.sub [0, 1, 2, 3, 4, 7, 8, 5, 6] rfl
        have hDc : va_D A (dT (sw_a a)) := (dD (ws' := dT a) hD rfl).sub [0, 1, 2, 3, 4, 7, 8, 5, 6] (by decide) rfl
        have hKc : va_K D CLS (tT (sw_q q)) s := hK.sub [0, 1, 2, 4, 3] rfl
        have hF := va_free (wc := dT (sw_a a)) hDc hS hA [0, 1, 2, 3, 4, 5, 6, 7, 8] rfl
        have hd : va_D (fun _ => True) (dT (sw_a a)) := hDc.weaken (fun _ _ _ _ => trivial)
        refine va_calli (va_runV (As := [.ref (a 7)]) (rest := []) ⟨hx, hb, hml, hown, hts⟩ (c_Rd_readEnd l D (sw_a a) (sw_q q) (a 5) (a 7) hd H.size  g0 g1 g2 g3 g4 r6 g6 g12 g13 g14 g15 g16 g7 g8 g9 g10 g11  n0 adK adV (fun x h9 => hAn x (hF x h9))  r7 h_r7) (cwV 1 hts (gd_V (m_2 226 rfl rfl) (m_2 228 rfl rfl) (m_s 11 rfl rfl) (m_1 2 rfl rfl) (m_2 229 rfl rfl)) rfl rfl rfl (by decide +kernel) ⟨Nat.le_of_ble_eq_true rfl, Nat.le_of_ble_eq_true rfl⟩) ⟨fun a U g mk q => ⟨q.1, q.2.1, q.2.2.1, va_K.moved (u := U) (U := U.calling g mk a) (Vm.Alike.refl U.vm) q.2.2.2.1, isS.call q.2.2.2.2⟩, va_recv hK hP (ci := 2) (q0 := 3) rfl rfl, fun U hU hW => ⟨rfl, by rw [hU], by rw [hU]; exact hPc, va_K.moved hW.alike hKc, hSt.go hS hAn hU hW⟩⟩ rfl rfl hl.1 rfl (lv_room (Nat.le_of_ble_eq_true rfl)) (dt_at dt_Rd_readEnds 39 rfl) ⟨Nat.le_of_ble_eq_true rfl, Nat.le_of_ble_eq_true rfl⟩) hS (fun x _ h9 => hF x h9) hF (fun u_r7 uu t H1 locs ht hvm hw hB hz1 hk1 hS => ?_)
        subst hw
        rw [ht] at hB
        have hP : va_P D CLS (wT a q (a 5) (a 7) g0 g1 g2 g3 g4 r7.2.1 g6 g7 g8 g9 g10 g11 r7.2.2.1 r7.2.2.2.1 r7.2.2.2.2.1 r7.2.2.2.2.2 g16) H1 := hB.sub [0, 1, 2, 3, 4, 7, 8, 5, 6] rfl
        have hD : va_D A (wT a q (a 5) (a 7) g0 g1 g2 g3 g4 r7.2.1 g6 g7 g8 g9 g10 g11 r7.2.2.1 r7.2.2.2.1 r7.2.2.2.2.1 r7.2.2.2.2.2 g16) := dD hD rfl
        have hSz : s.heap.size ≤ H1.size := hS.1
        clear hk1 hz1 hPc hF hB ht
        generalize H1 = H at hP hS hSz  ⊢
        obtain ⟨t8, e_t8, h⟩ := ol_of h
        refine lv_topi (fun u_t8 q_t8 => ?_)
        obtain rfl : t8 = u_t8 := e_t8.trans q_t8.symm
        refine lv_istore_n (lv' := [(2, .int t8), (0, .ref (a 3)), (1, .int v1)]) hx hb (dt_at dt_Rd_readEnds 40 rfl) rfl hl (by decide) rfl (fun ls hl => ?_)
        refine lv_iload_n hx hb (dt_at dt_Rd_readEnds 41 rfl) rfl (lv_at hl 0 rfl) ?_
        refine lv_if_eq (tgt := 96) hx hb (dt_at dt_Rd_readEnds 42 rfl) (by decide) (fun c9 => ?_) (fun c9 => ?_)
        · have h := if_p h c9
          exact k_Rd_readEnds_96 (PL := PL) hC hA hK hSt hAn   r7.2.1 g7 g8 g9 g10 g11 r7.2.2.1 r7.2.2.2.1 r7.2.2.2.2.1 r7.2.2.2.2.2 g16 H locs ls hP hD hS   (lv_sub hl [] rfl) h
        · have h := if_n h c9
          refine lv_iload_n hx hb (dt_at dt_Rd_readEnds 43 rfl) rfl (lv_at hl 0 rfl) ?_
          refine lv_iconst (v := 3) hx hb (dt_at dt_Rd_readEnds 44 rfl) (by decide) ?_
          refine lv_icmp_eq (tgt := 96) hx hb (dt_at dt_Rd_readEnds 45 rfl) (by decide) (fun c10 => ?_) (fun c10 => ?_)
          · have h := if_p h c10
            exact k_Rd_readEnds_96 (PL := PL) hC hA hK hSt hAn   r7.2.1 g7 g8 g9 g10 g11 r7.2.2.1 r7.2.2.2.1 r7.2.2.2.2.1 r7.2.2.2.2.2 g16 H locs ls hP hD hS   (lv_sub hl [] rfl) h
          · have h := if_n h c10
            refine lv_aload_n hx hb (dt_at dt_Rd_readEnds 46 rfl) rfl (lv_at hl 1 rfl) ?_
            obtain ⟨r11, h_r11, h⟩ := ob_of h
            have hPc := hP
            have hDc : va_D A (dT a) := dD (ws' := dT a) hD rfl
            have hKc := hK
            have hF := va_free (wc := dT a) hDc hS hA [0, 1, 2, 3, 4, 5, 6, 7, 8] rfl
            have hd : va_D (fun _ => True) (dT a) := hDc.weaken (fun _ _ _ _ => trivial)
            refine va_calli (va_runV (As := []) (rest := []) ⟨hx, hb, hml, hown, hts⟩ (c_Rd_takeClosing l D a q (a 5) (a 7) hd H.size  g0 g1 g2 g3 g4 r7.2.1 g6 g7 g8 g9 g10 g11 r7.2.2.1 r7.2.2.2.1 r7.2.2.2.2.1 r7.2.2.2.2.2 g16   r11 h_r11) (cwV 0 hts (gd_V (m_2 208 rfl rfl) (m_2 210 rfl rfl) (m_s 9 rfl rfl) (m_1 2 rfl rfl) (m_2 211 rfl rfl)) rfl rfl rfl (by decide +kernel) ⟨Nat.le_of_ble_eq_true rfl, Nat.le_of_ble_eq_true rfl⟩) ⟨fun a U g mk q => ⟨q.1, q.2.1, q.2.2.1, va_K.moved (u := U) (U := U.calling g mk a) (Vm.Alike.refl U.vm) q.2.2.2⟩, va_recv hK hP (ci := 2) (q0 := 3) rfl rfl, fun U hU hW => ⟨rfl, by rw [hU], by rw [hU]; exact hPc, va_K.moved hW.alike hKc⟩⟩ rfl rfl hl.1 rfl (lv_room (Nat.le_of_ble_eq_true rfl)) (dt_at dt_Rd_readEnds 47 rfl) ⟨Nat.le_of_ble_eq_true rfl, Nat.le_of_ble_eq_true rfl⟩) hS (fun x _ h9 => hF x h9) hF (fun u_r11 uu t H1 locs ht hvm hw hB hz1 hk1 hS => ?_)
            subst hw
            rw [ht] at hB
            have hP : va_P D CLS (wT a q (a 5) (a 7) g0 g1 g2 g3 g4 r11.2 g6 g7 g8 g9 g10 g11 r7.2.2.1 r7.2.2.2.1 r7.2.2.2.2.1 r7.2.2.2.2.2 g16) H1 := hB
            have hD : va_D A (wT a q (a 5) (a 7) g0 g1 g2 g3 g4 r11.2 g6 g7 g8 g9 g10 g11 r7.2.2.1 r7.2.2.2.1 r7.2.2.2.2.1 r7.2.2.2.2.2 g16) := dD hD rfl
            have hSz : s.heap.size ≤ H1.size := hS.1
            clear hk1 hz1 hPc hF hB ht
            generalize H1 = H at hP hS hSz  ⊢
            refine lv_if_ne (tgt := 100) hx hb (dt_at dt_Rd_readEnds 48 rfl) (by decide) (fun c12 => ?_) (fun c12 => ?_)
            · have h := if_n h c12
              refine lv_iload_n hx hb (dt_at dt_Rd_readEnds 51 rfl) rfl (lv_at hl 2 rfl) ?_
              refine lv_iconst (v := 2) hx hb (dt_at dt_Rd_readEnds 52 rfl) (by decide) ?_
              refine lv_icmp_ne (tgt := 128) hx hb (dt_at dt_Rd_readEnds 53 rfl) (by decide) (fun c13 => ?_) (fun c13 => ?_)
              · have h := if_n h c13
                exact k_Rd_readEnds_128 (PL := PL) hC hA hK hSt hAn   v1 t8 r11.2 g7 g8 g9 g10 g11 r7.2.2.1 r7.2.2.2.1 r7.2.2.2.2.1 r7.2.2.2.2.2 g16 H locs ls hP hD hS   (lv_sub hl [1, 2, 0] rfl) h
              · have h := if_p h c13
                refine lv_iload_n hx hb (dt_at dt_Rd_readEnds 54 rfl) rfl (lv_at hl 0 rfl) ?_
                refine lv_iconst (v := 2) hx hb (dt_at dt_Rd_readEnds 55 rfl) (by decide) ?_
                refine lv_icmp_ne (tgt := 128) hx hb (dt_at dt_Rd_readEnds 56 rfl) (by decide) (fun c14 => ?_) (fun c14 => ?_)
                · have h := if_n h c14
                  exact k_Rd_readEnds_128 (PL := PL) hC hA hK hSt hAn   v1 t8 r11.2 g7 g8 g9 g10 g11 r7.2.2.1 r7.2.2.2.1 r7.2.2.2.2.1 r7.2.2.2.2.2 g16 H locs ls hP hD hS   (lv_sub hl [1, 2, 0] rfl) h
                · have h := if_p h c14
                  refine lv_aload_n hx hb (dt_at dt_Rd_readEnds 57 rfl) rfl (lv_at hl 1 rfl) ?_
                  refine va_get (D := D) (ci := 2) (v := .ref (a 5)) (C := "OutwardTape$LiteralReader") (T := T_Rd) (N := 5) hx hb hts in_Rd hown hK hP 3 rfl rfl 0 (by decide) (hts (Cond.fieldLink "OutwardTape$LiteralReader" 12 "OutwardTape$LiteralReader" "left" "LOutwardTape$Numeral;") (m_1 63 rfl rfl)) (fun _ h9 => h9) rfl (dt_at dt_Rd_readEnds 58 rfl) ?_
                  refine lv_aload_n hx hb (dt_at dt_Rd_readEnds 59 rfl) rfl (lv_at hl 1 rfl) ?_
                  refine va_get (D := D) (ci := 2) (v := .ref (a 7)) (C := "OutwardTape$LiteralReader") (T := T_Rd) (N := 5) hx hb hts in_Rd hown hK hP 3 rfl rfl 1 (by decide) (hts (Cond.fieldLink "OutwardTape$LiteralReader" 18 "OutwardTape$LiteralReader" "right" "LOutwardTape$Numeral;") (m_1 64 rfl rfl)) (fun _ h9 => h9) rfl (dt_at dt_Rd_readEnds 60 rfl) ?_
                  obtain ⟨r15, h_r15, h⟩ := ob_of h
                  have hPc := hP
                  have hDc : va_D A (dT a) := dD (ws' := dT a) hD rfl
                  have hKc := hK
                  have hF := va_free (wc := dT a) hDc hS hA [0, 1, 2, 3, 4, 5, 6, 7, 8] rfl
                  have hd : va_D (fun _ => True) (dT a) := hDc.weaken (fun _ _ _ _ => trivial)
                  refine va_calli (va_runV (As := [.ref (a 7)]) (rest := []) ⟨hx, hb, hml, hown, hts⟩ (c_Num_isGreaterThan l D a q (a 5) (a 7) hd H.size  g0 g1 g2 g3 g4 r11.2 g6 g7 g8 g9 g10 g11 r7.2.2.1 r7.2.2.2.1 r7.2.2.2.2.1 r7.2.2.2.2.2 g16   r15 h_r15) (cwV 1 hts (gd_V (m_3 39 rfl rfl) (m_3 40 rfl rfl) (m_3 41 rfl rfl) (m_1 3 rfl rfl) (m_3 42 rfl rfl)) rfl rfl rfl (by decide +kernel) ⟨Nat.le_of_ble_eq_true rfl, Nat.le_of_ble_eq_true rfl⟩) ⟨fun a U g mk q => ⟨q.1, q.2.1, q.2.2.1, va_K.moved (u := U) (U := U.calling g mk a) (Vm.Alike.refl U.vm) q.2.2.2⟩, va_recv hK hP (ci := 3) (q0 := 5) rfl rfl, fun U hU hW => ⟨rfl, by rw [hU], by rw [hU]; exact hPc, va_K.moved hW.alike hKc⟩⟩ rfl rfl hl.1 rfl (lv_room (Nat.le_of_ble_eq_true rfl)) (dt_at dt_Rd_readEnds 61 rfl) ⟨Nat.le_of_ble_eq_true rfl, Nat.le_of_ble_eq_true rfl⟩) hS (fun x _ h9 => hF x h9) hF (fun u_r15 uu t H1 locs ht hvm hw hB hz1 hk1 hS => ?_)
                  obtain rfl : r15 = u_r15 := hw.symm
                  rw [ht] at hB
                  have hP : va_P D CLS (wT a q (a 5) (a 7) g0 g1 g2 g3 g4 r11.2 g6 g7 g8 g9 g10 g11 r7.2.2.1 r7.2.2.2.1 r7.2.2.2.2.1 r7.2.2.2.2.2 g16) H1 := hB
                  have hD : va_D A (wT a q (a 5) (a 7) g0 g1 g2 g3 g4 r11.2 g6 g7 g8 g9 g10 g11 r7.2.2.1 r7.2.2.2.1 r7.2.2.2.2.1 r7.2.2.2.2.2 g16) := dD hD rfl
                  have hSz : s.heap.size ≤ H1.size := hS.1
                  clear hk1 hz1 hPc hF hB ht
                  generalize H1 = H at hP hS hSz  ⊢
                  refine lv_if_eq (tgt := 128) hx hb (dt_at dt_Rd_readEnds 62 rfl) (by decide) (fun c16 => ?_) (fun c16 => ?_)
                  · have h := if_p h c16
                    exact k_Rd_readEnds_128 (PL := PL) hC hA hK hSt hAn   v1 t8 r11.2 g7 g8 g9 g10 g11 r7.2.2.1 r7.2.2.2.1 r7.2.2.2.2.1 r7.2.2.2.2.2 g16 H locs ls hP hD hS   (lv_sub hl [1, 2, 0] rfl) h
                  · have h := if_n h c16
                    obtain ⟨r17, h_r17, h⟩ := ob_of h
                    have hPc : va_P D CLS (wE a q) H := fun k q h => by simp [wE] at h
                    have hd : va_D (fun _ => True) (dE a) := dE_D a
                    have hKc : va_K D CLS (tE q) s := hK.sub (tys' := []) [] rfl
                    have hF : ∀ x, va_A (dE a) H.size x → A x := fun x h9 => h9.elim (fun ⟨k, e, h⟩ => by simp [dE] at h) (fun g => hA _ (Nat.le_trans hS.1 g))
                    refine va_callr (va_runS (As := []) (rest := []) ⟨hx, hb, hml, hown, hts⟩ (c_Cell_ill l D a q  hd H.size     r17 h_r17) (va_cwS 0 hts (gd_S (m_2 108 rfl rfl) (m_2 109 rfl rfl) (m_1 10 rfl rfl) (m_2 110 rfl rfl)) rfl rfl rfl (by decide +kernel) ⟨Nat.le_of_ble_eq_true rfl, Nat.le_of_ble_eq_true rfl⟩) ⟨fun a U g mk q => ⟨q.1, q.2.1, q.2.2.1, va_K.moved (u := U) (U := U.calling g mk a) (Vm.Alike.refl U.vm) q.2.2.2⟩, fun U hU hW => ⟨rfl, by rw [hU], by rw [hU]; exact hPc, va_K.moved hW.alike hKc⟩⟩ rfl rfl hl.1 rfl (lv_room (Nat.le_of_ble_eq_true rfl)) (dt_at dt_Rd_readEnds 63 rfl) ⟨Nat.le_of_ble_eq_true rfl, Nat.le_of_ble_eq_true rfl⟩) hS (fun x _ h9 => hF x h9) hF (fun uu y_r17 t H1 locs ht hvm hw hB hz1 hk1 hS => ?_)
                    obtain ⟨hB, hc_r17, hq_r17⟩ := hB
                    rw [ht] at hc_r17
                    have hn_r17 : nin (dT a) y_r17 := nin_cases hq_r17 (fun g9 => nin_big hP g9 rfl) (fun g9 => by simp at g9)
                    have hf_r17 : s.heap.size ≤ y_r17 ∨ y_r17 ∈ PL := nin_cases hq_r17 (fun g9 => Or.inl (Nat.le_trans hSz g9)) (fun g9 => by simp at g9)
                    clear hq_r17
                    have hP := va_P.kept hP (fun k q hq => hk1 _ (hP k q hq).lt (not_AE (hP k q hq).lt))
                    refine W.widen (k := 1) (n := 3) (Nat.le_of_ble_eq_true rfl) (Nat.le_of_ble_eq_true rfl) ?_
                    have hSz : s.heap.size ≤ H1.size := hS.1
                    clear hk1 hz1 hPc hF hB ht
                    generalize H1 = H at hP hS hSz hc_r17 ⊢
                    obtain rfl := os_of h
                    refine W.widen (k := 2) (n := 6) (Nat.le_of_ble_eq_true rfl) (Nat.le_of_ble_eq_true rfl) ?_
                    exact W.aret hx hb hr (Or.inl ⟨_, rfl⟩) (Or.inr ⟨_, rfl⟩) (fun t ht hW => ⟨⟨(), y_r17, rfl, trivial, (hPt hP ht), hPt hc_r17 ht, hf_r17⟩, hS.F ht⟩) hS.2.2 (dt_at dt_Rd_readEnds 64 rfl)
            · have h := if_p h c12
              exact k_Rd_readEnds_96 (PL := PL) hC hA hK hSt hAn   r11.2 g7 g8 g9 g10 g11 r7.2.2.1 r7.2.2.2.1 r7.2.2.2.2.1 r7.2.2.2.2.2 g16 H locs ls hP hD hS   (lv_sub hl [] rfl) h
      · have h := if_p h c5
        exact k_Rd_readEnds_63 (PL := PL) hC hA hK hSt hAn   r4.2 g7 g8 g9 g10 g11 g12 g13 g14 g15 g16 H locs ls hP hD hS   (lv_sub hl [] rfl) h
set_option maxRecDepth 100000 in
set_option maxHeartbeats 4000000 in
theorem k_Rd_readEnds_0 {p : Program} {l : Launch} {e : Env} {s : State} {m : MethodId} {args : Array Value} {below : List Frame} {meth : Method} {c : Code} {D : va_G} {a : Nat → Nat} {q : Nat → ClassId} {PL : List Nat} {A : Nat → Prop} (hC : CX p s m args meth c prog_5_method_7_code 5 "OutwardTape$LiteralReader" (some (.object "OutwardTape$Cell"))) (hA : ∀ x, s.heap.size ≤ x → A x) (hK : va_K D CLS (tT q) s) {n0 : Nat} {adK adV : Nat → Nat} (hSt : isS n0 adK adV s) (hAn : ∀ x, A x → n0 ≤ x) {g0 : Int32} {g1 : Int32} {g2 : Nat → Int32} {g3 : Nat → Option Nat} {g4 : Int32} {g6 : Nat → Int32} {r0 : Int64 × Int64 × Int32 × Int32 × Int32 × Int64 × Int32 × Int32 × (Nat → Int32) × Int32 × Int64 × Int32 × Int32 × (Nat → Int32)} : ∀  (g5 : Int32) (g7 : Int32) (g8 : Int64) (g9 : Int32) (g10 : Int32) (g11 : Nat → Int32) (g12 : Int32) (g13 : Int64) (g14 : Int32) (g15 : Int32) (g16 : Nat → Int32) (H : Heap) (locs : List Loc) (ls : Array Slot), va_P D CLS (wT a q (a 5) (a 7) g0 g1 g2 g3 g4 g5 g6 g7 g8 g9 g10 g11 g12 g13 g14 g15 g16) H → va_D A (wT a q (a 5) (a 7) g0 g1 g2 g3 g4 g5 g6 g7 g8 g9 g10 g11 g12 g13 g14 g15 g16) → va_S A s.heap H locs → lv_has ls 5 [(0, .ref (a 3))] → f_Rd_readEnds_0  g4 g5 g6 g7 g8 g9 g10 g11 g12 g13 g14 g15 g16 = some r0 → W p l e rm_Rd_readEnds s m args below meth c H locs 0 0 (MQ below (va_Qr (fun _ : Unit => True) (fun _ ra t => (va_P D CLS (wT a q (a 5) (a 7) g0 g1 g2 g3 g4 r0.2.2.2.1 g6 r0.2.2.2.2.1 r0.2.2.2.2.2.1 r0.2.2.2.2.2.2.1 r0.2.2.2.2.2.2.2.1 r0.2.2.2.2.2.2.2.2.1 r0.2.2.2.2.2.2.2.2.2.1 r0.2.2.2.2.2.2.2.2.2.2.1 r0.2.2.2.2.2.2.2.2.2.2.2.1 r0.2.2.2.2.2.2.2.2.2.2.2.2.1 r0.2.2.2.2.2.2.2.2.2.2.2.2.2) t.heap) ∧ isC D t.heap ra r0.1 r0.2.1 r0.2.2.1 ∧ (s.heap.size ≤ ra ∨ ra ∈ PL)) A) args s 2 6 A) (F0 m 0 ls []) := by
  obtain ⟨hx, hb, hml, hown, hts, hr, hlocks⟩ := id hC
  intro g5 g7 g8 g9 g10 g11 g12 g13 g14 g15 g16 H locs ls hP hD hS hl h
  rw [f_Rd_readEnds_0] at h
  have hSz : s.heap.size ≤ H.size := hS.1
  refine lv_aload_n hx hb (dt_at dt_Rd_readEnds 0 rfl) rfl (lv_at hl 0 rfl) ?_
  refine lv_aload_n hx hb (dt_at dt_Rd_readEnds 1 rfl) rfl (lv_at hl 0 rfl) ?_
  refine va_get (D := D) (ci := 2) (v := .ref (a 5)) (C := "OutwardTape$LiteralReader") (T := T_Rd) (N := 5) hx hb hts in_Rd hown hK hP 3 rfl rfl 0 (by decide) (hts (Cond.fieldLink "OutwardTape$LiteralReader" 12 "OutwardTape$LiteralReader" "left" "LOutwardTape$Numeral;") (m_1 63 rfl rfl)) (fun _ h9 => h9) rfl (dt_at dt_Rd_readEnds 2 rfl) ?_
  obtain ⟨r1, h_r1, h⟩ := ob_of h
  have hPc := hP
  have hDc : va_D A (dT a) := dD (ws' := dT a) hD rfl
  have hKc := hK
  have hF := va_free (wc := dT a) hDc hS hA [0, 1, 2, 3, 4, 5, 6, 7, 8] rfl
  have hd : va_D (fun _ => True) (dT a) := hDc.weaken (fun _ _ _ _ => trivial)
  refine va_calli (va_runV (As := [.ref (a 5)]) (rest := []) ⟨hx, hb, hml, hown, hts⟩ (c_Rd_readEnd l D a q (a 5) (a 7) hd H.size  g0 g1 g2 g3 g4 g5 g6 g7 g8 g9 g10 g11 g12 g13 g14 g15 g16  n0 adK adV (fun x h9 => hAn x (hF x h9))  r1 h_r1) (cwV 1 hts (gd_V (m_2 226 rfl rfl) (m_2 228 rfl rfl) (m_s 11 rfl rfl) (m_1 2 rfl rfl) (m_2 229 rfl rfl)) rfl rfl rfl (by decide +kernel) ⟨Nat.le_of_ble_eq_true rfl, Nat.le_of_ble_eq_true rfl⟩) ⟨fun a U g mk q => ⟨q.1, q.2.1, q.2.2.1, va_K.moved (u := U) (U := U.calling g mk a) (Vm.Alike.refl U.vm) q.2.2.2.1, isS.call q.2.2.2.2⟩, va_recv hK hP (ci := 2) (q0 := 3) rfl rfl, fun U hU hW => ⟨rfl, by rw [hU], by rw [hU]; exact hPc, va_K.moved hW.alike hKc, hSt.go hS hAn hU hW⟩⟩ rfl rfl hl.1 rfl (lv_room (Nat.le_of_ble_eq_true rfl)) (dt_at dt_Rd_readEnds 3 rfl) ⟨Nat.le_of_ble_eq_true rfl, Nat.le_of_ble_eq_true rfl⟩) hS (fun x _ h9 => hF x h9) hF (fun u_r1 uu t H1 locs ht hvm hw hB hz1 hk1 hS => ?_)
  subst hw
  rw [ht] at hB
  have hP : va_P D CLS (wT a q (a 5) (a 7) g0 g1 g2 g3 g4 r1.2.1 g6 r1.2.2.1 r1.2.2.2.1 r1.2.2.2.2.1 r1.2.2.2.2.2 g11 g12 g13 g14 g15 g16) H1 := hB
  have hD : va_D A (wT a q (a 5) (a 7) g0 g1 g2 g3 g4 r1.2.1 g6 r1.2.2.1 r1.2.2.2.1 r1.2.2.2.2.1 r1.2.2.2.2.2 g11 g12 g13 g14 g15 g16) := dD hD rfl
  have hSz : s.heap.size ≤ H1.size := hS.1
  clear hk1 hz1 hPc hF hB ht
  generalize H1 = H at hP hS hSz  ⊢
  obtain ⟨t2, e_t2, h⟩ := ol_of h
  refine lv_topi (fun u_t2 q_t2 => ?_)
  obtain rfl : t2 = u_t2 := e_t2.trans q_t2.symm
  refine lv_istore_n (lv' := [(1, .int t2), (0, .ref (a 3))]) hx hb (dt_at dt_Rd_readEnds 4 rfl) rfl hl (by decide) rfl (fun ls hl => ?_)
  refine lv_iload_n hx hb (dt_at dt_Rd_readEnds 5 rfl) rfl (lv_at hl 0 rfl) ?_
  refine lv_iconst (v := 2) hx hb (dt_at dt_Rd_readEnds 6 rfl) (by decide) ?_
  refine lv_icmp_ne (tgt := 41) hx hb (dt_at dt_Rd_readEnds 7 rfl) (by decide) (fun c3 => ?_) (fun c3 => ?_)
  · have h := if_n h c3
    exact k_Rd_readEnds_41 (PL := PL) hC hA hK hSt hAn   t2 r1.2.1 r1.2.2.1 r1.2.2.2.1 r1.2.2.2.2.1 r1.2.2.2.2.2 g11 g12 g13 g14 g15 g16 H locs ls hP hD hS   (lv_sub hl [1, 0] rfl) h
  · have h := if_p h c3
    refine lv_aload_n hx hb (dt_at dt_Rd_readEnds 8 rfl) rfl (lv_at hl 1 rfl) ?_
    obtain ⟨r4, h_r4, h⟩ := ob_of h
    have hPc := hP
    have hDc : va_D A (dT a) := dD (ws' := dT a) hD rfl
    have hKc := hK
    have hF := va_free (wc := dT a) hDc hS hA [0, 1, 2, 3, 4, 5, 6, 7, 8] rfl
    have hd : va_D (fun _ => True) (dT a) := hDc.weaken (fun _ _ _ _ => trivial)
    refine va_calli (va_runV (As := []) (rest := []) ⟨hx, hb, hml, hown, hts⟩ (c_Rd_takeClosing l D a q (a 5) (a 7) hd H.size  g0 g1 g2 g3 g4 r1.2.1 g6 r1.2.2.1 r1.2.2.2.1 r1.2.2.2.2.1 r1.2.2.2.2.2 g11 g12 g13 g14 g15 g16   r4 h_r4) (cwV 0 hts (gd_V (m_2 208 rfl rfl) (m_2 210 rfl rfl) (m_s 9 rfl rfl) (m_1 2 rfl rfl) (m_2 211 rfl rfl)) rfl rfl rfl (by decide +kernel) ⟨Nat.le_of_ble_eq_true rfl, Nat.le_of_ble_eq_true rfl⟩) ⟨fun a U g mk q => ⟨q.1, q.2.1, q.2.2.1, va_K.moved (u := U) (U := U.calling g mk a) (Vm.Alike.refl U.vm) q.2.2.2⟩, va_recv hK hP (ci := 2) (q0 := 3) rfl rfl, fun U hU hW => ⟨rfl, by rw [hU], by rw [hU]; exact hPc, va_K.moved hW.alike hKc⟩⟩ rfl rfl hl.1 rfl (lv_room (Nat.le_of_ble_eq_true rfl)) (dt_at dt_Rd_readEnds 9 rfl) ⟨Nat.le_of_ble_eq_true rfl, Nat.le_of_ble_eq_true rfl⟩) hS (fun x _ h9 => hF x h9) hF (fun u_r4 uu t H1 locs ht hvm hw hB hz1 hk1 hS => ?_)
    subst hw
    rw [ht] at hB
    have hP : va_P D CLS (wT a q (a 5) (a 7) g0 g1 g2 g3 g4 r4.2 g6 r1.2.2.1 r1.2.2.2.1 r1.2.2.2.2.1 r1.2.2.2.2.2 g11 g12 g13 g14 g15 g16) H1 := hB
    have hD : va_D A (wT a q (a 5) (a 7) g0 g1 g2 g3 g4 r4.2 g6 r1.2.2.1 r1.2.2.2.1 r1.2.2.2.2.1 r1.2.2.2.2.2 g11 g12 g13 g14 g15 g16) := dD hD rfl
    have hSz : s.heap.size ≤ H1.size := hS.1
    clear hk1 hz1 hPc hF hB ht
    generalize H1 = H at hP hS hSz  ⊢
    refine lv_if_eq (tgt := 41) hx hb (dt_at dt_Rd_readEnds 10 rfl) (by decide) (fun c5 => ?_) (fun c5 => ?_)
    · have h := if_p h c5
      exact k_Rd_readEnds_41 (PL := PL) hC hA hK hSt hAn   t2 r4.2 r1.2.2.1 r1.2.2.2.1 r1.2.2.2.2.1 r1.2.2.2.2.2 g11 g12 g13 g14 g15 g16 H locs ls hP hD hS   (lv_sub hl [1, 0] rfl) h
    · have h := if_n h c5
      refine lv_aload_n hx hb (dt_at dt_Rd_readEnds 11 rfl) rfl (lv_at hl 1 rfl) ?_
      refine va_get (D := D) (ci := 2) (v := .ref (a 5)) (C := "OutwardTape$LiteralReader") (T := T_Rd) (N := 5) hx hb hts in_Rd hown hK hP 3 rfl rfl 0 (by decide) (hts (Cond.fieldLink "OutwardTape$LiteralReader" 12 "OutwardTape$LiteralReader" "left" "LOutwardTape$Numeral;") (m_1 63 rfl rfl)) (fun _ h9 => h9) rfl (dt_at dt_Rd_readEnds 12 rfl) ?_
      refine lv_iconst (v := -1) hx hb (dt_at dt_Rd_readEnds 13 rfl) (by decide) ?_
      obtain ⟨r6, h_r6, h⟩ := ob_of h
      have hPc := hP
      have hDc : va_D A (dT a) := dD (ws' := dT a) hD rfl
      have hKc := hK
      have hF := va_free (wc := dT a) hDc hS hA [0, 1, 2, 3, 4, 5, 6, 7, 8] rfl
      have hd : va_D (fun _ => True) (dT a) := hDc.weaken (fun _ _ _ _ => trivial)
      refine va_calll (va_runV (As := [.int (-1 : Int32)]) (rest := []) ⟨hx, hb, hml, hown, hts⟩ (c_Num_rounded l D a q (a 5) (a 7) hd H.size (-1 : Int32) g0 g1 g2 g3 g4 r4.2 g6 r1.2.2.1 r1.2.2.2.1 r1.2.2.2.2.1 r1.2.2.2.2.2 g11 g12 g13 g14 g15 g16   r6 h_r6) (cwV 1 hts (gd_V (m_3 20 rfl rfl) (m_3 21 rfl rfl) (m_3 22 rfl rfl) (m_1 3 rfl rfl) (m_3 23 rfl rfl)) rfl rfl rfl (by decide +kernel) ⟨Nat.le_of_ble_eq_true rfl, Nat.le_of_ble_eq_true rfl⟩) ⟨fun a U g mk q => ⟨q.1, q.2.1, q.2.2.1, va_K.moved (u := U) (U := U.calling g mk a) (Vm.Alike.refl U.vm) q.2.2.2⟩, va_recv hK hP (ci := 3) (q0 := 5) rfl rfl, fun U hU hW => ⟨rfl, by rw [hU], by rw [hU]; exact hPc, va_K.moved hW.alike hKc⟩⟩ rfl rfl hl.1 rfl (lv_room (Nat.le_of_ble_eq_true rfl)) (dt_at dt_Rd_readEnds 14 rfl) ⟨Nat.le_of_ble_eq_true rfl, Nat.le_of_ble_eq_true rfl⟩) hS (fun x _ h9 => hF x h9) hF (fun u_r6 uu t H1 locs ht hvm hw hB hz1 hk1 hS => ?_)
      subst hw
      rw [ht] at hB
      have hP : va_P D CLS (wT a q (a 5) (a 7) g0 g1 g2 g3 g4 r4.2 g6 r1.2.2.1 r1.2.2.2.1 r1.2.2.2.2.1 r1.2.2.2.2.2 r6.2 g12 g13 g14 g15 g16) H1 := hB
      have hD : va_D A (wT a q (a 5) (a 7) g0 g1 g2 g3 g4 r4.2 g6 r1.2.2.1 r1.2.2.2.1 r1.2.2.2.2.1 r1.2.2.2.2.2 r6.2 g12 g13 g14 g15 g16) := dD hD rfl
      have hSz : s.heap.size ≤ H1.size := hS.1
      clear hk1 hz1 hPc hF hB ht
      generalize H1 = H at hP hS hSz  ⊢
      refine lv_aload_n hx hb (dt_at dt_Rd_readEnds 15 rfl) rfl (lv_at hl 1 rfl) ?_
      refine va_get (D := D) (ci := 2) (v := .ref (a 5)) (C := "OutwardTape$LiteralReader") (T := T_Rd) (N := 5) hx hb hts in_Rd hown hK hP 3 rfl rfl 0 (by decide) (hts (Cond.fieldLink "OutwardTape$LiteralReader" 12 "OutwardTape$LiteralReader" "left" "LOutwardTape$Numeral;") (m_1 63 rfl rfl)) (fun _ h9 => h9) rfl (dt_at dt_Rd_readEnds 16 rfl) ?_
      refine lv_iconst (v := 1) hx hb (dt_at dt_Rd_readEnds 17 rfl) (by decide) ?_
      obtain ⟨r7, h_r7, h⟩ := ob_of h
      have hPc := hP
      have hDc : va_D A (dT a) := dD (ws' := dT a) hD rfl
      have hKc := hK
      have hF := va_free (wc := dT a) hDc hS hA [0, 1, 2, 3, 4, 5, 6, 7, 8] rfl
      have hd : va_D (fun _ => True) (dT a) := hDc.weaken (fun _ _ _ _ => trivial)
      refine va_calll (va_runV (As := [.int (1 : Int32)]) (rest := [.long r6.1]) ⟨hx, hb, hml, hown, hts⟩ (c_Num_rounded l D a q (a 5) (a 7) hd H.size (1 : Int32) g0 g1 g2 g3 g4 r4.2 g6 r1.2.2.1 r1.2.2.2.1 r1.2.2.2.2.1 r1.2.2.2.2.2 r6.2 g12 g13 g14 g15 g16   r7 h_r7) (cwV 1 hts (gd_V (m_3 20 rfl rfl) (m_3 21 rfl rfl) (m_3 22 rfl rfl) (m_1 3 rfl rfl) (m_3 23 rfl rfl)) rfl rfl rfl (by decide +kernel) ⟨Nat.le_of_ble_eq_true rfl, Nat.le_of_ble_eq_true rfl⟩) ⟨fun a U g mk q => ⟨q.1, q.2.1, q.2.2.1, va_K.moved (u := U) (U := U.calling g mk a) (Vm.Alike.refl U.vm) q.2.2.2⟩, va_recv hK hP (ci := 3) (q0 := 5) rfl rfl, fun U hU hW => ⟨rfl, by rw [hU], by rw [hU]; exact hPc, va_K.moved hW.alike hKc⟩⟩ rfl rfl hl.1 rfl (lv_room (Nat.le_of_ble_eq_true rfl)) (dt_at dt_Rd_readEnds 18 rfl) ⟨Nat.le_of_ble_eq_true rfl, Nat.le_of_ble_eq_true rfl⟩) hS (fun x _ h9 => hF x h9) hF (fun u_r7 uu t H1 locs ht hvm hw hB hz1 hk1 hS => ?_)
      subst hw
      rw [ht] at hB
      have hP : va_P D CLS (wT a q (a 5) (a 7) g0 g1 g2 g3 g4 r4.2 g6 r1.2.2.1 r1.2.2.2.1 r1.2.2.2.2.1 r1.2.2.2.2.2 r7.2 g12 g13 g14 g15 g16) H1 := hB
      have hD : va_D A (wT a q (a 5) (a 7) g0 g1 g2 g3 g4 r4.2 g6 r1.2.2.1 r1.2.2.2.1 r1.2.2.2.2.1 r1.2.2.2.2.2 r7.2 g12 g13 g14 g15 g16) := dD hD rfl
      have hSz : s.heap.size ≤ H1.size := hS.1
      clear hk1 hz1 hPc hF hB ht
      generalize H1 = H at hP hS hSz  ⊢
      obtain ⟨r8, h_r8, h⟩ := ob_of h
      have hPc : va_P D CLS (wE a q) H := fun k q h => by simp [wE] at h
      have hd : va_D (fun _ => True) (dE a) := dE_D a
      have hKc : va_K D CLS (tE q) s := hK.sub (tys' := []) [] rfl
      have hF : ∀ x, va_A (dE a) H.size x → A x := fun x h9 => h9.elim (fun ⟨k, e, h⟩ => by simp [dE] at h) (fun g => hA _ (Nat.le_trans hS.1 g))
      refine va_callr (va_runS (As := [.long r6.1, .long r7.1]) (rest := []) ⟨hx, hb, hml, hown, hts⟩ (c_Rd_strongest l D a q  hd H.size r6.1 r7.1    r8 h_r8) (va_cwS 2 hts (gd_S (m_2 215 rfl rfl) (m_2 216 rfl rfl) (m_1 2 rfl rfl) (m_2 217 rfl rfl)) rfl rfl rfl (by decide +kernel) ⟨Nat.le_of_ble_eq_true rfl, Nat.le_of_ble_eq_true rfl⟩) ⟨fun a U g mk q => ⟨q.1, q.2.1, q.2.2.1, va_K.moved (u := U) (U := U.calling g mk a) (Vm.Alike.refl U.vm) q.2.2.2⟩, fun U hU hW => ⟨rfl, by rw [hU], by rw [hU]; exact hPc, va_K.moved hW.alike hKc⟩⟩ rfl rfl hl.1 rfl (lv_room (Nat.le_of_ble_eq_true rfl)) (dt_at dt_Rd_readEnds 19 rfl) ⟨Nat.le_of_ble_eq_true rfl, Nat.le_of_ble_eq_true rfl⟩) hS (fun x _ h9 => hF x h9) hF (fun uu y_r8 t H1 locs ht hvm hw hB hz1 hk1 hS => ?_)
      obtain ⟨hB, hc_r8, hq_r8⟩ := hB
      rw [ht] at hc_r8
      have hn_r8 : nin (dT a) y_r8 := nin_cases hq_r8 (fun g9 => nin_big hP g9 rfl) (fun g9 => by simp at g9)
      have hf_r8 : s.heap.size ≤ y_r8 ∨ y_r8 ∈ PL := nin_cases hq_r8 (fun g9 => Or.inl (Nat.le_trans hSz g9)) (fun g9 => by simp at g9)
      clear hq_r8
      have hP := va_P.kept hP (fun k q hq => hk1 _ (hP k q hq).lt (not_AE (hP k q hq).lt))
      refine W.widen (k := 2) (n := 6) (Nat.le_of_ble_eq_true rfl) (Nat.le_of_ble_eq_true rfl) ?_
      have hSz : s.heap.size ≤ H1.size := hS.1
      clear hk1 hz1 hPc hF hB ht
      generalize H1 = H at hP hS hSz hc_r8 ⊢
      obtain rfl := os_of h
      exact W.aret hx hb hr (Or.inl ⟨_, rfl⟩) (Or.inr ⟨_, rfl⟩) (fun t ht hW => ⟨⟨(), y_r8, rfl, trivial, (hPt hP ht), hPt hc_r8 ht, hf_r8⟩, hS.F ht⟩) hS.2.2 (dt_at dt_Rd_readEnds 20 rfl)
set_option maxRecDepth 100000 in
set_option maxHeartbeats 4000000 in
theorem c_Rd_readEnds (l : Launch) (D : va_G) (a : Nat → Nat) (q : Nat → ClassId) (hd : va_D (fun _ => True) (dT a)) (sz : Nat)  (g0 : Int32) (g1 : Int32) (g2 : Nat → Int32) (g3 : Nat → Option Nat) (g4 : Int32) (g5 : Int32) (g6 : Nat → Int32) (g7 : Int32) (g8 : Int64) (g9 : Int32) (g10 : Int32) (g11 : Nat → Int32) (g12 : Int32) (g13 : Int64) (g14 : Int32) (g15 : Int32) (g16 : Nat → Int32)  (n0 : Nat) (adK adV : Nat → Nat) (hn0 : ∀ x, va_A (dT a) sz x → n0 ≤ x)  (r0 : Int64 × Int64 × Int32 × Int32 × Int32 × Int64 × Int32 × Int32 × (Nat → Int32) × Int32 × Int64 × Int32 × Int32 × (Nat → Int32)) (h : f_Rd_readEnds g4 g5 g6 g7 g8 g9 g10 g11 g12 g13 g14 g15 g16 = some r0) : Met l (⟨"OutwardTape$LiteralReader", "readEnds", "()LOutwardTape$Cell;"⟩ : MethodName) (WSm (⟨"OutwardTape$LiteralReader", "readEnds", "()LOutwardTape$Cell;"⟩ : MethodName) prog_5_method_7_code 5 (some (.object "OutwardTape$Cell"))) rm_Rd_readEnds (va_Pc [.ref (a 3)] (fun U => U.heap.size = sz ∧ va_P D CLS (wT a q (a 5) (a 7) g0 g1 g2 g3 g4 g5 g6 g7 g8 g9 g10 g11 g12 g13 g14 g15 g16) U.heap ∧ va_K D CLS (tT q) U ∧ isS n0 adK adV U)) (va_Qr (fun _ : Unit => True) (fun _ ra t => (va_P D CLS (wT a q (a 5) (a 7) g0 g1 g2 g3 g4 r0.2.2.2.1 g6 r0.2.2.2.2.1 r0.2.2.2.2.2.1 r0.2.2.2.2.2.2.1 r0.2.2.2.2.2.2.2.1 r0.2.2.2.2.2.2.2.2.1 r0.2.2.2.2.2.2.2.2.2.1 r0.2.2.2.2.2.2.2.2.2.2.1 r0.2.2.2.2.2.2.2.2.2.2.2.1 r0.2.2.2.2.2.2.2.2.2.2.2.2.1 r0.2.2.2.2.2.2.2.2.2.2.2.2.2) t.heap) ∧ isC D t.heap ra r0.1 r0.2.1 r0.2.2.1 ∧ (sz ≤ ra ∨ ra ∈ ([] : List Nat))) (va_A (dT a) sz)) 2 6 (va_A (dT a) sz) := by
  refine Met.ofW (cc := prog_5_method_7_code) (maxL := 5) (ret := (some (.object "OutwardTape$Cell"))) (by decide) rfl ?_
  intro p e s m args below meth c s₁ B hml hv
  obtain ⟨rfl, hsz, hP, hK, hSt⟩ := hv
  subst hsz
  have hC := CX.of B hml rfl
  have hl := lv_entry [.ref (a 3)] (n := 5) (Nat.le_of_ble_eq_true rfl)
  rw [lg_entry_eq]
  generalize (lg_sl [.ref (a 3)] ++ List.replicate (5 - (lg_sl [.ref (a 3)]).length) Slot.unset).toArray = ls at hl ⊢
  have hl : lv_has ls 5 [(0, .ref (a 3))] := hl
  exact k_Rd_readEnds_0 (PL := []) hC (fun x h => Or.inr h) hK hSt hn0  g5 g7 g8 g9 g10 g11 g12 g13 g14 g15 g16   s.heap [] ls hP (dD hd.self rfl) va_S.rf   (lv_sub hl [0] rfl) h
abbrev rm_Rd_readMark : Room := { frames := 5, cells := 0, slots := 0, locals := 118 }
set_option maxRecDepth 100000 in
set_option maxHeartbeats 4000000 in
theorem k_Rd_readMark_47 {p : Program} {l : Launch} {e : Env} {s : State} {m : MethodId} {args : Array Value} {below : List Frame} {meth : Method} {c : Code} {D : va_G} {a : Nat → Nat} {q : Nat → ClassId} {L : Nat} {R : Nat} {A : Nat → Prop} (hC : CX p s m args meth c prog_5_method_5_code 1 "OutwardTape$LiteralReader" (some .int)) (hA : ∀ x, s.heap.size ≤ x → A x) (hK : va_K D CLS (tT q) s) {n0 : Nat} {adK adV : Nat → Nat} (hSt : isS n0 adK adV s) (hAn : ∀ x, A x → n0 ≤ x) {g0 : Int32} {g1 : Int32} {g2 : Nat → Int32} {g3 : Nat → Option Nat} {g4 : Int32} {g6 : Nat → Int32} {g7 : Int32} {g8 : Int64} {g9 : Int32} {g10 : Int32} {g11 : Nat → Int32} {g12 : Int32} {g13 : Int64} {g14 : Int32} {g15 : Int32} {g16 : Nat → Int32} {r0 : Int32 × Int32} : ∀ (s0 : Int32) (g5 : Int32) (H : Heap) (locs : List Loc) (ls : Array Slot), va_P D CLS (wT a q L R g0 g1 g2 g3 g4 g5 g6 g7 g8 g9 g10 g11 g12 g13 g14 g15 g16) H → va_D A (wT a q L R g0 g1 g2 g3 g4 g5 g6 g7 g8 g9 g10 g11 g12 g13 g14 g15 g16) → va_S A s.heap H locs → lv_has ls 1 [] → f_Rd_readMark_47  s0 g4 g5 g6 = some r0 → W p l e rm_Rd_readMark s m args below meth c H locs 0 0 (MQ below (va_Qi (fun (r : Int32) (_ : Unit) => r = r0.1) (fun _ t => va_P D CLS (wT a q L R g0 g1 g2 g3 g4 r0.2 g6 g7 g8 g9 g10 g11 g12 g13 g14 g15 g16) t.heap) A) args s 0 0 A) (F0 m 47 ls [.int s0]) := by
  obtain ⟨hx, hb, hml, hown, hts, hr, hlocks⟩ := id hC
  intro s0 g5 H locs ls hP hD hS hl h
  rw [f_Rd_readMark_47] at h
  have hSz : s.heap.size ≤ H.size := hS.1
  obtain rfl := os_of h
  exact W.iret (v := s0) hx hb hr (fun t ht hW => ⟨⟨_, (), rfl, rfl, (hPt hP ht)⟩, hS.F ht⟩) hS.2.2 (dt_at dt_Rd_readMark 25 rfl)
set_option maxRecDepth 100000 in
set_option maxHeartbeats 4000000 in
theorem k_Rd_readMark_0 {p : Program} {l : Launch} {e : Env} {s : State} {m : MethodId} {args : Array Value} {below : List Frame} {meth : Method} {c : Code} {D : va_G} {a : Nat → Nat} {q : Nat → ClassId} {L : Nat} {R : Nat} {A : Nat → Prop} (hC : CX p s m args meth c prog_5_method_5_code 1 "OutwardTape$LiteralReader" (some .int)) (hA : ∀ x, s.heap.size ≤ x → A x) (hK : va_K D CLS (tT q) s) {n0 : Nat} {adK adV : Nat → Nat} (hSt : isS n0 adK adV s) (hAn : ∀ x, A x → n0 ≤ x) {g0 : Int32} {g1 : Int32} {g2 : Nat → Int32} {g3 : Nat → Option Nat} {g4 : Int32} {g6 : Nat → Int32} {g7 : Int32} {g8 : Int64} {g9 : Int32} {g10 : Int32} {g11 : Nat → Int32} {g12 : Int32} {g13 : Int64} {g14 : Int32} {g15 : Int32} {g16 : Nat → Int32} {r0 : Int32 × Int32} : ∀  (g5 : Int32) (H : Heap) (locs : List Loc) (ls : Array Slot), va_P D CLS (wT a q L R g0 g1 g2 g3 g4 g5 g6 g7 g8 g9 g10 g11 g12 g13 g14 g15 g16) H → va_D A (wT a q L R g0 g1 g2 g3 g4 g5 g6 g7 g8 g9 g10 g11 g12 g13 g14 g15 g16) → va_S A s.heap H locs → lv_has ls 1 [(0, .ref (a 3))] → f_Rd_readMark_0  g4 g5 g6 = some r0 → W p l e rm_Rd_readMark s m args below meth c H locs 0 0 (MQ below (va_Qi (fun (r : Int32) (_ : Unit) => r = r0.1) (fun _ t => va_P D CLS (wT a q L R g0 g1 g2 g3 g4 r0.2 g6 g7 g8 g9 g10 g11 g12 g13 g14 g15 g16) t.heap) A) args s 0 0 A) (F0 m 0 ls []) := by
  obtain ⟨hx, hb, hml, hown, hts, hr, hlocks⟩ := id hC
  intro g5 H locs ls hP hD hS hl h
  rw [f_Rd_readMark_0] at h
  have hSz : s.heap.size ≤ H.size := hS.1
  refine lv_aload_n hx hb (dt_at dt_Rd_readMark 0 rfl) rfl (lv_at hl 0 rfl) ?_
  refine va_ldcS (tx := "com") (q := adK 5) hx hb hown (hSt.1 5 (by decide)) (dt_at dt_Rd_readMark 1 rfl) ?_
  obtain ⟨r2, h_r2, h⟩ := ob_of h
  have hPc := hP
  have hDc : va_D A (dT a) := dD (ws' := dT a) hD rfl
  have hKc := hK
  have hF := va_free (wc := dT a) hDc hS hA [0, 1, 2, 3, 4, 5, 6, 7, 8] rfl
  have hd : va_D (fun _ => True) (dT a) := hDc.weaken (fun _ _ _ _ => trivial)
  refine va_calli (va_runV (As := [.ref (adK 5)]) (rest := []) ⟨hx, hb, hml, hown, hts⟩ (c_Rd_takeWord l D a q L R hd H.size 5 g0 g1 g2 g3 g4 g5 g6 g7 g8 g9 g10 g11 g12 g13 g14 g15 g16  n0 adK adV (fun x h9 => hAn x (hF x h9))  r2 h_r2) (cwV 1 hts (gd_V (m_2 156 rfl rfl) (m_2 158 rfl rfl) (m_s 8 rfl rfl) (m_1 2 rfl rfl) (m_2 159 rfl rfl)) rfl rfl rfl (by decide +kernel) ⟨Nat.le_of_ble_eq_true rfl, Nat.le_of_ble_eq_true rfl⟩) ⟨fun a U g mk q => ⟨q.1, q.2.1, q.2.2.1, va_K.moved (u := U) (U := U.calling g mk a) (Vm.Alike.refl U.vm) q.2.2.2.1, isS.call q.2.2.2.2⟩, va_recv hK hP (ci := 2) (q0 := 3) rfl rfl, fun U hU hW => ⟨rfl, by rw [hU], by rw [hU]; exact hPc, va_K.moved hW.alike hKc, hSt.go hS hAn hU hW⟩⟩ rfl rfl hl.1 rfl (lv_room (Nat.le_of_ble_eq_true rfl)) (dt_at dt_Rd_readMark 2 rfl) ⟨Nat.le_of_ble_eq_true rfl, Nat.le_of_ble_eq_true rfl⟩) hS (fun x _ h9 => hF x h9) hF (fun u_r2 uu t H1 locs ht hvm hw hB hz1 hk1 hS => ?_)
  subst hw
  rw [ht] at hB
  have hP : va_P D CLS (wT a q L R g0 g1 g2 g3 g4 r2.2 g6 g7 g8 g9 g10 g11 g12 g13 g14 g15 g16) H1 := hB
  have hD : va_D A (wT a q L R g0 g1 g2 g3 g4 r2.2 g6 g7 g8 g9 g10 g11 g12 g13 g14 g15 g16) := dD hD rfl
  have hSz : s.heap.size ≤ H1.size := hS.1
  clear hk1 hz1 hPc hF hB ht
  generalize H1 = H at hP hS hSz  ⊢
  refine lv_if_eq (tgt := 11) hx hb (dt_at dt_Rd_readMark 3 rfl) (by decide) (fun c3 => ?_) (fun c3 => ?_)
  · have h := if_p h c3
    refine lv_aload_n hx hb (dt_at dt_Rd_readMark 6 rfl) rfl (lv_at hl 0 rfl) ?_
    refine va_ldcS (tx := "dac") (q := adK 6) hx hb hown (hSt.1 6 (by decide)) (dt_at dt_Rd_readMark 7 rfl) ?_
    obtain ⟨r5, h_r5, h⟩ := ob_of h
    have hPc := hP
    have hDc : va_D A (dT a) := dD (ws' := dT a) hD rfl
    have hKc := hK
    have hF := va_free (wc := dT a) hDc hS hA [0, 1, 2, 3, 4, 5, 6, 7, 8] rfl
    have hd : va_D (fun _ => True) (dT a) := hDc.weaken (fun _ _ _ _ => trivial)
    refine va_calli (va_runV (As := [.ref (adK 6)]) (rest := []) ⟨hx, hb, hml, hown, hts⟩ (c_Rd_takeWord l D a q L R hd H.size 6 g0 g1 g2 g3 g4 r2.2 g6 g7 g8 g9 g10 g11 g12 g13 g14 g15 g16  n0 adK adV (fun x h9 => hAn x (hF x h9))  r5 h_r5) (cwV 1 hts (gd_V (m_2 156 rfl rfl) (m_2 158 rfl rfl) (m_s 8 rfl rfl) (m_1 2 rfl rfl) (m_2 159 rfl rfl)) rfl rfl rfl (by decide +kernel) ⟨Nat.le_of_ble_eq_true rfl, Nat.le_of_ble_eq_true rfl⟩) ⟨fun a U g mk q => ⟨q.1, q.2.1, q.2.2.1, va_K.moved (u := U) (U := U.calling g mk a) (Vm.Alike.refl U.vm) q.2.2.2.1, isS.call q.2.2.2.2⟩, va_recv hK hP (ci := 2) (q0 := 3) rfl rfl, fun U hU hW => ⟨rfl, by rw [hU], by rw [hU]; exact hPc, va_K.moved hW.alike hKc, hSt.go hS hAn hU hW⟩⟩ rfl rfl hl.1 rfl (lv_room (Nat.le_of_ble_eq_true rfl)) (dt_at dt_Rd_readMark 8 rfl) ⟨Nat.le_of_ble_eq_true rfl, Nat.le_of_ble_eq_true rfl⟩) hS (fun x _ h9 => hF x h9) hF (fun u_r5 uu t H1 locs ht hvm hw hB hz1 hk1 hS => ?_)
    subst hw
    rw [ht] at hB
    have hP : va_P D CLS (wT a q L R g0 g1 g2 g3 g4 r5.2 g6 g7 g8 g9 g10 g11 g12 g13 g14 g15 g16) H1 := hB
    have hD : va_D A (wT a q L R g0 g1 g2 g3 g4 r5.2 g6 g7 g8 g9 g10 g11 g12 g13 g14 g15 g16) := dD hD rfl
    have hSz : s.heap.size ≤ H1.size := hS.1
    clear hk1 hz1 hPc hF hB ht
    generalize H1 = H at hP hS hSz  ⊢
    refine lv_if_eq (tgt := 22) hx hb (dt_at dt_Rd_readMark 9 rfl) (by decide) (fun c6 => ?_) (fun c6 => ?_)
    · have h := if_p h c6
      refine lv_aload_n hx hb (dt_at dt_Rd_readMark 12 rfl) rfl (lv_at hl 0 rfl) ?_
      refine va_ldcS (tx := "def") (q := adK 7) hx hb hown (hSt.1 7 (by decide)) (dt_at dt_Rd_readMark 13 rfl) ?_
      obtain ⟨r8, h_r8, h⟩ := ob_of h
      have hPc := hP
      have hDc : va_D A (dT a) := dD (ws' := dT a) hD rfl
      have hKc := hK
      have hF := va_free (wc := dT a) hDc hS hA [0, 1, 2, 3, 4, 5, 6, 7, 8] rfl
      have hd : va_D (fun _ => True) (dT a) := hDc.weaken (fun _ _ _ _ => trivial)
      refine va_calli (va_runV (As := [.ref (adK 7)]) (rest := []) ⟨hx, hb, hml, hown, hts⟩ (c_Rd_takeWord l D a q L R hd H.size 7 g0 g1 g2 g3 g4 r5.2 g6 g7 g8 g9 g10 g11 g12 g13 g14 g15 g16  n0 adK adV (fun x h9 => hAn x (hF x h9))  r8 h_r8) (cwV 1 hts (gd_V (m_2 156 rfl rfl) (m_2 158 rfl rfl) (m_s 8 rfl rfl) (m_1 2 rfl rfl) (m_2 159 rfl rfl)) rfl rfl rfl (by decide +kernel) ⟨Nat.le_of_ble_eq_true rfl, Nat.le_of_ble_eq_true rfl⟩) ⟨fun a U g mk q => ⟨q.1, q.2.1, q.2.2.1, va_K.moved (u := U) (U := U.calling g mk a) (Vm.Alike.refl U.vm) q.2.2.2.1, isS.call q.2.2.2.2⟩, va_recv hK hP (ci := 2) (q0 := 3) rfl rfl, fun U hU hW => ⟨rfl, by rw [hU], by rw [hU]; exact hPc, va_K.moved hW.alike hKc, hSt.go hS hAn hU hW⟩⟩ rfl rfl hl.1 rfl (lv_room (Nat.le_of_ble_eq_true rfl)) (dt_at dt_Rd_readMark 14 rfl) ⟨Nat.le_of_ble_eq_true rfl, Nat.le_of_ble_eq_true rfl⟩) hS (fun x _ h9 => hF x h9) hF (fun u_r8 uu t H1 locs ht hvm hw hB hz1 hk1 hS => ?_)
      subst hw
      rw [ht] at hB
      have hP : va_P D CLS (wT a q L R g0 g1 g2 g3 g4 r8.2 g6 g7 g8 g9 g10 g11 g12 g13 g14 g15 g16) H1 := hB
      have hD : va_D A (wT a q L R g0 g1 g2 g3 g4 r8.2 g6 g7 g8 g9 g10 g11 g12 g13 g14 g15 g16) := dD hD rfl
      have hSz : s.heap.size ≤ H1.size := hS.1
      clear hk1 hz1 hPc hF hB ht
      generalize H1 = H at hP hS hSz  ⊢
      refine lv_if_eq (tgt := 33) hx hb (dt_at dt_Rd_readMark 15 rfl) (by decide) (fun c9 => ?_) (fun c9 => ?_)
      · have h := if_p h c9
        refine lv_aload_n hx hb (dt_at dt_Rd_readMark 18 rfl) rfl (lv_at hl 0 rfl) ?_
        refine va_ldcS (tx := "trv") (q := adK 8) hx hb hown (hSt.1 8 (by decide)) (dt_at dt_Rd_readMark 19 rfl) ?_
        obtain ⟨r11, h_r11, h⟩ := ob_of h
        have hPc := hP
        have hDc : va_D A (dT a) := dD (ws' := dT a) hD rfl
        have hKc := hK
        have hF := va_free (wc := dT a) hDc hS hA [0, 1, 2, 3, 4, 5, 6, 7, 8] rfl
        have hd : va_D (fun _ => True) (dT a) := hDc.weaken (fun _ _ _ _ => trivial)
        refine va_calli (va_runV (As := [.ref (adK 8)]) (rest := []) ⟨hx, hb, hml, hown, hts⟩ (c_Rd_takeWord l D a q L R hd H.size 8 g0 g1 g2 g3 g4 r8.2 g6 g7 g8 g9 g10 g11 g12 g13 g14 g15 g16  n0 adK adV (fun x h9 => hAn x (hF x h9))  r11 h_r11) (cwV 1 hts (gd_V (m_2 156 rfl rfl) (m_2 158 rfl rfl) (m_s 8 rfl rfl) (m_1 2 rfl rfl) (m_2 159 rfl rfl)) rfl rfl rfl (by decide +kernel) ⟨Nat.le_of_ble_eq_true rfl, Nat.le_of_ble_eq_true rfl⟩) ⟨fun a U g mk q => ⟨q.1, q.2.1, q.2.2.1, va_K.moved (u := U) (U := U.calling g mk a) (Vm.Alike.refl U.vm) q.2.2.2.1, isS.call q.2.2.2.2⟩, va_recv hK hP (ci := 2) (q0 := 3) rfl rfl, fun U hU hW => ⟨rfl, by rw [hU], by rw [hU]; exact hPc, va_K.moved hW.alike hKc, hSt.go hS hAn hU hW⟩⟩ rfl rfl hl.1 rfl (lv_room (Nat.le_of_ble_eq_true rfl)) (dt_at dt_Rd_readMark 20 rfl) ⟨Nat.le_of_ble_eq_true rfl, Nat.le_of_ble_eq_true rfl⟩) hS (fun x _ h9 => hF x h9) hF (fun u_r11 uu t H1 locs ht hvm hw hB hz1 hk1 hS => ?_)
        subst hw
        rw [ht] at hB
        have hP : va_P D CLS (wT a q L R g0 g1 g2 g3 g4 r11.2 g6 g7 g8 g9 g10 g11 g12 g13 g14 g15 g16) H1 := hB
        have hD : va_D A (wT a q L R g0 g1 g2 g3 g4 r11.2 g6 g7 g8 g9 g10 g11 g12 g13 g14 g15 g16) := dD hD rfl
        have hSz : s.heap.size ≤ H1.size := hS.1
        clear hk1 hz1 hPc hF hB ht
        generalize H1 = H at hP hS hSz  ⊢
        refine lv_if_eq (tgt := 46) hx hb (dt_at dt_Rd_readMark 21 rfl) (by decide) (fun c12 => ?_) (fun c12 => ?_)
        · have h := if_p h c12
          refine lv_iconst (v := 0) hx hb (dt_at dt_Rd_readMark 24 rfl) (by decide) ?_
          exact k_Rd_readMark_47 hC hA hK hSt hAn   (0 : Int32) r11.2 H locs ls hP hD hS   (lv_sub hl [] rfl) h
        · have h := if_n h c12
          refine lv_iconst (v := 1) hx hb (dt_at dt_Rd_readMark 22 rfl) (by decide) ?_
          refine lv_goto (tgt := 47) hx hb (dt_at dt_Rd_readMark 23 rfl) (by decide) ?_
          exact k_Rd_readMark_47 hC hA hK hSt hAn   (1 : Int32) r11.2 H locs ls hP hD hS   (lv_sub hl [] rfl) h
      · have h := if_n h c9
        refine lv_iconst (v := 2) hx hb (dt_at dt_Rd_readMark 16 rfl) (by decide) ?_
        obtain rfl := os_of h
        exact W.iret (v := (2 : Int32)) hx hb hr (fun t ht hW => ⟨⟨_, (), rfl, rfl, (hPt hP ht)⟩, hS.F ht⟩) hS.2.2 (dt_at dt_Rd_readMark 17 rfl)
    · have h := if_n h c6
      refine lv_iconst (v := 3) hx hb (dt_at dt_Rd_readMark 10 rfl) (by decide) ?_
      obtain rfl := os_of h
      exact W.iret (v := (3 : Int32)) hx hb hr (fun t ht hW => ⟨⟨_, (), rfl, rfl, (hPt hP ht)⟩, hS.F ht⟩) hS.2.2 (dt_at dt_Rd_readMark 11 rfl)
  · have h := if_n h c3
    refine lv_iconst (v := 4) hx hb (dt_at dt_Rd_readMark 4 rfl) (by decide) ?_
    obtain rfl := os_of h
    exact W.iret (v := (4 : Int32)) hx hb hr (fun t ht hW => ⟨⟨_, (), rfl, rfl, (hPt hP ht)⟩, hS.F ht⟩) hS.2.2 (dt_at dt_Rd_readMark 5 rfl)
set_option maxRecDepth 100000 in
set_option maxHeartbeats 4000000 in
theorem c_Rd_readMark (l : Launch) (D : va_G) (a : Nat → Nat) (q : Nat → ClassId) (L : Nat) (R : Nat) (hd : va_D (fun _ => True) (dT a)) (sz : Nat)  (g0 : Int32) (g1 : Int32) (g2 : Nat → Int32) (g3 : Nat → Option Nat) (g4 : Int32) (g5 : Int32) (g6 : Nat → Int32) (g7 : Int32) (g8 : Int64) (g9 : Int32) (g10 : Int32) (g11 : Nat → Int32) (g12 : Int32) (g13 : Int64) (g14 : Int32) (g15 : Int32) (g16 : Nat → Int32)  (n0 : Nat) (adK adV : Nat → Nat) (hn0 : ∀ x, va_A (dT a) sz x → n0 ≤ x)  (r0 : Int32 × Int32) (h : f_Rd_readMark g4 g5 g6 = some r0) : Met l (⟨"OutwardTape$LiteralReader", "readMark", "()I"⟩ : MethodName) (WSm (⟨"OutwardTape$LiteralReader", "readMark", "()I"⟩ : MethodName) prog_5_method_5_code 1 (some .int)) rm_Rd_readMark (va_Pc [.ref (a 3)] (fun U => U.heap.size = sz ∧ va_P D CLS (wT a q L R g0 g1 g2 g3 g4 g5 g6 g7 g8 g9 g10 g11 g12 g13 g14 g15 g16) U.heap ∧ va_K D CLS (tT q) U ∧ isS n0 adK adV U)) (va_Qi (fun (r : Int32) (_ : Unit) => r = r0.1) (fun _ t => va_P D CLS (wT a q L R g0 g1 g2 g3 g4 r0.2 g6 g7 g8 g9 g10 g11 g12 g13 g14 g15 g16) t.heap) (va_A (dT a) sz)) 0 0 (va_A (dT a) sz) := by
  refine Met.ofW (cc := prog_5_method_5_code) (maxL := 1) (ret := (some .int)) (by decide) rfl ?_
  intro p e s m args below meth c s₁ B hml hv
  obtain ⟨rfl, hsz, hP, hK, hSt⟩ := hv
  subst hsz
  have hC := CX.of B hml rfl
  have hl := lv_entry [.ref (a 3)] (n := 1) (Nat.le_of_ble_eq_true rfl)
  rw [lg_entry_eq]
  generalize (lg_sl [.ref (a 3)] ++ List.replicate (1 - (lg_sl [.ref (a 3)]).length) Slot.unset).toArray = ls at hl ⊢
  have hl : lv_has ls 1 [(0, .ref (a 3))] := hl
  exact k_Rd_readMark_0  hC (fun x h => Or.inr h) hK hSt hn0  g5   s.heap [] ls hP (dD hd.self rfl) va_S.rf   (lv_sub hl [0] rfl) h
abbrev rm_Rd_readNamed : Room := { frames := 5, cells := 2, slots := 6, locals := 118 }
set_option maxRecDepth 100000 in
set_option maxHeartbeats 4000000 in
theorem k_Rd_readNamed_70 {p : Program} {l : Launch} {e : Env} {s : State} {m : MethodId} {args : Array Value} {below : List Frame} {meth : Method} {c : Code} {D : va_G} {a : Nat → Nat} {q : Nat → ClassId} {PL : List Nat} {A : Nat → Prop} (hC : CX p s m args meth c prog_5_method_6_code 1 "OutwardTape$LiteralReader" (some (.object "OutwardTape$Cell"))) (hA : ∀ x, s.heap.size ≤ x → A x) (hK : va_K D CLS (tT q) s) {n0 : Nat} {adK adV : Nat → Nat} (hSt : isS n0 adK adV s) (hAn : ∀ x, A x → n0 ≤ x) {g0 : Int32} {g1 : Int32} {g2 : Nat → Int32} {g3 : Nat → Option Nat} {g4 : Int32} {g6 : Nat → Int32} {g7 : Int32} {g8 : Int64} {g9 : Int32} {g10 : Int32} {g11 : Nat → Int32} {g12 : Int32} {g13 : Int64} {g14 : Int32} {g15 : Int32} {g16 : Nat → Int32} {r0 : Int64 × Int64 × Int32 × Int32} : ∀ (s0_l : Int64) (s0_h : Int64) (s0_m : Int32) (g5 : Int32) (y_s0 : Nat) (H : Heap) (locs : List Loc) (ls : Array Slot), va_P D CLS (wT a q (a 5) (a 7) g0 g1 g2 g3 g4 g5 g6 g7 g8 g9 g10 g11 g12 g13 g14 g15 g16) H → va_D A (wT a q (a 5) (a 7) g0 g1 g2 g3 g4 g5 g6 g7 g8 g9 g10 g11 g12 g13 g14 g15 g16) → va_S A s.heap H locs → isC D H y_s0 s0_l s0_h s0_m → (s.heap.size ≤ y_s0 ∨ y_s0 ∈ PL) → nin (dT a) y_s0 → lv_has ls 1 [] → f_Rd_readNamed_70  s0_l s0_h s0_m g4 g5 g6 = some r0 → W p l e rm_Rd_readNamed s m args below meth c H locs 2 6 (MQ below (va_Qr (fun _ : Unit => True) (fun _ ra t => (va_P D CLS (wT a q (a 5) (a 7) g0 g1 g2 g3 g4 r0.2.2.2 g6 g7 g8 g9 g10 g11 g12 g13 g14 g15 g16) t.heap) ∧ isC D t.heap ra r0.1 r0.2.1 r0.2.2.1 ∧ (s.heap.size ≤ ra ∨ ra ∈ PL)) A) args s 2 6 A) (F0 m 70 ls [.ref y_s0]) := by
  obtain ⟨hx, hb, hml, hown, hts, hr, hlocks⟩ := id hC
  intro s0_l s0_h s0_m g5 y_s0 H locs ls hP hD hS hc_s0 hf_s0 hn_s0 hl h
  rw [f_Rd_readNamed_70] at h
  have hSz : s.heap.size ≤ H.size := hS.1
  obtain rfl := os_of h
  exact W.aret hx hb hr (Or.inl ⟨_, rfl⟩) (Or.inr ⟨_, rfl⟩) (fun t ht hW => ⟨⟨(), y_s0, rfl, trivial, (hPt hP ht), hPt hc_s0 ht, hf_s0⟩, hS.F ht⟩) hS.2.2 (dt_at dt_Rd_readNamed 29 rfl)
set_option maxRecDepth 100000 in
set_option maxHeartbeats 4000000 in
theorem k_Rd_readNamed_38 {p : Program} {l : Launch} {e : Env} {s : State} {m : MethodId} {args : Array Value} {below : List Frame} {meth : Method} {c : Code} {D : va_G} {a : Nat → Nat} {q : Nat → ClassId} {PL : List Nat} {A : Nat → Prop} (hC : CX p s m args meth c prog_5_method_6_code 1 "OutwardTape$LiteralReader" (some (.object "OutwardTape$Cell"))) (hA : ∀ x, s.heap.size ≤ x → A x) (hK : va_K D CLS (tT q) s) {n0 : Nat} {adK adV : Nat → Nat} (hSt : isS n0 adK adV s) (hAn : ∀ x, A x → n0 ≤ x) {g0 : Int32} {g1 : Int32} {g2 : Nat → Int32} {g3 : Nat → Option Nat} {g4 : Int32} {g6 : Nat → Int32} {g7 : Int32} {g8 : Int64} {g9 : Int32} {g10 : Int32} {g11 : Nat → Int32} {g12 : Int32} {g13 : Int64} {g14 : Int32} {g15 : Int32} {g16 : Nat → Int32} {r0 : Int64 × Int64 × Int32 × Int32} : ∀ (s0_l : Int64) (s0_h : Int64) (s0_m : Int32) (g5 : Int32) (y_s0 : Nat) (H : Heap) (locs : List Loc) (ls : Array Slot), va_P D CLS (wT a q (a 5) (a 7) g0 g1 g2 g3 g4 g5 g6 g7 g8 g9 g10 g11 g12 g13 g14 g15 g16) H → va_D A (wT a q (a 5) (a 7) g0 g1 g2 g3 g4 g5 g6 g7 g8 g9 g10 g11 g12 g13 g14 g15 g16) → va_S A s.heap H locs → isC D H y_s0 s0_l s0_h s0_m → (s.heap.size ≤ y_s0 ∨ y_s0 ∈ PL) → nin (dT a) y_s0 → lv_has ls 1 [] → f_Rd_readNamed_38  s0_l s0_h s0_m g4 g5 g6 = some r0 → W p l e rm_Rd_readNamed s m args below meth c H locs 1 3 (MQ below (va_Qr (fun _ : Unit => True) (fun _ ra t => (va_P D CLS (wT a q (a 5) (a 7) g0 g1 g2 g3 g4 r0.2.2.2 g6 g7 g8 g9 g10 g11 g12 g13 g14 g15 g16) t.heap) ∧ isC D t.heap ra r0.1 r0.2.1 r0.2.2.1 ∧ (s.heap.size ≤ ra ∨ ra ∈ PL)) A) args s 2 6 A) (F0 m 38 ls [.ref y_s0]) := by
  obtain ⟨hx, hb, hml, hown, hts, hr, hlocks⟩ := id hC
  intro s0_l s0_h s0_m g5 y_s0 H locs ls hP hD hS hc_s0 hf_s0 hn_s0 hl h
  rw [f_Rd_readNamed_38] at h
  have hSz : s.heap.size ≤ H.size := hS.1
  obtain rfl := os_of h
  refine W.widen (k := 2) (n := 6) (Nat.le_of_ble_eq_true rfl) (Nat.le_of_ble_eq_true rfl) ?_
  exact W.aret hx hb hr (Or.inl ⟨_, rfl⟩) (Or.inr ⟨_, rfl⟩) (fun t ht hW => ⟨⟨(), y_s0, rfl, trivial, (hPt hP ht), hPt hc_s0 ht, hf_s0⟩, hS.F ht⟩) hS.2.2 (dt_at dt_Rd_readNamed 16 rfl)
set_option maxRecDepth 100000 in
set_option maxHeartbeats 4000000 in
theorem k_Rd_readNamed_0 {p : Program} {l : Launch} {e : Env} {s : State} {m : MethodId} {args : Array Value} {below : List Frame} {meth : Method} {c : Code} {D : va_G} {a : Nat → Nat} {q : Nat → ClassId} {PL : List Nat} {A : Nat → Prop} (hC : CX p s m args meth c prog_5_method_6_code 1 "OutwardTape$LiteralReader" (some (.object "OutwardTape$Cell"))) (hA : ∀ x, s.heap.size ≤ x → A x) (hK : va_K D CLS (tT q) s) {n0 : Nat} {adK adV : Nat → Nat} (hSt : isS n0 adK adV s) (hAn : ∀ x, A x → n0 ≤ x) {g0 : Int32} {g1 : Int32} {g2 : Nat → Int32} {g3 : Nat → Option Nat} {g4 : Int32} {g6 : Nat → Int32} {g7 : Int32} {g8 : Int64} {g9 : Int32} {g10 : Int32} {g11 : Nat → Int32} {g12 : Int32} {g13 : Int64} {g14 : Int32} {g15 : Int32} {g16 : Nat → Int32} {r0 : Int64 × Int64 × Int32 × Int32} : ∀  (g5 : Int32) (H : Heap) (locs : List Loc) (ls : Array Slot), va_P D CLS (wT a q (a 5) (a 7) g0 g1 g2 g3 g4 g5 g6 g7 g8 g9 g10 g11 g12 g13 g14 g15 g16) H → va_D A (wT a q (a 5) (a 7) g0 g1 g2 g3 g4 g5 g6 g7 g8 g9 g10 g11 g12 g13 g14 g15 g16) → va_S A s.heap H locs → lv_has ls 1 [(0, .ref (a 3))] → f_Rd_readNamed_0  g4 g5 g6 = some r0 → W p l e rm_Rd_readNamed s m args below meth c H locs 0 0 (MQ below (va_Qr (fun _ : Unit => True) (fun _ ra t => (va_P D CLS (wT a q (a 5) (a 7) g0 g1 g2 g3 g4 r0.2.2.2 g6 g7 g8 g9 g10 g11 g12 g13 g14 g15 g16) t.heap) ∧ isC D t.heap ra r0.1 r0.2.1 r0.2.2.1 ∧ (s.heap.size ≤ ra ∨ ra ∈ PL)) A) args s 2 6 A) (F0 m 0 ls []) := by
  obtain ⟨hx, hb, hml, hown, hts, hr, hlocks⟩ := id hC
  intro g5 H locs ls hP hD hS hl h
  rw [f_Rd_readNamed_0] at h
  have hSz : s.heap.size ≤ H.size := hS.1
  refine lv_aload_n hx hb (dt_at dt_Rd_readNamed 0 rfl) rfl (lv_at hl 0 rfl) ?_
  refine lv_bipush (v := 93) hx hb (dt_at dt_Rd_readNamed 1 rfl) (by decide) ?_
  obtain ⟨r1, h_r1, h⟩ := ob_of h
  have hPc := hP
  have hDc : va_D A (dT a) := dD (ws' := dT a) hD rfl
  have hKc := hK
  have hF := va_free (wc := dT a) hDc hS hA [0, 1, 2, 3, 4, 5, 6, 7, 8] rfl
  have hd : va_D (fun _ => True) (dT a) := hDc.weaken (fun _ _ _ _ => trivial)
  refine va_calli (va_runV (As := [.int (93 : Int32)]) (rest := []) ⟨hx, hb, hml, hown, hts⟩ (c_Rd_take l D a q (a 5) (a 7) hd H.size (93 : Int32) g0 g1 g2 g3 g4 g5 g6 g7 g8 g9 g10 g11 g12 g13 g14 g15 g16   r1 h_r1) (cwV 1 hts (gd_V (m_2 100 rfl rfl) (m_2 102 rfl rfl) (m_s 4 rfl rfl) (m_1 2 rfl rfl) (m_2 103 rfl rfl)) rfl rfl rfl (by decide +kernel) ⟨Nat.le_of_ble_eq_true rfl, Nat.le_of_ble_eq_true rfl⟩) ⟨fun a U g mk q => ⟨q.1, q.2.1, q.2.2.1, va_K.moved (u := U) (U := U.calling g mk a) (Vm.Alike.refl U.vm) q.2.2.2⟩, va_recv hK hP (ci := 2) (q0 := 3) rfl rfl, fun U hU hW => ⟨rfl, by rw [hU], by rw [hU]; exact hPc, va_K.moved hW.alike hKc⟩⟩ rfl rfl hl.1 rfl (lv_room (Nat.le_of_ble_eq_true rfl)) (dt_at dt_Rd_readNamed 2 rfl) ⟨Nat.le_of_ble_eq_true rfl, Nat.le_of_ble_eq_true rfl⟩) hS (fun x _ h9 => hF x h9) hF (fun u_r1 uu t H1 locs ht hvm hw hB hz1 hk1 hS => ?_)
  subst hw
  rw [ht] at hB
  have hP : va_P D CLS (wT a q (a 5) (a 7) g0 g1 g2 g3 g4 r1.2 g6 g7 g8 g9 g10 g11 g12 g13 g14 g15 g16) H1 := hB
  have hD : va_D A (wT a q (a 5) (a 7) g0 g1 g2 g3 g4 r1.2 g6 g7 g8 g9 g10 g11 g12 g13 g14 g15 g16) := dD hD rfl
  have hSz : s.heap.size ≤ H1.size := hS.1
  clear hk1 hz1 hPc hF hB ht
  generalize H1 = H at hP hS hSz  ⊢
  refine lv_if_eq (tgt := 13) hx hb (dt_at dt_Rd_readNamed 3 rfl) (by decide) (fun c2 => ?_) (fun c2 => ?_)
  · have h := if_p h c2
    refine lv_aload_n hx hb (dt_at dt_Rd_readNamed 6 rfl) rfl (lv_at hl 0 rfl) ?_
    refine va_ldcS (tx := "empty") (q := adK 1) hx hb hown (hSt.1 1 (by decide)) (dt_at dt_Rd_readNamed 7 rfl) ?_
    obtain ⟨r4, h_r4, h⟩ := ob_of h
    have hPc := hP
    have hDc : va_D A (dT a) := dD (ws' := dT a) hD rfl
    have hKc := hK
    have hF := va_free (wc := dT a) hDc hS hA [0, 1, 2, 3, 4, 5, 6, 7, 8] rfl
    have hd : va_D (fun _ => True) (dT a) := hDc.weaken (fun _ _ _ _ => trivial)
    refine va_calli (va_runV (As := [.ref (adK 1)]) (rest := []) ⟨hx, hb, hml, hown, hts⟩ (c_Rd_takeWord l D a q (a 5) (a 7) hd H.size 1 g0 g1 g2 g3 g4 r1.2 g6 g7 g8 g9 g10 g11 g12 g13 g14 g15 g16  n0 adK adV (fun x h9 => hAn x (hF x h9))  r4 h_r4) (cwV 1 hts (gd_V (m_2 156 rfl rfl) (m_2 158 rfl rfl) (m_s 8 rfl rfl) (m_1 2 rfl rfl) (m_2 159 rfl rfl)) rfl rfl rfl (by decide +kernel) ⟨Nat.le_of_ble_eq_true rfl, Nat.le_of_ble_eq_true rfl⟩) ⟨fun a U g mk q => ⟨q.1, q.2.1, q.2.2.1, va_K.moved (u := U) (U := U.calling g mk a) (Vm.Alike.refl U.vm) q.2.2.2.1, isS.call q.2.2.2.2⟩, va_recv hK hP (ci := 2) (q0 := 3) rfl rfl, fun U hU hW => ⟨rfl, by rw [hU], by rw [hU]; exact hPc, va_K.moved hW.alike hKc, hSt.go hS hAn hU hW⟩⟩ rfl rfl hl.1 rfl (lv_room (Nat.le_of_ble_eq_true rfl)) (dt_at dt_Rd_readNamed 8 rfl) ⟨Nat.le_of_ble_eq_true rfl, Nat.le_of_ble_eq_true rfl⟩) hS (fun x _ h9 => hF x h9) hF (fun u_r4 uu t H1 locs ht hvm hw hB hz1 hk1 hS => ?_)
    subst hw
    rw [ht] at hB
    have hP : va_P D CLS (wT a q (a 5) (a 7) g0 g1 g2 g3 g4 r4.2 g6 g7 g8 g9 g10 g11 g12 g13 g14 g15 g16) H1 := hB
    have hD : va_D A (wT a q (a 5) (a 7) g0 g1 g2 g3 g4 r4.2 g6 g7 g8 g9 g10 g11 g12 g13 g14 g15 g16) := dD hD rfl
    have hSz : s.heap.size ≤ H1.size := hS.1
    clear hk1 hz1 hPc hF hB ht
    generalize H1 = H at hP hS hSz  ⊢
    refine lv_if_eq (tgt := 39) hx hb (dt_at dt_Rd_readNamed 9 rfl) (by decide) (fun c5 => ?_) (fun c5 => ?_)
    · have h := if_p h c5
      refine lv_aload_n hx hb (dt_at dt_Rd_readNamed 17 rfl) rfl (lv_at hl 0 rfl) ?_
      refine va_ldcS (tx := "entire") (q := adK 2) hx hb hown (hSt.1 2 (by decide)) (dt_at dt_Rd_readNamed 18 rfl) ?_
      obtain ⟨r7, h_r7, h⟩ := ob_of h
      have hPc := hP
      have hDc : va_D A (dT a) := dD (ws' := dT a) hD rfl
      have hKc := hK
      have hF := va_free (wc := dT a) hDc hS hA [0, 1, 2, 3, 4, 5, 6, 7, 8] rfl
      have hd : va_D (fun _ => True) (dT a) := hDc.weaken (fun _ _ _ _ => trivial)
      refine va_calli (va_runV (As := [.ref (adK 2)]) (rest := []) ⟨hx, hb, hml, hown, hts⟩ (c_Rd_takeWord l D a q (a 5) (a 7) hd H.size 2 g0 g1 g2 g3 g4 r4.2 g6 g7 g8 g9 g10 g11 g12 g13 g14 g15 g16  n0 adK adV (fun x h9 => hAn x (hF x h9))  r7 h_r7) (cwV 1 hts (gd_V (m_2 156 rfl rfl) (m_2 158 rfl rfl) (m_s 8 rfl rfl) (m_1 2 rfl rfl) (m_2 159 rfl rfl)) rfl rfl rfl (by decide +kernel) ⟨Nat.le_of_ble_eq_true rfl, Nat.le_of_ble_eq_true rfl⟩) ⟨fun a U g mk q => ⟨q.1, q.2.1, q.2.2.1, va_K.moved (u := U) (U := U.calling g mk a) (Vm.Alike.refl U.vm) q.2.2.2.1, isS.call q.2.2.2.2⟩, va_recv hK hP (ci := 2) (q0 := 3) rfl rfl, fun U hU hW => ⟨rfl, by rw [hU], by rw [hU]; exact hPc, va_K.moved hW.alike hKc, hSt.go hS hAn hU hW⟩⟩ rfl rfl hl.1 rfl (lv_room (Nat.le_of_ble_eq_true rfl)) (dt_at dt_Rd_readNamed 19 rfl) ⟨Nat.le_of_ble_eq_true rfl, Nat.le_of_ble_eq_true rfl⟩) hS (fun x _ h9 => hF x h9) hF (fun u_r7 uu t H1 locs ht hvm hw hB hz1 hk1 hS => ?_)
      subst hw
      rw [ht] at hB
      have hP : va_P D CLS (wT a q (a 5) (a 7) g0 g1 g2 g3 g4 r7.2 g6 g7 g8 g9 g10 g11 g12 g13 g14 g15 g16) H1 := hB
      have hD : va_D A (wT a q (a 5) (a 7) g0 g1 g2 g3 g4 r7.2 g6 g7 g8 g9 g10 g11 g12 g13 g14 g15 g16) := dD hD rfl
      have hSz : s.heap.size ≤ H1.size := hS.1
      clear hk1 hz1 hPc hF hB ht
      generalize H1 = H at hP hS hSz  ⊢
      refine lv_if_eq (tgt := 71) hx hb (dt_at dt_Rd_readNamed 20 rfl) (by decide) (fun c8 => ?_) (fun c8 => ?_)
      · have h := if_p h c8
        obtain ⟨r9, h_r9, h⟩ := ob_of h
        have hPc : va_P D CLS (wE a q) H := fun k q h => by simp [wE] at h
        have hd : va_D (fun _ => True) (dE a) := dE_D a
        have hKc : va_K D CLS (tE q) s := hK.sub (tys' := []) [] rfl
        have hF : ∀ x, va_A (dE a) H.size x → A x := fun x h9 => h9.elim (fun ⟨k, e, h⟩ => by simp [dE] at h) (fun g => hA _ (Nat.le_trans hS.1 g))
        refine va_callr (va_runS (As := []) (rest := []) ⟨hx, hb, hml, hown, hts⟩ (c_Cell_ill l D a q  hd H.size     r9 h_r9) (va_cwS 0 hts (gd_S (m_2 108 rfl rfl) (m_2 109 rfl rfl) (m_1 10 rfl rfl) (m_2 110 rfl rfl)) rfl rfl rfl (by decide +kernel) ⟨Nat.le_of_ble_eq_true rfl, Nat.le_of_ble_eq_true rfl⟩) ⟨fun a U g mk q => ⟨q.1, q.2.1, q.2.2.1, va_K.moved (u := U) (U := U.calling g mk a) (Vm.Alike.refl U.vm) q.2.2.2⟩, fun U hU hW => ⟨rfl, by rw [hU], by rw [hU]; exact hPc, va_K.moved hW.alike hKc⟩⟩ rfl rfl hl.1 rfl (lv_room (Nat.le_of_ble_eq_true rfl)) (dt_at dt_Rd_readNamed 30 rfl) ⟨Nat.le_of_ble_eq_true rfl, Nat.le_of_ble_eq_true rfl⟩) hS (fun x _ h9 => hF x h9) hF (fun uu y_r9 t H1 locs ht hvm hw hB hz1 hk1 hS => ?_)
        obtain ⟨hB, hc_r9, hq_r9⟩ := hB
        rw [ht] at hc_r9
        have hn_r9 : nin (dT a) y_r9 := nin_cases hq_r9 (fun g9 => nin_big hP g9 rfl) (fun g9 => by simp at g9)
        have hf_r9 : s.heap.size ≤ y_r9 ∨ y_r9 ∈ PL := nin_cases hq_r9 (fun g9 => Or.inl (Nat.le_trans hSz g9)) (fun g9 => by simp at g9)
        clear hq_r9
        have hP := va_P.kept hP (fun k q hq => hk1 _ (hP k q hq).lt (not_AE (hP k q hq).lt))
        refine W.widen (k := 1) (n := 3) (Nat.le_of_ble_eq_true rfl) (Nat.le_of_ble_eq_true rfl) ?_
        have hSz : s.heap.size ≤ H1.size := hS.1
        clear hk1 hz1 hPc hF hB ht
        generalize H1 = H at hP hS hSz hc_r9 ⊢
        obtain rfl := os_of h
        refine W.widen (k := 2) (n := 6) (Nat.le_of_ble_eq_true rfl) (Nat.le_of_ble_eq_true rfl) ?_
        exact W.aret hx hb hr (Or.inl ⟨_, rfl⟩) (Or.inr ⟨_, rfl⟩) (fun t ht hW => ⟨⟨(), y_r9, rfl, trivial, (hPt hP ht), hPt hc_r9 ht, hf_r9⟩, hS.F ht⟩) hS.2.2 (dt_at dt_Rd_readNamed 31 rfl)
      · have h := if_n h c8
        refine lv_aload_n hx hb (dt_at dt_Rd_readNamed 21 rfl) rfl (lv_at hl 0 rfl) ?_
        obtain ⟨r10, h_r10, h⟩ := ob_of h
        have hPc := hP
        have hDc : va_D A (dT a) := dD (ws' := dT a) hD rfl
        have hKc := hK
        have hF := va_free (wc := dT a) hDc hS hA [0, 1, 2, 3, 4, 5, 6, 7, 8] rfl
        have hd : va_D (fun _ => True) (dT a) := hDc.weaken (fun _ _ _ _ => trivial)
        refine va_calli (va_runV (As := []) (rest := []) ⟨hx, hb, hml, hown, hts⟩ (c_Rd_takeClosing l D a q (a 5) (a 7) hd H.size  g0 g1 g2 g3 g4 r7.2 g6 g7 g8 g9 g10 g11 g12 g13 g14 g15 g16   r10 h_r10) (cwV 0 hts (gd_V (m_2 208 rfl rfl) (m_2 210 rfl rfl) (m_s 9 rfl rfl) (m_1 2 rfl rfl) (m_2 211 rfl rfl)) rfl rfl rfl (by decide +kernel) ⟨Nat.le_of_ble_eq_true rfl, Nat.le_of_ble_eq_true rfl⟩) ⟨fun a U g mk q => ⟨q.1, q.2.1, q.2.2.1, va_K.moved (u := U) (U := U.calling g mk a) (Vm.Alike.refl U.vm) q.2.2.2⟩, va_recv hK hP (ci := 2) (q0 := 3) rfl rfl, fun U hU hW => ⟨rfl, by rw [hU], by rw [hU]; exact hPc, va_K.moved hW.alike hKc⟩⟩ rfl rfl hl.1 rfl (lv_room (Nat.le_of_ble_eq_true rfl)) (dt_at dt_Rd_readNamed 22 rfl) ⟨Nat.le_of_ble_eq_true rfl, Nat.le_of_ble_eq_true rfl⟩) hS (fun x _ h9 => hF x h9) hF (fun u_r10 uu t H1 locs ht hvm hw hB hz1 hk1 hS => ?_)
        subst hw
        rw [ht] at hB
        have hP : va_P D CLS (wT a q (a 5) (a 7) g0 g1 g2 g3 g4 r10.2 g6 g7 g8 g9 g10 g11 g12 g13 g14 g15 g16) H1 := hB
        have hD : va_D A (wT a q (a 5) (a 7) g0 g1 g2 g3 g4 r10.2 g6 g7 g8 g9 g10 g11 g12 g13 g14 g15 g16) := dD hD rfl
        have hSz : s.heap.size ≤ H1.size := hS.1
        clear hk1 hz1 hPc hF hB ht
        generalize H1 = H at hP hS hSz  ⊢
        refine lv_if_eq (tgt := 67) hx hb (dt_at dt_Rd_readNamed 23 rfl) (by decide) (fun c11 => ?_) (fun c11 => ?_)
        · have h := if_p h c11
          obtain ⟨r12, h_r12, h⟩ := ob_of h
          have hPc : va_P D CLS (wE a q) H := fun k q h => by simp [wE] at h
          have hd : va_D (fun _ => True) (dE a) := dE_D a
          have hKc : va_K D CLS (tE q) s := hK.sub (tys' := []) [] rfl
          have hF : ∀ x, va_A (dE a) H.size x → A x := fun x h9 => h9.elim (fun ⟨k, e, h⟩ => by simp [dE] at h) (fun g => hA _ (Nat.le_trans hS.1 g))
          refine va_callr (va_runS (As := []) (rest := []) ⟨hx, hb, hml, hown, hts⟩ (c_Cell_ill l D a q  hd H.size     r12 h_r12) (va_cwS 0 hts (gd_S (m_2 108 rfl rfl) (m_2 109 rfl rfl) (m_1 10 rfl rfl) (m_2 110 rfl rfl)) rfl rfl rfl (by decide +kernel) ⟨Nat.le_of_ble_eq_true rfl, Nat.le_of_ble_eq_true rfl⟩) ⟨fun a U g mk q => ⟨q.1, q.2.1, q.2.2.1, va_K.moved (u := U) (U := U.calling g mk a) (Vm.Alike.refl U.vm) q.2.2.2⟩, fun U hU hW => ⟨rfl, by rw [hU], by rw [hU]; exact hPc, va_K.moved hW.alike hKc⟩⟩ rfl rfl hl.1 rfl (lv_room (Nat.le_of_ble_eq_true rfl)) (dt_at dt_Rd_readNamed 28 rfl) ⟨Nat.le_of_ble_eq_true rfl, Nat.le_of_ble_eq_true rfl⟩) hS (fun x _ h9 => hF x h9) hF (fun uu y_r12 t H1 locs ht hvm hw hB hz1 hk1 hS => ?_)
          obtain ⟨hB, hc_r12, hq_r12⟩ := hB
          rw [ht] at hc_r12
          have hn_r12 : nin (dT a) y_r12 := nin_cases hq_r12 (fun g9 => nin_big hP g9 rfl) (fun g9 => by simp at g9)
          have hf_r12 : s.heap.size ≤ y_r12 ∨ y_r12 ∈ PL := nin_cases hq_r12 (fun g9 => Or.inl (Nat.le_trans hSz g9)) (fun g9 => by simp at g9)
          clear hq_r12
          have hP := va_P.kept hP (fun k q hq => hk1 _ (hP k q hq).lt (not_AE (hP k q hq).lt))
          refine W.widen (k := 1) (n := 3) (Nat.le_of_ble_eq_true rfl) (Nat.le_of_ble_eq_true rfl) ?_
          have hSz : s.heap.size ≤ H1.size := hS.1
          clear hk1 hz1 hPc hF hB ht
          generalize H1 = H at hP hS hSz hc_r12 ⊢
          refine W.widen (k := 2) (n := 6) (Nat.le_of_ble_eq_true rfl) (Nat.le_of_ble_eq_true rfl) ?_
          exact k_Rd_readNamed_70 (PL := PL) hC hA hK hSt hAn   r12.1 r12.2.1 r12.2.2 r10.2 y_r12 H locs ls hP hD hS  hc_r12 hf_r12 hn_r12 (lv_sub hl [] rfl) h
        · have h := if_n h c11
          refine lv_ldc2 (v := -9218868437227405312) hx hb hown (hts (Cond.constantLong "OutwardTape$LiteralReader" 114 (-9218868437227405312)) (m_2 213 rfl rfl)) (dt_at dt_Rd_readNamed 24 rfl) ?_
          refine lv_ldc2 (v := 9218868437227405312) hx hb hown (hts (Cond.constantLong "OutwardTape$LiteralReader" 116 (9218868437227405312)) (m_2 214 rfl rfl)) (dt_at dt_Rd_readNamed 25 rfl) ?_
          obtain ⟨r13, h_r13, h⟩ := ob_of h
          have hPc : va_P D CLS (wE a q) H := fun k q h => by simp [wE] at h
          have hd : va_D (fun _ => True) (dE a) := dE_D a
          have hKc : va_K D CLS (tE q) s := hK.sub (tys' := []) [] rfl
          have hF : ∀ x, va_A (dE a) H.size x → A x := fun x h9 => h9.elim (fun ⟨k, e, h⟩ => by simp [dE] at h) (fun g => hA _ (Nat.le_trans hS.1 g))
          refine va_callr (va_runS (As := [.long (-9218868437227405312 : Int64), .long (9218868437227405312 : Int64)]) (rest := []) ⟨hx, hb, hml, hown, hts⟩ (c_Rd_strongest l D a q  hd H.size (-9218868437227405312 : Int64) (9218868437227405312 : Int64)    r13 h_r13) (va_cwS 2 hts (gd_S (m_2 215 rfl rfl) (m_2 216 rfl rfl) (m_1 2 rfl rfl) (m_2 217 rfl rfl)) rfl rfl rfl (by decide +kernel) ⟨Nat.le_of_ble_eq_true rfl, Nat.le_of_ble_eq_true rfl⟩) ⟨fun a U g mk q => ⟨q.1, q.2.1, q.2.2.1, va_K.moved (u := U) (U := U.calling g mk a) (Vm.Alike.refl U.vm) q.2.2.2⟩, fun U hU hW => ⟨rfl, by rw [hU], by rw [hU]; exact hPc, va_K.moved hW.alike hKc⟩⟩ rfl rfl hl.1 rfl (lv_room (Nat.le_of_ble_eq_true rfl)) (dt_at dt_Rd_readNamed 26 rfl) ⟨Nat.le_of_ble_eq_true rfl, Nat.le_of_ble_eq_true rfl⟩) hS (fun x _ h9 => hF x h9) hF (fun uu y_r13 t H1 locs ht hvm hw hB hz1 hk1 hS => ?_)
          obtain ⟨hB, hc_r13, hq_r13⟩ := hB
          rw [ht] at hc_r13
          have hn_r13 : nin (dT a) y_r13 := nin_cases hq_r13 (fun g9 => nin_big hP g9 rfl) (fun g9 => by simp at g9)
          have hf_r13 : s.heap.size ≤ y_r13 ∨ y_r13 ∈ PL := nin_cases hq_r13 (fun g9 => Or.inl (Nat.le_trans hSz g9)) (fun g9 => by simp at g9)
          clear hq_r13
          have hP := va_P.kept hP (fun k q hq => hk1 _ (hP k q hq).lt (not_AE (hP k q hq).lt))
          refine W.widen (k := 2) (n := 6) (Nat.le_of_ble_eq_true rfl) (Nat.le_of_ble_eq_true rfl) ?_
          have hSz : s.heap.size ≤ H1.size := hS.1
          clear hk1 hz1 hPc hF hB ht
          generalize H1 = H at hP hS hSz hc_r13 ⊢
          refine lv_goto (tgt := 70) hx hb (dt_at dt_Rd_readNamed 27 rfl) (by decide) ?_
          exact k_Rd_readNamed_70 (PL := PL) hC hA hK hSt hAn   r13.1 r13.2.1 r13.2.2 r10.2 y_r13 H locs ls hP hD hS  hc_r13 hf_r13 hn_r13 (lv_sub hl [] rfl) h
    · have h := if_n h c5
      refine lv_aload_n hx hb (dt_at dt_Rd_readNamed 10 rfl) rfl (lv_at hl 0 rfl) ?_
      obtain ⟨r14, h_r14, h⟩ := ob_of h
      have hPc := hP
      have hDc : va_D A (dT a) := dD (ws' := dT a) hD rfl
      have hKc := hK
      have hF := va_free (wc := dT a) hDc hS hA [0, 1, 2, 3, 4, 5, 6, 7, 8] rfl
      have hd : va_D (fun _ => True) (dT a) := hDc.weaken (fun _ _ _ _ => trivial)
      refine va_calli (va_runV (As := []) (rest := []) ⟨hx, hb, hml, hown, hts⟩ (c_Rd_takeClosing l D a q (a 5) (a 7) hd H.size  g0 g1 g2 g3 g4 r4.2 g6 g7 g8 g9 g10 g11 g12 g13 g14 g15 g16   r14 h_r14) (cwV 0 hts (gd_V (m_2 208 rfl rfl) (m_2 210 rfl rfl) (m_s 9 rfl rfl) (m_1 2 rfl rfl) (m_2 211 rfl rfl)) rfl rfl rfl (by decide +kernel) ⟨Nat.le_of_ble_eq_true rfl, Nat.le_of_ble_eq_true rfl⟩) ⟨fun a U g mk q => ⟨q.1, q.2.1, q.2.2.1, va_K.moved (u := U) (U := U.calling g mk a) (Vm.Alike.refl U.vm) q.2.2.2⟩, va_recv hK hP (ci := 2) (q0 := 3) rfl rfl, fun U hU hW => ⟨rfl, by rw [hU], by rw [hU]; exact hPc, va_K.moved hW.alike hKc⟩⟩ rfl rfl hl.1 rfl (lv_room (Nat.le_of_ble_eq_true rfl)) (dt_at dt_Rd_readNamed 11 rfl) ⟨Nat.le_of_ble_eq_true rfl, Nat.le_of_ble_eq_true rfl⟩) hS (fun x _ h9 => hF x h9) hF (fun u_r14 uu t H1 locs ht hvm hw hB hz1 hk1 hS => ?_)
      subst hw
      rw [ht] at hB
      have hP : va_P D CLS (wT a q (a 5) (a 7) g0 g1 g2 g3 g4 r14.2 g6 g7 g8 g9 g10 g11 g12 g13 g14 g15 g16) H1 := hB
      have hD : va_D A (wT a q (a 5) (a 7) g0 g1 g2 g3 g4 r14.2 g6 g7 g8 g9 g10 g11 g12 g13 g14 g15 g16) := dD hD rfl
      have hSz : s.heap.size ≤ H1.size := hS.1
      clear hk1 hz1 hPc hF hB ht
      generalize H1 = H at hP hS hSz  ⊢
      refine lv_if_eq (tgt := 35) hx hb (dt_at dt_Rd_readNamed 12 rfl) (by decide) (fun c15 => ?_) (fun c15 => ?_)
      · have h := if_p h c15
        obtain ⟨r16, h_r16, h⟩ := ob_of h
        have hPc : va_P D CLS (wE a q) H := fun k q h => by simp [wE] at h
        have hd : va_D (fun _ => True) (dE a) := dE_D a
        have hKc : va_K D CLS (tE q) s := hK.sub (tys' := []) [] rfl
        have hF : ∀ x, va_A (dE a) H.size x → A x := fun x h9 => h9.elim (fun ⟨k, e, h⟩ => by simp [dE] at h) (fun g => hA _ (Nat.le_trans hS.1 g))
        refine va_callr (va_runS (As := []) (rest := []) ⟨hx, hb, hml, hown, hts⟩ (c_Cell_ill l D a q  hd H.size     r16 h_r16) (va_cwS 0 hts (gd_S (m_2 108 rfl rfl) (m_2 109 rfl rfl) (m_1 10 rfl rfl) (m_2 110 rfl rfl)) rfl rfl rfl (by decide +kernel) ⟨Nat.le_of_ble_eq_true rfl, Nat.le_of_ble_eq_true rfl⟩) ⟨fun a U g mk q => ⟨q.1, q.2.1, q.2.2.1, va_K.moved (u := U) (U := U.calling g mk a) (Vm.Alike.refl U.vm) q.2.2.2⟩, fun U hU hW => ⟨rfl, by rw [hU], by rw [hU]; exact hPc, va_K.moved hW.alike hKc⟩⟩ rfl rfl hl.1 rfl (lv_room (Nat.le_of_ble_eq_true rfl)) (dt_at dt_Rd_readNamed 15 rfl) ⟨Nat.le_of_ble_eq_true rfl, Nat.le_of_ble_eq_true rfl⟩) hS (fun x _ h9 => hF x h9) hF (fun uu y_r16 t H1 locs ht hvm hw hB hz1 hk1 hS => ?_)
        obtain ⟨hB, hc_r16, hq_r16⟩ := hB
        rw [ht] at hc_r16
        have hn_r16 : nin (dT a) y_r16 := nin_cases hq_r16 (fun g9 => nin_big hP g9 rfl) (fun g9 => by simp at g9)
        have hf_r16 : s.heap.size ≤ y_r16 ∨ y_r16 ∈ PL := nin_cases hq_r16 (fun g9 => Or.inl (Nat.le_trans hSz g9)) (fun g9 => by simp at g9)
        clear hq_r16
        have hP := va_P.kept hP (fun k q hq => hk1 _ (hP k q hq).lt (not_AE (hP k q hq).lt))
        refine W.widen (k := 1) (n := 3) (Nat.le_of_ble_eq_true rfl) (Nat.le_of_ble_eq_true rfl) ?_
        have hSz : s.heap.size ≤ H1.size := hS.1
        clear hk1 hz1 hPc hF hB ht
        generalize H1 = H at hP hS hSz hc_r16 ⊢
        exact k_Rd_readNamed_38 (PL := PL) hC hA hK hSt hAn   r16.1 r16.2.1 r16.2.2 r14.2 y_r16 H locs ls hP hD hS  hc_r16 hf_r16 hn_r16 (lv_sub hl [] rfl) h
      · have h := if_n h c15
        obtain ⟨r17, h_r17, h⟩ := ob_of h
        have hPc : va_P D CLS (wE a q) H := fun k q h => by simp [wE] at h
        have hd : va_D (fun _ => True) (dE a) := dE_D a
        have hKc : va_K D CLS (tE q) s := hK.sub (tys' := []) [] rfl
        have hF : ∀ x, va_A (dE a) H.size x → A x := fun x h9 => h9.elim (fun ⟨k, e, h⟩ => by simp [dE] at h) (fun g => hA _ (Nat.le_trans hS.1 g))
        refine va_callr (va_runS (As := []) (rest := []) ⟨hx, hb, hml, hown, hts⟩ (c_Cell_empty l D a q  hd H.size     r17 h_r17) (va_cwS 0 hts (gd_S (m_2 151 rfl rfl) (m_2 152 rfl rfl) (m_1 10 rfl rfl) (m_2 153 rfl rfl)) rfl rfl rfl (by decide +kernel) ⟨Nat.le_of_ble_eq_true rfl, Nat.le_of_ble_eq_true rfl⟩) ⟨fun a U g mk q => ⟨q.1, q.2.1, q.2.2.1, va_K.moved (u := U) (U := U.calling g mk a) (Vm.Alike.refl U.vm) q.2.2.2⟩, fun U hU hW => ⟨rfl, by rw [hU], by rw [hU]; exact hPc, va_K.moved hW.alike hKc⟩⟩ rfl rfl hl.1 rfl (lv_room (Nat.le_of_ble_eq_true rfl)) (dt_at dt_Rd_readNamed 13 rfl) ⟨Nat.le_of_ble_eq_true rfl, Nat.le_of_ble_eq_true rfl⟩) hS (fun x _ h9 => hF x h9) hF (fun uu y_r17 t H1 locs ht hvm hw hB hz1 hk1 hS => ?_)
        obtain ⟨hB, hc_r17, hq_r17⟩ := hB
        rw [ht] at hc_r17
        have hn_r17 : nin (dT a) y_r17 := nin_cases hq_r17 (fun g9 => nin_big hP g9 rfl) (fun g9 => by simp at g9)
        have hf_r17 : s.heap.size ≤ y_r17 ∨ y_r17 ∈ PL := nin_cases hq_r17 (fun g9 => Or.inl (Nat.le_trans hSz g9)) (fun g9 => by simp at g9)
        clear hq_r17
        have hP := va_P.kept hP (fun k q hq => hk1 _ (hP k q hq).lt (not_AE (hP k q hq).lt))
        refine W.widen (k := 1) (n := 3) (Nat.le_of_ble_eq_true rfl) (Nat.le_of_ble_eq_true rfl) ?_
        have hSz : s.heap.size ≤ H1.size := hS.1
        clear hk1 hz1 hPc hF hB ht
        generalize H1 = H at hP hS hSz hc_r17 ⊢
        refine lv_goto (tgt := 38) hx hb (dt_at dt_Rd_readNamed 14 rfl) (by decide) ?_
        exact k_Rd_readNamed_38 (PL := PL) hC hA hK hSt hAn   r17.1 r17.2.1 r17.2.2 r14.2 y_r17 H locs ls hP hD hS  hc_r17 hf_r17 hn_r17 (lv_sub hl [] rfl) h
  · have h := if_n h c2
    obtain ⟨r18, h_r18, h⟩ := ob_of h
    have hPc : va_P D CLS (wE a q) H := fun k q h => by simp [wE] at h
    have hd : va_D (fun _ => True) (dE a) := dE_D a
    have hKc : va_K D CLS (tE q) s := hK.sub (tys' := []) [] rfl
    have hF : ∀ x, va_A (dE a) H.size x → A x := fun x h9 => h9.elim (fun ⟨k, e, h⟩ => by simp [dE] at h) (fun g => hA _ (Nat.le_trans hS.1 g))
    refine va_callr (va_runS (As := []) (rest := []) ⟨hx, hb, hml, hown, hts⟩ (c_Cell_empty l D a q  hd H.size     r18 h_r18) (va_cwS 0 hts (gd_S (m_2 151 rfl rfl) (m_2 152 rfl rfl) (m_1 10 rfl rfl) (m_2 153 rfl rfl)) rfl rfl rfl (by decide +kernel) ⟨Nat.le_of_ble_eq_true rfl, Nat.le_of_ble_eq_true rfl⟩) ⟨fun a U g mk q => ⟨q.1, q.2.1, q.2.2.1, va_K.moved (u := U) (U := U.calling g mk a) (Vm.Alike.refl U.vm) q.2.2.2⟩, fun U hU hW => ⟨rfl, by rw [hU], by rw [hU]; exact hPc, va_K.moved hW.alike hKc⟩⟩ rfl rfl hl.1 rfl (lv_room (Nat.le_of_ble_eq_true rfl)) (dt_at dt_Rd_readNamed 4 rfl) ⟨Nat.le_of_ble_eq_true rfl, Nat.le_of_ble_eq_true rfl⟩) hS (fun x _ h9 => hF x h9) hF (fun uu y_r18 t H1 locs ht hvm hw hB hz1 hk1 hS => ?_)
    obtain ⟨hB, hc_r18, hq_r18⟩ := hB
    rw [ht] at hc_r18
    have hn_r18 : nin (dT a) y_r18 := nin_cases hq_r18 (fun g9 => nin_big hP g9 rfl) (fun g9 => by simp at g9)
    have hf_r18 : s.heap.size ≤ y_r18 ∨ y_r18 ∈ PL := nin_cases hq_r18 (fun g9 => Or.inl (Nat.le_trans hSz g9)) (fun g9 => by simp at g9)
    clear hq_r18
    have hP := va_P.kept hP (fun k q hq => hk1 _ (hP k q hq).lt (not_AE (hP k q hq).lt))
    refine W.widen (k := 1) (n := 3) (Nat.le_of_ble_eq_true rfl) (Nat.le_of_ble_eq_true rfl) ?_
    have hSz : s.heap.size ≤ H1.size := hS.1
    clear hk1 hz1 hPc hF hB ht
    generalize H1 = H at hP hS hSz hc_r18 ⊢
    obtain rfl := os_of h
    refine W.widen (k := 2) (n := 6) (Nat.le_of_ble_eq_true rfl) (Nat.le_of_ble_eq_true rfl) ?_
    exact W.aret hx hb hr (Or.inl ⟨_, rfl⟩) (Or.inr ⟨_, rfl⟩) (fun t ht hW => ⟨⟨(), y_r18, rfl, trivial, (hPt hP ht), hPt hc_r18 ht, hf_r18⟩, hS.F ht⟩) hS.2.2 (dt_at dt_Rd_readNamed 5 rfl)
set_option maxRecDepth 100000 in
set_option maxHeartbeats 4000000 in
theorem c_Rd_readNamed (l : Launch) (D : va_G) (a : Nat → Nat) (q : Nat → ClassId) (hd : va_D (fun _ => True) (dT a)) (sz : Nat)  (g0 : Int32) (g1 : Int32) (g2 : Nat → Int32) (g3 : Nat → Option Nat) (g4 : Int32) (g5 : Int32) (g6 : Nat → Int32) (g7 : Int32) (g8 : Int64) (g9 : Int32) (g10 : Int32) (g11 : Nat → Int32) (g12 : Int32) (g13 : Int64) (g14 : Int32) (g15 : Int32) (g16 : Nat → Int32)  (n0 : Nat) (adK adV : Nat → Nat) (hn0 : ∀ x, va_A (dT a) sz x → n0 ≤ x)  (r0 : Int64 × Int64 × Int32 × Int32) (h : f_Rd_readNamed g4 g5 g6 = some r0) : Met l (⟨"OutwardTape$LiteralReader", "readNamed", "()LOutwardTape$Cell;"⟩ : MethodName) (WSm (⟨"OutwardTape$LiteralReader", "readNamed", "()LOutwardTape$Cell;"⟩ : MethodName) prog_5_method_6_code 1 (some (.object "OutwardTape$Cell"))) rm_Rd_readNamed (va_Pc [.ref (a 3)] (fun U => U.heap.size = sz ∧ va_P D CLS (wT a q (a 5) (a 7) g0 g1 g2 g3 g4 g5 g6 g7 g8 g9 g10 g11 g12 g13 g14 g15 g16) U.heap ∧ va_K D CLS (tT q) U ∧ isS n0 adK adV U)) (va_Qr (fun _ : Unit => True) (fun _ ra t => (va_P D CLS (wT a q (a 5) (a 7) g0 g1 g2 g3 g4 r0.2.2.2 g6 g7 g8 g9 g10 g11 g12 g13 g14 g15 g16) t.heap) ∧ isC D t.heap ra r0.1 r0.2.1 r0.2.2.1 ∧ (sz ≤ ra ∨ ra ∈ ([] : List Nat))) (va_A (dT a) sz)) 2 6 (va_A (dT a) sz) := by
  refine Met.ofW (cc := prog_5_method_6_code) (maxL := 1) (ret := (some (.object "OutwardTape$Cell"))) (by decide) rfl ?_
  intro p e s m args below meth c s₁ B hml hv
  obtain ⟨rfl, hsz, hP, hK, hSt⟩ := hv
  subst hsz
  have hC := CX.of B hml rfl
  have hl := lv_entry [.ref (a 3)] (n := 1) (Nat.le_of_ble_eq_true rfl)
  rw [lg_entry_eq]
  generalize (lg_sl [.ref (a 3)] ++ List.replicate (1 - (lg_sl [.ref (a 3)]).length) Slot.unset).toArray = ls at hl ⊢
  have hl : lv_has ls 1 [(0, .ref (a 3))] := hl
  exact k_Rd_readNamed_0 (PL := []) hC (fun x h => Or.inr h) hK hSt hn0  g5   s.heap [] ls hP (dD hd.self rfl) va_S.rf   (lv_sub hl [0] rfl) h
abbrev rm_Rd_read : Room := { frames := 7, cells := 4, slots := 12, locals := 165 }
set_option maxRecDepth 100000 in
set_option maxHeartbeats 4000000 in
theorem k_Rd_read_129 {p : Program} {l : Launch} {e : Env} {s : State} {m : MethodId} {args : Array Value} {below : List Frame} {meth : Method} {c : Code} {D : va_G} {a : Nat → Nat} {q : Nat → ClassId} {PL : List Nat} {A : Nat → Prop} (hC : CX p s m args meth c prog_5_method_2_code 6 "OutwardTape$LiteralReader" (some (.object "OutwardTape$Cell"))) (hA : ∀ x, s.heap.size ≤ x → A x) (hK : va_K D CLS (tT q) s) {n0 : Nat} {adK adV : Nat → Nat} (hSt : isS n0 adK adV s) (hAn : ∀ x, A x → n0 ≤ x) {g0 : Int32} {g1 : Int32} {g2 : Nat → Int32} {g3 : Nat → Option Nat} {r0 : Int64 × Int64 × Int32 × Int32 × Int32 × (Nat → Int32) × Int32 × Int64 × Int32 × Int32 × (Nat → Int32) × Int32 × Int64 × Int32 × Int32 × (Nat → Int32)} : ∀ (s0_l : Int64) (s0_h : Int64) (s0_m : Int32) (g4 : Int32) (g5 : Int32) (g6 : Nat → Int32) (g7 : Int32) (g8 : Int64) (g9 : Int32) (g10 : Int32) (g11 : Nat → Int32) (g12 : Int32) (g13 : Int64) (g14 : Int32) (g15 : Int32) (g16 : Nat → Int32) (y_s0 : Nat) (H : Heap) (locs : List Loc) (ls : Array Slot), va_P D CLS (wT a q (a 5) (a 7) g0 g1 g2 g3 g4 g5 g6 g7 g8 g9 g10 g11 g12 g13 g14 g15 g16) H → va_D A (wT a q (a 5) (a 7) g0 g1 g2 g3 g4 g5 g6 g7 g8 g9 g10 g11 g12 g13 g14 g15 g16) → va_S A s.heap H locs → isC D H y_s0 s0_l s0_h s0_m → (s.heap.size ≤ y_s0 ∨ y_s0 ∈ PL) → nin (dT a) y_s0 → lv_has ls 6 [] → f_Rd_read_129  s0_l s0_h s0_m g2 g4 g5 g6 g7 g8 g9 g10 g11 g12 g13 g14 g15 g16 = some r0 → W p l e rm_Rd_read s m args below meth c H locs 4 12 (MQ below (va_Qr (fun _ : Unit => True) (fun _ ra t => (va_P D CLS (wT a q (a 5) (a 7) g0 g1 g2 g3 r0.2.2.2.1 r0.2.2.2.2.1 r0.2.2.2.2.2.1 r0.2.2.2.2.2.2.1 r0.2.2.2.2.2.2.2.1 r0.2.2.2.2.2.2.2.2.1 r0.2.2.2.2.2.2.2.2.2.1 r0.2.2.2.2.2.2.2.2.2.2.1 r0.2.2.2.2.2.2.2.2.2.2.2.1 r0.2.2.2.2.2.2.2.2.2.2.2.2.1 r0.2.2.2.2.2.2.2.2.2.2.2.2.2.1 r0.2.2.2.2.2.2.2.2.2.2.2.2.2.2.1 r0.2.2.2.2.2.2.2.2.2.2.2.2.2.2.2) t.heap) ∧ isC D t.heap ra r0.1 r0.2.1 r0.2.2.1 ∧ (s.heap.size ≤ ra ∨ ra ∈ PL)) A) args s 4 12 A) (F0 m 129 ls [.ref y_s0]) := by
  obtain ⟨hx, hb, hml, hown, hts, hr, hlocks⟩ := id hC
  intro s0_l s0_h s0_m g4 g5 g6 g7 g8 g9 g10 g11 g12 g13 g14 g15 g16 y_s0 H locs ls hP hD hS hc_s0 hf_s0 hn_s0 hl h
  rw [f_Rd_read_129] at h
  have hSz : s.heap.size ≤ H.size := hS.1
  obtain rfl := os_of h
  exact W.aret hx hb hr (Or.inl ⟨_, rfl⟩) (Or.inr ⟨_, rfl⟩) (fun t ht hW => ⟨⟨(), y_s0, rfl, trivial, (hPt hP ht), hPt hc_s0 ht, hf_s0⟩, hS.F ht⟩) hS.2.2 (dt_at dt_Rd_read 61 rfl)
set_option maxRecDepth 100000 in
set_option maxHeartbeats 4000000 in
theorem k_Rd_read_103 {p : Program} {l : Launch} {e : Env} {s : State} {m : MethodId} {args : Array Value} {below : List Frame} {meth : Method} {c : Code} {D : va_G} {a : Nat → Nat} {q : Nat → ClassId} {PL : List Nat} {A : Nat → Prop} (hC : CX p s m args meth c prog_5_method_2_code 6 "OutwardTape$LiteralReader" (some (.object "OutwardTape$Cell"))) (hA : ∀ x, s.heap.size ≤ x → A x) (hK : va_K D CLS (tT q) s) {n0 : Nat} {adK adV : Nat → Nat} (hSt : isS n0 adK adV s) (hAn : ∀ x, A x → n0 ≤ x) {g0 : Int32} {g1 : Int32} {g2 : Nat → Int32} {g3 : Nat → Option Nat} {r0 : Int64 × Int64 × Int32 × Int32 × Int32 × (Nat → Int32) × Int32 × Int64 × Int32 × Int32 × (Nat → Int32) × Int32 × Int64 × Int32 × Int32 × (Nat → Int32)} : ∀ (s0 : Int32) (v4_l : Int64) (v4_h : Int64) (v4_m : Int32) (g4 : Int32) (g5 : Int32) (g6 : Nat → Int32) (g7 : Int32) (g8 : Int64) (g9 : Int32) (g10 : Int32) (g11 : Nat → Int32) (g12 : Int32) (g13 : Int64) (g14 : Int32) (g15 : Int32) (g16 : Nat → Int32) (y_v4 : Nat) (H : Heap) (locs : List Loc) (ls : Array Slot), va_P D CLS (wT a q (a 5) (a 7) g0 g1 g2 g3 g4 g5 g6 g7 g8 g9 g10 g11 g12 g13 g14 g15 g16) H → va_D A (wT a q (a 5) (a 7) g0 g1 g2 g3 g4 g5 g6 g7 g8 g9 g10 g11 g12 g13 g14 g15 g16) → va_S A s.heap H locs → isC D H y_v4 v4_l v4_h v4_m → (s.heap.size ≤ y_v4 ∨ y_v4 ∈ PL) → nin (dT a) y_v4 → lv_has ls 6 [(0, .ref (a 3)), (4, .ref y_v4)] → f_Rd_read_103  s0 v4_l v4_h v4_m g2 g4 g5 g6 g7 g8 g9 g10 g11 g12 g13 g14 g15 g16 = some r0 → W p l e rm_Rd_read s m args below meth c H locs 2 6 (MQ below (va_Qr (fun _ : Unit => True) (fun _ ra t => (va_P D CLS (wT a q (a 5) (a 7) g0 g1 g2 g3 r0.2.2.2.1 r0.2.2.2.2.1 r0.2.2.2.2.2.1 r0.2.2.2.2.2.2.1 r0.2.2.2.2.2.2.2.1 r0.2.2.2.2.2.2.2.2.1 r0.2.2.2.2.2.2.2.2.2.1 r0.2.2.2.2.2.2.2.2.2.2.1 r0.2.2.2.2.2.2.2.2.2.2.2.1 r0.2.2.2.2.2.2.2.2.2.2.2.2.1 r0.2.2.2.2.2.2.2.2.2.2.2.2.2.1 r0.2.2.2.2.2.2.2.2.2.2.2.2.2.2.1 r0.2.2.2.2.2.2.2.2.2.2.2.2.2.2.2) t.heap) ∧ isC D t.heap ra r0.1 r0.2.1 r0.2.2.1 ∧ (s.heap.size ≤ ra ∨ ra ∈ PL)) A) args s 4 12 A) (F0 m 103 ls [.int s0]) := by
  obtain ⟨hx, hb, hml, hown, hts, hr, hlocks⟩ := id hC
  intro s0 v4_l v4_h v4_m g4 g5 g6 g7 g8 g9 g10 g11 g12 g13 g14 g15 g16 y_v4 H locs ls hP hD hS hc_v4 hf_v4 hn_v4 hl h
  rw [f_Rd_read_103] at h
  have hSz : s.heap.size ≤ H.size := hS.1
  refine lv_istore (lv' := [(5, .int s0), (0, .ref (a 3)), (4, .ref y_v4)]) hx hb (dt_at dt_Rd_read 50 rfl) hl (by decide) rfl (fun ls hl => ?_)
  refine lv_aload_n hx hb (dt_at dt_Rd_read 51 rfl) rfl (lv_at hl 1 rfl) ?_
  refine va_get (D := D) (ci := 2) (v := .int g5) (C := "OutwardTape$LiteralReader") (T := T_Rd) (N := 5) hx hb hts in_Rd hown hK hP 3 rfl rfl 4 (by decide) (hts (Cond.fieldLink "OutwardTape$LiteralReader" 29 "OutwardTape$LiteralReader" "at" "I") (m_1 67 rfl rfl)) (fun _ h9 => h9) rfl (dt_at dt_Rd_read 52 rfl) ?_
  refine lv_aload_n hx hb (dt_at dt_Rd_read 53 rfl) rfl (lv_at hl 1 rfl) ?_
  refine va_get (D := D) (ci := 2) (v := .int g4) (C := "OutwardTape$LiteralReader") (T := T_Rd) (N := 5) hx hb hts in_Rd hown hK hP 3 rfl rfl 3 (by decide) (hts (Cond.fieldLink "OutwardTape$LiteralReader" 25 "OutwardTape$LiteralReader" "end" "I") (m_1 66 rfl rfl)) (fun _ h9 => h9) rfl (dt_at dt_Rd_read 54 rfl) ?_
  refine lv_icmp_ne (tgt := 126) hx hb (dt_at dt_Rd_read 55 rfl) (by decide) (fun c1 => ?_) (fun c1 => ?_)
  · have h := if_n h c1
    obtain ⟨r2, h_r2, h⟩ := ob_of h
    have hPc : va_P D CLS (wE a q) H := fun k q h => by simp [wE] at h
    have hd : va_D (fun _ => True) (dE a) := dE_D a
    have hKc : va_K D CLS (tE q) s := hK.sub (tys' := []) [] rfl
    have hF : ∀ x, va_A (dE a) H.size x → A x := fun x h9 => h9.elim (fun ⟨k, e, h⟩ => by simp [dE] at h) (fun g => hA _ (Nat.le_trans hS.1 g))
    refine va_callr (va_runS (As := []) (rest := []) ⟨hx, hb, hml, hown, hts⟩ (c_Cell_ill l D a q  hd H.size     r2 h_r2) (va_cwS 0 hts (gd_S (m_2 108 rfl rfl) (m_2 109 rfl rfl) (m_1 10 rfl rfl) (m_2 110 rfl rfl)) rfl rfl rfl (by decide +kernel) ⟨Nat.le_of_ble_eq_true rfl, Nat.le_of_ble_eq_true rfl⟩) ⟨fun a U g mk q => ⟨q.1, q.2.1, q.2.2.1, va_K.moved (u := U) (U := U.calling g mk a) (Vm.Alike.refl U.vm) q.2.2.2⟩, fun U hU hW => ⟨rfl, by rw [hU], by rw [hU]; exact hPc, va_K.moved hW.alike hKc⟩⟩ rfl rfl hl.1 rfl (lv_room (Nat.le_of_ble_eq_true rfl)) (dt_at dt_Rd_read 60 rfl) ⟨Nat.le_of_ble_eq_true rfl, Nat.le_of_ble_eq_true rfl⟩) hS (fun x _ h9 => hF x h9) hF (fun uu y_r2 t H1 locs ht hvm hw hB hz1 hk1 hS => ?_)
    obtain ⟨hB, hc_r2, hq_r2⟩ := hB
    rw [ht] at hc_r2
    have hn_r2 : nin (dT a) y_r2 := nin_cases hq_r2 (fun g9 => nin_big hP g9 rfl) (fun g9 => by simp at g9)
    have hf_r2 : s.heap.size ≤ y_r2 ∨ y_r2 ∈ PL := nin_cases hq_r2 (fun g9 => Or.inl (Nat.le_trans hSz g9)) (fun g9 => by simp at g9)
    clear hq_r2
    have hc_v4 := isC.keptA hc_v4 hk1 (nin_E a y_v4)
    have hP := va_P.kept hP (fun k q hq => hk1 _ (hP k q hq).lt (not_AE (hP k q hq).lt))
    refine W.widen (k := 3) (n := 9) (Nat.le_of_ble_eq_true rfl) (Nat.le_of_ble_eq_true rfl) ?_
    have hSz : s.heap.size ≤ H1.size := hS.1
    clear hk1 hz1 hPc hF hB ht
    generalize H1 = H at hP hS hSz hc_v4 hc_r2 ⊢
    refine W.widen (k := 4) (n := 12) (Nat.le_of_ble_eq_true rfl) (Nat.le_of_ble_eq_true rfl) ?_
    exact k_Rd_read_129 (PL := PL) hC hA hK hSt hAn   r2.1 r2.2.1 r2.2.2 g4 g5 g6 g7 g8 g9 g10 g11 g12 g13 g14 g15 g16 y_r2 H locs ls hP hD hS  hc_r2 hf_r2 hn_r2 (lv_sub hl [] rfl) h
  · have h := if_p h c1
    refine lv_aload hx hb (dt_at dt_Rd_read 56 rfl) (lv_at hl 2 rfl) ?_
    refine lv_iload hx hb (dt_at dt_Rd_read 57 rfl) (lv_at hl 0 rfl) ?_
    obtain ⟨r3, h_r3, h⟩ := ob_of h
    have hPc : va_P D CLS (wE a q) H := fun k q h => by simp [wE] at h
    have hd : va_D (fun _ => True) (dE a) := dE_D a
    have hKc : va_K D CLS (tE q) s := hK.sub (tys' := []) [] rfl
    have hF : ∀ x, va_A (dE a) H.size x → A x := fun x h9 => h9.elim (fun ⟨k, e, h⟩ => by simp [dE] at h) (fun g => hA _ (Nat.le_trans hS.1 g))
    refine va_callr (va_runS (As := [.ref y_v4, .int s0]) (rest := []) ⟨hx, hb, hml, hown, hts⟩ (c_Rd_marked l D a q  hd H.size v4_l v4_h v4_m s0  y_v4 (nin_E a y_v4) r3 h_r3) (va_cwS 2 hts (gd_S (m_3 60 rfl rfl) (m_3 61 rfl rfl) (m_1 2 rfl rfl) (m_3 62 rfl rfl)) rfl rfl rfl (by decide +kernel) ⟨Nat.le_of_ble_eq_true rfl, Nat.le_of_ble_eq_true rfl⟩) ⟨fun a U g mk q => ⟨q.1, q.2.1, q.2.2.1, va_K.moved (u := U) (U := U.calling g mk a) (Vm.Alike.refl U.vm) q.2.2.2.1, q.2.2.2.2⟩, fun U hU hW => ⟨rfl, by rw [hU], by rw [hU]; exact hPc, va_K.moved hW.alike hKc, by rw [hU]; exact hc_v4⟩⟩ rfl rfl hl.1 rfl (lv_room (Nat.le_of_ble_eq_true rfl)) (dt_at dt_Rd_read 58 rfl) ⟨Nat.le_of_ble_eq_true rfl, Nat.le_of_ble_eq_true rfl⟩) hS (fun x _ h9 => hF x h9) hF (fun uu y_r3 t H1 locs ht hvm hw hB hz1 hk1 hS => ?_)
    obtain ⟨hB, hc_r3, hq_r3⟩ := hB
    rw [ht] at hc_r3
    have hn_r3 : nin (dT a) y_r3 := nin_cases hq_r3 (fun g9 => nin_big hP g9 rfl) (fun g9 => by simp only [List.mem_cons, List.not_mem_nil, or_false] at g9; subst g9; assumption)
    have hf_r3 : s.heap.size ≤ y_r3 ∨ y_r3 ∈ PL := nin_cases hq_r3 (fun g9 => Or.inl (Nat.le_trans hSz g9)) (fun g9 => by simp only [List.mem_cons, List.not_mem_nil, or_false] at g9; subst g9; assumption)
    clear hq_r3
    have hc_v4 := isC.keptA hc_v4 hk1 (nin_E a y_v4)
    have hP := va_P.kept hP (fun k q hq => hk1 _ (hP k q hq).lt (not_AE (hP k q hq).lt))
    refine W.widen (k := 4) (n := 12) (Nat.le_of_ble_eq_true rfl) (Nat.le_of_ble_eq_true rfl) ?_
    have hSz : s.heap.size ≤ H1.size := hS.1
    clear hk1 hz1 hPc hF hB ht
    generalize H1 = H at hP hS hSz hc_v4 hc_r3 ⊢
    refine lv_goto (tgt := 129) hx hb (dt_at dt_Rd_read 59 rfl) (by decide) ?_
    exact k_Rd_read_129 (PL := PL) hC hA hK hSt hAn   r3.1 r3.2.1 r3.2.2 g4 g5 g6 g7 g8 g9 g10 g11 g12 g13 g14 g15 g16 y_r3 H locs ls hP hD hS  hc_r3 hf_r3 hn_r3 (lv_sub hl [] rfl) h
set_option maxRecDepth 100000 in
set_option maxHeartbeats 4000000 in
theorem k_Rd_read_83 {p : Program} {l : Launch} {e : Env} {s : State} {m : MethodId} {args : Array Value} {below : List Frame} {meth : Method} {c : Code} {D : va_G} {a : Nat → Nat} {q : Nat → ClassId} {PL : List Nat} {A : Nat → Prop} (hC : CX p s m args meth c prog_5_method_2_code 6 "OutwardTape$LiteralReader" (some (.object "OutwardTape$Cell"))) (hA : ∀ x, s.heap.size ≤ x → A x) (hK : va_K D CLS (tT q) s) {n0 : Nat} {adK adV : Nat → Nat} (hSt : isS n0 adK adV s) (hAn : ∀ x, A x → n0 ≤ x) {g0 : Int32} {g1 : Int32} {g2 : Nat → Int32} {g3 : Nat → Option Nat} {r0 : Int64 × Int64 × Int32 × Int32 × Int32 × (Nat → Int32) × Int32 × Int64 × Int32 × Int32 × (Nat → Int32) × Int32 × Int64 × Int32 × Int32 × (Nat → Int32)} : ∀ (v4_l : Int64) (v4_h : Int64) (v4_m : Int32) (g4 : Int32) (g5 : Int32) (g6 : Nat → Int32) (g7 : Int32) (g8 : Int64) (g9 : Int32) (g10 : Int32) (g11 : Nat → Int32) (g12 : Int32) (g13 : Int64) (g14 : Int32) (g15 : Int32) (g16 : Nat → Int32) (y_v4 : Nat) (H : Heap) (locs : List Loc) (ls : Array Slot), va_P D CLS (wT a q (a 5) (a 7) g0 g1 g2 g3 g4 g5 g6 g7 g8 g9 g10 g11 g12 g13 g14 g15 g16) H → va_D A (wT a q (a 5) (a 7) g0 g1 g2 g3 g4 g5 g6 g7 g8 g9 g10 g11 g12 g13 g14 g15 g16) → va_S A s.heap H locs → isC D H y_v4 v4_l v4_h v4_m → (s.heap.size ≤ y_v4 ∨ y_v4 ∈ PL) → nin (dT a) y_v4 → lv_has ls 6 [(4, .ref y_v4)] → f_Rd_read_83  v4_l v4_h v4_m g2 g4 g5 g6 g7 g8 g9 g10 g11 g12 g13 g14 g15 g16 = some r0 → W p l e rm_Rd_read s m args below meth c H locs 2 6 (MQ below (va_Qr (fun _ : Unit => True) (fun _ ra t => (va_P D CLS (wT a q (a 5) (a 7) g0 g1 g2 g3 r0.2.2.2.1 r0.2.2.2.2.1 r0.2.2.2.2.2.1 r0.2.2.2.2.2.2.1 r0.2.2.2.2.2.2.2.1 r0.2.2.2.2.2.2.2.2.1 r0.2.2.2.2.2.2.2.2.2.1 r0.2.2.2.2.2.2.2.2.2.2.1 r0.2.2.2.2.2.2.2.2.2.2.2.1 r0.2.2.2.2.2.2.2.2.2.2.2.2.1 r0.2.2.2.2.2.2.2.2.2.2.2.2.2.1 r0.2.2.2.2.2.2.2.2.2.2.2.2.2.2.1 r0.2.2.2.2.2.2.2.2.2.2.2.2.2.2.2) t.heap) ∧ isC D t.heap ra r0.1 r0.2.1 r0.2.2.1 ∧ (s.heap.size ≤ ra ∨ ra ∈ PL)) A) args s 4 12 A) (F0 m 83 ls []) := by
  obtain ⟨hx, hb, hml, hown, hts, hr, hlocks⟩ := id hC
  intro v4_l v4_h v4_m g4 g5 g6 g7 g8 g9 g10 g11 g12 g13 g14 g15 g16 y_v4 H locs ls hP hD hS hc_v4 hf_v4 hn_v4 hl h
  rw [f_Rd_read_83] at h
  have hSz : s.heap.size ≤ H.size := hS.1
  refine lv_aload hx hb (dt_at dt_Rd_read 40 rfl) (lv_at hl 0 rfl) ?_
  obtain rfl := os_of h
  refine W.widen (k := 4) (n := 12) (Nat.le_of_ble_eq_true rfl) (Nat.le_of_ble_eq_true rfl) ?_
  exact W.aret hx hb hr (Or.inl ⟨_, rfl⟩) (Or.inr ⟨_, rfl⟩) (fun t ht hW => ⟨⟨(), y_v4, rfl, trivial, (hPt hP ht), hPt hc_v4 ht, hf_v4⟩, hS.F ht⟩) hS.2.2 (dt_at dt_Rd_read 41 rfl)
set_option maxRecDepth 100000 in
set_option maxHeartbeats 4000000 in
theorem k_Rd_read_62 {p : Program} {l : Launch} {e : Env} {s : State} {m : MethodId} {args : Array Value} {below : List Frame} {meth : Method} {c : Code} {D : va_G} {a : Nat → Nat} {q : Nat → ClassId} {PL : List Nat} {A : Nat → Prop} (hC : CX p s m args meth c prog_5_method_2_code 6 "OutwardTape$LiteralReader" (some (.object "OutwardTape$Cell"))) (hA : ∀ x, s.heap.size ≤ x → A x) (hK : va_K D CLS (tT q) s) {n0 : Nat} {adK adV : Nat → Nat} (hSt : isS n0 adK adV s) (hAn : ∀ x, A x → n0 ≤ x) {g0 : Int32} {g1 : Int32} {g2 : Nat → Int32} {g3 : Nat → Option Nat} {r0 : Int64 × Int64 × Int32 × Int32 × Int32 × (Nat → Int32) × Int32 × Int64 × Int32 × Int32 × (Nat → Int32) × Int32 × Int64 × Int32 × Int32 × (Nat → Int32)} : ∀ (s0_l : Int64) (s0_h : Int64) (s0_m : Int32) (g4 : Int32) (g5 : Int32) (g6 : Nat → Int32) (g7 : Int32) (g8 : Int64) (g9 : Int32) (g10 : Int32) (g11 : Nat → Int32) (g12 : Int32) (g13 : Int64) (g14 : Int32) (g15 : Int32) (g16 : Nat → Int32) (y_s0 : Nat) (H : Heap) (locs : List Loc) (ls : Array Slot), va_P D CLS (wT a q (a 5) (a 7) g0 g1 g2 g3 g4 g5 g6 g7 g8 g9 g10 g11 g12 g13 g14 g15 g16) H → va_D A (wT a q (a 5) (a 7) g0 g1 g2 g3 g4 g5 g6 g7 g8 g9 g10 g11 g12 g13 g14 g15 g16) → va_S A s.heap H locs → isC D H y_s0 s0_l s0_h s0_m → (s.heap.size ≤ y_s0 ∨ y_s0 ∈ PL) → nin (dT a) y_s0 → lv_has ls 6 [(0, .ref (a 3))] → f_Rd_read_62  s0_l s0_h s0_m g2 g4 g5 g6 g7 g8 g9 g10 g11 g12 g13 g14 g15 g16 = some r0 → W p l e rm_Rd_read s m args below meth c H locs 2 6 (MQ below (va_Qr (fun _ : Unit => True) (fun _ ra t => (va_P D CLS (wT a q (a 5) (a 7) g0 g1 g2 g3 r0.2.2.2.1 r0.2.2.2.2.1 r0.2.2.2.2.2.1 r0.2.2.2.2.2.2.1 r0.2.2.2.2.2.2.2.1 r0.2.2.2.2.2.2.2.2.1 r0.2.2.2.2.2.2.2.2.2.1 r0.2.2.2.2.2.2.2.2.2.2.1 r0.2.2.2.2.2.2.2.2.2.2.2.1 r0.2.2.2.2.2.2.2.2.2.2.2.2.1 r0.2.2.2.2.2.2.2.2.2.2.2.2.2.1 r0.2.2.2.2.2.2.2.2.2.2.2.2.2.2.1 r0.2.2.2.2.2.2.2.2.2.2.2.2.2.2.2) t.heap) ∧ isC D t.heap ra r0.1 r0.2.1 r0.2.2.1 ∧ (s.heap.size ≤ ra ∨ ra ∈ PL)) A) args s 4 12 A) (F0 m 62 ls [.ref y_s0]) := by
  obtain ⟨hx, hb, hml, hown, hts, hr, hlocks⟩ := id hC
  intro s0_l s0_h s0_m g4 g5 g6 g7 g8 g9 g10 g11 g12 g13 g14 g15 g16 y_s0 H locs ls hP hD hS hc_s0 hf_s0 hn_s0 hl h
  rw [f_Rd_read_62] at h
  have hSz : s.heap.size ≤ H.size := hS.1
  refine lv_astore (lv' := [(4, .ref y_s0), (0, .ref (a 3))]) hx hb (dt_at dt_Rd_read 31 rfl) hl (by decide) rfl (fun ls hl => ?_)
  refine lv_aload hx hb (dt_at dt_Rd_read 32 rfl) (lv_at hl 0 rfl) ?_
  refine va_get (D := D) (ci := 4) (v := .int s0_m) (C := "OutwardTape$Cell") (T := T_Cell) (N := 3) hx hb hts in_Cell hown hK hc_s0 0 rfl rfl 2 (by decide) (hts (Cond.fieldLink "OutwardTape$LiteralReader" 59 "OutwardTape$Cell" "mark" "I") (m_2 134 rfl rfl)) (fun _ h9 => h9) rfl (dt_at dt_Rd_read 33 rfl) ?_
  refine lv_if_eq (tgt := 83) hx hb (dt_at dt_Rd_read 34 rfl) (by decide) (fun c1 => ?_) (fun c1 => ?_)
  · have h := if_p h c1
    exact k_Rd_read_83 (PL := PL) hC hA hK hSt hAn   s0_l s0_h s0_m g4 g5 g6 g7 g8 g9 g10 g11 g12 g13 g14 g15 g16 y_s0 H locs ls hP hD hS  hc_s0 hf_s0 hn_s0 (lv_sub hl [0] rfl) h
  · have h := if_n h c1
    refine lv_aload_n hx hb (dt_at dt_Rd_read 35 rfl) rfl (lv_at hl 1 rfl) ?_
    refine va_get (D := D) (ci := 2) (v := .int g5) (C := "OutwardTape$LiteralReader") (T := T_Rd) (N := 5) hx hb hts in_Rd hown hK hP 3 rfl rfl 4 (by decide) (hts (Cond.fieldLink "OutwardTape$LiteralReader" 29 "OutwardTape$LiteralReader" "at" "I") (m_1 67 rfl rfl)) (fun _ h9 => h9) rfl (dt_at dt_Rd_read 36 rfl) ?_
    refine lv_aload_n hx hb (dt_at dt_Rd_read 37 rfl) rfl (lv_at hl 1 rfl) ?_
    refine va_get (D := D) (ci := 2) (v := .int g4) (C := "OutwardTape$LiteralReader") (T := T_Rd) (N := 5) hx hb hts in_Rd hown hK hP 3 rfl rfl 3 (by decide) (hts (Cond.fieldLink "OutwardTape$LiteralReader" 25 "OutwardTape$LiteralReader" "end" "I") (m_1 66 rfl rfl)) (fun _ h9 => h9) rfl (dt_at dt_Rd_read 38 rfl) ?_
    refine lv_icmp_ne (tgt := 86) hx hb (dt_at dt_Rd_read 39 rfl) (by decide) (fun c2 => ?_) (fun c2 => ?_)
    · have h := if_n h c2
      refine lv_aload_n hx hb (dt_at dt_Rd_read 42 rfl) rfl (lv_at hl 1 rfl) ?_
      refine lv_bipush (v := 95) hx hb (dt_at dt_Rd_read 43 rfl) (by decide) ?_
      obtain ⟨r3, h_r3, h⟩ := ob_of h
      have hPc := hP
      have hDc : va_D A (dT a) := dD (ws' := dT a) hD rfl
      have hKc := hK
      have hF := va_free (wc := dT a) hDc hS hA [0, 1, 2, 3, 4, 5, 6, 7, 8] rfl
      have hd : va_D (fun _ => True) (dT a) := hDc.weaken (fun _ _ _ _ => trivial)
      refine va_calli (va_runV (As := [.int (95 : Int32)]) (rest := []) ⟨hx, hb, hml, hown, hts⟩ (c_Rd_take l D a q (a 5) (a 7) hd H.size (95 : Int32) g0 g1 g2 g3 g4 g5 g6 g7 g8 g9 g10 g11 g12 g13 g14 g15 g16   r3 h_r3) (cwV 1 hts (gd_V (m_2 100 rfl rfl) (m_2 102 rfl rfl) (m_s 4 rfl rfl) (m_1 2 rfl rfl) (m_2 103 rfl rfl)) rfl rfl rfl (by decide +kernel) ⟨Nat.le_of_ble_eq_true rfl, Nat.le_of_ble_eq_true rfl⟩) ⟨fun a U g mk q => ⟨q.1, q.2.1, q.2.2.1, va_K.moved (u := U) (U := U.calling g mk a) (Vm.Alike.refl U.vm) q.2.2.2⟩, va_recv hK hP (ci := 2) (q0 := 3) rfl rfl, fun U hU hW => ⟨rfl, by rw [hU], by rw [hU]; exact hPc, va_K.moved hW.alike hKc⟩⟩ rfl rfl hl.1 rfl (lv_room (Nat.le_of_ble_eq_true rfl)) (dt_at dt_Rd_read 44 rfl) ⟨Nat.le_of_ble_eq_true rfl, Nat.le_of_ble_eq_true rfl⟩) hS (fun x _ h9 => hF x h9) hF (fun u_r3 uu t H1 locs ht hvm hw hB hz1 hk1 hS => ?_)
      subst hw
      have hc_s0 := isC.keptA hc_s0 hk1 hn_s0
      rw [ht] at hB
      have hP : va_P D CLS (wT a q (a 5) (a 7) g0 g1 g2 g3 g4 r3.2 g6 g7 g8 g9 g10 g11 g12 g13 g14 g15 g16) H1 := hB
      have hD : va_D A (wT a q (a 5) (a 7) g0 g1 g2 g3 g4 r3.2 g6 g7 g8 g9 g10 g11 g12 g13 g14 g15 g16) := dD hD rfl
      have hSz : s.heap.size ≤ H1.size := hS.1
      clear hk1 hz1 hPc hF hB ht
      generalize H1 = H at hP hS hSz hc_s0 ⊢
      refine lv_if_eq (tgt := 102) hx hb (dt_at dt_Rd_read 45 rfl) (by decide) (fun c4 => ?_) (fun c4 => ?_)
      · have h := if_p h c4
        refine lv_iconst (v := 0) hx hb (dt_at dt_Rd_read 49 rfl) (by decide) ?_
        exact k_Rd_read_103 (PL := PL) hC hA hK hSt hAn   (0 : Int32) s0_l s0_h s0_m g4 r3.2 g6 g7 g8 g9 g10 g11 g12 g13 g14 g15 g16 y_s0 H locs ls hP hD hS  hc_s0 hf_s0 hn_s0 (lv_sub hl [1, 0] rfl) h
      · have h := if_n h c4
        refine lv_aload_n hx hb (dt_at dt_Rd_read 46 rfl) rfl (lv_at hl 1 rfl) ?_
        obtain ⟨r5, h_r5, h⟩ := ob_of h
        have hPc := hP
        have hDc : va_D A (dT a) := dD (ws' := dT a) hD rfl
        have hKc := hK
        have hF := va_free (wc := dT a) hDc hS hA [0, 1, 2, 3, 4, 5, 6, 7, 8] rfl
        have hd : va_D (fun _ => True) (dT a) := hDc.weaken (fun _ _ _ _ => trivial)
        refine va_calli (va_runV (As := []) (rest := []) ⟨hx, hb, hml, hown, hts⟩ (c_Rd_readMark l D a q (a 5) (a 7) hd H.size  g0 g1 g2 g3 g4 r3.2 g6 g7 g8 g9 g10 g11 g12 g13 g14 g15 g16  n0 adK adV (fun x h9 => hAn x (hF x h9))  r5 h_r5) (cwV 0 hts (gd_V (m_3 52 rfl rfl) (m_3 54 rfl rfl) (m_s 20 rfl rfl) (m_1 2 rfl rfl) (m_3 55 rfl rfl)) rfl rfl rfl (by decide +kernel) ⟨Nat.le_of_ble_eq_true rfl, Nat.le_of_ble_eq_true rfl⟩) ⟨fun a U g mk q => ⟨q.1, q.2.1, q.2.2.1, va_K.moved (u := U) (U := U.calling g mk a) (Vm.Alike.refl U.vm) q.2.2.2.1, isS.call q.2.2.2.2⟩, va_recv hK hP (ci := 2) (q0 := 3) rfl rfl, fun U hU hW => ⟨rfl, by rw [hU], by rw [hU]; exact hPc, va_K.moved hW.alike hKc, hSt.go hS hAn hU hW⟩⟩ rfl rfl hl.1 rfl (lv_room (Nat.le_of_ble_eq_true rfl)) (dt_at dt_Rd_read 47 rfl) ⟨Nat.le_of_ble_eq_true rfl, Nat.le_of_ble_eq_true rfl⟩) hS (fun x _ h9 => hF x h9) hF (fun u_r5 uu t H1 locs ht hvm hw hB hz1 hk1 hS => ?_)
        subst hw
        have hc_s0 := isC.keptA hc_s0 hk1 hn_s0
        rw [ht] at hB
        have hP : va_P D CLS (wT a q (a 5) (a 7) g0 g1 g2 g3 g4 r5.2 g6 g7 g8 g9 g10 g11 g12 g13 g14 g15 g16) H1 := hB
        have hD : va_D A (wT a q (a 5) (a 7) g0 g1 g2 g3 g4 r5.2 g6 g7 g8 g9 g10 g11 g12 g13 g14 g15 g16) := dD hD rfl
        have hSz : s.heap.size ≤ H1.size := hS.1
        clear hk1 hz1 hPc hF hB ht
        generalize H1 = H at hP hS hSz hc_s0 ⊢
        refine lv_goto (tgt := 103) hx hb (dt_at dt_Rd_read 48 rfl) (by decide) ?_
        exact k_Rd_read_103 (PL := PL) hC hA hK hSt hAn   r5.1 s0_l s0_h s0_m g4 r5.2 g6 g7 g8 g9 g10 g11 g12 g13 g14 g15 g16 y_s0 H locs ls hP hD hS  hc_s0 hf_s0 hn_s0 (lv_sub hl [1, 0] rfl) h
    · have h := if_p h c2
      exact k_Rd_read_83 (PL := PL) hC hA hK hSt hAn   s0_l s0_h s0_m g4 g5 g6 g7 g8 g9 g10 g11 g12 g13 g14 g15 g16 y_s0 H locs ls hP hD hS  hc_s0 hf_s0 hn_s0 (lv_sub hl [0] rfl) h
set_option maxRecDepth 100000 in
set_option maxHeartbeats 4000000 in
theorem k_Rd_read_46 {p : Program} {l : Launch} {e : Env} {s : State} {m : MethodId} {args : Array Value} {below : List Frame} {meth : Method} {c : Code} {D : va_G} {a : Nat → Nat} {q : Nat → ClassId} {PL : List Nat} {A : Nat → Prop} (hC : CX p s m args meth c prog_5_method_2_code 6 "OutwardTape$LiteralReader" (some (.object "OutwardTape$Cell"))) (hA : ∀ x, s.heap.size ≤ x → A x) (hK : va_K D CLS (tT q) s) {n0 : Nat} {adK adV : Nat → Nat} (hSt : isS n0 adK adV s) (hAn : ∀ x, A x → n0 ≤ x) {g0 : Int32} {g1 : Int32} {g2 : Nat → Int32} {g3 : Nat → Option Nat} {r0 : Int64 × Int64 × Int32 × Int32 × Int32 × (Nat → Int32) × Int32 × Int64 × Int32 × Int32 × (Nat → Int32) × Int32 × Int64 × Int32 × Int32 × (Nat → Int32)} : ∀ (s0 : Int32) (g4 : Int32) (g5 : Int32) (g6 : Nat → Int32) (g7 : Int32) (g8 : Int64) (g9 : Int32) (g10 : Int32) (g11 : Nat → Int32) (g12 : Int32) (g13 : Int64) (g14 : Int32) (g15 : Int32) (g16 : Nat → Int32) (H : Heap) (locs : List Loc) (ls : Array Slot), va_P D CLS (wT a q (a 5) (a 7) g0 g1 g2 g3 g4 g5 g6 g7 g8 g9 g10 g11 g12 g13 g14 g15 g16) H → va_D A (wT a q (a 5) (a 7) g0 g1 g2 g3 g4 g5 g6 g7 g8 g9 g10 g11 g12 g13 g14 g15 g16) → va_S A s.heap H locs → lv_has ls 6 [(0, .ref (a 3))] → f_Rd_read_46  s0 g2 g4 g5 g6 g7 g8 g9 g10 g11 g12 g13 g14 g15 g16 = some r0 → W p l e rm_Rd_read s m args below meth c H locs 0 0 (MQ below (va_Qr (fun _ : Unit => True) (fun _ ra t => (va_P D CLS (wT a q (a 5) (a 7) g0 g1 g2 g3 r0.2.2.2.1 r0.2.2.2.2.1 r0.2.2.2.2.2.1 r0.2.2.2.2.2.2.1 r0.2.2.2.2.2.2.2.1 r0.2.2.2.2.2.2.2.2.1 r0.2.2.2.2.2.2.2.2.2.1 r0.2.2.2.2.2.2.2.2.2.2.1 r0.2.2.2.2.2.2.2.2.2.2.2.1 r0.2.2.2.2.2.2.2.2.2.2.2.2.1 r0.2.2.2.2.2.2.2.2.2.2.2.2.2.1 r0.2.2.2.2.2.2.2.2.2.2.2.2.2.2.1 r0.2.2.2.2.2.2.2.2.2.2.2.2.2.2.2) t.heap) ∧ isC D t.heap ra r0.1 r0.2.1 r0.2.2.1 ∧ (s.heap.size ≤ ra ∨ ra ∈ PL)) A) args s 4 12 A) (F0 m 46 ls [.int s0]) := by
  obtain ⟨hx, hb, hml, hown, hts, hr, hlocks⟩ := id hC
  intro s0 g4 g5 g6 g7 g8 g9 g10 g11 g12 g13 g14 g15 g16 H locs ls hP hD hS hl h
  rw [f_Rd_read_46] at h
  have hSz : s.heap.size ≤ H.size := hS.1
  refine lv_istore_n (lv' := [(3, .int s0), (0, .ref (a 3))]) hx hb (dt_at dt_Rd_read 23 rfl) rfl hl (by decide) rfl (fun ls hl => ?_)
  refine lv_iload_n hx hb (dt_at dt_Rd_read 24 rfl) rfl (lv_at hl 0 rfl) ?_
  refine lv_if_eq (tgt := 58) hx hb (dt_at dt_Rd_read 25 rfl) (by decide) (fun c1 => ?_) (fun c1 => ?_)
  · have h := if_p h c1
    refine lv_aload_n hx hb (dt_at dt_Rd_read 29 rfl) rfl (lv_at hl 1 rfl) ?_
    obtain ⟨r2, h_r2, h⟩ := ob_of h
    have hPc := hP
    have hDc : va_D A (dT a) := dD (ws' := dT a) hD rfl
    have hKc := hK
    have hF := va_free (wc := dT a) hDc hS hA [0, 1, 2, 3, 4, 5, 6, 7, 8] rfl
    have hd : va_D (fun _ => True) (dT a) := hDc.weaken (fun _ _ _ _ => trivial)
    refine va_callr (va_runV (As := []) (rest := []) ⟨hx, hb, hml, hown, hts⟩ (c_Rd_readEnds l D a q  hd H.size  g0 g1 g2 g3 g4 g5 g6 g7 g8 g9 g10 g11 g12 g13 g14 g15 g16  n0 adK adV (fun x h9 => hAn x (hF x h9))  r2 h_r2) (cwV 0 hts (gd_V (m_2 222 rfl rfl) (m_2 224 rfl rfl) (m_s 10 rfl rfl) (m_1 2 rfl rfl) (m_2 225 rfl rfl)) rfl rfl rfl (by decide +kernel) ⟨Nat.le_of_ble_eq_true rfl, Nat.le_of_ble_eq_true rfl⟩) ⟨fun a U g mk q => ⟨q.1, q.2.1, q.2.2.1, va_K.moved (u := U) (U := U.calling g mk a) (Vm.Alike.refl U.vm) q.2.2.2.1, isS.call q.2.2.2.2⟩, va_recv hK hP (ci := 2) (q0 := 3) rfl rfl, fun U hU hW => ⟨rfl, by rw [hU], by rw [hU]; exact hPc, va_K.moved hW.alike hKc, hSt.go hS hAn hU hW⟩⟩ rfl rfl hl.1 rfl (lv_room (Nat.le_of_ble_eq_true rfl)) (dt_at dt_Rd_read 30 rfl) ⟨Nat.le_of_ble_eq_true rfl, Nat.le_of_ble_eq_true rfl⟩) hS (fun x _ h9 => hF x h9) hF (fun uu y_r2 t H1 locs ht hvm hw hB hz1 hk1 hS => ?_)
    obtain ⟨hB, hc_r2, hq_r2⟩ := hB
    rw [ht] at hc_r2
    have hn_r2 : nin (dT a) y_r2 := nin_cases hq_r2 (fun g9 => nin_big hP g9 rfl) (fun g9 => by simp at g9)
    have hf_r2 : s.heap.size ≤ y_r2 ∨ y_r2 ∈ PL := nin_cases hq_r2 (fun g9 => Or.inl (Nat.le_trans hSz g9)) (fun g9 => by simp at g9)
    clear hq_r2
    rw [ht] at hB
    have hP : va_P D CLS (wT a q (a 5) (a 7) g0 g1 g2 g3 g4 r2.2.2.2.1 g6 r2.2.2.2.2.1 r2.2.2.2.2.2.1 r2.2.2.2.2.2.2.1 r2.2.2.2.2.2.2.2.1 r2.2.2.2.2.2.2.2.2.1 r2.2.2.2.2.2.2.2.2.2.1 r2.2.2.2.2.2.2.2.2.2.2.1 r2.2.2.2.2.2.2.2.2.2.2.2.1 r2.2.2.2.2.2.2.2.2.2.2.2.2.1 r2.2.2.2.2.2.2.2.2.2.2.2.2.2) H1 := hB
    have hD : va_D A (wT a q (a 5) (a 7) g0 g1 g2 g3 g4 r2.2.2.2.1 g6 r2.2.2.2.2.1 r2.2.2.2.2.2.1 r2.2.2.2.2.2.2.1 r2.2.2.2.2.2.2.2.1 r2.2.2.2.2.2.2.2.2.1 r2.2.2.2.2.2.2.2.2.2.1 r2.2.2.2.2.2.2.2.2.2.2.1 r2.2.2.2.2.2.2.2.2.2.2.2.1 r2.2.2.2.2.2.2.2.2.2.2.2.2.1 r2.2.2.2.2.2.2.2.2.2.2.2.2.2) := dD hD rfl
    refine W.widen (k := 2) (n := 6) (Nat.le_of_ble_eq_true rfl) (Nat.le_of_ble_eq_true rfl) ?_
    have hSz : s.heap.size ≤ H1.size := hS.1
    clear hk1 hz1 hPc hF hB ht
    generalize H1 = H at hP hS hSz hc_r2 ⊢
    exact k_Rd_read_62 (PL := PL) hC hA hK hSt hAn   r2.1 r2.2.1 r2.2.2.1 g4 r2.2.2.2.1 g6 r2.2.2.2.2.1 r2.2.2.2.2.2.1 r2.2.2.2.2.2.2.1 r2.2.2.2.2.2.2.2.1 r2.2.2.2.2.2.2.2.2.1 r2.2.2.2.2.2.2.2.2.2.1 r2.2.2.2.2.2.2.2.2.2.2.1 r2.2.2.2.2.2.2.2.2.2.2.2.1 r2.2.2.2.2.2.2.2.2.2.2.2.2.1 r2.2.2.2.2.2.2.2.2.2.2.2.2.2 y_r2 H locs ls hP hD hS  hc_r2 hf_r2 hn_r2 (lv_sub hl [1] rfl) h
  · have h := if_n h c1
    refine lv_aload_n hx hb (dt_at dt_Rd_read 26 rfl) rfl (lv_at hl 1 rfl) ?_
    obtain ⟨r3, h_r3, h⟩ := ob_of h
    have hPc := hP
    have hDc : va_D A (dT a) := dD (ws' := dT a) hD rfl
    have hKc := hK
    have hF := va_free (wc := dT a) hDc hS hA [0, 1, 2, 3, 4, 5, 6, 7, 8] rfl
    have hd : va_D (fun _ => True) (dT a) := hDc.weaken (fun _ _ _ _ => trivial)
    refine va_callr (va_runV (As := []) (rest := []) ⟨hx, hb, hml, hown, hts⟩ (c_Rd_readNamed l D a q  hd H.size  g0 g1 g2 g3 g4 g5 g6 g7 g8 g9 g10 g11 g12 g13 g14 g15 g16  n0 adK adV (fun x h9 => hAn x (hF x h9))  r3 h_r3) (cwV 0 hts (gd_V (m_2 147 rfl rfl) (m_2 149 rfl rfl) (m_s 7 rfl rfl) (m_1 2 rfl rfl) (m_2 150 rfl rfl)) rfl rfl rfl (by decide +kernel) ⟨Nat.le_of_ble_eq_true rfl, Nat.le_of_ble_eq_true rfl⟩) ⟨fun a U g mk q => ⟨q.1, q.2.1, q.2.2.1, va_K.moved (u := U) (U := U.calling g mk a) (Vm.Alike.refl U.vm) q.2.2.2.1, isS.call q.2.2.2.2⟩, va_recv hK hP (ci := 2) (q0 := 3) rfl rfl, fun U hU hW => ⟨rfl, by rw [hU], by rw [hU]; exact hPc, va_K.moved hW.alike hKc, hSt.go hS hAn hU hW⟩⟩ rfl rfl hl.1 rfl (lv_room (Nat.le_of_ble_eq_true rfl)) (dt_at dt_Rd_read 27 rfl) ⟨Nat.le_of_ble_eq_true rfl, Nat.le_of_ble_eq_true rfl⟩) hS (fun x _ h9 => hF x h9) hF (fun uu y_r3 t H1 locs ht hvm hw hB hz1 hk1 hS => ?_)
    obtain ⟨hB, hc_r3, hq_r3⟩ := hB
    rw [ht] at hc_r3
    have hn_r3 : nin (dT a) y_r3 := nin_cases hq_r3 (fun g9 => nin_big hP g9 rfl) (fun g9 => by simp at g9)
    have hf_r3 : s.heap.size ≤ y_r3 ∨ y_r3 ∈ PL := nin_cases hq_r3 (fun g9 => Or.inl (Nat.le_trans hSz g9)) (fun g9 => by simp at g9)
    clear hq_r3
    rw [ht] at hB
    have hP : va_P D CLS (wT a q (a 5) (a 7) g0 g1 g2 g3 g4 r3.2.2.2 g6 g7 g8 g9 g10 g11 g12 g13 g14 g15 g16) H1 := hB
    have hD : va_D A (wT a q (a 5) (a 7) g0 g1 g2 g3 g4 r3.2.2.2 g6 g7 g8 g9 g10 g11 g12 g13 g14 g15 g16) := dD hD rfl
    refine W.widen (k := 2) (n := 6) (Nat.le_of_ble_eq_true rfl) (Nat.le_of_ble_eq_true rfl) ?_
    have hSz : s.heap.size ≤ H1.size := hS.1
    clear hk1 hz1 hPc hF hB ht
    generalize H1 = H at hP hS hSz hc_r3 ⊢
    refine lv_goto (tgt := 62) hx hb (dt_at dt_Rd_read 28 rfl) (by decide) ?_
    exact k_Rd_read_62 (PL := PL) hC hA hK hSt hAn   r3.1 r3.2.1 r3.2.2.1 g4 r3.2.2.2 g6 g7 g8 g9 g10 g11 g12 g13 g14 g15 g16 y_r3 H locs ls hP hD hS  hc_r3 hf_r3 hn_r3 (lv_sub hl [1] rfl) h
set_option maxRecDepth 100000 in
set_option maxHeartbeats 4000000 in
theorem k_Rd_read_41 {p : Program} {l : Launch} {e : Env} {s : State} {m : MethodId} {args : Array Value} {below : List Frame} {meth : Method} {c : Code} {D : va_G} {a : Nat → Nat} {q : Nat → ClassId} {PL : List Nat} {A : Nat → Prop} (hC : CX p s m args meth c prog_5_method_2_code 6 "OutwardTape$LiteralReader" (some (.object "OutwardTape$Cell"))) (hA : ∀ x, s.heap.size ≤ x → A x) (hK : va_K D CLS (tT q) s) {n0 : Nat} {adK adV : Nat → Nat} (hSt : isS n0 adK adV s) (hAn : ∀ x, A x → n0 ≤ x) {g0 : Int32} {g1 : Int32} {g2 : Nat → Int32} {g3 : Nat → Option Nat} {r0 : Int64 × Int64 × Int32 × Int32 × Int32 × (Nat → Int32) × Int32 × Int64 × Int32 × Int32 × (Nat → Int32) × Int32 × Int64 × Int32 × Int32 × (Nat → Int32)} : ∀  (g4 : Int32) (g5 : Int32) (g6 : Nat → Int32) (g7 : Int32) (g8 : Int64) (g9 : Int32) (g10 : Int32) (g11 : Nat → Int32) (g12 : Int32) (g13 : Int64) (g14 : Int32) (g15 : Int32) (g16 : Nat → Int32) (H : Heap) (locs : List Loc) (ls : Array Slot), va_P D CLS (wT a q (a 5) (a 7) g0 g1 g2 g3 g4 g5 g6 g7 g8 g9 g10 g11 g12 g13 g14 g15 g16) H → va_D A (wT a q (a 5) (a 7) g0 g1 g2 g3 g4 g5 g6 g7 g8 g9 g10 g11 g12 g13 g14 g15 g16) → va_S A s.heap H locs → lv_has ls 6 [(0, .ref (a 3))] → f_Rd_read_41  g2 g4 g5 g6 g7 g8 g9 g10 g11 g12 g13 g14 g15 g16 = some r0 → W p l e rm_Rd_read s m args below meth c H locs 0 0 (MQ below (va_Qr (fun _ : Unit => True) (fun _ ra t => (va_P D CLS (wT a q (a 5) (a 7) g0 g1 g2 g3 r0.2.2.2.1 r0.2.2.2.2.1 r0.2.2.2.2.2.1 r0.2.2.2.2.2.2.1 r0.2.2.2.2.2.2.2.1 r0.2.2.2.2.2.2.2.2.1 r0.2.2.2.2.2.2.2.2.2.1 r0.2.2.2.2.2.2.2.2.2.2.1 r0.2.2.2.2.2.2.2.2.2.2.2.1 r0.2.2.2.2.2.2.2.2.2.2.2.2.1 r0.2.2.2.2.2.2.2.2.2.2.2.2.2.1 r0.2.2.2.2.2.2.2.2.2.2.2.2.2.2.1 r0.2.2.2.2.2.2.2.2.2.2.2.2.2.2.2) t.heap) ∧ isC D t.heap ra r0.1 r0.2.1 r0.2.2.1 ∧ (s.heap.size ≤ ra ∨ ra ∈ PL)) A) args s 4 12 A) (F0 m 41 ls []) := by
  obtain ⟨hx, hb, hml, hown, hts, hr, hlocks⟩ := id hC
  intro g4 g5 g6 g7 g8 g9 g10 g11 g12 g13 g14 g15 g16 H locs ls hP hD hS hl h
  rw [f_Rd_read_41] at h
  have hSz : s.heap.size ≤ H.size := hS.1
  refine lv_iconst (v := 1) hx hb (dt_at dt_Rd_read 20 rfl) (by decide) ?_
  refine lv_goto (tgt := 46) hx hb (dt_at dt_Rd_read 21 rfl) (by decide) ?_
  exact k_Rd_read_46 (PL := PL) hC hA hK hSt hAn   (1 : Int32) g4 g5 g6 g7 g8 g9 g10 g11 g12 g13 g14 g15 g16 H locs ls hP hD hS   (lv_sub hl [0] rfl) h
set_option maxRecDepth 100000 in
set_option maxHeartbeats 4000000 in
theorem k_Rd_read_0 {p : Program} {l : Launch} {e : Env} {s : State} {m : MethodId} {args : Array Value} {below : List Frame} {meth : Method} {c : Code} {D : va_G} {a : Nat → Nat} {q : Nat → ClassId} {PL : List Nat} {A : Nat → Prop} (hC : CX p s m args meth c prog_5_method_2_code 6 "OutwardTape$LiteralReader" (some (.object "OutwardTape$Cell"))) (hA : ∀ x, s.heap.size ≤ x → A x) (hK : va_K D CLS (tT q) s) {n0 : Nat} {adK adV : Nat → Nat} (hSt : isS n0 adK adV s) (hAn : ∀ x, A x → n0 ≤ x) {g0 : Int32} {g1 : Int32} {g2 : Nat → Int32} {g3 : Nat → Option Nat} {r0 : Int64 × Int64 × Int32 × Int32 × Int32 × (Nat → Int32) × Int32 × Int64 × Int32 × Int32 × (Nat → Int32) × Int32 × Int64 × Int32 × Int32 × (Nat → Int32)} : ∀ (v2 : Int32) (g4 : Int32) (g5 : Int32) (g6 : Nat → Int32) (g7 : Int32) (g8 : Int64) (g9 : Int32) (g10 : Int32) (g11 : Nat → Int32) (g12 : Int32) (g13 : Int64) (g14 : Int32) (g15 : Int32) (g16 : Nat → Int32) (H : Heap) (locs : List Loc) (ls : Array Slot), va_P D CLS (wT a q (a 5) (a 7) g0 g1 g2 g3 g4 g5 g6 g7 g8 g9 g10 g11 g12 g13 g14 g15 g16) H → va_D A (wT a q (a 5) (a 7) g0 g1 g2 g3 g4 g5 g6 g7 g8 g9 g10 g11 g12 g13 g14 g15 g16) → va_S A s.heap H locs → lv_has ls 6 [(0, .ref (a 3)), (1, .ref (a 1)), (2, .int v2)] → f_Rd_read_0  v2 g2 g4 g5 g6 g7 g8 g9 g10 g11 g12 g13 g14 g15 g16 = some r0 → W p l e rm_Rd_read s m args below meth c H locs 0 0 (MQ below (va_Qr (fun _ : Unit => True) (fun _ ra t => (va_P D CLS (wT a q (a 5) (a 7) g0 g1 g2 g3 r0.2.2.2.1 r0.2.2.2.2.1 r0.2.2.2.2.2.1 r0.2.2.2.2.2.2.1 r0.2.2.2.2.2.2.2.1 r0.2.2.2.2.2.2.2.2.1 r0.2.2.2.2.2.2.2.2.2.1 r0.2.2.2.2.2.2.2.2.2.2.1 r0.2.2.2.2.2.2.2.2.2.2.2.1 r0.2.2.2.2.2.2.2.2.2.2.2.2.1 r0.2.2.2.2.2.2.2.2.2.2.2.2.2.1 r0.2.2.2.2.2.2.2.2.2.2.2.2.2.2.1 r0.2.2.2.2.2.2.2.2.2.2.2.2.2.2.2) t.heap) ∧ isC D t.heap ra r0.1 r0.2.1 r0.2.2.1 ∧ (s.heap.size ≤ ra ∨ ra ∈ PL)) A) args s 4 12 A) (F0 m 0 ls []) := by
  obtain ⟨hx, hb, hml, hown, hts, hr, hlocks⟩ := id hC
  intro v2 g4 g5 g6 g7 g8 g9 g10 g11 g12 g13 g14 g15 g16 H locs ls hP hD hS hl h
  rw [f_Rd_read_0] at h
  have hSz : s.heap.size ≤ H.size := hS.1
  refine lv_aload_n hx hb (dt_at dt_Rd_read 0 rfl) rfl (lv_at hl 0 rfl) ?_
  refine lv_aload_n hx hb (dt_at dt_Rd_read 1 rfl) rfl (lv_at hl 1 rfl) ?_
  refine lv_iload_n hx hb (dt_at dt_Rd_read 2 rfl) rfl (lv_at hl 2 rfl) ?_
  obtain ⟨r1, h_r1, h⟩ := ob_of h
  have hPc := hP
  have hDc : va_D A (dT a) := dD (ws' := dT a) hD rfl
  have hKc := hK
  have hF := va_free (wc := dT a) hDc hS hA [0, 1, 2, 3, 4, 5, 6, 7, 8] rfl
  have hd : va_D (fun _ => True) (dT a) := hDc.weaken (fun _ _ _ _ => trivial)
  refine va_callv (va_runV (As := [.ref (a 1), .int v2]) (rest := []) ⟨hx, hb, hml, hown, hts⟩ (c_Rd_begin l D a q (a 5) (a 7) hd H.size v2 g0 g1 g2 g3 g4 g5 g6 g7 g8 g9 g10 g11 g12 g13 g14 g15 g16   r1 h_r1) (cwV 2 hts (gd_V (m_2 93 rfl rfl) (m_2 95 rfl rfl) (m_s 3 rfl rfl) (m_1 2 rfl rfl) (m_2 96 rfl rfl)) rfl rfl rfl (by decide +kernel) ⟨Nat.le_of_ble_eq_true rfl, Nat.le_of_ble_eq_true rfl⟩) ⟨fun a U g mk q => ⟨q.1, q.2.1, q.2.2.1, va_K.moved (u := U) (U := U.calling g mk a) (Vm.Alike.refl U.vm) q.2.2.2⟩, va_recv hK hP (ci := 2) (q0 := 3) rfl rfl, fun U hU hW => ⟨rfl, by rw [hU], by rw [hU]; exact hPc, va_K.moved hW.alike hKc⟩⟩ rfl rfl hl.1 rfl (lv_room (Nat.le_of_ble_eq_true rfl)) (dt_at dt_Rd_read 3 rfl) ⟨Nat.le_of_ble_eq_true rfl, Nat.le_of_ble_eq_true rfl⟩) hS (fun x _ h9 => hF x h9) hF (fun uu t H1 locs ht hvm hw hB hz1 hk1 hS => ?_)
  rw [ht] at hB
  have hP : va_P D CLS (wT a q (a 5) (a 7) g0 g1 g2 g3 r1.1 r1.2.1 r1.2.2 g7 g8 g9 g10 g11 g12 g13 g14 g15 g16) H1 := hB
  have hD : va_D A (wT a q (a 5) (a 7) g0 g1 g2 g3 r1.1 r1.2.1 r1.2.2 g7 g8 g9 g10 g11 g12 g13 g14 g15 g16) := dD hD rfl
  have hSz : s.heap.size ≤ H1.size := hS.1
  clear hk1 hz1 hPc hF hB ht
  generalize H1 = H at hP hS hSz  ⊢
  refine lv_aload_n hx hb (dt_at dt_Rd_read 4 rfl) rfl (lv_at hl 0 rfl) ?_
  refine lv_bipush (v := 91) hx hb (dt_at dt_Rd_read 5 rfl) (by decide) ?_
  obtain ⟨r2, h_r2, h⟩ := ob_of h
  have hPc := hP
  have hDc : va_D A (dT a) := dD (ws' := dT a) hD rfl
  have hKc := hK
  have hF := va_free (wc := dT a) hDc hS hA [0, 1, 2, 3, 4, 5, 6, 7, 8] rfl
  have hd : va_D (fun _ => True) (dT a) := hDc.weaken (fun _ _ _ _ => trivial)
  refine va_calli (va_runV (As := [.int (91 : Int32)]) (rest := []) ⟨hx, hb, hml, hown, hts⟩ (c_Rd_take l D a q (a 5) (a 7) hd H.size (91 : Int32) g0 g1 g2 g3 r1.1 r1.2.1 r1.2.2 g7 g8 g9 g10 g11 g12 g13 g14 g15 g16   r2 h_r2) (cwV 1 hts (gd_V (m_2 100 rfl rfl) (m_2 102 rfl rfl) (m_s 4 rfl rfl) (m_1 2 rfl rfl) (m_2 103 rfl rfl)) rfl rfl rfl (by decide +kernel) ⟨Nat.le_of_ble_eq_true rfl, Nat.le_of_ble_eq_true rfl⟩) ⟨fun a U g mk q => ⟨q.1, q.2.1, q.2.2.1, va_K.moved (u := U) (U := U.calling g mk a) (Vm.Alike.refl U.vm) q.2.2.2⟩, va_recv hK hP (ci := 2) (q0 := 3) rfl rfl, fun U hU hW => ⟨rfl, by rw [hU], by rw [hU]; exact hPc, va_K.moved hW.alike hKc⟩⟩ rfl rfl hl.1 rfl (lv_room (Nat.le_of_ble_eq_true rfl)) (dt_at dt_Rd_read 6 rfl) ⟨Nat.le_of_ble_eq_true rfl, Nat.le_of_ble_eq_true rfl⟩) hS (fun x _ h9 => hF x h9) hF (fun u_r2 uu t H1 locs ht hvm hw hB hz1 hk1 hS => ?_)
  subst hw
  rw [ht] at hB
  have hP : va_P D CLS (wT a q (a 5) (a 7) g0 g1 g2 g3 r1.1 r2.2 r1.2.2 g7 g8 g9 g10 g11 g12 g13 g14 g15 g16) H1 := hB
  have hD : va_D A (wT a q (a 5) (a 7) g0 g1 g2 g3 r1.1 r2.2 r1.2.2 g7 g8 g9 g10 g11 g12 g13 g14 g15 g16) := dD hD rfl
  have hSz : s.heap.size ≤ H1.size := hS.1
  clear hk1 hz1 hPc hF hB ht
  generalize H1 = H at hP hS hSz  ⊢
  refine lv_if_ne (tgt := 19) hx hb (dt_at dt_Rd_read 7 rfl) (by decide) (fun c3 => ?_) (fun c3 => ?_)
  · have h := if_n h c3
    refine lv_aload_n hx hb (dt_at dt_Rd_read 10 rfl) rfl (lv_at hl 0 rfl) ?_
    obtain ⟨r4, h_r4, h⟩ := ob_of h
    have hPc := hP
    have hDc : va_D A (dT a) := dD (ws' := dT a) hD rfl
    have hKc := hK
    have hF := va_free (wc := dT a) hDc hS hA [0, 1, 2, 3, 4, 5, 6, 7, 8] rfl
    have hd : va_D (fun _ => True) (dT a) := hDc.weaken (fun _ _ _ _ => trivial)
    refine va_callv (va_runV (As := []) (rest := []) ⟨hx, hb, hml, hown, hts⟩ (c_Rd_takeSpaces l D a q (a 5) (a 7) hd H.size  g0 g1 g2 g3 r1.1 r2.2 r1.2.2 g7 g8 g9 g10 g11 g12 g13 g14 g15 g16   r4 h_r4) (cwV 0 hts (gd_V (m_2 143 rfl rfl) (m_2 145 rfl rfl) (m_s 6 rfl rfl) (m_1 2 rfl rfl) (m_2 146 rfl rfl)) rfl rfl rfl (by decide +kernel) ⟨Nat.le_of_ble_eq_true rfl, Nat.le_of_ble_eq_true rfl⟩) ⟨fun a U g mk q => ⟨q.1, q.2.1, q.2.2.1, va_K.moved (u := U) (U := U.calling g mk a) (Vm.Alike.refl U.vm) q.2.2.2⟩, va_recv hK hP (ci := 2) (q0 := 3) rfl rfl, fun U hU hW => ⟨rfl, by rw [hU], by rw [hU]; exact hPc, va_K.moved hW.alike hKc⟩⟩ rfl rfl hl.1 rfl (lv_room (Nat.le_of_ble_eq_true rfl)) (dt_at dt_Rd_read 11 rfl) ⟨Nat.le_of_ble_eq_true rfl, Nat.le_of_ble_eq_true rfl⟩) hS (fun x _ h9 => hF x h9) hF (fun uu t H1 locs ht hvm hw hB hz1 hk1 hS => ?_)
    rw [ht] at hB
    have hP : va_P D CLS (wT a q (a 5) (a 7) g0 g1 g2 g3 r1.1 r4 r1.2.2 g7 g8 g9 g10 g11 g12 g13 g14 g15 g16) H1 := hB
    have hD : va_D A (wT a q (a 5) (a 7) g0 g1 g2 g3 r1.1 r4 r1.2.2 g7 g8 g9 g10 g11 g12 g13 g14 g15 g16) := dD hD rfl
    have hSz : s.heap.size ≤ H1.size := hS.1
    clear hk1 hz1 hPc hF hB ht
    generalize H1 = H at hP hS hSz  ⊢
    refine lv_aload_n hx hb (dt_at dt_Rd_read 12 rfl) rfl (lv_at hl 0 rfl) ?_
    obtain ⟨r5, h_r5, h⟩ := ob_of h
    have hPc := hP
    have hDc : va_D A (dT a) := dD (ws' := dT a) hD rfl
    have hKc := hK
    have hF := va_free (wc := dT a) hDc hS hA [0, 1, 2, 3, 4, 5, 6, 7, 8] rfl
    have hd : va_D (fun _ => True) (dT a) := hDc.weaken (fun _ _ _ _ => trivial)
    refine va_calli (va_runV (As := []) (rest := []) ⟨hx, hb, hml, hown, hts⟩ (c_Rd_next l D a q (a 5) (a 7) hd H.size  g0 g1 g2 g3 r1.1 r4 r1.2.2 g7 g8 g9 g10 g11 g12 g13 g14 g15 g16   r5 h_r5) (cwV 0 hts (gd_V (m_2 104 rfl rfl) (m_2 106 rfl rfl) (m_s 5 rfl rfl) (m_1 2 rfl rfl) (m_2 107 rfl rfl)) rfl rfl rfl (by decide +kernel) ⟨Nat.le_of_ble_eq_true rfl, Nat.le_of_ble_eq_true rfl⟩) ⟨fun a U g mk q => ⟨q.1, q.2.1, q.2.2.1, va_K.moved (u := U) (U := U.calling g mk a) (Vm.Alike.refl U.vm) q.2.2.2⟩, va_recv hK hP (ci := 2) (q0 := 3) rfl rfl, fun U hU hW => ⟨rfl, by rw [hU], by rw [hU]; exact hPc, va_K.moved hW.alike hKc⟩⟩ rfl rfl hl.1 rfl (lv_room (Nat.le_of_ble_eq_true rfl)) (dt_at dt_Rd_read 13 rfl) ⟨Nat.le_of_ble_eq_true rfl, Nat.le_of_ble_eq_true rfl⟩) hS (fun x _ h9 => hF x h9) hF (fun u_r5 uu t H1 locs ht hvm hw hB hz1 hk1 hS => ?_)
    obtain rfl : r5 = u_r5 := hw.symm
    rw [ht] at hB
    have hP : va_P D CLS (wT a q (a 5) (a 7) g0 g1 g2 g3 r1.1 r4 r1.2.2 g7 g8 g9 g10 g11 g12 g13 g14 g15 g16) H1 := hB
    have hD : va_D A (wT a q (a 5) (a 7) g0 g1 g2 g3 r1.1 r4 r1.2.2 g7 g8 g9 g10 g11 g12 g13 g14 g15 g16) := dD hD rfl
    have hSz : s.heap.size ≤ H1.size := hS.1
    clear hk1 hz1 hPc hF hB ht
    generalize H1 = H at hP hS hSz  ⊢
    refine lv_bipush (v := 93) hx hb (dt_at dt_Rd_read 14 rfl) (by decide) ?_
    refine lv_icmp_eq (tgt := 41) hx hb (dt_at dt_Rd_read 15 rfl) (by decide) (fun c6 => ?_) (fun c6 => ?_)
    · have h := if_p h c6
      exact k_Rd_read_41 (PL := PL) hC hA hK hSt hAn   r1.1 r4 r1.2.2 g7 g8 g9 g10 g11 g12 g13 g14 g15 g16 H locs ls hP hD hS   (lv_sub hl [0] rfl) h
    · have h := if_n h c6
      refine lv_aload_n hx hb (dt_at dt_Rd_read 16 rfl) rfl (lv_at hl 0 rfl) ?_
      obtain ⟨r7, h_r7, h⟩ := ob_of h
      have hPc := hP
      have hDc : va_D A (dT a) := dD (ws' := dT a) hD rfl
      have hKc := hK
      have hF := va_free (wc := dT a) hDc hS hA [0, 1, 2, 3, 4, 5, 6, 7, 8] rfl
      have hd : va_D (fun _ => True) (dT a) := hDc.weaken (fun _ _ _ _ => trivial)
      refine va_calli (va_runV (As := []) (rest := []) ⟨hx, hb, hml, hown, hts⟩ (c_Rd_next l D a q (a 5) (a 7) hd H.size  g0 g1 g2 g3 r1.1 r4 r1.2.2 g7 g8 g9 g10 g11 g12 g13 g14 g15 g16   r7 h_r7) (cwV 0 hts (gd_V (m_2 104 rfl rfl) (m_2 106 rfl rfl) (m_s 5 rfl rfl) (m_1 2 rfl rfl) (m_2 107 rfl rfl)) rfl rfl rfl (by decide +kernel) ⟨Nat.le_of_ble_eq_true rfl, Nat.le_of_ble_eq_true rfl⟩) ⟨fun a U g mk q => ⟨q.1, q.2.1, q.2.2.1, va_K.moved (u := U) (U := U.calling g mk a) (Vm.Alike.refl U.vm) q.2.2.2⟩, va_recv hK hP (ci := 2) (q0 := 3) rfl rfl, fun U hU hW => ⟨rfl, by rw [hU], by rw [hU]; exact hPc, va_K.moved hW.alike hKc⟩⟩ rfl rfl hl.1 rfl (lv_room (Nat.le_of_ble_eq_true rfl)) (dt_at dt_Rd_read 17 rfl) ⟨Nat.le_of_ble_eq_true rfl, Nat.le_of_ble_eq_true rfl⟩) hS (fun x _ h9 => hF x h9) hF (fun u_r7 uu t H1 locs ht hvm hw hB hz1 hk1 hS => ?_)
      obtain rfl : r7 = u_r7 := hw.symm
      rw [ht] at hB
      have hP : va_P D CLS (wT a q (a 5) (a 7) g0 g1 g2 g3 r1.1 r4 r1.2.2 g7 g8 g9 g10 g11 g12 g13 g14 g15 g16) H1 := hB
      have hD : va_D A (wT a q (a 5) (a 7) g0 g1 g2 g3 r1.1 r4 r1.2.2 g7 g8 g9 g10 g11 g12 g13 g14 g15 g16) := dD hD rfl
      have hSz : s.heap.size ≤ H1.size := hS.1
      clear hk1 hz1 hPc hF hB ht
      generalize H1 = H at hP hS hSz  ⊢
      refine lv_bipush (v := 101) hx hb (dt_at dt_Rd_read 18 rfl) (by decide) ?_
      refine lv_icmp_ne (tgt := 45) hx hb (dt_at dt_Rd_read 19 rfl) (by decide) (fun c8 => ?_) (fun c8 => ?_)
      · have h := if_n h c8
        refine lv_iconst (v := 0) hx hb (dt_at dt_Rd_read 22 rfl) (by decide) ?_
        exact k_Rd_read_46 (PL := PL) hC hA hK hSt hAn   (0 : Int32) r1.1 r4 r1.2.2 g7 g8 g9 g10 g11 g12 g13 g14 g15 g16 H locs ls hP hD hS   (lv_sub hl [0] rfl) h
      · have h := if_p h c8
        exact k_Rd_read_41 (PL := PL) hC hA hK hSt hAn   r1.1 r4 r1.2.2 g7 g8 g9 g10 g11 g12 g13 g14 g15 g16 H locs ls hP hD hS   (lv_sub hl [0] rfl) h
  · have h := if_p h c3
    obtain ⟨r9, h_r9, h⟩ := ob_of h
    have hPc : va_P D CLS (wE a q) H := fun k q h => by simp [wE] at h
    have hd : va_D (fun _ => True) (dE a) := dE_D a
    have hKc : va_K D CLS (tE q) s := hK.sub (tys' := []) [] rfl
    have hF : ∀ x, va_A (dE a) H.size x → A x := fun x h9 => h9.elim (fun ⟨k, e, h⟩ => by simp [dE] at h) (fun g => hA _ (Nat.le_trans hS.1 g))
    refine va_callr (va_runS (As := []) (rest := []) ⟨hx, hb, hml, hown, hts⟩ (c_Cell_ill l D a q  hd H.size     r9 h_r9) (va_cwS 0 hts (gd_S (m_2 108 rfl rfl) (m_2 109 rfl rfl) (m_1 10 rfl rfl) (m_2 110 rfl rfl)) rfl rfl rfl (by decide +kernel) ⟨Nat.le_of_ble_eq_true rfl, Nat.le_of_ble_eq_true rfl⟩) ⟨fun a U g mk q => ⟨q.1, q.2.1, q.2.2.1, va_K.moved (u := U) (U := U.calling g mk a) (Vm.Alike.refl U.vm) q.2.2.2⟩, fun U hU hW => ⟨rfl, by rw [hU], by rw [hU]; exact hPc, va_K.moved hW.alike hKc⟩⟩ rfl rfl hl.1 rfl (lv_room (Nat.le_of_ble_eq_true rfl)) (dt_at dt_Rd_read 8 rfl) ⟨Nat.le_of_ble_eq_true rfl, Nat.le_of_ble_eq_true rfl⟩) hS (fun x _ h9 => hF x h9) hF (fun uu y_r9 t H1 locs ht hvm hw hB hz1 hk1 hS => ?_)
    obtain ⟨hB, hc_r9, hq_r9⟩ := hB
    rw [ht] at hc_r9
    have hn_r9 : nin (dT a) y_r9 := nin_cases hq_r9 (fun g9 => nin_big hP g9 rfl) (fun g9 => by simp at g9)
    have hf_r9 : s.heap.size ≤ y_r9 ∨ y_r9 ∈ PL := nin_cases hq_r9 (fun g9 => Or.inl (Nat.le_trans hSz g9)) (fun g9 => by simp at g9)
    clear hq_r9
    have hP := va_P.kept hP (fun k q hq => hk1 _ (hP k q hq).lt (not_AE (hP k q hq).lt))
    refine W.widen (k := 1) (n := 3) (Nat.le_of_ble_eq_true rfl) (Nat.le_of_ble_eq_true rfl) ?_
    have hSz : s.heap.size ≤ H1.size := hS.1
    clear hk1 hz1 hPc hF hB ht
    generalize H1 = H at hP hS hSz hc_r9 ⊢
    obtain rfl := os_of h
    refine W.widen (k := 4) (n := 12) (Nat.le_of_ble_eq_true rfl) (Nat.le_of_ble_eq_true rfl) ?_
    exact W.aret hx hb hr (Or.inl ⟨_, rfl⟩) (Or.inr ⟨_, rfl⟩) (fun t ht hW => ⟨⟨(), y_r9, rfl, trivial, (hPt hP ht), hPt hc_r9 ht, hf_r9⟩, hS.F ht⟩) hS.2.2 (dt_at dt_Rd_read 9 rfl)
set_option maxRecDepth 100000 in
set_option maxHeartbeats 4000000 in
theorem c_Rd_read (l : Launch) (D : va_G) (a : Nat → Nat) (q : Nat → ClassId) (hd : va_D (fun _ => True) (dT a)) (sz : Nat) (a2 : Int32) (g0 : Int32) (g1 : Int32) (g2 : Nat → Int32) (g3 : Nat → Option Nat) (g4 : Int32) (g5 : Int32) (g6 : Nat → Int32) (g7 : Int32) (g8 : Int64) (g9 : Int32) (g10 : Int32) (g11 : Nat → Int32) (g12 : Int32) (g13 : Int64) (g14 : Int32) (g15 : Int32) (g16 : Nat → Int32)  (n0 : Nat) (adK adV : Nat → Nat) (hn0 : ∀ x, va_A (dT a) sz x → n0 ≤ x)  (r0 : Int64 × Int64 × Int32 × Int32 × Int32 × (Nat → Int32) × Int32 × Int64 × Int32 × Int32 × (Nat → Int32) × Int32 × Int64 × Int32 × Int32 × (Nat → Int32)) (h : f_Rd_read a2 g2 g4 g5 g6 g7 g8 g9 g10 g11 g12 g13 g14 g15 g16 = some r0) : Met l (⟨"OutwardTape$LiteralReader", "read", "([CI)LOutwardTape$Cell;"⟩ : MethodName) (WSm (⟨"OutwardTape$LiteralReader", "read", "([CI)LOutwardTape$Cell;"⟩ : MethodName) prog_5_method_2_code 6 (some (.object "OutwardTape$Cell"))) rm_Rd_read (va_Pc [.ref (a 3), .ref (a 1), .int a2] (fun U => U.heap.size = sz ∧ va_P D CLS (wT a q (a 5) (a 7) g0 g1 g2 g3 g4 g5 g6 g7 g8 g9 g10 g11 g12 g13 g14 g15 g16) U.heap ∧ va_K D CLS (tT q) U ∧ isS n0 adK adV U)) (va_Qr (fun _ : Unit => True) (fun _ ra t => (va_P D CLS (wT a q (a 5) (a 7) g0 g1 g2 g3 r0.2.2.2.1 r0.2.2.2.2.1 r0.2.2.2.2.2.1 r0.2.2.2.2.2.2.1 r0.2.2.2.2.2.2.2.1 r0.2.2.2.2.2.2.2.2.1 r0.2.2.2.2.2.2.2.2.2.1 r0.2.2.2.2.2.2.2.2.2.2.1 r0.2.2.2.2.2.2.2.2.2.2.2.1 r0.2.2.2.2.2.2.2.2.2.2.2.2.1 r0.2.2.2.2.2.2.2.2.2.2.2.2.2.1 r0.2.2.2.2.2.2.2.2.2.2.2.2.2.2.1 r0.2.2.2.2.2.2.2.2.2.2.2.2.2.2.2) t.heap) ∧ isC D t.heap ra r0.1 r0.2.1 r0.2.2.1 ∧ (sz ≤ ra ∨ ra ∈ ([] : List Nat))) (va_A (dT a) sz)) 4 12 (va_A (dT a) sz) := by
  refine Met.ofW (cc := prog_5_method_2_code) (maxL := 6) (ret := (some (.object "OutwardTape$Cell"))) (by decide) rfl ?_
  intro p e s m args below meth c s₁ B hml hv
  obtain ⟨rfl, hsz, hP, hK, hSt⟩ := hv
  subst hsz
  have hC := CX.of B hml rfl
  have hl := lv_entry [.ref (a 3), .ref (a 1), .int a2] (n := 6) (Nat.le_of_ble_eq_true rfl)
  rw [lg_entry_eq]
  generalize (lg_sl [.ref (a 3), .ref (a 1), .int a2] ++ List.replicate (6 - (lg_sl [.ref (a 3), .ref (a 1), .int a2]).length) Slot.unset).toArray = ls at hl ⊢
  have hl : lv_has ls 6 [(0, .ref (a 3)), (1, .ref (a 1)), (2, .int a2)] := hl
  exact k_Rd_read_0 (PL := []) hC (fun x h => Or.inr h) hK hSt hn0 a2 g4 g5 g6 g7 g8 g9 g10 g11 g12 g13 g14 g15 g16   s.heap [] ls hP (dD hd.self rfl) va_S.rf   (lv_sub hl [0, 1, 2] rfl) h
abbrev rm_Tape_type : Room := { frames := 0, cells := 0, slots := 0, locals := 0 }
set_option maxRecDepth 100000 in
set_option maxHeartbeats 4000000 in
theorem k_Tape_type_114 {p : Program} {l : Launch} {e : Env} {s : State} {m : MethodId} {args : Array Value} {below : List Frame} {meth : Method} {c : Code} {D : va_G} {a : Nat → Nat} {q : Nat → ClassId} {L : Nat} {R : Nat} {A : Nat → Prop} (hC : CX p s m args meth c prog_1_method_2_code 5 "OutwardTape" (some .boolean)) (hA : ∀ x, s.heap.size ≤ x → A x) (hK : va_K D CLS (tT q) s) {g1 : Int32} {g3 : Nat → Option Nat} {g4 : Int32} {g5 : Int32} {g6 : Nat → Int32} {g7 : Int32} {g8 : Int64} {g9 : Int32} {g10 : Int32} {g11 : Nat → Int32} {g12 : Int32} {g13 : Int64} {g14 : Int32} {g15 : Int32} {g16 : Nat → Int32} {r0 : Int32 × Int32 × (Nat → Int32)} (k74 : Int32 → Int32 → Int32 → (Nat → Int32) → Option (Int32 × Int32 × (Nat → Int32))) (hk74 : ∀ (v1 : Int32) (v3 : Int32) (g0 : Int32) (g2 : Nat → Int32) (H : Heap) (locs : List Loc) (ls : Array Slot), va_P D CLS (wT a q L R g0 g1 g2 g3 g4 g5 g6 g7 g8 g9 g10 g11 g12 g13 g14 g15 g16) H → va_D A (wT a q L R g0 g1 g2 g3 g4 g5 g6 g7 g8 g9 g10 g11 g12 g13 g14 g15 g16) → va_S A s.heap H locs → lv_has ls 5 [(0, .ref (a 0)), (1, .int v1), (3, .int v3)] → k74 v1 v3 g0 g2 = some r0 → W p l e rm_Tape_type s m args below meth c H locs 0 0 (MQ below (va_Qi (fun (r : Int32) (_ : Unit) => r = r0.1) (fun _ t => va_P D CLS (wT a q L R r0.2.1 g1 r0.2.2 g3 g4 g5 g6 g7 g8 g9 g10 g11 g12 g13 g14 g15 g16) t.heap) A) args s 0 0 A) (F0 m 74 ls [])) : ∀ (v1 : Int32) (v3 : Int32) (g0 : Int32) (g2 : Nat → Int32) (H : Heap) (locs : List Loc) (ls : Array Slot), va_P D CLS (wT a q L R g0 g1 g2 g3 g4 g5 g6 g7 g8 g9 g10 g11 g12 g13 g14 g15 g16) H → va_D A (wT a q L R g0 g1 g2 g3 g4 g5 g6 g7 g8 g9 g10 g11 g12 g13 g14 g15 g16) → va_S A s.heap H locs → lv_has ls 5 [(0, .ref (a 0)), (1, .int v1), (3, .int v3)] → f_Tape_type_114 k74 v1 v3 g0 g2 = some r0 → W p l e rm_Tape_type s m args below meth c H locs 0 0 (MQ below (va_Qi (fun (r : Int32) (_ : Unit) => r = r0.1) (fun _ t => va_P D CLS (wT a q L R r0.2.1 g1 r0.2.2 g3 g4 g5 g6 g7 g8 g9 g10 g11 g12 g13 g14 g15 g16) t.heap) A) args s 0 0 A) (F0 m 114 ls []) := by
  obtain ⟨hx, hb, hml, hown, hts, hr, hlocks⟩ := id hC
  intro v1 v3 g0 g2 H locs ls hP hD hS hl h
  rw [f_Tape_type_114] at h
  have hSz : s.heap.size ≤ H.size := hS.1
  obtain ⟨t1, e_t1, h⟩ := ol_of h
  refine lv_iinc (v := t1) (lv' := [(3, .int t1), (0, .ref (a 0)), (1, .int v1)]) hx hb (dt_at dt_Tape_type 65 rfl) hl (k := 2) rfl (by rw [e_t1]; rfl) (by decide) rfl (fun ls hl => ?_)
  refine lv_goto (tgt := 74) hx hb (dt_at dt_Tape_type 66 rfl) (by decide) ?_
  exact hk74 v1 t1 g0 g2 H locs ls hP hD hS   (lv_sub hl [1, 2, 0] rfl) h
set_option maxRecDepth 100000 in
set_option maxHeartbeats 4000000 in
theorem k_Tape_type_74 {p : Program} {l : Launch} {e : Env} {s : State} {m : MethodId} {args : Array Value} {below : List Frame} {meth : Method} {c : Code} {D : va_G} {a : Nat → Nat} {q : Nat → ClassId} {L : Nat} {R : Nat} {A : Nat → Prop} (hC : CX p s m args meth c prog_1_method_2_code 5 "OutwardTape" (some .boolean)) (hA : ∀ x, s.heap.size ≤ x → A x) (hK : va_K D CLS (tT q) s) {g1 : Int32} {g3 : Nat → Option Nat} {g4 : Int32} {g5 : Int32} {g6 : Nat → Int32} {g7 : Int32} {g8 : Int64} {g9 : Int32} {g10 : Int32} {g11 : Nat → Int32} {g12 : Int32} {g13 : Int64} {g14 : Int32} {g15 : Int32} {g16 : Nat → Int32} {r0 : Int32 × Int32 × (Nat → Int32)} : ∀ n : Nat, ∀ (v1 : Int32) (v3 : Int32) (g0 : Int32) (g2 : Nat → Int32) (H : Heap) (locs : List Loc) (ls : Array Slot), va_P D CLS (wT a q L R g0 g1 g2 g3 g4 g5 g6 g7 g8 g9 g10 g11 g12 g13 g14 g15 g16) H → va_D A (wT a q L R g0 g1 g2 g3 g4 g5 g6 g7 g8 g9 g10 g11 g12 g13 g14 g15 g16) → va_S A s.heap H locs → lv_has ls 5 [(0, .ref (a 0)), (1, .int v1), (3, .int v3)] → f_Tape_type_74  n v1 v3 g0 g2 = some r0 → W p l e rm_Tape_type s m args below meth c H locs 0 0 (MQ below (va_Qi (fun (r : Int32) (_ : Unit) => r = r0.1) (fun _ t => va_P D CLS (wT a q L R r0.2.1 g1 r0.2.2 g3 g4 g5 g6 g7 g8 g9 g10 g11 g12 g13 g14 g15 g16) t.heap) A) args s 0 0 A) (F0 m 74 ls []) := by
  obtain ⟨hx, hb, hml, hown, hts, hr, hlocks⟩ := id hC
  intro n
  induction n with
  | zero => intro v1 v3 g0 g2 H locs ls hP hD hS hl h; cases h
  | succ n ih =>
    intro v1 v3 g0 g2 H locs ls hP hD hS hl h
    rw [f_Tape_type_74] at h
    have hSz : s.heap.size ≤ H.size := hS.1
    refine lv_iload_n hx hb (dt_at dt_Tape_type 42 rfl) rfl (lv_at hl 2 rfl) ?_
    refine lv_if_lt (tgt := 120) hx hb (dt_at dt_Tape_type 43 rfl) (by decide) (fun c1 => ?_) (fun c1 => ?_)
    · have h := if_p h c1
      refine lv_iconst (v := 1) hx hb (dt_at dt_Tape_type 67 rfl) (by decide) ?_
      obtain rfl := os_of h
      exact W.zret (v := (1 : Int32)) (ty := .boolean) hx hb hr (by decide) (fun t ht hW => ⟨⟨_, (), rfl, rfl, (hPt hP ht)⟩, hS.F ht⟩) hS.2.2 (dt_at dt_Tape_type 68 rfl)
    · have h := if_n h c1
      refine lv_iload_n hx hb (dt_at dt_Tape_type 44 rfl) rfl (lv_at hl 1 rfl) ?_
      refine lv_iload_n hx hb (dt_at dt_Tape_type 45 rfl) rfl (lv_at hl 2 rfl) ?_
      refine lv_iushr (v := (j_iushr v1 v3)) hx hb (dt_at dt_Tape_type 46 rfl) rfl ?_
      refine lv_sipush (v := 255) hx hb (dt_at dt_Tape_type 47 rfl) (by decide) ?_
      refine lv_iand hx hb (dt_at dt_Tape_type 48 rfl) ?_
      obtain ⟨t2, e_t2, h⟩ := ol_of h
      refine lv_topi (fun u_t2 q_t2 => ?_)
      obtain rfl : t2 = u_t2 := e_t2.trans q_t2.symm
      refine lv_istore (lv' := [(4, .int t2), (0, .ref (a 0)), (1, .int v1), (3, .int v3)]) hx hb (dt_at dt_Tape_type 49 rfl) hl (by decide) rfl (fun ls hl => ?_)
      refine lv_iload hx hb (dt_at dt_Tape_type 50 rfl) (lv_at hl 0 rfl) ?_
      refine lv_if_eq (tgt := 114) hx hb (dt_at dt_Tape_type 51 rfl) (by decide) (fun c3 => ?_) (fun c3 => ?_)
      · have h := if_p h c3
        exact k_Tape_type_114 hC hA hK (f_Tape_type_74  n) ih  v1 v3 g0 g2 H locs ls hP hD hS   (lv_sub hl [1, 2, 3] rfl) h
      · have h := if_n h c3
        refine lv_aload_n hx hb (dt_at dt_Tape_type 52 rfl) rfl (lv_at hl 1 rfl) ?_
        refine va_get (D := D) (ci := 1) (v := .ref (a 1)) (C := "OutwardTape") (T := T_Tape) (N := 5) hx hb hts in_Tape hown hK hP 0 rfl rfl 0 (by decide) (hts (Cond.fieldLink "OutwardTape" 9 "OutwardTape" "text" "[C") (m_1 79 rfl rfl)) (fun _ h9 => h9) rfl (dt_at dt_Tape_type 53 rfl) ?_
        refine lv_aload_n hx hb (dt_at dt_Tape_type 54 rfl) rfl (lv_at hl 1 rfl) ?_
        refine va_get (D := D) (ci := 1) (v := .int g0) (C := "OutwardTape") (T := T_Tape) (N := 5) hx hb hts in_Tape hown hK hP 0 rfl rfl 1 (by decide) (hts (Cond.fieldLink "OutwardTape" 13 "OutwardTape" "characters" "I") (m_1 80 rfl rfl)) (fun _ h9 => h9) rfl (dt_at dt_Tape_type 55 rfl) ?_
        refine lv_iload hx hb (dt_at dt_Tape_type 56 rfl) (lv_at hl 0 rfl) ?_
        refine lv_i2c (v := (j_i2c t2)) hx hb (dt_at dt_Tape_type 57 rfl) rfl ?_
        obtain ⟨z4, h⟩ := og_of h
        obtain ⟨t5, e_t5, h⟩ := ol_of h
        refine va_cast hx hb hK hP hD hS 1 0 rfl rfl z4 (dt_at dt_Tape_type 58 rfl) (fun H locs hP hD hS => ?_)
        have hP : va_P D CLS (wT a q L R g0 g1 t5 g3 g4 g5 g6 g7 g8 g9 g10 g11 g12 g13 g14 g15 g16) H := by rw [e_t5]; exact hP
        have hD : va_D A (wT a q L R g0 g1 t5 g3 g4 g5 g6 g7 g8 g9 g10 g11 g12 g13 g14 g15 g16) := dD hD rfl
        refine lv_aload_n hx hb (dt_at dt_Tape_type 59 rfl) rfl (lv_at hl 1 rfl) ?_
        refine lv_dup hx hb (dt_at dt_Tape_type 60 rfl) rfl ?_
        refine va_get (D := D) (ci := 1) (v := .int g0) (C := "OutwardTape") (T := T_Tape) (N := 5) hx hb hts in_Tape hown hK hP 0 rfl rfl 1 (by decide) (hts (Cond.fieldLink "OutwardTape" 13 "OutwardTape" "characters" "I") (m_1 80 rfl rfl)) (fun _ h9 => h9) rfl (dt_at dt_Tape_type 61 rfl) ?_
        refine lv_iconst (v := 1) hx hb (dt_at dt_Tape_type 62 rfl) (by decide) ?_
        refine lv_iadd hx hb (dt_at dt_Tape_type 63 rfl) ?_
        obtain ⟨t6, e_t6, h⟩ := ol_of h
        refine lv_topi (fun u_t6 q_t6 => ?_)
        obtain rfl : t6 = u_t6 := e_t6.trans q_t6.symm
        refine va_put (D := D) (ci := 1) (v := .int t6) (ty := .int) (C := "OutwardTape") (T := T_Tape) (N := 5) hx hb hts in_Tape ty_Tape tk_Tape nm_Tape hown hK hP hD hS 0 rfl rfl 1 (by decide) (hts (Cond.fieldLink "OutwardTape" 13 "OutwardTape" "characters" "I") (m_1 80 rfl rfl)) (fun _ h9 => h9) rfl (by decide +kernel) rfl rfl (Nat.le_of_ble_eq_true rfl) (dt_at dt_Tape_type 64 rfl) (fun H locs hP hD hS => ?_)
        have hP : va_P D CLS (wT a q L R t6 g1 t5 g3 g4 g5 g6 g7 g8 g9 g10 g11 g12 g13 g14 g15 g16) H := hP
        have hD : va_D A (wT a q L R t6 g1 t5 g3 g4 g5 g6 g7 g8 g9 g10 g11 g12 g13 g14 g15 g16) := hD
        exact k_Tape_type_114 hC hA hK (f_Tape_type_74  n) ih  v1 v3 t6 t5 H locs ls hP hD hS   (lv_sub hl [1, 2, 3] rfl) h
set_option maxRecDepth 100000 in
set_option maxHeartbeats 4000000 in
theorem k_Tape_type_50 {p : Program} {l : Launch} {e : Env} {s : State} {m : MethodId} {args : Array Value} {below : List Frame} {meth : Method} {c : Code} {D : va_G} {a : Nat → Nat} {q : Nat → ClassId} {L : Nat} {R : Nat} {A : Nat → Prop} (hC : CX p s m args meth c prog_1_method_2_code 5 "OutwardTape" (some .boolean)) (hA : ∀ x, s.heap.size ≤ x → A x) (hK : va_K D CLS (tT q) s) {g1 : Int32} {g3 : Nat → Option Nat} {g4 : Int32} {g5 : Int32} {g6 : Nat → Int32} {g7 : Int32} {g8 : Int64} {g9 : Int32} {g10 : Int32} {g11 : Nat → Int32} {g12 : Int32} {g13 : Int64} {g14 : Int32} {g15 : Int32} {g16 : Nat → Int32} {r0 : Int32 × Int32 × (Nat → Int32)} (k5 : Int32 → Int32 → Int32 → Int32 → (Nat → Int32) → Option (Int32 × Int32 × (Nat → Int32))) (hk5 : ∀ (v1 : Int32) (v2 : Int32) (v3 : Int32) (g0 : Int32) (g2 : Nat → Int32) (H : Heap) (locs : List Loc) (ls : Array Slot), va_P D CLS (wT a q L R g0 g1 g2 g3 g4 g5 g6 g7 g8 g9 g10 g11 g12 g13 g14 g15 g16) H → va_D A (wT a q L R g0 g1 g2 g3 g4 g5 g6 g7 g8 g9 g10 g11 g12 g13 g14 g15 g16) → va_S A s.heap H locs → lv_has ls 5 [(0, .ref (a 0)), (1, .int v1), (2, .int v2), (3, .int v3)] → k5 v1 v2 v3 g0 g2 = some r0 → W p l e rm_Tape_type s m args below meth c H locs 0 0 (MQ below (va_Qi (fun (r : Int32) (_ : Unit) => r = r0.1) (fun _ t => va_P D CLS (wT a q L R r0.2.1 g1 r0.2.2 g3 g4 g5 g6 g7 g8 g9 g10 g11 g12 g13 g14 g15 g16) t.heap) A) args s 0 0 A) (F0 m 5 ls [])) : ∀ (s0 : Int32) (s1 : Int32) (v1 : Int32) (v3 : Int32) (g0 : Int32) (g2 : Nat → Int32) (H : Heap) (locs : List Loc) (ls : Array Slot), va_P D CLS (wT a q L R g0 g1 g2 g3 g4 g5 g6 g7 g8 g9 g10 g11 g12 g13 g14 g15 g16) H → va_D A (wT a q L R g0 g1 g2 g3 g4 g5 g6 g7 g8 g9 g10 g11 g12 g13 g14 g15 g16) → va_S A s.heap H locs → lv_has ls 5 [(0, .ref (a 0)), (1, .int v1), (3, .int v3)] → f_Tape_type_50 k5 s0 s1 v1 v3 g0 g2 = some r0 → W p l e rm_Tape_type s m args below meth c H locs 0 0 (MQ below (va_Qi (fun (r : Int32) (_ : Unit) => r = r0.1) (fun _ t => va_P D CLS (wT a q L R r0.2.1 g1 r0.2.2 g3 g4 g5 g6 g7 g8 g9 g10 g11 g12 g13 g14 g15 g16) t.heap) A) args s 0 0 A) (F0 m 50 ls [.int s0, .int s1]) := by
  obtain ⟨hx, hb, hml, hown, hts, hr, hlocks⟩ := id hC
  intro s0 s1 v1 v3 g0 g2 H locs ls hP hD hS hl h
  rw [f_Tape_type_50] at h
  have hSz : s.heap.size ≤ H.size := hS.1
  refine lv_iadd hx hb (dt_at dt_Tape_type 28 rfl) ?_
  obtain ⟨t1, e_t1, h⟩ := ol_of h
  refine lv_topi (fun u_t1 q_t1 => ?_)
  obtain rfl : t1 = u_t1 := e_t1.trans q_t1.symm
  refine lv_istore_n (lv' := [(2, .int t1), (0, .ref (a 0)), (1, .int v1), (3, .int v3)]) hx hb (dt_at dt_Tape_type 29 rfl) rfl hl (by decide) rfl (fun ls hl => ?_)
  obtain ⟨t2, e_t2, h⟩ := ol_of h
  refine lv_iinc (v := t2) (lv' := [(3, .int t2), (2, .int t1), (0, .ref (a 0)), (1, .int v1)]) hx hb (dt_at dt_Tape_type 30 rfl) hl (k := 3) rfl (by rw [e_t2]; rfl) (by decide) rfl (fun ls hl => ?_)
  refine lv_goto (tgt := 5) hx hb (dt_at dt_Tape_type 31 rfl) (by decide) ?_
  exact hk5 v1 t1 t2 g0 g2 H locs ls hP hD hS   (lv_sub hl [2, 3, 1, 0] rfl) h
set_option maxRecDepth 100000 in
set_option maxHeartbeats 4000000 in
theorem k_Tape_type_39 {p : Program} {l : Launch} {e : Env} {s : State} {m : MethodId} {args : Array Value} {below : List Frame} {meth : Method} {c : Code} {D : va_G} {a : Nat → Nat} {q : Nat → ClassId} {L : Nat} {R : Nat} {A : Nat → Prop} (hC : CX p s m args meth c prog_1_method_2_code 5 "OutwardTape" (some .boolean)) (hA : ∀ x, s.heap.size ≤ x → A x) (hK : va_K D CLS (tT q) s) {g1 : Int32} {g3 : Nat → Option Nat} {g4 : Int32} {g5 : Int32} {g6 : Nat → Int32} {g7 : Int32} {g8 : Int64} {g9 : Int32} {g10 : Int32} {g11 : Nat → Int32} {g12 : Int32} {g13 : Int64} {g14 : Int32} {g15 : Int32} {g16 : Nat → Int32} {r0 : Int32 × Int32 × (Nat → Int32)} (k5 : Int32 → Int32 → Int32 → Int32 → (Nat → Int32) → Option (Int32 × Int32 × (Nat → Int32))) (hk5 : ∀ (v1 : Int32) (v2 : Int32) (v3 : Int32) (g0 : Int32) (g2 : Nat → Int32) (H : Heap) (locs : List Loc) (ls : Array Slot), va_P D CLS (wT a q L R g0 g1 g2 g3 g4 g5 g6 g7 g8 g9 g10 g11 g12 g13 g14 g15 g16) H → va_D A (wT a q L R g0 g1 g2 g3 g4 g5 g6 g7 g8 g9 g10 g11 g12 g13 g14 g15 g16) → va_S A s.heap H locs → lv_has ls 5 [(0, .ref (a 0)), (1, .int v1), (2, .int v2), (3, .int v3)] → k5 v1 v2 v3 g0 g2 = some r0 → W p l e rm_Tape_type s m args below meth c H locs 0 0 (MQ below (va_Qi (fun (r : Int32) (_ : Unit) => r = r0.1) (fun _ t => va_P D CLS (wT a q L R r0.2.1 g1 r0.2.2 g3 g4 g5 g6 g7 g8 g9 g10 g11 g12 g13 g14 g15 g16) t.heap) A) args s 0 0 A) (F0 m 5 ls [])) : ∀ (v1 : Int32) (v2 : Int32) (v3 : Int32) (v4 : Int32) (g0 : Int32) (g2 : Nat → Int32) (H : Heap) (locs : List Loc) (ls : Array Slot), va_P D CLS (wT a q L R g0 g1 g2 g3 g4 g5 g6 g7 g8 g9 g10 g11 g12 g13 g14 g15 g16) H → va_D A (wT a q L R g0 g1 g2 g3 g4 g5 g6 g7 g8 g9 g10 g11 g12 g13 g14 g15 g16) → va_S A s.heap H locs → lv_has ls 5 [(0, .ref (a 0)), (1, .int v1), (2, .int v2), (3, .int v3), (4, .int v4)] → f_Tape_type_39 k5 v1 v2 v3 v4 g0 g2 = some r0 → W p l e rm_Tape_type s m args below meth c H locs 0 0 (MQ below (va_Qi (fun (r : Int32) (_ : Unit) => r = r0.1) (fun _ t => va_P D CLS (wT a q L R r0.2.1 g1 r0.2.2 g3 g4 g5 g6 g7 g8 g9 g10 g11 g12 g13 g14 g15 g16) t.heap) A) args s 0 0 A) (F0 m 39 ls []) := by
  obtain ⟨hx, hb, hml, hown, hts, hr, hlocks⟩ := id hC
  intro v1 v2 v3 v4 g0 g2 H locs ls hP hD hS hl h
  rw [f_Tape_type_39] at h
  have hSz : s.heap.size ≤ H.size := hS.1
  refine lv_iload_n hx hb (dt_at dt_Tape_type 22 rfl) rfl (lv_at hl 2 rfl) ?_
  refine lv_iload hx hb (dt_at dt_Tape_type 23 rfl) (lv_at hl 4 rfl) ?_
  refine lv_if_ne (tgt := 49) hx hb (dt_at dt_Tape_type 24 rfl) (by decide) (fun c1 => ?_) (fun c1 => ?_)
  · have h := if_n h c1
    refine lv_iconst (v := 1) hx hb (dt_at dt_Tape_type 27 rfl) (by decide) ?_
    exact k_Tape_type_50 hC hA hK k5 hk5  (1 : Int32) v2 v1 v3 g0 g2 H locs ls hP hD hS   (lv_sub hl [0, 1, 3] rfl) h
  · have h := if_p h c1
    refine lv_iconst (v := 0) hx hb (dt_at dt_Tape_type 25 rfl) (by decide) ?_
    refine lv_goto (tgt := 50) hx hb (dt_at dt_Tape_type 26 rfl) (by decide) ?_
    exact k_Tape_type_50 hC hA hK k5 hk5  (0 : Int32) v2 v1 v3 g0 g2 H locs ls hP hD hS   (lv_sub hl [0, 1, 3] rfl) h
set_option maxRecDepth 100000 in
set_option maxHeartbeats 4000000 in
theorem k_Tape_type_37 {p : Program} {l : Launch} {e : Env} {s : State} {m : MethodId} {args : Array Value} {below : List Frame} {meth : Method} {c : Code} {D : va_G} {a : Nat → Nat} {q : Nat → ClassId} {L : Nat} {R : Nat} {A : Nat → Prop} (hC : CX p s m args meth c prog_1_method_2_code 5 "OutwardTape" (some .boolean)) (hA : ∀ x, s.heap.size ≤ x → A x) (hK : va_K D CLS (tT q) s) {g1 : Int32} {g3 : Nat → Option Nat} {g4 : Int32} {g5 : Int32} {g6 : Nat → Int32} {g7 : Int32} {g8 : Int64} {g9 : Int32} {g10 : Int32} {g11 : Nat → Int32} {g12 : Int32} {g13 : Int64} {g14 : Int32} {g15 : Int32} {g16 : Nat → Int32} {r0 : Int32 × Int32 × (Nat → Int32)} : ∀  (g0 : Int32) (g2 : Nat → Int32) (H : Heap) (locs : List Loc) (ls : Array Slot), va_P D CLS (wT a q L R g0 g1 g2 g3 g4 g5 g6 g7 g8 g9 g10 g11 g12 g13 g14 g15 g16) H → va_D A (wT a q L R g0 g1 g2 g3 g4 g5 g6 g7 g8 g9 g10 g11 g12 g13 g14 g15 g16) → va_S A s.heap H locs → lv_has ls 5 [] → f_Tape_type_37  g0 g2 = some r0 → W p l e rm_Tape_type s m args below meth c H locs 0 0 (MQ below (va_Qi (fun (r : Int32) (_ : Unit) => r = r0.1) (fun _ t => va_P D CLS (wT a q L R r0.2.1 g1 r0.2.2 g3 g4 g5 g6 g7 g8 g9 g10 g11 g12 g13 g14 g15 g16) t.heap) A) args s 0 0 A) (F0 m 37 ls []) := by
  obtain ⟨hx, hb, hml, hown, hts, hr, hlocks⟩ := id hC
  intro g0 g2 H locs ls hP hD hS hl h
  rw [f_Tape_type_37] at h
  have hSz : s.heap.size ≤ H.size := hS.1
  refine lv_iconst (v := 0) hx hb (dt_at dt_Tape_type 20 rfl) (by decide) ?_
  obtain rfl := os_of h
  exact W.zret (v := (0 : Int32)) (ty := .boolean) hx hb hr (by decide) (fun t ht hW => ⟨⟨_, (), rfl, rfl, (hPt hP ht)⟩, hS.F ht⟩) hS.2.2 (dt_at dt_Tape_type 21 rfl)
set_option maxRecDepth 100000 in
set_option maxHeartbeats 4000000 in
theorem k_Tape_type_5 {p : Program} {l : Launch} {e : Env} {s : State} {m : MethodId} {args : Array Value} {below : List Frame} {meth : Method} {c : Code} {D : va_G} {a : Nat → Nat} {q : Nat → ClassId} {L : Nat} {R : Nat} {A : Nat → Prop} (hC : CX p s m args meth c prog_1_method_2_code 5 "OutwardTape" (some .boolean)) (hA : ∀ x, s.heap.size ≤ x → A x) (hK : va_K D CLS (tT q) s) {g1 : Int32} {g3 : Nat → Option Nat} {g4 : Int32} {g5 : Int32} {g6 : Nat → Int32} {g7 : Int32} {g8 : Int64} {g9 : Int32} {g10 : Int32} {g11 : Nat → Int32} {g12 : Int32} {g13 : Int64} {g14 : Int32} {g15 : Int32} {g16 : Nat → Int32} {r0 : Int32 × Int32 × (Nat → Int32)} : ∀ n : Nat, ∀ (v1 : Int32) (v2 : Int32) (v3 : Int32) (g0 : Int32) (g2 : Nat → Int32) (H : Heap) (locs : List Loc) (ls : Array Slot), va_P D CLS (wT a q L R g0 g1 g2 g3 g4 g5 g6 g7 g8 g9 g10 g11 g12 g13 g14 g15 g16) H → va_D A (wT a q L R g0 g1 g2 g3 g4 g5 g6 g7 g8 g9 g10 g11 g12 g13 g14 g15 g16) → va_S A s.heap H locs → lv_has ls 5 [(0, .ref (a 0)), (1, .int v1), (2, .int v2), (3, .int v3)] → f_Tape_type_5  n v1 v2 v3 g0 g2 = some r0 → W p l e rm_Tape_type s m args below meth c H locs 0 0 (MQ below (va_Qi (fun (r : Int32) (_ : Unit) => r = r0.1) (fun _ t => va_P D CLS (wT a q L R r0.2.1 g1 r0.2.2 g3 g4 g5 g6 g7 g8 g9 g10 g11 g12 g13 g14 g15 g16) t.heap) A) args s 0 0 A) (F0 m 5 ls []) := by
  obtain ⟨hx, hb, hml, hown, hts, hr, hlocks⟩ := id hC
  intro n
  induction n with
  | zero => intro v1 v2 v3 g0 g2 H locs ls hP hD hS hl h; cases h
  | succ n ih =>
    intro v1 v2 v3 g0 g2 H locs ls hP hD hS hl h
    rw [f_Tape_type_5] at h
    have hSz : s.heap.size ≤ H.size := hS.1
    refine lv_iload_n hx hb (dt_at dt_Tape_type 4 rfl) rfl (lv_at hl 3 rfl) ?_
    refine lv_if_lt (tgt := 58) hx hb (dt_at dt_Tape_type 5 rfl) (by decide) (fun c1 => ?_) (fun c1 => ?_)
    · have h := if_p h c1
      refine lv_aload_n hx hb (dt_at dt_Tape_type 32 rfl) rfl (lv_at hl 0 rfl) ?_
      refine va_get (D := D) (ci := 1) (v := .int g0) (C := "OutwardTape") (T := T_Tape) (N := 5) hx hb hts in_Tape hown hK hP 0 rfl rfl 1 (by decide) (hts (Cond.fieldLink "OutwardTape" 13 "OutwardTape" "characters" "I") (m_1 80 rfl rfl)) (fun _ h9 => h9) rfl (dt_at dt_Tape_type 33 rfl) ?_
      refine lv_iload_n hx hb (dt_at dt_Tape_type 34 rfl) rfl (lv_at hl 2 rfl) ?_
      refine lv_iadd hx hb (dt_at dt_Tape_type 35 rfl) ?_
      refine lv_bipush (v := 60) hx hb (dt_at dt_Tape_type 36 rfl) (by decide) ?_
      refine lv_icmp_le (tgt := 71) hx hb (dt_at dt_Tape_type 37 rfl) (by decide) (fun c2 => ?_) (fun c2 => ?_)
      · have h := if_p h c2
        refine lv_bipush (v := 24) hx hb (dt_at dt_Tape_type 40 rfl) (by decide) ?_
        refine lv_istore_n (lv' := [(3, .int (24 : Int32)), (0, .ref (a 0)), (1, .int v1), (2, .int v2)]) hx hb (dt_at dt_Tape_type 41 rfl) rfl hl (by decide) rfl (fun ls hl => ?_)
        exact k_Tape_type_74 hC hA hK  5000 v1 (24 : Int32) g0 g2 H locs ls hP hD hS   (lv_sub hl [1, 2, 0] rfl) h
      · have h := if_n h c2
        refine lv_iconst (v := 0) hx hb (dt_at dt_Tape_type 38 rfl) (by decide) ?_
        obtain rfl := os_of h
        exact W.zret (v := (0 : Int32)) (ty := .boolean) hx hb hr (by decide) (fun t ht hW => ⟨⟨_, (), rfl, rfl, (hPt hP ht)⟩, hS.F ht⟩) hS.2.2 (dt_at dt_Tape_type 39 rfl)
    · have h := if_n h c1
      refine lv_iload_n hx hb (dt_at dt_Tape_type 6 rfl) rfl (lv_at hl 1 rfl) ?_
      refine lv_iload_n hx hb (dt_at dt_Tape_type 7 rfl) rfl (lv_at hl 3 rfl) ?_
      refine lv_iushr (v := (j_iushr v1 v3)) hx hb (dt_at dt_Tape_type 8 rfl) rfl ?_
      refine lv_sipush (v := 255) hx hb (dt_at dt_Tape_type 9 rfl) (by decide) ?_
      refine lv_iand hx hb (dt_at dt_Tape_type 10 rfl) ?_
      obtain ⟨t3, e_t3, h⟩ := ol_of h
      refine lv_topi (fun u_t3 q_t3 => ?_)
      obtain rfl : t3 = u_t3 := e_t3.trans q_t3.symm
      refine lv_istore (lv' := [(4, .int t3), (0, .ref (a 0)), (1, .int v1), (2, .int v2), (3, .int v3)]) hx hb (dt_at dt_Tape_type 11 rfl) hl (by decide) rfl (fun ls hl => ?_)
      refine lv_iload hx hb (dt_at dt_Tape_type 12 rfl) (lv_at hl 0 rfl) ?_
      refine lv_if_eq (tgt := 39) hx hb (dt_at dt_Tape_type 13 rfl) (by decide) (fun c4 => ?_) (fun c4 => ?_)
      · have h := if_p h c4
        exact k_Tape_type_39 hC hA hK (f_Tape_type_5  n) ih  v1 v2 v3 t3 g0 g2 H locs ls hP hD hS   (lv_sub hl [1, 2, 3, 4, 0] rfl) h
      · have h := if_n h c4
        refine lv_iload hx hb (dt_at dt_Tape_type 14 rfl) (lv_at hl 0 rfl) ?_
        refine lv_bipush (v := 32) hx hb (dt_at dt_Tape_type 15 rfl) (by decide) ?_
        refine lv_icmp_lt (tgt := 37) hx hb (dt_at dt_Tape_type 16 rfl) (by decide) (fun c5 => ?_) (fun c5 => ?_)
        · have h := if_p h c5
          exact k_Tape_type_37 hC hA hK   g0 g2 H locs ls hP hD hS   (lv_sub hl [] rfl) h
        · have h := if_n h c5
          refine lv_iload hx hb (dt_at dt_Tape_type 17 rfl) (lv_at hl 0 rfl) ?_
          refine lv_bipush (v := 126) hx hb (dt_at dt_Tape_type 18 rfl) (by decide) ?_
          refine lv_icmp_le (tgt := 39) hx hb (dt_at dt_Tape_type 19 rfl) (by decide) (fun c6 => ?_) (fun c6 => ?_)
          · have h := if_p h c6
            exact k_Tape_type_39 hC hA hK (f_Tape_type_5  n) ih  v1 v2 v3 t3 g0 g2 H locs ls hP hD hS   (lv_sub hl [1, 2, 3, 4, 0] rfl) h
          · have h := if_n h c6
            exact k_Tape_type_37 hC hA hK   g0 g2 H locs ls hP hD hS   (lv_sub hl [] rfl) h
set_option maxRecDepth 100000 in
set_option maxHeartbeats 4000000 in
theorem k_Tape_type_0 {p : Program} {l : Launch} {e : Env} {s : State} {m : MethodId} {args : Array Value} {below : List Frame} {meth : Method} {c : Code} {D : va_G} {a : Nat → Nat} {q : Nat → ClassId} {L : Nat} {R : Nat} {A : Nat → Prop} (hC : CX p s m args meth c prog_1_method_2_code 5 "OutwardTape" (some .boolean)) (hA : ∀ x, s.heap.size ≤ x → A x) (hK : va_K D CLS (tT q) s) {g1 : Int32} {g3 : Nat → Option Nat} {g4 : Int32} {g5 : Int32} {g6 : Nat → Int32} {g7 : Int32} {g8 : Int64} {g9 : Int32} {g10 : Int32} {g11 : Nat → Int32} {g12 : Int32} {g13 : Int64} {g14 : Int32} {g15 : Int32} {g16 : Nat → Int32} {r0 : Int32 × Int32 × (Nat → Int32)} : ∀ (v1 : Int32) (g0 : Int32) (g2 : Nat → Int32) (H : Heap) (locs : List Loc) (ls : Array Slot), va_P D CLS (wT a q L R g0 g1 g2 g3 g4 g5 g6 g7 g8 g9 g10 g11 g12 g13 g14 g15 g16) H → va_D A (wT a q L R g0 g1 g2 g3 g4 g5 g6 g7 g8 g9 g10 g11 g12 g13 g14 g15 g16) → va_S A s.heap H locs → lv_has ls 5 [(0, .ref (a 0)), (1, .int v1)] → f_Tape_type_0  v1 g0 g2 = some r0 → W p l e rm_Tape_type s m args below meth c H locs 0 0 (MQ below (va_Qi (fun (r : Int32) (_ : Unit) => r = r0.1) (fun _ t => va_P D CLS (wT a q L R r0.2.1 g1 r0.2.2 g3 g4 g5 g6 g7 g8 g9 g10 g11 g12 g13 g14 g15 g16) t.heap) A) args s 0 0 A) (F0 m 0 ls []) := by
  obtain ⟨hx, hb, hml, hown, hts, hr, hlocks⟩ := id hC
  intro v1 g0 g2 H locs ls hP hD hS hl h
  rw [f_Tape_type_0] at h
  have hSz : s.heap.size ≤ H.size := hS.1
  refine lv_iconst (v := 0) hx hb (dt_at dt_Tape_type 0 rfl) (by decide) ?_
  refine lv_istore_n (lv' := [(2, .int (0 : Int32)), (0, .ref (a 0)), (1, .int v1)]) hx hb (dt_at dt_Tape_type 1 rfl) rfl hl (by decide) rfl (fun ls hl => ?_)
  refine lv_bipush (v := 24) hx hb (dt_at dt_Tape_type 2 rfl) (by decide) ?_
  refine lv_istore_n (lv' := [(3, .int (24 : Int32)), (2, .int (0 : Int32)), (0, .ref (a 0)), (1, .int v1)]) hx hb (dt_at dt_Tape_type 3 rfl) rfl hl (by decide) rfl (fun ls hl => ?_)
  exact k_Tape_type_5 hC hA hK  5000 v1 (0 : Int32) (24 : Int32) g0 g2 H locs ls hP hD hS   (lv_sub hl [2, 3, 1, 0] rfl) h
set_option maxRecDepth 100000 in
set_option maxHeartbeats 4000000 in
theorem c_Tape_type (l : Launch) (D : va_G) (a : Nat → Nat) (q : Nat → ClassId) (L : Nat) (R : Nat) (hd : va_D (fun _ => True) (dT a)) (sz : Nat) (a1 : Int32) (g0 : Int32) (g1 : Int32) (g2 : Nat → Int32) (g3 : Nat → Option Nat) (g4 : Int32) (g5 : Int32) (g6 : Nat → Int32) (g7 : Int32) (g8 : Int64) (g9 : Int32) (g10 : Int32) (g11 : Nat → Int32) (g12 : Int32) (g13 : Int64) (g14 : Int32) (g15 : Int32) (g16 : Nat → Int32)   (r0 : Int32 × Int32 × (Nat → Int32)) (h : f_Tape_type a1 g0 g2 = some r0) : Met l (⟨"OutwardTape", "type", "(I)Z"⟩ : MethodName) (WSm (⟨"OutwardTape", "type", "(I)Z"⟩ : MethodName) prog_1_method_2_code 5 (some .boolean)) rm_Tape_type (va_Pc [.ref (a 0), .int a1] (fun U => U.heap.size = sz ∧ va_P D CLS (wT a q L R g0 g1 g2 g3 g4 g5 g6 g7 g8 g9 g10 g11 g12 g13 g14 g15 g16) U.heap ∧ va_K D CLS (tT q) U)) (va_Qi (fun (r : Int32) (_ : Unit) => r = r0.1) (fun _ t => va_P D CLS (wT a q L R r0.2.1 g1 r0.2.2 g3 g4 g5 g6 g7 g8 g9 g10 g11 g12 g13 g14 g15 g16) t.heap) (va_A (dT a) sz)) 0 0 (va_A (dT a) sz) := by
  refine Met.ofW (cc := prog_1_method_2_code) (maxL := 5) (ret := (some .boolean)) (by decide) rfl ?_
  intro p e s m args below meth c s₁ B hml hv
  obtain ⟨rfl, hsz, hP, hK⟩ := hv
  subst hsz
  have hC := CX.of B hml rfl
  have hl := lv_entry [.ref (a 0), .int a1] (n := 5) (Nat.le_of_ble_eq_true rfl)
  rw [lg_entry_eq]
  generalize (lg_sl [.ref (a 0), .int a1] ++ List.replicate (5 - (lg_sl [.ref (a 0), .int a1]).length) Slot.unset).toArray = ls at hl ⊢
  have hl : lv_has ls 5 [(0, .ref (a 0)), (1, .int a1)] := hl
  exact k_Tape_type_0  hC (fun x h => Or.inr h) hK a1 g0 g2   s.heap [] ls hP (dD hd.self rfl) va_S.rf   (lv_sub hl [0, 1] rfl) h
abbrev rm_Tape_wipe : Room := { frames := 0, cells := 0, slots := 0, locals := 0 }
set_option maxRecDepth 100000 in
set_option maxHeartbeats 4000000 in
theorem k_Tape_wipe_0 {p : Program} {l : Launch} {e : Env} {s : State} {m : MethodId} {args : Array Value} {below : List Frame} {meth : Method} {c : Code} {D : va_G} {a : Nat → Nat} {q : Nat → ClassId} {L : Nat} {R : Nat} {A : Nat → Prop} (hC : CX p s m args meth c prog_1_method_3_code 1 "OutwardTape" none) (hA : ∀ x, s.heap.size ≤ x → A x) (hK : va_K D CLS (tT q) s) {g1 : Int32} {g2 : Nat → Int32} {g3 : Nat → Option Nat} {g4 : Int32} {g5 : Int32} {g6 : Nat → Int32} {g7 : Int32} {g8 : Int64} {g9 : Int32} {g10 : Int32} {g11 : Nat → Int32} {g12 : Int32} {g13 : Int64} {g14 : Int32} {g15 : Int32} {g16 : Nat → Int32} {r0 : Int32} : ∀  (g0 : Int32) (H : Heap) (locs : List Loc) (ls : Array Slot), va_P D CLS (wT a q L R g0 g1 g2 g3 g4 g5 g6 g7 g8 g9 g10 g11 g12 g13 g14 g15 g16) H → va_D A (wT a q L R g0 g1 g2 g3 g4 g5 g6 g7 g8 g9 g10 g11 g12 g13 g14 g15 g16) → va_S A s.heap H locs → lv_has ls 1 [(0, .ref (a 0))] → f_Tape_wipe_0  g0 = some r0 → W p l e rm_Tape_wipe s m args below meth c H locs 0 0 (MQ below (va_Qv (fun _ : Unit => True) (fun _ t => va_P D CLS (wT a q L R r0 g1 g2 g3 g4 g5 g6 g7 g8 g9 g10 g11 g12 g13 g14 g15 g16) t.heap) A) args s 0 0 A) (F0 m 0 ls []) := by
  obtain ⟨hx, hb, hml, hown, hts, hr, hlocks⟩ := id hC
  intro g0 H locs ls hP hD hS hl h
  rw [f_Tape_wipe_0] at h
  have hSz : s.heap.size ≤ H.size := hS.1
  refine lv_aload_n hx hb (dt_at dt_Tape_wipe 0 rfl) rfl (lv_at hl 0 rfl) ?_
  refine lv_iconst (v := 0) hx hb (dt_at dt_Tape_wipe 1 rfl) (by decide) ?_
  refine va_put (D := D) (ci := 1) (v := .int (0 : Int32)) (ty := .int) (C := "OutwardTape") (T := T_Tape) (N := 5) hx hb hts in_Tape ty_Tape tk_Tape nm_Tape hown hK hP hD hS 0 rfl rfl 1 (by decide) (hts (Cond.fieldLink "OutwardTape" 13 "OutwardTape" "characters" "I") (m_1 80 rfl rfl)) (fun _ h9 => h9) rfl (by decide +kernel) rfl rfl (Nat.le_of_ble_eq_true rfl) (dt_at dt_Tape_wipe 2 rfl) (fun H locs hP hD hS => ?_)
  have hP : va_P D CLS (wT a q L R (0 : Int32) g1 g2 g3 g4 g5 g6 g7 g8 g9 g10 g11 g12 g13 g14 g15 g16) H := hP
  have hD : va_D A (wT a q L R (0 : Int32) g1 g2 g3 g4 g5 g6 g7 g8 g9 g10 g11 g12 g13 g14 g15 g16) := hD
  obtain rfl := os_of h
  exact W.vret hx hb hr (fun t ht hW => ⟨⟨(), rfl, trivial, (hPt hP ht)⟩, hS.F ht⟩) hS.2.2 (dt_at dt_Tape_wipe 3 rfl)
set_option maxRecDepth 100000 in
set_option maxHeartbeats 4000000 in
theorem c_Tape_wipe (l : Launch) (D : va_G) (a : Nat → Nat) (q : Nat → ClassId) (L : Nat) (R : Nat) (hd : va_D (fun _ => True) (dT a)) (sz : Nat)  (g0 : Int32) (g1 : Int32) (g2 : Nat → Int32) (g3 : Nat → Option Nat) (g4 : Int32) (g5 : Int32) (g6 : Nat → Int32) (g7 : Int32) (g8 : Int64) (g9 : Int32) (g10 : Int32) (g11 : Nat → Int32) (g12 : Int32) (g13 : Int64) (g14 : Int32) (g15 : Int32) (g16 : Nat → Int32)   (r0 : Int32) (h : f_Tape_wipe g0 = some r0) : Met l (⟨"OutwardTape", "wipe", "()V"⟩ : MethodName) (WSm (⟨"OutwardTape", "wipe", "()V"⟩ : MethodName) prog_1_method_3_code 1 none) rm_Tape_wipe (va_Pc [.ref (a 0)] (fun U => U.heap.size = sz ∧ va_P D CLS (wT a q L R g0 g1 g2 g3 g4 g5 g6 g7 g8 g9 g10 g11 g12 g13 g14 g15 g16) U.heap ∧ va_K D CLS (tT q) U)) (va_Qv (fun _ : Unit => True) (fun _ t => va_P D CLS (wT a q L R r0 g1 g2 g3 g4 g5 g6 g7 g8 g9 g10 g11 g12 g13 g14 g15 g16) t.heap) (va_A (dT a) sz)) 0 0 (va_A (dT a) sz) := by
  refine Met.ofW (cc := prog_1_method_3_code) (maxL := 1) (ret := none) (by decide) rfl ?_
  intro p e s m args below meth c s₁ B hml hv
  obtain ⟨rfl, hsz, hP, hK⟩ := hv
  subst hsz
  have hC := CX.of B hml rfl
  have hl := lv_entry [.ref (a 0)] (n := 1) (Nat.le_of_ble_eq_true rfl)
  rw [lg_entry_eq]
  generalize (lg_sl [.ref (a 0)] ++ List.replicate (1 - (lg_sl [.ref (a 0)]).length) Slot.unset).toArray = ls at hl ⊢
  have hl : lv_has ls 1 [(0, .ref (a 0))] := hl
  exact k_Tape_wipe_0  hC (fun x h => Or.inr h) hK  g0   s.heap [] ls hP (dD hd.self rfl) va_S.rf   (lv_sub hl [0] rfl) h
abbrev rm_Tape_length : Room := { frames := 0, cells := 0, slots := 0, locals := 0 }
set_option maxRecDepth 100000 in
set_option maxHeartbeats 4000000 in
theorem k_Tape_length_0 {p : Program} {l : Launch} {e : Env} {s : State} {m : MethodId} {args : Array Value} {below : List Frame} {meth : Method} {c : Code} {D : va_G} {a : Nat → Nat} {q : Nat → ClassId} {L : Nat} {R : Nat} {A : Nat → Prop} (hC : CX p s m args meth c prog_1_method_4_code 1 "OutwardTape" (some .int)) (hA : ∀ x, s.heap.size ≤ x → A x) (hK : va_K D CLS (tT q) s) {g0 : Int32} {g1 : Int32} {g2 : Nat → Int32} {g3 : Nat → Option Nat} {g4 : Int32} {g5 : Int32} {g6 : Nat → Int32} {g7 : Int32} {g8 : Int64} {g9 : Int32} {g10 : Int32} {g11 : Nat → Int32} {g12 : Int32} {g13 : Int64} {g14 : Int32} {g15 : Int32} {g16 : Nat → Int32} {r0 : Int32} : ∀   (H : Heap) (locs : List Loc) (ls : Array Slot), va_P D CLS (wT a q L R g0 g1 g2 g3 g4 g5 g6 g7 g8 g9 g10 g11 g12 g13 g14 g15 g16) H → va_D A (wT a q L R g0 g1 g2 g3 g4 g5 g6 g7 g8 g9 g10 g11 g12 g13 g14 g15 g16) → va_S A s.heap H locs → lv_has ls 1 [(0, .ref (a 0))] → f_Tape_length_0  g0 = some r0 → W p l e rm_Tape_length s m args below meth c H locs 0 0 (MQ below (va_Qi (fun (r : Int32) (_ : Unit) => r = r0) (fun _ t => va_P D CLS (wT a q L R g0 g1 g2 g3 g4 g5 g6 g7 g8 g9 g10 g11 g12 g13 g14 g15 g16) t.heap) A) args s 0 0 A) (F0 m 0 ls []) := by
  obtain ⟨hx, hb, hml, hown, hts, hr, hlocks⟩ := id hC
  intro H locs ls hP hD hS hl h
  rw [f_Tape_length_0] at h
  have hSz : s.heap.size ≤ H.size := hS.1
  refine lv_aload_n hx hb (dt_at dt_Tape_length 0 rfl) rfl (lv_at hl 0 rfl) ?_
  refine va_get (D := D) (ci := 1) (v := .int g0) (C := "OutwardTape") (T := T_Tape) (N := 5) hx hb hts in_Tape hown hK hP 0 rfl rfl 1 (by decide) (hts (Cond.fieldLink "OutwardTape" 13 "OutwardTape" "characters" "I") (m_1 80 rfl rfl)) (fun _ h9 => h9) rfl (dt_at dt_Tape_length 1 rfl) ?_
  obtain rfl := os_of h
  exact W.iret (v := g0) hx hb hr (fun t ht hW => ⟨⟨_, (), rfl, rfl, (hPt hP ht)⟩, hS.F ht⟩) hS.2.2 (dt_at dt_Tape_length 2 rfl)
set_option maxRecDepth 100000 in
set_option maxHeartbeats 4000000 in
theorem c_Tape_length (l : Launch) (D : va_G) (a : Nat → Nat) (q : Nat → ClassId) (L : Nat) (R : Nat) (hd : va_D (fun _ => True) (dT a)) (sz : Nat)  (g0 : Int32) (g1 : Int32) (g2 : Nat → Int32) (g3 : Nat → Option Nat) (g4 : Int32) (g5 : Int32) (g6 : Nat → Int32) (g7 : Int32) (g8 : Int64) (g9 : Int32) (g10 : Int32) (g11 : Nat → Int32) (g12 : Int32) (g13 : Int64) (g14 : Int32) (g15 : Int32) (g16 : Nat → Int32)   (r0 : Int32) (h : f_Tape_length g0 = some r0) : Met l (⟨"OutwardTape", "length", "()I"⟩ : MethodName) (WSm (⟨"OutwardTape", "length", "()I"⟩ : MethodName) prog_1_method_4_code 1 (some .int)) rm_Tape_length (va_Pc [.ref (a 0)] (fun U => U.heap.size = sz ∧ va_P D CLS (wT a q L R g0 g1 g2 g3 g4 g5 g6 g7 g8 g9 g10 g11 g12 g13 g14 g15 g16) U.heap ∧ va_K D CLS (tT q) U)) (va_Qi (fun (r : Int32) (_ : Unit) => r = r0) (fun _ t => va_P D CLS (wT a q L R g0 g1 g2 g3 g4 g5 g6 g7 g8 g9 g10 g11 g12 g13 g14 g15 g16) t.heap) (va_A (dT a) sz)) 0 0 (va_A (dT a) sz) := by
  refine Met.ofW (cc := prog_1_method_4_code) (maxL := 1) (ret := (some .int)) (by decide) rfl ?_
  intro p e s m args below meth c s₁ B hml hv
  obtain ⟨rfl, hsz, hP, hK⟩ := hv
  subst hsz
  have hC := CX.of B hml rfl
  have hl := lv_entry [.ref (a 0)] (n := 1) (Nat.le_of_ble_eq_true rfl)
  rw [lg_entry_eq]
  generalize (lg_sl [.ref (a 0)] ++ List.replicate (1 - (lg_sl [.ref (a 0)]).length) Slot.unset).toArray = ls at hl ⊢
  have hl : lv_has ls 1 [(0, .ref (a 0))] := hl
  exact k_Tape_length_0  hC (fun x h => Or.inr h) hK     s.heap [] ls hP (dD hd.self rfl) va_S.rf   (lv_sub hl [0] rfl) h
abbrev rm_Tape_filled : Room := { frames := 0, cells := 0, slots := 0, locals := 0 }
set_option maxRecDepth 100000 in
set_option maxHeartbeats 4000000 in
theorem k_Tape_filled_0 {p : Program} {l : Launch} {e : Env} {s : State} {m : MethodId} {args : Array Value} {below : List Frame} {meth : Method} {c : Code} {D : va_G} {a : Nat → Nat} {q : Nat → ClassId} {L : Nat} {R : Nat} {A : Nat → Prop} (hC : CX p s m args meth c prog_1_method_9_code 1 "OutwardTape" (some .int)) (hA : ∀ x, s.heap.size ≤ x → A x) (hK : va_K D CLS (tT q) s) {g0 : Int32} {g1 : Int32} {g2 : Nat → Int32} {g3 : Nat → Option Nat} {g4 : Int32} {g5 : Int32} {g6 : Nat → Int32} {g7 : Int32} {g8 : Int64} {g9 : Int32} {g10 : Int32} {g11 : Nat → Int32} {g12 : Int32} {g13 : Int64} {g14 : Int32} {g15 : Int32} {g16 : Nat → Int32} {r0 : Int32} : ∀   (H : Heap) (locs : List Loc) (ls : Array Slot), va_P D CLS (wT a q L R g0 g1 g2 g3 g4 g5 g6 g7 g8 g9 g10 g11 g12 g13 g14 g15 g16) H → va_D A (wT a q L R g0 g1 g2 g3 g4 g5 g6 g7 g8 g9 g10 g11 g12 g13 g14 g15 g16) → va_S A s.heap H locs → lv_has ls 1 [(0, .ref (a 0))] → f_Tape_filled_0  g1 = some r0 → W p l e rm_Tape_filled s m args below meth c H locs 0 0 (MQ below (va_Qi (fun (r : Int32) (_ : Unit) => r = r0) (fun _ t => va_P D CLS (wT a q L R g0 g1 g2 g3 g4 g5 g6 g7 g8 g9 g10 g11 g12 g13 g14 g15 g16) t.heap) A) args s 0 0 A) (F0 m 0 ls []) := by
  obtain ⟨hx, hb, hml, hown, hts, hr, hlocks⟩ := id hC
  intro H locs ls hP hD hS hl h
  rw [f_Tape_filled_0] at h
  have hSz : s.heap.size ≤ H.size := hS.1
  refine lv_aload_n hx hb (dt_at dt_Tape_filled 0 rfl) rfl (lv_at hl 0 rfl) ?_
  refine va_get (D := D) (ci := 1) (v := .int g1) (C := "OutwardTape") (T := T_Tape) (N := 5) hx hb hts in_Tape hown hK hP 0 rfl rfl 3 (by decide) (hts (Cond.fieldLink "OutwardTape" 23 "OutwardTape" "count" "I") (m_1 82 rfl rfl)) (fun _ h9 => h9) rfl (dt_at dt_Tape_filled 1 rfl) ?_
  obtain rfl := os_of h
  exact W.iret (v := g1) hx hb hr (fun t ht hW => ⟨⟨_, (), rfl, rfl, (hPt hP ht)⟩, hS.F ht⟩) hS.2.2 (dt_at dt_Tape_filled 2 rfl)
set_option maxRecDepth 100000 in
set_option maxHeartbeats 4000000 in
theorem c_Tape_filled (l : Launch) (D : va_G) (a : Nat → Nat) (q : Nat → ClassId) (L : Nat) (R : Nat) (hd : va_D (fun _ => True) (dT a)) (sz : Nat)  (g0 : Int32) (g1 : Int32) (g2 : Nat → Int32) (g3 : Nat → Option Nat) (g4 : Int32) (g5 : Int32) (g6 : Nat → Int32) (g7 : Int32) (g8 : Int64) (g9 : Int32) (g10 : Int32) (g11 : Nat → Int32) (g12 : Int32) (g13 : Int64) (g14 : Int32) (g15 : Int32) (g16 : Nat → Int32)   (r0 : Int32) (h : f_Tape_filled g1 = some r0) : Met l (⟨"OutwardTape", "filled", "()I"⟩ : MethodName) (WSm (⟨"OutwardTape", "filled", "()I"⟩ : MethodName) prog_1_method_9_code 1 (some .int)) rm_Tape_filled (va_Pc [.ref (a 0)] (fun U => U.heap.size = sz ∧ va_P D CLS (wT a q L R g0 g1 g2 g3 g4 g5 g6 g7 g8 g9 g10 g11 g12 g13 g14 g15 g16) U.heap ∧ va_K D CLS (tT q) U)) (va_Qi (fun (r : Int32) (_ : Unit) => r = r0) (fun _ t => va_P D CLS (wT a q L R g0 g1 g2 g3 g4 g5 g6 g7 g8 g9 g10 g11 g12 g13 g14 g15 g16) t.heap) (va_A (dT a) sz)) 0 0 (va_A (dT a) sz) := by
  refine Met.ofW (cc := prog_1_method_9_code) (maxL := 1) (ret := (some .int)) (by decide) rfl ?_
  intro p e s m args below meth c s₁ B hml hv
  obtain ⟨rfl, hsz, hP, hK⟩ := hv
  subst hsz
  have hC := CX.of B hml rfl
  have hl := lv_entry [.ref (a 0)] (n := 1) (Nat.le_of_ble_eq_true rfl)
  rw [lg_entry_eq]
  generalize (lg_sl [.ref (a 0)] ++ List.replicate (1 - (lg_sl [.ref (a 0)]).length) Slot.unset).toArray = ls at hl ⊢
  have hl : lv_has ls 1 [(0, .ref (a 0))] := hl
  exact k_Tape_filled_0  hC (fun x h => Or.inr h) hK     s.heap [] ls hP (dD hd.self rfl) va_S.rf   (lv_sub hl [0] rfl) h
abbrev rm_Tape_isThere : Room := { frames := 0, cells := 0, slots := 0, locals := 0 }
set_option maxRecDepth 100000 in
set_option maxHeartbeats 4000000 in
theorem k_Tape_isThere_17 {p : Program} {l : Launch} {e : Env} {s : State} {m : MethodId} {args : Array Value} {below : List Frame} {meth : Method} {c : Code} {D : va_G} {a : Nat → Nat} {q : Nat → ClassId} {L : Nat} {R : Nat} {A : Nat → Prop} (hC : CX p s m args meth c prog_1_method_18_code 2 "OutwardTape" (some .boolean)) (hA : ∀ x, s.heap.size ≤ x → A x) (hK : va_K D CLS (tT q) s) {g0 : Int32} {g1 : Int32} {g2 : Nat → Int32} {g3 : Nat → Option Nat} {g4 : Int32} {g5 : Int32} {g6 : Nat → Int32} {g7 : Int32} {g8 : Int64} {g9 : Int32} {g10 : Int32} {g11 : Nat → Int32} {g12 : Int32} {g13 : Int64} {g14 : Int32} {g15 : Int32} {g16 : Nat → Int32} {r0 : Int32} : ∀ (s0 : Int32)  (H : Heap) (locs : List Loc) (ls : Array Slot), va_P D CLS (wT a q L R g0 g1 g2 g3 g4 g5 g6 g7 g8 g9 g10 g11 g12 g13 g14 g15 g16) H → va_D A (wT a q L R g0 g1 g2 g3 g4 g5 g6 g7 g8 g9 g10 g11 g12 g13 g14 g15 g16) → va_S A s.heap H locs → lv_has ls 2 [] → f_Tape_isThere_17  s0 g1 = some r0 → W p l e rm_Tape_isThere s m args below meth c H locs 0 0 (MQ below (va_Qi (fun (r : Int32) (_ : Unit) => r = r0) (fun _ t => va_P D CLS (wT a q L R g0 g1 g2 g3 g4 g5 g6 g7 g8 g9 g10 g11 g12 g13 g14 g15 g16) t.heap) A) args s 0 0 A) (F0 m 17 ls [.int s0]) := by
  obtain ⟨hx, hb, hml, hown, hts, hr, hlocks⟩ := id hC
  intro s0 H locs ls hP hD hS hl h
  rw [f_Tape_isThere_17] at h
  have hSz : s.heap.size ≤ H.size := hS.1
  obtain ⟨hz, h⟩ := og_of h
  obtain rfl := os_of h
  exact W.zret (v := s0) (ty := .boolean) hx hb hr (j_z_nar hz) (fun t ht hW => ⟨⟨_, (), rfl, rfl, (hPt hP ht)⟩, hS.F ht⟩) hS.2.2 (dt_at dt_Tape_isThere 9 rfl)
set_option maxRecDepth 100000 in
set_option maxHeartbeats 4000000 in
theorem k_Tape_isThere_16 {p : Program} {l : Launch} {e : Env} {s : State} {m : MethodId} {args : Array Value} {below : List Frame} {meth : Method} {c : Code} {D : va_G} {a : Nat → Nat} {q : Nat → ClassId} {L : Nat} {R : Nat} {A : Nat → Prop} (hC : CX p s m args meth c prog_1_method_18_code 2 "OutwardTape" (some .boolean)) (hA : ∀ x, s.heap.size ≤ x → A x) (hK : va_K D CLS (tT q) s) {g0 : Int32} {g1 : Int32} {g2 : Nat → Int32} {g3 : Nat → Option Nat} {g4 : Int32} {g5 : Int32} {g6 : Nat → Int32} {g7 : Int32} {g8 : Int64} {g9 : Int32} {g10 : Int32} {g11 : Nat → Int32} {g12 : Int32} {g13 : Int64} {g14 : Int32} {g15 : Int32} {g16 : Nat → Int32} {r0 : Int32} : ∀   (H : Heap) (locs : List Loc) (ls : Array Slot), va_P D CLS (wT a q L R g0 g1 g2 g3 g4 g5 g6 g7 g8 g9 g10 g11 g12 g13 g14 g15 g16) H → va_D A (wT a q L R g0 g1 g2 g3 g4 g5 g6 g7 g8 g9 g10 g11 g12 g13 g14 g15 g16) → va_S A s.heap H locs → lv_has ls 2 [] → f_Tape_isThere_16  g1 = some r0 → W p l e rm_Tape_isThere s m args below meth c H locs 0 0 (MQ below (va_Qi (fun (r : Int32) (_ : Unit) => r = r0) (fun _ t => va_P D CLS (wT a q L R g0 g1 g2 g3 g4 g5 g6 g7 g8 g9 g10 g11 g12 g13 g14 g15 g16) t.heap) A) args s 0 0 A) (F0 m 16 ls []) := by
  obtain ⟨hx, hb, hml, hown, hts, hr, hlocks⟩ := id hC
  intro H locs ls hP hD hS hl h
  rw [f_Tape_isThere_16] at h
  have hSz : s.heap.size ≤ H.size := hS.1
  refine lv_iconst (v := 0) hx hb (dt_at dt_Tape_isThere 8 rfl) (by decide) ?_
  exact k_Tape_isThere_17 hC hA hK   (0 : Int32) H locs ls hP hD hS   (lv_sub hl [] rfl) h
set_option maxRecDepth 100000 in
set_option maxHeartbeats 4000000 in
theorem k_Tape_isThere_0 {p : Program} {l : Launch} {e : Env} {s : State} {m : MethodId} {args : Array Value} {below : List Frame} {meth : Method} {c : Code} {D : va_G} {a : Nat → Nat} {q : Nat → ClassId} {L : Nat} {R : Nat} {A : Nat → Prop} (hC : CX p s m args meth c prog_1_method_18_code 2 "OutwardTape" (some .boolean)) (hA : ∀ x, s.heap.size ≤ x → A x) (hK : va_K D CLS (tT q) s) {g0 : Int32} {g1 : Int32} {g2 : Nat → Int32} {g3 : Nat → Option Nat} {g4 : Int32} {g5 : Int32} {g6 : Nat → Int32} {g7 : Int32} {g8 : Int64} {g9 : Int32} {g10 : Int32} {g11 : Nat → Int32} {g12 : Int32} {g13 : Int64} {g14 : Int32} {g15 : Int32} {g16 : Nat → Int32} {r0 : Int32} : ∀ (v1 : Int32)  (H : Heap) (locs : List Loc) (ls : Array Slot), va_P D CLS (wT a q L R g0 g1 g2 g3 g4 g5 g6 g7 g8 g9 g10 g11 g12 g13 g14 g15 g16) H → va_D A (wT a q L R g0 g1 g2 g3 g4 g5 g6 g7 g8 g9 g10 g11 g12 g13 g14 g15 g16) → va_S A s.heap H locs → lv_has ls 2 [(0, .ref (a 0)), (1, .int v1)] → f_Tape_isThere_0  v1 g1 = some r0 → W p l e rm_Tape_isThere s m args below meth c H locs 0 0 (MQ below (va_Qi (fun (r : Int32) (_ : Unit) => r = r0) (fun _ t => va_P D CLS (wT a q L R g0 g1 g2 g3 g4 g5 g6 g7 g8 g9 g10 g11 g12 g13 g14 g15 g16) t.heap) A) args s 0 0 A) (F0 m 0 ls []) := by
  obtain ⟨hx, hb, hml, hown, hts, hr, hlocks⟩ := id hC
  intro v1 H locs ls hP hD hS hl h
  rw [f_Tape_isThere_0] at h
  have hSz : s.heap.size ≤ H.size := hS.1
  refine lv_iload_n hx hb (dt_at dt_Tape_isThere 0 rfl) rfl (lv_at hl 1 rfl) ?_
  refine lv_if_lt (tgt := 16) hx hb (dt_at dt_Tape_isThere 1 rfl) (by decide) (fun c1 => ?_) (fun c1 => ?_)
  · have h := if_p h c1
    exact k_Tape_isThere_16 hC hA hK   H locs ls hP hD hS   (lv_sub hl [] rfl) h
  · have h := if_n h c1
    refine lv_iload_n hx hb (dt_at dt_Tape_isThere 2 rfl) rfl (lv_at hl 1 rfl) ?_
    refine lv_aload_n hx hb (dt_at dt_Tape_isThere 3 rfl) rfl (lv_at hl 0 rfl) ?_
    refine va_get (D := D) (ci := 1) (v := .int g1) (C := "OutwardTape") (T := T_Tape) (N := 5) hx hb hts in_Tape hown hK hP 0 rfl rfl 3 (by decide) (hts (Cond.fieldLink "OutwardTape" 23 "OutwardTape" "count" "I") (m_1 82 rfl rfl)) (fun _ h9 => h9) rfl (dt_at dt_Tape_isThere 4 rfl) ?_
    refine lv_icmp_ge (tgt := 16) hx hb (dt_at dt_Tape_isThere 5 rfl) (by decide) (fun c2 => ?_) (fun c2 => ?_)
    · have h := if_p h c2
      exact k_Tape_isThere_16 hC hA hK   H locs ls hP hD hS   (lv_sub hl [] rfl) h
    · have h := if_n h c2
      refine lv_iconst (v := 1) hx hb (dt_at dt_Tape_isThere 6 rfl) (by decide) ?_
      refine lv_goto (tgt := 17) hx hb (dt_at dt_Tape_isThere 7 rfl) (by decide) ?_
      exact k_Tape_isThere_17 hC hA hK   (1 : Int32) H locs ls hP hD hS   (lv_sub hl [] rfl) h
set_option maxRecDepth 100000 in
set_option maxHeartbeats 4000000 in
theorem c_Tape_isThere (l : Launch) (D : va_G) (a : Nat → Nat) (q : Nat → ClassId) (L : Nat) (R : Nat) (hd : va_D (fun _ => True) (dT a)) (sz : Nat) (a1 : Int32) (g0 : Int32) (g1 : Int32) (g2 : Nat → Int32) (g3 : Nat → Option Nat) (g4 : Int32) (g5 : Int32) (g6 : Nat → Int32) (g7 : Int32) (g8 : Int64) (g9 : Int32) (g10 : Int32) (g11 : Nat → Int32) (g12 : Int32) (g13 : Int64) (g14 : Int32) (g15 : Int32) (g16 : Nat → Int32)   (r0 : Int32) (h : f_Tape_isThere a1 g1 = some r0) : Met l (⟨"OutwardTape", "isThere", "(I)Z"⟩ : MethodName) (WSm (⟨"OutwardTape", "isThere", "(I)Z"⟩ : MethodName) prog_1_method_18_code 2 (some .boolean)) rm_Tape_isThere (va_Pc [.ref (a 0), .int a1] (fun U => U.heap.size = sz ∧ va_P D CLS (wT a q L R g0 g1 g2 g3 g4 g5 g6 g7 g8 g9 g10 g11 g12 g13 g14 g15 g16) U.heap ∧ va_K D CLS (tT q) U)) (va_Qi (fun (r : Int32) (_ : Unit) => r = r0) (fun _ t => va_P D CLS (wT a q L R g0 g1 g2 g3 g4 g5 g6 g7 g8 g9 g10 g11 g12 g13 g14 g15 g16) t.heap) (va_A (dT a) sz)) 0 0 (va_A (dT a) sz) := by
  refine Met.ofW (cc := prog_1_method_18_code) (maxL := 2) (ret := (some .boolean)) (by decide) rfl ?_
  intro p e s m args below meth c s₁ B hml hv
  obtain ⟨rfl, hsz, hP, hK⟩ := hv
  subst hsz
  have hC := CX.of B hml rfl
  have hl := lv_entry [.ref (a 0), .int a1] (n := 2) (Nat.le_of_ble_eq_true rfl)
  rw [lg_entry_eq]
  generalize (lg_sl [.ref (a 0), .int a1] ++ List.replicate (2 - (lg_sl [.ref (a 0), .int a1]).length) Slot.unset).toArray = ls at hl ⊢
  have hl : lv_has ls 2 [(0, .ref (a 0)), (1, .int a1)] := hl
  exact k_Tape_isThere_0  hC (fun x h => Or.inr h) hK a1    s.heap [] ls hP (dD hd.self rfl) va_S.rf   (lv_sub hl [0, 1] rfl) h
abbrev rm_Tape_hasInterval : Room := { frames := 1, cells := 0, slots := 0, locals := 21 }
set_option maxRecDepth 100000 in
set_option maxHeartbeats 4000000 in
theorem k_Tape_hasInterval_25 {p : Program} {l : Launch} {e : Env} {s : State} {m : MethodId} {args : Array Value} {below : List Frame} {meth : Method} {c : Code} {D : va_G} {a : Nat → Nat} {q : Nat → ClassId} {L : Nat} {R : Nat} {A : Nat → Prop} (hC : CX p s m args meth c prog_1_method_19_code 2 "OutwardTape" (some .boolean)) (hA : ∀ x, s.heap.size ≤ x → A x) (hK : va_K D CLS (tT q) s) {g0 : Int32} {g1 : Int32} {g2 : Nat → Int32} {g3 : Nat → Option Nat} {g4 : Int32} {g5 : Int32} {g6 : Nat → Int32} {g7 : Int32} {g8 : Int64} {g9 : Int32} {g10 : Int32} {g11 : Nat → Int32} {g12 : Int32} {g13 : Int64} {g14 : Int32} {g15 : Int32} {g16 : Nat → Int32} {g17 : Nat → Option (Int64 × Int64 × Int32)} {r0 : Int32} : ∀ (s0 : Int32)  (H : Heap) (locs : List Loc) (ls : Array Slot), va_P D CLS (wT a q L R g0 g1 g2 g3 g4 g5 g6 g7 g8 g9 g10 g11 g12 g13 g14 g15 g16) H → va_D A (wT a q L R g0 g1 g2 g3 g4 g5 g6 g7 g8 g9 g10 g11 g12 g13 g14 g15 g16) → va_S A s.heap H locs → tapeC D (dT a) g3 g17 H → lv_has ls 2 [] → f_Tape_hasInterval_25  s0 g1 g17 = some r0 → W p l e rm_Tape_hasInterval s m args below meth c H locs 0 0 (MQ below (va_Qi (fun (r : Int32) (_ : Unit) => r = r0) (fun _ t => va_P D CLS (wT a q L R g0 g1 g2 g3 g4 g5 g6 g7 g8 g9 g10 g11 g12 g13 g14 g15 g16) t.heap ∧ tapeC D (dT a) g3 g17 t.heap) A) args s 0 0 A) (F0 m 25 ls [.int s0]) := by
  obtain ⟨hx, hb, hml, hown, hts, hr, hlocks⟩ := id hC
  intro s0 H locs ls hP hD hS hT hl h
  rw [f_Tape_hasInterval_25] at h
  have hSz : s.heap.size ≤ H.size := hS.1
  obtain ⟨hz, h⟩ := og_of h
  obtain rfl := os_of h
  exact W.zret (v := s0) (ty := .boolean) hx hb hr (j_z_nar hz) (fun t ht hW => ⟨⟨_, (), rfl, rfl, ⟨(hPt hP ht), hT.t ht⟩⟩, hS.F ht⟩) hS.2.2 (dt_at dt_Tape_hasInterval 13 rfl)
set_option maxRecDepth 100000 in
set_option maxHeartbeats 4000000 in
theorem k_Tape_hasInterval_24 {p : Program} {l : Launch} {e : Env} {s : State} {m : MethodId} {args : Array Value} {below : List Frame} {meth : Method} {c : Code} {D : va_G} {a : Nat → Nat} {q : Nat → ClassId} {L : Nat} {R : Nat} {A : Nat → Prop} (hC : CX p s m args meth c prog_1_method_19_code 2 "OutwardTape" (some .boolean)) (hA : ∀ x, s.heap.size ≤ x → A x) (hK : va_K D CLS (tT q) s) {g0 : Int32} {g1 : Int32} {g2 : Nat → Int32} {g3 : Nat → Option Nat} {g4 : Int32} {g5 : Int32} {g6 : Nat → Int32} {g7 : Int32} {g8 : Int64} {g9 : Int32} {g10 : Int32} {g11 : Nat → Int32} {g12 : Int32} {g13 : Int64} {g14 : Int32} {g15 : Int32} {g16 : Nat → Int32} {g17 : Nat → Option (Int64 × Int64 × Int32)} {r0 : Int32} : ∀   (H : Heap) (locs : List Loc) (ls : Array Slot), va_P D CLS (wT a q L R g0 g1 g2 g3 g4 g5 g6 g7 g8 g9 g10 g11 g12 g13 g14 g15 g16) H → va_D A (wT a q L R g0 g1 g2 g3 g4 g5 g6 g7 g8 g9 g10 g11 g12 g13 g14 g15 g16) → va_S A s.heap H locs → tapeC D (dT a) g3 g17 H → lv_has ls 2 [] → f_Tape_hasInterval_24  g1 g17 = some r0 → W p l e rm_Tape_hasInterval s m args below meth c H locs 0 0 (MQ below (va_Qi (fun (r : Int32) (_ : Unit) => r = r0) (fun _ t => va_P D CLS (wT a q L R g0 g1 g2 g3 g4 g5 g6 g7 g8 g9 g10 g11 g12 g13 g14 g15 g16) t.heap ∧ tapeC D (dT a) g3 g17 t.heap) A) args s 0 0 A) (F0 m 24 ls []) := by
  obtain ⟨hx, hb, hml, hown, hts, hr, hlocks⟩ := id hC
  intro H locs ls hP hD hS hT hl h
  rw [f_Tape_hasInterval_24] at h
  have hSz : s.heap.size ≤ H.size := hS.1
  refine lv_iconst (v := 0) hx hb (dt_at dt_Tape_hasInterval 12 rfl) (by decide) ?_
  exact k_Tape_hasInterval_25 hC hA hK   (0 : Int32) H locs ls hP hD hS hT  (lv_sub hl [] rfl) h
set_option maxRecDepth 100000 in
set_option maxHeartbeats 4000000 in
theorem k_Tape_hasInterval_0 {p : Program} {l : Launch} {e : Env} {s : State} {m : MethodId} {args : Array Value} {below : List Frame} {meth : Method} {c : Code} {D : va_G} {a : Nat → Nat} {q : Nat → ClassId} {L : Nat} {R : Nat} {A : Nat → Prop} (hC : CX p s m args meth c prog_1_method_19_code 2 "OutwardTape" (some .boolean)) (hA : ∀ x, s.heap.size ≤ x → A x) (hK : va_K D CLS (tT q) s) {g0 : Int32} {g1 : Int32} {g2 : Nat → Int32} {g3 : Nat → Option Nat} {g4 : Int32} {g5 : Int32} {g6 : Nat → Int32} {g7 : Int32} {g8 : Int64} {g9 : Int32} {g10 : Int32} {g11 : Nat → Int32} {g12 : Int32} {g13 : Int64} {g14 : Int32} {g15 : Int32} {g16 : Nat → Int32} {g17 : Nat → Option (Int64 × Int64 × Int32)} {r0 : Int32} : ∀ (v1 : Int32)  (H : Heap) (locs : List Loc) (ls : Array Slot), va_P D CLS (wT a q L R g0 g1 g2 g3 g4 g5 g6 g7 g8 g9 g10 g11 g12 g13 g14 g15 g16) H → va_D A (wT a q L R g0 g1 g2 g3 g4 g5 g6 g7 g8 g9 g10 g11 g12 g13 g14 g15 g16) → va_S A s.heap H locs → tapeC D (dT a) g3 g17 H → lv_has ls 2 [(0, .ref (a 0)), (1, .int v1)] → f_Tape_hasInterval_0  v1 g1 g17 = some r0 → W p l e rm_Tape_hasInterval s m args below meth c H locs 0 0 (MQ below (va_Qi (fun (r : Int32) (_ : Unit) => r = r0) (fun _ t => va_P D CLS (wT a q L R g0 g1 g2 g3 g4 g5 g6 g7 g8 g9 g10 g11 g12 g13 g14 g15 g16) t.heap ∧ tapeC D (dT a) g3 g17 t.heap) A) args s 0 0 A) (F0 m 0 ls []) := by
  obtain ⟨hx, hb, hml, hown, hts, hr, hlocks⟩ := id hC
  intro v1 H locs ls hP hD hS hT hl h
  rw [f_Tape_hasInterval_0] at h
  have hSz : s.heap.size ≤ H.size := hS.1
  refine lv_aload_n hx hb (dt_at dt_Tape_hasInterval 0 rfl) rfl (lv_at hl 0 rfl) ?_
  refine lv_iload_n hx hb (dt_at dt_Tape_hasInterval 1 rfl) rfl (lv_at hl 1 rfl) ?_
  obtain ⟨r1, h_r1, h⟩ := ob_of h
  have hPc := hP
  have hDc : va_D A (dT a) := dD (ws' := dT a) hD rfl
  have hKc := hK
  have hF := va_free (wc := dT a) hDc hS hA [0, 1, 2, 3, 4, 5, 6, 7, 8] rfl
  have hd : va_D (fun _ => True) (dT a) := hDc.weaken (fun _ _ _ _ => trivial)
  refine va_calli (va_runV (As := [.int v1]) (rest := []) ⟨hx, hb, hml, hown, hts⟩ (c_Tape_isThere l D a q L R hd H.size v1 g0 g1 g2 g3 g4 g5 g6 g7 g8 g9 g10 g11 g12 g13 g14 g15 g16   r1 h_r1) (cwV 1 hts (gd_V (m_1 119 rfl rfl) (m_1 121 rfl rfl) (m_s 1 rfl rfl) (m_1 1 rfl rfl) (m_1 122 rfl rfl)) rfl rfl rfl (by decide +kernel) ⟨Nat.le_of_ble_eq_true rfl, Nat.le_of_ble_eq_true rfl⟩) ⟨fun a U g mk q => ⟨q.1, q.2.1, q.2.2.1, va_K.moved (u := U) (U := U.calling g mk a) (Vm.Alike.refl U.vm) q.2.2.2⟩, va_recv hK hP (ci := 1) (q0 := 0) rfl rfl, fun U hU hW => ⟨rfl, by rw [hU], by rw [hU]; exact hPc, va_K.moved hW.alike hKc⟩⟩ rfl rfl hl.1 rfl (lv_room (Nat.le_of_ble_eq_true rfl)) (dt_at dt_Tape_hasInterval 2 rfl) ⟨Nat.le_of_ble_eq_true rfl, Nat.le_of_ble_eq_true rfl⟩) hS (fun x _ h9 => hF x h9) hF (fun u_r1 uu t H1 locs ht hvm hw hB hz1 hk1 hS => ?_)
  obtain rfl : r1 = u_r1 := hw.symm
  have hT := hT.kept hk1
  rw [ht] at hB
  have hP : va_P D CLS (wT a q L R g0 g1 g2 g3 g4 g5 g6 g7 g8 g9 g10 g11 g12 g13 g14 g15 g16) H1 := hB
  have hD : va_D A (wT a q L R g0 g1 g2 g3 g4 g5 g6 g7 g8 g9 g10 g11 g12 g13 g14 g15 g16) := dD hD rfl
  have hSz : s.heap.size ≤ H1.size := hS.1
  clear hk1 hz1 hPc hF hB ht
  generalize H1 = H at hP hS hSz  hT ⊢
  refine lv_if_eq (tgt := 24) hx hb (dt_at dt_Tape_hasInterval 3 rfl) (by decide) (fun c2 => ?_) (fun c2 => ?_)
  · have h := if_p h c2
    exact k_Tape_hasInterval_24 hC hA hK   H locs ls hP hD hS hT  (lv_sub hl [] rfl) h
  · have h := if_n h c2
    refine lv_aload_n hx hb (dt_at dt_Tape_hasInterval 4 rfl) rfl (lv_at hl 0 rfl) ?_
    refine va_get (D := D) (ci := 1) (v := .ref (a 2)) (C := "OutwardTape") (T := T_Tape) (N := 5) hx hb hts in_Tape hown hK hP 0 rfl rfl 2 (by decide) (hts (Cond.fieldLink "OutwardTape" 19 "OutwardTape" "cells" "[LOutwardTape$Cell;") (m_1 81 rfl rfl)) (fun _ h9 => h9) rfl (dt_at dt_Tape_hasInterval 5 rfl) ?_
    refine lv_iload_n hx hb (dt_at dt_Tape_hasInterval 6 rfl) rfl (lv_at hl 1 rfl) ?_
    obtain ⟨z4, h⟩ := og_of h
    obtain ⟨o3, h_o3, h⟩ := ob_of h
    obtain ⟨y_o3, hy_o3, hc_o3, hn_o3⟩ := hT _ _ h_o3
    refine ld_ref hx hb hK hP 2 1 rfl rfl z4 hy_o3 (dt_at dt_Tape_hasInterval 7 rfl) ?_
    skip
    refine va_get (D := D) (ci := 4) (v := .int o3.2.2) (C := "OutwardTape$Cell") (T := T_Cell) (N := 3) hx hb hts in_Cell hown hK hc_o3 0 rfl rfl 2 (by decide) (hts (Cond.fieldLink "OutwardTape" 93 "OutwardTape$Cell" "mark" "I") (m_2 135 rfl rfl)) (fun _ h9 => h9) rfl (dt_at dt_Tape_hasInterval 8 rfl) ?_
    refine lv_if_eq (tgt := 24) hx hb (dt_at dt_Tape_hasInterval 9 rfl) (by decide) (fun c5 => ?_) (fun c5 => ?_)
    · have h := if_p h c5
      exact k_Tape_hasInterval_24 hC hA hK   H locs ls hP hD hS hT  (lv_sub hl [] rfl) h
    · have h := if_n h c5
      refine lv_iconst (v := 1) hx hb (dt_at dt_Tape_hasInterval 10 rfl) (by decide) ?_
      refine lv_goto (tgt := 25) hx hb (dt_at dt_Tape_hasInterval 11 rfl) (by decide) ?_
      exact k_Tape_hasInterval_25 hC hA hK   (1 : Int32) H locs ls hP hD hS hT  (lv_sub hl [] rfl) h
set_option maxRecDepth 100000 in
set_option maxHeartbeats 4000000 in
theorem c_Tape_hasInterval (l : Launch) (D : va_G) (a : Nat → Nat) (q : Nat → ClassId) (L : Nat) (R : Nat) (hd : va_D (fun _ => True) (dT a)) (sz : Nat) (a1 : Int32) (g0 : Int32) (g1 : Int32) (g2 : Nat → Int32) (g3 : Nat → Option Nat) (g4 : Int32) (g5 : Int32) (g6 : Nat → Int32) (g7 : Int32) (g8 : Int64) (g9 : Int32) (g10 : Int32) (g11 : Nat → Int32) (g12 : Int32) (g13 : Int64) (g14 : Int32) (g15 : Int32) (g16 : Nat → Int32) (g17 : Nat → Option (Int64 × Int64 × Int32))   (r0 : Int32) (h : f_Tape_hasInterval a1 g1 g17 = some r0) : Met l (⟨"OutwardTape", "hasInterval", "(I)Z"⟩ : MethodName) (WSm (⟨"OutwardTape", "hasInterval", "(I)Z"⟩ : MethodName) prog_1_method_19_code 2 (some .boolean)) rm_Tape_hasInterval (va_Pc [.ref (a 0), .int a1] (fun U => U.heap.size = sz ∧ va_P D CLS (wT a q L R g0 g1 g2 g3 g4 g5 g6 g7 g8 g9 g10 g11 g12 g13 g14 g15 g16) U.heap ∧ va_K D CLS (tT q) U ∧ tapeC D (dT a) g3 g17 U.heap)) (va_Qi (fun (r : Int32) (_ : Unit) => r = r0) (fun _ t => va_P D CLS (wT a q L R g0 g1 g2 g3 g4 g5 g6 g7 g8 g9 g10 g11 g12 g13 g14 g15 g16) t.heap ∧ tapeC D (dT a) g3 g17 t.heap) (va_A (dT a) sz)) 0 0 (va_A (dT a) sz) := by
  refine Met.ofW (cc := prog_1_method_19_code) (maxL := 2) (ret := (some .boolean)) (by decide) rfl ?_
  intro p e s m args below meth c s₁ B hml hv
  obtain ⟨rfl, hsz, hP, hK, hT⟩ := hv
  subst hsz
  have hC := CX.of B hml rfl
  have hl := lv_entry [.ref (a 0), .int a1] (n := 2) (Nat.le_of_ble_eq_true rfl)
  rw [lg_entry_eq]
  generalize (lg_sl [.ref (a 0), .int a1] ++ List.replicate (2 - (lg_sl [.ref (a 0), .int a1]).length) Slot.unset).toArray = ls at hl ⊢
  have hl : lv_has ls 2 [(0, .ref (a 0)), (1, .int a1)] := hl
  exact k_Tape_hasInterval_0  hC (fun x h => Or.inr h) hK a1    s.heap [] ls hP (dD hd.self rfl) va_S.rf hT  (lv_sub hl [0, 1] rfl) h
abbrev rm_Tape_isEmpty : Room := { frames := 2, cells := 0, slots := 0, locals := 42 }
set_option maxRecDepth 100000 in
set_option maxHeartbeats 4000000 in
theorem k_Tape_isEmpty_25 {p : Program} {l : Launch} {e : Env} {s : State} {m : MethodId} {args : Array Value} {below : List Frame} {meth : Method} {c : Code} {D : va_G} {a : Nat → Nat} {q : Nat → ClassId} {L : Nat} {R : Nat} {A : Nat → Prop} (hC : CX p s m args meth c prog_1_method_11_code 2 "OutwardTape" (some .boolean)) (hA : ∀ x, s.heap.size ≤ x → A x) (hK : va_K D CLS (tT q) s) {g0 : Int32} {g1 : Int32} {g2 : Nat → Int32} {g3 : Nat → Option Nat} {g4 : Int32} {g5 : Int32} {g6 : Nat → Int32} {g7 : Int32} {g8 : Int64} {g9 : Int32} {g10 : Int32} {g11 : Nat → Int32} {g12 : Int32} {g13 : Int64} {g14 : Int32} {g15 : Int32} {g16 : Nat → Int32} {g17 : Nat → Option (Int64 × Int64 × Int32)} {r0 : Int32} : ∀ (s0 : Int32)  (H : Heap) (locs : List Loc) (ls : Array Slot), va_P D CLS (wT a q L R g0 g1 g2 g3 g4 g5 g6 g7 g8 g9 g10 g11 g12 g13 g14 g15 g16) H → va_D A (wT a q L R g0 g1 g2 g3 g4 g5 g6 g7 g8 g9 g10 g11 g12 g13 g14 g15 g16) → va_S A s.heap H locs → tapeC D (dT a) g3 g17 H → lv_has ls 2 [] → f_Tape_isEmpty_25  s0 g1 g17 = some r0 → W p l e rm_Tape_isEmpty s m args below meth c H locs 0 0 (MQ below (va_Qi (fun (r : Int32) (_ : Unit) => r = r0) (fun _ t => va_P D CLS (wT a q L R g0 g1 g2 g3 g4 g5 g6 g7 g8 g9 g10 g11 g12 g13 g14 g15 g16) t.heap ∧ tapeC D (dT a) g3 g17 t.heap) A) args s 0 0 A) (F0 m 25 ls [.int s0]) := by
  obtain ⟨hx, hb, hml, hown, hts, hr, hlocks⟩ := id hC
  intro s0 H locs ls hP hD hS hT hl h
  rw [f_Tape_isEmpty_25] at h
  have hSz : s.heap.size ≤ H.size := hS.1
  obtain ⟨hz, h⟩ := og_of h
  obtain rfl := os_of h
  exact W.zret (v := s0) (ty := .boolean) hx hb hr (j_z_nar hz) (fun t ht hW => ⟨⟨_, (), rfl, rfl, ⟨(hPt hP ht), hT.t ht⟩⟩, hS.F ht⟩) hS.2.2 (dt_at dt_Tape_isEmpty 13 rfl)
set_option maxRecDepth 100000 in
set_option maxHeartbeats 4000000 in
theorem k_Tape_isEmpty_24 {p : Program} {l : Launch} {e : Env} {s : State} {m : MethodId} {args : Array Value} {below : List Frame} {meth : Method} {c : Code} {D : va_G} {a : Nat → Nat} {q : Nat → ClassId} {L : Nat} {R : Nat} {A : Nat → Prop} (hC : CX p s m args meth c prog_1_method_11_code 2 "OutwardTape" (some .boolean)) (hA : ∀ x, s.heap.size ≤ x → A x) (hK : va_K D CLS (tT q) s) {g0 : Int32} {g1 : Int32} {g2 : Nat → Int32} {g3 : Nat → Option Nat} {g4 : Int32} {g5 : Int32} {g6 : Nat → Int32} {g7 : Int32} {g8 : Int64} {g9 : Int32} {g10 : Int32} {g11 : Nat → Int32} {g12 : Int32} {g13 : Int64} {g14 : Int32} {g15 : Int32} {g16 : Nat → Int32} {g17 : Nat → Option (Int64 × Int64 × Int32)} {r0 : Int32} : ∀   (H : Heap) (locs : List Loc) (ls : Array Slot), va_P D CLS (wT a q L R g0 g1 g2 g3 g4 g5 g6 g7 g8 g9 g10 g11 g12 g13 g14 g15 g16) H → va_D A (wT a q L R g0 g1 g2 g3 g4 g5 g6 g7 g8 g9 g10 g11 g12 g13 g14 g15 g16) → va_S A s.heap H locs → tapeC D (dT a) g3 g17 H → lv_has ls 2 [] → f_Tape_isEmpty_24  g1 g17 = some r0 → W p l e rm_Tape_isEmpty s m args below meth c H locs 0 0 (MQ below (va_Qi (fun (r : Int32) (_ : Unit) => r = r0) (fun _ t => va_P D CLS (wT a q L R g0 g1 g2 g3 g4 g5 g6 g7 g8 g9 g10 g11 g12 g13 g14 g15 g16) t.heap ∧ tapeC D (dT a) g3 g17 t.heap) A) args s 0 0 A) (F0 m 24 ls []) := by
  obtain ⟨hx, hb, hml, hown, hts, hr, hlocks⟩ := id hC
  intro H locs ls hP hD hS hT hl h
  rw [f_Tape_isEmpty_24] at h
  have hSz : s.heap.size ≤ H.size := hS.1
  refine lv_iconst (v := 0) hx hb (dt_at dt_Tape_isEmpty 12 rfl) (by decide) ?_
  exact k_Tape_isEmpty_25 hC hA hK   (0 : Int32) H locs ls hP hD hS hT  (lv_sub hl [] rfl) h
set_option maxRecDepth 100000 in
set_option maxHeartbeats 4000000 in
theorem k_Tape_isEmpty_0 {p : Program} {l : Launch} {e : Env} {s : State} {m : MethodId} {args : Array Value} {below : List Frame} {meth : Method} {c : Code} {D : va_G} {a : Nat → Nat} {q : Nat → ClassId} {L : Nat} {R : Nat} {A : Nat → Prop} (hC : CX p s m args meth c prog_1_method_11_code 2 "OutwardTape" (some .boolean)) (hA : ∀ x, s.heap.size ≤ x → A x) (hK : va_K D CLS (tT q) s) {g0 : Int32} {g1 : Int32} {g2 : Nat → Int32} {g3 : Nat → Option Nat} {g4 : Int32} {g5 : Int32} {g6 : Nat → Int32} {g7 : Int32} {g8 : Int64} {g9 : Int32} {g10 : Int32} {g11 : Nat → Int32} {g12 : Int32} {g13 : Int64} {g14 : Int32} {g15 : Int32} {g16 : Nat → Int32} {g17 : Nat → Option (Int64 × Int64 × Int32)} {r0 : Int32} : ∀ (v1 : Int32)  (H : Heap) (locs : List Loc) (ls : Array Slot), va_P D CLS (wT a q L R g0 g1 g2 g3 g4 g5 g6 g7 g8 g9 g10 g11 g12 g13 g14 g15 g16) H → va_D A (wT a q L R g0 g1 g2 g3 g4 g5 g6 g7 g8 g9 g10 g11 g12 g13 g14 g15 g16) → va_S A s.heap H locs → tapeC D (dT a) g3 g17 H → lv_has ls 2 [(0, .ref (a 0)), (1, .int v1)] → f_Tape_isEmpty_0  v1 g1 g17 = some r0 → W p l e rm_Tape_isEmpty s m args below meth c H locs 0 0 (MQ below (va_Qi (fun (r : Int32) (_ : Unit) => r = r0) (fun _ t => va_P D CLS (wT a q L R g0 g1 g2 g3 g4 g5 g6 g7 g8 g9 g10 g11 g12 g13 g14 g15 g16) t.heap ∧ tapeC D (dT a) g3 g17 t.heap) A) args s 0 0 A) (F0 m 0 ls []) := by
  obtain ⟨hx, hb, hml, hown, hts, hr, hlocks⟩ := id hC
  intro v1 H locs ls hP hD hS hT hl h
  rw [f_Tape_isEmpty_0] at h
  have hSz : s.heap.size ≤ H.size := hS.1
  refine lv_aload_n hx hb (dt_at dt_Tape_isEmpty 0 rfl) rfl (lv_at hl 0 rfl) ?_
  refine lv_iload_n hx hb (dt_at dt_Tape_isEmpty 1 rfl) rfl (lv_at hl 1 rfl) ?_
  obtain ⟨r1, h_r1, h⟩ := ob_of h
  have hPc := hP
  have hDc : va_D A (dT a) := dD (ws' := dT a) hD rfl
  have hKc := hK
  have hF := va_free (wc := dT a) hDc hS hA [0, 1, 2, 3, 4, 5, 6, 7, 8] rfl
  have hd : va_D (fun _ => True) (dT a) := hDc.weaken (fun _ _ _ _ => trivial)
  refine va_calli (va_runV (As := [.int v1]) (rest := []) ⟨hx, hb, hml, hown, hts⟩ (c_Tape_hasInterval l D a q L R hd H.size v1 g0 g1 g2 g3 g4 g5 g6 g7 g8 g9 g10 g11 g12 g13 g14 g15 g16 g17   r1 h_r1) (cwV 1 hts (gd_V (m_1 115 rfl rfl) (m_1 117 rfl rfl) (m_s 0 rfl rfl) (m_1 1 rfl rfl) (m_1 118 rfl rfl)) rfl rfl rfl (by decide +kernel) ⟨Nat.le_of_ble_eq_true rfl, Nat.le_of_ble_eq_true rfl⟩) ⟨fun a U g mk q => ⟨q.1, q.2.1, q.2.2.1, va_K.moved (u := U) (U := U.calling g mk a) (Vm.Alike.refl U.vm) q.2.2.2.1, q.2.2.2.2⟩, va_recv hK hP (ci := 1) (q0 := 0) rfl rfl, fun U hU hW => ⟨rfl, by rw [hU], by rw [hU]; exact hPc, va_K.moved hW.alike hKc, by rw [hU]; exact hT⟩⟩ rfl rfl hl.1 rfl (lv_room (Nat.le_of_ble_eq_true rfl)) (dt_at dt_Tape_isEmpty 2 rfl) ⟨Nat.le_of_ble_eq_true rfl, Nat.le_of_ble_eq_true rfl⟩) hS (fun x _ h9 => hF x h9) hF (fun u_r1 uu t H1 locs ht hvm hw hB hz1 hk1 hS => ?_)
  obtain rfl : r1 = u_r1 := hw.symm
  obtain ⟨hB, hT⟩ := hB
  rw [ht] at hT
  rw [ht] at hB
  have hP : va_P D CLS (wT a q L R g0 g1 g2 g3 g4 g5 g6 g7 g8 g9 g10 g11 g12 g13 g14 g15 g16) H1 := hB
  have hD : va_D A (wT a q L R g0 g1 g2 g3 g4 g5 g6 g7 g8 g9 g10 g11 g12 g13 g14 g15 g16) := dD hD rfl
  have hSz : s.heap.size ≤ H1.size := hS.1
  clear hk1 hz1 hPc hF hB ht
  generalize H1 = H at hP hS hSz  hT ⊢
  refine lv_if_eq (tgt := 24) hx hb (dt_at dt_Tape_isEmpty 3 rfl) (by decide) (fun c2 => ?_) (fun c2 => ?_)
  · have h := if_p h c2
    exact k_Tape_isEmpty_24 hC hA hK   H locs ls hP hD hS hT  (lv_sub hl [] rfl) h
  · have h := if_n h c2
    refine lv_aload_n hx hb (dt_at dt_Tape_isEmpty 4 rfl) rfl (lv_at hl 0 rfl) ?_
    refine va_get (D := D) (ci := 1) (v := .ref (a 2)) (C := "OutwardTape") (T := T_Tape) (N := 5) hx hb hts in_Tape hown hK hP 0 rfl rfl 2 (by decide) (hts (Cond.fieldLink "OutwardTape" 19 "OutwardTape" "cells" "[LOutwardTape$Cell;") (m_1 81 rfl rfl)) (fun _ h9 => h9) rfl (dt_at dt_Tape_isEmpty 5 rfl) ?_
    refine lv_iload_n hx hb (dt_at dt_Tape_isEmpty 6 rfl) rfl (lv_at hl 1 rfl) ?_
    obtain ⟨z4, h⟩ := og_of h
    obtain ⟨o3, h_o3, h⟩ := ob_of h
    obtain ⟨y_o3, hy_o3, hc_o3, hn_o3⟩ := hT _ _ h_o3
    refine ld_ref hx hb hK hP 2 1 rfl rfl z4 hy_o3 (dt_at dt_Tape_isEmpty 7 rfl) ?_
    skip
    obtain ⟨r5, h_r5, h⟩ := ob_of h
    have hPc : va_P D CLS (wE a q) H := fun k q h => by simp [wE] at h
    have hd : va_D (fun _ => True) (dE a) := dE_D a
    have hKc : va_K D CLS (tE q) s := hK.sub (tys' := []) [] rfl
    have hF : ∀ x, va_A (dE a) H.size x → A x := fun x h9 => h9.elim (fun ⟨k, e, h⟩ => by simp [dE] at h) (fun g => hA _ (Nat.le_trans hS.1 g))
    refine va_calli (va_runV (As := []) (rest := []) ⟨hx, hb, hml, hown, hts⟩ (c_Cell_hasNoPoint l D a q  hd H.size o3.1 o3.2.1 o3.2.2  y_o3 (nin_E a y_o3) r5 h_r5) (cwV 0 hts (gd_V (m_1 123 rfl rfl) (m_1 124 rfl rfl) (m_1 125 rfl rfl) (m_1 10 rfl rfl) (m_1 126 rfl rfl)) rfl rfl rfl (by decide +kernel) ⟨Nat.le_of_ble_eq_true rfl, Nat.le_of_ble_eq_true rfl⟩) ⟨fun a U g mk q => ⟨q.1, q.2.1, q.2.2.1, va_K.moved (u := U) (U := U.calling g mk a) (Vm.Alike.refl U.vm) q.2.2.2.1, q.2.2.2.2⟩, va_recv hK hc_o3 (ci := 4) (q0 := 0) rfl rfl, fun U hU hW => ⟨rfl, by rw [hU], by rw [hU]; exact hPc, va_K.moved hW.alike hKc, by rw [hU]; exact hc_o3⟩⟩ rfl rfl hl.1 rfl (lv_room (Nat.le_of_ble_eq_true rfl)) (dt_at dt_Tape_isEmpty 8 rfl) ⟨Nat.le_of_ble_eq_true rfl, Nat.le_of_ble_eq_true rfl⟩) hS (fun x _ h9 => hF x h9) hF (fun u_r5 uu t H1 locs ht hvm hw hB hz1 hk1 hS => ?_)
    obtain rfl : r5 = u_r5 := hw.symm
    have hc_o3 := isC.keptA hc_o3 hk1 (nin_E a y_o3)
    have hT := hT.keptE hk1
    have hP := va_P.kept hP (fun k q hq => hk1 _ (hP k q hq).lt (not_AE (hP k q hq).lt))
    have hSz : s.heap.size ≤ H1.size := hS.1
    clear hk1 hz1 hPc hF hB ht
    generalize H1 = H at hP hS hSz hc_o3 hT ⊢
    refine lv_if_eq (tgt := 24) hx hb (dt_at dt_Tape_isEmpty 9 rfl) (by decide) (fun c6 => ?_) (fun c6 => ?_)
    · have h := if_p h c6
      exact k_Tape_isEmpty_24 hC hA hK   H locs ls hP hD hS hT  (lv_sub hl [] rfl) h
    · have h := if_n h c6
      refine lv_iconst (v := 1) hx hb (dt_at dt_Tape_isEmpty 10 rfl) (by decide) ?_
      refine lv_goto (tgt := 25) hx hb (dt_at dt_Tape_isEmpty 11 rfl) (by decide) ?_
      exact k_Tape_isEmpty_25 hC hA hK   (1 : Int32) H locs ls hP hD hS hT  (lv_sub hl [] rfl) h
set_option maxRecDepth 100000 in
set_option maxHeartbeats 4000000 in
theorem c_Tape_isEmpty (l : Launch) (D : va_G) (a : Nat → Nat) (q : Nat → ClassId) (L : Nat) (R : Nat) (hd : va_D (fun _ => True) (dT a)) (sz : Nat) (a1 : Int32) (g0 : Int32) (g1 : Int32) (g2 : Nat → Int32) (g3 : Nat → Option Nat) (g4 : Int32) (g5 : Int32) (g6 : Nat → Int32) (g7 : Int32) (g8 : Int64) (g9 : Int32) (g10 : Int32) (g11 : Nat → Int32) (g12 : Int32) (g13 : Int64) (g14 : Int32) (g15 : Int32) (g16 : Nat → Int32) (g17 : Nat → Option (Int64 × Int64 × Int32))   (r0 : Int32) (h : f_Tape_isEmpty a1 g1 g17 = some r0) : Met l (⟨"OutwardTape", "isEmpty", "(I)Z"⟩ : MethodName) (WSm (⟨"OutwardTape", "isEmpty", "(I)Z"⟩ : MethodName) prog_1_method_11_code 2 (some .boolean)) rm_Tape_isEmpty (va_Pc [.ref (a 0), .int a1] (fun U => U.heap.size = sz ∧ va_P D CLS (wT a q L R g0 g1 g2 g3 g4 g5 g6 g7 g8 g9 g10 g11 g12 g13 g14 g15 g16) U.heap ∧ va_K D CLS (tT q) U ∧ tapeC D (dT a) g3 g17 U.heap)) (va_Qi (fun (r : Int32) (_ : Unit) => r = r0) (fun _ t => va_P D CLS (wT a q L R g0 g1 g2 g3 g4 g5 g6 g7 g8 g9 g10 g11 g12 g13 g14 g15 g16) t.heap ∧ tapeC D (dT a) g3 g17 t.heap) (va_A (dT a) sz)) 0 0 (va_A (dT a) sz) := by
  refine Met.ofW (cc := prog_1_method_11_code) (maxL := 2) (ret := (some .boolean)) (by decide) rfl ?_
  intro p e s m args below meth c s₁ B hml hv
  obtain ⟨rfl, hsz, hP, hK, hT⟩ := hv
  subst hsz
  have hC := CX.of B hml rfl
  have hl := lv_entry [.ref (a 0), .int a1] (n := 2) (Nat.le_of_ble_eq_true rfl)
  rw [lg_entry_eq]
  generalize (lg_sl [.ref (a 0), .int a1] ++ List.replicate (2 - (lg_sl [.ref (a 0), .int a1]).length) Slot.unset).toArray = ls at hl ⊢
  have hl : lv_has ls 2 [(0, .ref (a 0)), (1, .int a1)] := hl
  exact k_Tape_isEmpty_0  hC (fun x h => Or.inr h) hK a1    s.heap [] ls hP (dD hd.self rfl) va_S.rf hT  (lv_sub hl [0, 1] rfl) h
abbrev rm_Tape_lower : Room := { frames := 2, cells := 0, slots := 0, locals := 42 }
set_option maxRecDepth 100000 in
set_option maxHeartbeats 4000000 in
theorem k_Tape_lower_38 {p : Program} {l : Launch} {e : Env} {s : State} {m : MethodId} {args : Array Value} {below : List Frame} {meth : Method} {c : Code} {D : va_G} {a : Nat → Nat} {q : Nat → ClassId} {L : Nat} {R : Nat} {A : Nat → Prop} (hC : CX p s m args meth c prog_1_method_12_code 4 "OutwardTape" (some .long)) (hA : ∀ x, s.heap.size ≤ x → A x) (hK : va_K D CLS (tT q) s) {g0 : Int32} {g1 : Int32} {g2 : Nat → Int32} {g3 : Nat → Option Nat} {g4 : Int32} {g5 : Int32} {g6 : Nat → Int32} {g7 : Int32} {g8 : Int64} {g9 : Int32} {g10 : Int32} {g11 : Nat → Int32} {g12 : Int32} {g13 : Int64} {g14 : Int32} {g15 : Int32} {g16 : Nat → Int32} {g17 : Nat → Option (Int64 × Int64 × Int32)} {r0 : Int64} : ∀ (s0 : Int64)  (H : Heap) (locs : List Loc) (ls : Array Slot), va_P D CLS (wT a q L R g0 g1 g2 g3 g4 g5 g6 g7 g8 g9 g10 g11 g12 g13 g14 g15 g16) H → va_D A (wT a q L R g0 g1 g2 g3 g4 g5 g6 g7 g8 g9 g10 g11 g12 g13 g14 g15 g16) → va_S A s.heap H locs → tapeC D (dT a) g3 g17 H → lv_has ls 4 [] → f_Tape_lower_38  s0 g1 g17 = some r0 → W p l e rm_Tape_lower s m args below meth c H locs 0 0 (MQ below (va_Ql (fun (r : Int64) (_ : Unit) => r = r0) (fun _ t => va_P D CLS (wT a q L R g0 g1 g2 g3 g4 g5 g6 g7 g8 g9 g10 g11 g12 g13 g14 g15 g16) t.heap ∧ tapeC D (dT a) g3 g17 t.heap) A) args s 0 0 A) (F0 m 38 ls [.long s0]) := by
  obtain ⟨hx, hb, hml, hown, hts, hr, hlocks⟩ := id hC
  intro s0 H locs ls hP hD hS hT hl h
  rw [f_Tape_lower_38] at h
  have hSz : s.heap.size ≤ H.size := hS.1
  obtain rfl := os_of h
  exact W.lret (v := s0) hx hb hr (fun t ht hW => ⟨⟨_, (), rfl, rfl, ⟨(hPt hP ht), hT.t ht⟩⟩, hS.F ht⟩) hS.2.2 (dt_at dt_Tape_lower 20 rfl)
set_option maxRecDepth 100000 in
set_option maxHeartbeats 4000000 in
theorem k_Tape_lower_0 {p : Program} {l : Launch} {e : Env} {s : State} {m : MethodId} {args : Array Value} {below : List Frame} {meth : Method} {c : Code} {D : va_G} {a : Nat → Nat} {q : Nat → ClassId} {L : Nat} {R : Nat} {A : Nat → Prop} (hC : CX p s m args meth c prog_1_method_12_code 4 "OutwardTape" (some .long)) (hA : ∀ x, s.heap.size ≤ x → A x) (hK : va_K D CLS (tT q) s) {g0 : Int32} {g1 : Int32} {g2 : Nat → Int32} {g3 : Nat → Option Nat} {g4 : Int32} {g5 : Int32} {g6 : Nat → Int32} {g7 : Int32} {g8 : Int64} {g9 : Int32} {g10 : Int32} {g11 : Nat → Int32} {g12 : Int32} {g13 : Int64} {g14 : Int32} {g15 : Int32} {g16 : Nat → Int32} {g17 : Nat → Option (Int64 × Int64 × Int32)} {r0 : Int64} : ∀ (v1 : Int32)  (H : Heap) (locs : List Loc) (ls : Array Slot), va_P D CLS (wT a q L R g0 g1 g2 g3 g4 g5 g6 g7 g8 g9 g10 g11 g12 g13 g14 g15 g16) H → va_D A (wT a q L R g0 g1 g2 g3 g4 g5 g6 g7 g8 g9 g10 g11 g12 g13 g14 g15 g16) → va_S A s.heap H locs → tapeC D (dT a) g3 g17 H → lv_has ls 4 [(0, .ref (a 0)), (1, .int v1)] → f_Tape_lower_0  v1 g1 g17 = some r0 → W p l e rm_Tape_lower s m args below meth c H locs 0 0 (MQ below (va_Ql (fun (r : Int64) (_ : Unit) => r = r0) (fun _ t => va_P D CLS (wT a q L R g0 g1 g2 g3 g4 g5 g6 g7 g8 g9 g10 g11 g12 g13 g14 g15 g16) t.heap ∧ tapeC D (dT a) g3 g17 t.heap) A) args s 0 0 A) (F0 m 0 ls []) := by
  obtain ⟨hx, hb, hml, hown, hts, hr, hlocks⟩ := id hC
  intro v1 H locs ls hP hD hS hT hl h
  rw [f_Tape_lower_0] at h
  have hSz : s.heap.size ≤ H.size := hS.1
  refine lv_aload_n hx hb (dt_at dt_Tape_lower 0 rfl) rfl (lv_at hl 0 rfl) ?_
  refine lv_iload_n hx hb (dt_at dt_Tape_lower 1 rfl) rfl (lv_at hl 1 rfl) ?_
  obtain ⟨r1, h_r1, h⟩ := ob_of h
  have hPc := hP
  have hDc : va_D A (dT a) := dD (ws' := dT a) hD rfl
  have hKc := hK
  have hF := va_free (wc := dT a) hDc hS hA [0, 1, 2, 3, 4, 5, 6, 7, 8] rfl
  have hd : va_D (fun _ => True) (dT a) := hDc.weaken (fun _ _ _ _ => trivial)
  refine va_calli (va_runV (As := [.int v1]) (rest := []) ⟨hx, hb, hml, hown, hts⟩ (c_Tape_hasInterval l D a q L R hd H.size v1 g0 g1 g2 g3 g4 g5 g6 g7 g8 g9 g10 g11 g12 g13 g14 g15 g16 g17   r1 h_r1) (cwV 1 hts (gd_V (m_1 115 rfl rfl) (m_1 117 rfl rfl) (m_s 0 rfl rfl) (m_1 1 rfl rfl) (m_1 118 rfl rfl)) rfl rfl rfl (by decide +kernel) ⟨Nat.le_of_ble_eq_true rfl, Nat.le_of_ble_eq_true rfl⟩) ⟨fun a U g mk q => ⟨q.1, q.2.1, q.2.2.1, va_K.moved (u := U) (U := U.calling g mk a) (Vm.Alike.refl U.vm) q.2.2.2.1, q.2.2.2.2⟩, va_recv hK hP (ci := 1) (q0 := 0) rfl rfl, fun U hU hW => ⟨rfl, by rw [hU], by rw [hU]; exact hPc, va_K.moved hW.alike hKc, by rw [hU]; exact hT⟩⟩ rfl rfl hl.1 rfl (lv_room (Nat.le_of_ble_eq_true rfl)) (dt_at dt_Tape_lower 2 rfl) ⟨Nat.le_of_ble_eq_true rfl, Nat.le_of_ble_eq_true rfl⟩) hS (fun x _ h9 => hF x h9) hF (fun u_r1 uu t H1 locs ht hvm hw hB hz1 hk1 hS => ?_)
  obtain rfl : r1 = u_r1 := hw.symm
  obtain ⟨hB, hT⟩ := hB
  rw [ht] at hT
  rw [ht] at hB
  have hP : va_P D CLS (wT a q L R g0 g1 g2 g3 g4 g5 g6 g7 g8 g9 g10 g11 g12 g13 g14 g15 g16) H1 := hB
  have hD : va_D A (wT a q L R g0 g1 g2 g3 g4 g5 g6 g7 g8 g9 g10 g11 g12 g13 g14 g15 g16) := dD hD rfl
  have hSz : s.heap.size ≤ H1.size := hS.1
  clear hk1 hz1 hPc hF hB ht
  generalize H1 = H at hP hS hSz  hT ⊢
  refine lv_if_ne (tgt := 12) hx hb (dt_at dt_Tape_lower 3 rfl) (by decide) (fun c2 => ?_) (fun c2 => ?_)
  · have h := if_n h c2
    refine lv_aload_n hx hb (dt_at dt_Tape_lower 6 rfl) rfl (lv_at hl 0 rfl) ?_
    refine va_get (D := D) (ci := 1) (v := .ref (a 2)) (C := "OutwardTape") (T := T_Tape) (N := 5) hx hb hts in_Tape hown hK hP 0 rfl rfl 2 (by decide) (hts (Cond.fieldLink "OutwardTape" 19 "OutwardTape" "cells" "[LOutwardTape$Cell;") (m_1 81 rfl rfl)) (fun _ h9 => h9) rfl (dt_at dt_Tape_lower 7 rfl) ?_
    refine lv_iload_n hx hb (dt_at dt_Tape_lower 8 rfl) rfl (lv_at hl 1 rfl) ?_
    obtain ⟨z4, h⟩ := og_of h
    obtain ⟨o3, h_o3, h⟩ := ob_of h
    obtain ⟨y_o3, hy_o3, hc_o3, hn_o3⟩ := hT _ _ h_o3
    refine ld_ref hx hb hK hP 2 1 rfl rfl z4 hy_o3 (dt_at dt_Tape_lower 9 rfl) ?_
    skip
    refine va_get (D := D) (ci := 4) (v := .long o3.1) (C := "OutwardTape$Cell") (T := T_Cell) (N := 3) hx hb hts in_Cell hown hK hc_o3 0 rfl rfl 0 (by decide) (hts (Cond.fieldLink "OutwardTape" 105 "OutwardTape$Cell" "low" "J") (m_2 123 rfl rfl)) (fun _ h9 => h9) rfl (dt_at dt_Tape_lower 10 rfl) ?_
    obtain ⟨t5, e_t5, h⟩ := ol_of h
    refine lv_topl (fun u_t5 q_t5 => ?_)
    obtain rfl : t5 = u_t5 := e_t5.trans q_t5.symm
    refine lv_lstore_n (lv' := [(2, .long t5), (0, .ref (a 0)), (1, .int v1)]) hx hb (dt_at dt_Tape_lower 11 rfl) rfl hl (by decide) rfl (fun ls hl => ?_)
    refine lv_lload_n hx hb (dt_at dt_Tape_lower 12 rfl) rfl (lv_at hl 0 rfl) ?_
    refine lv_lconst (v := 0) hx hb (dt_at dt_Tape_lower 13 rfl) (by decide) ?_
    refine lc_ne (tgt := 34) hx hb (dt_at dt_Tape_lower 14 rfl) (dt_at dt_Tape_lower 15 rfl) (by decide) (fun c6 => ?_) (fun c6 => ?_)
    · have h := if_n h c6
      refine lv_lload_n hx hb (dt_at dt_Tape_lower 18 rfl) rfl (lv_at hl 0 rfl) ?_
      obtain ⟨r7, h_r7, h⟩ := ob_of h
      refine vp_callSl (W.runS (As := [.long t5]) (rest := []) ⟨hx, hb, hml, hown, hts⟩ (c_Rank_toBits l t5 r7 h_r7) (va_cwS 1 hts (gd_S (m_1 133 rfl rfl) (m_1 134 rfl rfl) (m_1 15 rfl rfl) (m_1 135 rfl rfl)) rfl rfl rfl (by decide +kernel) ⟨Nat.le_of_ble_eq_true rfl, Nat.le_of_ble_eq_true rfl⟩) ⟨fun _ _ _ _ q => q, fun U hU hW => ⟨rfl, trivial⟩⟩ rfl rfl hl.1 rfl (lv_room (Nat.le_of_ble_eq_true rfl)) (dt_at dt_Tape_lower 19 rfl) ⟨Nat.le_of_ble_eq_true rfl, Nat.le_of_ble_eq_true rfl⟩) (fun u_r7 q_r7 => ?_)
      obtain rfl : r7 = u_r7 := q_r7.symm
      exact k_Tape_lower_38 hC hA hK   r7 H locs ls hP hD hS hT  (lv_sub hl [] rfl) h
    · have h := if_p h c6
      refine lv_ldc2 (v := -9223372036854775808) hx hb hown (hts (Cond.constantLong "OutwardTape" 109 (-9223372036854775808)) (m_1 132 rfl rfl)) (dt_at dt_Tape_lower 16 rfl) ?_
      refine lv_goto (tgt := 38) hx hb (dt_at dt_Tape_lower 17 rfl) (by decide) ?_
      exact k_Tape_lower_38 hC hA hK   (-9223372036854775808 : Int64) H locs ls hP hD hS hT  (lv_sub hl [] rfl) h
  · have h := if_p h c2
    refine lv_ldc2 (v := 9221120237041090560) hx hb hown (hts (Cond.constantLong "OutwardTape" 103 (9221120237041090560)) (m_1 131 rfl rfl)) (dt_at dt_Tape_lower 4 rfl) ?_
    obtain rfl := os_of h
    exact W.lret (v := (9221120237041090560 : Int64)) hx hb hr (fun t ht hW => ⟨⟨_, (), rfl, rfl, ⟨(hPt hP ht), hT.t ht⟩⟩, hS.F ht⟩) hS.2.2 (dt_at dt_Tape_lower 5 rfl)
set_option maxRecDepth 100000 in
set_option maxHeartbeats 4000000 in
theorem c_Tape_lower (l : Launch) (D : va_G) (a : Nat → Nat) (q : Nat → ClassId) (L : Nat) (R : Nat) (hd : va_D (fun _ => True) (dT a)) (sz : Nat) (a1 : Int32) (g0 : Int32) (g1 : Int32) (g2 : Nat → Int32) (g3 : Nat → Option Nat) (g4 : Int32) (g5 : Int32) (g6 : Nat → Int32) (g7 : Int32) (g8 : Int64) (g9 : Int32) (g10 : Int32) (g11 : Nat → Int32) (g12 : Int32) (g13 : Int64) (g14 : Int32) (g15 : Int32) (g16 : Nat → Int32) (g17 : Nat → Option (Int64 × Int64 × Int32))   (r0 : Int64) (h : f_Tape_lower a1 g1 g17 = some r0) : Met l (⟨"OutwardTape", "lower", "(I)J"⟩ : MethodName) (WSm (⟨"OutwardTape", "lower", "(I)J"⟩ : MethodName) prog_1_method_12_code 4 (some .long)) rm_Tape_lower (va_Pc [.ref (a 0), .int a1] (fun U => U.heap.size = sz ∧ va_P D CLS (wT a q L R g0 g1 g2 g3 g4 g5 g6 g7 g8 g9 g10 g11 g12 g13 g14 g15 g16) U.heap ∧ va_K D CLS (tT q) U ∧ tapeC D (dT a) g3 g17 U.heap)) (va_Ql (fun (r : Int64) (_ : Unit) => r = r0) (fun _ t => va_P D CLS (wT a q L R g0 g1 g2 g3 g4 g5 g6 g7 g8 g9 g10 g11 g12 g13 g14 g15 g16) t.heap ∧ tapeC D (dT a) g3 g17 t.heap) (va_A (dT a) sz)) 0 0 (va_A (dT a) sz) := by
  refine Met.ofW (cc := prog_1_method_12_code) (maxL := 4) (ret := (some .long)) (by decide) rfl ?_
  intro p e s m args below meth c s₁ B hml hv
  obtain ⟨rfl, hsz, hP, hK, hT⟩ := hv
  subst hsz
  have hC := CX.of B hml rfl
  have hl := lv_entry [.ref (a 0), .int a1] (n := 4) (Nat.le_of_ble_eq_true rfl)
  rw [lg_entry_eq]
  generalize (lg_sl [.ref (a 0), .int a1] ++ List.replicate (4 - (lg_sl [.ref (a 0), .int a1]).length) Slot.unset).toArray = ls at hl ⊢
  have hl : lv_has ls 4 [(0, .ref (a 0)), (1, .int a1)] := hl
  exact k_Tape_lower_0  hC (fun x h => Or.inr h) hK a1    s.heap [] ls hP (dD hd.self rfl) va_S.rf hT  (lv_sub hl [0, 1] rfl) h
abbrev rm_Tape_upper : Room := { frames := 2, cells := 0, slots := 0, locals := 42 }
set_option maxRecDepth 100000 in
set_option maxHeartbeats 4000000 in
theorem k_Tape_upper_26 {p : Program} {l : Launch} {e : Env} {s : State} {m : MethodId} {args : Array Value} {below : List Frame} {meth : Method} {c : Code} {D : va_G} {a : Nat → Nat} {q : Nat → ClassId} {L : Nat} {R : Nat} {A : Nat → Prop} (hC : CX p s m args meth c prog_1_method_13_code 2 "OutwardTape" (some .long)) (hA : ∀ x, s.heap.size ≤ x → A x) (hK : va_K D CLS (tT q) s) {g0 : Int32} {g1 : Int32} {g2 : Nat → Int32} {g3 : Nat → Option Nat} {g4 : Int32} {g5 : Int32} {g6 : Nat → Int32} {g7 : Int32} {g8 : Int64} {g9 : Int32} {g10 : Int32} {g11 : Nat → Int32} {g12 : Int32} {g13 : Int64} {g14 : Int32} {g15 : Int32} {g16 : Nat → Int32} {g17 : Nat → Option (Int64 × Int64 × Int32)} {r0 : Int64} : ∀ (s0 : Int64)  (H : Heap) (locs : List Loc) (ls : Array Slot), va_P D CLS (wT a q L R g0 g1 g2 g3 g4 g5 g6 g7 g8 g9 g10 g11 g12 g13 g14 g15 g16) H → va_D A (wT a q L R g0 g1 g2 g3 g4 g5 g6 g7 g8 g9 g10 g11 g12 g13 g14 g15 g16) → va_S A s.heap H locs → tapeC D (dT a) g3 g17 H → lv_has ls 2 [] → f_Tape_upper_26  s0 g1 g17 = some r0 → W p l e rm_Tape_upper s m args below meth c H locs 0 0 (MQ below (va_Ql (fun (r : Int64) (_ : Unit) => r = r0) (fun _ t => va_P D CLS (wT a q L R g0 g1 g2 g3 g4 g5 g6 g7 g8 g9 g10 g11 g12 g13 g14 g15 g16) t.heap ∧ tapeC D (dT a) g3 g17 t.heap) A) args s 0 0 A) (F0 m 26 ls [.long s0]) := by
  obtain ⟨hx, hb, hml, hown, hts, hr, hlocks⟩ := id hC
  intro s0 H locs ls hP hD hS hT hl h
  rw [f_Tape_upper_26] at h
  have hSz : s.heap.size ≤ H.size := hS.1
  obtain rfl := os_of h
  exact W.lret (v := s0) hx hb hr (fun t ht hW => ⟨⟨_, (), rfl, rfl, ⟨(hPt hP ht), hT.t ht⟩⟩, hS.F ht⟩) hS.2.2 (dt_at dt_Tape_upper 12 rfl)
set_option maxRecDepth 100000 in
set_option maxHeartbeats 4000000 in
theorem k_Tape_upper_0 {p : Program} {l : Launch} {e : Env} {s : State} {m : MethodId} {args : Array Value} {below : List Frame} {meth : Method} {c : Code} {D : va_G} {a : Nat → Nat} {q : Nat → ClassId} {L : Nat} {R : Nat} {A : Nat → Prop} (hC : CX p s m args meth c prog_1_method_13_code 2 "OutwardTape" (some .long)) (hA : ∀ x, s.heap.size ≤ x → A x) (hK : va_K D CLS (tT q) s) {g0 : Int32} {g1 : Int32} {g2 : Nat → Int32} {g3 : Nat → Option Nat} {g4 : Int32} {g5 : Int32} {g6 : Nat → Int32} {g7 : Int32} {g8 : Int64} {g9 : Int32} {g10 : Int32} {g11 : Nat → Int32} {g12 : Int32} {g13 : Int64} {g14 : Int32} {g15 : Int32} {g16 : Nat → Int32} {g17 : Nat → Option (Int64 × Int64 × Int32)} {r0 : Int64} : ∀ (v1 : Int32)  (H : Heap) (locs : List Loc) (ls : Array Slot), va_P D CLS (wT a q L R g0 g1 g2 g3 g4 g5 g6 g7 g8 g9 g10 g11 g12 g13 g14 g15 g16) H → va_D A (wT a q L R g0 g1 g2 g3 g4 g5 g6 g7 g8 g9 g10 g11 g12 g13 g14 g15 g16) → va_S A s.heap H locs → tapeC D (dT a) g3 g17 H → lv_has ls 2 [(0, .ref (a 0)), (1, .int v1)] → f_Tape_upper_0  v1 g1 g17 = some r0 → W p l e rm_Tape_upper s m args below meth c H locs 0 0 (MQ below (va_Ql (fun (r : Int64) (_ : Unit) => r = r0) (fun _ t => va_P D CLS (wT a q L R g0 g1 g2 g3 g4 g5 g6 g7 g8 g9 g10 g11 g12 g13 g14 g15 g16) t.heap ∧ tapeC D (dT a) g3 g17 t.heap) A) args s 0 0 A) (F0 m 0 ls []) := by
  obtain ⟨hx, hb, hml, hown, hts, hr, hlocks⟩ := id hC
  intro v1 H locs ls hP hD hS hT hl h
  rw [f_Tape_upper_0] at h
  have hSz : s.heap.size ≤ H.size := hS.1
  refine lv_aload_n hx hb (dt_at dt_Tape_upper 0 rfl) rfl (lv_at hl 0 rfl) ?_
  refine lv_iload_n hx hb (dt_at dt_Tape_upper 1 rfl) rfl (lv_at hl 1 rfl) ?_
  obtain ⟨r1, h_r1, h⟩ := ob_of h
  have hPc := hP
  have hDc : va_D A (dT a) := dD (ws' := dT a) hD rfl
  have hKc := hK
  have hF := va_free (wc := dT a) hDc hS hA [0, 1, 2, 3, 4, 5, 6, 7, 8] rfl
  have hd : va_D (fun _ => True) (dT a) := hDc.weaken (fun _ _ _ _ => trivial)
  refine va_calli (va_runV (As := [.int v1]) (rest := []) ⟨hx, hb, hml, hown, hts⟩ (c_Tape_hasInterval l D a q L R hd H.size v1 g0 g1 g2 g3 g4 g5 g6 g7 g8 g9 g10 g11 g12 g13 g14 g15 g16 g17   r1 h_r1) (cwV 1 hts (gd_V (m_1 115 rfl rfl) (m_1 117 rfl rfl) (m_s 0 rfl rfl) (m_1 1 rfl rfl) (m_1 118 rfl rfl)) rfl rfl rfl (by decide +kernel) ⟨Nat.le_of_ble_eq_true rfl, Nat.le_of_ble_eq_true rfl⟩) ⟨fun a U g mk q => ⟨q.1, q.2.1, q.2.2.1, va_K.moved (u := U) (U := U.calling g mk a) (Vm.Alike.refl U.vm) q.2.2.2.1, q.2.2.2.2⟩, va_recv hK hP (ci := 1) (q0 := 0) rfl rfl, fun U hU hW => ⟨rfl, by rw [hU], by rw [hU]; exact hPc, va_K.moved hW.alike hKc, by rw [hU]; exact hT⟩⟩ rfl rfl hl.1 rfl (lv_room (Nat.le_of_ble_eq_true rfl)) (dt_at dt_Tape_upper 2 rfl) ⟨Nat.le_of_ble_eq_true rfl, Nat.le_of_ble_eq_true rfl⟩) hS (fun x _ h9 => hF x h9) hF (fun u_r1 uu t H1 locs ht hvm hw hB hz1 hk1 hS => ?_)
  obtain rfl : r1 = u_r1 := hw.symm
  obtain ⟨hB, hT⟩ := hB
  rw [ht] at hT
  rw [ht] at hB
  have hP : va_P D CLS (wT a q L R g0 g1 g2 g3 g4 g5 g6 g7 g8 g9 g10 g11 g12 g13 g14 g15 g16) H1 := hB
  have hD : va_D A (wT a q L R g0 g1 g2 g3 g4 g5 g6 g7 g8 g9 g10 g11 g12 g13 g14 g15 g16) := dD hD rfl
  have hSz : s.heap.size ≤ H1.size := hS.1
  clear hk1 hz1 hPc hF hB ht
  generalize H1 = H at hP hS hSz  hT ⊢
  refine lv_if_eq (tgt := 23) hx hb (dt_at dt_Tape_upper 3 rfl) (by decide) (fun c2 => ?_) (fun c2 => ?_)
  · have h := if_p h c2
    refine lv_ldc2 (v := 9221120237041090560) hx hb hown (hts (Cond.constantLong "OutwardTape" 103 (9221120237041090560)) (m_1 131 rfl rfl)) (dt_at dt_Tape_upper 11 rfl) ?_
    exact k_Tape_upper_26 hC hA hK   (9221120237041090560 : Int64) H locs ls hP hD hS hT  (lv_sub hl [] rfl) h
  · have h := if_n h c2
    refine lv_aload_n hx hb (dt_at dt_Tape_upper 4 rfl) rfl (lv_at hl 0 rfl) ?_
    refine va_get (D := D) (ci := 1) (v := .ref (a 2)) (C := "OutwardTape") (T := T_Tape) (N := 5) hx hb hts in_Tape hown hK hP 0 rfl rfl 2 (by decide) (hts (Cond.fieldLink "OutwardTape" 19 "OutwardTape" "cells" "[LOutwardTape$Cell;") (m_1 81 rfl rfl)) (fun _ h9 => h9) rfl (dt_at dt_Tape_upper 5 rfl) ?_
    refine lv_iload_n hx hb (dt_at dt_Tape_upper 6 rfl) rfl (lv_at hl 1 rfl) ?_
    obtain ⟨z4, h⟩ := og_of h
    obtain ⟨o3, h_o3, h⟩ := ob_of h
    obtain ⟨y_o3, hy_o3, hc_o3, hn_o3⟩ := hT _ _ h_o3
    refine ld_ref hx hb hK hP 2 1 rfl rfl z4 hy_o3 (dt_at dt_Tape_upper 7 rfl) ?_
    skip
    refine va_get (D := D) (ci := 4) (v := .long o3.2.1) (C := "OutwardTape$Cell") (T := T_Cell) (N := 3) hx hb hts in_Cell hown hK hc_o3 0 rfl rfl 1 (by decide) (hts (Cond.fieldLink "OutwardTape" 114 "OutwardTape$Cell" "high" "J") (m_2 130 rfl rfl)) (fun _ h9 => h9) rfl (dt_at dt_Tape_upper 8 rfl) ?_
    obtain ⟨r5, h_r5, h⟩ := ob_of h
    refine vp_callSl (W.runS (As := [.long o3.2.1]) (rest := []) ⟨hx, hb, hml, hown, hts⟩ (c_Rank_toBits l o3.2.1 r5 h_r5) (va_cwS 1 hts (gd_S (m_1 133 rfl rfl) (m_1 134 rfl rfl) (m_1 15 rfl rfl) (m_1 135 rfl rfl)) rfl rfl rfl (by decide +kernel) ⟨Nat.le_of_ble_eq_true rfl, Nat.le_of_ble_eq_true rfl⟩) ⟨fun _ _ _ _ q => q, fun U hU hW => ⟨rfl, trivial⟩⟩ rfl rfl hl.1 rfl (lv_room (Nat.le_of_ble_eq_true rfl)) (dt_at dt_Tape_upper 9 rfl) ⟨Nat.le_of_ble_eq_true rfl, Nat.le_of_ble_eq_true rfl⟩) (fun u_r5 q_r5 => ?_)
    obtain rfl : r5 = u_r5 := q_r5.symm
    refine lv_goto (tgt := 26) hx hb (dt_at dt_Tape_upper 10 rfl) (by decide) ?_
    exact k_Tape_upper_26 hC hA hK   r5 H locs ls hP hD hS hT  (lv_sub hl [] rfl) h
set_option maxRecDepth 100000 in
set_option maxHeartbeats 4000000 in
theorem c_Tape_upper (l : Launch) (D : va_G) (a : Nat → Nat) (q : Nat → ClassId) (L : Nat) (R : Nat) (hd : va_D (fun _ => True) (dT a)) (sz : Nat) (a1 : Int32) (g0 : Int32) (g1 : Int32) (g2 : Nat → Int32) (g3 : Nat → Option Nat) (g4 : Int32) (g5 : Int32) (g6 : Nat → Int32) (g7 : Int32) (g8 : Int64) (g9 : Int32) (g10 : Int32) (g11 : Nat → Int32) (g12 : Int32) (g13 : Int64) (g14 : Int32) (g15 : Int32) (g16 : Nat → Int32) (g17 : Nat → Option (Int64 × Int64 × Int32))   (r0 : Int64) (h : f_Tape_upper a1 g1 g17 = some r0) : Met l (⟨"OutwardTape", "upper", "(I)J"⟩ : MethodName) (WSm (⟨"OutwardTape", "upper", "(I)J"⟩ : MethodName) prog_1_method_13_code 2 (some .long)) rm_Tape_upper (va_Pc [.ref (a 0), .int a1] (fun U => U.heap.size = sz ∧ va_P D CLS (wT a q L R g0 g1 g2 g3 g4 g5 g6 g7 g8 g9 g10 g11 g12 g13 g14 g15 g16) U.heap ∧ va_K D CLS (tT q) U ∧ tapeC D (dT a) g3 g17 U.heap)) (va_Ql (fun (r : Int64) (_ : Unit) => r = r0) (fun _ t => va_P D CLS (wT a q L R g0 g1 g2 g3 g4 g5 g6 g7 g8 g9 g10 g11 g12 g13 g14 g15 g16) t.heap ∧ tapeC D (dT a) g3 g17 t.heap) (va_A (dT a) sz)) 0 0 (va_A (dT a) sz) := by
  refine Met.ofW (cc := prog_1_method_13_code) (maxL := 2) (ret := (some .long)) (by decide) rfl ?_
  intro p e s m args below meth c s₁ B hml hv
  obtain ⟨rfl, hsz, hP, hK, hT⟩ := hv
  subst hsz
  have hC := CX.of B hml rfl
  have hl := lv_entry [.ref (a 0), .int a1] (n := 2) (Nat.le_of_ble_eq_true rfl)
  rw [lg_entry_eq]
  generalize (lg_sl [.ref (a 0), .int a1] ++ List.replicate (2 - (lg_sl [.ref (a 0), .int a1]).length) Slot.unset).toArray = ls at hl ⊢
  have hl : lv_has ls 2 [(0, .ref (a 0)), (1, .int a1)] := hl
  exact k_Tape_upper_0  hC (fun x h => Or.inr h) hK a1    s.heap [] ls hP (dD hd.self rfl) va_S.rf hT  (lv_sub hl [0, 1] rfl) h
abbrev rm_Tape_relation : Room := { frames := 3, cells := 0, slots := 0, locals := 68 }
set_option maxRecDepth 100000 in
set_option maxHeartbeats 4000000 in
theorem k_Tape_relation_40 {p : Program} {l : Launch} {e : Env} {s : State} {m : MethodId} {args : Array Value} {below : List Frame} {meth : Method} {c : Code} {D : va_G} {a : Nat → Nat} {q : Nat → ClassId} {L : Nat} {R : Nat} {A : Nat → Prop} (hC : CX p s m args meth c prog_1_method_14_code 4 "OutwardTape" (some .boolean)) (hA : ∀ x, s.heap.size ≤ x → A x) (hK : va_K D CLS (tT q) s) {g0 : Int32} {g1 : Int32} {g2 : Nat → Int32} {g3 : Nat → Option Nat} {g4 : Int32} {g5 : Int32} {g6 : Nat → Int32} {g7 : Int32} {g8 : Int64} {g9 : Int32} {g10 : Int32} {g11 : Nat → Int32} {g12 : Int32} {g13 : Int64} {g14 : Int32} {g15 : Int32} {g16 : Nat → Int32} {g17 : Nat → Option (Int64 × Int64 × Int32)} {r0 : Int32} : ∀ (s0 : Int32)  (H : Heap) (locs : List Loc) (ls : Array Slot), va_P D CLS (wT a q L R g0 g1 g2 g3 g4 g5 g6 g7 g8 g9 g10 g11 g12 g13 g14 g15 g16) H → va_D A (wT a q L R g0 g1 g2 g3 g4 g5 g6 g7 g8 g9 g10 g11 g12 g13 g14 g15 g16) → va_S A s.heap H locs → tapeC D (dT a) g3 g17 H → lv_has ls 4 [] → f_Tape_relation_40  s0 g1 g17 = some r0 → W p l e rm_Tape_relation s m args below meth c H locs 0 0 (MQ below (va_Qi (fun (r : Int32) (_ : Unit) => r = r0) (fun _ t => va_P D CLS (wT a q L R g0 g1 g2 g3 g4 g5 g6 g7 g8 g9 g10 g11 g12 g13 g14 g15 g16) t.heap ∧ tapeC D (dT a) g3 g17 t.heap) A) args s 0 0 A) (F0 m 40 ls [.int s0]) := by
  obtain ⟨hx, hb, hml, hown, hts, hr, hlocks⟩ := id hC
  intro s0 H locs ls hP hD hS hT hl h
  rw [f_Tape_relation_40] at h
  have hSz : s.heap.size ≤ H.size := hS.1
  obtain ⟨hz, h⟩ := og_of h
  obtain rfl := os_of h
  exact W.zret (v := s0) (ty := .boolean) hx hb hr (j_z_nar hz) (fun t ht hW => ⟨⟨_, (), rfl, rfl, ⟨(hPt hP ht), hT.t ht⟩⟩, hS.F ht⟩) hS.2.2 (dt_at dt_Tape_relation 22 rfl)
set_option maxRecDepth 100000 in
set_option maxHeartbeats 4000000 in
theorem k_Tape_relation_39 {p : Program} {l : Launch} {e : Env} {s : State} {m : MethodId} {args : Array Value} {below : List Frame} {meth : Method} {c : Code} {D : va_G} {a : Nat → Nat} {q : Nat → ClassId} {L : Nat} {R : Nat} {A : Nat → Prop} (hC : CX p s m args meth c prog_1_method_14_code 4 "OutwardTape" (some .boolean)) (hA : ∀ x, s.heap.size ≤ x → A x) (hK : va_K D CLS (tT q) s) {g0 : Int32} {g1 : Int32} {g2 : Nat → Int32} {g3 : Nat → Option Nat} {g4 : Int32} {g5 : Int32} {g6 : Nat → Int32} {g7 : Int32} {g8 : Int64} {g9 : Int32} {g10 : Int32} {g11 : Nat → Int32} {g12 : Int32} {g13 : Int64} {g14 : Int32} {g15 : Int32} {g16 : Nat → Int32} {g17 : Nat → Option (Int64 × Int64 × Int32)} {r0 : Int32} : ∀   (H : Heap) (locs : List Loc) (ls : Array Slot), va_P D CLS (wT a q L R g0 g1 g2 g3 g4 g5 g6 g7 g8 g9 g10 g11 g12 g13 g14 g15 g16) H → va_D A (wT a q L R g0 g1 g2 g3 g4 g5 g6 g7 g8 g9 g10 g11 g12 g13 g14 g15 g16) → va_S A s.heap H locs → tapeC D (dT a) g3 g17 H → lv_has ls 4 [] → f_Tape_relation_39  g1 g17 = some r0 → W p l e rm_Tape_relation s m args below meth c H locs 0 0 (MQ below (va_Qi (fun (r : Int32) (_ : Unit) => r = r0) (fun _ t => va_P D CLS (wT a q L R g0 g1 g2 g3 g4 g5 g6 g7 g8 g9 g10 g11 g12 g13 g14 g15 g16) t.heap ∧ tapeC D (dT a) g3 g17 t.heap) A) args s 0 0 A) (F0 m 39 ls []) := by
  obtain ⟨hx, hb, hml, hown, hts, hr, hlocks⟩ := id hC
  intro H locs ls hP hD hS hT hl h
  rw [f_Tape_relation_39] at h
  have hSz : s.heap.size ≤ H.size := hS.1
  refine lv_iconst (v := 0) hx hb (dt_at dt_Tape_relation 21 rfl) (by decide) ?_
  exact k_Tape_relation_40 hC hA hK   (0 : Int32) H locs ls hP hD hS hT  (lv_sub hl [] rfl) h
set_option maxRecDepth 100000 in
set_option maxHeartbeats 4000000 in
theorem k_Tape_relation_0 {p : Program} {l : Launch} {e : Env} {s : State} {m : MethodId} {args : Array Value} {below : List Frame} {meth : Method} {c : Code} {D : va_G} {a : Nat → Nat} {q : Nat → ClassId} {L : Nat} {R : Nat} {A : Nat → Prop} (hC : CX p s m args meth c prog_1_method_14_code 4 "OutwardTape" (some .boolean)) (hA : ∀ x, s.heap.size ≤ x → A x) (hK : va_K D CLS (tT q) s) {g0 : Int32} {g1 : Int32} {g2 : Nat → Int32} {g3 : Nat → Option Nat} {g4 : Int32} {g5 : Int32} {g6 : Nat → Int32} {g7 : Int32} {g8 : Int64} {g9 : Int32} {g10 : Int32} {g11 : Nat → Int32} {g12 : Int32} {g13 : Int64} {g14 : Int32} {g15 : Int32} {g16 : Nat → Int32} {g17 : Nat → Option (Int64 × Int64 × Int32)} {r0 : Int32} : ∀ (v1 : Int32) (v2 : Int32) (v3 : Int32)  (H : Heap) (locs : List Loc) (ls : Array Slot), va_P D CLS (wT a q L R g0 g1 g2 g3 g4 g5 g6 g7 g8 g9 g10 g11 g12 g13 g14 g15 g16) H → va_D A (wT a q L R g0 g1 g2 g3 g4 g5 g6 g7 g8 g9 g10 g11 g12 g13 g14 g15 g16) → va_S A s.heap H locs → tapeC D (dT a) g3 g17 H → lv_has ls 4 [(0, .ref (a 0)), (1, .int v1), (2, .int v2), (3, .int v3)] → f_Tape_relation_0  v1 v2 v3 g1 g17 = some r0 → W p l e rm_Tape_relation s m args below meth c H locs 0 0 (MQ below (va_Qi (fun (r : Int32) (_ : Unit) => r = r0) (fun _ t => va_P D CLS (wT a q L R g0 g1 g2 g3 g4 g5 g6 g7 g8 g9 g10 g11 g12 g13 g14 g15 g16) t.heap ∧ tapeC D (dT a) g3 g17 t.heap) A) args s 0 0 A) (F0 m 0 ls []) := by
  obtain ⟨hx, hb, hml, hown, hts, hr, hlocks⟩ := id hC
  intro v1 v2 v3 H locs ls hP hD hS hT hl h
  rw [f_Tape_relation_0] at h
  have hSz : s.heap.size ≤ H.size := hS.1
  refine lv_aload_n hx hb (dt_at dt_Tape_relation 0 rfl) rfl (lv_at hl 0 rfl) ?_
  refine lv_iload_n hx hb (dt_at dt_Tape_relation 1 rfl) rfl (lv_at hl 2 rfl) ?_
  obtain ⟨r1, h_r1, h⟩ := ob_of h
  have hPc := hP
  have hDc : va_D A (dT a) := dD (ws' := dT a) hD rfl
  have hKc := hK
  have hF := va_free (wc := dT a) hDc hS hA [0, 1, 2, 3, 4, 5, 6, 7, 8] rfl
  have hd : va_D (fun _ => True) (dT a) := hDc.weaken (fun _ _ _ _ => trivial)
  refine va_calli (va_runV (As := [.int v2]) (rest := []) ⟨hx, hb, hml, hown, hts⟩ (c_Tape_hasInterval l D a q L R hd H.size v2 g0 g1 g2 g3 g4 g5 g6 g7 g8 g9 g10 g11 g12 g13 g14 g15 g16 g17   r1 h_r1) (cwV 1 hts (gd_V (m_1 115 rfl rfl) (m_1 117 rfl rfl) (m_s 0 rfl rfl) (m_1 1 rfl rfl) (m_1 118 rfl rfl)) rfl rfl rfl (by decide +kernel) ⟨Nat.le_of_ble_eq_true rfl, Nat.le_of_ble_eq_true rfl⟩) ⟨fun a U g mk q => ⟨q.1, q.2.1, q.2.2.1, va_K.moved (u := U) (U := U.calling g mk a) (Vm.Alike.refl U.vm) q.2.2.2.1, q.2.2.2.2⟩, va_recv hK hP (ci := 1) (q0 := 0) rfl rfl, fun U hU hW => ⟨rfl, by rw [hU], by rw [hU]; exact hPc, va_K.moved hW.alike hKc, by rw [hU]; exact hT⟩⟩ rfl rfl hl.1 rfl (lv_room (Nat.le_of_ble_eq_true rfl)) (dt_at dt_Tape_relation 2 rfl) ⟨Nat.le_of_ble_eq_true rfl, Nat.le_of_ble_eq_true rfl⟩) hS (fun x _ h9 => hF x h9) hF (fun u_r1 uu t H1 locs ht hvm hw hB hz1 hk1 hS => ?_)
  obtain rfl : r1 = u_r1 := hw.symm
  obtain ⟨hB, hT⟩ := hB
  rw [ht] at hT
  rw [ht] at hB
  have hP : va_P D CLS (wT a q L R g0 g1 g2 g3 g4 g5 g6 g7 g8 g9 g10 g11 g12 g13 g14 g15 g16) H1 := hB
  have hD : va_D A (wT a q L R g0 g1 g2 g3 g4 g5 g6 g7 g8 g9 g10 g11 g12 g13 g14 g15 g16) := dD hD rfl
  have hSz : s.heap.size ≤ H1.size := hS.1
  clear hk1 hz1 hPc hF hB ht
  generalize H1 = H at hP hS hSz  hT ⊢
  refine lv_if_eq (tgt := 39) hx hb (dt_at dt_Tape_relation 3 rfl) (by decide) (fun c2 => ?_) (fun c2 => ?_)
  · have h := if_p h c2
    exact k_Tape_relation_39 hC hA hK   H locs ls hP hD hS hT  (lv_sub hl [] rfl) h
  · have h := if_n h c2
    refine lv_aload_n hx hb (dt_at dt_Tape_relation 4 rfl) rfl (lv_at hl 0 rfl) ?_
    refine lv_iload_n hx hb (dt_at dt_Tape_relation 5 rfl) rfl (lv_at hl 3 rfl) ?_
    obtain ⟨r3, h_r3, h⟩ := ob_of h
    have hPc := hP
    have hDc : va_D A (dT a) := dD (ws' := dT a) hD rfl
    have hKc := hK
    have hF := va_free (wc := dT a) hDc hS hA [0, 1, 2, 3, 4, 5, 6, 7, 8] rfl
    have hd : va_D (fun _ => True) (dT a) := hDc.weaken (fun _ _ _ _ => trivial)
    refine va_calli (va_runV (As := [.int v3]) (rest := []) ⟨hx, hb, hml, hown, hts⟩ (c_Tape_hasInterval l D a q L R hd H.size v3 g0 g1 g2 g3 g4 g5 g6 g7 g8 g9 g10 g11 g12 g13 g14 g15 g16 g17   r3 h_r3) (cwV 1 hts (gd_V (m_1 115 rfl rfl) (m_1 117 rfl rfl) (m_s 0 rfl rfl) (m_1 1 rfl rfl) (m_1 118 rfl rfl)) rfl rfl rfl (by decide +kernel) ⟨Nat.le_of_ble_eq_true rfl, Nat.le_of_ble_eq_true rfl⟩) ⟨fun a U g mk q => ⟨q.1, q.2.1, q.2.2.1, va_K.moved (u := U) (U := U.calling g mk a) (Vm.Alike.refl U.vm) q.2.2.2.1, q.2.2.2.2⟩, va_recv hK hP (ci := 1) (q0 := 0) rfl rfl, fun U hU hW => ⟨rfl, by rw [hU], by rw [hU]; exact hPc, va_K.moved hW.alike hKc, by rw [hU]; exact hT⟩⟩ rfl rfl hl.1 rfl (lv_room (Nat.le_of_ble_eq_true rfl)) (dt_at dt_Tape_relation 6 rfl) ⟨Nat.le_of_ble_eq_true rfl, Nat.le_of_ble_eq_true rfl⟩) hS (fun x _ h9 => hF x h9) hF (fun u_r3 uu t H1 locs ht hvm hw hB hz1 hk1 hS => ?_)
    obtain rfl : r3 = u_r3 := hw.symm
    obtain ⟨hB, hT⟩ := hB
    rw [ht] at hT
    rw [ht] at hB
    have hP : va_P D CLS (wT a q L R g0 g1 g2 g3 g4 g5 g6 g7 g8 g9 g10 g11 g12 g13 g14 g15 g16) H1 := hB
    have hD : va_D A (wT a q L R g0 g1 g2 g3 g4 g5 g6 g7 g8 g9 g10 g11 g12 g13 g14 g15 g16) := dD hD rfl
    have hSz : s.heap.size ≤ H1.size := hS.1
    clear hk1 hz1 hPc hF hB ht
    generalize H1 = H at hP hS hSz  hT ⊢
    refine lv_if_eq (tgt := 39) hx hb (dt_at dt_Tape_relation 7 rfl) (by decide) (fun c4 => ?_) (fun c4 => ?_)
    · have h := if_p h c4
      exact k_Tape_relation_39 hC hA hK   H locs ls hP hD hS hT  (lv_sub hl [] rfl) h
    · have h := if_n h c4
      refine lv_iload_n hx hb (dt_at dt_Tape_relation 8 rfl) rfl (lv_at hl 1 rfl) ?_
      refine lv_aload_n hx hb (dt_at dt_Tape_relation 9 rfl) rfl (lv_at hl 0 rfl) ?_
      refine va_get (D := D) (ci := 1) (v := .ref (a 2)) (C := "OutwardTape") (T := T_Tape) (N := 5) hx hb hts in_Tape hown hK hP 0 rfl rfl 2 (by decide) (hts (Cond.fieldLink "OutwardTape" 19 "OutwardTape" "cells" "[LOutwardTape$Cell;") (m_1 81 rfl rfl)) (fun _ h9 => h9) rfl (dt_at dt_Tape_relation 10 rfl) ?_
      refine lv_iload_n hx hb (dt_at dt_Tape_relation 11 rfl) rfl (lv_at hl 2 rfl) ?_
      obtain ⟨z6, h⟩ := og_of h
      obtain ⟨o5, h_o5, h⟩ := ob_of h
      obtain ⟨y_o5, hy_o5, hc_o5, hn_o5⟩ := hT _ _ h_o5
      refine ld_ref hx hb hK hP 2 1 rfl rfl z6 hy_o5 (dt_at dt_Tape_relation 12 rfl) ?_
      skip
      refine lv_aload_n hx hb (dt_at dt_Tape_relation 13 rfl) rfl (lv_at hl 0 rfl) ?_
      refine va_get (D := D) (ci := 1) (v := .ref (a 2)) (C := "OutwardTape") (T := T_Tape) (N := 5) hx hb hts in_Tape hown hK hP 0 rfl rfl 2 (by decide) (hts (Cond.fieldLink "OutwardTape" 19 "OutwardTape" "cells" "[LOutwardTape$Cell;") (m_1 81 rfl rfl)) (fun _ h9 => h9) rfl (dt_at dt_Tape_relation 14 rfl) ?_
      refine lv_iload_n hx hb (dt_at dt_Tape_relation 15 rfl) rfl (lv_at hl 3 rfl) ?_
      obtain ⟨z8, h⟩ := og_of h
      obtain ⟨o7, h_o7, h⟩ := ob_of h
      obtain ⟨y_o7, hy_o7, hc_o7, hn_o7⟩ := hT _ _ h_o7
      refine ld_ref hx hb hK hP 2 1 rfl rfl z8 hy_o7 (dt_at dt_Tape_relation 16 rfl) ?_
      skip
      obtain ⟨r9, h_r9, h⟩ := ob_of h
      have hPc : va_P D CLS (wE a q) H := fun k q h => by simp [wE] at h
      have hd : va_D (fun _ => True) (dE a) := dE_D a
      have hKc : va_K D CLS (tE q) s := hK.sub (tys' := []) [] rfl
      have hF : ∀ x, va_A (dE a) H.size x → A x := fun x h9 => h9.elim (fun ⟨k, e, h⟩ => by simp [dE] at h) (fun g => hA _ (Nat.le_trans hS.1 g))
      refine va_calli (va_runS (As := [.int v1, .ref y_o5, .ref y_o7]) (rest := []) ⟨hx, hb, hml, hown, hts⟩ (c_Rel_holds l D a q  hd H.size v1 o5.1 o5.2.1 o5.2.2 o7.1 o7.2.1 o7.2.2  y_o5 y_o7 (nin_E a y_o5) (nin_E a y_o7) r9 h_r9) (va_cwS 3 hts (gd_S (m_1 145 rfl rfl) (m_1 146 rfl rfl) (m_1 22 rfl rfl) (m_1 147 rfl rfl)) rfl rfl rfl (by decide +kernel) ⟨Nat.le_of_ble_eq_true rfl, Nat.le_of_ble_eq_true rfl⟩) ⟨fun a U g mk q => ⟨q.1, q.2.1, q.2.2.1, va_K.moved (u := U) (U := U.calling g mk a) (Vm.Alike.refl U.vm) q.2.2.2.1, q.2.2.2.2.1, q.2.2.2.2.2⟩, fun U hU hW => ⟨rfl, by rw [hU], by rw [hU]; exact hPc, va_K.moved hW.alike hKc, by rw [hU]; exact hc_o5, by rw [hU]; exact hc_o7⟩⟩ rfl rfl hl.1 rfl (lv_room (Nat.le_of_ble_eq_true rfl)) (dt_at dt_Tape_relation 17 rfl) ⟨Nat.le_of_ble_eq_true rfl, Nat.le_of_ble_eq_true rfl⟩) hS (fun x _ h9 => hF x h9) hF (fun u_r9 uu t H1 locs ht hvm hw hB hz1 hk1 hS => ?_)
      obtain rfl : r9 = u_r9 := hw.symm
      have hc_o5 := isC.keptA hc_o5 hk1 (nin_E a y_o5)
      have hc_o7 := isC.keptA hc_o7 hk1 (nin_E a y_o7)
      have hT := hT.keptE hk1
      have hP := va_P.kept hP (fun k q hq => hk1 _ (hP k q hq).lt (not_AE (hP k q hq).lt))
      have hSz : s.heap.size ≤ H1.size := hS.1
      clear hk1 hz1 hPc hF hB ht
      generalize H1 = H at hP hS hSz hc_o5 hc_o7 hT ⊢
      refine lv_if_eq (tgt := 39) hx hb (dt_at dt_Tape_relation 18 rfl) (by decide) (fun c10 => ?_) (fun c10 => ?_)
      · have h := if_p h c10
        exact k_Tape_relation_39 hC hA hK   H locs ls hP hD hS hT  (lv_sub hl [] rfl) h
      · have h := if_n h c10
        refine lv_iconst (v := 1) hx hb (dt_at dt_Tape_relation 19 rfl) (by decide) ?_
        refine lv_goto (tgt := 40) hx hb (dt_at dt_Tape_relation 20 rfl) (by decide) ?_
        exact k_Tape_relation_40 hC hA hK   (1 : Int32) H locs ls hP hD hS hT  (lv_sub hl [] rfl) h
set_option maxRecDepth 100000 in
set_option maxHeartbeats 4000000 in
theorem c_Tape_relation (l : Launch) (D : va_G) (a : Nat → Nat) (q : Nat → ClassId) (L : Nat) (R : Nat) (hd : va_D (fun _ => True) (dT a)) (sz : Nat) (a1 : Int32) (a2 : Int32) (a3 : Int32) (g0 : Int32) (g1 : Int32) (g2 : Nat → Int32) (g3 : Nat → Option Nat) (g4 : Int32) (g5 : Int32) (g6 : Nat → Int32) (g7 : Int32) (g8 : Int64) (g9 : Int32) (g10 : Int32) (g11 : Nat → Int32) (g12 : Int32) (g13 : Int64) (g14 : Int32) (g15 : Int32) (g16 : Nat → Int32) (g17 : Nat → Option (Int64 × Int64 × Int32))   (r0 : Int32) (h : f_Tape_relation a1 a2 a3 g1 g17 = some r0) : Met l (⟨"OutwardTape", "relation", "(III)Z"⟩ : MethodName) (WSm (⟨"OutwardTape", "relation", "(III)Z"⟩ : MethodName) prog_1_method_14_code 4 (some .boolean)) rm_Tape_relation (va_Pc [.ref (a 0), .int a1, .int a2, .int a3] (fun U => U.heap.size = sz ∧ va_P D CLS (wT a q L R g0 g1 g2 g3 g4 g5 g6 g7 g8 g9 g10 g11 g12 g13 g14 g15 g16) U.heap ∧ va_K D CLS (tT q) U ∧ tapeC D (dT a) g3 g17 U.heap)) (va_Qi (fun (r : Int32) (_ : Unit) => r = r0) (fun _ t => va_P D CLS (wT a q L R g0 g1 g2 g3 g4 g5 g6 g7 g8 g9 g10 g11 g12 g13 g14 g15 g16) t.heap ∧ tapeC D (dT a) g3 g17 t.heap) (va_A (dT a) sz)) 0 0 (va_A (dT a) sz) := by
  refine Met.ofW (cc := prog_1_method_14_code) (maxL := 4) (ret := (some .boolean)) (by decide) rfl ?_
  intro p e s m args below meth c s₁ B hml hv
  obtain ⟨rfl, hsz, hP, hK, hT⟩ := hv
  subst hsz
  have hC := CX.of B hml rfl
  have hl := lv_entry [.ref (a 0), .int a1, .int a2, .int a3] (n := 4) (Nat.le_of_ble_eq_true rfl)
  rw [lg_entry_eq]
  generalize (lg_sl [.ref (a 0), .int a1, .int a2, .int a3] ++ List.replicate (4 - (lg_sl [.ref (a 0), .int a1, .int a2, .int a3]).length) Slot.unset).toArray = ls at hl ⊢
  have hl : lv_has ls 4 [(0, .ref (a 0)), (1, .int a1), (2, .int a2), (3, .int a3)] := hl
  exact k_Tape_relation_0  hC (fun x h => Or.inr h) hK a1 a2 a3    s.heap [] ls hP (dD hd.self rfl) va_S.rf hT  (lv_sub hl [0, 1, 2, 3] rfl) h
abbrev rm_Tape_number : Room := { frames := 5, cells := 0, slots := 0, locals := 141 }
set_option maxRecDepth 100000 in
set_option maxHeartbeats 4000000 in
theorem k_Tape_number_20 {p : Program} {l : Launch} {e : Env} {s : State} {m : MethodId} {args : Array Value} {below : List Frame} {meth : Method} {c : Code} {D : va_G} {a : Nat → Nat} {q : Nat → ClassId} {L : Nat} {R : Nat} {A : Nat → Prop} (hC : CX p s m args meth c prog_1_method_15_code 3 "OutwardTape" (some .long)) (hA : ∀ x, s.heap.size ≤ x → A x) (hK : va_K D CLS (tT q) s) {g0 : Int32} {g1 : Int32} {g2 : Nat → Int32} {g3 : Nat → Option Nat} {g4 : Int32} {g5 : Int32} {g6 : Nat → Int32} {g7 : Int32} {g8 : Int64} {g9 : Int32} {g10 : Int32} {g11 : Nat → Int32} {g12 : Int32} {g13 : Int64} {g14 : Int32} {g15 : Int32} {g16 : Nat → Int32} {g17 : Nat → Option (Int64 × Int64 × Int32)} {r0 : Int64} : ∀   (H : Heap) (locs : List Loc) (ls : Array Slot), va_P D CLS (wT a q L R g0 g1 g2 g3 g4 g5 g6 g7 g8 g9 g10 g11 g12 g13 g14 g15 g16) H → va_D A (wT a q L R g0 g1 g2 g3 g4 g5 g6 g7 g8 g9 g10 g11 g12 g13 g14 g15 g16) → va_S A s.heap H locs → tapeC D (dT a) g3 g17 H → lv_has ls 3 [] → f_Tape_number_20  g1 g17 = some r0 → W p l e rm_Tape_number s m args below meth c H locs 0 0 (MQ below (va_Ql (fun (r : Int64) (_ : Unit) => r = r0) (fun _ t => va_P D CLS (wT a q L R g0 g1 g2 g3 g4 g5 g6 g7 g8 g9 g10 g11 g12 g13 g14 g15 g16) t.heap ∧ tapeC D (dT a) g3 g17 t.heap) A) args s 0 0 A) (F0 m 20 ls []) := by
  obtain ⟨hx, hb, hml, hown, hts, hr, hlocks⟩ := id hC
  intro H locs ls hP hD hS hT hl h
  rw [f_Tape_number_20] at h
  have hSz : s.heap.size ≤ H.size := hS.1
  refine lv_ldc2 (v := 9221120237041090560) hx hb hown (hts (Cond.constantLong "OutwardTape" 103 (9221120237041090560)) (m_1 131 rfl rfl)) (dt_at dt_Tape_number 10 rfl) ?_
  obtain rfl := os_of h
  exact W.lret (v := (9221120237041090560 : Int64)) hx hb hr (fun t ht hW => ⟨⟨_, (), rfl, rfl, ⟨(hPt hP ht), hT.t ht⟩⟩, hS.F ht⟩) hS.2.2 (dt_at dt_Tape_number 11 rfl)
set_option maxRecDepth 100000 in
set_option maxHeartbeats 4000000 in
theorem k_Tape_number_0 {p : Program} {l : Launch} {e : Env} {s : State} {m : MethodId} {args : Array Value} {below : List Frame} {meth : Method} {c : Code} {D : va_G} {a : Nat → Nat} {q : Nat → ClassId} {L : Nat} {R : Nat} {A : Nat → Prop} (hC : CX p s m args meth c prog_1_method_15_code 3 "OutwardTape" (some .long)) (hA : ∀ x, s.heap.size ≤ x → A x) (hK : va_K D CLS (tT q) s) {g0 : Int32} {g1 : Int32} {g2 : Nat → Int32} {g3 : Nat → Option Nat} {g4 : Int32} {g5 : Int32} {g6 : Nat → Int32} {g7 : Int32} {g8 : Int64} {g9 : Int32} {g10 : Int32} {g11 : Nat → Int32} {g12 : Int32} {g13 : Int64} {g14 : Int32} {g15 : Int32} {g16 : Nat → Int32} {g17 : Nat → Option (Int64 × Int64 × Int32)} {r0 : Int64} : ∀ (v1 : Int32) (v2 : Int32)  (H : Heap) (locs : List Loc) (ls : Array Slot), va_P D CLS (wT a q L R g0 g1 g2 g3 g4 g5 g6 g7 g8 g9 g10 g11 g12 g13 g14 g15 g16) H → va_D A (wT a q L R g0 g1 g2 g3 g4 g5 g6 g7 g8 g9 g10 g11 g12 g13 g14 g15 g16) → va_S A s.heap H locs → tapeC D (dT a) g3 g17 H → lv_has ls 3 [(0, .ref (a 0)), (1, .int v1), (2, .int v2)] → f_Tape_number_0  v1 v2 g1 g17 = some r0 → W p l e rm_Tape_number s m args below meth c H locs 0 0 (MQ below (va_Ql (fun (r : Int64) (_ : Unit) => r = r0) (fun _ t => va_P D CLS (wT a q L R g0 g1 g2 g3 g4 g5 g6 g7 g8 g9 g10 g11 g12 g13 g14 g15 g16) t.heap ∧ tapeC D (dT a) g3 g17 t.heap) A) args s 0 0 A) (F0 m 0 ls []) := by
  obtain ⟨hx, hb, hml, hown, hts, hr, hlocks⟩ := id hC
  intro v1 v2 H locs ls hP hD hS hT hl h
  rw [f_Tape_number_0] at h
  have hSz : s.heap.size ≤ H.size := hS.1
  refine lv_aload_n hx hb (dt_at dt_Tape_number 0 rfl) rfl (lv_at hl 0 rfl) ?_
  refine lv_iload_n hx hb (dt_at dt_Tape_number 1 rfl) rfl (lv_at hl 2 rfl) ?_
  obtain ⟨r1, h_r1, h⟩ := ob_of h
  have hPc := hP
  have hDc : va_D A (dT a) := dD (ws' := dT a) hD rfl
  have hKc := hK
  have hF := va_free (wc := dT a) hDc hS hA [0, 1, 2, 3, 4, 5, 6, 7, 8] rfl
  have hd : va_D (fun _ => True) (dT a) := hDc.weaken (fun _ _ _ _ => trivial)
  refine va_calli (va_runV (As := [.int v2]) (rest := []) ⟨hx, hb, hml, hown, hts⟩ (c_Tape_hasInterval l D a q L R hd H.size v2 g0 g1 g2 g3 g4 g5 g6 g7 g8 g9 g10 g11 g12 g13 g14 g15 g16 g17   r1 h_r1) (cwV 1 hts (gd_V (m_1 115 rfl rfl) (m_1 117 rfl rfl) (m_s 0 rfl rfl) (m_1 1 rfl rfl) (m_1 118 rfl rfl)) rfl rfl rfl (by decide +kernel) ⟨Nat.le_of_ble_eq_true rfl, Nat.le_of_ble_eq_true rfl⟩) ⟨fun a U g mk q => ⟨q.1, q.2.1, q.2.2.1, va_K.moved (u := U) (U := U.calling g mk a) (Vm.Alike.refl U.vm) q.2.2.2.1, q.2.2.2.2⟩, va_recv hK hP (ci := 1) (q0 := 0) rfl rfl, fun U hU hW => ⟨rfl, by rw [hU], by rw [hU]; exact hPc, va_K.moved hW.alike hKc, by rw [hU]; exact hT⟩⟩ rfl rfl hl.1 rfl (lv_room (Nat.le_of_ble_eq_true rfl)) (dt_at dt_Tape_number 2 rfl) ⟨Nat.le_of_ble_eq_true rfl, Nat.le_of_ble_eq_true rfl⟩) hS (fun x _ h9 => hF x h9) hF (fun u_r1 uu t H1 locs ht hvm hw hB hz1 hk1 hS => ?_)
  obtain rfl : r1 = u_r1 := hw.symm
  obtain ⟨hB, hT⟩ := hB
  rw [ht] at hT
  rw [ht] at hB
  have hP : va_P D CLS (wT a q L R g0 g1 g2 g3 g4 g5 g6 g7 g8 g9 g10 g11 g12 g13 g14 g15 g16) H1 := hB
  have hD : va_D A (wT a q L R g0 g1 g2 g3 g4 g5 g6 g7 g8 g9 g10 g11 g12 g13 g14 g15 g16) := dD hD rfl
  have hSz : s.heap.size ≤ H1.size := hS.1
  clear hk1 hz1 hPc hF hB ht
  generalize H1 = H at hP hS hSz  hT ⊢
  refine lv_if_eq (tgt := 20) hx hb (dt_at dt_Tape_number 3 rfl) (by decide) (fun c2 => ?_) (fun c2 => ?_)
  · have h := if_p h c2
    exact k_Tape_number_20 hC hA hK   H locs ls hP hD hS hT  (lv_sub hl [] rfl) h
  · have h := if_n h c2
    refine lv_aload_n hx hb (dt_at dt_Tape_number 4 rfl) rfl (lv_at hl 0 rfl) ?_
    refine va_get (D := D) (ci := 1) (v := .ref (a 2)) (C := "OutwardTape") (T := T_Tape) (N := 5) hx hb hts in_Tape hown hK hP 0 rfl rfl 2 (by decide) (hts (Cond.fieldLink "OutwardTape" 19 "OutwardTape" "cells" "[LOutwardTape$Cell;") (m_1 81 rfl rfl)) (fun _ h9 => h9) rfl (dt_at dt_Tape_number 5 rfl) ?_
    refine lv_iload_n hx hb (dt_at dt_Tape_number 6 rfl) rfl (lv_at hl 2 rfl) ?_
    obtain ⟨z4, h⟩ := og_of h
    obtain ⟨o3, h_o3, h⟩ := ob_of h
    obtain ⟨y_o3, hy_o3, hc_o3, hn_o3⟩ := hT _ _ h_o3
    refine ld_ref hx hb hK hP 2 1 rfl rfl z4 hy_o3 (dt_at dt_Tape_number 7 rfl) ?_
    skip
    obtain ⟨r5, h_r5, h⟩ := ob_of h
    have hPc : va_P D CLS (wE a q) H := fun k q h => by simp [wE] at h
    have hd : va_D (fun _ => True) (dE a) := dE_D a
    have hKc : va_K D CLS (tE q) s := hK.sub (tys' := []) [] rfl
    have hF : ∀ x, va_A (dE a) H.size x → A x := fun x h9 => h9.elim (fun ⟨k, e, h⟩ => by simp [dE] at h) (fun g => hA _ (Nat.le_trans hS.1 g))
    refine va_calli (va_runV (As := []) (rest := []) ⟨hx, hb, hml, hown, hts⟩ (c_Cell_hasNoPoint l D a q  hd H.size o3.1 o3.2.1 o3.2.2  y_o3 (nin_E a y_o3) r5 h_r5) (cwV 0 hts (gd_V (m_1 123 rfl rfl) (m_1 124 rfl rfl) (m_1 125 rfl rfl) (m_1 10 rfl rfl) (m_1 126 rfl rfl)) rfl rfl rfl (by decide +kernel) ⟨Nat.le_of_ble_eq_true rfl, Nat.le_of_ble_eq_true rfl⟩) ⟨fun a U g mk q => ⟨q.1, q.2.1, q.2.2.1, va_K.moved (u := U) (U := U.calling g mk a) (Vm.Alike.refl U.vm) q.2.2.2.1, q.2.2.2.2⟩, va_recv hK hc_o3 (ci := 4) (q0 := 0) rfl rfl, fun U hU hW => ⟨rfl, by rw [hU], by rw [hU]; exact hPc, va_K.moved hW.alike hKc, by rw [hU]; exact hc_o3⟩⟩ rfl rfl hl.1 rfl (lv_room (Nat.le_of_ble_eq_true rfl)) (dt_at dt_Tape_number 8 rfl) ⟨Nat.le_of_ble_eq_true rfl, Nat.le_of_ble_eq_true rfl⟩) hS (fun x _ h9 => hF x h9) hF (fun u_r5 uu t H1 locs ht hvm hw hB hz1 hk1 hS => ?_)
    obtain rfl : r5 = u_r5 := hw.symm
    have hc_o3 := isC.keptA hc_o3 hk1 (nin_E a y_o3)
    have hT := hT.keptE hk1
    have hP := va_P.kept hP (fun k q hq => hk1 _ (hP k q hq).lt (not_AE (hP k q hq).lt))
    have hSz : s.heap.size ≤ H1.size := hS.1
    clear hk1 hz1 hPc hF hB ht
    generalize H1 = H at hP hS hSz hc_o3 hT ⊢
    refine lv_if_eq (tgt := 24) hx hb (dt_at dt_Tape_number 9 rfl) (by decide) (fun c6 => ?_) (fun c6 => ?_)
    · have h := if_p h c6
      refine lv_iload_n hx hb (dt_at dt_Tape_number 12 rfl) rfl (lv_at hl 1 rfl) ?_
      by_cases c7 : v1 = (0 : Int32)
      · have h := if_p h c7
        refine lv_tableIn (off := 31) (tgt := 56) hx hb (dt_at dt_Tape_number 13 rfl) (by rw [c7]; decide) (by rw [c7]; decide) (by rw [c7]; rfl) (by decide) ?_
        refine lv_aload_n hx hb (dt_at dt_Tape_number 14 rfl) rfl (lv_at hl 0 rfl) ?_
        refine va_get (D := D) (ci := 1) (v := .ref (a 2)) (C := "OutwardTape") (T := T_Tape) (N := 5) hx hb hts in_Tape hown hK hP 0 rfl rfl 2 (by decide) (hts (Cond.fieldLink "OutwardTape" 19 "OutwardTape" "cells" "[LOutwardTape$Cell;") (m_1 81 rfl rfl)) (fun _ h9 => h9) rfl (dt_at dt_Tape_number 15 rfl) ?_
        refine lv_iload_n hx hb (dt_at dt_Tape_number 16 rfl) rfl (lv_at hl 2 rfl) ?_
        obtain ⟨z9, h⟩ := og_of h
        obtain ⟨o8, h_o8, h⟩ := ob_of h
        obtain ⟨y_o8, hy_o8, hc_o8, hn_o8⟩ := hT _ _ h_o8
        refine ld_ref hx hb hK hP 2 1 rfl rfl z9 hy_o8 (dt_at dt_Tape_number 17 rfl) ?_
        skip
        obtain ⟨r10, h_r10, h⟩ := ob_of h
        have hPc : va_P D CLS (wE a q) H := fun k q h => by simp [wE] at h
        have hd : va_D (fun _ => True) (dE a) := dE_D a
        have hKc : va_K D CLS (tE q) s := hK.sub (tys' := []) [] rfl
        have hF : ∀ x, va_A (dE a) H.size x → A x := fun x h9 => h9.elim (fun ⟨k, e, h⟩ => by simp [dE] at h) (fun g => hA _ (Nat.le_trans hS.1 g))
        refine va_calll (va_runV (As := []) (rest := []) ⟨hx, hb, hml, hown, hts⟩ (c_Cell_width l D a q  hd H.size o8.1 o8.2.1 o8.2.2  y_o8 (nin_E a y_o8) r10 h_r10) (cwV 0 hts (gd_V (m_1 161 rfl rfl) (m_1 162 rfl rfl) (m_1 163 rfl rfl) (m_1 10 rfl rfl) (m_1 164 rfl rfl)) rfl rfl rfl (by decide +kernel) ⟨Nat.le_of_ble_eq_true rfl, Nat.le_of_ble_eq_true rfl⟩) ⟨fun a U g mk q => ⟨q.1, q.2.1, q.2.2.1, va_K.moved (u := U) (U := U.calling g mk a) (Vm.Alike.refl U.vm) q.2.2.2.1, q.2.2.2.2⟩, va_recv hK hc_o8 (ci := 4) (q0 := 0) rfl rfl, fun U hU hW => ⟨rfl, by rw [hU], by rw [hU]; exact hPc, va_K.moved hW.alike hKc, by rw [hU]; exact hc_o8⟩⟩ rfl rfl hl.1 rfl (lv_room (Nat.le_of_ble_eq_true rfl)) (dt_at dt_Tape_number 18 rfl) ⟨Nat.le_of_ble_eq_true rfl, Nat.le_of_ble_eq_true rfl⟩) hS (fun x _ h9 => hF x h9) hF (fun u_r10 uu t H1 locs ht hvm hw hB hz1 hk1 hS => ?_)
        obtain rfl : r10 = u_r10 := hw.symm
        have hc_o3 := isC.keptA hc_o3 hk1 (nin_E a y_o3)
        have hc_o8 := isC.keptA hc_o8 hk1 (nin_E a y_o8)
        have hT := hT.keptE hk1
        have hP := va_P.kept hP (fun k q hq => hk1 _ (hP k q hq).lt (not_AE (hP k q hq).lt))
        have hSz : s.heap.size ≤ H1.size := hS.1
        clear hk1 hz1 hPc hF hB ht
        generalize H1 = H at hP hS hSz hc_o3 hc_o8 hT ⊢
        obtain ⟨r11, h_r11, h⟩ := ob_of h
        refine vp_callSl (W.runS (As := [.long r10]) (rest := []) ⟨hx, hb, hml, hown, hts⟩ (c_Rank_toBits l r10 r11 h_r11) (va_cwS 1 hts (gd_S (m_1 133 rfl rfl) (m_1 134 rfl rfl) (m_1 15 rfl rfl) (m_1 135 rfl rfl)) rfl rfl rfl (by decide +kernel) ⟨Nat.le_of_ble_eq_true rfl, Nat.le_of_ble_eq_true rfl⟩) ⟨fun _ _ _ _ q => q, fun U hU hW => ⟨rfl, trivial⟩⟩ rfl rfl hl.1 rfl (lv_room (Nat.le_of_ble_eq_true rfl)) (dt_at dt_Tape_number 19 rfl) ⟨Nat.le_of_ble_eq_true rfl, Nat.le_of_ble_eq_true rfl⟩) (fun u_r11 q_r11 => ?_)
        obtain rfl : r11 = u_r11 := q_r11.symm
        obtain rfl := os_of h
        exact W.lret (v := r11) hx hb hr (fun t ht hW => ⟨⟨_, (), rfl, rfl, ⟨(hPt hP ht), hT.t ht⟩⟩, hS.F ht⟩) hS.2.2 (dt_at dt_Tape_number 20 rfl)
      · have h := if_n h c7
        by_cases c12 : v1 = (1 : Int32)
        · have h := if_p h c12
          refine lv_tableIn (off := 44) (tgt := 69) hx hb (dt_at dt_Tape_number 13 rfl) (by rw [c12]; decide) (by rw [c12]; decide) (by rw [c12]; rfl) (by decide) ?_
          refine lv_aload_n hx hb (dt_at dt_Tape_number 21 rfl) rfl (lv_at hl 0 rfl) ?_
          refine va_get (D := D) (ci := 1) (v := .ref (a 2)) (C := "OutwardTape") (T := T_Tape) (N := 5) hx hb hts in_Tape hown hK hP 0 rfl rfl 2 (by decide) (hts (Cond.fieldLink "OutwardTape" 19 "OutwardTape" "cells" "[LOutwardTape$Cell;") (m_1 81 rfl rfl)) (fun _ h9 => h9) rfl (dt_at dt_Tape_number 22 rfl) ?_
          refine lv_iload_n hx hb (dt_at dt_Tape_number 23 rfl) rfl (lv_at hl 2 rfl) ?_
          obtain ⟨z14, h⟩ := og_of h
          obtain ⟨o13, h_o13, h⟩ := ob_of h
          obtain ⟨y_o13, hy_o13, hc_o13, hn_o13⟩ := hT _ _ h_o13
          refine ld_ref hx hb hK hP 2 1 rfl rfl z14 hy_o13 (dt_at dt_Tape_number 24 rfl) ?_
          skip
          obtain ⟨r15, h_r15, h⟩ := ob_of h
          have hPc : va_P D CLS (wE a q) H := fun k q h => by simp [wE] at h
          have hd : va_D (fun _ => True) (dE a) := dE_D a
          have hKc : va_K D CLS (tE q) s := hK.sub (tys' := []) [] rfl
          have hF : ∀ x, va_A (dE a) H.size x → A x := fun x h9 => h9.elim (fun ⟨k, e, h⟩ => by simp [dE] at h) (fun g => hA _ (Nat.le_trans hS.1 g))
          refine va_calll (va_runV (As := []) (rest := []) ⟨hx, hb, hml, hown, hts⟩ (c_Cell_magnitude l D a q  hd H.size o13.1 o13.2.1 o13.2.2  y_o13 (nin_E a y_o13) r15 h_r15) (cwV 0 hts (gd_V (m_1 212 rfl rfl) (m_1 213 rfl rfl) (m_1 214 rfl rfl) (m_1 10 rfl rfl) (m_1 215 rfl rfl)) rfl rfl rfl (by decide +kernel) ⟨Nat.le_of_ble_eq_true rfl, Nat.le_of_ble_eq_true rfl⟩) ⟨fun a U g mk q => ⟨q.1, q.2.1, q.2.2.1, va_K.moved (u := U) (U := U.calling g mk a) (Vm.Alike.refl U.vm) q.2.2.2.1, q.2.2.2.2⟩, va_recv hK hc_o13 (ci := 4) (q0 := 0) rfl rfl, fun U hU hW => ⟨rfl, by rw [hU], by rw [hU]; exact hPc, va_K.moved hW.alike hKc, by rw [hU]; exact hc_o13⟩⟩ rfl rfl hl.1 rfl (lv_room (Nat.le_of_ble_eq_true rfl)) (dt_at dt_Tape_number 25 rfl) ⟨Nat.le_of_ble_eq_true rfl, Nat.le_of_ble_eq_true rfl⟩) hS (fun x _ h9 => hF x h9) hF (fun u_r15 uu t H1 locs ht hvm hw hB hz1 hk1 hS => ?_)
          obtain rfl : r15 = u_r15 := hw.symm
          have hc_o3 := isC.keptA hc_o3 hk1 (nin_E a y_o3)
          have hc_o13 := isC.keptA hc_o13 hk1 (nin_E a y_o13)
          have hT := hT.keptE hk1
          have hP := va_P.kept hP (fun k q hq => hk1 _ (hP k q hq).lt (not_AE (hP k q hq).lt))
          have hSz : s.heap.size ≤ H1.size := hS.1
          clear hk1 hz1 hPc hF hB ht
          generalize H1 = H at hP hS hSz hc_o3 hc_o13 hT ⊢
          obtain ⟨r16, h_r16, h⟩ := ob_of h
          refine vp_callSl (W.runS (As := [.long r15]) (rest := []) ⟨hx, hb, hml, hown, hts⟩ (c_Rank_toBits l r15 r16 h_r16) (va_cwS 1 hts (gd_S (m_1 133 rfl rfl) (m_1 134 rfl rfl) (m_1 15 rfl rfl) (m_1 135 rfl rfl)) rfl rfl rfl (by decide +kernel) ⟨Nat.le_of_ble_eq_true rfl, Nat.le_of_ble_eq_true rfl⟩) ⟨fun _ _ _ _ q => q, fun U hU hW => ⟨rfl, trivial⟩⟩ rfl rfl hl.1 rfl (lv_room (Nat.le_of_ble_eq_true rfl)) (dt_at dt_Tape_number 26 rfl) ⟨Nat.le_of_ble_eq_true rfl, Nat.le_of_ble_eq_true rfl⟩) (fun u_r16 q_r16 => ?_)
          obtain rfl : r16 = u_r16 := q_r16.symm
          obtain rfl := os_of h
          exact W.lret (v := r16) hx hb hr (fun t ht hW => ⟨⟨_, (), rfl, rfl, ⟨(hPt hP ht), hT.t ht⟩⟩, hS.F ht⟩) hS.2.2 (dt_at dt_Tape_number 27 rfl)
        · have h := if_n h c12
          by_cases c17 : v1 = (2 : Int32)
          · have h := if_p h c17
            refine lv_tableIn (off := 57) (tgt := 82) hx hb (dt_at dt_Tape_number 13 rfl) (by rw [c17]; decide) (by rw [c17]; decide) (by rw [c17]; rfl) (by decide) ?_
            refine lv_aload_n hx hb (dt_at dt_Tape_number 28 rfl) rfl (lv_at hl 0 rfl) ?_
            refine va_get (D := D) (ci := 1) (v := .ref (a 2)) (C := "OutwardTape") (T := T_Tape) (N := 5) hx hb hts in_Tape hown hK hP 0 rfl rfl 2 (by decide) (hts (Cond.fieldLink "OutwardTape" 19 "OutwardTape" "cells" "[LOutwardTape$Cell;") (m_1 81 rfl rfl)) (fun _ h9 => h9) rfl (dt_at dt_Tape_number 29 rfl) ?_
            refine lv_iload_n hx hb (dt_at dt_Tape_number 30 rfl) rfl (lv_at hl 2 rfl) ?_
            obtain ⟨z19, h⟩ := og_of h
            obtain ⟨o18, h_o18, h⟩ := ob_of h
            obtain ⟨y_o18, hy_o18, hc_o18, hn_o18⟩ := hT _ _ h_o18
            refine ld_ref hx hb hK hP 2 1 rfl rfl z19 hy_o18 (dt_at dt_Tape_number 31 rfl) ?_
            skip
            obtain ⟨r20, h_r20, h⟩ := ob_of h
            have hPc : va_P D CLS (wE a q) H := fun k q h => by simp [wE] at h
            have hd : va_D (fun _ => True) (dE a) := dE_D a
            have hKc : va_K D CLS (tE q) s := hK.sub (tys' := []) [] rfl
            have hF : ∀ x, va_A (dE a) H.size x → A x := fun x h9 => h9.elim (fun ⟨k, e, h⟩ => by simp [dE] at h) (fun g => hA _ (Nat.le_trans hS.1 g))
            refine va_calll (va_runV (As := []) (rest := []) ⟨hx, hb, hml, hown, hts⟩ (c_Cell_mignitude l D a q  hd H.size o18.1 o18.2.1 o18.2.2  y_o18 (nin_E a y_o18) r20 h_r20) (cwV 0 hts (gd_V (m_1 220 rfl rfl) (m_1 221 rfl rfl) (m_1 222 rfl rfl) (m_1 10 rfl rfl) (m_1 223 rfl rfl)) rfl rfl rfl (by decide +kernel) ⟨Nat.le_of_ble_eq_true rfl, Nat.le_of_ble_eq_true rfl⟩) ⟨fun a U g mk q => ⟨q.1, q.2.1, q.2.2.1, va_K.moved (u := U) (U := U.calling g mk a) (Vm.Alike.refl U.vm) q.2.2.2.1, q.2.2.2.2⟩, va_recv hK hc_o18 (ci := 4) (q0 := 0) rfl rfl, fun U hU hW => ⟨rfl, by rw [hU], by rw [hU]; exact hPc, va_K.moved hW.alike hKc, by rw [hU]; exact hc_o18⟩⟩ rfl rfl hl.1 rfl (lv_room (Nat.le_of_ble_eq_true rfl)) (dt_at dt_Tape_number 32 rfl) ⟨Nat.le_of_ble_eq_true rfl, Nat.le_of_ble_eq_true rfl⟩) hS (fun x _ h9 => hF x h9) hF (fun u_r20 uu t H1 locs ht hvm hw hB hz1 hk1 hS => ?_)
            obtain rfl : r20 = u_r20 := hw.symm
            have hc_o3 := isC.keptA hc_o3 hk1 (nin_E a y_o3)
            have hc_o18 := isC.keptA hc_o18 hk1 (nin_E a y_o18)
            have hT := hT.keptE hk1
            have hP := va_P.kept hP (fun k q hq => hk1 _ (hP k q hq).lt (not_AE (hP k q hq).lt))
            have hSz : s.heap.size ≤ H1.size := hS.1
            clear hk1 hz1 hPc hF hB ht
            generalize H1 = H at hP hS hSz hc_o3 hc_o18 hT ⊢
            obtain ⟨r21, h_r21, h⟩ := ob_of h
            refine vp_callSl (W.runS (As := [.long r20]) (rest := []) ⟨hx, hb, hml, hown, hts⟩ (c_Rank_toBits l r20 r21 h_r21) (va_cwS 1 hts (gd_S (m_1 133 rfl rfl) (m_1 134 rfl rfl) (m_1 15 rfl rfl) (m_1 135 rfl rfl)) rfl rfl rfl (by decide +kernel) ⟨Nat.le_of_ble_eq_true rfl, Nat.le_of_ble_eq_true rfl⟩) ⟨fun _ _ _ _ q => q, fun U hU hW => ⟨rfl, trivial⟩⟩ rfl rfl hl.1 rfl (lv_room (Nat.le_of_ble_eq_true rfl)) (dt_at dt_Tape_number 33 rfl) ⟨Nat.le_of_ble_eq_true rfl, Nat.le_of_ble_eq_true rfl⟩) (fun u_r21 q_r21 => ?_)
            obtain rfl : r21 = u_r21 := q_r21.symm
            obtain rfl := os_of h
            exact W.lret (v := r21) hx hb hr (fun t ht hW => ⟨⟨_, (), rfl, rfl, ⟨(hPt hP ht), hT.t ht⟩⟩, hS.F ht⟩) hS.2.2 (dt_at dt_Tape_number 34 rfl)
          · have h := if_n h c17
            by_cases c22 : v1 = (3 : Int32)
            · have h := if_p h c22
              refine lv_tableIn (off := 70) (tgt := 95) hx hb (dt_at dt_Tape_number 13 rfl) (by rw [c22]; decide) (by rw [c22]; decide) (by rw [c22]; rfl) (by decide) ?_
              refine lv_aload_n hx hb (dt_at dt_Tape_number 35 rfl) rfl (lv_at hl 0 rfl) ?_
              refine va_get (D := D) (ci := 1) (v := .ref (a 2)) (C := "OutwardTape") (T := T_Tape) (N := 5) hx hb hts in_Tape hown hK hP 0 rfl rfl 2 (by decide) (hts (Cond.fieldLink "OutwardTape" 19 "OutwardTape" "cells" "[LOutwardTape$Cell;") (m_1 81 rfl rfl)) (fun _ h9 => h9) rfl (dt_at dt_Tape_number 36 rfl) ?_
              refine lv_iload_n hx hb (dt_at dt_Tape_number 37 rfl) rfl (lv_at hl 2 rfl) ?_
              obtain ⟨z24, h⟩ := og_of h
              obtain ⟨o23, h_o23, h⟩ := ob_of h
              obtain ⟨y_o23, hy_o23, hc_o23, hn_o23⟩ := hT _ _ h_o23
              refine ld_ref hx hb hK hP 2 1 rfl rfl z24 hy_o23 (dt_at dt_Tape_number 38 rfl) ?_
              skip
              obtain ⟨r25, h_r25, h⟩ := ob_of h
              have hPc : va_P D CLS (wE a q) H := fun k q h => by simp [wE] at h
              have hd : va_D (fun _ => True) (dE a) := dE_D a
              have hKc : va_K D CLS (tE q) s := hK.sub (tys' := []) [] rfl
              have hF : ∀ x, va_A (dE a) H.size x → A x := fun x h9 => h9.elim (fun ⟨k, e, h⟩ => by simp [dE] at h) (fun g => hA _ (Nat.le_trans hS.1 g))
              refine va_calll (va_runV (As := []) (rest := []) ⟨hx, hb, hml, hown, hts⟩ (c_Cell_middle l D a q  hd H.size o23.1 o23.2.1 o23.2.2  y_o23 (nin_E a y_o23) r25 h_r25) (cwV 0 hts (gd_V (m_1 227 rfl rfl) (m_1 228 rfl rfl) (m_1 229 rfl rfl) (m_1 10 rfl rfl) (m_1 230 rfl rfl)) rfl rfl rfl (by decide +kernel) ⟨Nat.le_of_ble_eq_true rfl, Nat.le_of_ble_eq_true rfl⟩) ⟨fun a U g mk q => ⟨q.1, q.2.1, q.2.2.1, va_K.moved (u := U) (U := U.calling g mk a) (Vm.Alike.refl U.vm) q.2.2.2.1, q.2.2.2.2⟩, va_recv hK hc_o23 (ci := 4) (q0 := 0) rfl rfl, fun U hU hW => ⟨rfl, by rw [hU], by rw [hU]; exact hPc, va_K.moved hW.alike hKc, by rw [hU]; exact hc_o23⟩⟩ rfl rfl hl.1 rfl (lv_room (Nat.le_of_ble_eq_true rfl)) (dt_at dt_Tape_number 39 rfl) ⟨Nat.le_of_ble_eq_true rfl, Nat.le_of_ble_eq_true rfl⟩) hS (fun x _ h9 => hF x h9) hF (fun u_r25 uu t H1 locs ht hvm hw hB hz1 hk1 hS => ?_)
              obtain rfl : r25 = u_r25 := hw.symm
              have hc_o3 := isC.keptA hc_o3 hk1 (nin_E a y_o3)
              have hc_o23 := isC.keptA hc_o23 hk1 (nin_E a y_o23)
              have hT := hT.keptE hk1
              have hP := va_P.kept hP (fun k q hq => hk1 _ (hP k q hq).lt (not_AE (hP k q hq).lt))
              have hSz : s.heap.size ≤ H1.size := hS.1
              clear hk1 hz1 hPc hF hB ht
              generalize H1 = H at hP hS hSz hc_o3 hc_o23 hT ⊢
              obtain ⟨r26, h_r26, h⟩ := ob_of h
              refine vp_callSl (W.runS (As := [.long r25]) (rest := []) ⟨hx, hb, hml, hown, hts⟩ (c_Rank_toBits l r25 r26 h_r26) (va_cwS 1 hts (gd_S (m_1 133 rfl rfl) (m_1 134 rfl rfl) (m_1 15 rfl rfl) (m_1 135 rfl rfl)) rfl rfl rfl (by decide +kernel) ⟨Nat.le_of_ble_eq_true rfl, Nat.le_of_ble_eq_true rfl⟩) ⟨fun _ _ _ _ q => q, fun U hU hW => ⟨rfl, trivial⟩⟩ rfl rfl hl.1 rfl (lv_room (Nat.le_of_ble_eq_true rfl)) (dt_at dt_Tape_number 40 rfl) ⟨Nat.le_of_ble_eq_true rfl, Nat.le_of_ble_eq_true rfl⟩) (fun u_r26 q_r26 => ?_)
              obtain rfl : r26 = u_r26 := q_r26.symm
              obtain rfl := os_of h
              exact W.lret (v := r26) hx hb hr (fun t ht hW => ⟨⟨_, (), rfl, rfl, ⟨(hPt hP ht), hT.t ht⟩⟩, hS.F ht⟩) hS.2.2 (dt_at dt_Tape_number 41 rfl)
            · have h := if_n h c22
              have ho : (v1 : Int32).toInt < 0 ∨ 3 < (v1 : Int32).toInt := by
                have n_c7 := ne_i c7 (show (0 : Int32).toInt = 0 by decide)
                have n_c12 := ne_i c12 (show (1 : Int32).toInt = 1 by decide)
                have n_c17 := ne_i c17 (show (2 : Int32).toInt = 2 by decide)
                have n_c22 := ne_i c22 (show (3 : Int32).toInt = 3 by decide)
                omega
              refine lv_tableOut (tgt := 108) hx hb (dt_at dt_Tape_number 13 rfl) ho (by decide) ?_
              refine lv_ldc2 (v := 9221120237041090560) hx hb hown (hts (Cond.constantLong "OutwardTape" 103 (9221120237041090560)) (m_1 131 rfl rfl)) (dt_at dt_Tape_number 42 rfl) ?_
              obtain rfl := os_of h
              exact W.lret (v := (9221120237041090560 : Int64)) hx hb hr (fun t ht hW => ⟨⟨_, (), rfl, rfl, ⟨(hPt hP ht), hT.t ht⟩⟩, hS.F ht⟩) hS.2.2 (dt_at dt_Tape_number 43 rfl)
    · have h := if_n h c6
      exact k_Tape_number_20 hC hA hK   H locs ls hP hD hS hT  (lv_sub hl [] rfl) h
set_option maxRecDepth 100000 in
set_option maxHeartbeats 4000000 in
theorem c_Tape_number (l : Launch) (D : va_G) (a : Nat → Nat) (q : Nat → ClassId) (L : Nat) (R : Nat) (hd : va_D (fun _ => True) (dT a)) (sz : Nat) (a1 : Int32) (a2 : Int32) (g0 : Int32) (g1 : Int32) (g2 : Nat → Int32) (g3 : Nat → Option Nat) (g4 : Int32) (g5 : Int32) (g6 : Nat → Int32) (g7 : Int32) (g8 : Int64) (g9 : Int32) (g10 : Int32) (g11 : Nat → Int32) (g12 : Int32) (g13 : Int64) (g14 : Int32) (g15 : Int32) (g16 : Nat → Int32) (g17 : Nat → Option (Int64 × Int64 × Int32))   (r0 : Int64) (h : f_Tape_number a1 a2 g1 g17 = some r0) : Met l (⟨"OutwardTape", "number", "(II)J"⟩ : MethodName) (WSm (⟨"OutwardTape", "number", "(II)J"⟩ : MethodName) prog_1_method_15_code 3 (some .long)) rm_Tape_number (va_Pc [.ref (a 0), .int a1, .int a2] (fun U => U.heap.size = sz ∧ va_P D CLS (wT a q L R g0 g1 g2 g3 g4 g5 g6 g7 g8 g9 g10 g11 g12 g13 g14 g15 g16) U.heap ∧ va_K D CLS (tT q) U ∧ tapeC D (dT a) g3 g17 U.heap)) (va_Ql (fun (r : Int64) (_ : Unit) => r = r0) (fun _ t => va_P D CLS (wT a q L R g0 g1 g2 g3 g4 g5 g6 g7 g8 g9 g10 g11 g12 g13 g14 g15 g16) t.heap ∧ tapeC D (dT a) g3 g17 t.heap) (va_A (dT a) sz)) 0 0 (va_A (dT a) sz) := by
  refine Met.ofW (cc := prog_1_method_15_code) (maxL := 3) (ret := (some .long)) (by decide) rfl ?_
  intro p e s m args below meth c s₁ B hml hv
  obtain ⟨rfl, hsz, hP, hK, hT⟩ := hv
  subst hsz
  have hC := CX.of B hml rfl
  have hl := lv_entry [.ref (a 0), .int a1, .int a2] (n := 3) (Nat.le_of_ble_eq_true rfl)
  rw [lg_entry_eq]
  generalize (lg_sl [.ref (a 0), .int a1, .int a2] ++ List.replicate (3 - (lg_sl [.ref (a 0), .int a1, .int a2]).length) Slot.unset).toArray = ls at hl ⊢
  have hl : lv_has ls 3 [(0, .ref (a 0)), (1, .int a1), (2, .int a2)] := hl
  exact k_Tape_number_0  hC (fun x h => Or.inr h) hK a1 a2    s.heap [] ls hP (dD hd.self rfl) va_S.rf hT  (lv_sub hl [0, 1, 2] rfl) h
abbrev rm_Tape_clamp : Room := { frames := 2, cells := 0, slots := 0, locals := 42 }
set_option maxRecDepth 100000 in
set_option maxHeartbeats 4000000 in
theorem k_Tape_clamp_27 {p : Program} {l : Launch} {e : Env} {s : State} {m : MethodId} {args : Array Value} {below : List Frame} {meth : Method} {c : Code} {D : va_G} {a : Nat → Nat} {q : Nat → ClassId} {L : Nat} {R : Nat} {A : Nat → Prop} (hC : CX p s m args meth c prog_1_method_16_code 6 "OutwardTape" (some .long)) (hA : ∀ x, s.heap.size ≤ x → A x) (hK : va_K D CLS (tT q) s) {g0 : Int32} {g1 : Int32} {g2 : Nat → Int32} {g3 : Nat → Option Nat} {g4 : Int32} {g5 : Int32} {g6 : Nat → Int32} {g7 : Int32} {g8 : Int64} {g9 : Int32} {g10 : Int32} {g11 : Nat → Int32} {g12 : Int32} {g13 : Int64} {g14 : Int32} {g15 : Int32} {g16 : Nat → Int32} {g17 : Nat → Option (Int64 × Int64 × Int32)} {r0 : Int64} : ∀   (H : Heap) (locs : List Loc) (ls : Array Slot), va_P D CLS (wT a q L R g0 g1 g2 g3 g4 g5 g6 g7 g8 g9 g10 g11 g12 g13 g14 g15 g16) H → va_D A (wT a q L R g0 g1 g2 g3 g4 g5 g6 g7 g8 g9 g10 g11 g12 g13 g14 g15 g16) → va_S A s.heap H locs → tapeC D (dT a) g3 g17 H → lv_has ls 6 [] → f_Tape_clamp_27  g1 g17 = some r0 → W p l e rm_Tape_clamp s m args below meth c H locs 0 0 (MQ below (va_Ql (fun (r : Int64) (_ : Unit) => r = r0) (fun _ t => va_P D CLS (wT a q L R g0 g1 g2 g3 g4 g5 g6 g7 g8 g9 g10 g11 g12 g13 g14 g15 g16) t.heap ∧ tapeC D (dT a) g3 g17 t.heap) A) args s 0 0 A) (F0 m 27 ls []) := by
  obtain ⟨hx, hb, hml, hown, hts, hr, hlocks⟩ := id hC
  intro H locs ls hP hD hS hT hl h
  rw [f_Tape_clamp_27] at h
  have hSz : s.heap.size ≤ H.size := hS.1
  refine lv_ldc2 (v := 9221120237041090560) hx hb hown (hts (Cond.constantLong "OutwardTape" 103 (9221120237041090560)) (m_1 131 rfl rfl)) (dt_at dt_Tape_clamp 13 rfl) ?_
  obtain rfl := os_of h
  exact W.lret (v := (9221120237041090560 : Int64)) hx hb hr (fun t ht hW => ⟨⟨_, (), rfl, rfl, ⟨(hPt hP ht), hT.t ht⟩⟩, hS.F ht⟩) hS.2.2 (dt_at dt_Tape_clamp 14 rfl)
set_option maxRecDepth 100000 in
set_option maxHeartbeats 4000000 in
theorem k_Tape_clamp_0 {p : Program} {l : Launch} {e : Env} {s : State} {m : MethodId} {args : Array Value} {below : List Frame} {meth : Method} {c : Code} {D : va_G} {a : Nat → Nat} {q : Nat → ClassId} {L : Nat} {R : Nat} {A : Nat → Prop} (hC : CX p s m args meth c prog_1_method_16_code 6 "OutwardTape" (some .long)) (hA : ∀ x, s.heap.size ≤ x → A x) (hK : va_K D CLS (tT q) s) {g0 : Int32} {g1 : Int32} {g2 : Nat → Int32} {g3 : Nat → Option Nat} {g4 : Int32} {g5 : Int32} {g6 : Nat → Int32} {g7 : Int32} {g8 : Int64} {g9 : Int32} {g10 : Int32} {g11 : Nat → Int32} {g12 : Int32} {g13 : Int64} {g14 : Int32} {g15 : Int32} {g16 : Nat → Int32} {g17 : Nat → Option (Int64 × Int64 × Int32)} {r0 : Int64} : ∀ (v1 : Int32) (v2 : Int64)  (H : Heap) (locs : List Loc) (ls : Array Slot), va_P D CLS (wT a q L R g0 g1 g2 g3 g4 g5 g6 g7 g8 g9 g10 g11 g12 g13 g14 g15 g16) H → va_D A (wT a q L R g0 g1 g2 g3 g4 g5 g6 g7 g8 g9 g10 g11 g12 g13 g14 g15 g16) → va_S A s.heap H locs → tapeC D (dT a) g3 g17 H → lv_has ls 6 [(0, .ref (a 0)), (1, .int v1), (2, .long v2)] → f_Tape_clamp_0  v1 v2 g1 g17 = some r0 → W p l e rm_Tape_clamp s m args below meth c H locs 0 0 (MQ below (va_Ql (fun (r : Int64) (_ : Unit) => r = r0) (fun _ t => va_P D CLS (wT a q L R g0 g1 g2 g3 g4 g5 g6 g7 g8 g9 g10 g11 g12 g13 g14 g15 g16) t.heap ∧ tapeC D (dT a) g3 g17 t.heap) A) args s 0 0 A) (F0 m 0 ls []) := by
  obtain ⟨hx, hb, hml, hown, hts, hr, hlocks⟩ := id hC
  intro v1 v2 H locs ls hP hD hS hT hl h
  rw [f_Tape_clamp_0] at h
  have hSz : s.heap.size ≤ H.size := hS.1
  refine lv_aload_n hx hb (dt_at dt_Tape_clamp 0 rfl) rfl (lv_at hl 0 rfl) ?_
  refine lv_iload_n hx hb (dt_at dt_Tape_clamp 1 rfl) rfl (lv_at hl 1 rfl) ?_
  obtain ⟨r1, h_r1, h⟩ := ob_of h
  have hPc := hP
  have hDc : va_D A (dT a) := dD (ws' := dT a) hD rfl
  have hKc := hK
  have hF := va_free (wc := dT a) hDc hS hA [0, 1, 2, 3, 4, 5, 6, 7, 8] rfl
  have hd : va_D (fun _ => True) (dT a) := hDc.weaken (fun _ _ _ _ => trivial)
  refine va_calli (va_runV (As := [.int v1]) (rest := []) ⟨hx, hb, hml, hown, hts⟩ (c_Tape_hasInterval l D a q L R hd H.size v1 g0 g1 g2 g3 g4 g5 g6 g7 g8 g9 g10 g11 g12 g13 g14 g15 g16 g17   r1 h_r1) (cwV 1 hts (gd_V (m_1 115 rfl rfl) (m_1 117 rfl rfl) (m_s 0 rfl rfl) (m_1 1 rfl rfl) (m_1 118 rfl rfl)) rfl rfl rfl (by decide +kernel) ⟨Nat.le_of_ble_eq_true rfl, Nat.le_of_ble_eq_true rfl⟩) ⟨fun a U g mk q => ⟨q.1, q.2.1, q.2.2.1, va_K.moved (u := U) (U := U.calling g mk a) (Vm.Alike.refl U.vm) q.2.2.2.1, q.2.2.2.2⟩, va_recv hK hP (ci := 1) (q0 := 0) rfl rfl, fun U hU hW => ⟨rfl, by rw [hU], by rw [hU]; exact hPc, va_K.moved hW.alike hKc, by rw [hU]; exact hT⟩⟩ rfl rfl hl.1 rfl (lv_room (Nat.le_of_ble_eq_true rfl)) (dt_at dt_Tape_clamp 2 rfl) ⟨Nat.le_of_ble_eq_true rfl, Nat.le_of_ble_eq_true rfl⟩) hS (fun x _ h9 => hF x h9) hF (fun u_r1 uu t H1 locs ht hvm hw hB hz1 hk1 hS => ?_)
  obtain rfl : r1 = u_r1 := hw.symm
  obtain ⟨hB, hT⟩ := hB
  rw [ht] at hT
  rw [ht] at hB
  have hP : va_P D CLS (wT a q L R g0 g1 g2 g3 g4 g5 g6 g7 g8 g9 g10 g11 g12 g13 g14 g15 g16) H1 := hB
  have hD : va_D A (wT a q L R g0 g1 g2 g3 g4 g5 g6 g7 g8 g9 g10 g11 g12 g13 g14 g15 g16) := dD hD rfl
  have hSz : s.heap.size ≤ H1.size := hS.1
  clear hk1 hz1 hPc hF hB ht
  generalize H1 = H at hP hS hSz  hT ⊢
  refine lv_if_eq (tgt := 27) hx hb (dt_at dt_Tape_clamp 3 rfl) (by decide) (fun c2 => ?_) (fun c2 => ?_)
  · have h := if_p h c2
    exact k_Tape_clamp_27 hC hA hK   H locs ls hP hD hS hT  (lv_sub hl [] rfl) h
  · have h := if_n h c2
    refine lv_aload_n hx hb (dt_at dt_Tape_clamp 4 rfl) rfl (lv_at hl 0 rfl) ?_
    refine va_get (D := D) (ci := 1) (v := .ref (a 2)) (C := "OutwardTape") (T := T_Tape) (N := 5) hx hb hts in_Tape hown hK hP 0 rfl rfl 2 (by decide) (hts (Cond.fieldLink "OutwardTape" 19 "OutwardTape" "cells" "[LOutwardTape$Cell;") (m_1 81 rfl rfl)) (fun _ h9 => h9) rfl (dt_at dt_Tape_clamp 5 rfl) ?_
    refine lv_iload_n hx hb (dt_at dt_Tape_clamp 6 rfl) rfl (lv_at hl 1 rfl) ?_
    obtain ⟨z4, h⟩ := og_of h
    obtain ⟨o3, h_o3, h⟩ := ob_of h
    obtain ⟨y_o3, hy_o3, hc_o3, hn_o3⟩ := hT _ _ h_o3
    refine ld_ref hx hb hK hP 2 1 rfl rfl z4 hy_o3 (dt_at dt_Tape_clamp 7 rfl) ?_
    skip
    obtain ⟨r5, h_r5, h⟩ := ob_of h
    have hPc : va_P D CLS (wE a q) H := fun k q h => by simp [wE] at h
    have hd : va_D (fun _ => True) (dE a) := dE_D a
    have hKc : va_K D CLS (tE q) s := hK.sub (tys' := []) [] rfl
    have hF : ∀ x, va_A (dE a) H.size x → A x := fun x h9 => h9.elim (fun ⟨k, e, h⟩ => by simp [dE] at h) (fun g => hA _ (Nat.le_trans hS.1 g))
    refine va_calli (va_runV (As := []) (rest := []) ⟨hx, hb, hml, hown, hts⟩ (c_Cell_hasNoPoint l D a q  hd H.size o3.1 o3.2.1 o3.2.2  y_o3 (nin_E a y_o3) r5 h_r5) (cwV 0 hts (gd_V (m_1 123 rfl rfl) (m_1 124 rfl rfl) (m_1 125 rfl rfl) (m_1 10 rfl rfl) (m_1 126 rfl rfl)) rfl rfl rfl (by decide +kernel) ⟨Nat.le_of_ble_eq_true rfl, Nat.le_of_ble_eq_true rfl⟩) ⟨fun a U g mk q => ⟨q.1, q.2.1, q.2.2.1, va_K.moved (u := U) (U := U.calling g mk a) (Vm.Alike.refl U.vm) q.2.2.2.1, q.2.2.2.2⟩, va_recv hK hc_o3 (ci := 4) (q0 := 0) rfl rfl, fun U hU hW => ⟨rfl, by rw [hU], by rw [hU]; exact hPc, va_K.moved hW.alike hKc, by rw [hU]; exact hc_o3⟩⟩ rfl rfl hl.1 rfl (lv_room (Nat.le_of_ble_eq_true rfl)) (dt_at dt_Tape_clamp 8 rfl) ⟨Nat.le_of_ble_eq_true rfl, Nat.le_of_ble_eq_true rfl⟩) hS (fun x _ h9 => hF x h9) hF (fun u_r5 uu t H1 locs ht hvm hw hB hz1 hk1 hS => ?_)
    obtain rfl : r5 = u_r5 := hw.symm
    have hc_o3 := isC.keptA hc_o3 hk1 (nin_E a y_o3)
    have hT := hT.keptE hk1
    have hP := va_P.kept hP (fun k q hq => hk1 _ (hP k q hq).lt (not_AE (hP k q hq).lt))
    have hSz : s.heap.size ≤ H1.size := hS.1
    clear hk1 hz1 hPc hF hB ht
    generalize H1 = H at hP hS hSz hc_o3 hT ⊢
    refine lv_if_ne (tgt := 27) hx hb (dt_at dt_Tape_clamp 9 rfl) (by decide) (fun c6 => ?_) (fun c6 => ?_)
    · have h := if_n h c6
      exact k_Tape_clamp_27 hC hA hK   H locs ls hP hD hS hT  (lv_sub hl [] rfl) h
    · have h := if_p h c6
      refine lv_lload_n hx hb (dt_at dt_Tape_clamp 10 rfl) rfl (lv_at hl 2 rfl) ?_
      obtain ⟨r7, h_r7, h⟩ := ob_of h
      refine vp_callSi (W.runS (As := [.long v2]) (rest := []) ⟨hx, hb, hml, hown, hts⟩ (c_Rank_isNumber l v2 r7 h_r7) (va_cwS 1 hts (gd_S (m_2 0 rfl rfl) (m_2 1 rfl rfl) (m_1 15 rfl rfl) (m_2 2 rfl rfl)) rfl rfl rfl (by decide +kernel) ⟨Nat.le_of_ble_eq_true rfl, Nat.le_of_ble_eq_true rfl⟩) ⟨fun _ _ _ _ q => q, fun U hU hW => ⟨rfl, trivial⟩⟩ rfl rfl hl.1 rfl (lv_room (Nat.le_of_ble_eq_true rfl)) (dt_at dt_Tape_clamp 11 rfl) ⟨Nat.le_of_ble_eq_true rfl, Nat.le_of_ble_eq_true rfl⟩) (fun u_r7 q_r7 => ?_)
      obtain rfl : r7 = u_r7 := q_r7.symm
      refine lv_if_ne (tgt := 31) hx hb (dt_at dt_Tape_clamp 12 rfl) (by decide) (fun c8 => ?_) (fun c8 => ?_)
      · have h := if_n h c8
        refine lv_aload_n hx hb (dt_at dt_Tape_clamp 15 rfl) rfl (lv_at hl 0 rfl) ?_
        refine va_get (D := D) (ci := 1) (v := .ref (a 2)) (C := "OutwardTape") (T := T_Tape) (N := 5) hx hb hts in_Tape hown hK hP 0 rfl rfl 2 (by decide) (hts (Cond.fieldLink "OutwardTape" 19 "OutwardTape" "cells" "[LOutwardTape$Cell;") (m_1 81 rfl rfl)) (fun _ h9 => h9) rfl (dt_at dt_Tape_clamp 16 rfl) ?_
        refine lv_iload_n hx hb (dt_at dt_Tape_clamp 17 rfl) rfl (lv_at hl 1 rfl) ?_
        obtain ⟨z10, h⟩ := og_of h
        obtain ⟨o9, h_o9, h⟩ := ob_of h
        obtain ⟨y_o9, hy_o9, hc_o9, hn_o9⟩ := hT _ _ h_o9
        refine ld_ref hx hb hK hP 2 1 rfl rfl z10 hy_o9 (dt_at dt_Tape_clamp 18 rfl) ?_
        skip
        refine va_get (D := D) (ci := 4) (v := .long o9.1) (C := "OutwardTape$Cell") (T := T_Cell) (N := 3) hx hb hts in_Cell hown hK hc_o9 0 rfl rfl 0 (by decide) (hts (Cond.fieldLink "OutwardTape" 105 "OutwardTape$Cell" "low" "J") (m_2 123 rfl rfl)) (fun _ h9 => h9) rfl (dt_at dt_Tape_clamp 19 rfl) ?_
        refine lv_lload_n hx hb (dt_at dt_Tape_clamp 20 rfl) rfl (lv_at hl 2 rfl) ?_
        obtain ⟨r11, h_r11, h⟩ := ob_of h
        refine vp_callSl (W.runS (As := [.long v2]) (rest := [.long o9.1]) ⟨hx, hb, hml, hown, hts⟩ (c_Rank_ofBits l v2 r11 h_r11) (va_cwS 1 hts (gd_S (m_2 4 rfl rfl) (m_2 5 rfl rfl) (m_1 15 rfl rfl) (m_2 6 rfl rfl)) rfl rfl rfl (by decide +kernel) ⟨Nat.le_of_ble_eq_true rfl, Nat.le_of_ble_eq_true rfl⟩) ⟨fun _ _ _ _ q => q, fun U hU hW => ⟨rfl, trivial⟩⟩ rfl rfl hl.1 rfl (lv_room (Nat.le_of_ble_eq_true rfl)) (dt_at dt_Tape_clamp 21 rfl) ⟨Nat.le_of_ble_eq_true rfl, Nat.le_of_ble_eq_true rfl⟩) (fun u_r11 q_r11 => ?_)
        obtain rfl : r11 = u_r11 := q_r11.symm
        obtain ⟨t12, e_t12, h⟩ := ol_of h
        refine va_mmax_long hx hb (hml.trans hl.1.symm) hown (hts (Cond.methodLink "OutwardTape" 136 Lib.MathLoose.max_long.x) (m_2 7 rfl rfl)) (hts (Cond.static Lib.MathLoose.max_long.x) (m_1 218 rfl rfl)) (hts (Cond.initialized "java/lang/Math") (m_1 9 rfl rfl)) (hts (Cond.code Lib.MathLoose.max_long.x Lib.MathLoose.max_long.code 4 (some .long)) (m_1 219 rfl rfl)) (Nat.le_of_ble_eq_true rfl) (Nat.le_of_ble_eq_true rfl) (Nat.le_of_ble_eq_true rfl) (Nat.le_of_ble_eq_true rfl) (dt_at dt_Tape_clamp 22 rfl) ?_
        refine lv_topl (fun u_t12 q_t12 => ?_)
        obtain rfl : t12 = u_t12 := e_t12.trans q_t12.symm
        refine lv_lstore (lv' := [(4, .long t12), (0, .ref (a 0)), (1, .int v1), (2, .long v2)]) hx hb (dt_at dt_Tape_clamp 23 rfl) hl (by decide) rfl (fun ls hl => ?_)
        refine lv_aload_n hx hb (dt_at dt_Tape_clamp 24 rfl) rfl (lv_at hl 1 rfl) ?_
        refine va_get (D := D) (ci := 1) (v := .ref (a 2)) (C := "OutwardTape") (T := T_Tape) (N := 5) hx hb hts in_Tape hown hK hP 0 rfl rfl 2 (by decide) (hts (Cond.fieldLink "OutwardTape" 19 "OutwardTape" "cells" "[LOutwardTape$Cell;") (m_1 81 rfl rfl)) (fun _ h9 => h9) rfl (dt_at dt_Tape_clamp 25 rfl) ?_
        refine lv_iload_n hx hb (dt_at dt_Tape_clamp 26 rfl) rfl (lv_at hl 2 rfl) ?_
        obtain ⟨z14, h⟩ := og_of h
        obtain ⟨o13, h_o13, h⟩ := ob_of h
        obtain ⟨y_o13, hy_o13, hc_o13, hn_o13⟩ := hT _ _ h_o13
        refine ld_ref hx hb hK hP 2 1 rfl rfl z14 hy_o13 (dt_at dt_Tape_clamp 27 rfl) ?_
        skip
        refine va_get (D := D) (ci := 4) (v := .long o13.2.1) (C := "OutwardTape$Cell") (T := T_Cell) (N := 3) hx hb hts in_Cell hown hK hc_o13 0 rfl rfl 1 (by decide) (hts (Cond.fieldLink "OutwardTape" 114 "OutwardTape$Cell" "high" "J") (m_2 130 rfl rfl)) (fun _ h9 => h9) rfl (dt_at dt_Tape_clamp 28 rfl) ?_
        refine lv_lload hx hb (dt_at dt_Tape_clamp 29 rfl) (lv_at hl 0 rfl) ?_
        obtain ⟨t15, e_t15, h⟩ := ol_of h
        refine va_mmin_long hx hb (hml.trans hl.1.symm) hown (hts (Cond.methodLink "OutwardTape" 142 Lib.MathLoose.min_long.x) (m_2 8 rfl rfl)) (hts (Cond.static Lib.MathLoose.min_long.x) (m_1 225 rfl rfl)) (hts (Cond.initialized "java/lang/Math") (m_1 9 rfl rfl)) (hts (Cond.code Lib.MathLoose.min_long.x Lib.MathLoose.min_long.code 4 (some .long)) (m_1 226 rfl rfl)) (Nat.le_of_ble_eq_true rfl) (Nat.le_of_ble_eq_true rfl) (Nat.le_of_ble_eq_true rfl) (Nat.le_of_ble_eq_true rfl) (dt_at dt_Tape_clamp 30 rfl) ?_
        refine lv_topl (fun u_t15 q_t15 => ?_)
        obtain rfl : t15 = u_t15 := e_t15.trans q_t15.symm
        obtain ⟨r16, h_r16, h⟩ := ob_of h
        refine vp_callSl (W.runS (As := [.long t15]) (rest := []) ⟨hx, hb, hml, hown, hts⟩ (c_Rank_toBits l t15 r16 h_r16) (va_cwS 1 hts (gd_S (m_1 133 rfl rfl) (m_1 134 rfl rfl) (m_1 15 rfl rfl) (m_1 135 rfl rfl)) rfl rfl rfl (by decide +kernel) ⟨Nat.le_of_ble_eq_true rfl, Nat.le_of_ble_eq_true rfl⟩) ⟨fun _ _ _ _ q => q, fun U hU hW => ⟨rfl, trivial⟩⟩ rfl rfl hl.1 rfl (lv_room (Nat.le_of_ble_eq_true rfl)) (dt_at dt_Tape_clamp 31 rfl) ⟨Nat.le_of_ble_eq_true rfl, Nat.le_of_ble_eq_true rfl⟩) (fun u_r16 q_r16 => ?_)
        obtain rfl : r16 = u_r16 := q_r16.symm
        obtain rfl := os_of h
        exact W.lret (v := r16) hx hb hr (fun t ht hW => ⟨⟨_, (), rfl, rfl, ⟨(hPt hP ht), hT.t ht⟩⟩, hS.F ht⟩) hS.2.2 (dt_at dt_Tape_clamp 32 rfl)
      · have h := if_p h c8
        exact k_Tape_clamp_27 hC hA hK   H locs ls hP hD hS hT  (lv_sub hl [] rfl) h
set_option maxRecDepth 100000 in
set_option maxHeartbeats 4000000 in
theorem c_Tape_clamp (l : Launch) (D : va_G) (a : Nat → Nat) (q : Nat → ClassId) (L : Nat) (R : Nat) (hd : va_D (fun _ => True) (dT a)) (sz : Nat) (a1 : Int32) (a2 : Int64) (g0 : Int32) (g1 : Int32) (g2 : Nat → Int32) (g3 : Nat → Option Nat) (g4 : Int32) (g5 : Int32) (g6 : Nat → Int32) (g7 : Int32) (g8 : Int64) (g9 : Int32) (g10 : Int32) (g11 : Nat → Int32) (g12 : Int32) (g13 : Int64) (g14 : Int32) (g15 : Int32) (g16 : Nat → Int32) (g17 : Nat → Option (Int64 × Int64 × Int32))   (r0 : Int64) (h : f_Tape_clamp a1 a2 g1 g17 = some r0) : Met l (⟨"OutwardTape", "clamp", "(IJ)J"⟩ : MethodName) (WSm (⟨"OutwardTape", "clamp", "(IJ)J"⟩ : MethodName) prog_1_method_16_code 6 (some .long)) rm_Tape_clamp (va_Pc [.ref (a 0), .int a1, .long a2] (fun U => U.heap.size = sz ∧ va_P D CLS (wT a q L R g0 g1 g2 g3 g4 g5 g6 g7 g8 g9 g10 g11 g12 g13 g14 g15 g16) U.heap ∧ va_K D CLS (tT q) U ∧ tapeC D (dT a) g3 g17 U.heap)) (va_Ql (fun (r : Int64) (_ : Unit) => r = r0) (fun _ t => va_P D CLS (wT a q L R g0 g1 g2 g3 g4 g5 g6 g7 g8 g9 g10 g11 g12 g13 g14 g15 g16) t.heap ∧ tapeC D (dT a) g3 g17 t.heap) (va_A (dT a) sz)) 0 0 (va_A (dT a) sz) := by
  refine Met.ofW (cc := prog_1_method_16_code) (maxL := 6) (ret := (some .long)) (by decide) rfl ?_
  intro p e s m args below meth c s₁ B hml hv
  obtain ⟨rfl, hsz, hP, hK, hT⟩ := hv
  subst hsz
  have hC := CX.of B hml rfl
  have hl := lv_entry [.ref (a 0), .int a1, .long a2] (n := 6) (Nat.le_of_ble_eq_true rfl)
  rw [lg_entry_eq]
  generalize (lg_sl [.ref (a 0), .int a1, .long a2] ++ List.replicate (6 - (lg_sl [.ref (a 0), .int a1, .long a2]).length) Slot.unset).toArray = ls at hl ⊢
  have hl : lv_has ls 6 [(0, .ref (a 0)), (1, .int a1), (2, .long a2)] := hl
  exact k_Tape_clamp_0  hC (fun x h => Or.inr h) hK a1 a2    s.heap [] ls hP (dD hd.self rfl) va_S.rf hT  (lv_sub hl [0, 1, 2] rfl) h
abbrev rm_Tape_clear : Room := { frames := 0, cells := 0, slots := 0, locals := 0 }
set_option maxRecDepth 100000 in
set_option maxHeartbeats 4000000 in
theorem k_Tape_clear_0 {p : Program} {l : Launch} {e : Env} {s : State} {m : MethodId} {args : Array Value} {below : List Frame} {meth : Method} {c : Code} {D : va_G} {a : Nat → Nat} {q : Nat → ClassId} {L : Nat} {R : Nat} {A : Nat → Prop} (hC : CX p s m args meth c prog_1_method_17_code 1 "OutwardTape" none) (hA : ∀ x, s.heap.size ≤ x → A x) (hK : va_K D CLS (tT q) s) {g0 : Int32} {g2 : Nat → Int32} {g3 : Nat → Option Nat} {g4 : Int32} {g5 : Int32} {g6 : Nat → Int32} {g7 : Int32} {g8 : Int64} {g9 : Int32} {g10 : Int32} {g11 : Nat → Int32} {g12 : Int32} {g13 : Int64} {g14 : Int32} {g15 : Int32} {g16 : Nat → Int32} {r0 : Int32} : ∀  (g1 : Int32) (H : Heap) (locs : List Loc) (ls : Array Slot), va_P D CLS (wT a q L R g0 g1 g2 g3 g4 g5 g6 g7 g8 g9 g10 g11 g12 g13 g14 g15 g16) H → va_D A (wT a q L R g0 g1 g2 g3 g4 g5 g6 g7 g8 g9 g10 g11 g12 g13 g14 g15 g16) → va_S A s.heap H locs → lv_has ls 1 [(0, .ref (a 0))] → f_Tape_clear_0  g1 = some r0 → W p l e rm_Tape_clear s m args below meth c H locs 0 0 (MQ below (va_Qv (fun _ : Unit => True) (fun _ t => va_P D CLS (wT a q L R g0 r0 g2 g3 g4 g5 g6 g7 g8 g9 g10 g11 g12 g13 g14 g15 g16) t.heap) A) args s 0 0 A) (F0 m 0 ls []) := by
  obtain ⟨hx, hb, hml, hown, hts, hr, hlocks⟩ := id hC
  intro g1 H locs ls hP hD hS hl h
  rw [f_Tape_clear_0] at h
  have hSz : s.heap.size ≤ H.size := hS.1
  refine lv_aload_n hx hb (dt_at dt_Tape_clear 0 rfl) rfl (lv_at hl 0 rfl) ?_
  refine lv_iconst (v := 0) hx hb (dt_at dt_Tape_clear 1 rfl) (by decide) ?_
  refine va_put (D := D) (ci := 1) (v := .int (0 : Int32)) (ty := .int) (C := "OutwardTape") (T := T_Tape) (N := 5) hx hb hts in_Tape ty_Tape tk_Tape nm_Tape hown hK hP hD hS 0 rfl rfl 3 (by decide) (hts (Cond.fieldLink "OutwardTape" 23 "OutwardTape" "count" "I") (m_1 82 rfl rfl)) (fun _ h9 => h9) rfl (by decide +kernel) rfl rfl (Nat.le_of_ble_eq_true rfl) (dt_at dt_Tape_clear 2 rfl) (fun H locs hP hD hS => ?_)
  have hP : va_P D CLS (wT a q L R g0 (0 : Int32) g2 g3 g4 g5 g6 g7 g8 g9 g10 g11 g12 g13 g14 g15 g16) H := hP
  have hD : va_D A (wT a q L R g0 (0 : Int32) g2 g3 g4 g5 g6 g7 g8 g9 g10 g11 g12 g13 g14 g15 g16) := hD
  obtain rfl := os_of h
  exact W.vret hx hb hr (fun t ht hW => ⟨⟨(), rfl, trivial, (hPt hP ht)⟩, hS.F ht⟩) hS.2.2 (dt_at dt_Tape_clear 3 rfl)
set_option maxRecDepth 100000 in
set_option maxHeartbeats 4000000 in
theorem c_Tape_clear (l : Launch) (D : va_G) (a : Nat → Nat) (q : Nat → ClassId) (L : Nat) (R : Nat) (hd : va_D (fun _ => True) (dT a)) (sz : Nat)  (g0 : Int32) (g1 : Int32) (g2 : Nat → Int32) (g3 : Nat → Option Nat) (g4 : Int32) (g5 : Int32) (g6 : Nat → Int32) (g7 : Int32) (g8 : Int64) (g9 : Int32) (g10 : Int32) (g11 : Nat → Int32) (g12 : Int32) (g13 : Int64) (g14 : Int32) (g15 : Int32) (g16 : Nat → Int32)   (r0 : Int32) (h : f_Tape_clear g1 = some r0) : Met l (⟨"OutwardTape", "clear", "()V"⟩ : MethodName) (WSm (⟨"OutwardTape", "clear", "()V"⟩ : MethodName) prog_1_method_17_code 1 none) rm_Tape_clear (va_Pc [.ref (a 0)] (fun U => U.heap.size = sz ∧ va_P D CLS (wT a q L R g0 g1 g2 g3 g4 g5 g6 g7 g8 g9 g10 g11 g12 g13 g14 g15 g16) U.heap ∧ va_K D CLS (tT q) U)) (va_Qv (fun _ : Unit => True) (fun _ t => va_P D CLS (wT a q L R g0 r0 g2 g3 g4 g5 g6 g7 g8 g9 g10 g11 g12 g13 g14 g15 g16) t.heap) (va_A (dT a) sz)) 0 0 (va_A (dT a) sz) := by
  refine Met.ofW (cc := prog_1_method_17_code) (maxL := 1) (ret := none) (by decide) rfl ?_
  intro p e s m args below meth c s₁ B hml hv
  obtain ⟨rfl, hsz, hP, hK⟩ := hv
  subst hsz
  have hC := CX.of B hml rfl
  have hl := lv_entry [.ref (a 0)] (n := 1) (Nat.le_of_ble_eq_true rfl)
  rw [lg_entry_eq]
  generalize (lg_sl [.ref (a 0)] ++ List.replicate (1 - (lg_sl [.ref (a 0)]).length) Slot.unset).toArray = ls at hl ⊢
  have hl : lv_has ls 1 [(0, .ref (a 0))] := hl
  exact k_Tape_clear_0  hC (fun x h => Or.inr h) hK  g1   s.heap [] ls hP (dD hd.self rfl) va_S.rf   (lv_sub hl [0] rfl) h
