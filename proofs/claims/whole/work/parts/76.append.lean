theorem W_mono {p : Program} {l : Launch} {e : Env} {R : Room} {s : State} {m : MethodId} {args : Array Value} {below : List Frame} {meth : Method} {c : Code} {H : Heap} {locs : List Loc} {cells slots : Nat} {Q Q' : State → Prop} {g : JFrame} (h : ∀ t, Q t → Q' t) (k : W p l e R s m args below meth c H locs cells slots Q g) : W p l e R s m args below meth c H locs cells slots Q' g := fun T hT X => by
  obtain ⟨t, a, b⟩ := k T hT X
  exact ⟨t, a, h t b⟩
theorem MQT.mono {below : List Frame} {Qt : Array Value → State → Addr → State → Prop} {a : Array Value} {s : State} {mc ms mc' ms' : Nat} {t : State} (h : MQT below Qt a s mc ms t) (h1 : mc ≤ mc') (h2 : ms ≤ ms') : MQT below Qt a s mc' ms' t := by
  obtain ⟨x, b1, b2, b3, b4, b5⟩ := h
  exact ⟨x, b1, b2, b3, b4, b5.mono h1 h2⟩
theorem isC.viaS {D : va_G} {A : Nat → Prop} {H0 H H1 : Heap} {l1 l2 : List Loc} {y : Nat} {l h : Int64} {m : Int32} (hc : isC D H y l h m) (hS : va_S A H0 H l1) (hS1 : va_S A H0 H1 l2) (hy : y < H0.size) (hn : ¬ A y) : isC D H1 y l h m :=
  hc.kept ((hS1.2.1 y hy hn).trans (hS.2.1 y hy hn).symm)
abbrev rm_Tape_append : Room := { frames := 0, cells := 0, slots := 0, locals := 0 }
def dl_Tape_append : List (Nat × Instr × Nat) := [(0, .aload_n 0, 1), (1, .getfield 19, 3), (4, .aload_n 0, 1), (5, .getfield 23, 3), (8, .aload_n 1, 1), (9, .aastore, 1), (10, .aload_n 0, 1), (11, .dup, 1), (12, .getfield 23, 3), (15, .iconst 1, 1), (16, .iadd, 1), (17, .putfield 23, 3), (20, .aload_n 0, 1), (21, .getfield 23, 3), (24, .iconst 1, 1), (25, .isub, 1), (26, .ireturn, 1)]
theorem dt_Tape_append : dtbl prog_1_method_20_code dl_Tape_append = true := by decide +kernel
set_option maxRecDepth 100000 in
set_option maxHeartbeats 4000000 in
theorem c_Tape_append (l : Launch) (D : va_G) (a : Nat → Nat) (q : Nat → ClassId) (L : Nat) (R : Nat) (hd : va_D (fun _ => True) (dT a)) (sz : Nat) (a1_l : Int64) (a1_h : Int64) (a1_m : Int32) (g0 : Int32) (g1 : Int32) (g2 : Nat → Int32) (g3 : Nat → Option Nat) (g4 : Int32) (g5 : Int32) (g6 : Nat → Int32) (g7 : Int32) (g8 : Int64) (g9 : Int32) (g10 : Int32) (g11 : Nat → Int32) (g12 : Int32) (g13 : Int64) (g14 : Int32) (g15 : Int32) (g16 : Nat → Int32) (g17 : Nat → Option (Int64 × Int64 × Int32)) (y_a1 : Nat) (hn_a1 : nin (dT a) y_a1) (r0 : Int32 × Int32 × (Nat → Option (Int64 × Int64 × Int32))) (h : f_Tape_append a1_l a1_h a1_m g1 g17 = some r0) : Met l (⟨"OutwardTape", "append", "(LOutwardTape$Cell;)I"⟩ : MethodName) (WSm (⟨"OutwardTape", "append", "(LOutwardTape$Cell;)I"⟩ : MethodName) prog_1_method_20_code 2 (some .int)) rm_Tape_append (va_Pc [.ref (a 0), .ref y_a1] (fun U => U.heap.size = sz ∧ va_P D CLS (wT a q L R g0 g1 g2 g3 g4 g5 g6 g7 g8 g9 g10 g11 g12 g13 g14 g15 g16) U.heap ∧ va_K D CLS (tT q) U ∧ tapeC D (dT a) g3 g17 U.heap ∧ isC D U.heap y_a1 a1_l a1_h a1_m)) (va_Qi (fun (r : Int32) (_ : Unit) => r = r0.1) (fun _ t => ∃ g3n : Nat → Option Nat, va_P D CLS (wT a q L R g0 r0.2.1 g2 g3n g4 g5 g6 g7 g8 g9 g10 g11 g12 g13 g14 g15 g16) t.heap ∧ tapeC D (dT a) g3n r0.2.2 t.heap) (va_A (dT a) sz)) 0 0 (va_A (dT a) sz) := by
  refine Met.ofW (cc := prog_1_method_20_code) (maxL := 2) (ret := (some .int)) (by decide) rfl ?_
  intro p e s m args below meth c s₁ B hml hv
  obtain ⟨rfl, hsz, hP, hK, hT, hc⟩ := hv
  subst hsz
  obtain ⟨hx, hb, hml, hown, hts, hr, hlocks⟩ := CX.of B hml rfl
  have hl := lv_entry [.ref (a 0), .ref y_a1] (n := 2) (Nat.le_of_ble_eq_true rfl)
  rw [lg_entry_eq]
  generalize (lg_sl [.ref (a 0), .ref y_a1] ++ List.replicate (2 - (lg_sl [.ref (a 0), .ref y_a1]).length) Slot.unset).toArray = ls at hl ⊢
  have hl : lv_has ls 2 [(0, .ref (a 0)), (1, .ref y_a1)] := hl
  unfold f_Tape_append at h
  obtain ⟨hz, h⟩ := og_of h
  obtain rfl := os_of h
  have hD : va_D (va_A (dT a) s.heap.size) (wT a q L R g0 g1 g2 g3 g4 g5 g6 g7 g8 g9 g10 g11 g12 g13 g14 g15 g16) := dD hd.self rfl
  have hS0 : va_S (va_A (dT a) s.heap.size) s.heap s.heap [] := va_S.rf
  have hcl := hc.lt
  refine lv_aload_n hx hb (dt_at dt_Tape_append 0 rfl) rfl (lv_at hl 0 rfl) ?_
  refine va_get (D := D) (ci := 1) (v := .ref (a 2)) (C := "OutwardTape") (T := T_Tape) (N := 5) hx hb hts in_Tape hown hK hP 0 rfl rfl 2 (by decide) (hts (Cond.fieldLink "OutwardTape" 19 "OutwardTape" "cells" "[LOutwardTape$Cell;") (m_1 81 rfl rfl)) (fun _ h9 => h9) rfl (dt_at dt_Tape_append 1 rfl) ?_
  refine lv_aload_n hx hb (dt_at dt_Tape_append 2 rfl) rfl (lv_at hl 0 rfl) ?_
  refine va_get (D := D) (ci := 1) (v := .int g1) (C := "OutwardTape") (T := T_Tape) (N := 5) hx hb hts in_Tape hown hK hP 0 rfl rfl 3 (by decide) (hts (Cond.fieldLink "OutwardTape" 23 "OutwardTape" "count" "I") (m_1 82 rfl rfl)) (fun _ h9 => h9) rfl (dt_at dt_Tape_append 3 rfl) ?_
  refine lv_aload_n hx hb (dt_at dt_Tape_append 4 rfl) rfl (lv_at hl 1 rfl) ?_
  refine va_astqM (E := "OutwardTape$Cell") hx hb hK hP hD hS0 2 1 rfl rfl (va_rAny hK hc (q0 := 0) (ci := 4) rfl rfl (fun comp c0 h1 h2 => by cases h1.symm.trans h2; exact va_asg _ _)) hz (dt_at dt_Tape_append 5 rfl) (fun H locs hP hD hS => ?_)
  have hP : va_P D CLS (wT a q L R g0 g1 g2 (va_up g3 g1.toNatClampNeg (some y_a1)) g4 g5 g6 g7 g8 g9 g10 g11 g12 g13 g14 g15 g16) H := hP
  have hD : va_D (va_A (dT a) s.heap.size) (wT a q L R g0 g1 g2 (va_up g3 g1.toNatClampNeg (some y_a1)) g4 g5 g6 g7 g8 g9 g10 g11 g12 g13 g14 g15 g16) := dD hD rfl
  have hT1 : ∀ (H2 : Heap) (l2 : List Loc), va_S (va_A (dT a) s.heap.size) s.heap H2 l2 → tapeC D (dT a) (va_up g3 g1.toNatClampNeg (some y_a1)) (va_up g17 g1.toNatClampNeg (some (a1_l, a1_h, a1_m))) H2 := by
    intro H2 l2 hS2 i v hv
    by_cases hi : i = g1.toNatClampNeg
    · subst hi
      have e1 : va_up g17 g1.toNatClampNeg (some (a1_l, a1_h, a1_m)) g1.toNatClampNeg = some (a1_l, a1_h, a1_m) := by simp [va_up]
      rw [e1] at hv
      cases hv
      exact ⟨y_a1, by simp [va_up], hc.viaS hS0 hS2 hcl (not_va_A hn_a1 hcl), hn_a1⟩
    · have e1 : va_up g17 g1.toNatClampNeg (some (a1_l, a1_h, a1_m)) i = g17 i := by simp [va_up, hi]
      rw [e1] at hv
      obtain ⟨y, h1, h2, h3⟩ := hT i v hv
      exact ⟨y, by simp [va_up, hi, h1], h2.viaS hS0 hS2 h2.lt (not_va_A h3 h2.lt), h3⟩
  refine lv_aload_n hx hb (dt_at dt_Tape_append 6 rfl) rfl (lv_at hl 0 rfl) ?_
  refine lv_dup hx hb (dt_at dt_Tape_append 7 rfl) rfl ?_
  refine va_get (D := D) (ci := 1) (v := .int g1) (C := "OutwardTape") (T := T_Tape) (N := 5) hx hb hts in_Tape hown hK hP 0 rfl rfl 3 (by decide) (hts (Cond.fieldLink "OutwardTape" 23 "OutwardTape" "count" "I") (m_1 82 rfl rfl)) (fun _ h9 => h9) rfl (dt_at dt_Tape_append 8 rfl) ?_
  refine lv_iconst (v := 1) hx hb (dt_at dt_Tape_append 9 rfl) (by decide) ?_
  refine lv_iadd hx hb (dt_at dt_Tape_append 10 rfl) ?_
  refine va_put (D := D) (ci := 1) (v := .int (g1 + 1)) (ty := .int) (C := "OutwardTape") (T := T_Tape) (N := 5) hx hb hts in_Tape ty_Tape tk_Tape nm_Tape hown hK hP hD hS 0 rfl rfl 3 (by decide) (hts (Cond.fieldLink "OutwardTape" 23 "OutwardTape" "count" "I") (m_1 82 rfl rfl)) (fun _ h9 => h9) rfl (by decide +kernel) rfl rfl (Nat.le_of_ble_eq_true rfl) (dt_at dt_Tape_append 11 rfl) (fun H locs hP hD hS => ?_)
  have hP : va_P D CLS (wT a q L R g0 (g1 + 1) g2 (va_up g3 g1.toNatClampNeg (some y_a1)) g4 g5 g6 g7 g8 g9 g10 g11 g12 g13 g14 g15 g16) H := hP
  refine lv_aload_n hx hb (dt_at dt_Tape_append 12 rfl) rfl (lv_at hl 0 rfl) ?_
  refine va_get (D := D) (ci := 1) (v := .int (g1 + 1)) (C := "OutwardTape") (T := T_Tape) (N := 5) hx hb hts in_Tape hown hK hP 0 rfl rfl 3 (by decide) (hts (Cond.fieldLink "OutwardTape" 23 "OutwardTape" "count" "I") (m_1 82 rfl rfl)) (fun _ h9 => h9) rfl (dt_at dt_Tape_append 13 rfl) ?_
  refine lv_iconst (v := 1) hx hb (dt_at dt_Tape_append 14 rfl) (by decide) ?_
  refine lv_isub hx hb (dt_at dt_Tape_append 15 rfl) ?_
  exact W.iret (v := g1 + 1 - 1) hx hb hr (fun t ht hW => ⟨⟨_, (), rfl, rfl, _, hPt hP ht, (hT1 H locs hS).t ht⟩, hS.F ht⟩) hS.2.2 (dt_at dt_Tape_append 16 rfl)
