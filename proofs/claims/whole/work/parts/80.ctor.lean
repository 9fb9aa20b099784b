-- written by wip/gen/ctor.py: the constructors
def dl_Num_init : List (Nat × Instr × Nat) := [(0, .aload_n 0, 1), (1, .invokespecial 1, 3), (4, .aload_n 0, 1), (5, .bipush (28), 2), (7, .newarray .int, 2), (9, .putfield 9, 3), (12, .return_, 1)]
theorem dt_Num_init : dtbl prog_6_method_1_code dl_Num_init = true := by decide +kernel
abbrev rm_Num_init : Room := { frames := 1, cells := 1, slots := 28, locals := 12 }
set_option maxRecDepth 100000 in
set_option maxHeartbeats 800000 in
theorem c_Num_init (l : Launch) (D : va_G) (o : Nat) (sz : Nat) : Met l (⟨"OutwardTape$Numeral", "<init>", "()V"⟩ : MethodName) (WSm (⟨"OutwardTape$Numeral", "<init>", "()V"⟩ : MethodName) prog_6_method_1_code 1 none) rm_Num_init (va_Pc [.ref o] (fun U => U.heap.size = sz ∧ va_P D CLS [(o, .inr (3, [.null, .int 0, .long 0, .int 0, .int 0]))] U.heap ∧ va_K D CLS [] U)) (va_Qv (fun _ : Unit => True) (fun _ t => ∃ (r1 : Nat) (e1 : ClassId), va_P D CLS [(o, .inr (3, [.ref r1, .int 0, .long 0, .int 0, .int 0])), (r1, .inl (e1, 28, .inl (fun _ => 0)))] t.heap ∧ va_K D CLS [(e1, .int)] t ∧ va_D (va_A [(o, .inr (3, [.null, .int 0, .long 0, .int 0, .int 0]))] sz) [(o, .inr (3, [.ref r1, .int 0, .long 0, .int 0, .int 0])), (r1, .inl (e1, 28, .inl (fun _ => 0)))]) (va_A [(o, .inr (3, [.null, .int 0, .long 0, .int 0, .int 0]))] sz)) 1 28 (va_A [(o, .inr (3, [.null, .int 0, .long 0, .int 0, .int 0]))] sz) := by
  refine Met.ofW (cc := prog_6_method_1_code) (maxL := 1) (ret := none) (by decide) rfl ?_
  intro p e s m args below meth c s₁ B hml hv
  obtain ⟨rfl, hsz, hP, hK⟩ := hv
  subst hsz
  obtain ⟨hx, hb, hml, hown, hts, hr, hlocks⟩ := CX.of B hml rfl
  have hin : meth.name = "<init>" := (name_of_methodNamed B.named B.method).1
  have hD0 : va_D (fun _ => True) [(o, .inr (3, [.null, .int 0, .long 0, .int 0, .int 0]))] := ⟨fun i j p q hi hj _ => by have h1 : i < 1 := (List.getElem?_eq_some_iff.mp hi).1; have h2 : j < 1 := (List.getElem?_eq_some_iff.mp hj).1; omega, fun _ _ _ => trivial⟩
  have hD := hD0.self (sz := s.heap.size)
  generalize hAe : va_A [(o, .inr (3, [.null, .int 0, .long 0, .int 0, .int 0]))] s.heap.size = A at hD ⊢
  have hA : ∀ q : Nat, s.heap.size ≤ q → A q := fun q h => by rw [← hAe]; exact Or.inr h
  have hS : va_S A s.heap s.heap [] := va_S.rf
  have hl := lv_entry [.ref o] (n := 1) (Nat.le_of_ble_eq_true rfl)
  rw [lg_entry_eq]
  generalize (lg_sl [.ref o] ++ List.replicate (1 - (lg_sl [.ref o]).length) Slot.unset).toArray = ls at hl ⊢
  have hl : lv_has ls 1 [(0, .ref o)] := hl
  refine lv_aload_n hx hb (dt_at dt_Num_init 0 rfl) rfl (lv_at hl 0 rfl) ?_
  refine W.objInit hx hb hown (hts (Cond.methodLink "OutwardTape$Numeral" 1 Lib.objectInit) (m_1 44 rfl rfl)) (hts (Cond.instanceMethod Lib.objectInit) (m_1 29 rfl rfl)) (hts (Cond.code Lib.objectInit ⟨#[0xb1]⟩ 1 none) (m_1 30 rfl rfl)) rfl (by rw [hml]; exact hl.1) rfl (dt_at dt_Num_init 1 rfl) (Nat.le_of_ble_eq_true rfl) (Nat.le_of_ble_eq_true rfl) ?_
  refine W.eq (g2 := F0 m 4 ls []) rfl ?_
  refine lv_aload_n hx hb (dt_at dt_Num_init 2 rfl) rfl (lv_at hl 0 rfl) ?_
  refine lv_bipush (v := 28) hx hb (dt_at dt_Num_init 3 rfl) (by decide) ?_
  refine va_newa (atype := .int) (ty := .int) (N' := 28) (a0 := (28, .inl (fun _ => 0))) hx hb (hts (Cond.arrayClass .int) (m_1 62 rfl rfl)) rfl hK hP hD hS hA (fun _ => rfl) (by decide) (by decide) (by decide) (Nat.le_of_ble_eq_true rfl) (Nat.le_of_ble_eq_true rfl) (dt_at dt_Num_init 4 rfl) (fun r1 e1 H hK hP hD hS => ?_)
  have hP : va_P D CLS [(o, .inr (3, [.null, .int 0, .long 0, .int 0, .int 0])), (r1, .inl (e1, 28, .inl (fun _ => 0)))] H := hP
  have hD : va_D A [(o, .inr (3, [.null, .int 0, .long 0, .int 0, .int 0])), (r1, .inl (e1, 28, .inl (fun _ => 0)))] := dD hD rfl
  have hK : va_K D CLS [(e1, .int)] s := hK
  refine W.widen (k := 1) (n := 28) (Nat.le_of_ble_eq_true rfl) (Nat.le_of_ble_eq_true rfl) ?_
  refine va_putF (D := D) (ci := 3) (v := .ref r1) (ty := .array .int) (C := "OutwardTape$Numeral") (T := T_Num) (N := 5) hx hb hts in_Num ty_Num tk_Num nm_Num hown hK hP hD hS 0 rfl rfl 0 (by decide) (hts (Cond.fieldLink "OutwardTape$Numeral" 9 "OutwardTape$Numeral" "row" "[I") (m_1 45 rfl rfl)) (fun _ h9 => h9) rfl hin rfl (by decide +kernel) rfl rfl (Nat.le_of_ble_eq_true rfl) (dt_at dt_Num_init 5 rfl) (fun H locs hP hD hS => ?_)
  have hP : va_P D CLS [(o, .inr (3, [.ref r1, .int 0, .long 0, .int 0, .int 0])), (r1, .inl (e1, 28, .inl (fun _ => 0)))] H := hP
  have hD : va_D A [(o, .inr (3, [.ref r1, .int 0, .long 0, .int 0, .int 0])), (r1, .inl (e1, 28, .inl (fun _ => 0)))] := dD hD rfl
  exact W.vret hx hb hr (fun t ht hW => ⟨⟨(), rfl, trivial, r1, e1, hPt hP ht, va_K.moved hW.alike hK, hD⟩, hS.F ht⟩) hS.2.2 (dt_at dt_Num_init 6 rfl)
def dl_Rd_init : List (Nat × Instr × Nat) := [(0, .aload_n 0, 1), (1, .invokespecial 3, 3), (4, .aload_n 0, 1), (5, .new 9, 3), (8, .dup, 1), (9, .invokespecial 11, 3), (12, .putfield 12, 3), (15, .aload_n 0, 1), (16, .new 9, 3), (19, .dup, 1), (20, .invokespecial 11, 3), (23, .putfield 18, 3), (26, .aload_n 0, 1), (27, .bipush (60), 2), (29, .newarray .char, 2), (31, .putfield 21, 3), (34, .aload_n 0, 1), (35, .iconst (0), 1), (36, .putfield 25, 3), (39, .aload_n 0, 1), (40, .iconst (0), 1), (41, .putfield 29, 3), (44, .return_, 1)]
theorem dt_Rd_init : dtbl prog_5_method_1_code dl_Rd_init = true := by decide +kernel
abbrev rm_Rd_init : Room := { frames := 2, cells := 5, slots := 126, locals := 32 }
set_option maxRecDepth 100000 in
set_option maxHeartbeats 800000 in
theorem c_Rd_init (l : Launch) (D : va_G) (o : Nat) (sz : Nat) : Met l (⟨"OutwardTape$LiteralReader", "<init>", "()V"⟩ : MethodName) (WSm (⟨"OutwardTape$LiteralReader", "<init>", "()V"⟩ : MethodName) prog_5_method_1_code 1 none) rm_Rd_init (va_Pc [.ref o] (fun U => U.heap.size = sz ∧ va_P D CLS [(o, .inr (2, [.null, .null, .null, .int 0, .int 0]))] U.heap ∧ va_K D CLS [] U)) (va_Qv (fun _ : Unit => True) (fun _ t => ∃ (r1 r2 r4 r5 r7 : Nat) (e3 e6 e7 : ClassId), va_P D CLS [(o, .inr (2, [.ref r1, .ref r4, .ref r7, .int 0, .int 0])), (r1, .inr (3, [.ref r2, .int 0, .long 0, .int 0, .int 0])), (r2, .inl (e3, 28, .inl (fun _ => 0))), (r4, .inr (3, [.ref r5, .int 0, .long 0, .int 0, .int 0])), (r5, .inl (e6, 28, .inl (fun _ => 0))), (r7, .inl (e7, 60, .inl (fun _ => 0)))] t.heap ∧ va_K D CLS [(e3, .int), (e6, .int), (e7, .char)] t ∧ va_D (va_A [(o, .inr (2, [.null, .null, .null, .int 0, .int 0]))] sz) [(o, .inr (2, [.ref r1, .ref r4, .ref r7, .int 0, .int 0])), (r1, .inr (3, [.ref r2, .int 0, .long 0, .int 0, .int 0])), (r2, .inl (e3, 28, .inl (fun _ => 0))), (r4, .inr (3, [.ref r5, .int 0, .long 0, .int 0, .int 0])), (r5, .inl (e6, 28, .inl (fun _ => 0))), (r7, .inl (e7, 60, .inl (fun _ => 0)))]) (va_A [(o, .inr (2, [.null, .null, .null, .int 0, .int 0]))] sz)) 5 126 (va_A [(o, .inr (2, [.null, .null, .null, .int 0, .int 0]))] sz) := by
  refine Met.ofW (cc := prog_5_method_1_code) (maxL := 1) (ret := none) (by decide) rfl ?_
  intro p e s m args below meth c s₁ B hml hv
  obtain ⟨rfl, hsz, hP, hK⟩ := hv
  subst hsz
  obtain ⟨hx, hb, hml, hown, hts, hr, hlocks⟩ := CX.of B hml rfl
  have hin : meth.name = "<init>" := (name_of_methodNamed B.named B.method).1
  have hD0 : va_D (fun _ => True) [(o, .inr (2, [.null, .null, .null, .int 0, .int 0]))] := ⟨fun i j p q hi hj _ => by have h1 : i < 1 := (List.getElem?_eq_some_iff.mp hi).1; have h2 : j < 1 := (List.getElem?_eq_some_iff.mp hj).1; omega, fun _ _ _ => trivial⟩
  have hD := hD0.self (sz := s.heap.size)
  generalize hAe : va_A [(o, .inr (2, [.null, .null, .null, .int 0, .int 0]))] s.heap.size = A at hD ⊢
  have hA : ∀ q : Nat, s.heap.size ≤ q → A q := fun q h => by rw [← hAe]; exact Or.inr h
  have hS : va_S A s.heap s.heap [] := va_S.rf
  have hl := lv_entry [.ref o] (n := 1) (Nat.le_of_ble_eq_true rfl)
  rw [lg_entry_eq]
  generalize (lg_sl [.ref o] ++ List.replicate (1 - (lg_sl [.ref o]).length) Slot.unset).toArray = ls at hl ⊢
  have hl : lv_has ls 1 [(0, .ref o)] := hl
  refine lv_aload_n hx hb (dt_at dt_Rd_init 0 rfl) rfl (lv_at hl 0 rfl) ?_
  refine W.objInit hx hb hown (hts (Cond.methodLink "OutwardTape$LiteralReader" 3 Lib.objectInit) (m_1 38 rfl rfl)) (hts (Cond.instanceMethod Lib.objectInit) (m_1 29 rfl rfl)) (hts (Cond.code Lib.objectInit ⟨#[0xb1]⟩ 1 none) (m_1 30 rfl rfl)) rfl (by rw [hml]; exact hl.1) rfl (dt_at dt_Rd_init 1 rfl) (Nat.le_of_ble_eq_true rfl) (Nat.le_of_ble_eq_true rfl) ?_
  refine W.eq (g2 := F0 m 4 ls []) rfl ?_
  refine lv_aload_n hx hb (dt_at dt_Rd_init 2 rfl) rfl (lv_at hl 0 rfl) ?_
  refine va_new (ci := 3) (fs := [.null, .int 0, .long 0, .int 0, .int 0]) (C := "OutwardTape$Numeral") (T := T_Num) (N := 5) hx hb hts in_Num ty_Num tk_Num hown (hts (Cond.classLink "OutwardTape$LiteralReader" 9 "OutwardTape$Numeral") (m_1 39 rfl rfl)) (hts (Cond.instantiable "OutwardTape$Numeral" 5) (m_1 40 rfl rfl)) (hts (Cond.initialized "OutwardTape$Numeral") (m_1 3 rfl rfl)) hK hP hD hS hA rfl (fun j hj => by rcases (show j = 0 ∨ j = 1 ∨ j = 2 ∨ j = 3 ∨ j = 4 by omega) with rfl | rfl | rfl | rfl | rfl <;> rfl) (Nat.le_of_ble_eq_true rfl) (Nat.le_of_ble_eq_true rfl) (dt_at dt_Rd_init 3 rfl) (fun r1 H hP hD hS => ?_)
  have hP : va_P D CLS [(o, .inr (2, [.null, .null, .null, .int 0, .int 0])), (r1, .inr (3, [.null, .int 0, .long 0, .int 0, .int 0]))] H := hP
  have hD : va_D A [(o, .inr (2, [.null, .null, .null, .int 0, .int 0])), (r1, .inr (3, [.null, .int 0, .long 0, .int 0, .int 0]))] := dD hD rfl
  refine W.widen (k := 1) (n := 5) (Nat.le_of_ble_eq_true rfl) (Nat.le_of_ble_eq_true rfl) ?_
  refine lv_dup hx hb (dt_at dt_Rd_init 4 rfl) rfl ?_
  have hPc := hP.sub (ws' := [(r1, .inr (3, [.null, .int 0, .long 0, .int 0, .int 0]))]) [1] rfl
  have hKc := hK.sub (tys' := []) [] rfl
  have hFc := va_free (wc := [(r1, .inr (3, [.null, .int 0, .long 0, .int 0, .int 0]))]) hD hS hA [1] rfl
  refine va_callv (va_runI (As := []) (rest := [.ref r1, .ref o]) ⟨hx, hb, hml, hown, hts⟩ (c_Num_init l D r1 H.size) (cwI 0 hts (gd_c (m_1 43 rfl rfl)) rfl rfl rfl (hts (Cond.initialized "OutwardTape$Numeral") (m_1 3 rfl rfl)) (hts (Cond.methodLink "OutwardTape$LiteralReader" 11 (⟨"OutwardTape$Numeral", "<init>", "()V"⟩ : MethodName)) (m_1 41 rfl rfl)) (hts (Cond.instanceMethod (⟨"OutwardTape$Numeral", "<init>", "()V"⟩ : MethodName)) (m_1 42 rfl rfl)) rfl (by decide +kernel) ⟨Nat.le_of_ble_eq_true rfl, Nat.le_of_ble_eq_true rfl⟩) ⟨fun a U g mk q => ⟨q.1, q.2.1, q.2.2.1, va_K.moved (u := U) (U := U.calling g mk a) (Vm.Alike.refl U.vm) q.2.2.2⟩, fun U hU hW => ⟨rfl, by rw [hU], by rw [hU]; exact hPc, va_K.moved hW.alike hKc⟩⟩ rfl rfl hl.1 rfl (lv_room (Nat.le_of_ble_eq_true rfl)) (dt_at dt_Rd_init 5 rfl) ⟨Nat.le_of_ble_eq_true rfl, Nat.le_of_ble_eq_true rfl⟩) hS (fun q _ h => hFc q h) hFc (fun uu t H1 locs ht hvm hw hB hz1 hk1 hS => ?_)
  obtain ⟨r2, e3, hP1, hK1, hD1⟩ := hB
  rw [ht] at hP1
  have hK1 := va_K.moved hvm.symm hK1
  obtain ⟨hP, hD⟩ := va_join (wr := [(o, .inr (2, [.null, .null, .null, .int 0, .int 0]))]) (w1 := [(r1, .inr (3, [.ref r2, .int 0, .long 0, .int 0, .int 0])), (r2, .inl (e3, 28, .inl (fun _ => 0)))]) hP hD [1] [0] rfl rfl (by decide) (by decide) hk1 hFc hP1 hD1
  have hK := hK.app hK1
  clear hk1 hz1 hPc hFc
  generalize H1 = H at hP hS ⊢
  have hP : va_P D CLS [(o, .inr (2, [.null, .null, .null, .int 0, .int 0])), (r1, .inr (3, [.ref r2, .int 0, .long 0, .int 0, .int 0])), (r2, .inl (e3, 28, .inl (fun _ => 0)))] H := hP
  have hD : va_D A [(o, .inr (2, [.null, .null, .null, .int 0, .int 0])), (r1, .inr (3, [.ref r2, .int 0, .long 0, .int 0, .int 0])), (r2, .inl (e3, 28, .inl (fun _ => 0)))] := dD hD rfl
  have hK : va_K D CLS [(e3, .int)] s := hK
  refine W.widen (k := 2) (n := 33) (Nat.le_of_ble_eq_true rfl) (Nat.le_of_ble_eq_true rfl) ?_
  refine va_putF (D := D) (ci := 2) (v := .ref r1) (ty := .object "OutwardTape$Numeral") (C := "OutwardTape$LiteralReader") (T := T_Rd) (N := 5) hx hb hts in_Rd ty_Rd tk_Rd nm_Rd hown hK hP hD hS 0 rfl rfl 0 (by decide) (hts (Cond.fieldLink "OutwardTape$LiteralReader" 12 "OutwardTape$LiteralReader" "left" "LOutwardTape$Numeral;") (m_1 63 rfl rfl)) (fun _ h9 => h9) rfl hin rfl (by decide +kernel) rfl rfl (Nat.le_of_ble_eq_true rfl) (dt_at dt_Rd_init 6 rfl) (fun H locs hP hD hS => ?_)
  have hP : va_P D CLS [(o, .inr (2, [.ref r1, .null, .null, .int 0, .int 0])), (r1, .inr (3, [.ref r2, .int 0, .long 0, .int 0, .int 0])), (r2, .inl (e3, 28, .inl (fun _ => 0)))] H := hP
  have hD : va_D A [(o, .inr (2, [.ref r1, .null, .null, .int 0, .int 0])), (r1, .inr (3, [.ref r2, .int 0, .long 0, .int 0, .int 0])), (r2, .inl (e3, 28, .inl (fun _ => 0)))] := dD hD rfl
  refine lv_aload_n hx hb (dt_at dt_Rd_init 7 rfl) rfl (lv_at hl 0 rfl) ?_
  refine va_new (ci := 3) (fs := [.null, .int 0, .long 0, .int 0, .int 0]) (C := "OutwardTape$Numeral") (T := T_Num) (N := 5) hx hb hts in_Num ty_Num tk_Num hown (hts (Cond.classLink "OutwardTape$LiteralReader" 9 "OutwardTape$Numeral") (m_1 39 rfl rfl)) (hts (Cond.instantiable "OutwardTape$Numeral" 5) (m_1 40 rfl rfl)) (hts (Cond.initialized "OutwardTape$Numeral") (m_1 3 rfl rfl)) hK hP hD hS hA rfl (fun j hj => by rcases (show j = 0 ∨ j = 1 ∨ j = 2 ∨ j = 3 ∨ j = 4 by omega) with rfl | rfl | rfl | rfl | rfl <;> rfl) (Nat.le_of_ble_eq_true rfl) (Nat.le_of_ble_eq_true rfl) (dt_at dt_Rd_init 8 rfl) (fun r4 H hP hD hS => ?_)
  have hP : va_P D CLS [(o, .inr (2, [.ref r1, .null, .null, .int 0, .int 0])), (r1, .inr (3, [.ref r2, .int 0, .long 0, .int 0, .int 0])), (r2, .inl (e3, 28, .inl (fun _ => 0))), (r4, .inr (3, [.null, .int 0, .long 0, .int 0, .int 0]))] H := hP
  have hD : va_D A [(o, .inr (2, [.ref r1, .null, .null, .int 0, .int 0])), (r1, .inr (3, [.ref r2, .int 0, .long 0, .int 0, .int 0])), (r2, .inl (e3, 28, .inl (fun _ => 0))), (r4, .inr (3, [.null, .int 0, .long 0, .int 0, .int 0]))] := dD hD rfl
  refine W.widen (k := 3) (n := 38) (Nat.le_of_ble_eq_true rfl) (Nat.le_of_ble_eq_true rfl) ?_
  refine lv_dup hx hb (dt_at dt_Rd_init 9 rfl) rfl ?_
  have hPc := hP.sub (ws' := [(r4, .inr (3, [.null, .int 0, .long 0, .int 0, .int 0]))]) [3] rfl
  have hKc := hK.sub (tys' := []) [] rfl
  have hFc := va_free (wc := [(r4, .inr (3, [.null, .int 0, .long 0, .int 0, .int 0]))]) hD hS hA [3] rfl
  refine va_callv (va_runI (As := []) (rest := [.ref r4, .ref o]) ⟨hx, hb, hml, hown, hts⟩ (c_Num_init l D r4 H.size) (cwI 0 hts (gd_c (m_1 43 rfl rfl)) rfl rfl rfl (hts (Cond.initialized "OutwardTape$Numeral") (m_1 3 rfl rfl)) (hts (Cond.methodLink "OutwardTape$LiteralReader" 11 (⟨"OutwardTape$Numeral", "<init>", "()V"⟩ : MethodName)) (m_1 41 rfl rfl)) (hts (Cond.instanceMethod (⟨"OutwardTape$Numeral", "<init>", "()V"⟩ : MethodName)) (m_1 42 rfl rfl)) rfl (by decide +kernel) ⟨Nat.le_of_ble_eq_true rfl, Nat.le_of_ble_eq_true rfl⟩) ⟨fun a U g mk q => ⟨q.1, q.2.1, q.2.2.1, va_K.moved (u := U) (U := U.calling g mk a) (Vm.Alike.refl U.vm) q.2.2.2⟩, fun U hU hW => ⟨rfl, by rw [hU], by rw [hU]; exact hPc, va_K.moved hW.alike hKc⟩⟩ rfl rfl hl.1 rfl (lv_room (Nat.le_of_ble_eq_true rfl)) (dt_at dt_Rd_init 10 rfl) ⟨Nat.le_of_ble_eq_true rfl, Nat.le_of_ble_eq_true rfl⟩) hS (fun q _ h => hFc q h) hFc (fun uu t H1 locs ht hvm hw hB hz1 hk1 hS => ?_)
  obtain ⟨r5, e6, hP1, hK1, hD1⟩ := hB
  rw [ht] at hP1
  have hK1 := va_K.moved hvm.symm hK1
  obtain ⟨hP, hD⟩ := va_join (wr := [(o, .inr (2, [.ref r1, .null, .null, .int 0, .int 0])), (r1, .inr (3, [.ref r2, .int 0, .long 0, .int 0, .int 0])), (r2, .inl (e3, 28, .inl (fun _ => 0)))]) (w1 := [(r4, .inr (3, [.ref r5, .int 0, .long 0, .int 0, .int 0])), (r5, .inl (e6, 28, .inl (fun _ => 0)))]) hP hD [3] [0, 1, 2] rfl rfl (by decide) (by decide) hk1 hFc hP1 hD1
  have hK := hK.app hK1
  clear hk1 hz1 hPc hFc
  generalize H1 = H at hP hS ⊢
  have hP : va_P D CLS [(o, .inr (2, [.ref r1, .null, .null, .int 0, .int 0])), (r1, .inr (3, [.ref r2, .int 0, .long 0, .int 0, .int 0])), (r2, .inl (e3, 28, .inl (fun _ => 0))), (r4, .inr (3, [.ref r5, .int 0, .long 0, .int 0, .int 0])), (r5, .inl (e6, 28, .inl (fun _ => 0)))] H := hP
  have hD : va_D A [(o, .inr (2, [.ref r1, .null, .null, .int 0, .int 0])), (r1, .inr (3, [.ref r2, .int 0, .long 0, .int 0, .int 0])), (r2, .inl (e3, 28, .inl (fun _ => 0))), (r4, .inr (3, [.ref r5, .int 0, .long 0, .int 0, .int 0])), (r5, .inl (e6, 28, .inl (fun _ => 0)))] := dD hD rfl
  have hK : va_K D CLS [(e3, .int), (e6, .int)] s := hK
  refine W.widen (k := 4) (n := 66) (Nat.le_of_ble_eq_true rfl) (Nat.le_of_ble_eq_true rfl) ?_
  refine va_putF (D := D) (ci := 2) (v := .ref r4) (ty := .object "OutwardTape$Numeral") (C := "OutwardTape$LiteralReader") (T := T_Rd) (N := 5) hx hb hts in_Rd ty_Rd tk_Rd nm_Rd hown hK hP hD hS 0 rfl rfl 1 (by decide) (hts (Cond.fieldLink "OutwardTape$LiteralReader" 18 "OutwardTape$LiteralReader" "right" "LOutwardTape$Numeral;") (m_1 64 rfl rfl)) (fun _ h9 => h9) rfl hin rfl (by decide +kernel) rfl rfl (Nat.le_of_ble_eq_true rfl) (dt_at dt_Rd_init 11 rfl) (fun H locs hP hD hS => ?_)
  have hP : va_P D CLS [(o, .inr (2, [.ref r1, .ref r4, .null, .int 0, .int 0])), (r1, .inr (3, [.ref r2, .int 0, .long 0, .int 0, .int 0])), (r2, .inl (e3, 28, .inl (fun _ => 0))), (r4, .inr (3, [.ref r5, .int 0, .long 0, .int 0, .int 0])), (r5, .inl (e6, 28, .inl (fun _ => 0)))] H := hP
  have hD : va_D A [(o, .inr (2, [.ref r1, .ref r4, .null, .int 0, .int 0])), (r1, .inr (3, [.ref r2, .int 0, .long 0, .int 0, .int 0])), (r2, .inl (e3, 28, .inl (fun _ => 0))), (r4, .inr (3, [.ref r5, .int 0, .long 0, .int 0, .int 0])), (r5, .inl (e6, 28, .inl (fun _ => 0)))] := dD hD rfl
  refine lv_aload_n hx hb (dt_at dt_Rd_init 12 rfl) rfl (lv_at hl 0 rfl) ?_
  refine lv_bipush (v := 60) hx hb (dt_at dt_Rd_init 13 rfl) (by decide) ?_
  refine va_newa (atype := .char) (ty := .char) (N' := 60) (a0 := (60, .inl (fun _ => 0))) hx hb (hts (Cond.arrayClass .char) (m_1 61 rfl rfl)) rfl hK hP hD hS hA (fun _ => rfl) (by decide) (by decide) (by decide) (Nat.le_of_ble_eq_true rfl) (Nat.le_of_ble_eq_true rfl) (dt_at dt_Rd_init 14 rfl) (fun r7 e7 H hK hP hD hS => ?_)
  have hP : va_P D CLS [(o, .inr (2, [.ref r1, .ref r4, .null, .int 0, .int 0])), (r1, .inr (3, [.ref r2, .int 0, .long 0, .int 0, .int 0])), (r2, .inl (e3, 28, .inl (fun _ => 0))), (r4, .inr (3, [.ref r5, .int 0, .long 0, .int 0, .int 0])), (r5, .inl (e6, 28, .inl (fun _ => 0))), (r7, .inl (e7, 60, .inl (fun _ => 0)))] H := hP
  have hD : va_D A [(o, .inr (2, [.ref r1, .ref r4, .null, .int 0, .int 0])), (r1, .inr (3, [.ref r2, .int 0, .long 0, .int 0, .int 0])), (r2, .inl (e3, 28, .inl (fun _ => 0))), (r4, .inr (3, [.ref r5, .int 0, .long 0, .int 0, .int 0])), (r5, .inl (e6, 28, .inl (fun _ => 0))), (r7, .inl (e7, 60, .inl (fun _ => 0)))] := dD hD rfl
  have hK : va_K D CLS [(e3, .int), (e6, .int), (e7, .char)] s := hK
  refine W.widen (k := 5) (n := 126) (Nat.le_of_ble_eq_true rfl) (Nat.le_of_ble_eq_true rfl) ?_
  refine va_putF (D := D) (ci := 2) (v := .ref r7) (ty := .array .char) (C := "OutwardTape$LiteralReader") (T := T_Rd) (N := 5) hx hb hts in_Rd ty_Rd tk_Rd nm_Rd hown hK hP hD hS 0 rfl rfl 2 (by decide) (hts (Cond.fieldLink "OutwardTape$LiteralReader" 21 "OutwardTape$LiteralReader" "small" "[C") (m_1 65 rfl rfl)) (fun _ h9 => h9) rfl hin rfl (by decide +kernel) rfl rfl (Nat.le_of_ble_eq_true rfl) (dt_at dt_Rd_init 15 rfl) (fun H locs hP hD hS => ?_)
  have hP : va_P D CLS [(o, .inr (2, [.ref r1, .ref r4, .ref r7, .int 0, .int 0])), (r1, .inr (3, [.ref r2, .int 0, .long 0, .int 0, .int 0])), (r2, .inl (e3, 28, .inl (fun _ => 0))), (r4, .inr (3, [.ref r5, .int 0, .long 0, .int 0, .int 0])), (r5, .inl (e6, 28, .inl (fun _ => 0))), (r7, .inl (e7, 60, .inl (fun _ => 0)))] H := hP
  have hD : va_D A [(o, .inr (2, [.ref r1, .ref r4, .ref r7, .int 0, .int 0])), (r1, .inr (3, [.ref r2, .int 0, .long 0, .int 0, .int 0])), (r2, .inl (e3, 28, .inl (fun _ => 0))), (r4, .inr (3, [.ref r5, .int 0, .long 0, .int 0, .int 0])), (r5, .inl (e6, 28, .inl (fun _ => 0))), (r7, .inl (e7, 60, .inl (fun _ => 0)))] := dD hD rfl
  refine lv_aload_n hx hb (dt_at dt_Rd_init 16 rfl) rfl (lv_at hl 0 rfl) ?_
  refine lv_iconst (v := 0) hx hb (dt_at dt_Rd_init 17 rfl) (by decide) ?_
  refine va_put (D := D) (ci := 2) (v := .int 0) (ty := .int) (C := "OutwardTape$LiteralReader") (T := T_Rd) (N := 5) hx hb hts in_Rd ty_Rd tk_Rd nm_Rd hown hK hP hD hS 0 rfl rfl 3 (by decide) (hts (Cond.fieldLink "OutwardTape$LiteralReader" 25 "OutwardTape$LiteralReader" "end" "I") (m_1 66 rfl rfl)) (fun _ h9 => h9) rfl (by decide +kernel) rfl rfl (Nat.le_of_ble_eq_true rfl) (dt_at dt_Rd_init 18 rfl) (fun H locs hP hD hS => ?_)
  have hP : va_P D CLS [(o, .inr (2, [.ref r1, .ref r4, .ref r7, .int 0, .int 0])), (r1, .inr (3, [.ref r2, .int 0, .long 0, .int 0, .int 0])), (r2, .inl (e3, 28, .inl (fun _ => 0))), (r4, .inr (3, [.ref r5, .int 0, .long 0, .int 0, .int 0])), (r5, .inl (e6, 28, .inl (fun _ => 0))), (r7, .inl (e7, 60, .inl (fun _ => 0)))] H := hP
  have hD : va_D A [(o, .inr (2, [.ref r1, .ref r4, .ref r7, .int 0, .int 0])), (r1, .inr (3, [.ref r2, .int 0, .long 0, .int 0, .int 0])), (r2, .inl (e3, 28, .inl (fun _ => 0))), (r4, .inr (3, [.ref r5, .int 0, .long 0, .int 0, .int 0])), (r5, .inl (e6, 28, .inl (fun _ => 0))), (r7, .inl (e7, 60, .inl (fun _ => 0)))] := dD hD rfl
  refine lv_aload_n hx hb (dt_at dt_Rd_init 19 rfl) rfl (lv_at hl 0 rfl) ?_
  refine lv_iconst (v := 0) hx hb (dt_at dt_Rd_init 20 rfl) (by decide) ?_
  refine va_put (D := D) (ci := 2) (v := .int 0) (ty := .int) (C := "OutwardTape$LiteralReader") (T := T_Rd) (N := 5) hx hb hts in_Rd ty_Rd tk_Rd nm_Rd hown hK hP hD hS 0 rfl rfl 4 (by decide) (hts (Cond.fieldLink "OutwardTape$LiteralReader" 29 "OutwardTape$LiteralReader" "at" "I") (m_1 67 rfl rfl)) (fun _ h9 => h9) rfl (by decide +kernel) rfl rfl (Nat.le_of_ble_eq_true rfl) (dt_at dt_Rd_init 21 rfl) (fun H locs hP hD hS => ?_)
  have hP : va_P D CLS [(o, .inr (2, [.ref r1, .ref r4, .ref r7, .int 0, .int 0])), (r1, .inr (3, [.ref r2, .int 0, .long 0, .int 0, .int 0])), (r2, .inl (e3, 28, .inl (fun _ => 0))), (r4, .inr (3, [.ref r5, .int 0, .long 0, .int 0, .int 0])), (r5, .inl (e6, 28, .inl (fun _ => 0))), (r7, .inl (e7, 60, .inl (fun _ => 0)))] H := hP
  have hD : va_D A [(o, .inr (2, [.ref r1, .ref r4, .ref r7, .int 0, .int 0])), (r1, .inr (3, [.ref r2, .int 0, .long 0, .int 0, .int 0])), (r2, .inl (e3, 28, .inl (fun _ => 0))), (r4, .inr (3, [.ref r5, .int 0, .long 0, .int 0, .int 0])), (r5, .inl (e6, 28, .inl (fun _ => 0))), (r7, .inl (e7, 60, .inl (fun _ => 0)))] := dD hD rfl
  exact W.vret hx hb hr (fun t ht hW => ⟨⟨(), rfl, trivial, r1, r2, r4, r5, r7, e3, e6, e7, hPt hP ht, va_K.moved hW.alike hK, hD⟩, hS.F ht⟩) hS.2.2 (dt_at dt_Rd_init 22 rfl)
def dl_Tape_init : List (Nat × Instr × Nat) := [(0, .aload_n 0, 1), (1, .invokespecial 1, 3), (4, .aload_n 0, 1), (5, .bipush (60), 2), (7, .newarray .char, 2), (9, .putfield 9, 3), (12, .aload_n 0, 1), (13, .iconst (0), 1), (14, .putfield 13, 3), (17, .aload_n 0, 1), (18, .bipush (40), 2), (20, .anewarray 17, 3), (23, .putfield 19, 3), (26, .aload_n 0, 1), (27, .iconst (0), 1), (28, .putfield 23, 3), (31, .aload_n 0, 1), (32, .new 26, 3), (35, .dup, 1), (36, .invokespecial 28, 3), (39, .putfield 29, 3), (42, .return_, 1)]
theorem dt_Tape_init : dtbl prog_1_method_1_code dl_Tape_init = true := by decide +kernel
abbrev rm_Tape_init : Room := { frames := 3, cells := 8, slots := 231, locals := 52 }
set_option maxRecDepth 100000 in
set_option maxHeartbeats 800000 in
theorem c_Tape_init (l : Launch) (D : va_G) (o : Nat) (sz : Nat) : Met l (⟨"OutwardTape", "<init>", "()V"⟩ : MethodName) (WSm (⟨"OutwardTape", "<init>", "()V"⟩ : MethodName) prog_1_method_1_code 1 none) rm_Tape_init (va_Pc [.ref o] (fun U => U.heap.size = sz ∧ va_P D CLS [(o, .inr (1, [.null, .int 0, .null, .int 0, .null]))] U.heap ∧ va_K D CLS [] U ∧ va_AO "OutwardTape$Cell" U)) (va_Qv (fun _ : Unit => True) (fun _ t => ∃ (r1 r2 r3 r4 r5 r6 r7 r8 : Nat) (e1 e2 e9 e10 e11 : ClassId), va_P D CLS [(o, .inr (1, [.ref r1, .int 0, .ref r2, .int 0, .ref r3])), (r1, .inl (e1, 60, .inl (fun _ => 0))), (r2, .inl (e2, 40, .inr (.inr (.inr (.inr (fun _ => none)))))), (r3, .inr (2, [.ref r4, .ref r6, .ref r8, .int 0, .int 0])), (r4, .inr (3, [.ref r5, .int 0, .long 0, .int 0, .int 0])), (r5, .inl (e9, 28, .inl (fun _ => 0))), (r6, .inr (3, [.ref r7, .int 0, .long 0, .int 0, .int 0])), (r7, .inl (e10, 28, .inl (fun _ => 0))), (r8, .inl (e11, 60, .inl (fun _ => 0)))] t.heap ∧ va_K D CLS [(e1, .char), (e2, .object "OutwardTape$Cell"), (e9, .int), (e10, .int), (e11, .char)] t ∧ va_D (va_A [(o, .inr (1, [.null, .int 0, .null, .int 0, .null]))] sz) [(o, .inr (1, [.ref r1, .int 0, .ref r2, .int 0, .ref r3])), (r1, .inl (e1, 60, .inl (fun _ => 0))), (r2, .inl (e2, 40, .inr (.inr (.inr (.inr (fun _ => none)))))), (r3, .inr (2, [.ref r4, .ref r6, .ref r8, .int 0, .int 0])), (r4, .inr (3, [.ref r5, .int 0, .long 0, .int 0, .int 0])), (r5, .inl (e9, 28, .inl (fun _ => 0))), (r6, .inr (3, [.ref r7, .int 0, .long 0, .int 0, .int 0])), (r7, .inl (e10, 28, .inl (fun _ => 0))), (r8, .inl (e11, 60, .inl (fun _ => 0)))]) (va_A [(o, .inr (1, [.null, .int 0, .null, .int 0, .null]))] sz)) 8 231 (va_A [(o, .inr (1, [.null, .int 0, .null, .int 0, .null]))] sz) := by
  refine Met.ofW (cc := prog_1_method_1_code) (maxL := 1) (ret := none) (by decide) rfl ?_
  intro p e s m args below meth c s₁ B hml hv
  obtain ⟨rfl, hsz, hP, hK, hAO⟩ := hv
  subst hsz
  obtain ⟨hx, hb, hml, hown, hts, hr, hlocks⟩ := CX.of B hml rfl
  have hin : meth.name = "<init>" := (name_of_methodNamed B.named B.method).1
  have hD0 : va_D (fun _ => True) [(o, .inr (1, [.null, .int 0, .null, .int 0, .null]))] := ⟨fun i j p q hi hj _ => by have h1 : i < 1 := (List.getElem?_eq_some_iff.mp hi).1; have h2 : j < 1 := (List.getElem?_eq_some_iff.mp hj).1; omega, fun _ _ _ => trivial⟩
  have hD := hD0.self (sz := s.heap.size)
  generalize hAe : va_A [(o, .inr (1, [.null, .int 0, .null, .int 0, .null]))] s.heap.size = A at hD ⊢
  have hA : ∀ q : Nat, s.heap.size ≤ q → A q := fun q h => by rw [← hAe]; exact Or.inr h
  have hS : va_S A s.heap s.heap [] := va_S.rf
  have hl := lv_entry [.ref o] (n := 1) (Nat.le_of_ble_eq_true rfl)
  rw [lg_entry_eq]
  generalize (lg_sl [.ref o] ++ List.replicate (1 - (lg_sl [.ref o]).length) Slot.unset).toArray = ls at hl ⊢
  have hl : lv_has ls 1 [(0, .ref o)] := hl
  refine lv_aload_n hx hb (dt_at dt_Tape_init 0 rfl) rfl (lv_at hl 0 rfl) ?_
  refine W.objInit hx hb hown (hts (Cond.methodLink "OutwardTape" 1 Lib.objectInit) (m_1 28 rfl rfl)) (hts (Cond.instanceMethod Lib.objectInit) (m_1 29 rfl rfl)) (hts (Cond.code Lib.objectInit ⟨#[0xb1]⟩ 1 none) (m_1 30 rfl rfl)) rfl (by rw [hml]; exact hl.1) rfl (dt_at dt_Tape_init 1 rfl) (Nat.le_of_ble_eq_true rfl) (Nat.le_of_ble_eq_true rfl) ?_
  refine W.eq (g2 := F0 m 4 ls []) rfl ?_
  refine lv_aload_n hx hb (dt_at dt_Tape_init 2 rfl) rfl (lv_at hl 0 rfl) ?_
  refine lv_bipush (v := 60) hx hb (dt_at dt_Tape_init 3 rfl) (by decide) ?_
  refine va_newa (atype := .char) (ty := .char) (N' := 60) (a0 := (60, .inl (fun _ => 0))) hx hb (hts (Cond.arrayClass .char) (m_1 61 rfl rfl)) rfl hK hP hD hS hA (fun _ => rfl) (by decide) (by decide) (by decide) (Nat.le_of_ble_eq_true rfl) (Nat.le_of_ble_eq_true rfl) (dt_at dt_Tape_init 4 rfl) (fun r1 e1 H hK hP hD hS => ?_)
  have hP : va_P D CLS [(o, .inr (1, [.null, .int 0, .null, .int 0, .null])), (r1, .inl (e1, 60, .inl (fun _ => 0)))] H := hP
  have hD : va_D A [(o, .inr (1, [.null, .int 0, .null, .int 0, .null])), (r1, .inl (e1, 60, .inl (fun _ => 0)))] := dD hD rfl
  have hK : va_K D CLS [(e1, .char)] s := hK
  refine W.widen (k := 1) (n := 60) (Nat.le_of_ble_eq_true rfl) (Nat.le_of_ble_eq_true rfl) ?_
  refine va_putF (D := D) (ci := 1) (v := .ref r1) (ty := .array .char) (C := "OutwardTape") (T := T_Tape) (N := 5) hx hb hts in_Tape ty_Tape tk_Tape nm_Tape hown hK hP hD hS 0 rfl rfl 0 (by decide) (hts (Cond.fieldLink "OutwardTape" 9 "OutwardTape" "text" "[C") (m_1 79 rfl rfl)) (fun _ h9 => h9) rfl hin rfl (by decide +kernel) rfl rfl (Nat.le_of_ble_eq_true rfl) (dt_at dt_Tape_init 5 rfl) (fun H locs hP hD hS => ?_)
  have hP : va_P D CLS [(o, .inr (1, [.ref r1, .int 0, .null, .int 0, .null])), (r1, .inl (e1, 60, .inl (fun _ => 0)))] H := hP
  have hD : va_D A [(o, .inr (1, [.ref r1, .int 0, .null, .int 0, .null])), (r1, .inl (e1, 60, .inl (fun _ => 0)))] := dD hD rfl
  refine lv_aload_n hx hb (dt_at dt_Tape_init 6 rfl) rfl (lv_at hl 0 rfl) ?_
  refine lv_iconst (v := 0) hx hb (dt_at dt_Tape_init 7 rfl) (by decide) ?_
  refine va_put (D := D) (ci := 1) (v := .int 0) (ty := .int) (C := "OutwardTape") (T := T_Tape) (N := 5) hx hb hts in_Tape ty_Tape tk_Tape nm_Tape hown hK hP hD hS 0 rfl rfl 1 (by decide) (hts (Cond.fieldLink "OutwardTape" 13 "OutwardTape" "characters" "I") (m_1 80 rfl rfl)) (fun _ h9 => h9) rfl (by decide +kernel) rfl rfl (Nat.le_of_ble_eq_true rfl) (dt_at dt_Tape_init 8 rfl) (fun H locs hP hD hS => ?_)
  have hP : va_P D CLS [(o, .inr (1, [.ref r1, .int 0, .null, .int 0, .null])), (r1, .inl (e1, 60, .inl (fun _ => 0)))] H := hP
  have hD : va_D A [(o, .inr (1, [.ref r1, .int 0, .null, .int 0, .null])), (r1, .inl (e1, 60, .inl (fun _ => 0)))] := dD hD rfl
  refine lv_aload_n hx hb (dt_at dt_Tape_init 9 rfl) rfl (lv_at hl 0 rfl) ?_
  refine lv_bipush (v := 40) hx hb (dt_at dt_Tape_init 10 rfl) (by decide) ?_
  refine va_newq (N' := 40) hx hb hown (hts (Cond.classLink "OutwardTape" 17 "OutwardTape$Cell") (m_1 31 rfl rfl)) hAO hK hP hD hS hA (by decide) (by decide) (by decide) (Nat.le_of_ble_eq_true rfl) (Nat.le_of_ble_eq_true rfl) (dt_at dt_Tape_init 11 rfl) (fun r2 e2 H hK hP hD hS => ?_)
  have hP : va_P D CLS [(o, .inr (1, [.ref r1, .int 0, .null, .int 0, .null])), (r1, .inl (e1, 60, .inl (fun _ => 0))), (r2, .inl (e2, 40, .inr (.inr (.inr (.inr (fun _ => none))))))] H := hP
  have hD : va_D A [(o, .inr (1, [.ref r1, .int 0, .null, .int 0, .null])), (r1, .inl (e1, 60, .inl (fun _ => 0))), (r2, .inl (e2, 40, .inr (.inr (.inr (.inr (fun _ => none))))))] := dD hD rfl
  have hK : va_K D CLS [(e1, .char), (e2, .object "OutwardTape$Cell")] s := hK
  refine W.widen (k := 2) (n := 100) (Nat.le_of_ble_eq_true rfl) (Nat.le_of_ble_eq_true rfl) ?_
  refine va_putF (D := D) (ci := 1) (v := .ref r2) (ty := .array (.object "OutwardTape$Cell")) (C := "OutwardTape") (T := T_Tape) (N := 5) hx hb hts in_Tape ty_Tape tk_Tape nm_Tape hown hK hP hD hS 0 rfl rfl 2 (by decide) (hts (Cond.fieldLink "OutwardTape" 19 "OutwardTape" "cells" "[LOutwardTape$Cell;") (m_1 81 rfl rfl)) (fun _ h9 => h9) rfl hin rfl (by decide +kernel) rfl rfl (Nat.le_of_ble_eq_true rfl) (dt_at dt_Tape_init 12 rfl) (fun H locs hP hD hS => ?_)
  have hP : va_P D CLS [(o, .inr (1, [.ref r1, .int 0, .ref r2, .int 0, .null])), (r1, .inl (e1, 60, .inl (fun _ => 0))), (r2, .inl (e2, 40, .inr (.inr (.inr (.inr (fun _ => none))))))] H := hP
  have hD : va_D A [(o, .inr (1, [.ref r1, .int 0, .ref r2, .int 0, .null])), (r1, .inl (e1, 60, .inl (fun _ => 0))), (r2, .inl (e2, 40, .inr (.inr (.inr (.inr (fun _ => none))))))] := dD hD rfl
  refine lv_aload_n hx hb (dt_at dt_Tape_init 13 rfl) rfl (lv_at hl 0 rfl) ?_
  refine lv_iconst (v := 0) hx hb (dt_at dt_Tape_init 14 rfl) (by decide) ?_
  refine va_put (D := D) (ci := 1) (v := .int 0) (ty := .int) (C := "OutwardTape") (T := T_Tape) (N := 5) hx hb hts in_Tape ty_Tape tk_Tape nm_Tape hown hK hP hD hS 0 rfl rfl 3 (by decide) (hts (Cond.fieldLink "OutwardTape" 23 "OutwardTape" "count" "I") (m_1 82 rfl rfl)) (fun _ h9 => h9) rfl (by decide +kernel) rfl rfl (Nat.le_of_ble_eq_true rfl) (dt_at dt_Tape_init 15 rfl) (fun H locs hP hD hS => ?_)
  have hP : va_P D CLS [(o, .inr (1, [.ref r1, .int 0, .ref r2, .int 0, .null])), (r1, .inl (e1, 60, .inl (fun _ => 0))), (r2, .inl (e2, 40, .inr (.inr (.inr (.inr (fun _ => none))))))] H := hP
  have hD : va_D A [(o, .inr (1, [.ref r1, .int 0, .ref r2, .int 0, .null])), (r1, .inl (e1, 60, .inl (fun _ => 0))), (r2, .inl (e2, 40, .inr (.inr (.inr (.inr (fun _ => none))))))] := dD hD rfl
  refine lv_aload_n hx hb (dt_at dt_Tape_init 16 rfl) rfl (lv_at hl 0 rfl) ?_
  refine va_new (ci := 2) (fs := [.null, .null, .null, .int 0, .int 0]) (C := "OutwardTape$LiteralReader") (T := T_Rd) (N := 5) hx hb hts in_Rd ty_Rd tk_Rd hown (hts (Cond.classLink "OutwardTape" 26 "OutwardTape$LiteralReader") (m_1 33 rfl rfl)) (hts (Cond.instantiable "OutwardTape$LiteralReader" 5) (m_1 34 rfl rfl)) (hts (Cond.initialized "OutwardTape$LiteralReader") (m_1 2 rfl rfl)) hK hP hD hS hA rfl (fun j hj => by rcases (show j = 0 ∨ j = 1 ∨ j = 2 ∨ j = 3 ∨ j = 4 by omega) with rfl | rfl | rfl | rfl | rfl <;> rfl) (Nat.le_of_ble_eq_true rfl) (Nat.le_of_ble_eq_true rfl) (dt_at dt_Tape_init 17 rfl) (fun r3 H hP hD hS => ?_)
  have hP : va_P D CLS [(o, .inr (1, [.ref r1, .int 0, .ref r2, .int 0, .null])), (r1, .inl (e1, 60, .inl (fun _ => 0))), (r2, .inl (e2, 40, .inr (.inr (.inr (.inr (fun _ => none)))))), (r3, .inr (2, [.null, .null, .null, .int 0, .int 0]))] H := hP
  have hD : va_D A [(o, .inr (1, [.ref r1, .int 0, .ref r2, .int 0, .null])), (r1, .inl (e1, 60, .inl (fun _ => 0))), (r2, .inl (e2, 40, .inr (.inr (.inr (.inr (fun _ => none)))))), (r3, .inr (2, [.null, .null, .null, .int 0, .int 0]))] := dD hD rfl
  refine W.widen (k := 3) (n := 105) (Nat.le_of_ble_eq_true rfl) (Nat.le_of_ble_eq_true rfl) ?_
  refine lv_dup hx hb (dt_at dt_Tape_init 18 rfl) rfl ?_
  have hPc := hP.sub (ws' := [(r3, .inr (2, [.null, .null, .null, .int 0, .int 0]))]) [3] rfl
  have hKc := hK.sub (tys' := []) [] rfl
  have hFc := va_free (wc := [(r3, .inr (2, [.null, .null, .null, .int 0, .int 0]))]) hD hS hA [3] rfl
  refine va_callv (va_runI (As := []) (rest := [.ref r3, .ref o]) ⟨hx, hb, hml, hown, hts⟩ (c_Rd_init l D r3 H.size) (cwI 0 hts (gd_c (m_1 37 rfl rfl)) rfl rfl rfl (hts (Cond.initialized "OutwardTape$LiteralReader") (m_1 2 rfl rfl)) (hts (Cond.methodLink "OutwardTape" 28 (⟨"OutwardTape$LiteralReader", "<init>", "()V"⟩ : MethodName)) (m_1 35 rfl rfl)) (hts (Cond.instanceMethod (⟨"OutwardTape$LiteralReader", "<init>", "()V"⟩ : MethodName)) (m_1 36 rfl rfl)) rfl (by decide +kernel) ⟨Nat.le_of_ble_eq_true rfl, Nat.le_of_ble_eq_true rfl⟩) ⟨fun a U g mk q => ⟨q.1, q.2.1, q.2.2.1, va_K.moved (u := U) (U := U.calling g mk a) (Vm.Alike.refl U.vm) q.2.2.2⟩, fun U hU hW => ⟨rfl, by rw [hU], by rw [hU]; exact hPc, va_K.moved hW.alike hKc⟩⟩ rfl rfl hl.1 rfl (lv_room (Nat.le_of_ble_eq_true rfl)) (dt_at dt_Tape_init 19 rfl) ⟨Nat.le_of_ble_eq_true rfl, Nat.le_of_ble_eq_true rfl⟩) hS (fun q _ h => hFc q h) hFc (fun uu t H1 locs ht hvm hw hB hz1 hk1 hS => ?_)
  obtain ⟨r4, r5, r6, r7, r8, e9, e10, e11, hP1, hK1, hD1⟩ := hB
  rw [ht] at hP1
  have hK1 := va_K.moved hvm.symm hK1
  obtain ⟨hP, hD⟩ := va_join (wr := [(o, .inr (1, [.ref r1, .int 0, .ref r2, .int 0, .null])), (r1, .inl (e1, 60, .inl (fun _ => 0))), (r2, .inl (e2, 40, .inr (.inr (.inr (.inr (fun _ => none))))))]) (w1 := [(r3, .inr (2, [.ref r4, .ref r6, .ref r8, .int 0, .int 0])), (r4, .inr (3, [.ref r5, .int 0, .long 0, .int 0, .int 0])), (r5, .inl (e9, 28, .inl (fun _ => 0))), (r6, .inr (3, [.ref r7, .int 0, .long 0, .int 0, .int 0])), (r7, .inl (e10, 28, .inl (fun _ => 0))), (r8, .inl (e11, 60, .inl (fun _ => 0)))]) hP hD [3] [0, 1, 2] rfl rfl (by decide) (by decide) hk1 hFc hP1 hD1
  have hK := hK.app hK1
  clear hk1 hz1 hPc hFc
  generalize H1 = H at hP hS ⊢
  have hP : va_P D CLS [(o, .inr (1, [.ref r1, .int 0, .ref r2, .int 0, .null])), (r1, .inl (e1, 60, .inl (fun _ => 0))), (r2, .inl (e2, 40, .inr (.inr (.inr (.inr (fun _ => none)))))), (r3, .inr (2, [.ref r4, .ref r6, .ref r8, .int 0, .int 0])), (r4, .inr (3, [.ref r5, .int 0, .long 0, .int 0, .int 0])), (r5, .inl (e9, 28, .inl (fun _ => 0))), (r6, .inr (3, [.ref r7, .int 0, .long 0, .int 0, .int 0])), (r7, .inl (e10, 28, .inl (fun _ => 0))), (r8, .inl (e11, 60, .inl (fun _ => 0)))] H := hP
  have hD : va_D A [(o, .inr (1, [.ref r1, .int 0, .ref r2, .int 0, .null])), (r1, .inl (e1, 60, .inl (fun _ => 0))), (r2, .inl (e2, 40, .inr (.inr (.inr (.inr (fun _ => none)))))), (r3, .inr (2, [.ref r4, .ref r6, .ref r8, .int 0, .int 0])), (r4, .inr (3, [.ref r5, .int 0, .long 0, .int 0, .int 0])), (r5, .inl (e9, 28, .inl (fun _ => 0))), (r6, .inr (3, [.ref r7, .int 0, .long 0, .int 0, .int 0])), (r7, .inl (e10, 28, .inl (fun _ => 0))), (r8, .inl (e11, 60, .inl (fun _ => 0)))] := dD hD rfl
  have hK : va_K D CLS [(e1, .char), (e2, .object "OutwardTape$Cell"), (e9, .int), (e10, .int), (e11, .char)] s := hK
  refine W.widen (k := 8) (n := 231) (Nat.le_of_ble_eq_true rfl) (Nat.le_of_ble_eq_true rfl) ?_
  refine va_putF (D := D) (ci := 1) (v := .ref r3) (ty := .object "OutwardTape$LiteralReader") (C := "OutwardTape") (T := T_Tape) (N := 5) hx hb hts in_Tape ty_Tape tk_Tape nm_Tape hown hK hP hD hS 0 rfl rfl 4 (by decide) (hts (Cond.fieldLink "OutwardTape" 29 "OutwardTape" "reader" "LOutwardTape$LiteralReader;") (m_1 83 rfl rfl)) (fun _ h9 => h9) rfl hin rfl (by decide +kernel) rfl rfl (Nat.le_of_ble_eq_true rfl) (dt_at dt_Tape_init 20 rfl) (fun H locs hP hD hS => ?_)
  have hP : va_P D CLS [(o, .inr (1, [.ref r1, .int 0, .ref r2, .int 0, .ref r3])), (r1, .inl (e1, 60, .inl (fun _ => 0))), (r2, .inl (e2, 40, .inr (.inr (.inr (.inr (fun _ => none)))))), (r3, .inr (2, [.ref r4, .ref r6, .ref r8, .int 0, .int 0])), (r4, .inr (3, [.ref r5, .int 0, .long 0, .int 0, .int 0])), (r5, .inl (e9, 28, .inl (fun _ => 0))), (r6, .inr (3, [.ref r7, .int 0, .long 0, .int 0, .int 0])), (r7, .inl (e10, 28, .inl (fun _ => 0))), (r8, .inl (e11, 60, .inl (fun _ => 0)))] H := hP
  have hD : va_D A [(o, .inr (1, [.ref r1, .int 0, .ref r2, .int 0, .ref r3])), (r1, .inl (e1, 60, .inl (fun _ => 0))), (r2, .inl (e2, 40, .inr (.inr (.inr (.inr (fun _ => none)))))), (r3, .inr (2, [.ref r4, .ref r6, .ref r8, .int 0, .int 0])), (r4, .inr (3, [.ref r5, .int 0, .long 0, .int 0, .int 0])), (r5, .inl (e9, 28, .inl (fun _ => 0))), (r6, .inr (3, [.ref r7, .int 0, .long 0, .int 0, .int 0])), (r7, .inl (e10, 28, .inl (fun _ => 0))), (r8, .inl (e11, 60, .inl (fun _ => 0)))] := dD hD rfl
  exact W.vret hx hb hr (fun t ht hW => ⟨⟨(), rfl, trivial, r1, r2, r3, r4, r5, r6, r7, r8, e1, e2, e9, e10, e11, hPt hP ht, va_K.moved hW.alike hK, hD⟩, hS.F ht⟩) hS.2.2 (dt_at dt_Tape_init 21 rfl)
def dl_Ref_init : List (Nat × Instr × Nat) := [(0, .aload_n 0, 1), (1, .invokespecial 1, 3), (4, .aload_n 0, 1), (5, .bipush (40), 2), (7, .newarray .int, 2), (9, .putfield 7, 3), (12, .aload_n 0, 1), (13, .bipush (40), 2), (15, .newarray .long, 2), (17, .putfield 13, 3), (20, .aload_n 0, 1), (21, .bipush (40), 2), (23, .newarray .long, 2), (25, .putfield 17, 3), (28, .aload_n 0, 1), (29, .bipush (40), 2), (31, .newarray .int, 2), (33, .putfield 20, 3), (36, .aload_n 0, 1), (37, .bipush (60), 2), (39, .newarray .int, 2), (41, .putfield 23, 3), (44, .aload_n 0, 1), (45, .sipush (800), 3), (48, .newarray .int, 2), (50, .putfield 26, 3), (53, .return_, 1)]
theorem dt_Ref_init : dtbl prog_12_method_1_code dl_Ref_init = true := by decide +kernel
abbrev rm_Ref_init : Room := { frames := 1, cells := 6, slots := 1020, locals := 12 }
set_option maxRecDepth 100000 in
set_option maxHeartbeats 800000 in
theorem c_Ref_init (l : Launch) (D : va_G) (o : Nat) (sz : Nat) : Met l (⟨"OutwardTapeModel", "<init>", "()V"⟩ : MethodName) (WSm (⟨"OutwardTapeModel", "<init>", "()V"⟩ : MethodName) prog_12_method_1_code 1 none) rm_Ref_init (va_Pc [.ref o] (fun U => U.heap.size = sz ∧ va_P D CLS [(o, .inr (0, [.int 0, .null, .null, .null, .null, .int 0, .null, .int 0, .null, .int 0, .long 0, .long 0, .int 0, .int 0, .int 0, .long 0, .int 0, .int 0, .long 0, .int 0]))] U.heap ∧ va_K D CLS [] U)) (va_Qv (fun _ : Unit => True) (fun _ t => ∃ (r1 r2 r3 r4 r5 r6 : Nat) (e1 e2 e3 e4 e5 e6 : ClassId), va_P D CLS [(o, .inr (0, [.int 0, .ref r1, .ref r2, .ref r3, .ref r4, .int 0, .ref r5, .int 0, .ref r6, .int 0, .long 0, .long 0, .int 0, .int 0, .int 0, .long 0, .int 0, .int 0, .long 0, .int 0])), (r1, .inl (e1, 40, .inl (fun _ => 0))), (r2, .inl (e2, 40, .inr (.inl (fun _ => 0)))), (r3, .inl (e3, 40, .inr (.inl (fun _ => 0)))), (r4, .inl (e4, 40, .inl (fun _ => 0))), (r5, .inl (e5, 60, .inl (fun _ => 0))), (r6, .inl (e6, 800, .inl (fun _ => 0)))] t.heap ∧ va_K D CLS [(e1, .int), (e2, .long), (e3, .long), (e4, .int), (e5, .int), (e6, .int)] t ∧ va_D (va_A [(o, .inr (0, [.int 0, .null, .null, .null, .null, .int 0, .null, .int 0, .null, .int 0, .long 0, .long 0, .int 0, .int 0, .int 0, .long 0, .int 0, .int 0, .long 0, .int 0]))] sz) [(o, .inr (0, [.int 0, .ref r1, .ref r2, .ref r3, .ref r4, .int 0, .ref r5, .int 0, .ref r6, .int 0, .long 0, .long 0, .int 0, .int 0, .int 0, .long 0, .int 0, .int 0, .long 0, .int 0])), (r1, .inl (e1, 40, .inl (fun _ => 0))), (r2, .inl (e2, 40, .inr (.inl (fun _ => 0)))), (r3, .inl (e3, 40, .inr (.inl (fun _ => 0)))), (r4, .inl (e4, 40, .inl (fun _ => 0))), (r5, .inl (e5, 60, .inl (fun _ => 0))), (r6, .inl (e6, 800, .inl (fun _ => 0)))]) (va_A [(o, .inr (0, [.int 0, .null, .null, .null, .null, .int 0, .null, .int 0, .null, .int 0, .long 0, .long 0, .int 0, .int 0, .int 0, .long 0, .int 0, .int 0, .long 0, .int 0]))] sz)) 6 1020 (va_A [(o, .inr (0, [.int 0, .null, .null, .null, .null, .int 0, .null, .int 0, .null, .int 0, .long 0, .long 0, .int 0, .int 0, .int 0, .long 0, .int 0, .int 0, .long 0, .int 0]))] sz) := by
  refine Met.ofW (cc := prog_12_method_1_code) (maxL := 1) (ret := none) (by decide) rfl ?_
  intro p e s m args below meth c s₁ B hml hv
  obtain ⟨rfl, hsz, hP, hK⟩ := hv
  subst hsz
  obtain ⟨hx, hb, hml, hown, hts, hr, hlocks⟩ := CX.of B hml rfl
  have hin : meth.name = "<init>" := (name_of_methodNamed B.named B.method).1
  have hD0 : va_D (fun _ => True) [(o, .inr (0, [.int 0, .null, .null, .null, .null, .int 0, .null, .int 0, .null, .int 0, .long 0, .long 0, .int 0, .int 0, .int 0, .long 0, .int 0, .int 0, .long 0, .int 0]))] := ⟨fun i j p q hi hj _ => by have h1 : i < 1 := (List.getElem?_eq_some_iff.mp hi).1; have h2 : j < 1 := (List.getElem?_eq_some_iff.mp hj).1; omega, fun _ _ _ => trivial⟩
  have hD := hD0.self (sz := s.heap.size)
  generalize hAe : va_A [(o, .inr (0, [.int 0, .null, .null, .null, .null, .int 0, .null, .int 0, .null, .int 0, .long 0, .long 0, .int 0, .int 0, .int 0, .long 0, .int 0, .int 0, .long 0, .int 0]))] s.heap.size = A at hD ⊢
  have hA : ∀ q : Nat, s.heap.size ≤ q → A q := fun q h => by rw [← hAe]; exact Or.inr h
  have hS : va_S A s.heap s.heap [] := va_S.rf
  have hl := lv_entry [.ref o] (n := 1) (Nat.le_of_ble_eq_true rfl)
  rw [lg_entry_eq]
  generalize (lg_sl [.ref o] ++ List.replicate (1 - (lg_sl [.ref o]).length) Slot.unset).toArray = ls at hl ⊢
  have hl : lv_has ls 1 [(0, .ref o)] := hl
  refine lv_aload_n hx hb (dt_at dt_Ref_init 0 rfl) rfl (lv_at hl 0 rfl) ?_
  refine W.objInit hx hb hown (hts (Cond.methodLink "OutwardTapeModel" 1 Lib.objectInit) (m_3 238 rfl rfl)) (hts (Cond.instanceMethod Lib.objectInit) (m_1 29 rfl rfl)) (hts (Cond.code Lib.objectInit ⟨#[0xb1]⟩ 1 none) (m_1 30 rfl rfl)) rfl (by rw [hml]; exact hl.1) rfl (dt_at dt_Ref_init 1 rfl) (Nat.le_of_ble_eq_true rfl) (Nat.le_of_ble_eq_true rfl) ?_
  refine W.eq (g2 := F0 m 4 ls []) rfl ?_
  refine lv_aload_n hx hb (dt_at dt_Ref_init 2 rfl) rfl (lv_at hl 0 rfl) ?_
  refine lv_bipush (v := 40) hx hb (dt_at dt_Ref_init 3 rfl) (by decide) ?_
  refine va_newa (atype := .int) (ty := .int) (N' := 40) (a0 := (40, .inl (fun _ => 0))) hx hb (hts (Cond.arrayClass .int) (m_1 62 rfl rfl)) rfl hK hP hD hS hA (fun _ => rfl) (by decide) (by decide) (by decide) (Nat.le_of_ble_eq_true rfl) (Nat.le_of_ble_eq_true rfl) (dt_at dt_Ref_init 4 rfl) (fun r1 e1 H hK hP hD hS => ?_)
  have hP : va_P D CLS [(o, .inr (0, [.int 0, .null, .null, .null, .null, .int 0, .null, .int 0, .null, .int 0, .long 0, .long 0, .int 0, .int 0, .int 0, .long 0, .int 0, .int 0, .long 0, .int 0])), (r1, .inl (e1, 40, .inl (fun _ => 0)))] H := hP
  have hD : va_D A [(o, .inr (0, [.int 0, .null, .null, .null, .null, .int 0, .null, .int 0, .null, .int 0, .long 0, .long 0, .int 0, .int 0, .int 0, .long 0, .int 0, .int 0, .long 0, .int 0])), (r1, .inl (e1, 40, .inl (fun _ => 0)))] := dD hD rfl
  have hK : va_K D CLS [(e1, .int)] s := hK
  refine W.widen (k := 1) (n := 40) (Nat.le_of_ble_eq_true rfl) (Nat.le_of_ble_eq_true rfl) ?_
  refine va_put (D := D) (ci := 0) (v := .ref r1) (ty := .array .int) (C := "OutwardTapeModel") (T := T_Ref) (N := 20) hx hb hts in_Ref ty_Ref tk_Ref nm_Ref hown hK hP hD hS 0 rfl rfl 1 (by decide) (hts (Cond.fieldLink "OutwardTapeModel" 7 "OutwardTapeModel" "kind" "[I") (m_4 0 rfl rfl)) (fun _ h9 => h9) rfl (by decide +kernel) rfl rfl (Nat.le_of_ble_eq_true rfl) (dt_at dt_Ref_init 5 rfl) (fun H locs hP hD hS => ?_)
  have hP : va_P D CLS [(o, .inr (0, [.int 0, .ref r1, .null, .null, .null, .int 0, .null, .int 0, .null, .int 0, .long 0, .long 0, .int 0, .int 0, .int 0, .long 0, .int 0, .int 0, .long 0, .int 0])), (r1, .inl (e1, 40, .inl (fun _ => 0)))] H := hP
  have hD : va_D A [(o, .inr (0, [.int 0, .ref r1, .null, .null, .null, .int 0, .null, .int 0, .null, .int 0, .long 0, .long 0, .int 0, .int 0, .int 0, .long 0, .int 0, .int 0, .long 0, .int 0])), (r1, .inl (e1, 40, .inl (fun _ => 0)))] := dD hD rfl
  refine lv_aload_n hx hb (dt_at dt_Ref_init 6 rfl) rfl (lv_at hl 0 rfl) ?_
  refine lv_bipush (v := 40) hx hb (dt_at dt_Ref_init 7 rfl) (by decide) ?_
  refine va_newa (atype := .long) (ty := .long) (N' := 40) (a0 := (40, .inr (.inl (fun _ => 0)))) hx hb (hts (Cond.arrayClass .long) (m_4 60 rfl rfl)) rfl hK hP hD hS hA (fun _ => rfl) (by decide) (by decide) (by decide) (Nat.le_of_ble_eq_true rfl) (Nat.le_of_ble_eq_true rfl) (dt_at dt_Ref_init 8 rfl) (fun r2 e2 H hK hP hD hS => ?_)
  have hP : va_P D CLS [(o, .inr (0, [.int 0, .ref r1, .null, .null, .null, .int 0, .null, .int 0, .null, .int 0, .long 0, .long 0, .int 0, .int 0, .int 0, .long 0, .int 0, .int 0, .long 0, .int 0])), (r1, .inl (e1, 40, .inl (fun _ => 0))), (r2, .inl (e2, 40, .inr (.inl (fun _ => 0))))] H := hP
  have hD : va_D A [(o, .inr (0, [.int 0, .ref r1, .null, .null, .null, .int 0, .null, .int 0, .null, .int 0, .long 0, .long 0, .int 0, .int 0, .int 0, .long 0, .int 0, .int 0, .long 0, .int 0])), (r1, .inl (e1, 40, .inl (fun _ => 0))), (r2, .inl (e2, 40, .inr (.inl (fun _ => 0))))] := dD hD rfl
  have hK : va_K D CLS [(e1, .int), (e2, .long)] s := hK
  refine W.widen (k := 2) (n := 80) (Nat.le_of_ble_eq_true rfl) (Nat.le_of_ble_eq_true rfl) ?_
  refine va_put (D := D) (ci := 0) (v := .ref r2) (ty := .array .long) (C := "OutwardTapeModel") (T := T_Ref) (N := 20) hx hb hts in_Ref ty_Ref tk_Ref nm_Ref hown hK hP hD hS 0 rfl rfl 2 (by decide) (hts (Cond.fieldLink "OutwardTapeModel" 13 "OutwardTapeModel" "low" "[J") (m_4 1 rfl rfl)) (fun _ h9 => h9) rfl (by decide +kernel) rfl rfl (Nat.le_of_ble_eq_true rfl) (dt_at dt_Ref_init 9 rfl) (fun H locs hP hD hS => ?_)
  have hP : va_P D CLS [(o, .inr (0, [.int 0, .ref r1, .ref r2, .null, .null, .int 0, .null, .int 0, .null, .int 0, .long 0, .long 0, .int 0, .int 0, .int 0, .long 0, .int 0, .int 0, .long 0, .int 0])), (r1, .inl (e1, 40, .inl (fun _ => 0))), (r2, .inl (e2, 40, .inr (.inl (fun _ => 0))))] H := hP
  have hD : va_D A [(o, .inr (0, [.int 0, .ref r1, .ref r2, .null, .null, .int 0, .null, .int 0, .null, .int 0, .long 0, .long 0, .int 0, .int 0, .int 0, .long 0, .int 0, .int 0, .long 0, .int 0])), (r1, .inl (e1, 40, .inl (fun _ => 0))), (r2, .inl (e2, 40, .inr (.inl (fun _ => 0))))] := dD hD rfl
  refine lv_aload_n hx hb (dt_at dt_Ref_init 10 rfl) rfl (lv_at hl 0 rfl) ?_
  refine lv_bipush (v := 40) hx hb (dt_at dt_Ref_init 11 rfl) (by decide) ?_
  refine va_newa (atype := .long) (ty := .long) (N' := 40) (a0 := (40, .inr (.inl (fun _ => 0)))) hx hb (hts (Cond.arrayClass .long) (m_4 60 rfl rfl)) rfl hK hP hD hS hA (fun _ => rfl) (by decide) (by decide) (by decide) (Nat.le_of_ble_eq_true rfl) (Nat.le_of_ble_eq_true rfl) (dt_at dt_Ref_init 12 rfl) (fun r3 e3 H hK hP hD hS => ?_)
  have hP : va_P D CLS [(o, .inr (0, [.int 0, .ref r1, .ref r2, .null, .null, .int 0, .null, .int 0, .null, .int 0, .long 0, .long 0, .int 0, .int 0, .int 0, .long 0, .int 0, .int 0, .long 0, .int 0])), (r1, .inl (e1, 40, .inl (fun _ => 0))), (r2, .inl (e2, 40, .inr (.inl (fun _ => 0)))), (r3, .inl (e3, 40, .inr (.inl (fun _ => 0))))] H := hP
  have hD : va_D A [(o, .inr (0, [.int 0, .ref r1, .ref r2, .null, .null, .int 0, .null, .int 0, .null, .int 0, .long 0, .long 0, .int 0, .int 0, .int 0, .long 0, .int 0, .int 0, .long 0, .int 0])), (r1, .inl (e1, 40, .inl (fun _ => 0))), (r2, .inl (e2, 40, .inr (.inl (fun _ => 0)))), (r3, .inl (e3, 40, .inr (.inl (fun _ => 0))))] := dD hD rfl
  have hK : va_K D CLS [(e1, .int), (e2, .long), (e3, .long)] s := hK
  refine W.widen (k := 3) (n := 120) (Nat.le_of_ble_eq_true rfl) (Nat.le_of_ble_eq_true rfl) ?_
  refine va_put (D := D) (ci := 0) (v := .ref r3) (ty := .array .long) (C := "OutwardTapeModel") (T := T_Ref) (N := 20) hx hb hts in_Ref ty_Ref tk_Ref nm_Ref hown hK hP hD hS 0 rfl rfl 3 (by decide) (hts (Cond.fieldLink "OutwardTapeModel" 17 "OutwardTapeModel" "high" "[J") (m_4 2 rfl rfl)) (fun _ h9 => h9) rfl (by decide +kernel) rfl rfl (Nat.le_of_ble_eq_true rfl) (dt_at dt_Ref_init 13 rfl) (fun H locs hP hD hS => ?_)
  have hP : va_P D CLS [(o, .inr (0, [.int 0, .ref r1, .ref r2, .ref r3, .null, .int 0, .null, .int 0, .null, .int 0, .long 0, .long 0, .int 0, .int 0, .int 0, .long 0, .int 0, .int 0, .long 0, .int 0])), (r1, .inl (e1, 40, .inl (fun _ => 0))), (r2, .inl (e2, 40, .inr (.inl (fun _ => 0)))), (r3, .inl (e3, 40, .inr (.inl (fun _ => 0))))] H := hP
  have hD : va_D A [(o, .inr (0, [.int 0, .ref r1, .ref r2, .ref r3, .null, .int 0, .null, .int 0, .null, .int 0, .long 0, .long 0, .int 0, .int 0, .int 0, .long 0, .int 0, .int 0, .long 0, .int 0])), (r1, .inl (e1, 40, .inl (fun _ => 0))), (r2, .inl (e2, 40, .inr (.inl (fun _ => 0)))), (r3, .inl (e3, 40, .inr (.inl (fun _ => 0))))] := dD hD rfl
  refine lv_aload_n hx hb (dt_at dt_Ref_init 14 rfl) rfl (lv_at hl 0 rfl) ?_
  refine lv_bipush (v := 40) hx hb (dt_at dt_Ref_init 15 rfl) (by decide) ?_
  refine va_newa (atype := .int) (ty := .int) (N' := 40) (a0 := (40, .inl (fun _ => 0))) hx hb (hts (Cond.arrayClass .int) (m_1 62 rfl rfl)) rfl hK hP hD hS hA (fun _ => rfl) (by decide) (by decide) (by decide) (Nat.le_of_ble_eq_true rfl) (Nat.le_of_ble_eq_true rfl) (dt_at dt_Ref_init 16 rfl) (fun r4 e4 H hK hP hD hS => ?_)
  have hP : va_P D CLS [(o, .inr (0, [.int 0, .ref r1, .ref r2, .ref r3, .null, .int 0, .null, .int 0, .null, .int 0, .long 0, .long 0, .int 0, .int 0, .int 0, .long 0, .int 0, .int 0, .long 0, .int 0])), (r1, .inl (e1, 40, .inl (fun _ => 0))), (r2, .inl (e2, 40, .inr (.inl (fun _ => 0)))), (r3, .inl (e3, 40, .inr (.inl (fun _ => 0)))), (r4, .inl (e4, 40, .inl (fun _ => 0)))] H := hP
  have hD : va_D A [(o, .inr (0, [.int 0, .ref r1, .ref r2, .ref r3, .null, .int 0, .null, .int 0, .null, .int 0, .long 0, .long 0, .int 0, .int 0, .int 0, .long 0, .int 0, .int 0, .long 0, .int 0])), (r1, .inl (e1, 40, .inl (fun _ => 0))), (r2, .inl (e2, 40, .inr (.inl (fun _ => 0)))), (r3, .inl (e3, 40, .inr (.inl (fun _ => 0)))), (r4, .inl (e4, 40, .inl (fun _ => 0)))] := dD hD rfl
  have hK : va_K D CLS [(e1, .int), (e2, .long), (e3, .long), (e4, .int)] s := hK
  refine W.widen (k := 4) (n := 160) (Nat.le_of_ble_eq_true rfl) (Nat.le_of_ble_eq_true rfl) ?_
  refine va_put (D := D) (ci := 0) (v := .ref r4) (ty := .array .int) (C := "OutwardTapeModel") (T := T_Ref) (N := 20) hx hb hts in_Ref ty_Ref tk_Ref nm_Ref hown hK hP hD hS 0 rfl rfl 4 (by decide) (hts (Cond.fieldLink "OutwardTapeModel" 20 "OutwardTapeModel" "mark" "[I") (m_4 3 rfl rfl)) (fun _ h9 => h9) rfl (by decide +kernel) rfl rfl (Nat.le_of_ble_eq_true rfl) (dt_at dt_Ref_init 17 rfl) (fun H locs hP hD hS => ?_)
  have hP : va_P D CLS [(o, .inr (0, [.int 0, .ref r1, .ref r2, .ref r3, .ref r4, .int 0, .null, .int 0, .null, .int 0, .long 0, .long 0, .int 0, .int 0, .int 0, .long 0, .int 0, .int 0, .long 0, .int 0])), (r1, .inl (e1, 40, .inl (fun _ => 0))), (r2, .inl (e2, 40, .inr (.inl (fun _ => 0)))), (r3, .inl (e3, 40, .inr (.inl (fun _ => 0)))), (r4, .inl (e4, 40, .inl (fun _ => 0)))] H := hP
  have hD : va_D A [(o, .inr (0, [.int 0, .ref r1, .ref r2, .ref r3, .ref r4, .int 0, .null, .int 0, .null, .int 0, .long 0, .long 0, .int 0, .int 0, .int 0, .long 0, .int 0, .int 0, .long 0, .int 0])), (r1, .inl (e1, 40, .inl (fun _ => 0))), (r2, .inl (e2, 40, .inr (.inl (fun _ => 0)))), (r3, .inl (e3, 40, .inr (.inl (fun _ => 0)))), (r4, .inl (e4, 40, .inl (fun _ => 0)))] := dD hD rfl
  refine lv_aload_n hx hb (dt_at dt_Ref_init 18 rfl) rfl (lv_at hl 0 rfl) ?_
  refine lv_bipush (v := 60) hx hb (dt_at dt_Ref_init 19 rfl) (by decide) ?_
  refine va_newa (atype := .int) (ty := .int) (N' := 60) (a0 := (60, .inl (fun _ => 0))) hx hb (hts (Cond.arrayClass .int) (m_1 62 rfl rfl)) rfl hK hP hD hS hA (fun _ => rfl) (by decide) (by decide) (by decide) (Nat.le_of_ble_eq_true rfl) (Nat.le_of_ble_eq_true rfl) (dt_at dt_Ref_init 20 rfl) (fun r5 e5 H hK hP hD hS => ?_)
  have hP : va_P D CLS [(o, .inr (0, [.int 0, .ref r1, .ref r2, .ref r3, .ref r4, .int 0, .null, .int 0, .null, .int 0, .long 0, .long 0, .int 0, .int 0, .int 0, .long 0, .int 0, .int 0, .long 0, .int 0])), (r1, .inl (e1, 40, .inl (fun _ => 0))), (r2, .inl (e2, 40, .inr (.inl (fun _ => 0)))), (r3, .inl (e3, 40, .inr (.inl (fun _ => 0)))), (r4, .inl (e4, 40, .inl (fun _ => 0))), (r5, .inl (e5, 60, .inl (fun _ => 0)))] H := hP
  have hD : va_D A [(o, .inr (0, [.int 0, .ref r1, .ref r2, .ref r3, .ref r4, .int 0, .null, .int 0, .null, .int 0, .long 0, .long 0, .int 0, .int 0, .int 0, .long 0, .int 0, .int 0, .long 0, .int 0])), (r1, .inl (e1, 40, .inl (fun _ => 0))), (r2, .inl (e2, 40, .inr (.inl (fun _ => 0)))), (r3, .inl (e3, 40, .inr (.inl (fun _ => 0)))), (r4, .inl (e4, 40, .inl (fun _ => 0))), (r5, .inl (e5, 60, .inl (fun _ => 0)))] := dD hD rfl
  have hK : va_K D CLS [(e1, .int), (e2, .long), (e3, .long), (e4, .int), (e5, .int)] s := hK
  refine W.widen (k := 5) (n := 220) (Nat.le_of_ble_eq_true rfl) (Nat.le_of_ble_eq_true rfl) ?_
  refine va_put (D := D) (ci := 0) (v := .ref r5) (ty := .array .int) (C := "OutwardTapeModel") (T := T_Ref) (N := 20) hx hb hts in_Ref ty_Ref tk_Ref nm_Ref hown hK hP hD hS 0 rfl rfl 6 (by decide) (hts (Cond.fieldLink "OutwardTapeModel" 23 "OutwardTapeModel" "text" "[I") (m_4 5 rfl rfl)) (fun _ h9 => h9) rfl (by decide +kernel) rfl rfl (Nat.le_of_ble_eq_true rfl) (dt_at dt_Ref_init 21 rfl) (fun H locs hP hD hS => ?_)
  have hP : va_P D CLS [(o, .inr (0, [.int 0, .ref r1, .ref r2, .ref r3, .ref r4, .int 0, .ref r5, .int 0, .null, .int 0, .long 0, .long 0, .int 0, .int 0, .int 0, .long 0, .int 0, .int 0, .long 0, .int 0])), (r1, .inl (e1, 40, .inl (fun _ => 0))), (r2, .inl (e2, 40, .inr (.inl (fun _ => 0)))), (r3, .inl (e3, 40, .inr (.inl (fun _ => 0)))), (r4, .inl (e4, 40, .inl (fun _ => 0))), (r5, .inl (e5, 60, .inl (fun _ => 0)))] H := hP
  have hD : va_D A [(o, .inr (0, [.int 0, .ref r1, .ref r2, .ref r3, .ref r4, .int 0, .ref r5, .int 0, .null, .int 0, .long 0, .long 0, .int 0, .int 0, .int 0, .long 0, .int 0, .int 0, .long 0, .int 0])), (r1, .inl (e1, 40, .inl (fun _ => 0))), (r2, .inl (e2, 40, .inr (.inl (fun _ => 0)))), (r3, .inl (e3, 40, .inr (.inl (fun _ => 0)))), (r4, .inl (e4, 40, .inl (fun _ => 0))), (r5, .inl (e5, 60, .inl (fun _ => 0)))] := dD hD rfl
  refine lv_aload_n hx hb (dt_at dt_Ref_init 22 rfl) rfl (lv_at hl 0 rfl) ?_
  refine lv_sipush (v := 800) hx hb (dt_at dt_Ref_init 23 rfl) (by decide) ?_
  refine va_newa (atype := .int) (ty := .int) (N' := 800) (a0 := (800, .inl (fun _ => 0))) hx hb (hts (Cond.arrayClass .int) (m_1 62 rfl rfl)) rfl hK hP hD hS hA (fun _ => rfl) (by decide) (by decide) (by decide) (Nat.le_of_ble_eq_true rfl) (Nat.le_of_ble_eq_true rfl) (dt_at dt_Ref_init 24 rfl) (fun r6 e6 H hK hP hD hS => ?_)
  have hP : va_P D CLS [(o, .inr (0, [.int 0, .ref r1, .ref r2, .ref r3, .ref r4, .int 0, .ref r5, .int 0, .null, .int 0, .long 0, .long 0, .int 0, .int 0, .int 0, .long 0, .int 0, .int 0, .long 0, .int 0])), (r1, .inl (e1, 40, .inl (fun _ => 0))), (r2, .inl (e2, 40, .inr (.inl (fun _ => 0)))), (r3, .inl (e3, 40, .inr (.inl (fun _ => 0)))), (r4, .inl (e4, 40, .inl (fun _ => 0))), (r5, .inl (e5, 60, .inl (fun _ => 0))), (r6, .inl (e6, 800, .inl (fun _ => 0)))] H := hP
  have hD : va_D A [(o, .inr (0, [.int 0, .ref r1, .ref r2, .ref r3, .ref r4, .int 0, .ref r5, .int 0, .null, .int 0, .long 0, .long 0, .int 0, .int 0, .int 0, .long 0, .int 0, .int 0, .long 0, .int 0])), (r1, .inl (e1, 40, .inl (fun _ => 0))), (r2, .inl (e2, 40, .inr (.inl (fun _ => 0)))), (r3, .inl (e3, 40, .inr (.inl (fun _ => 0)))), (r4, .inl (e4, 40, .inl (fun _ => 0))), (r5, .inl (e5, 60, .inl (fun _ => 0))), (r6, .inl (e6, 800, .inl (fun _ => 0)))] := dD hD rfl
  have hK : va_K D CLS [(e1, .int), (e2, .long), (e3, .long), (e4, .int), (e5, .int), (e6, .int)] s := hK
  refine W.widen (k := 6) (n := 1020) (Nat.le_of_ble_eq_true rfl) (Nat.le_of_ble_eq_true rfl) ?_
  refine va_put (D := D) (ci := 0) (v := .ref r6) (ty := .array .int) (C := "OutwardTapeModel") (T := T_Ref) (N := 20) hx hb hts in_Ref ty_Ref tk_Ref nm_Ref hown hK hP hD hS 0 rfl rfl 8 (by decide) (hts (Cond.fieldLink "OutwardTapeModel" 26 "OutwardTapeModel" "limb" "[I") (m_4 7 rfl rfl)) (fun _ h9 => h9) rfl (by decide +kernel) rfl rfl (Nat.le_of_ble_eq_true rfl) (dt_at dt_Ref_init 25 rfl) (fun H locs hP hD hS => ?_)
  have hP : va_P D CLS [(o, .inr (0, [.int 0, .ref r1, .ref r2, .ref r3, .ref r4, .int 0, .ref r5, .int 0, .ref r6, .int 0, .long 0, .long 0, .int 0, .int 0, .int 0, .long 0, .int 0, .int 0, .long 0, .int 0])), (r1, .inl (e1, 40, .inl (fun _ => 0))), (r2, .inl (e2, 40, .inr (.inl (fun _ => 0)))), (r3, .inl (e3, 40, .inr (.inl (fun _ => 0)))), (r4, .inl (e4, 40, .inl (fun _ => 0))), (r5, .inl (e5, 60, .inl (fun _ => 0))), (r6, .inl (e6, 800, .inl (fun _ => 0)))] H := hP
  have hD : va_D A [(o, .inr (0, [.int 0, .ref r1, .ref r2, .ref r3, .ref r4, .int 0, .ref r5, .int 0, .ref r6, .int 0, .long 0, .long 0, .int 0, .int 0, .int 0, .long 0, .int 0, .int 0, .long 0, .int 0])), (r1, .inl (e1, 40, .inl (fun _ => 0))), (r2, .inl (e2, 40, .inr (.inl (fun _ => 0)))), (r3, .inl (e3, 40, .inr (.inl (fun _ => 0)))), (r4, .inl (e4, 40, .inl (fun _ => 0))), (r5, .inl (e5, 60, .inl (fun _ => 0))), (r6, .inl (e6, 800, .inl (fun _ => 0)))] := dD hD rfl
  exact W.vret hx hb hr (fun t ht hW => ⟨⟨(), rfl, trivial, r1, r2, r3, r4, r5, r6, e1, e2, e3, e4, e5, e6, hPt hP ht, va_K.moved hW.alike hK, hD⟩, hS.F ht⟩) hS.2.2 (dt_at dt_Ref_init 26 rfl)
