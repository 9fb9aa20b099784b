-- written by wip/gen/wrapg.py
abbrev rm_Law_literal : Room := { frames := 9, cells := 4, slots := 12, locals := 210 }
def dl_Law_literal : List (Nat × Instr × Nat) := [(0, .aload_n 1, 1), (1, .iconst (0), 1), (2, .aload_n 0, 1), (3, .invokevirtual 7, 3), (6, .i2l, 1), (7, .lastore, 1), (8, .goto (6), 3), (11, .astore_n 2, 1), (12, .iconst (1), 1), (13, .ireturn, 1), (14, .iconst (0), 1), (15, .ireturn, 1)]
theorem dt_Law_literal : dtbl method_3_code dl_Law_literal = true := by decide +kernel
set_option maxRecDepth 100000 in
set_option maxHeartbeats 4000000 in
theorem c_Law_literal (l : Launch) (hfl : l.flags = flags0) (D : va_G) (a : Nat → Nat) (q : Nat → ClassId) (hd : va_D (fun _ => True) (dT a)) (u : Nat) (qu : ClassId) (hu : nin (dT a) u) (sz : Nat) (gu : Int64)  (g0 : Int32) (g1 : Int32) (g2 : Nat → Int32) (g3 : Nat → Option Nat) (g4 : Int32) (g5 : Int32) (g6 : Nat → Int32) (g7 : Int32) (g8 : Int64) (g9 : Int32) (g10 : Int32) (g11 : Nat → Int32) (g12 : Int32) (g13 : Int64) (g14 : Int32) (g15 : Int32) (g16 : Nat → Int32) (g17 : Nat → Option (Int64 × Int64 × Int32)) (n0 : Nat) (adK adV : Nat → Nat) (hn0 : ∀ x, va_A (dT a ++ [(u, .inr (0, []))]) sz x → n0 ≤ x) (r0 : Int32 × Int64 × Int32 × Int32 × Int32 × (Nat → Int32) × Int32 × Int64 × Int32 × Int32 × (Nat → Int32) × Int32 × Int64 × Int32 × Int32 × (Nat → Int32) × (Nat → Option (Int64 × Int64 × Int32))) (h : f_Law_literal gu g0 g1 g2 g4 g5 g6 g7 g8 g9 g10 g11 g12 g13 g14 g15 g16 g17 = some r0) : Met l (⟨"OutwardTapeLaw", "literal", "(LOutwardTape;[J)I"⟩ : MethodName) (Cond.codeWith (⟨"OutwardTapeLaw", "literal", "(LOutwardTape;[J)I"⟩ : MethodName) method_3_code 3 (some .int) [(0, 8, 11, 13)] :: lw_G) rm_Law_literal (va_Pc [.ref (a 0), .ref u] (fun U => U.heap.size = sz ∧ va_P D CLS (wT a q (a 5) (a 7) g0 g1 g2 g3 g4 g5 g6 g7 g8 g9 g10 g11 g12 g13 g14 g15 g16) U.heap ∧ va_K D CLS (tT q) U ∧ tapeC D (dT a) g3 g17 U.heap ∧ isS n0 adK adV U ∧ va_P D CLS [(u, .inl (qu, 1, .inr (.inl (fun _ => gu))))] U.heap ∧ va_K D CLS [(qu, .long)] U ∧ ncX U)) (va_Qi (fun (r : Int32) (_ : Unit) => r = r0.1) (fun _ t => ∃ g3n : Nat → Option Nat, va_P D CLS (wT a q (a 5) (a 7) g0 r0.2.2.1 g2 g3n r0.2.2.2.1 r0.2.2.2.2.1 r0.2.2.2.2.2.1 r0.2.2.2.2.2.2.1 r0.2.2.2.2.2.2.2.1 r0.2.2.2.2.2.2.2.2.1 r0.2.2.2.2.2.2.2.2.2.1 r0.2.2.2.2.2.2.2.2.2.2.1 r0.2.2.2.2.2.2.2.2.2.2.2.1 r0.2.2.2.2.2.2.2.2.2.2.2.2.1 r0.2.2.2.2.2.2.2.2.2.2.2.2.2.1 r0.2.2.2.2.2.2.2.2.2.2.2.2.2.2.1 r0.2.2.2.2.2.2.2.2.2.2.2.2.2.2.2.1) t.heap ∧ tapeC D (dT a) g3n r0.2.2.2.2.2.2.2.2.2.2.2.2.2.2.2.2 t.heap ∧ va_P D CLS [(u, .inl (qu, 1, .inr (.inl (fun _ => r0.2.1))))] t.heap) (va_A (dT a ++ [(u, .inr (0, []))]) sz)) 4 12 (va_A (dT a ++ [(u, .inr (0, []))]) sz) := by
  refine va_MetW (cc := method_3_code) (maxL := 3) (ret := some .int) (hh := [(0, 8, 11, 13)]) (by decide) rfl ?_
  intro p e s m args below meth c s₁ B hml hv
  obtain ⟨rfl, hsz, hP, hK, hT, hSt, hU, hKu, hN⟩ := hv
  subst hsz
  have hC := CX.ofW B hml rfl
  have htb : c.exceptionTable.toList = [(⟨0, 8, 11, 13⟩ : ExceptionTableEntry)] := tb_inj (tb_of B)
  have hl := lv_entry [.ref (a 0), .ref u] (n := 3) (Nat.le_of_ble_eq_true rfl)
  rw [lg_entry_eq]
  generalize (lg_sl [.ref (a 0), .ref u] ++ List.replicate (3 - (lg_sl [.ref (a 0), .ref u]).length) Slot.unset).toArray = ls at hl ⊢
  have hl : lv_has ls 3 [(0, .ref (a 0)), (1, .ref u)] := hl
  obtain ⟨hx, hb, hml, hown, hts, hr, hlocks⟩ := id hC
  have hS : va_S (va_A (dT a ++ [(u, .inr (0, []))]) s.heap.size) s.heap s.heap [] := va_S.rf
  have hF : ∀ x, va_A (dT a) s.heap.size x → (va_A (dT a ++ [(u, .inr (0, []))]) s.heap.size) x := fun x h9 => va_A_app h9
  have hlu : u < s.heap.size := (hU 0 _ rfl).lt
  refine lv_aload_n hx hb (dt_at dt_Law_literal 0 rfl) rfl (lv_at hl 1 rfl) ?_
  refine lv_iconst (v := 0) hx hb (dt_at dt_Law_literal 1 rfl) (by decide) ?_
  refine lv_aload_n hx hb (dt_at dt_Law_literal 2 rfl) rfl (lv_at hl 0 rfl) ?_
  obtain ⟨r1, h1, h⟩ := ob_of h
  rcases r1 with k | r1
  · match k, h1, h with
    | 0, h1, h =>
      obtain rfl := os_of h
      refine ct_row (Cx := "java/lang/IllegalStateException") (hpc := 11) (As := []) (rest := [.int 0, .ref u]) ⟨hx, hb, hml, hown, hts⟩ (t_Tape_literal l hfl D a q  hd s.heap.size  g0 g1 g2 g3 g4 g5 g6 g7 g8 g9 g10 g11 g12 g13 g14 g15 g16 g17 n0 adK adV (fun x h9 => hn0 x (hF x h9)) 0 h1) (cwV 0 hts (gd_V (m_2 17 rfl rfl) (m_2 18 rfl rfl) (m_2 19 rfl rfl) (m_1 1 rfl rfl) (m_2 20 rfl rfl)) rfl rfl rfl (by decide +kernel) ⟨Nat.le_of_ble_eq_true rfl, Nat.le_of_ble_eq_true rfl⟩) ⟨fun a U g mk q => ⟨q.1, q.2.1, q.2.2.1, va_K.moved (u := U) (U := U.calling g mk a) (Vm.Alike.refl U.vm) q.2.2.2.1, q.2.2.2.2.1, isS.call q.2.2.2.2.2⟩, va_recv hK hP (ci := 1) (q0 := 0) rfl rfl, fun U hU hW => ⟨rfl, by rw [hU], by rw [hU]; exact hP, va_K.moved hW.alike hK, by rw [hU]; exact hT, hSt.go hS hn0 hU hW⟩⟩ rfl hl.1 rfl (Nat.le_of_ble_eq_true rfl) (dt_at dt_Law_literal 3 rfl) ⟨Nat.le_of_ble_eq_true rfl, Nat.le_of_ble_eq_true rfl⟩ (fun _ _ _ _ h9 => h9) htb (fun T x ce X hce hfc hvm => cat_hit X rfl _ hown (hts _ (m_2 16 rfl rfl)) rfl (by decide) hce hfc hvm) (fun x H1 hz hk => ?_)
      have hP1 : va_P D CLS (wT a q (a 5) (a 7) g0 g1 g2 g3 g4 g5 g6 g7 g8 g9 g10 g11 g12 g13 g14 g15 g16) H1 := va_P.kept hP (fun k q hq => hk _ (hP k q hq).lt)
      have hT1 := hT.kept (H1 := H1) (fun x h8 _ => hk x h8)
      have hU1 : va_P D CLS [(u, .inl (qu, 1, .inr (.inl (fun _ => gu))))] H1 := va_P.kept hU (fun k q hq => hk _ (hU k q hq).lt)
      have hS1 : va_S (va_A (dT a ++ [(u, .inr (0, []))]) s.heap.size) s.heap H1 [] := ⟨hz, fun x h8 _ => hk x h8, fun _ h => by cases h⟩
      refine lv_astore_n (lv' := [(2, .ref x), (0, .ref (a 0)), (1, .ref u)]) hx hb (dt_at dt_Law_literal 7 rfl) rfl hl (by decide) rfl (fun ls hl => ?_)
      refine lv_iconst (v := 1) hx hb (dt_at dt_Law_literal 8 rfl) (by decide) ?_
      refine W.widen (k := 4) (n := 12) (Nat.le_of_ble_eq_true rfl) (Nat.le_of_ble_eq_true rfl) ?_
      exact W.iret (v := 1) hx hb hr (fun t ht hW => ⟨⟨_, (), rfl, rfl, ⟨g3, hPt hP1 ht, hT1.t ht, hPt hU1 ht⟩⟩, hS1.F ht⟩) hS1.2.2 (dt_at dt_Law_literal 9 rfl)
    | 1, h1, h => exact nn_of h
    | 2, h1, h => exact nn_of h
    | k + 3, h1, h => exact nn_of h
  · obtain rfl := os_of h
    refine va_calli (va_runV (As := []) (rest := [.int 0, .ref u]) ⟨hx, hb, hml, hown, hts⟩ (c_Tape_literal l D a q  hd s.heap.size  g0 g1 g2 g3 g4 g5 g6 g7 g8 g9 g10 g11 g12 g13 g14 g15 g16 g17 n0 adK adV (fun x h9 => hn0 x (hF x h9)) r1 h1) (cwV 0 hts (gd_V (m_2 17 rfl rfl) (m_2 18 rfl rfl) (m_2 19 rfl rfl) (m_1 1 rfl rfl) (m_2 20 rfl rfl)) rfl rfl rfl (by decide +kernel) ⟨Nat.le_of_ble_eq_true rfl, Nat.le_of_ble_eq_true rfl⟩) ⟨fun a U g mk q => ⟨q.1, q.2.1, q.2.2.1, va_K.moved (u := U) (U := U.calling g mk a) (Vm.Alike.refl U.vm) q.2.2.2.1, q.2.2.2.2.1, isS.call q.2.2.2.2.2⟩, va_recv hK hP (ci := 1) (q0 := 0) rfl rfl, fun U hU hW => ⟨rfl, by rw [hU], by rw [hU]; exact hP, va_K.moved hW.alike hK, by rw [hU]; exact hT, hSt.go hS hn0 hU hW⟩⟩ rfl rfl hl.1 rfl (lv_room (Nat.le_of_ble_eq_true rfl)) (dt_at dt_Law_literal 3 rfl) ⟨Nat.le_of_ble_eq_true rfl, Nat.le_of_ble_eq_true rfl⟩) hS (fun x _ h9 => hF x h9) hF (fun u_r uu t H1 locs ht hvm hw hB hz1 hk1 hS => ?_)
    subst hw
    obtain ⟨g3n, hB, hT⟩ := hB
    rw [ht] at hB hT
    have hU1 : va_P D CLS [(u, .inl (qu, 1, .inr (.inl (fun _ => gu))))] H1 := va_P.kept hU (fun k q hq => hk1 _ (hU k q hq).lt (not_va_A (u1_nin hu hq) (hU k q hq).lt))
    refine W.widen (k := 4) (n := 12) (Nat.le_of_ble_eq_true rfl) (Nat.le_of_ble_eq_true rfl) ?_
    refine lv_i2l (v := r1.1.toInt64) hx hb (dt_at dt_Law_literal 4 rfl) rfl ?_
    refine la_last hx hb hKu hU1 va_A_u hS 0 rfl (dt_at dt_Law_literal 5 rfl) (fun H2 locs2 hU2 hz2 hk2 hS => ?_)
    have hP2 := va_P.kept hB (H1 := H2) (fun k q hq => hk2 _ (nin_ne hu (by rfl) hq))
    have hT2 := tapeC.keptU hK hKu hT (hU1 0 _ rfl) hk2
    refine lv_goto (tgt := 14) hx hb (dt_at dt_Law_literal 6 rfl) (by decide) ?_
    refine lv_iconst (v := 0) hx hb (dt_at dt_Law_literal 10 rfl) (by decide) ?_
    exact W.iret (v := 0) hx hb hr (fun t ht hW => ⟨⟨_, (), rfl, rfl, ⟨g3n, hPt hP2 ht, hT2.t ht, hPt hU2 ht⟩⟩, hS.F ht⟩) hS.2.2 (dt_at dt_Law_literal 11 rfl)
abbrev rm_Law_bounds : Room := { frames := 7, cells := 2, slots := 6, locals := 115 }
def dl_Law_bounds : List (Nat × Instr × Nat) := [(0, .aload 6, 2), (2, .iconst (0), 1), (3, .aload_n 0, 1), (4, .lload_n 1, 1), (5, .lload_n 3, 1), (6, .iload 5, 2), (8, .invokevirtual 15, 3), (11, .i2l, 1), (12, .lastore, 1), (13, .goto (11), 3), (16, .astore 7, 2), (18, .iconst (1), 1), (19, .ireturn, 1), (20, .astore 7, 2), (22, .iconst (2), 1), (23, .ireturn, 1), (24, .iconst (0), 1), (25, .ireturn, 1)]
theorem dt_Law_bounds : dtbl method_4_code dl_Law_bounds = true := by decide +kernel
set_option maxRecDepth 100000 in
set_option maxHeartbeats 4000000 in
theorem c_Law_bounds (l : Launch) (hfl : l.flags = flags0) (D : va_G) (a : Nat → Nat) (q : Nat → ClassId) (hd : va_D (fun _ => True) (dT a)) (u : Nat) (qu : ClassId) (hu : nin (dT a) u) (sz : Nat) (gu : Int64) (a1 : Int64) (a3 : Int64) (a5 : Int32) (g0 : Int32) (g1 : Int32) (g2 : Nat → Int32) (g3 : Nat → Option Nat) (g4 : Int32) (g5 : Int32) (g6 : Nat → Int32) (g7 : Int32) (g8 : Int64) (g9 : Int32) (g10 : Int32) (g11 : Nat → Int32) (g12 : Int32) (g13 : Int64) (g14 : Int32) (g15 : Int32) (g16 : Nat → Int32) (g17 : Nat → Option (Int64 × Int64 × Int32)) (n0 : Nat) (adK adV : Nat → Nat) (hn0 : ∀ x, va_A (dT a ++ [(u, .inr (0, []))]) sz x → n0 ≤ x) (r0 : Int32 × Int64 × Int32 × (Nat → Option (Int64 × Int64 × Int32))) (h : f_Law_bounds gu a1 a3 a5 g1 g17 = some r0) : Met l (⟨"OutwardTapeLaw", "bounds", "(LOutwardTape;JJI[J)I"⟩ : MethodName) (Cond.codeWith (⟨"OutwardTapeLaw", "bounds", "(LOutwardTape;JJI[J)I"⟩ : MethodName) method_4_code 8 (some .int) [(0, 13, 16, 19), (0, 13, 20, 13)] :: lw_G) rm_Law_bounds (va_Pc [.ref (a 0), .long a1, .long a3, .int a5, .ref u] (fun U => U.heap.size = sz ∧ va_P D CLS (wT a q (a 5) (a 7) g0 g1 g2 g3 g4 g5 g6 g7 g8 g9 g10 g11 g12 g13 g14 g15 g16) U.heap ∧ va_K D CLS (tT q) U ∧ tapeC D (dT a) g3 g17 U.heap ∧ isS n0 adK adV U ∧ va_P D CLS [(u, .inl (qu, 1, .inr (.inl (fun _ => gu))))] U.heap ∧ va_K D CLS [(qu, .long)] U ∧ ncX U)) (va_Qi (fun (r : Int32) (_ : Unit) => r = r0.1) (fun _ t => ∃ g3n : Nat → Option Nat, va_P D CLS (wT a q (a 5) (a 7) g0 r0.2.2.1 g2 g3n g4 g5 g6 g7 g8 g9 g10 g11 g12 g13 g14 g15 g16) t.heap ∧ tapeC D (dT a) g3n r0.2.2.2 t.heap ∧ va_P D CLS [(u, .inl (qu, 1, .inr (.inl (fun _ => r0.2.1))))] t.heap) (va_A (dT a ++ [(u, .inr (0, []))]) sz)) 2 6 (va_A (dT a ++ [(u, .inr (0, []))]) sz) := by
  refine va_MetW (cc := method_4_code) (maxL := 8) (ret := some .int) (hh := [(0, 13, 16, 19), (0, 13, 20, 13)]) (by decide) rfl ?_
  intro p e s m args below meth c s₁ B hml hv
  obtain ⟨rfl, hsz, hP, hK, hT, hSt, hU, hKu, hN⟩ := hv
  subst hsz
  have hC := CX.ofW B hml rfl
  have htb : c.exceptionTable.toList = [(⟨0, 13, 16, 19⟩ : ExceptionTableEntry), (⟨0, 13, 20, 13⟩ : ExceptionTableEntry)] := tb_inj (tb_of B)
  have hl := lv_entry [.ref (a 0), .long a1, .long a3, .int a5, .ref u] (n := 8) (Nat.le_of_ble_eq_true rfl)
  rw [lg_entry_eq]
  generalize (lg_sl [.ref (a 0), .long a1, .long a3, .int a5, .ref u] ++ List.replicate (8 - (lg_sl [.ref (a 0), .long a1, .long a3, .int a5, .ref u]).length) Slot.unset).toArray = ls at hl ⊢
  have hl : lv_has ls 8 [(0, .ref (a 0)), (1, .long a1), (3, .long a3), (5, .int a5), (6, .ref u)] := hl
  obtain ⟨hx, hb, hml, hown, hts, hr, hlocks⟩ := id hC
  have hS : va_S (va_A (dT a ++ [(u, .inr (0, []))]) s.heap.size) s.heap s.heap [] := va_S.rf
  have hF : ∀ x, va_A (dT a) s.heap.size x → (va_A (dT a ++ [(u, .inr (0, []))]) s.heap.size) x := fun x h9 => va_A_app h9
  have hlu : u < s.heap.size := (hU 0 _ rfl).lt
  refine lv_aload hx hb (dt_at dt_Law_bounds 0 rfl) (lv_at hl 4 rfl) ?_
  refine lv_iconst (v := 0) hx hb (dt_at dt_Law_bounds 1 rfl) (by decide) ?_
  refine lv_aload_n hx hb (dt_at dt_Law_bounds 2 rfl) rfl (lv_at hl 0 rfl) ?_
  refine lv_lload_n hx hb (dt_at dt_Law_bounds 3 rfl) rfl (lv_at hl 1 rfl) ?_
  refine lv_lload_n hx hb (dt_at dt_Law_bounds 4 rfl) rfl (lv_at hl 2 rfl) ?_
  refine lv_iload hx hb (dt_at dt_Law_bounds 5 rfl) (lv_at hl 3 rfl) ?_
  obtain ⟨r1, h1, h⟩ := ob_of h
  rcases r1 with k | r1
  · match k, h1, h with
    | 0, h1, h =>
      obtain rfl := os_of h
      refine ct_row (Cx := "java/lang/IllegalStateException") (hpc := 20) (As := [.long a1, .long a3, .int a5]) (rest := [.int 0, .ref u]) ⟨hx, hb, hml, hown, hts⟩ (t_Tape_bounds l hfl D a q (a 5) (a 7) hd s.heap.size a1 a3 a5 g0 g1 g2 g3 g4 g5 g6 g7 g8 g9 g10 g11 g12 g13 g14 g15 g16 g17 n0 adK adV (fun x h9 => hn0 x (hF x h9)) 0 h1) (cwV 3 hts (gd_V (m_3 76 rfl rfl) (m_3 77 rfl rfl) (m_3 78 rfl rfl) (m_1 1 rfl rfl) (m_3 79 rfl rfl)) rfl rfl rfl (by decide +kernel) ⟨Nat.le_of_ble_eq_true rfl, Nat.le_of_ble_eq_true rfl⟩) ⟨fun a U g mk q => ⟨q.1, q.2.1, q.2.2.1, va_K.moved (u := U) (U := U.calling g mk a) (Vm.Alike.refl U.vm) q.2.2.2.1, q.2.2.2.2.1, isS.call q.2.2.2.2.2⟩, va_recv hK hP (ci := 1) (q0 := 0) rfl rfl, fun U hU hW => ⟨rfl, by rw [hU], by rw [hU]; exact hP, va_K.moved hW.alike hK, by rw [hU]; exact hT, hSt.go hS hn0 hU hW⟩⟩ rfl hl.1 rfl (Nat.le_of_ble_eq_true rfl) (dt_at dt_Law_bounds 6 rfl) ⟨Nat.le_of_ble_eq_true rfl, Nat.le_of_ble_eq_true rfl⟩ (fun _ _ _ _ h9 => h9) htb (fun T x ce X hce hfc hvm => cat_pass X rfl hown (hts _ (m_3 75 rfl rfl)) rfl (by decide) hce hfc hvm hN.1 (fun T X e9 => by rw [← e9] at hce; exact cat_hit X rfl _ hown (hts _ (m_2 16 rfl rfl)) rfl (by decide) hce hfc hvm)) (fun x H1 hz hk => ?_)
      have hP1 : va_P D CLS (wT a q (a 5) (a 7) g0 g1 g2 g3 g4 g5 g6 g7 g8 g9 g10 g11 g12 g13 g14 g15 g16) H1 := va_P.kept hP (fun k q hq => hk _ (hP k q hq).lt)
      have hT1 := hT.kept (H1 := H1) (fun x h8 _ => hk x h8)
      have hU1 : va_P D CLS [(u, .inl (qu, 1, .inr (.inl (fun _ => gu))))] H1 := va_P.kept hU (fun k q hq => hk _ (hU k q hq).lt)
      have hS1 : va_S (va_A (dT a ++ [(u, .inr (0, []))]) s.heap.size) s.heap H1 [] := ⟨hz, fun x h8 _ => hk x h8, fun _ h => by cases h⟩
      refine lv_astore (lv' := [(7, .ref x), (0, .ref (a 0)), (1, .long a1), (3, .long a3), (5, .int a5), (6, .ref u)]) hx hb (dt_at dt_Law_bounds 13 rfl) hl (by decide) rfl (fun ls hl => ?_)
      refine lv_iconst (v := 2) hx hb (dt_at dt_Law_bounds 14 rfl) (by decide) ?_
      refine W.widen (k := 2) (n := 6) (Nat.le_of_ble_eq_true rfl) (Nat.le_of_ble_eq_true rfl) ?_
      exact W.iret (v := 2) hx hb hr (fun t ht hW => ⟨⟨_, (), rfl, rfl, ⟨g3, hPt hP1 ht, hT1.t ht, hPt hU1 ht⟩⟩, hS1.F ht⟩) hS1.2.2 (dt_at dt_Law_bounds 15 rfl)
    | 1, h1, h =>
      obtain rfl := os_of h
      refine ct_row (Cx := "java/lang/IllegalArgumentException") (hpc := 16) (As := [.long a1, .long a3, .int a5]) (rest := [.int 0, .ref u]) ⟨hx, hb, hml, hown, hts⟩ (t_Tape_bounds l hfl D a q (a 5) (a 7) hd s.heap.size a1 a3 a5 g0 g1 g2 g3 g4 g5 g6 g7 g8 g9 g10 g11 g12 g13 g14 g15 g16 g17 n0 adK adV (fun x h9 => hn0 x (hF x h9)) 1 h1) (cwV 3 hts (gd_V (m_3 76 rfl rfl) (m_3 77 rfl rfl) (m_3 78 rfl rfl) (m_1 1 rfl rfl) (m_3 79 rfl rfl)) rfl rfl rfl (by decide +kernel) ⟨Nat.le_of_ble_eq_true rfl, Nat.le_of_ble_eq_true rfl⟩) ⟨fun a U g mk q => ⟨q.1, q.2.1, q.2.2.1, va_K.moved (u := U) (U := U.calling g mk a) (Vm.Alike.refl U.vm) q.2.2.2.1, q.2.2.2.2.1, isS.call q.2.2.2.2.2⟩, va_recv hK hP (ci := 1) (q0 := 0) rfl rfl, fun U hU hW => ⟨rfl, by rw [hU], by rw [hU]; exact hP, va_K.moved hW.alike hK, by rw [hU]; exact hT, hSt.go hS hn0 hU hW⟩⟩ rfl hl.1 rfl (Nat.le_of_ble_eq_true rfl) (dt_at dt_Law_bounds 6 rfl) ⟨Nat.le_of_ble_eq_true rfl, Nat.le_of_ble_eq_true rfl⟩ (fun _ _ _ _ h9 => h9) htb (fun T x ce X hce hfc hvm => cat_hit X rfl _ hown (hts _ (m_3 75 rfl rfl)) rfl (by decide) hce hfc hvm) (fun x H1 hz hk => ?_)
      have hP1 : va_P D CLS (wT a q (a 5) (a 7) g0 g1 g2 g3 g4 g5 g6 g7 g8 g9 g10 g11 g12 g13 g14 g15 g16) H1 := va_P.kept hP (fun k q hq => hk _ (hP k q hq).lt)
      have hT1 := hT.kept (H1 := H1) (fun x h8 _ => hk x h8)
      have hU1 : va_P D CLS [(u, .inl (qu, 1, .inr (.inl (fun _ => gu))))] H1 := va_P.kept hU (fun k q hq => hk _ (hU k q hq).lt)
      have hS1 : va_S (va_A (dT a ++ [(u, .inr (0, []))]) s.heap.size) s.heap H1 [] := ⟨hz, fun x h8 _ => hk x h8, fun _ h => by cases h⟩
      refine lv_astore (lv' := [(7, .ref x), (0, .ref (a 0)), (1, .long a1), (3, .long a3), (5, .int a5), (6, .ref u)]) hx hb (dt_at dt_Law_bounds 10 rfl) hl (by decide) rfl (fun ls hl => ?_)
      refine lv_iconst (v := 1) hx hb (dt_at dt_Law_bounds 11 rfl) (by decide) ?_
      refine W.widen (k := 2) (n := 6) (Nat.le_of_ble_eq_true rfl) (Nat.le_of_ble_eq_true rfl) ?_
      exact W.iret (v := 1) hx hb hr (fun t ht hW => ⟨⟨_, (), rfl, rfl, ⟨g3, hPt hP1 ht, hT1.t ht, hPt hU1 ht⟩⟩, hS1.F ht⟩) hS1.2.2 (dt_at dt_Law_bounds 12 rfl)
    | 2, h1, h => exact nn_of h
    | k + 3, h1, h => exact nn_of h
  · obtain rfl := os_of h
    refine va_calli (va_runV (As := [.long a1, .long a3, .int a5]) (rest := [.int 0, .ref u]) ⟨hx, hb, hml, hown, hts⟩ (c_Tape_bounds l D a q (a 5) (a 7) hd s.heap.size a1 a3 a5 g0 g1 g2 g3 g4 g5 g6 g7 g8 g9 g10 g11 g12 g13 g14 g15 g16 g17 n0 adK adV (fun x h9 => hn0 x (hF x h9)) r1 h1) (cwV 3 hts (gd_V (m_3 76 rfl rfl) (m_3 77 rfl rfl) (m_3 78 rfl rfl) (m_1 1 rfl rfl) (m_3 79 rfl rfl)) rfl rfl rfl (by decide +kernel) ⟨Nat.le_of_ble_eq_true rfl, Nat.le_of_ble_eq_true rfl⟩) ⟨fun a U g mk q => ⟨q.1, q.2.1, q.2.2.1, va_K.moved (u := U) (U := U.calling g mk a) (Vm.Alike.refl U.vm) q.2.2.2.1, q.2.2.2.2.1, isS.call q.2.2.2.2.2⟩, va_recv hK hP (ci := 1) (q0 := 0) rfl rfl, fun U hU hW => ⟨rfl, by rw [hU], by rw [hU]; exact hP, va_K.moved hW.alike hK, by rw [hU]; exact hT, hSt.go hS hn0 hU hW⟩⟩ rfl rfl hl.1 rfl (lv_room (Nat.le_of_ble_eq_true rfl)) (dt_at dt_Law_bounds 6 rfl) ⟨Nat.le_of_ble_eq_true rfl, Nat.le_of_ble_eq_true rfl⟩) hS (fun x _ h9 => hF x h9) hF (fun u_r uu t H1 locs ht hvm hw hB hz1 hk1 hS => ?_)
    subst hw
    obtain ⟨g3n, hB, hT⟩ := hB
    rw [ht] at hB hT
    have hU1 : va_P D CLS [(u, .inl (qu, 1, .inr (.inl (fun _ => gu))))] H1 := va_P.kept hU (fun k q hq => hk1 _ (hU k q hq).lt (not_va_A (u1_nin hu hq) (hU k q hq).lt))
    refine W.widen (k := 2) (n := 6) (Nat.le_of_ble_eq_true rfl) (Nat.le_of_ble_eq_true rfl) ?_
    refine lv_i2l (v := r1.1.toInt64) hx hb (dt_at dt_Law_bounds 7 rfl) rfl ?_
    refine la_last hx hb hKu hU1 va_A_u hS 0 rfl (dt_at dt_Law_bounds 8 rfl) (fun H2 locs2 hU2 hz2 hk2 hS => ?_)
    have hP2 := va_P.kept hB (H1 := H2) (fun k q hq => hk2 _ (nin_ne hu (by rfl) hq))
    have hT2 := tapeC.keptU hK hKu hT (hU1 0 _ rfl) hk2
    refine lv_goto (tgt := 24) hx hb (dt_at dt_Law_bounds 9 rfl) (by decide) ?_
    refine lv_iconst (v := 0) hx hb (dt_at dt_Law_bounds 16 rfl) (by decide) ?_
    exact W.iret (v := 0) hx hb hr (fun t ht hW => ⟨⟨_, (), rfl, rfl, ⟨g3n, hPt hP2 ht, hT2.t ht, hPt hU2 ht⟩⟩, hS.F ht⟩) hS.2.2 (dt_at dt_Law_bounds 17 rfl)
abbrev rm_Law_unary : Room := { frames := 8, cells := 2, slots := 6, locals := 209 }
def dl_Law_unary : List (Nat × Instr × Nat) := [(0, .aload_n 3, 1), (1, .iconst (0), 1), (2, .aload_n 0, 1), (3, .iload_n 1, 1), (4, .iload_n 2, 1), (5, .invokevirtual 21, 3), (8, .i2l, 1), (9, .lastore, 1), (10, .goto (15), 3), (13, .astore 4, 2), (15, .iconst (1), 1), (16, .ireturn, 1), (17, .astore 4, 2), (19, .iconst (2), 1), (20, .ireturn, 1), (21, .astore 4, 2), (23, .iconst (3), 1), (24, .ireturn, 1), (25, .iconst (0), 1), (26, .ireturn, 1)]
theorem dt_Law_unary : dtbl method_5_code dl_Law_unary = true := by decide +kernel
set_option maxRecDepth 100000 in
set_option maxHeartbeats 4000000 in
theorem c_Law_unary (l : Launch) (hfl : l.flags = flags0) (D : va_G) (a : Nat → Nat) (q : Nat → ClassId) (hd : va_D (fun _ => True) (dT a)) (u : Nat) (qu : ClassId) (hu : nin (dT a) u) (sz : Nat) (gu : Int64) (a1 : Int32) (a2 : Int32) (g0 : Int32) (g1 : Int32) (g2 : Nat → Int32) (g3 : Nat → Option Nat) (g4 : Int32) (g5 : Int32) (g6 : Nat → Int32) (g7 : Int32) (g8 : Int64) (g9 : Int32) (g10 : Int32) (g11 : Nat → Int32) (g12 : Int32) (g13 : Int64) (g14 : Int32) (g15 : Int32) (g16 : Nat → Int32) (g17 : Nat → Option (Int64 × Int64 × Int32)) (n0 : Nat) (adK adV : Nat → Nat) (hn0 : ∀ x, va_A (dT a ++ [(u, .inr (0, []))]) sz x → n0 ≤ x) (r0 : Int32 × Int64 × Int32 × (Nat → Option (Int64 × Int64 × Int32))) (h : f_Law_unary gu a1 a2 g1 g17 = some r0) : Met l (⟨"OutwardTapeLaw", "unary", "(LOutwardTape;II[J)I"⟩ : MethodName) (Cond.codeWith (⟨"OutwardTapeLaw", "unary", "(LOutwardTape;II[J)I"⟩ : MethodName) method_5_code 5 (some .int) [(0, 10, 13, 19), (0, 10, 17, 25), (0, 10, 21, 13)] :: lw_G) rm_Law_unary (va_Pc [.ref (a 0), .int a1, .int a2, .ref u] (fun U => U.heap.size = sz ∧ va_P D CLS (wT a q (a 5) (a 7) g0 g1 g2 g3 g4 g5 g6 g7 g8 g9 g10 g11 g12 g13 g14 g15 g16) U.heap ∧ va_K D CLS (tT q) U ∧ tapeC D (dT a) g3 g17 U.heap ∧ isS n0 adK adV U ∧ va_P D CLS [(u, .inl (qu, 1, .inr (.inl (fun _ => gu))))] U.heap ∧ va_K D CLS [(qu, .long)] U ∧ ncX U)) (va_Qi (fun (r : Int32) (_ : Unit) => r = r0.1) (fun _ t => ∃ g3n : Nat → Option Nat, va_P D CLS (wT a q (a 5) (a 7) g0 r0.2.2.1 g2 g3n g4 g5 g6 g7 g8 g9 g10 g11 g12 g13 g14 g15 g16) t.heap ∧ tapeC D (dT a) g3n r0.2.2.2 t.heap ∧ va_P D CLS [(u, .inl (qu, 1, .inr (.inl (fun _ => r0.2.1))))] t.heap) (va_A (dT a ++ [(u, .inr (0, []))]) sz)) 2 6 (va_A (dT a ++ [(u, .inr (0, []))]) sz) := by
  refine va_MetW (cc := method_5_code) (maxL := 5) (ret := some .int) (hh := [(0, 10, 13, 19), (0, 10, 17, 25), (0, 10, 21, 13)]) (by decide) rfl ?_
  intro p e s m args below meth c s₁ B hml hv
  obtain ⟨rfl, hsz, hP, hK, hT, hSt, hU, hKu, hN⟩ := hv
  subst hsz
  have hC := CX.ofW B hml rfl
  have htb : c.exceptionTable.toList = [(⟨0, 10, 13, 19⟩ : ExceptionTableEntry), (⟨0, 10, 17, 25⟩ : ExceptionTableEntry), (⟨0, 10, 21, 13⟩ : ExceptionTableEntry)] := tb_inj (tb_of B)
  have hl := lv_entry [.ref (a 0), .int a1, .int a2, .ref u] (n := 5) (Nat.le_of_ble_eq_true rfl)
  rw [lg_entry_eq]
  generalize (lg_sl [.ref (a 0), .int a1, .int a2, .ref u] ++ List.replicate (5 - (lg_sl [.ref (a 0), .int a1, .int a2, .ref u]).length) Slot.unset).toArray = ls at hl ⊢
  have hl : lv_has ls 5 [(0, .ref (a 0)), (1, .int a1), (2, .int a2), (3, .ref u)] := hl
  obtain ⟨hx, hb, hml, hown, hts, hr, hlocks⟩ := id hC
  have hS : va_S (va_A (dT a ++ [(u, .inr (0, []))]) s.heap.size) s.heap s.heap [] := va_S.rf
  have hF : ∀ x, va_A (dT a) s.heap.size x → (va_A (dT a ++ [(u, .inr (0, []))]) s.heap.size) x := fun x h9 => va_A_app h9
  have hlu : u < s.heap.size := (hU 0 _ rfl).lt
  refine lv_aload_n hx hb (dt_at dt_Law_unary 0 rfl) rfl (lv_at hl 3 rfl) ?_
  refine lv_iconst (v := 0) hx hb (dt_at dt_Law_unary 1 rfl) (by decide) ?_
  refine lv_aload_n hx hb (dt_at dt_Law_unary 2 rfl) rfl (lv_at hl 0 rfl) ?_
  refine lv_iload_n hx hb (dt_at dt_Law_unary 3 rfl) rfl (lv_at hl 1 rfl) ?_
  refine lv_iload_n hx hb (dt_at dt_Law_unary 4 rfl) rfl (lv_at hl 2 rfl) ?_
  obtain ⟨r1, h1, h⟩ := ob_of h
  rcases r1 with k | r1
  · match k, h1, h with
    | 0, h1, h =>
      obtain rfl := os_of h
      refine ct_row (Cx := "java/lang/IllegalStateException") (hpc := 21) (As := [.int a1, .int a2]) (rest := [.int 0, .ref u]) ⟨hx, hb, hml, hown, hts⟩ (t_Tape_unary l hfl D a q (a 5) (a 7) hd s.heap.size a1 a2 g0 g1 g2 g3 g4 g5 g6 g7 g8 g9 g10 g11 g12 g13 g14 g15 g16 g17 n0 adK adV (fun x h9 => hn0 x (hF x h9)) 0 h1) (cwV 2 hts (gd_V (m_3 102 rfl rfl) (m_3 103 rfl rfl) (m_3 104 rfl rfl) (m_1 1 rfl rfl) (m_3 105 rfl rfl)) rfl rfl rfl (by decide +kernel) ⟨Nat.le_of_ble_eq_true rfl, Nat.le_of_ble_eq_true rfl⟩) ⟨fun a U g mk q => ⟨q.1, q.2.1, q.2.2.1, va_K.moved (u := U) (U := U.calling g mk a) (Vm.Alike.refl U.vm) q.2.2.2.1, q.2.2.2.2.1, isS.call q.2.2.2.2.2⟩, va_recv hK hP (ci := 1) (q0 := 0) rfl rfl, fun U hU hW => ⟨rfl, by rw [hU], by rw [hU]; exact hP, va_K.moved hW.alike hK, by rw [hU]; exact hT, hSt.go hS hn0 hU hW⟩⟩ rfl hl.1 rfl (Nat.le_of_ble_eq_true rfl) (dt_at dt_Law_unary 5 rfl) ⟨Nat.le_of_ble_eq_true rfl, Nat.le_of_ble_eq_true rfl⟩ (fun _ _ _ _ h9 => h9) htb (fun T x ce X hce hfc hvm => cat_pass X rfl hown (hts _ (m_3 75 rfl rfl)) rfl (by decide) hce hfc hvm hN.1 (fun T X e9 => by rw [← e9] at hce; exact cat_pass X rfl hown (hts _ (m_3 101 rfl rfl)) rfl (by decide) hce hfc hvm hN.2.1 (fun T X e9 => by rw [← e9] at hce; exact cat_hit X rfl _ hown (hts _ (m_2 16 rfl rfl)) rfl (by decide) hce hfc hvm))) (fun x H1 hz hk => ?_)
      have hP1 : va_P D CLS (wT a q (a 5) (a 7) g0 g1 g2 g3 g4 g5 g6 g7 g8 g9 g10 g11 g12 g13 g14 g15 g16) H1 := va_P.kept hP (fun k q hq => hk _ (hP k q hq).lt)
      have hT1 := hT.kept (H1 := H1) (fun x h8 _ => hk x h8)
      have hU1 : va_P D CLS [(u, .inl (qu, 1, .inr (.inl (fun _ => gu))))] H1 := va_P.kept hU (fun k q hq => hk _ (hU k q hq).lt)
      have hS1 : va_S (va_A (dT a ++ [(u, .inr (0, []))]) s.heap.size) s.heap H1 [] := ⟨hz, fun x h8 _ => hk x h8, fun _ h => by cases h⟩
      refine lv_astore (lv' := [(4, .ref x), (0, .ref (a 0)), (1, .int a1), (2, .int a2), (3, .ref u)]) hx hb (dt_at dt_Law_unary 15 rfl) hl (by decide) rfl (fun ls hl => ?_)
      refine lv_iconst (v := 3) hx hb (dt_at dt_Law_unary 16 rfl) (by decide) ?_
      refine W.widen (k := 2) (n := 6) (Nat.le_of_ble_eq_true rfl) (Nat.le_of_ble_eq_true rfl) ?_
      exact W.iret (v := 3) hx hb hr (fun t ht hW => ⟨⟨_, (), rfl, rfl, ⟨g3, hPt hP1 ht, hT1.t ht, hPt hU1 ht⟩⟩, hS1.F ht⟩) hS1.2.2 (dt_at dt_Law_unary 17 rfl)
    | 1, h1, h =>
      obtain rfl := os_of h
      refine ct_row (Cx := "java/lang/IllegalArgumentException") (hpc := 13) (As := [.int a1, .int a2]) (rest := [.int 0, .ref u]) ⟨hx, hb, hml, hown, hts⟩ (t_Tape_unary l hfl D a q (a 5) (a 7) hd s.heap.size a1 a2 g0 g1 g2 g3 g4 g5 g6 g7 g8 g9 g10 g11 g12 g13 g14 g15 g16 g17 n0 adK adV (fun x h9 => hn0 x (hF x h9)) 1 h1) (cwV 2 hts (gd_V (m_3 102 rfl rfl) (m_3 103 rfl rfl) (m_3 104 rfl rfl) (m_1 1 rfl rfl) (m_3 105 rfl rfl)) rfl rfl rfl (by decide +kernel) ⟨Nat.le_of_ble_eq_true rfl, Nat.le_of_ble_eq_true rfl⟩) ⟨fun a U g mk q => ⟨q.1, q.2.1, q.2.2.1, va_K.moved (u := U) (U := U.calling g mk a) (Vm.Alike.refl U.vm) q.2.2.2.1, q.2.2.2.2.1, isS.call q.2.2.2.2.2⟩, va_recv hK hP (ci := 1) (q0 := 0) rfl rfl, fun U hU hW => ⟨rfl, by rw [hU], by rw [hU]; exact hP, va_K.moved hW.alike hK, by rw [hU]; exact hT, hSt.go hS hn0 hU hW⟩⟩ rfl hl.1 rfl (Nat.le_of_ble_eq_true rfl) (dt_at dt_Law_unary 5 rfl) ⟨Nat.le_of_ble_eq_true rfl, Nat.le_of_ble_eq_true rfl⟩ (fun _ _ _ _ h9 => h9) htb (fun T x ce X hce hfc hvm => cat_hit X rfl _ hown (hts _ (m_3 75 rfl rfl)) rfl (by decide) hce hfc hvm) (fun x H1 hz hk => ?_)
      have hP1 : va_P D CLS (wT a q (a 5) (a 7) g0 g1 g2 g3 g4 g5 g6 g7 g8 g9 g10 g11 g12 g13 g14 g15 g16) H1 := va_P.kept hP (fun k q hq => hk _ (hP k q hq).lt)
      have hT1 := hT.kept (H1 := H1) (fun x h8 _ => hk x h8)
      have hU1 : va_P D CLS [(u, .inl (qu, 1, .inr (.inl (fun _ => gu))))] H1 := va_P.kept hU (fun k q hq => hk _ (hU k q hq).lt)
      have hS1 : va_S (va_A (dT a ++ [(u, .inr (0, []))]) s.heap.size) s.heap H1 [] := ⟨hz, fun x h8 _ => hk x h8, fun _ h => by cases h⟩
      refine lv_astore (lv' := [(4, .ref x), (0, .ref (a 0)), (1, .int a1), (2, .int a2), (3, .ref u)]) hx hb (dt_at dt_Law_unary 9 rfl) hl (by decide) rfl (fun ls hl => ?_)
      refine lv_iconst (v := 1) hx hb (dt_at dt_Law_unary 10 rfl) (by decide) ?_
      refine W.widen (k := 2) (n := 6) (Nat.le_of_ble_eq_true rfl) (Nat.le_of_ble_eq_true rfl) ?_
      exact W.iret (v := 1) hx hb hr (fun t ht hW => ⟨⟨_, (), rfl, rfl, ⟨g3, hPt hP1 ht, hT1.t ht, hPt hU1 ht⟩⟩, hS1.F ht⟩) hS1.2.2 (dt_at dt_Law_unary 11 rfl)
    | 2, h1, h =>
      obtain rfl := os_of h
      refine ct_row (Cx := "java/lang/IndexOutOfBoundsException") (hpc := 17) (As := [.int a1, .int a2]) (rest := [.int 0, .ref u]) ⟨hx, hb, hml, hown, hts⟩ (t_Tape_unary l hfl D a q (a 5) (a 7) hd s.heap.size a1 a2 g0 g1 g2 g3 g4 g5 g6 g7 g8 g9 g10 g11 g12 g13 g14 g15 g16 g17 n0 adK adV (fun x h9 => hn0 x (hF x h9)) 2 h1) (cwV 2 hts (gd_V (m_3 102 rfl rfl) (m_3 103 rfl rfl) (m_3 104 rfl rfl) (m_1 1 rfl rfl) (m_3 105 rfl rfl)) rfl rfl rfl (by decide +kernel) ⟨Nat.le_of_ble_eq_true rfl, Nat.le_of_ble_eq_true rfl⟩) ⟨fun a U g mk q => ⟨q.1, q.2.1, q.2.2.1, va_K.moved (u := U) (U := U.calling g mk a) (Vm.Alike.refl U.vm) q.2.2.2.1, q.2.2.2.2.1, isS.call q.2.2.2.2.2⟩, va_recv hK hP (ci := 1) (q0 := 0) rfl rfl, fun U hU hW => ⟨rfl, by rw [hU], by rw [hU]; exact hP, va_K.moved hW.alike hK, by rw [hU]; exact hT, hSt.go hS hn0 hU hW⟩⟩ rfl hl.1 rfl (Nat.le_of_ble_eq_true rfl) (dt_at dt_Law_unary 5 rfl) ⟨Nat.le_of_ble_eq_true rfl, Nat.le_of_ble_eq_true rfl⟩ (fun _ _ _ _ h9 => h9) htb (fun T x ce X hce hfc hvm => cat_pass X rfl hown (hts _ (m_3 75 rfl rfl)) rfl (by decide) hce hfc hvm hN.2.2 (fun T X e9 => by rw [← e9] at hce; exact cat_hit X rfl _ hown (hts _ (m_3 101 rfl rfl)) rfl (by decide) hce hfc hvm)) (fun x H1 hz hk => ?_)
      have hP1 : va_P D CLS (wT a q (a 5) (a 7) g0 g1 g2 g3 g4 g5 g6 g7 g8 g9 g10 g11 g12 g13 g14 g15 g16) H1 := va_P.kept hP (fun k q hq => hk _ (hP k q hq).lt)
      have hT1 := hT.kept (H1 := H1) (fun x h8 _ => hk x h8)
      have hU1 : va_P D CLS [(u, .inl (qu, 1, .inr (.inl (fun _ => gu))))] H1 := va_P.kept hU (fun k q hq => hk _ (hU k q hq).lt)
      have hS1 : va_S (va_A (dT a ++ [(u, .inr (0, []))]) s.heap.size) s.heap H1 [] := ⟨hz, fun x h8 _ => hk x h8, fun _ h => by cases h⟩
      refine lv_astore (lv' := [(4, .ref x), (0, .ref (a 0)), (1, .int a1), (2, .int a2), (3, .ref u)]) hx hb (dt_at dt_Law_unary 12 rfl) hl (by decide) rfl (fun ls hl => ?_)
      refine lv_iconst (v := 2) hx hb (dt_at dt_Law_unary 13 rfl) (by decide) ?_
      refine W.widen (k := 2) (n := 6) (Nat.le_of_ble_eq_true rfl) (Nat.le_of_ble_eq_true rfl) ?_
      exact W.iret (v := 2) hx hb hr (fun t ht hW => ⟨⟨_, (), rfl, rfl, ⟨g3, hPt hP1 ht, hT1.t ht, hPt hU1 ht⟩⟩, hS1.F ht⟩) hS1.2.2 (dt_at dt_Law_unary 14 rfl)
    | k + 3, h1, h => exact nn_of h
  · obtain rfl := os_of h
    refine va_calli (va_runV (As := [.int a1, .int a2]) (rest := [.int 0, .ref u]) ⟨hx, hb, hml, hown, hts⟩ (c_Tape_unary l D a q (a 5) (a 7) hd s.heap.size a1 a2 g0 g1 g2 g3 g4 g5 g6 g7 g8 g9 g10 g11 g12 g13 g14 g15 g16 g17 n0 adK adV (fun x h9 => hn0 x (hF x h9)) r1 h1) (cwV 2 hts (gd_V (m_3 102 rfl rfl) (m_3 103 rfl rfl) (m_3 104 rfl rfl) (m_1 1 rfl rfl) (m_3 105 rfl rfl)) rfl rfl rfl (by decide +kernel) ⟨Nat.le_of_ble_eq_true rfl, Nat.le_of_ble_eq_true rfl⟩) ⟨fun a U g mk q => ⟨q.1, q.2.1, q.2.2.1, va_K.moved (u := U) (U := U.calling g mk a) (Vm.Alike.refl U.vm) q.2.2.2.1, q.2.2.2.2.1, isS.call q.2.2.2.2.2⟩, va_recv hK hP (ci := 1) (q0 := 0) rfl rfl, fun U hU hW => ⟨rfl, by rw [hU], by rw [hU]; exact hP, va_K.moved hW.alike hK, by rw [hU]; exact hT, hSt.go hS hn0 hU hW⟩⟩ rfl rfl hl.1 rfl (lv_room (Nat.le_of_ble_eq_true rfl)) (dt_at dt_Law_unary 5 rfl) ⟨Nat.le_of_ble_eq_true rfl, Nat.le_of_ble_eq_true rfl⟩) hS (fun x _ h9 => hF x h9) hF (fun u_r uu t H1 locs ht hvm hw hB hz1 hk1 hS => ?_)
    subst hw
    obtain ⟨g3n, hB, hT⟩ := hB
    rw [ht] at hB hT
    have hU1 : va_P D CLS [(u, .inl (qu, 1, .inr (.inl (fun _ => gu))))] H1 := va_P.kept hU (fun k q hq => hk1 _ (hU k q hq).lt (not_va_A (u1_nin hu hq) (hU k q hq).lt))
    refine W.widen (k := 2) (n := 6) (Nat.le_of_ble_eq_true rfl) (Nat.le_of_ble_eq_true rfl) ?_
    refine lv_i2l (v := r1.1.toInt64) hx hb (dt_at dt_Law_unary 6 rfl) rfl ?_
    refine la_last hx hb hKu hU1 va_A_u hS 0 rfl (dt_at dt_Law_unary 7 rfl) (fun H2 locs2 hU2 hz2 hk2 hS => ?_)
    have hP2 := va_P.kept hB (H1 := H2) (fun k q hq => hk2 _ (nin_ne hu (by rfl) hq))
    have hT2 := tapeC.keptU hK hKu hT (hU1 0 _ rfl) hk2
    refine lv_goto (tgt := 25) hx hb (dt_at dt_Law_unary 8 rfl) (by decide) ?_
    refine lv_iconst (v := 0) hx hb (dt_at dt_Law_unary 18 rfl) (by decide) ?_
    exact W.iret (v := 0) hx hb hr (fun t ht hW => ⟨⟨_, (), rfl, rfl, ⟨g3n, hPt hP2 ht, hT2.t ht, hPt hU2 ht⟩⟩, hS.F ht⟩) hS.2.2 (dt_at dt_Law_unary 19 rfl)
abbrev rm_Law_binary : Room := { frames := 8, cells := 2, slots := 6, locals := 212 }
def dl_Law_binary : List (Nat × Instr × Nat) := [(0, .aload 4, 2), (2, .iconst (0), 1), (3, .aload_n 0, 1), (4, .iload_n 1, 1), (5, .iload_n 2, 1), (6, .iload_n 3, 1), (7, .invokevirtual 27, 3), (10, .i2l, 1), (11, .lastore, 1), (12, .goto (15), 3), (15, .astore 5, 2), (17, .iconst (1), 1), (18, .ireturn, 1), (19, .astore 5, 2), (21, .iconst (2), 1), (22, .ireturn, 1), (23, .astore 5, 2), (25, .iconst (3), 1), (26, .ireturn, 1), (27, .iconst (0), 1), (28, .ireturn, 1)]
theorem dt_Law_binary : dtbl method_6_code dl_Law_binary = true := by decide +kernel
set_option maxRecDepth 100000 in
set_option maxHeartbeats 4000000 in
theorem c_Law_binary (l : Launch) (hfl : l.flags = flags0) (D : va_G) (a : Nat → Nat) (q : Nat → ClassId) (hd : va_D (fun _ => True) (dT a)) (u : Nat) (qu : ClassId) (hu : nin (dT a) u) (sz : Nat) (gu : Int64) (a1 : Int32) (a2 : Int32) (a3 : Int32) (g0 : Int32) (g1 : Int32) (g2 : Nat → Int32) (g3 : Nat → Option Nat) (g4 : Int32) (g5 : Int32) (g6 : Nat → Int32) (g7 : Int32) (g8 : Int64) (g9 : Int32) (g10 : Int32) (g11 : Nat → Int32) (g12 : Int32) (g13 : Int64) (g14 : Int32) (g15 : Int32) (g16 : Nat → Int32) (g17 : Nat → Option (Int64 × Int64 × Int32)) (n0 : Nat) (adK adV : Nat → Nat) (hn0 : ∀ x, va_A (dT a ++ [(u, .inr (0, []))]) sz x → n0 ≤ x) (r0 : Int32 × Int64 × Int32 × (Nat → Option (Int64 × Int64 × Int32))) (h : f_Law_binary gu a1 a2 a3 g1 g17 = some r0) : Met l (⟨"OutwardTapeLaw", "binary", "(LOutwardTape;III[J)I"⟩ : MethodName) (Cond.codeWith (⟨"OutwardTapeLaw", "binary", "(LOutwardTape;III[J)I"⟩ : MethodName) method_6_code 6 (some .int) [(0, 12, 15, 19), (0, 12, 19, 25), (0, 12, 23, 13)] :: lw_G) rm_Law_binary (va_Pc [.ref (a 0), .int a1, .int a2, .int a3, .ref u] (fun U => U.heap.size = sz ∧ va_P D CLS (wT a q (a 5) (a 7) g0 g1 g2 g3 g4 g5 g6 g7 g8 g9 g10 g11 g12 g13 g14 g15 g16) U.heap ∧ va_K D CLS (tT q) U ∧ tapeC D (dT a) g3 g17 U.heap ∧ isS n0 adK adV U ∧ va_P D CLS [(u, .inl (qu, 1, .inr (.inl (fun _ => gu))))] U.heap ∧ va_K D CLS [(qu, .long)] U ∧ ncX U)) (va_Qi (fun (r : Int32) (_ : Unit) => r = r0.1) (fun _ t => ∃ g3n : Nat → Option Nat, va_P D CLS (wT a q (a 5) (a 7) g0 r0.2.2.1 g2 g3n g4 g5 g6 g7 g8 g9 g10 g11 g12 g13 g14 g15 g16) t.heap ∧ tapeC D (dT a) g3n r0.2.2.2 t.heap ∧ va_P D CLS [(u, .inl (qu, 1, .inr (.inl (fun _ => r0.2.1))))] t.heap) (va_A (dT a ++ [(u, .inr (0, []))]) sz)) 2 6 (va_A (dT a ++ [(u, .inr (0, []))]) sz) := by
  refine va_MetW (cc := method_6_code) (maxL := 6) (ret := some .int) (hh := [(0, 12, 15, 19), (0, 12, 19, 25), (0, 12, 23, 13)]) (by decide) rfl ?_
  intro p e s m args below meth c s₁ B hml hv
  obtain ⟨rfl, hsz, hP, hK, hT, hSt, hU, hKu, hN⟩ := hv
  subst hsz
  have hC := CX.ofW B hml rfl
  have htb : c.exceptionTable.toList = [(⟨0, 12, 15, 19⟩ : ExceptionTableEntry), (⟨0, 12, 19, 25⟩ : ExceptionTableEntry), (⟨0, 12, 23, 13⟩ : ExceptionTableEntry)] := tb_inj (tb_of B)
  have hl := lv_entry [.ref (a 0), .int a1, .int a2, .int a3, .ref u] (n := 6) (Nat.le_of_ble_eq_true rfl)
  rw [lg_entry_eq]
  generalize (lg_sl [.ref (a 0), .int a1, .int a2, .int a3, .ref u] ++ List.replicate (6 - (lg_sl [.ref (a 0), .int a1, .int a2, .int a3, .ref u]).length) Slot.unset).toArray = ls at hl ⊢
  have hl : lv_has ls 6 [(0, .ref (a 0)), (1, .int a1), (2, .int a2), (3, .int a3), (4, .ref u)] := hl
  obtain ⟨hx, hb, hml, hown, hts, hr, hlocks⟩ := id hC
  have hS : va_S (va_A (dT a ++ [(u, .inr (0, []))]) s.heap.size) s.heap s.heap [] := va_S.rf
  have hF : ∀ x, va_A (dT a) s.heap.size x → (va_A (dT a ++ [(u, .inr (0, []))]) s.heap.size) x := fun x h9 => va_A_app h9
  have hlu : u < s.heap.size := (hU 0 _ rfl).lt
  refine lv_aload hx hb (dt_at dt_Law_binary 0 rfl) (lv_at hl 4 rfl) ?_
  refine lv_iconst (v := 0) hx hb (dt_at dt_Law_binary 1 rfl) (by decide) ?_
  refine lv_aload_n hx hb (dt_at dt_Law_binary 2 rfl) rfl (lv_at hl 0 rfl) ?_
  refine lv_iload_n hx hb (dt_at dt_Law_binary 3 rfl) rfl (lv_at hl 1 rfl) ?_
  refine lv_iload_n hx hb (dt_at dt_Law_binary 4 rfl) rfl (lv_at hl 2 rfl) ?_
  refine lv_iload_n hx hb (dt_at dt_Law_binary 5 rfl) rfl (lv_at hl 3 rfl) ?_
  obtain ⟨r1, h1, h⟩ := ob_of h
  rcases r1 with k | r1
  · match k, h1, h with
    | 0, h1, h =>
      obtain rfl := os_of h
      refine ct_row (Cx := "java/lang/IllegalStateException") (hpc := 23) (As := [.int a1, .int a2, .int a3]) (rest := [.int 0, .ref u]) ⟨hx, hb, hml, hown, hts⟩ (t_Tape_binary l hfl D a q (a 5) (a 7) hd s.heap.size a1 a2 a3 g0 g1 g2 g3 g4 g5 g6 g7 g8 g9 g10 g11 g12 g13 g14 g15 g16 g17 n0 adK adV (fun x h9 => hn0 x (hF x h9)) 0 h1) (cwV 3 hts (gd_V (m_3 190 rfl rfl) (m_3 191 rfl rfl) (m_3 192 rfl rfl) (m_1 1 rfl rfl) (m_3 193 rfl rfl)) rfl rfl rfl (by decide +kernel) ⟨Nat.le_of_ble_eq_true rfl, Nat.le_of_ble_eq_true rfl⟩) ⟨fun a U g mk q => ⟨q.1, q.2.1, q.2.2.1, va_K.moved (u := U) (U := U.calling g mk a) (Vm.Alike.refl U.vm) q.2.2.2.1, q.2.2.2.2.1, isS.call q.2.2.2.2.2⟩, va_recv hK hP (ci := 1) (q0 := 0) rfl rfl, fun U hU hW => ⟨rfl, by rw [hU], by rw [hU]; exact hP, va_K.moved hW.alike hK, by rw [hU]; exact hT, hSt.go hS hn0 hU hW⟩⟩ rfl hl.1 rfl (Nat.le_of_ble_eq_true rfl) (dt_at dt_Law_binary 6 rfl) ⟨Nat.le_of_ble_eq_true rfl, Nat.le_of_ble_eq_true rfl⟩ (fun _ _ _ _ h9 => h9) htb (fun T x ce X hce hfc hvm => cat_pass X rfl hown (hts _ (m_3 75 rfl rfl)) rfl (by decide) hce hfc hvm hN.1 (fun T X e9 => by rw [← e9] at hce; exact cat_pass X rfl hown (hts _ (m_3 101 rfl rfl)) rfl (by decide) hce hfc hvm hN.2.1 (fun T X e9 => by rw [← e9] at hce; exact cat_hit X rfl _ hown (hts _ (m_2 16 rfl rfl)) rfl (by decide) hce hfc hvm))) (fun x H1 hz hk => ?_)
      have hP1 : va_P D CLS (wT a q (a 5) (a 7) g0 g1 g2 g3 g4 g5 g6 g7 g8 g9 g10 g11 g12 g13 g14 g15 g16) H1 := va_P.kept hP (fun k q hq => hk _ (hP k q hq).lt)
      have hT1 := hT.kept (H1 := H1) (fun x h8 _ => hk x h8)
      have hU1 : va_P D CLS [(u, .inl (qu, 1, .inr (.inl (fun _ => gu))))] H1 := va_P.kept hU (fun k q hq => hk _ (hU k q hq).lt)
      have hS1 : va_S (va_A (dT a ++ [(u, .inr (0, []))]) s.heap.size) s.heap H1 [] := ⟨hz, fun x h8 _ => hk x h8, fun _ h => by cases h⟩
      refine lv_astore (lv' := [(5, .ref x), (0, .ref (a 0)), (1, .int a1), (2, .int a2), (3, .int a3), (4, .ref u)]) hx hb (dt_at dt_Law_binary 16 rfl) hl (by decide) rfl (fun ls hl => ?_)
      refine lv_iconst (v := 3) hx hb (dt_at dt_Law_binary 17 rfl) (by decide) ?_
      refine W.widen (k := 2) (n := 6) (Nat.le_of_ble_eq_true rfl) (Nat.le_of_ble_eq_true rfl) ?_
      exact W.iret (v := 3) hx hb hr (fun t ht hW => ⟨⟨_, (), rfl, rfl, ⟨g3, hPt hP1 ht, hT1.t ht, hPt hU1 ht⟩⟩, hS1.F ht⟩) hS1.2.2 (dt_at dt_Law_binary 18 rfl)
    | 1, h1, h =>
      obtain rfl := os_of h
      refine ct_row (Cx := "java/lang/IllegalArgumentException") (hpc := 15) (As := [.int a1, .int a2, .int a3]) (rest := [.int 0, .ref u]) ⟨hx, hb, hml, hown, hts⟩ (t_Tape_binary l hfl D a q (a 5) (a 7) hd s.heap.size a1 a2 a3 g0 g1 g2 g3 g4 g5 g6 g7 g8 g9 g10 g11 g12 g13 g14 g15 g16 g17 n0 adK adV (fun x h9 => hn0 x (hF x h9)) 1 h1) (cwV 3 hts (gd_V (m_3 190 rfl rfl) (m_3 191 rfl rfl) (m_3 192 rfl rfl) (m_1 1 rfl rfl) (m_3 193 rfl rfl)) rfl rfl rfl (by decide +kernel) ⟨Nat.le_of_ble_eq_true rfl, Nat.le_of_ble_eq_true rfl⟩) ⟨fun a U g mk q => ⟨q.1, q.2.1, q.2.2.1, va_K.moved (u := U) (U := U.calling g mk a) (Vm.Alike.refl U.vm) q.2.2.2.1, q.2.2.2.2.1, isS.call q.2.2.2.2.2⟩, va_recv hK hP (ci := 1) (q0 := 0) rfl rfl, fun U hU hW => ⟨rfl, by rw [hU], by rw [hU]; exact hP, va_K.moved hW.alike hK, by rw [hU]; exact hT, hSt.go hS hn0 hU hW⟩⟩ rfl hl.1 rfl (Nat.le_of_ble_eq_true rfl) (dt_at dt_Law_binary 6 rfl) ⟨Nat.le_of_ble_eq_true rfl, Nat.le_of_ble_eq_true rfl⟩ (fun _ _ _ _ h9 => h9) htb (fun T x ce X hce hfc hvm => cat_hit X rfl _ hown (hts _ (m_3 75 rfl rfl)) rfl (by decide) hce hfc hvm) (fun x H1 hz hk => ?_)
      have hP1 : va_P D CLS (wT a q (a 5) (a 7) g0 g1 g2 g3 g4 g5 g6 g7 g8 g9 g10 g11 g12 g13 g14 g15 g16) H1 := va_P.kept hP (fun k q hq => hk _ (hP k q hq).lt)
      have hT1 := hT.kept (H1 := H1) (fun x h8 _ => hk x h8)
      have hU1 : va_P D CLS [(u, .inl (qu, 1, .inr (.inl (fun _ => gu))))] H1 := va_P.kept hU (fun k q hq => hk _ (hU k q hq).lt)
      have hS1 : va_S (va_A (dT a ++ [(u, .inr (0, []))]) s.heap.size) s.heap H1 [] := ⟨hz, fun x h8 _ => hk x h8, fun _ h => by cases h⟩
      refine lv_astore (lv' := [(5, .ref x), (0, .ref (a 0)), (1, .int a1), (2, .int a2), (3, .int a3), (4, .ref u)]) hx hb (dt_at dt_Law_binary 10 rfl) hl (by decide) rfl (fun ls hl => ?_)
      refine lv_iconst (v := 1) hx hb (dt_at dt_Law_binary 11 rfl) (by decide) ?_
      refine W.widen (k := 2) (n := 6) (Nat.le_of_ble_eq_true rfl) (Nat.le_of_ble_eq_true rfl) ?_
      exact W.iret (v := 1) hx hb hr (fun t ht hW => ⟨⟨_, (), rfl, rfl, ⟨g3, hPt hP1 ht, hT1.t ht, hPt hU1 ht⟩⟩, hS1.F ht⟩) hS1.2.2 (dt_at dt_Law_binary 12 rfl)
    | 2, h1, h =>
      obtain rfl := os_of h
      refine ct_row (Cx := "java/lang/IndexOutOfBoundsException") (hpc := 19) (As := [.int a1, .int a2, .int a3]) (rest := [.int 0, .ref u]) ⟨hx, hb, hml, hown, hts⟩ (t_Tape_binary l hfl D a q (a 5) (a 7) hd s.heap.size a1 a2 a3 g0 g1 g2 g3 g4 g5 g6 g7 g8 g9 g10 g11 g12 g13 g14 g15 g16 g17 n0 adK adV (fun x h9 => hn0 x (hF x h9)) 2 h1) (cwV 3 hts (gd_V (m_3 190 rfl rfl) (m_3 191 rfl rfl) (m_3 192 rfl rfl) (m_1 1 rfl rfl) (m_3 193 rfl rfl)) rfl rfl rfl (by decide +kernel) ⟨Nat.le_of_ble_eq_true rfl, Nat.le_of_ble_eq_true rfl⟩) ⟨fun a U g mk q => ⟨q.1, q.2.1, q.2.2.1, va_K.moved (u := U) (U := U.calling g mk a) (Vm.Alike.refl U.vm) q.2.2.2.1, q.2.2.2.2.1, isS.call q.2.2.2.2.2⟩, va_recv hK hP (ci := 1) (q0 := 0) rfl rfl, fun U hU hW => ⟨rfl, by rw [hU], by rw [hU]; exact hP, va_K.moved hW.alike hK, by rw [hU]; exact hT, hSt.go hS hn0 hU hW⟩⟩ rfl hl.1 rfl (Nat.le_of_ble_eq_true rfl) (dt_at dt_Law_binary 6 rfl) ⟨Nat.le_of_ble_eq_true rfl, Nat.le_of_ble_eq_true rfl⟩ (fun _ _ _ _ h9 => h9) htb (fun T x ce X hce hfc hvm => cat_pass X rfl hown (hts _ (m_3 75 rfl rfl)) rfl (by decide) hce hfc hvm hN.2.2 (fun T X e9 => by rw [← e9] at hce; exact cat_hit X rfl _ hown (hts _ (m_3 101 rfl rfl)) rfl (by decide) hce hfc hvm)) (fun x H1 hz hk => ?_)
      have hP1 : va_P D CLS (wT a q (a 5) (a 7) g0 g1 g2 g3 g4 g5 g6 g7 g8 g9 g10 g11 g12 g13 g14 g15 g16) H1 := va_P.kept hP (fun k q hq => hk _ (hP k q hq).lt)
      have hT1 := hT.kept (H1 := H1) (fun x h8 _ => hk x h8)
      have hU1 : va_P D CLS [(u, .inl (qu, 1, .inr (.inl (fun _ => gu))))] H1 := va_P.kept hU (fun k q hq => hk _ (hU k q hq).lt)
      have hS1 : va_S (va_A (dT a ++ [(u, .inr (0, []))]) s.heap.size) s.heap H1 [] := ⟨hz, fun x h8 _ => hk x h8, fun _ h => by cases h⟩
      refine lv_astore (lv' := [(5, .ref x), (0, .ref (a 0)), (1, .int a1), (2, .int a2), (3, .int a3), (4, .ref u)]) hx hb (dt_at dt_Law_binary 13 rfl) hl (by decide) rfl (fun ls hl => ?_)
      refine lv_iconst (v := 2) hx hb (dt_at dt_Law_binary 14 rfl) (by decide) ?_
      refine W.widen (k := 2) (n := 6) (Nat.le_of_ble_eq_true rfl) (Nat.le_of_ble_eq_true rfl) ?_
      exact W.iret (v := 2) hx hb hr (fun t ht hW => ⟨⟨_, (), rfl, rfl, ⟨g3, hPt hP1 ht, hT1.t ht, hPt hU1 ht⟩⟩, hS1.F ht⟩) hS1.2.2 (dt_at dt_Law_binary 15 rfl)
    | k + 3, h1, h => exact nn_of h
  · obtain rfl := os_of h
    refine va_calli (va_runV (As := [.int a1, .int a2, .int a3]) (rest := [.int 0, .ref u]) ⟨hx, hb, hml, hown, hts⟩ (c_Tape_binary l D a q (a 5) (a 7) hd s.heap.size a1 a2 a3 g0 g1 g2 g3 g4 g5 g6 g7 g8 g9 g10 g11 g12 g13 g14 g15 g16 g17 n0 adK adV (fun x h9 => hn0 x (hF x h9)) r1 h1) (cwV 3 hts (gd_V (m_3 190 rfl rfl) (m_3 191 rfl rfl) (m_3 192 rfl rfl) (m_1 1 rfl rfl) (m_3 193 rfl rfl)) rfl rfl rfl (by decide +kernel) ⟨Nat.le_of_ble_eq_true rfl, Nat.le_of_ble_eq_true rfl⟩) ⟨fun a U g mk q => ⟨q.1, q.2.1, q.2.2.1, va_K.moved (u := U) (U := U.calling g mk a) (Vm.Alike.refl U.vm) q.2.2.2.1, q.2.2.2.2.1, isS.call q.2.2.2.2.2⟩, va_recv hK hP (ci := 1) (q0 := 0) rfl rfl, fun U hU hW => ⟨rfl, by rw [hU], by rw [hU]; exact hP, va_K.moved hW.alike hK, by rw [hU]; exact hT, hSt.go hS hn0 hU hW⟩⟩ rfl rfl hl.1 rfl (lv_room (Nat.le_of_ble_eq_true rfl)) (dt_at dt_Law_binary 6 rfl) ⟨Nat.le_of_ble_eq_true rfl, Nat.le_of_ble_eq_true rfl⟩) hS (fun x _ h9 => hF x h9) hF (fun u_r uu t H1 locs ht hvm hw hB hz1 hk1 hS => ?_)
    subst hw
    obtain ⟨g3n, hB, hT⟩ := hB
    rw [ht] at hB hT
    have hU1 : va_P D CLS [(u, .inl (qu, 1, .inr (.inl (fun _ => gu))))] H1 := va_P.kept hU (fun k q hq => hk1 _ (hU k q hq).lt (not_va_A (u1_nin hu hq) (hU k q hq).lt))
    refine W.widen (k := 2) (n := 6) (Nat.le_of_ble_eq_true rfl) (Nat.le_of_ble_eq_true rfl) ?_
    refine lv_i2l (v := r1.1.toInt64) hx hb (dt_at dt_Law_binary 7 rfl) rfl ?_
    refine la_last hx hb hKu hU1 va_A_u hS 0 rfl (dt_at dt_Law_binary 8 rfl) (fun H2 locs2 hU2 hz2 hk2 hS => ?_)
    have hP2 := va_P.kept hB (H1 := H2) (fun k q hq => hk2 _ (nin_ne hu (by rfl) hq))
    have hT2 := tapeC.keptU hK hKu hT (hU1 0 _ rfl) hk2
    refine lv_goto (tgt := 27) hx hb (dt_at dt_Law_binary 9 rfl) (by decide) ?_
    refine lv_iconst (v := 0) hx hb (dt_at dt_Law_binary 19 rfl) (by decide) ?_
    exact W.iret (v := 0) hx hb hr (fun t ht hW => ⟨⟨_, (), rfl, rfl, ⟨g3n, hPt hP2 ht, hT2.t ht, hPt hU2 ht⟩⟩, hS.F ht⟩) hS.2.2 (dt_at dt_Law_binary 20 rfl)
abbrev rm_Law_decoration : Room := { frames := 7, cells := 1, slots := 6, locals := 111 }
def dl_Law_decoration : List (Nat × Instr × Nat) := [(0, .aload_n 2, 1), (1, .iconst (0), 1), (2, .aload_n 0, 1), (3, .iload_n 1, 1), (4, .invokevirtual 31, 3), (7, .i2l, 1), (8, .lastore, 1), (9, .goto (6), 3), (12, .astore_n 3, 1), (13, .iconst (1), 1), (14, .ireturn, 1), (15, .iconst (0), 1), (16, .ireturn, 1)]
theorem dt_Law_decoration : dtbl method_7_code dl_Law_decoration = true := by decide +kernel
set_option maxRecDepth 100000 in
set_option maxHeartbeats 4000000 in
theorem c_Law_decoration (l : Launch) (hfl : l.flags = flags0) (D : va_G) (a : Nat → Nat) (q : Nat → ClassId) (hd : va_D (fun _ => True) (dT a)) (u : Nat) (qu : ClassId) (hu : nin (dT a) u) (sz : Nat) (gu : Int64) (a1 : Int32) (g0 : Int32) (g1 : Int32) (g2 : Nat → Int32) (g3 : Nat → Option Nat) (g4 : Int32) (g5 : Int32) (g6 : Nat → Int32) (g7 : Int32) (g8 : Int64) (g9 : Int32) (g10 : Int32) (g11 : Nat → Int32) (g12 : Int32) (g13 : Int64) (g14 : Int32) (g15 : Int32) (g16 : Nat → Int32) (g17 : Nat → Option (Int64 × Int64 × Int32)) (n0 : Nat) (adK adV : Nat → Nat) (hn0 : ∀ x, va_A (dT a ++ [(u, .inr (0, []))]) sz x → n0 ≤ x) (r0 : Int32 × Int64) (h : f_Law_decoration gu a1 g1 g17 = some r0) : Met l (⟨"OutwardTapeLaw", "decoration", "(LOutwardTape;I[J)I"⟩ : MethodName) (Cond.codeWith (⟨"OutwardTapeLaw", "decoration", "(LOutwardTape;I[J)I"⟩ : MethodName) method_7_code 4 (some .int) [(0, 9, 12, 25)] :: lw_G) rm_Law_decoration (va_Pc [.ref (a 0), .int a1, .ref u] (fun U => U.heap.size = sz ∧ va_P D CLS (wT a q (a 5) (a 7) g0 g1 g2 g3 g4 g5 g6 g7 g8 g9 g10 g11 g12 g13 g14 g15 g16) U.heap ∧ va_K D CLS (tT q) U ∧ tapeC D (dT a) g3 g17 U.heap ∧ isS n0 adK adV U ∧ va_P D CLS [(u, .inl (qu, 1, .inr (.inl (fun _ => gu))))] U.heap ∧ va_K D CLS [(qu, .long)] U ∧ ncX U)) (va_Qi (fun (r : Int32) (_ : Unit) => r = r0.1) (fun _ t => ∃ g3n : Nat → Option Nat, va_P D CLS (wT a q (a 5) (a 7) g0 g1 g2 g3n g4 g5 g6 g7 g8 g9 g10 g11 g12 g13 g14 g15 g16) t.heap ∧ tapeC D (dT a) g3n g17 t.heap ∧ va_P D CLS [(u, .inl (qu, 1, .inr (.inl (fun _ => r0.2))))] t.heap) (va_A (dT a ++ [(u, .inr (0, []))]) sz)) 1 6 (va_A (dT a ++ [(u, .inr (0, []))]) sz) := by
  refine va_MetW (cc := method_7_code) (maxL := 4) (ret := some .int) (hh := [(0, 9, 12, 25)]) (by decide) rfl ?_
  intro p e s m args below meth c s₁ B hml hv
  obtain ⟨rfl, hsz, hP, hK, hT, hSt, hU, hKu, hN⟩ := hv
  subst hsz
  have hC := CX.ofW B hml rfl
  have htb : c.exceptionTable.toList = [(⟨0, 9, 12, 25⟩ : ExceptionTableEntry)] := tb_inj (tb_of B)
  have hl := lv_entry [.ref (a 0), .int a1, .ref u] (n := 4) (Nat.le_of_ble_eq_true rfl)
  rw [lg_entry_eq]
  generalize (lg_sl [.ref (a 0), .int a1, .ref u] ++ List.replicate (4 - (lg_sl [.ref (a 0), .int a1, .ref u]).length) Slot.unset).toArray = ls at hl ⊢
  have hl : lv_has ls 4 [(0, .ref (a 0)), (1, .int a1), (2, .ref u)] := hl
  obtain ⟨hx, hb, hml, hown, hts, hr, hlocks⟩ := id hC
  have hS : va_S (va_A (dT a ++ [(u, .inr (0, []))]) s.heap.size) s.heap s.heap [] := va_S.rf
  have hF : ∀ x, va_A (dT a) s.heap.size x → (va_A (dT a ++ [(u, .inr (0, []))]) s.heap.size) x := fun x h9 => va_A_app h9
  have hlu : u < s.heap.size := (hU 0 _ rfl).lt
  refine lv_aload_n hx hb (dt_at dt_Law_decoration 0 rfl) rfl (lv_at hl 2 rfl) ?_
  refine lv_iconst (v := 0) hx hb (dt_at dt_Law_decoration 1 rfl) (by decide) ?_
  refine lv_aload_n hx hb (dt_at dt_Law_decoration 2 rfl) rfl (lv_at hl 0 rfl) ?_
  refine lv_iload_n hx hb (dt_at dt_Law_decoration 3 rfl) rfl (lv_at hl 1 rfl) ?_
  obtain ⟨r1, h1, h⟩ := ob_of h
  rcases r1 with k | r1
  · match k, h1, h with
    | 2, h1, h =>
      obtain rfl := os_of h
      refine ct_row (Cx := "java/lang/IndexOutOfBoundsException") (hpc := 12) (As := [.int a1]) (rest := [.int 0, .ref u]) ⟨hx, hb, hml, hown, hts⟩ (t_Tape_decoration l hfl D a q (a 5) (a 7) hd s.heap.size a1 g0 g1 g2 g3 g4 g5 g6 g7 g8 g9 g10 g11 g12 g13 g14 g15 g16 g17 n0 adK adV (fun x h9 => hn0 x (hF x h9)) 2 h1) (cwV 1 hts (gd_V (m_3 229 rfl rfl) (m_3 230 rfl rfl) (m_3 231 rfl rfl) (m_1 1 rfl rfl) (m_3 232 rfl rfl)) rfl rfl rfl (by decide +kernel) ⟨Nat.le_of_ble_eq_true rfl, Nat.le_of_ble_eq_true rfl⟩) ⟨fun a U g mk q => ⟨q.1, q.2.1, q.2.2.1, va_K.moved (u := U) (U := U.calling g mk a) (Vm.Alike.refl U.vm) q.2.2.2.1, q.2.2.2.2.1, isS.call q.2.2.2.2.2⟩, va_recv hK hP (ci := 1) (q0 := 0) rfl rfl, fun U hU hW => ⟨rfl, by rw [hU], by rw [hU]; exact hP, va_K.moved hW.alike hK, by rw [hU]; exact hT, hSt.go hS hn0 hU hW⟩⟩ rfl hl.1 rfl (Nat.le_of_ble_eq_true rfl) (dt_at dt_Law_decoration 4 rfl) ⟨Nat.le_of_ble_eq_true rfl, Nat.le_of_ble_eq_true rfl⟩ (fun _ _ _ _ h9 => h9) htb (fun T x ce X hce hfc hvm => cat_hit X rfl _ hown (hts _ (m_3 101 rfl rfl)) rfl (by decide) hce hfc hvm) (fun x H1 hz hk => ?_)
      have hP1 : va_P D CLS (wT a q (a 5) (a 7) g0 g1 g2 g3 g4 g5 g6 g7 g8 g9 g10 g11 g12 g13 g14 g15 g16) H1 := va_P.kept hP (fun k q hq => hk _ (hP k q hq).lt)
      have hT1 := hT.kept (H1 := H1) (fun x h8 _ => hk x h8)
      have hU1 : va_P D CLS [(u, .inl (qu, 1, .inr (.inl (fun _ => gu))))] H1 := va_P.kept hU (fun k q hq => hk _ (hU k q hq).lt)
      have hS1 : va_S (va_A (dT a ++ [(u, .inr (0, []))]) s.heap.size) s.heap H1 [] := ⟨hz, fun x h8 _ => hk x h8, fun _ h => by cases h⟩
      refine lv_astore_n (lv' := [(3, .ref x), (0, .ref (a 0)), (1, .int a1), (2, .ref u)]) hx hb (dt_at dt_Law_decoration 8 rfl) rfl hl (by decide) rfl (fun ls hl => ?_)
      refine lv_iconst (v := 1) hx hb (dt_at dt_Law_decoration 9 rfl) (by decide) ?_
      refine W.widen (k := 1) (n := 6) (Nat.le_of_ble_eq_true rfl) (Nat.le_of_ble_eq_true rfl) ?_
      exact W.iret (v := 1) hx hb hr (fun t ht hW => ⟨⟨_, (), rfl, rfl, ⟨g3, hPt hP1 ht, hT1.t ht, hPt hU1 ht⟩⟩, hS1.F ht⟩) hS1.2.2 (dt_at dt_Law_decoration 10 rfl)
    | 0, h1, h => exact nn_of h
    | 1, h1, h => exact nn_of h
    | k + 3, h1, h => exact nn_of h
  · obtain rfl := os_of h
    refine va_calli (va_runV (As := [.int a1]) (rest := [.int 0, .ref u]) ⟨hx, hb, hml, hown, hts⟩ (c_Tape_decoration l D a q (a 5) (a 7) hd s.heap.size a1 g0 g1 g2 g3 g4 g5 g6 g7 g8 g9 g10 g11 g12 g13 g14 g15 g16 g17 n0 adK adV (fun x h9 => hn0 x (hF x h9)) r1 h1) (cwV 1 hts (gd_V (m_3 229 rfl rfl) (m_3 230 rfl rfl) (m_3 231 rfl rfl) (m_1 1 rfl rfl) (m_3 232 rfl rfl)) rfl rfl rfl (by decide +kernel) ⟨Nat.le_of_ble_eq_true rfl, Nat.le_of_ble_eq_true rfl⟩) ⟨fun a U g mk q => ⟨q.1, q.2.1, q.2.2.1, va_K.moved (u := U) (U := U.calling g mk a) (Vm.Alike.refl U.vm) q.2.2.2.1, q.2.2.2.2.1, isS.call q.2.2.2.2.2⟩, va_recv hK hP (ci := 1) (q0 := 0) rfl rfl, fun U hU hW => ⟨rfl, by rw [hU], by rw [hU]; exact hP, va_K.moved hW.alike hK, by rw [hU]; exact hT, hSt.go hS hn0 hU hW⟩⟩ rfl rfl hl.1 rfl (lv_room (Nat.le_of_ble_eq_true rfl)) (dt_at dt_Law_decoration 4 rfl) ⟨Nat.le_of_ble_eq_true rfl, Nat.le_of_ble_eq_true rfl⟩) hS (fun x _ h9 => hF x h9) hF (fun u_r uu t H1 locs ht hvm hw hB hz1 hk1 hS => ?_)
    obtain rfl : r1 = u_r := hw.symm
    obtain ⟨hB, hT⟩ := hB
    rw [ht] at hB hT
    have hU1 : va_P D CLS [(u, .inl (qu, 1, .inr (.inl (fun _ => gu))))] H1 := va_P.kept hU (fun k q hq => hk1 _ (hU k q hq).lt (not_va_A (u1_nin hu hq) (hU k q hq).lt))
    refine W.widen (k := 1) (n := 6) (Nat.le_of_ble_eq_true rfl) (Nat.le_of_ble_eq_true rfl) ?_
    refine lv_i2l (v := r1.toInt64) hx hb (dt_at dt_Law_decoration 5 rfl) rfl ?_
    refine la_last hx hb hKu hU1 va_A_u hS 0 rfl (dt_at dt_Law_decoration 6 rfl) (fun H2 locs2 hU2 hz2 hk2 hS => ?_)
    have hP2 := va_P.kept hB (H1 := H2) (fun k q hq => hk2 _ (nin_ne hu (by rfl) hq))
    have hT2 := tapeC.keptU hK hKu hT (hU1 0 _ rfl) hk2
    refine lv_goto (tgt := 15) hx hb (dt_at dt_Law_decoration 7 rfl) (by decide) ?_
    refine lv_iconst (v := 0) hx hb (dt_at dt_Law_decoration 11 rfl) (by decide) ?_
    exact W.iret (v := 0) hx hb hr (fun t ht hW => ⟨⟨_, (), rfl, rfl, ⟨g3, hPt hP2 ht, hT2.t ht, hPt hU2 ht⟩⟩, hS.F ht⟩) hS.2.2 (dt_at dt_Law_decoration 12 rfl)
