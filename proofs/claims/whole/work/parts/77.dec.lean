-- written by wip/gen/thr.py
def exC : Nat → String := fun k => match k with
  | 0 => "java/lang/IllegalStateException"
  | 1 => "java/lang/IllegalArgumentException"
  | _ => "java/lang/IndexOutOfBoundsException"
def dl_Tape_literal : List (Nat × Instr × Nat) := [(0, .aload_n 0, 1), (1, .getfield 23, 3), (4, .bipush (40), 2), (6, .if_icmp .lt (13), 3), (9, .new 33, 3), (12, .dup, 1), (13, .ldc 35, 2), (15, .invokespecial 37, 3), (18, .athrow, 1), (19, .aload_n 0, 1), (20, .aload_n 0, 1), (21, .getfield 29, 3), (24, .aload_n 0, 1), (25, .getfield 9, 3), (28, .aload_n 0, 1), (29, .getfield 13, 3), (32, .invokevirtual 40, 3), (35, .invokevirtual 44, 3), (38, .ireturn, 1)]
theorem dt_Tape_literal : dtbl prog_1_method_5_code dl_Tape_literal = true := by decide +kernel
def dl_Tape_bounds : List (Nat × Instr × Nat) := [(0, .iload 5, 2), (2, .iconst (1), 1), (3, .if_icmp .lt (9), 3), (6, .iload 5, 2), (8, .iconst (4), 1), (9, .if_icmp .le (13), 3), (12, .new 48, 3), (15, .dup, 1), (16, .ldc 50, 2), (18, .invokespecial 52, 3), (21, .athrow, 1), (22, .aload_n 0, 1), (23, .getfield 23, 3), (26, .bipush (40), 2), (28, .if_icmp .lt (13), 3), (31, .new 33, 3), (34, .dup, 1), (35, .ldc 35, 2), (37, .invokespecial 37, 3), (40, .athrow, 1), (41, .lload_n 1, 1), (42, .invokestatic 53, 3), (45, .ifCond .eq (10), 3), (48, .lload_n 3, 1), (49, .invokestatic 53, 3), (52, .ifCond .ne (11), 3), (55, .aload_n 0, 1), (56, .invokestatic 59, 3), (59, .invokevirtual 44, 3), (62, .ireturn, 1), (63, .aload_n 0, 1), (64, .lload_n 1, 1), (65, .invokestatic 63, 3), (68, .lload_n 3, 1), (69, .invokestatic 63, 3), (72, .iload 5, 2), (74, .invokestatic 67, 3), (77, .invokevirtual 44, 3), (80, .ireturn, 1)]
theorem dt_Tape_bounds : dtbl prog_1_method_6_code dl_Tape_bounds = true := by decide +kernel
def dl_Tape_unary : List (Nat × Instr × Nat) := [(0, .iload_n 1, 1), (1, .ifCond .lt (9), 3), (4, .iload_n 1, 1), (5, .bipush (9), 2), (7, .if_icmp .lt (13), 3), (10, .new 48, 3), (13, .dup, 1), (14, .ldc 71, 2), (16, .invokespecial 52, 3), (19, .athrow, 1), (20, .aload_n 0, 1), (21, .iload_n 2, 1), (22, .invokevirtual 73, 3), (25, .ifCond .ne (13), 3), (28, .new 77, 3), (31, .dup, 1), (32, .ldc 79, 2), (34, .invokespecial 81, 3), (37, .athrow, 1), (38, .aload_n 0, 1), (39, .getfield 23, 3), (42, .bipush (40), 2), (44, .if_icmp .lt (13), 3), (47, .new 33, 3), (50, .dup, 1), (51, .ldc 35, 2), (53, .invokespecial 37, 3), (56, .athrow, 1), (57, .aload_n 0, 1), (58, .iload_n 1, 1), (59, .aload_n 0, 1), (60, .getfield 19, 3), (63, .iload_n 2, 1), (64, .aaload, 1), (65, .invokestatic 82, 3), (68, .invokevirtual 44, 3), (71, .ireturn, 1)]
theorem dt_Tape_unary : dtbl prog_1_method_7_code dl_Tape_unary = true := by decide +kernel
def dl_Tape_binary : List (Nat × Instr × Nat) := [(0, .iload_n 1, 1), (1, .ifCond .lt (9), 3), (4, .iload_n 1, 1), (5, .bipush (8), 2), (7, .if_icmp .lt (13), 3), (10, .new 48, 3), (13, .dup, 1), (14, .ldc 71, 2), (16, .invokespecial 52, 3), (19, .athrow, 1), (20, .aload_n 0, 1), (21, .iload_n 2, 1), (22, .invokevirtual 73, 3), (25, .ifCond .eq (11), 3), (28, .aload_n 0, 1), (29, .iload_n 3, 1), (30, .invokevirtual 73, 3), (33, .ifCond .ne (13), 3), (36, .new 77, 3), (39, .dup, 1), (40, .ldc 79, 2), (42, .invokespecial 81, 3), (45, .athrow, 1), (46, .aload_n 0, 1), (47, .getfield 23, 3), (50, .bipush (40), 2), (52, .if_icmp .lt (13), 3), (55, .new 33, 3), (58, .dup, 1), (59, .ldc 35, 2), (61, .invokespecial 37, 3), (64, .athrow, 1), (65, .aload_n 0, 1), (66, .iload_n 1, 1), (67, .aload_n 0, 1), (68, .getfield 19, 3), (71, .iload_n 2, 1), (72, .aaload, 1), (73, .aload_n 0, 1), (74, .getfield 19, 3), (77, .iload_n 3, 1), (78, .aaload, 1), (79, .invokestatic 88, 3), (82, .invokevirtual 44, 3), (85, .ireturn, 1)]
theorem dt_Tape_binary : dtbl prog_1_method_8_code dl_Tape_binary = true := by decide +kernel
def dl_Tape_decoration : List (Nat × Instr × Nat) := [(0, .aload_n 0, 1), (1, .iload_n 1, 1), (2, .invokevirtual 73, 3), (5, .ifCond .ne (13), 3), (8, .new 77, 3), (11, .dup, 1), (12, .ldc 79, 2), (14, .invokespecial 81, 3), (17, .athrow, 1), (18, .aload_n 0, 1), (19, .getfield 19, 3), (22, .iload_n 1, 1), (23, .aaload, 1), (24, .getfield 93, 3), (27, .ireturn, 1)]
theorem dt_Tape_decoration : dtbl prog_1_method_10_code dl_Tape_decoration = true := by decide +kernel
set_option maxRecDepth 100000 in
set_option maxHeartbeats 4000000 in
theorem kS_Tape_isThere_17 {p : Program} {l : Launch} {e : Env} {s : State} {m : MethodId} {args : Array Value} {below : List Frame} {meth : Method} {c : Code} {D : va_G} {a : Nat → Nat} {q : Nat → ClassId} {L : Nat} {R : Nat} (hC : CX p s m args meth c prog_1_method_18_code 2 "OutwardTape" (some .boolean)) (hK : va_K D CLS (tT q) s) {g0 : Int32} {g1 : Int32} {g2 : Nat → Int32} {g3 : Nat → Option Nat} {g4 : Int32} {g5 : Int32} {g6 : Nat → Int32} {g7 : Int32} {g8 : Int64} {g9 : Int32} {g10 : Int32} {g11 : Nat → Int32} {g12 : Int32} {g13 : Int64} {g14 : Int32} {g15 : Int32} {g16 : Nat → Int32} {r0 : Int32} : ∀ (s0 : Int32)  (ls : Array Slot), va_P D CLS (wT a q L R g0 g1 g2 g3 g4 g5 g6 g7 g8 g9 g10 g11 g12 g13 g14 g15 g16) s.heap → lv_has ls 2 [] → f_Tape_isThere_17  s0 g1 = some r0 → W p l e rm_Tape_isThere s m args below meth c s.heap [] 0 0 (MQ below (vp_Si (fun r => r = r0)) args s 0 0 (fun _ => False)) (F0 m 17 ls [.int s0]) := by
  obtain ⟨hx, hb, hml, hown, hts, hr, hlocks⟩ := id hC
  intro s0 ls hP hl h
  rw [f_Tape_isThere_17] at h
  skip
  have hSz : s.heap.size ≤ s.heap.size := Nat.le_refl _
  obtain ⟨hz, h⟩ := og_of h
  obtain rfl := os_of h
  exact W.zret (v := s0) (ty := .boolean) hx hb hr (j_z_nar hz) (fun t ht hW => ⟨_, rfl, rfl, ht⟩) (fun q hq => absurd hq List.not_mem_nil) (dt_at dt_Tape_isThere 9 rfl)
set_option maxRecDepth 100000 in
set_option maxHeartbeats 4000000 in
theorem kS_Tape_isThere_16 {p : Program} {l : Launch} {e : Env} {s : State} {m : MethodId} {args : Array Value} {below : List Frame} {meth : Method} {c : Code} {D : va_G} {a : Nat → Nat} {q : Nat → ClassId} {L : Nat} {R : Nat} (hC : CX p s m args meth c prog_1_method_18_code 2 "OutwardTape" (some .boolean)) (hK : va_K D CLS (tT q) s) {g0 : Int32} {g1 : Int32} {g2 : Nat → Int32} {g3 : Nat → Option Nat} {g4 : Int32} {g5 : Int32} {g6 : Nat → Int32} {g7 : Int32} {g8 : Int64} {g9 : Int32} {g10 : Int32} {g11 : Nat → Int32} {g12 : Int32} {g13 : Int64} {g14 : Int32} {g15 : Int32} {g16 : Nat → Int32} {r0 : Int32} : ∀   (ls : Array Slot), va_P D CLS (wT a q L R g0 g1 g2 g3 g4 g5 g6 g7 g8 g9 g10 g11 g12 g13 g14 g15 g16) s.heap → lv_has ls 2 [] → f_Tape_isThere_16  g1 = some r0 → W p l e rm_Tape_isThere s m args below meth c s.heap [] 0 0 (MQ below (vp_Si (fun r => r = r0)) args s 0 0 (fun _ => False)) (F0 m 16 ls []) := by
  obtain ⟨hx, hb, hml, hown, hts, hr, hlocks⟩ := id hC
  intro ls hP hl h
  rw [f_Tape_isThere_16] at h
  skip
  have hSz : s.heap.size ≤ s.heap.size := Nat.le_refl _
  refine lv_iconst (v := 0) hx hb (dt_at dt_Tape_isThere 8 rfl) (by decide) ?_
  exact kS_Tape_isThere_17 hC hK   (0 : Int32) ls hP   (lv_sub hl [] rfl) h
set_option maxRecDepth 100000 in
set_option maxHeartbeats 4000000 in
theorem kS_Tape_isThere_0 {p : Program} {l : Launch} {e : Env} {s : State} {m : MethodId} {args : Array Value} {below : List Frame} {meth : Method} {c : Code} {D : va_G} {a : Nat → Nat} {q : Nat → ClassId} {L : Nat} {R : Nat} (hC : CX p s m args meth c prog_1_method_18_code 2 "OutwardTape" (some .boolean)) (hK : va_K D CLS (tT q) s) {g0 : Int32} {g1 : Int32} {g2 : Nat → Int32} {g3 : Nat → Option Nat} {g4 : Int32} {g5 : Int32} {g6 : Nat → Int32} {g7 : Int32} {g8 : Int64} {g9 : Int32} {g10 : Int32} {g11 : Nat → Int32} {g12 : Int32} {g13 : Int64} {g14 : Int32} {g15 : Int32} {g16 : Nat → Int32} {r0 : Int32} : ∀ (v1 : Int32)  (ls : Array Slot), va_P D CLS (wT a q L R g0 g1 g2 g3 g4 g5 g6 g7 g8 g9 g10 g11 g12 g13 g14 g15 g16) s.heap → lv_has ls 2 [(0, .ref (a 0)), (1, .int v1)] → f_Tape_isThere_0  v1 g1 = some r0 → W p l e rm_Tape_isThere s m args below meth c s.heap [] 0 0 (MQ below (vp_Si (fun r => r = r0)) args s 0 0 (fun _ => False)) (F0 m 0 ls []) := by
  obtain ⟨hx, hb, hml, hown, hts, hr, hlocks⟩ := id hC
  intro v1 ls hP hl h
  rw [f_Tape_isThere_0] at h
  skip
  have hSz : s.heap.size ≤ s.heap.size := Nat.le_refl _
  refine lv_iload_n hx hb (dt_at dt_Tape_isThere 0 rfl) rfl (lv_at hl 1 rfl) ?_
  refine lv_if_lt (tgt := 16) hx hb (dt_at dt_Tape_isThere 1 rfl) (by decide) (fun c1 => ?_) (fun c1 => ?_)
  · have h := if_p h c1
    exact kS_Tape_isThere_16 hC hK    ls hP   (lv_sub hl [] rfl) h
  · have h := if_n h c1
    refine lv_iload_n hx hb (dt_at dt_Tape_isThere 2 rfl) rfl (lv_at hl 1 rfl) ?_
    refine lv_aload_n hx hb (dt_at dt_Tape_isThere 3 rfl) rfl (lv_at hl 0 rfl) ?_
    refine va_get (D := D) (ci := 1) (v := .int g1) (C := "OutwardTape") (T := T_Tape) (N := 5) hx hb hts in_Tape hown hK hP 0 rfl rfl 3 (by decide) (hts (Cond.fieldLink "OutwardTape" 23 "OutwardTape" "count" "I") (m_1 82 rfl rfl)) (fun _ h9 => h9) rfl (dt_at dt_Tape_isThere 4 rfl) ?_
    refine lv_icmp_ge (tgt := 16) hx hb (dt_at dt_Tape_isThere 5 rfl) (by decide) (fun c2 => ?_) (fun c2 => ?_)
    · have h := if_p h c2
      exact kS_Tape_isThere_16 hC hK    ls hP   (lv_sub hl [] rfl) h
    · have h := if_n h c2
      refine lv_iconst (v := 1) hx hb (dt_at dt_Tape_isThere 6 rfl) (by decide) ?_
      refine lv_goto (tgt := 17) hx hb (dt_at dt_Tape_isThere 7 rfl) (by decide) ?_
      exact kS_Tape_isThere_17 hC hK   (1 : Int32) ls hP   (lv_sub hl [] rfl) h
set_option maxRecDepth 100000 in
set_option maxHeartbeats 4000000 in
theorem cS_Tape_isThere (l : Launch) (D : va_G) (a : Nat → Nat) (q : Nat → ClassId) (L : Nat) (R : Nat) (a1 : Int32) (g0 : Int32) (g1 : Int32) (g2 : Nat → Int32) (g3 : Nat → Option Nat) (g4 : Int32) (g5 : Int32) (g6 : Nat → Int32) (g7 : Int32) (g8 : Int64) (g9 : Int32) (g10 : Int32) (g11 : Nat → Int32) (g12 : Int32) (g13 : Int64) (g14 : Int32) (g15 : Int32) (g16 : Nat → Int32) (r0 : Int32) (h : f_Tape_isThere a1 g1 = some r0) : Met l (⟨"OutwardTape", "isThere", "(I)Z"⟩ : MethodName) (WSm (⟨"OutwardTape", "isThere", "(I)Z"⟩ : MethodName) prog_1_method_18_code 2 (some .boolean)) rm_Tape_isThere (va_Pc [.ref (a 0), .int a1] (fun U => va_P D CLS (wT a q L R g0 g1 g2 g3 g4 g5 g6 g7 g8 g9 g10 g11 g12 g13 g14 g15 g16) U.heap ∧ va_K D CLS (tT q) U)) (vp_Si (fun r => r = r0)) 0 0 (fun _ => False) := by
  refine Met.ofW (cc := prog_1_method_18_code) (maxL := 2) (ret := (some .boolean)) (by decide) rfl ?_
  intro p e s m args below meth c s₁ B hml hv
  obtain ⟨rfl, hP, hK⟩ := hv
  have hC := CX.of B hml rfl
  have hl := lv_entry [.ref (a 0), .int a1] (n := 2) (Nat.le_of_ble_eq_true rfl)
  rw [lg_entry_eq]
  generalize (lg_sl [.ref (a 0), .int a1] ++ List.replicate (2 - (lg_sl [.ref (a 0), .int a1]).length) Slot.unset).toArray = ls at hl ⊢
  have hl : lv_has ls 2 [(0, .ref (a 0)), (1, .int a1)] := hl
  exact kS_Tape_isThere_0 (L := L) (R := R) hC hK a1 ls hP (lv_sub hl [0, 1] rfl) h
