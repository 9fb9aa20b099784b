-- written by wip/gen/ref.py: walks of the reference's methods
abbrev rm_Ref_thrown : Room := { frames := 0, cells := 0, slots := 0, locals := 0 }
set_option maxRecDepth 100000 in
set_option maxHeartbeats 4000000 in
theorem k_Ref_thrown_0 {p : Program} {l : Launch} {e : Env} {s : State} {m : MethodId} {args : Array Value} {below : List Frame} {meth : Method} {c : Code} {D : va_G} {a : Nat → Nat} {q : Nat → ClassId} {A : Nat → Prop} (hC : CX p s m args meth c prog_12_method_2_code 1 "OutwardTapeModel" (some .int)) (hA : ∀ x, s.heap.size ≤ x → A x) (hK : va_K D CLS (tR q) s) {g0 : Int32} {g1 : Nat → Int32} {g2 : Nat → Int64} {g3 : Nat → Int64} {g4 : Nat → Int32} {g5 : Int32} {g6 : Nat → Int32} {g7 : Int32} {g8 : Nat → Int32} {g9 : Int32} {g10 : Int64} {g11 : Int64} {g12 : Int32} {g13 : Int32} {g14 : Int32} {g15 : Int64} {g16 : Int32} {g17 : Int32} {g18 : Int64} {g19 : Int32} {r0 : Int32} : ∀   (H : Heap) (locs : List Loc) (ls : Array Slot), va_P D CLS (wR a q g0 g1 g2 g3 g4 g5 g6 g7 g8 g9 g10 g11 g12 g13 g14 g15 g16 g17 g18 g19) H → va_D A (wR a q g0 g1 g2 g3 g4 g5 g6 g7 g8 g9 g10 g11 g12 g13 g14 g15 g16 g17 g18 g19) → va_S A s.heap H locs → lv_has ls 1 [(0, .ref (a 0))] → f_Ref_thrown_0  g5 = some r0 → W p l e rm_Ref_thrown s m args below meth c H locs 0 0 (MQ below (va_Qi (fun (r : Int32) (_ : Unit) => r = r0) (fun _ t => va_P D CLS (wR a q g0 g1 g2 g3 g4 g5 g6 g7 g8 g9 g10 g11 g12 g13 g14 g15 g16 g17 g18 g19) t.heap) A) args s 0 0 A) (F0 m 0 ls []) := by
  obtain ⟨hx, hb, hml, hown, hts, hr, hlocks⟩ := id hC
  intro H locs ls hP hD hS hl h
  rw [f_Ref_thrown_0] at h
  refine lv_aload_n hx hb (dt_at dt_Ref_thrown 0 rfl) rfl (lv_at hl 0 rfl) ?_
  refine va_get (D := D) (ci := 0) (v := .int g5) (C := "OutwardTapeModel") (T := T_Ref) (N := 20) hx hb hts in_Ref hown hK hP 0 rfl rfl 5 (by decide) (hts (Cond.fieldLink "OutwardTapeModel" 29 "OutwardTapeModel" "code" "I") (m_4 4 rfl rfl)) (fun _ h9 => h9) rfl (dt_at dt_Ref_thrown 1 rfl) ?_
  obtain rfl := os_of h
  exact W.iret (v := g5) hx hb hr (fun t ht hW => ⟨⟨_, (), rfl, rfl, (hPt hP ht)⟩, hS.F ht⟩) hS.2.2 (dt_at dt_Ref_thrown 2 rfl)
set_option maxRecDepth 100000 in
set_option maxHeartbeats 4000000 in
theorem c_Ref_thrown (l : Launch) (D : va_G) (a : Nat → Nat) (q : Nat → ClassId) (hd : va_D (fun _ => True) (dR a)) (sz : Nat)  (g0 : Int32) (g1 : Nat → Int32) (g2 : Nat → Int64) (g3 : Nat → Int64) (g4 : Nat → Int32) (g5 : Int32) (g6 : Nat → Int32) (g7 : Int32) (g8 : Nat → Int32) (g9 : Int32) (g10 : Int64) (g11 : Int64) (g12 : Int32) (g13 : Int32) (g14 : Int32) (g15 : Int64) (g16 : Int32) (g17 : Int32) (g18 : Int64) (g19 : Int32) (r0 : Int32) (h : f_Ref_thrown g5 = some r0) : Met l (⟨"OutwardTapeModel", "thrown", "()I"⟩ : MethodName) (WSm (⟨"OutwardTapeModel", "thrown", "()I"⟩ : MethodName) prog_12_method_2_code 1 (some .int)) rm_Ref_thrown (va_Pc [.ref (a 0)] (fun U => U.heap.size = sz ∧ va_P D CLS (wR a q g0 g1 g2 g3 g4 g5 g6 g7 g8 g9 g10 g11 g12 g13 g14 g15 g16 g17 g18 g19) U.heap ∧ va_K D CLS (tR q) U)) (va_Qi (fun (r : Int32) (_ : Unit) => r = r0) (fun _ t => va_P D CLS (wR a q g0 g1 g2 g3 g4 g5 g6 g7 g8 g9 g10 g11 g12 g13 g14 g15 g16 g17 g18 g19) t.heap) (va_A (dR a) sz)) 0 0 (va_A (dR a) sz) := by
  refine Met.ofW (cc := prog_12_method_2_code) (maxL := 1) (ret := (some .int)) (by decide) rfl ?_
  intro p e s m args below meth c s₁ B hml hv
  obtain ⟨rfl, hsz, hP, hK⟩ := hv
  subst hsz
  have hC := CX.of B hml rfl
  have hl := lv_entry [.ref (a 0)] (n := 1) (Nat.le_of_ble_eq_true rfl)
  rw [lg_entry_eq]
  generalize (lg_sl [.ref (a 0)] ++ List.replicate (1 - (lg_sl [.ref (a 0)]).length) Slot.unset).toArray = ls at hl ⊢
  have hl : lv_has ls 1 [(0, .ref (a 0))] := hl
  exact k_Ref_thrown_0 hC (fun x h => Or.inr h) hK   s.heap [] ls hP (dD hd.self rfl) va_S.rf (lv_sub hl [0] rfl) h
abbrev rm_Ref_put : Room := { frames := 0, cells := 0, slots := 0, locals := 0 }
set_option maxRecDepth 100000 in
set_option maxHeartbeats 4000000 in
theorem k_Ref_put_45 {p : Program} {l : Launch} {e : Env} {s : State} {m : MethodId} {args : Array Value} {below : List Frame} {meth : Method} {c : Code} {D : va_G} {a : Nat → Nat} {q : Nat → ClassId} {A : Nat → Prop} (hC : CX p s m args meth c prog_12_method_3_code 5 "OutwardTapeModel" none) (hA : ∀ x, s.heap.size ≤ x → A x) (hK : va_K D CLS (tR q) s) {g0 : Int32} {g1 : Nat → Int32} {g2 : Nat → Int64} {g3 : Nat → Int64} {g4 : Nat → Int32} {g5 : Int32} {g6 : Nat → Int32} {g7 : Int32} {g9 : Int32} {g10 : Int64} {g11 : Int64} {g12 : Int32} {g13 : Int32} {g14 : Int32} {g15 : Int64} {g16 : Int32} {g17 : Int32} {g18 : Int64} {g19 : Int32} {r0 : (Nat → Int32)} (k3 : Int32 → Int64 → Int32 → (Nat → Int32) → Option ((Nat → Int32))) (hk3 : ∀ (v1 : Int32) (v2 : Int64) (v4 : Int32) (g8 : Nat → Int32) (H : Heap) (locs : List Loc) (ls : Array Slot), va_P D CLS (wR a q g0 g1 g2 g3 g4 g5 g6 g7 g8 g9 g10 g11 g12 g13 g14 g15 g16 g17 g18 g19) H → va_D A (wR a q g0 g1 g2 g3 g4 g5 g6 g7 g8 g9 g10 g11 g12 g13 g14 g15 g16 g17 g18 g19) → va_S A s.heap H locs → lv_has ls 5 [(0, .ref (a 0)), (1, .int v1), (2, .long v2), (4, .int v4)] → k3 v1 v2 v4 g8 = some r0 → W p l e rm_Ref_put s m args below meth c H locs 0 0 (MQ below (va_Qv (fun _ : Unit => True) (fun _ t => va_P D CLS (wR a q g0 g1 g2 g3 g4 g5 g6 g7 r0 g9 g10 g11 g12 g13 g14 g15 g16 g17 g18 g19) t.heap) A) args s 0 0 A) (F0 m 3 ls [])) : ∀ (s0 : Int32) (s1 : Int32) (v1 : Int32) (v2 : Int64) (v4 : Int32) (g8 : Nat → Int32) (H : Heap) (locs : List Loc) (ls : Array Slot), va_P D CLS (wR a q g0 g1 g2 g3 g4 g5 g6 g7 g8 g9 g10 g11 g12 g13 g14 g15 g16 g17 g18 g19) H → va_D A (wR a q g0 g1 g2 g3 g4 g5 g6 g7 g8 g9 g10 g11 g12 g13 g14 g15 g16 g17 g18 g19) → va_S A s.heap H locs → lv_has ls 5 [(0, .ref (a 0)), (1, .int v1), (2, .long v2), (4, .int v4)] → f_Ref_put_45 k3 s0 s1 v1 v2 v4 g8 = some r0 → W p l e rm_Ref_put s m args below meth c H locs 0 0 (MQ below (va_Qv (fun _ : Unit => True) (fun _ t => va_P D CLS (wR a q g0 g1 g2 g3 g4 g5 g6 g7 r0 g9 g10 g11 g12 g13 g14 g15 g16 g17 g18 g19) t.heap) A) args s 0 0 A) (F0 m 45 ls [.int s0, .int s1, .ref (a 6)]) := by
  obtain ⟨hx, hb, hml, hown, hts, hr, hlocks⟩ := id hC
  intro s0 s1 v1 v2 v4 g8 H locs ls hP hD hS hl h
  rw [f_Ref_put_45] at h
  obtain ⟨z1, h⟩ := og_of h
  obtain ⟨t2, e_t2, h⟩ := ol_of h
  refine va_iast hx hb hK hP hD hS 6 5 rfl rfl z1 (dt_at dt_Ref_put 25 rfl) (fun H locs hP hD hS => ?_)
  have hP : va_P D CLS (wR a q g0 g1 g2 g3 g4 g5 g6 g7 t2 g9 g10 g11 g12 g13 g14 g15 g16 g17 g18 g19) H := by rw [e_t2]; exact hP
  have hD : va_D A (wR a q g0 g1 g2 g3 g4 g5 g6 g7 t2 g9 g10 g11 g12 g13 g14 g15 g16 g17 g18 g19) := dD hD rfl
  obtain ⟨t3, e_t3, h⟩ := ol_of h
  refine lv_iinc (v := t3) (lv' := [(4, .int t3), (0, .ref (a 0)), (1, .int v1), (2, .long v2)]) hx hb (dt_at dt_Ref_put 26 rfl) hl (k := 3) rfl (by rw [e_t3]; rfl) (by decide) rfl (fun ls hl => ?_)
  refine lv_goto (tgt := 3) hx hb (dt_at dt_Ref_put 27 rfl) (by decide) ?_
  exact hk3 v1 v2 t3 t2 H locs ls hP hD hS (lv_sub hl [1, 2, 3, 0] rfl) h
set_option maxRecDepth 100000 in
set_option maxHeartbeats 4000000 in
theorem k_Ref_put_3 {p : Program} {l : Launch} {e : Env} {s : State} {m : MethodId} {args : Array Value} {below : List Frame} {meth : Method} {c : Code} {D : va_G} {a : Nat → Nat} {q : Nat → ClassId} {A : Nat → Prop} (hC : CX p s m args meth c prog_12_method_3_code 5 "OutwardTapeModel" none) (hA : ∀ x, s.heap.size ≤ x → A x) (hK : va_K D CLS (tR q) s) {g0 : Int32} {g1 : Nat → Int32} {g2 : Nat → Int64} {g3 : Nat → Int64} {g4 : Nat → Int32} {g5 : Int32} {g6 : Nat → Int32} {g7 : Int32} {g9 : Int32} {g10 : Int64} {g11 : Int64} {g12 : Int32} {g13 : Int32} {g14 : Int32} {g15 : Int64} {g16 : Int32} {g17 : Int32} {g18 : Int64} {g19 : Int32} {r0 : (Nat → Int32)} : ∀ n : Nat, ∀ (v1 : Int32) (v2 : Int64) (v4 : Int32) (g8 : Nat → Int32) (H : Heap) (locs : List Loc) (ls : Array Slot), va_P D CLS (wR a q g0 g1 g2 g3 g4 g5 g6 g7 g8 g9 g10 g11 g12 g13 g14 g15 g16 g17 g18 g19) H → va_D A (wR a q g0 g1 g2 g3 g4 g5 g6 g7 g8 g9 g10 g11 g12 g13 g14 g15 g16 g17 g18 g19) → va_S A s.heap H locs → lv_has ls 5 [(0, .ref (a 0)), (1, .int v1), (2, .long v2), (4, .int v4)] → f_Ref_put_3  n v1 v2 v4 g8 = some r0 → W p l e rm_Ref_put s m args below meth c H locs 0 0 (MQ below (va_Qv (fun _ : Unit => True) (fun _ t => va_P D CLS (wR a q g0 g1 g2 g3 g4 g5 g6 g7 r0 g9 g10 g11 g12 g13 g14 g15 g16 g17 g18 g19) t.heap) A) args s 0 0 A) (F0 m 3 ls []) := by
  obtain ⟨hx, hb, hml, hown, hts, hr, hlocks⟩ := id hC
  intro n
  induction n with
  | zero => intro v1 v2 v4 g8 H locs ls hP hD hS hl h; cases h
  | succ n ih =>
    intro v1 v2 v4 g8 H locs ls hP hD hS hl h
    rw [f_Ref_put_3] at h
    refine lv_iload hx hb (dt_at dt_Ref_put 2 rfl) (lv_at hl 3 rfl) ?_
    refine lv_sipush (v := 160) hx hb (dt_at dt_Ref_put 3 rfl) (by decide) ?_
    refine lv_icmp_ge (tgt := 52) hx hb (dt_at dt_Ref_put 4 rfl) (by decide) (fun c1 => ?_) (fun c1 => ?_)
    · have h := if_p h c1
      obtain rfl := os_of h
      exact W.vret hx hb hr (fun t ht hW => ⟨⟨(), rfl, trivial, (hPt hP ht)⟩, hS.F ht⟩) hS.2.2 (dt_at dt_Ref_put 28 rfl)
    · have h := if_n h c1
      refine lv_aload_n hx hb (dt_at dt_Ref_put 5 rfl) rfl (lv_at hl 0 rfl) ?_
      refine va_get (D := D) (ci := 0) (v := .ref (a 6)) (C := "OutwardTapeModel") (T := T_Ref) (N := 20) hx hb hts in_Ref hown hK hP 0 rfl rfl 8 (by decide) (hts (Cond.fieldLink "OutwardTapeModel" 26 "OutwardTapeModel" "limb" "[I") (m_4 7 rfl rfl)) (fun _ h9 => h9) rfl (dt_at dt_Ref_put 6 rfl) ?_
      refine lv_sipush (v := 160) hx hb (dt_at dt_Ref_put 7 rfl) (by decide) ?_
      refine lv_iload_n hx hb (dt_at dt_Ref_put 8 rfl) rfl (lv_at hl 1 rfl) ?_
      refine lv_imul hx hb (dt_at dt_Ref_put 9 rfl) ?_
      refine lv_iload hx hb (dt_at dt_Ref_put 10 rfl) (lv_at hl 3 rfl) ?_
      refine lv_iadd hx hb (dt_at dt_Ref_put 11 rfl) ?_
      refine lv_iload hx hb (dt_at dt_Ref_put 12 rfl) (lv_at hl 3 rfl) ?_
      refine lv_iconst (v := 4) hx hb (dt_at dt_Ref_put 13 rfl) (by decide) ?_
      refine lv_icmp_ge (tgt := 44) hx hb (dt_at dt_Ref_put 14 rfl) (by decide) (fun c2 => ?_) (fun c2 => ?_)
      · have h := if_p h c2
        refine lv_iconst (v := 0) hx hb (dt_at dt_Ref_put 24 rfl) (by decide) ?_
        exact k_Ref_put_45 hC hA hK (f_Ref_put_3  n) ih  (0 : Int32) (((160 : Int32) * v1) + v4) v1 v2 v4 g8 H locs ls hP hD hS (lv_sub hl [0, 1, 2, 3] rfl) h
      · have h := if_n h c2
        refine lv_lload_n hx hb (dt_at dt_Ref_put 15 rfl) rfl (lv_at hl 2 rfl) ?_
        refine lv_bipush (v := 16) hx hb (dt_at dt_Ref_put 16 rfl) (by decide) ?_
        refine lv_iload hx hb (dt_at dt_Ref_put 17 rfl) (lv_at hl 3 rfl) ?_
        refine lv_imul hx hb (dt_at dt_Ref_put 18 rfl) ?_
        refine lv_lshr (v := (j_lshr v2 ((16 : Int32) * v4))) hx hb (dt_at dt_Ref_put 19 rfl) rfl ?_
        refine lv_ldc2 (v := 65535) hx hb hown (hts (Cond.constantLong "OutwardTapeModel" 33 (65535)) (m_4 133 rfl rfl)) (dt_at dt_Ref_put 20 rfl) ?_
        refine lv_land hx hb (dt_at dt_Ref_put 21 rfl) ?_
        refine lv_l2i (v := ((j_lshr v2 ((16 : Int32) * v4)) &&& (65535 : Int64)).toInt32) hx hb (dt_at dt_Ref_put 22 rfl) rfl ?_
        refine lv_goto (tgt := 45) hx hb (dt_at dt_Ref_put 23 rfl) (by decide) ?_
        exact k_Ref_put_45 hC hA hK (f_Ref_put_3  n) ih  (((j_lshr v2 ((16 : Int32) * v4)) &&& (65535 : Int64)).toInt32) (((160 : Int32) * v1) + v4) v1 v2 v4 g8 H locs ls hP hD hS (lv_sub hl [0, 1, 2, 3] rfl) h
set_option maxRecDepth 100000 in
set_option maxHeartbeats 4000000 in
theorem k_Ref_put_0 {p : Program} {l : Launch} {e : Env} {s : State} {m : MethodId} {args : Array Value} {below : List Frame} {meth : Method} {c : Code} {D : va_G} {a : Nat → Nat} {q : Nat → ClassId} {A : Nat → Prop} (hC : CX p s m args meth c prog_12_method_3_code 5 "OutwardTapeModel" none) (hA : ∀ x, s.heap.size ≤ x → A x) (hK : va_K D CLS (tR q) s) {g0 : Int32} {g1 : Nat → Int32} {g2 : Nat → Int64} {g3 : Nat → Int64} {g4 : Nat → Int32} {g5 : Int32} {g6 : Nat → Int32} {g7 : Int32} {g9 : Int32} {g10 : Int64} {g11 : Int64} {g12 : Int32} {g13 : Int32} {g14 : Int32} {g15 : Int64} {g16 : Int32} {g17 : Int32} {g18 : Int64} {g19 : Int32} {r0 : (Nat → Int32)} : ∀ (v1 : Int32) (v2 : Int64) (g8 : Nat → Int32) (H : Heap) (locs : List Loc) (ls : Array Slot), va_P D CLS (wR a q g0 g1 g2 g3 g4 g5 g6 g7 g8 g9 g10 g11 g12 g13 g14 g15 g16 g17 g18 g19) H → va_D A (wR a q g0 g1 g2 g3 g4 g5 g6 g7 g8 g9 g10 g11 g12 g13 g14 g15 g16 g17 g18 g19) → va_S A s.heap H locs → lv_has ls 5 [(0, .ref (a 0)), (1, .int v1), (2, .long v2)] → f_Ref_put_0  v1 v2 g8 = some r0 → W p l e rm_Ref_put s m args below meth c H locs 0 0 (MQ below (va_Qv (fun _ : Unit => True) (fun _ t => va_P D CLS (wR a q g0 g1 g2 g3 g4 g5 g6 g7 r0 g9 g10 g11 g12 g13 g14 g15 g16 g17 g18 g19) t.heap) A) args s 0 0 A) (F0 m 0 ls []) := by
  obtain ⟨hx, hb, hml, hown, hts, hr, hlocks⟩ := id hC
  intro v1 v2 g8 H locs ls hP hD hS hl h
  rw [f_Ref_put_0] at h
  refine lv_iconst (v := 0) hx hb (dt_at dt_Ref_put 0 rfl) (by decide) ?_
  refine lv_istore (lv' := [(4, .int (0 : Int32)), (0, .ref (a 0)), (1, .int v1), (2, .long v2)]) hx hb (dt_at dt_Ref_put 1 rfl) hl (by decide) rfl (fun ls hl => ?_)
  exact k_Ref_put_3 hC hA hK  5000 v1 v2 (0 : Int32) g8 H locs ls hP hD hS (lv_sub hl [1, 2, 3, 0] rfl) h
set_option maxRecDepth 100000 in
set_option maxHeartbeats 4000000 in
theorem c_Ref_put (l : Launch) (D : va_G) (a : Nat → Nat) (q : Nat → ClassId) (hd : va_D (fun _ => True) (dR a)) (sz : Nat) (a1 : Int32) (a2 : Int64) (g0 : Int32) (g1 : Nat → Int32) (g2 : Nat → Int64) (g3 : Nat → Int64) (g4 : Nat → Int32) (g5 : Int32) (g6 : Nat → Int32) (g7 : Int32) (g8 : Nat → Int32) (g9 : Int32) (g10 : Int64) (g11 : Int64) (g12 : Int32) (g13 : Int32) (g14 : Int32) (g15 : Int64) (g16 : Int32) (g17 : Int32) (g18 : Int64) (g19 : Int32) (r0 : (Nat → Int32)) (h : f_Ref_put a1 a2 g8 = some r0) : Met l (⟨"OutwardTapeModel", "put", "(IJ)V"⟩ : MethodName) (WSm (⟨"OutwardTapeModel", "put", "(IJ)V"⟩ : MethodName) prog_12_method_3_code 5 none) rm_Ref_put (va_Pc [.ref (a 0), .int a1, .long a2] (fun U => U.heap.size = sz ∧ va_P D CLS (wR a q g0 g1 g2 g3 g4 g5 g6 g7 g8 g9 g10 g11 g12 g13 g14 g15 g16 g17 g18 g19) U.heap ∧ va_K D CLS (tR q) U)) (va_Qv (fun _ : Unit => True) (fun _ t => va_P D CLS (wR a q g0 g1 g2 g3 g4 g5 g6 g7 r0 g9 g10 g11 g12 g13 g14 g15 g16 g17 g18 g19) t.heap) (va_A (dR a) sz)) 0 0 (va_A (dR a) sz) := by
  refine Met.ofW (cc := prog_12_method_3_code) (maxL := 5) (ret := none) (by decide) rfl ?_
  intro p e s m args below meth c s₁ B hml hv
  obtain ⟨rfl, hsz, hP, hK⟩ := hv
  subst hsz
  have hC := CX.of B hml rfl
  have hl := lv_entry [.ref (a 0), .int a1, .long a2] (n := 5) (Nat.le_of_ble_eq_true rfl)
  rw [lg_entry_eq]
  generalize (lg_sl [.ref (a 0), .int a1, .long a2] ++ List.replicate (5 - (lg_sl [.ref (a 0), .int a1, .long a2]).length) Slot.unset).toArray = ls at hl ⊢
  have hl : lv_has ls 5 [(0, .ref (a 0)), (1, .int a1), (2, .long a2)] := hl
  exact k_Ref_put_0 hC (fun x h => Or.inr h) hK a1 a2 g8 s.heap [] ls hP (dD hd.self rfl) va_S.rf (lv_sub hl [0, 1, 2] rfl) h
abbrev rm_Ref_copy : Room := { frames := 0, cells := 0, slots := 0, locals := 0 }
set_option maxRecDepth 100000 in
set_option maxHeartbeats 4000000 in
theorem k_Ref_copy_2 {p : Program} {l : Launch} {e : Env} {s : State} {m : MethodId} {args : Array Value} {below : List Frame} {meth : Method} {c : Code} {D : va_G} {a : Nat → Nat} {q : Nat → ClassId} {A : Nat → Prop} (hC : CX p s m args meth c prog_12_method_4_code 4 "OutwardTapeModel" none) (hA : ∀ x, s.heap.size ≤ x → A x) (hK : va_K D CLS (tR q) s) {g0 : Int32} {g1 : Nat → Int32} {g2 : Nat → Int64} {g3 : Nat → Int64} {g4 : Nat → Int32} {g5 : Int32} {g6 : Nat → Int32} {g7 : Int32} {g9 : Int32} {g10 : Int64} {g11 : Int64} {g12 : Int32} {g13 : Int32} {g14 : Int32} {g15 : Int64} {g16 : Int32} {g17 : Int32} {g18 : Int64} {g19 : Int32} {r0 : (Nat → Int32)} : ∀ n : Nat, ∀ (v1 : Int32) (v2 : Int32) (v3 : Int32) (g8 : Nat → Int32) (H : Heap) (locs : List Loc) (ls : Array Slot), va_P D CLS (wR a q g0 g1 g2 g3 g4 g5 g6 g7 g8 g9 g10 g11 g12 g13 g14 g15 g16 g17 g18 g19) H → va_D A (wR a q g0 g1 g2 g3 g4 g5 g6 g7 g8 g9 g10 g11 g12 g13 g14 g15 g16 g17 g18 g19) → va_S A s.heap H locs → lv_has ls 4 [(0, .ref (a 0)), (1, .int v1), (2, .int v2), (3, .int v3)] → f_Ref_copy_2  n v1 v2 v3 g8 = some r0 → W p l e rm_Ref_copy s m args below meth c H locs 0 0 (MQ below (va_Qv (fun _ : Unit => True) (fun _ t => va_P D CLS (wR a q g0 g1 g2 g3 g4 g5 g6 g7 r0 g9 g10 g11 g12 g13 g14 g15 g16 g17 g18 g19) t.heap) A) args s 0 0 A) (F0 m 2 ls []) := by
  obtain ⟨hx, hb, hml, hown, hts, hr, hlocks⟩ := id hC
  intro n
  induction n with
  | zero => intro v1 v2 v3 g8 H locs ls hP hD hS hl h; cases h
  | succ n ih =>
    intro v1 v2 v3 g8 H locs ls hP hD hS hl h
    rw [f_Ref_copy_2] at h
    refine lv_iload_n hx hb (dt_at dt_Ref_copy 2 rfl) rfl (lv_at hl 3 rfl) ?_
    refine lv_sipush (v := 160) hx hb (dt_at dt_Ref_copy 3 rfl) (by decide) ?_
    refine lv_icmp_ge (tgt := 39) hx hb (dt_at dt_Ref_copy 4 rfl) (by decide) (fun c1 => ?_) (fun c1 => ?_)
    · have h := if_p h c1
      obtain rfl := os_of h
      exact W.vret hx hb hr (fun t ht hW => ⟨⟨(), rfl, trivial, (hPt hP ht)⟩, hS.F ht⟩) hS.2.2 (dt_at dt_Ref_copy 23 rfl)
    · have h := if_n h c1
      refine lv_aload_n hx hb (dt_at dt_Ref_copy 5 rfl) rfl (lv_at hl 0 rfl) ?_
      refine va_get (D := D) (ci := 0) (v := .ref (a 6)) (C := "OutwardTapeModel") (T := T_Ref) (N := 20) hx hb hts in_Ref hown hK hP 0 rfl rfl 8 (by decide) (hts (Cond.fieldLink "OutwardTapeModel" 26 "OutwardTapeModel" "limb" "[I") (m_4 7 rfl rfl)) (fun _ h9 => h9) rfl (dt_at dt_Ref_copy 6 rfl) ?_
      refine lv_sipush (v := 160) hx hb (dt_at dt_Ref_copy 7 rfl) (by decide) ?_
      refine lv_iload_n hx hb (dt_at dt_Ref_copy 8 rfl) rfl (lv_at hl 1 rfl) ?_
      refine lv_imul hx hb (dt_at dt_Ref_copy 9 rfl) ?_
      refine lv_iload_n hx hb (dt_at dt_Ref_copy 10 rfl) rfl (lv_at hl 3 rfl) ?_
      refine lv_iadd hx hb (dt_at dt_Ref_copy 11 rfl) ?_
      refine lv_aload_n hx hb (dt_at dt_Ref_copy 12 rfl) rfl (lv_at hl 0 rfl) ?_
      refine va_get (D := D) (ci := 0) (v := .ref (a 6)) (C := "OutwardTapeModel") (T := T_Ref) (N := 20) hx hb hts in_Ref hown hK hP 0 rfl rfl 8 (by decide) (hts (Cond.fieldLink "OutwardTapeModel" 26 "OutwardTapeModel" "limb" "[I") (m_4 7 rfl rfl)) (fun _ h9 => h9) rfl (dt_at dt_Ref_copy 13 rfl) ?_
      refine lv_sipush (v := 160) hx hb (dt_at dt_Ref_copy 14 rfl) (by decide) ?_
      refine lv_iload_n hx hb (dt_at dt_Ref_copy 15 rfl) rfl (lv_at hl 2 rfl) ?_
      refine lv_imul hx hb (dt_at dt_Ref_copy 16 rfl) ?_
      refine lv_iload_n hx hb (dt_at dt_Ref_copy 17 rfl) rfl (lv_at hl 3 rfl) ?_
      refine lv_iadd hx hb (dt_at dt_Ref_copy 18 rfl) ?_
      obtain ⟨z2, h⟩ := og_of h
      refine va_iald hx hb hK hP 6 5 rfl rfl z2 (dt_at dt_Ref_copy 19 rfl) ?_
      obtain ⟨z3, h⟩ := og_of h
      obtain ⟨t4, e_t4, h⟩ := ol_of h
      refine va_iast hx hb hK hP hD hS 6 5 rfl rfl z3 (dt_at dt_Ref_copy 20 rfl) (fun H locs hP hD hS => ?_)
      have hP : va_P D CLS (wR a q g0 g1 g2 g3 g4 g5 g6 g7 t4 g9 g10 g11 g12 g13 g14 g15 g16 g17 g18 g19) H := by rw [e_t4]; exact hP
      have hD : va_D A (wR a q g0 g1 g2 g3 g4 g5 g6 g7 t4 g9 g10 g11 g12 g13 g14 g15 g16 g17 g18 g19) := dD hD rfl
      obtain ⟨t5, e_t5, h⟩ := ol_of h
      refine lv_iinc (v := t5) (lv' := [(3, .int t5), (0, .ref (a 0)), (1, .int v1), (2, .int v2)]) hx hb (dt_at dt_Ref_copy 21 rfl) hl (k := 3) rfl (by rw [e_t5]; rfl) (by decide) rfl (fun ls hl => ?_)
      refine lv_goto (tgt := 2) hx hb (dt_at dt_Ref_copy 22 rfl) (by decide) ?_
      exact ih v1 v2 t5 t4 H locs ls hP hD hS (lv_sub hl [1, 2, 3, 0] rfl) h
set_option maxRecDepth 100000 in
set_option maxHeartbeats 4000000 in
theorem k_Ref_copy_0 {p : Program} {l : Launch} {e : Env} {s : State} {m : MethodId} {args : Array Value} {below : List Frame} {meth : Method} {c : Code} {D : va_G} {a : Nat → Nat} {q : Nat → ClassId} {A : Nat → Prop} (hC : CX p s m args meth c prog_12_method_4_code 4 "OutwardTapeModel" none) (hA : ∀ x, s.heap.size ≤ x → A x) (hK : va_K D CLS (tR q) s) {g0 : Int32} {g1 : Nat → Int32} {g2 : Nat → Int64} {g3 : Nat → Int64} {g4 : Nat → Int32} {g5 : Int32} {g6 : Nat → Int32} {g7 : Int32} {g9 : Int32} {g10 : Int64} {g11 : Int64} {g12 : Int32} {g13 : Int32} {g14 : Int32} {g15 : Int64} {g16 : Int32} {g17 : Int32} {g18 : Int64} {g19 : Int32} {r0 : (Nat → Int32)} : ∀ (v1 : Int32) (v2 : Int32) (g8 : Nat → Int32) (H : Heap) (locs : List Loc) (ls : Array Slot), va_P D CLS (wR a q g0 g1 g2 g3 g4 g5 g6 g7 g8 g9 g10 g11 g12 g13 g14 g15 g16 g17 g18 g19) H → va_D A (wR a q g0 g1 g2 g3 g4 g5 g6 g7 g8 g9 g10 g11 g12 g13 g14 g15 g16 g17 g18 g19) → va_S A s.heap H locs → lv_has ls 4 [(0, .ref (a 0)), (1, .int v1), (2, .int v2)] → f_Ref_copy_0  v1 v2 g8 = some r0 → W p l e rm_Ref_copy s m args below meth c H locs 0 0 (MQ below (va_Qv (fun _ : Unit => True) (fun _ t => va_P D CLS (wR a q g0 g1 g2 g3 g4 g5 g6 g7 r0 g9 g10 g11 g12 g13 g14 g15 g16 g17 g18 g19) t.heap) A) args s 0 0 A) (F0 m 0 ls []) := by
  obtain ⟨hx, hb, hml, hown, hts, hr, hlocks⟩ := id hC
  intro v1 v2 g8 H locs ls hP hD hS hl h
  rw [f_Ref_copy_0] at h
  refine lv_iconst (v := 0) hx hb (dt_at dt_Ref_copy 0 rfl) (by decide) ?_
  refine lv_istore_n (lv' := [(3, .int (0 : Int32)), (0, .ref (a 0)), (1, .int v1), (2, .int v2)]) hx hb (dt_at dt_Ref_copy 1 rfl) rfl hl (by decide) rfl (fun ls hl => ?_)
  exact k_Ref_copy_2 hC hA hK  5000 v1 v2 (0 : Int32) g8 H locs ls hP hD hS (lv_sub hl [1, 2, 3, 0] rfl) h
set_option maxRecDepth 100000 in
set_option maxHeartbeats 4000000 in
theorem c_Ref_copy (l : Launch) (D : va_G) (a : Nat → Nat) (q : Nat → ClassId) (hd : va_D (fun _ => True) (dR a)) (sz : Nat) (a1 : Int32) (a2 : Int32) (g0 : Int32) (g1 : Nat → Int32) (g2 : Nat → Int64) (g3 : Nat → Int64) (g4 : Nat → Int32) (g5 : Int32) (g6 : Nat → Int32) (g7 : Int32) (g8 : Nat → Int32) (g9 : Int32) (g10 : Int64) (g11 : Int64) (g12 : Int32) (g13 : Int32) (g14 : Int32) (g15 : Int64) (g16 : Int32) (g17 : Int32) (g18 : Int64) (g19 : Int32) (r0 : (Nat → Int32)) (h : f_Ref_copy a1 a2 g8 = some r0) : Met l (⟨"OutwardTapeModel", "copy", "(II)V"⟩ : MethodName) (WSm (⟨"OutwardTapeModel", "copy", "(II)V"⟩ : MethodName) prog_12_method_4_code 4 none) rm_Ref_copy (va_Pc [.ref (a 0), .int a1, .int a2] (fun U => U.heap.size = sz ∧ va_P D CLS (wR a q g0 g1 g2 g3 g4 g5 g6 g7 g8 g9 g10 g11 g12 g13 g14 g15 g16 g17 g18 g19) U.heap ∧ va_K D CLS (tR q) U)) (va_Qv (fun _ : Unit => True) (fun _ t => va_P D CLS (wR a q g0 g1 g2 g3 g4 g5 g6 g7 r0 g9 g10 g11 g12 g13 g14 g15 g16 g17 g18 g19) t.heap) (va_A (dR a) sz)) 0 0 (va_A (dR a) sz) := by
  refine Met.ofW (cc := prog_12_method_4_code) (maxL := 4) (ret := none) (by decide) rfl ?_
  intro p e s m args below meth c s₁ B hml hv
  obtain ⟨rfl, hsz, hP, hK⟩ := hv
  subst hsz
  have hC := CX.of B hml rfl
  have hl := lv_entry [.ref (a 0), .int a1, .int a2] (n := 4) (Nat.le_of_ble_eq_true rfl)
  rw [lg_entry_eq]
  generalize (lg_sl [.ref (a 0), .int a1, .int a2] ++ List.replicate (4 - (lg_sl [.ref (a 0), .int a1, .int a2]).length) Slot.unset).toArray = ls at hl ⊢
  have hl : lv_has ls 4 [(0, .ref (a 0)), (1, .int a1), (2, .int a2)] := hl
  exact k_Ref_copy_0 hC (fun x h => Or.inr h) hK a1 a2 g8 s.heap [] ls hP (dD hd.self rfl) va_S.rf (lv_sub hl [0, 1, 2] rfl) h
abbrev rm_Ref_bit : Room := { frames := 0, cells := 0, slots := 0, locals := 0 }
set_option maxRecDepth 100000 in
set_option maxHeartbeats 4000000 in
theorem k_Ref_bit_30 {p : Program} {l : Launch} {e : Env} {s : State} {m : MethodId} {args : Array Value} {below : List Frame} {meth : Method} {c : Code} {D : va_G} {a : Nat → Nat} {q : Nat → ClassId} {A : Nat → Prop} (hC : CX p s m args meth c prog_12_method_5_code 3 "OutwardTapeModel" (some .int)) (hA : ∀ x, s.heap.size ≤ x → A x) (hK : va_K D CLS (tR q) s) {g0 : Int32} {g1 : Nat → Int32} {g2 : Nat → Int64} {g3 : Nat → Int64} {g4 : Nat → Int32} {g5 : Int32} {g6 : Nat → Int32} {g7 : Int32} {g8 : Nat → Int32} {g9 : Int32} {g10 : Int64} {g11 : Int64} {g12 : Int32} {g13 : Int32} {g14 : Int32} {g15 : Int64} {g16 : Int32} {g17 : Int32} {g18 : Int64} {g19 : Int32} {r0 : Int32} : ∀ (s0 : Int32)  (H : Heap) (locs : List Loc) (ls : Array Slot), va_P D CLS (wR a q g0 g1 g2 g3 g4 g5 g6 g7 g8 g9 g10 g11 g12 g13 g14 g15 g16 g17 g18 g19) H → va_D A (wR a q g0 g1 g2 g3 g4 g5 g6 g7 g8 g9 g10 g11 g12 g13 g14 g15 g16 g17 g18 g19) → va_S A s.heap H locs → lv_has ls 3 [] → f_Ref_bit_30  s0 g8 = some r0 → W p l e rm_Ref_bit s m args below meth c H locs 0 0 (MQ below (va_Qi (fun (r : Int32) (_ : Unit) => r = r0) (fun _ t => va_P D CLS (wR a q g0 g1 g2 g3 g4 g5 g6 g7 g8 g9 g10 g11 g12 g13 g14 g15 g16 g17 g18 g19) t.heap) A) args s 0 0 A) (F0 m 30 ls [.int s0]) := by
  obtain ⟨hx, hb, hml, hown, hts, hr, hlocks⟩ := id hC
  intro s0 H locs ls hP hD hS hl h
  rw [f_Ref_bit_30] at h
  obtain rfl := os_of h
  exact W.iret (v := s0) hx hb hr (fun t ht hW => ⟨⟨_, (), rfl, rfl, (hPt hP ht)⟩, hS.F ht⟩) hS.2.2 (dt_at dt_Ref_bit 20 rfl)
set_option maxRecDepth 100000 in
set_option maxHeartbeats 4000000 in
theorem k_Ref_bit_0 {p : Program} {l : Launch} {e : Env} {s : State} {m : MethodId} {args : Array Value} {below : List Frame} {meth : Method} {c : Code} {D : va_G} {a : Nat → Nat} {q : Nat → ClassId} {A : Nat → Prop} (hC : CX p s m args meth c prog_12_method_5_code 3 "OutwardTapeModel" (some .int)) (hA : ∀ x, s.heap.size ≤ x → A x) (hK : va_K D CLS (tR q) s) {g0 : Int32} {g1 : Nat → Int32} {g2 : Nat → Int64} {g3 : Nat → Int64} {g4 : Nat → Int32} {g5 : Int32} {g6 : Nat → Int32} {g7 : Int32} {g8 : Nat → Int32} {g9 : Int32} {g10 : Int64} {g11 : Int64} {g12 : Int32} {g13 : Int32} {g14 : Int32} {g15 : Int64} {g16 : Int32} {g17 : Int32} {g18 : Int64} {g19 : Int32} {r0 : Int32} : ∀ (v1 : Int32) (v2 : Int32)  (H : Heap) (locs : List Loc) (ls : Array Slot), va_P D CLS (wR a q g0 g1 g2 g3 g4 g5 g6 g7 g8 g9 g10 g11 g12 g13 g14 g15 g16 g17 g18 g19) H → va_D A (wR a q g0 g1 g2 g3 g4 g5 g6 g7 g8 g9 g10 g11 g12 g13 g14 g15 g16 g17 g18 g19) → va_S A s.heap H locs → lv_has ls 3 [(0, .ref (a 0)), (1, .int v1), (2, .int v2)] → f_Ref_bit_0  v1 v2 g8 = some r0 → W p l e rm_Ref_bit s m args below meth c H locs 0 0 (MQ below (va_Qi (fun (r : Int32) (_ : Unit) => r = r0) (fun _ t => va_P D CLS (wR a q g0 g1 g2 g3 g4 g5 g6 g7 g8 g9 g10 g11 g12 g13 g14 g15 g16 g17 g18 g19) t.heap) A) args s 0 0 A) (F0 m 0 ls []) := by
  obtain ⟨hx, hb, hml, hown, hts, hr, hlocks⟩ := id hC
  intro v1 v2 H locs ls hP hD hS hl h
  rw [f_Ref_bit_0] at h
  refine lv_iload_n hx hb (dt_at dt_Ref_bit 0 rfl) rfl (lv_at hl 2 rfl) ?_
  refine lv_if_ge (tgt := 8) hx hb (dt_at dt_Ref_bit 1 rfl) (by decide) (fun c1 => ?_) (fun c1 => ?_)
  · have h := if_p h c1
    refine lv_aload_n hx hb (dt_at dt_Ref_bit 4 rfl) rfl (lv_at hl 0 rfl) ?_
    refine va_get (D := D) (ci := 0) (v := .ref (a 6)) (C := "OutwardTapeModel") (T := T_Ref) (N := 20) hx hb hts in_Ref hown hK hP 0 rfl rfl 8 (by decide) (hts (Cond.fieldLink "OutwardTapeModel" 26 "OutwardTapeModel" "limb" "[I") (m_4 7 rfl rfl)) (fun _ h9 => h9) rfl (dt_at dt_Ref_bit 5 rfl) ?_
    refine lv_sipush (v := 160) hx hb (dt_at dt_Ref_bit 6 rfl) (by decide) ?_
    refine lv_iload_n hx hb (dt_at dt_Ref_bit 7 rfl) rfl (lv_at hl 1 rfl) ?_
    refine lv_imul hx hb (dt_at dt_Ref_bit 8 rfl) ?_
    refine lv_iload_n hx hb (dt_at dt_Ref_bit 9 rfl) rfl (lv_at hl 2 rfl) ?_
    refine lv_bipush (v := 16) hx hb (dt_at dt_Ref_bit 10 rfl) (by decide) ?_
    refine lv_idiv hx hb (dt_at dt_Ref_bit 11 rfl) (by decide) ?_
    refine lv_iadd hx hb (dt_at dt_Ref_bit 12 rfl) ?_
    obtain ⟨z2, h⟩ := og_of h
    refine va_iald hx hb hK hP 6 5 rfl rfl z2 (dt_at dt_Ref_bit 13 rfl) ?_
    refine lv_iload_n hx hb (dt_at dt_Ref_bit 14 rfl) rfl (lv_at hl 2 rfl) ?_
    refine lv_bipush (v := 16) hx hb (dt_at dt_Ref_bit 15 rfl) (by decide) ?_
    refine lv_irem hx hb (dt_at dt_Ref_bit 16 rfl) (by decide) ?_
    refine lv_ishr hx hb (dt_at dt_Ref_bit 17 rfl) ?_
    refine lv_iconst (v := 1) hx hb (dt_at dt_Ref_bit 18 rfl) (by decide) ?_
    refine lv_iand hx hb (dt_at dt_Ref_bit 19 rfl) ?_
    exact k_Ref_bit_30 hC hA hK   ((j_ishr (g8 (((160 : Int32) * v1) + (v2 / (16 : Int32))).toNatClampNeg) (j_irem v2 (16 : Int32))) &&& (1 : Int32)) H locs ls hP hD hS (lv_sub hl [] rfl) h
  · have h := if_n h c1
    refine lv_iconst (v := 0) hx hb (dt_at dt_Ref_bit 2 rfl) (by decide) ?_
    refine lv_goto (tgt := 30) hx hb (dt_at dt_Ref_bit 3 rfl) (by decide) ?_
    exact k_Ref_bit_30 hC hA hK   (0 : Int32) H locs ls hP hD hS (lv_sub hl [] rfl) h
set_option maxRecDepth 100000 in
set_option maxHeartbeats 4000000 in
theorem c_Ref_bit (l : Launch) (D : va_G) (a : Nat → Nat) (q : Nat → ClassId) (hd : va_D (fun _ => True) (dR a)) (sz : Nat) (a1 : Int32) (a2 : Int32) (g0 : Int32) (g1 : Nat → Int32) (g2 : Nat → Int64) (g3 : Nat → Int64) (g4 : Nat → Int32) (g5 : Int32) (g6 : Nat → Int32) (g7 : Int32) (g8 : Nat → Int32) (g9 : Int32) (g10 : Int64) (g11 : Int64) (g12 : Int32) (g13 : Int32) (g14 : Int32) (g15 : Int64) (g16 : Int32) (g17 : Int32) (g18 : Int64) (g19 : Int32) (r0 : Int32) (h : f_Ref_bit a1 a2 g8 = some r0) : Met l (⟨"OutwardTapeModel", "bit", "(II)I"⟩ : MethodName) (WSm (⟨"OutwardTapeModel", "bit", "(II)I"⟩ : MethodName) prog_12_method_5_code 3 (some .int)) rm_Ref_bit (va_Pc [.ref (a 0), .int a1, .int a2] (fun U => U.heap.size = sz ∧ va_P D CLS (wR a q g0 g1 g2 g3 g4 g5 g6 g7 g8 g9 g10 g11 g12 g13 g14 g15 g16 g17 g18 g19) U.heap ∧ va_K D CLS (tR q) U)) (va_Qi (fun (r : Int32) (_ : Unit) => r = r0) (fun _ t => va_P D CLS (wR a q g0 g1 g2 g3 g4 g5 g6 g7 g8 g9 g10 g11 g12 g13 g14 g15 g16 g17 g18 g19) t.heap) (va_A (dR a) sz)) 0 0 (va_A (dR a) sz) := by
  refine Met.ofW (cc := prog_12_method_5_code) (maxL := 3) (ret := (some .int)) (by decide) rfl ?_
  intro p e s m args below meth c s₁ B hml hv
  obtain ⟨rfl, hsz, hP, hK⟩ := hv
  subst hsz
  have hC := CX.of B hml rfl
  have hl := lv_entry [.ref (a 0), .int a1, .int a2] (n := 3) (Nat.le_of_ble_eq_true rfl)
  rw [lg_entry_eq]
  generalize (lg_sl [.ref (a 0), .int a1, .int a2] ++ List.replicate (3 - (lg_sl [.ref (a 0), .int a1, .int a2]).length) Slot.unset).toArray = ls at hl ⊢
  have hl : lv_has ls 3 [(0, .ref (a 0)), (1, .int a1), (2, .int a2)] := hl
  exact k_Ref_bit_0 hC (fun x h => Or.inr h) hK a1 a2  s.heap [] ls hP (dD hd.self rfl) va_S.rf (lv_sub hl [0, 1, 2] rfl) h
abbrev rm_Ref_width : Room := { frames := 1, cells := 0, slots := 0, locals := 22 }
set_option maxRecDepth 100000 in
set_option maxHeartbeats 4000000 in
theorem k_Ref_width_67 {p : Program} {l : Launch} {e : Env} {s : State} {m : MethodId} {args : Array Value} {below : List Frame} {meth : Method} {c : Code} {D : va_G} {a : Nat → Nat} {q : Nat → ClassId} {A : Nat → Prop} (hC : CX p s m args meth c prog_12_method_6_code 4 "OutwardTapeModel" (some .int)) (hA : ∀ x, s.heap.size ≤ x → A x) (hK : va_K D CLS (tR q) s) {g0 : Int32} {g1 : Nat → Int32} {g2 : Nat → Int64} {g3 : Nat → Int64} {g4 : Nat → Int32} {g5 : Int32} {g6 : Nat → Int32} {g7 : Int32} {g8 : Nat → Int32} {g9 : Int32} {g10 : Int64} {g11 : Int64} {g12 : Int32} {g13 : Int32} {g14 : Int32} {g15 : Int64} {g16 : Int32} {g17 : Int32} {g18 : Int64} {g19 : Int32} {r0 : Int32} : ∀ (s0 : Int32)  (H : Heap) (locs : List Loc) (ls : Array Slot), va_P D CLS (wR a q g0 g1 g2 g3 g4 g5 g6 g7 g8 g9 g10 g11 g12 g13 g14 g15 g16 g17 g18 g19) H → va_D A (wR a q g0 g1 g2 g3 g4 g5 g6 g7 g8 g9 g10 g11 g12 g13 g14 g15 g16 g17 g18 g19) → va_S A s.heap H locs → lv_has ls 4 [] → f_Ref_width_67  s0 g8 = some r0 → W p l e rm_Ref_width s m args below meth c H locs 0 0 (MQ below (va_Qi (fun (r : Int32) (_ : Unit) => r = r0) (fun _ t => va_P D CLS (wR a q g0 g1 g2 g3 g4 g5 g6 g7 g8 g9 g10 g11 g12 g13 g14 g15 g16 g17 g18 g19) t.heap) A) args s 0 0 A) (F0 m 67 ls [.int s0]) := by
  obtain ⟨hx, hb, hml, hown, hts, hr, hlocks⟩ := id hC
  intro s0 H locs ls hP hD hS hl h
  rw [f_Ref_width_67] at h
  obtain rfl := os_of h
  exact W.iret (v := s0) hx hb hr (fun t ht hW => ⟨⟨_, (), rfl, rfl, (hPt hP ht)⟩, hS.F ht⟩) hS.2.2 (dt_at dt_Ref_width 37 rfl)
set_option maxRecDepth 100000 in
set_option maxHeartbeats 4000000 in
theorem k_Ref_width_56 {p : Program} {l : Launch} {e : Env} {s : State} {m : MethodId} {args : Array Value} {below : List Frame} {meth : Method} {c : Code} {D : va_G} {a : Nat → Nat} {q : Nat → ClassId} {A : Nat → Prop} (hC : CX p s m args meth c prog_12_method_6_code 4 "OutwardTapeModel" (some .int)) (hA : ∀ x, s.heap.size ≤ x → A x) (hK : va_K D CLS (tR q) s) {g0 : Int32} {g1 : Nat → Int32} {g2 : Nat → Int64} {g3 : Nat → Int64} {g4 : Nat → Int32} {g5 : Int32} {g6 : Nat → Int32} {g7 : Int32} {g8 : Nat → Int32} {g9 : Int32} {g10 : Int64} {g11 : Int64} {g12 : Int32} {g13 : Int32} {g14 : Int32} {g15 : Int64} {g16 : Int32} {g17 : Int32} {g18 : Int64} {g19 : Int32} {r0 : Int32} : ∀ (v2 : Int32) (v3 : Int32)  (H : Heap) (locs : List Loc) (ls : Array Slot), va_P D CLS (wR a q g0 g1 g2 g3 g4 g5 g6 g7 g8 g9 g10 g11 g12 g13 g14 g15 g16 g17 g18 g19) H → va_D A (wR a q g0 g1 g2 g3 g4 g5 g6 g7 g8 g9 g10 g11 g12 g13 g14 g15 g16 g17 g18 g19) → va_S A s.heap H locs → lv_has ls 4 [(2, .int v2), (3, .int v3)] → f_Ref_width_56  v2 v3 g8 = some r0 → W p l e rm_Ref_width s m args below meth c H locs 0 0 (MQ below (va_Qi (fun (r : Int32) (_ : Unit) => r = r0) (fun _ t => va_P D CLS (wR a q g0 g1 g2 g3 g4 g5 g6 g7 g8 g9 g10 g11 g12 g13 g14 g15 g16 g17 g18 g19) t.heap) A) args s 0 0 A) (F0 m 56 ls []) := by
  obtain ⟨hx, hb, hml, hown, hts, hr, hlocks⟩ := id hC
  intro v2 v3 H locs ls hP hD hS hl h
  rw [f_Ref_width_56] at h
  refine lv_iload_n hx hb (dt_at dt_Ref_width 30 rfl) rfl (lv_at hl 0 rfl) ?_
  refine lv_if_ge (tgt := 64) hx hb (dt_at dt_Ref_width 31 rfl) (by decide) (fun c1 => ?_) (fun c1 => ?_)
  · have h := if_p h c1
    refine lv_iload_n hx hb (dt_at dt_Ref_width 34 rfl) rfl (lv_at hl 1 rfl) ?_
    refine lv_iconst (v := 1) hx hb (dt_at dt_Ref_width 35 rfl) (by decide) ?_
    refine lv_iadd hx hb (dt_at dt_Ref_width 36 rfl) ?_
    exact k_Ref_width_67 hC hA hK   (v3 + (1 : Int32)) H locs ls hP hD hS (lv_sub hl [] rfl) h
  · have h := if_n h c1
    refine lv_iconst (v := 0) hx hb (dt_at dt_Ref_width 32 rfl) (by decide) ?_
    refine lv_goto (tgt := 67) hx hb (dt_at dt_Ref_width 33 rfl) (by decide) ?_
    exact k_Ref_width_67 hC hA hK   (0 : Int32) H locs ls hP hD hS (lv_sub hl [] rfl) h
set_option maxRecDepth 100000 in
set_option maxHeartbeats 4000000 in
theorem k_Ref_width_37 {p : Program} {l : Launch} {e : Env} {s : State} {m : MethodId} {args : Array Value} {below : List Frame} {meth : Method} {c : Code} {D : va_G} {a : Nat → Nat} {q : Nat → ClassId} {A : Nat → Prop} (hC : CX p s m args meth c prog_12_method_6_code 4 "OutwardTapeModel" (some .int)) (hA : ∀ x, s.heap.size ≤ x → A x) (hK : va_K D CLS (tR q) s) {g0 : Int32} {g1 : Nat → Int32} {g2 : Nat → Int64} {g3 : Nat → Int64} {g4 : Nat → Int32} {g5 : Int32} {g6 : Nat → Int32} {g7 : Int32} {g8 : Nat → Int32} {g9 : Int32} {g10 : Int64} {g11 : Int64} {g12 : Int32} {g13 : Int32} {g14 : Int32} {g15 : Int64} {g16 : Int32} {g17 : Int32} {g18 : Int64} {g19 : Int32} {r0 : Int32} : ∀ n : Nat, ∀ (v1 : Int32) (v2 : Int32) (v3 : Int32)  (H : Heap) (locs : List Loc) (ls : Array Slot), va_P D CLS (wR a q g0 g1 g2 g3 g4 g5 g6 g7 g8 g9 g10 g11 g12 g13 g14 g15 g16 g17 g18 g19) H → va_D A (wR a q g0 g1 g2 g3 g4 g5 g6 g7 g8 g9 g10 g11 g12 g13 g14 g15 g16 g17 g18 g19) → va_S A s.heap H locs → lv_has ls 4 [(0, .ref (a 0)), (1, .int v1), (2, .int v2), (3, .int v3)] → f_Ref_width_37  n v1 v2 v3 g8 = some r0 → W p l e rm_Ref_width s m args below meth c H locs 0 0 (MQ below (va_Qi (fun (r : Int32) (_ : Unit) => r = r0) (fun _ t => va_P D CLS (wR a q g0 g1 g2 g3 g4 g5 g6 g7 g8 g9 g10 g11 g12 g13 g14 g15 g16 g17 g18 g19) t.heap) A) args s 0 0 A) (F0 m 37 ls []) := by
  obtain ⟨hx, hb, hml, hown, hts, hr, hlocks⟩ := id hC
  intro n
  induction n with
  | zero => intro v1 v2 v3 H locs ls hP hD hS hl h; cases h
  | succ n ih =>
    intro v1 v2 v3 H locs ls hP hD hS hl h
    rw [f_Ref_width_37] at h
    refine lv_iload_n hx hb (dt_at dt_Ref_width 21 rfl) rfl (lv_at hl 3 rfl) ?_
    refine lv_if_lt (tgt := 56) hx hb (dt_at dt_Ref_width 22 rfl) (by decide) (fun c1 => ?_) (fun c1 => ?_)
    · have h := if_p h c1
      exact k_Ref_width_56 hC hA hK   v2 v3 H locs ls hP hD hS (lv_sub hl [2, 3] rfl) h
    · have h := if_n h c1
      refine lv_aload_n hx hb (dt_at dt_Ref_width 23 rfl) rfl (lv_at hl 0 rfl) ?_
      refine lv_iload_n hx hb (dt_at dt_Ref_width 24 rfl) rfl (lv_at hl 1 rfl) ?_
      refine lv_iload_n hx hb (dt_at dt_Ref_width 25 rfl) rfl (lv_at hl 3 rfl) ?_
      obtain ⟨r2, h_r2, h⟩ := ob_of h
      have hF := va_free (wc := dR a) (dD (ws' := dR a) hD rfl) hS hA [0, 1, 2, 3, 4, 5, 6] rfl
      have hd : va_D (fun _ => True) (dR a) := (dD (ws' := dR a) hD rfl).weaken (fun _ _ _ _ => trivial)
      refine va_calli (va_runV (As := [.int v1, .int v3]) (rest := []) ⟨hx, hb, hml, hown, hts⟩ (c_Ref_bit l D a q hd H.size v1 v3 g0 g1 g2 g3 g4 g5 g6 g7 g8 g9 g10 g11 g12 g13 g14 g15 g16 g17 g18 g19 r2 h_r2) (cwV 2 hts (gd_V (m_4 142 rfl rfl) (m_4 144 rfl rfl) (m_s 31 rfl rfl) (m_1 4 rfl rfl) (m_4 145 rfl rfl)) rfl rfl rfl (by decide +kernel) ⟨Nat.le_of_ble_eq_true rfl, Nat.le_of_ble_eq_true rfl⟩) ⟨fun a U g mk q => ⟨q.1, q.2.1, q.2.2.1, va_K.moved (u := U) (U := U.calling g mk a) (Vm.Alike.refl U.vm) q.2.2.2⟩, va_recv hK hP (ci := 0) (q0 := 0) rfl rfl, fun U hU hW => ⟨rfl, by rw [hU], by rw [hU]; exact hP, va_K.moved hW.alike hK⟩⟩ rfl rfl hl.1 rfl (lv_room (Nat.le_of_ble_eq_true rfl)) (dt_at dt_Ref_width 26 rfl) ⟨Nat.le_of_ble_eq_true rfl, Nat.le_of_ble_eq_true rfl⟩) hS (fun x _ h9 => hF x h9) hF (fun u_r2 uu t H locs ht hvm hw hB hz1 hk1 hS => ?_)
      rw [ht] at hB
      obtain rfl : r2 = u_r2 := hw.symm
      have hP : va_P D CLS (wR a q g0 g1 g2 g3 g4 g5 g6 g7 g8 g9 g10 g11 g12 g13 g14 g15 g16 g17 g18 g19) H := hB
      have hD : va_D A (wR a q g0 g1 g2 g3 g4 g5 g6 g7 g8 g9 g10 g11 g12 g13 g14 g15 g16 g17 g18 g19) := dD hD rfl
      refine lv_if_ne (tgt := 56) hx hb (dt_at dt_Ref_width 27 rfl) (by decide) (fun c3 => ?_) (fun c3 => ?_)
      · have h := if_n h c3
        exact k_Ref_width_56 hC hA hK   v2 v3 H locs ls hP hD hS (lv_sub hl [2, 3] rfl) h
      · have h := if_p h c3
        obtain ⟨t4, e_t4, h⟩ := ol_of h
        refine lv_iinc (v := t4) (lv' := [(3, .int t4), (0, .ref (a 0)), (1, .int v1), (2, .int v2)]) hx hb (dt_at dt_Ref_width 28 rfl) hl (k := 3) rfl (by rw [e_t4]; rfl) (by decide) rfl (fun ls hl => ?_)
        refine lv_goto (tgt := 37) hx hb (dt_at dt_Ref_width 29 rfl) (by decide) ?_
        exact ih v1 v2 t4 H locs ls hP hD hS (lv_sub hl [1, 2, 3, 0] rfl) h
set_option maxRecDepth 100000 in
set_option maxHeartbeats 4000000 in
theorem k_Ref_width_29 {p : Program} {l : Launch} {e : Env} {s : State} {m : MethodId} {args : Array Value} {below : List Frame} {meth : Method} {c : Code} {D : va_G} {a : Nat → Nat} {q : Nat → ClassId} {A : Nat → Prop} (hC : CX p s m args meth c prog_12_method_6_code 4 "OutwardTapeModel" (some .int)) (hA : ∀ x, s.heap.size ≤ x → A x) (hK : va_K D CLS (tR q) s) {g0 : Int32} {g1 : Nat → Int32} {g2 : Nat → Int64} {g3 : Nat → Int64} {g4 : Nat → Int32} {g5 : Int32} {g6 : Nat → Int32} {g7 : Int32} {g8 : Nat → Int32} {g9 : Int32} {g10 : Int64} {g11 : Int64} {g12 : Int32} {g13 : Int32} {g14 : Int32} {g15 : Int64} {g16 : Int32} {g17 : Int32} {g18 : Int64} {g19 : Int32} {r0 : Int32} : ∀ (v1 : Int32) (v2 : Int32)  (H : Heap) (locs : List Loc) (ls : Array Slot), va_P D CLS (wR a q g0 g1 g2 g3 g4 g5 g6 g7 g8 g9 g10 g11 g12 g13 g14 g15 g16 g17 g18 g19) H → va_D A (wR a q g0 g1 g2 g3 g4 g5 g6 g7 g8 g9 g10 g11 g12 g13 g14 g15 g16 g17 g18 g19) → va_S A s.heap H locs → lv_has ls 4 [(0, .ref (a 0)), (1, .int v1), (2, .int v2)] → f_Ref_width_29  v1 v2 g8 = some r0 → W p l e rm_Ref_width s m args below meth c H locs 0 0 (MQ below (va_Qi (fun (r : Int32) (_ : Unit) => r = r0) (fun _ t => va_P D CLS (wR a q g0 g1 g2 g3 g4 g5 g6 g7 g8 g9 g10 g11 g12 g13 g14 g15 g16 g17 g18 g19) t.heap) A) args s 0 0 A) (F0 m 29 ls []) := by
  obtain ⟨hx, hb, hml, hown, hts, hr, hlocks⟩ := id hC
  intro v1 v2 H locs ls hP hD hS hl h
  rw [f_Ref_width_29] at h
  refine lv_bipush (v := 16) hx hb (dt_at dt_Ref_width 15 rfl) (by decide) ?_
  refine lv_iload_n hx hb (dt_at dt_Ref_width 16 rfl) rfl (lv_at hl 2 rfl) ?_
  refine lv_imul hx hb (dt_at dt_Ref_width 17 rfl) ?_
  refine lv_bipush (v := 15) hx hb (dt_at dt_Ref_width 18 rfl) (by decide) ?_
  refine lv_iadd hx hb (dt_at dt_Ref_width 19 rfl) ?_
  obtain ⟨t1, e_t1, h⟩ := ol_of h
  refine lv_topi (fun u_t1 q_t1 => ?_)
  obtain rfl : t1 = u_t1 := e_t1.trans q_t1.symm
  refine lv_istore_n (lv' := [(3, .int t1), (0, .ref (a 0)), (1, .int v1), (2, .int v2)]) hx hb (dt_at dt_Ref_width 20 rfl) rfl hl (by decide) rfl (fun ls hl => ?_)
  exact k_Ref_width_37 hC hA hK  5000 v1 v2 t1 H locs ls hP hD hS (lv_sub hl [1, 2, 3, 0] rfl) h
set_option maxRecDepth 100000 in
set_option maxHeartbeats 4000000 in
theorem k_Ref_width_4 {p : Program} {l : Launch} {e : Env} {s : State} {m : MethodId} {args : Array Value} {below : List Frame} {meth : Method} {c : Code} {D : va_G} {a : Nat → Nat} {q : Nat → ClassId} {A : Nat → Prop} (hC : CX p s m args meth c prog_12_method_6_code 4 "OutwardTapeModel" (some .int)) (hA : ∀ x, s.heap.size ≤ x → A x) (hK : va_K D CLS (tR q) s) {g0 : Int32} {g1 : Nat → Int32} {g2 : Nat → Int64} {g3 : Nat → Int64} {g4 : Nat → Int32} {g5 : Int32} {g6 : Nat → Int32} {g7 : Int32} {g8 : Nat → Int32} {g9 : Int32} {g10 : Int64} {g11 : Int64} {g12 : Int32} {g13 : Int32} {g14 : Int32} {g15 : Int64} {g16 : Int32} {g17 : Int32} {g18 : Int64} {g19 : Int32} {r0 : Int32} : ∀ n : Nat, ∀ (v1 : Int32) (v2 : Int32)  (H : Heap) (locs : List Loc) (ls : Array Slot), va_P D CLS (wR a q g0 g1 g2 g3 g4 g5 g6 g7 g8 g9 g10 g11 g12 g13 g14 g15 g16 g17 g18 g19) H → va_D A (wR a q g0 g1 g2 g3 g4 g5 g6 g7 g8 g9 g10 g11 g12 g13 g14 g15 g16 g17 g18 g19) → va_S A s.heap H locs → lv_has ls 4 [(0, .ref (a 0)), (1, .int v1), (2, .int v2)] → f_Ref_width_4  n v1 v2 g8 = some r0 → W p l e rm_Ref_width s m args below meth c H locs 0 0 (MQ below (va_Qi (fun (r : Int32) (_ : Unit) => r = r0) (fun _ t => va_P D CLS (wR a q g0 g1 g2 g3 g4 g5 g6 g7 g8 g9 g10 g11 g12 g13 g14 g15 g16 g17 g18 g19) t.heap) A) args s 0 0 A) (F0 m 4 ls []) := by
  obtain ⟨hx, hb, hml, hown, hts, hr, hlocks⟩ := id hC
  intro n
  induction n with
  | zero => intro v1 v2 H locs ls hP hD hS hl h; cases h
  | succ n ih =>
    intro v1 v2 H locs ls hP hD hS hl h
    rw [f_Ref_width_4] at h
    refine lv_iload_n hx hb (dt_at dt_Ref_width 2 rfl) rfl (lv_at hl 2 rfl) ?_
    refine lv_if_lt (tgt := 29) hx hb (dt_at dt_Ref_width 3 rfl) (by decide) (fun c1 => ?_) (fun c1 => ?_)
    · have h := if_p h c1
      exact k_Ref_width_29 hC hA hK   v1 v2 H locs ls hP hD hS (lv_sub hl [0, 1, 2] rfl) h
    · have h := if_n h c1
      refine lv_aload_n hx hb (dt_at dt_Ref_width 4 rfl) rfl (lv_at hl 0 rfl) ?_
      refine va_get (D := D) (ci := 0) (v := .ref (a 6)) (C := "OutwardTapeModel") (T := T_Ref) (N := 20) hx hb hts in_Ref hown hK hP 0 rfl rfl 8 (by decide) (hts (Cond.fieldLink "OutwardTapeModel" 26 "OutwardTapeModel" "limb" "[I") (m_4 7 rfl rfl)) (fun _ h9 => h9) rfl (dt_at dt_Ref_width 5 rfl) ?_
      refine lv_sipush (v := 160) hx hb (dt_at dt_Ref_width 6 rfl) (by decide) ?_
      refine lv_iload_n hx hb (dt_at dt_Ref_width 7 rfl) rfl (lv_at hl 1 rfl) ?_
      refine lv_imul hx hb (dt_at dt_Ref_width 8 rfl) ?_
      refine lv_iload_n hx hb (dt_at dt_Ref_width 9 rfl) rfl (lv_at hl 2 rfl) ?_
      refine lv_iadd hx hb (dt_at dt_Ref_width 10 rfl) ?_
      obtain ⟨z2, h⟩ := og_of h
      refine va_iald hx hb hK hP 6 5 rfl rfl z2 (dt_at dt_Ref_width 11 rfl) ?_
      refine lv_if_ne (tgt := 29) hx hb (dt_at dt_Ref_width 12 rfl) (by decide) (fun c3 => ?_) (fun c3 => ?_)
      · have h := if_n h c3
        exact k_Ref_width_29 hC hA hK   v1 v2 H locs ls hP hD hS (lv_sub hl [0, 1, 2] rfl) h
      · have h := if_p h c3
        obtain ⟨t4, e_t4, h⟩ := ol_of h
        refine lv_iinc (v := t4) (lv' := [(2, .int t4), (0, .ref (a 0)), (1, .int v1)]) hx hb (dt_at dt_Ref_width 13 rfl) hl (k := 2) rfl (by rw [e_t4]; rfl) (by decide) rfl (fun ls hl => ?_)
        refine lv_goto (tgt := 4) hx hb (dt_at dt_Ref_width 14 rfl) (by decide) ?_
        exact ih v1 t4 H locs ls hP hD hS (lv_sub hl [1, 2, 0] rfl) h
set_option maxRecDepth 100000 in
set_option maxHeartbeats 4000000 in
theorem k_Ref_width_0 {p : Program} {l : Launch} {e : Env} {s : State} {m : MethodId} {args : Array Value} {below : List Frame} {meth : Method} {c : Code} {D : va_G} {a : Nat → Nat} {q : Nat → ClassId} {A : Nat → Prop} (hC : CX p s m args meth c prog_12_method_6_code 4 "OutwardTapeModel" (some .int)) (hA : ∀ x, s.heap.size ≤ x → A x) (hK : va_K D CLS (tR q) s) {g0 : Int32} {g1 : Nat → Int32} {g2 : Nat → Int64} {g3 : Nat → Int64} {g4 : Nat → Int32} {g5 : Int32} {g6 : Nat → Int32} {g7 : Int32} {g8 : Nat → Int32} {g9 : Int32} {g10 : Int64} {g11 : Int64} {g12 : Int32} {g13 : Int32} {g14 : Int32} {g15 : Int64} {g16 : Int32} {g17 : Int32} {g18 : Int64} {g19 : Int32} {r0 : Int32} : ∀ (v1 : Int32)  (H : Heap) (locs : List Loc) (ls : Array Slot), va_P D CLS (wR a q g0 g1 g2 g3 g4 g5 g6 g7 g8 g9 g10 g11 g12 g13 g14 g15 g16 g17 g18 g19) H → va_D A (wR a q g0 g1 g2 g3 g4 g5 g6 g7 g8 g9 g10 g11 g12 g13 g14 g15 g16 g17 g18 g19) → va_S A s.heap H locs → lv_has ls 4 [(0, .ref (a 0)), (1, .int v1)] → f_Ref_width_0  v1 g8 = some r0 → W p l e rm_Ref_width s m args below meth c H locs 0 0 (MQ below (va_Qi (fun (r : Int32) (_ : Unit) => r = r0) (fun _ t => va_P D CLS (wR a q g0 g1 g2 g3 g4 g5 g6 g7 g8 g9 g10 g11 g12 g13 g14 g15 g16 g17 g18 g19) t.heap) A) args s 0 0 A) (F0 m 0 ls []) := by
  obtain ⟨hx, hb, hml, hown, hts, hr, hlocks⟩ := id hC
  intro v1 H locs ls hP hD hS hl h
  rw [f_Ref_width_0] at h
  refine lv_sipush (v := 159) hx hb (dt_at dt_Ref_width 0 rfl) (by decide) ?_
  refine lv_istore_n (lv' := [(2, .int (159 : Int32)), (0, .ref (a 0)), (1, .int v1)]) hx hb (dt_at dt_Ref_width 1 rfl) rfl hl (by decide) rfl (fun ls hl => ?_)
  exact k_Ref_width_4 hC hA hK  5000 v1 (159 : Int32) H locs ls hP hD hS (lv_sub hl [1, 2, 0] rfl) h
set_option maxRecDepth 100000 in
set_option maxHeartbeats 4000000 in
theorem c_Ref_width (l : Launch) (D : va_G) (a : Nat → Nat) (q : Nat → ClassId) (hd : va_D (fun _ => True) (dR a)) (sz : Nat) (a1 : Int32) (g0 : Int32) (g1 : Nat → Int32) (g2 : Nat → Int64) (g3 : Nat → Int64) (g4 : Nat → Int32) (g5 : Int32) (g6 : Nat → Int32) (g7 : Int32) (g8 : Nat → Int32) (g9 : Int32) (g10 : Int64) (g11 : Int64) (g12 : Int32) (g13 : Int32) (g14 : Int32) (g15 : Int64) (g16 : Int32) (g17 : Int32) (g18 : Int64) (g19 : Int32) (r0 : Int32) (h : f_Ref_width a1 g8 = some r0) : Met l (⟨"OutwardTapeModel", "width", "(I)I"⟩ : MethodName) (WSm (⟨"OutwardTapeModel", "width", "(I)I"⟩ : MethodName) prog_12_method_6_code 4 (some .int)) rm_Ref_width (va_Pc [.ref (a 0), .int a1] (fun U => U.heap.size = sz ∧ va_P D CLS (wR a q g0 g1 g2 g3 g4 g5 g6 g7 g8 g9 g10 g11 g12 g13 g14 g15 g16 g17 g18 g19) U.heap ∧ va_K D CLS (tR q) U)) (va_Qi (fun (r : Int32) (_ : Unit) => r = r0) (fun _ t => va_P D CLS (wR a q g0 g1 g2 g3 g4 g5 g6 g7 g8 g9 g10 g11 g12 g13 g14 g15 g16 g17 g18 g19) t.heap) (va_A (dR a) sz)) 0 0 (va_A (dR a) sz) := by
  refine Met.ofW (cc := prog_12_method_6_code) (maxL := 4) (ret := (some .int)) (by decide) rfl ?_
  intro p e s m args below meth c s₁ B hml hv
  obtain ⟨rfl, hsz, hP, hK⟩ := hv
  subst hsz
  have hC := CX.of B hml rfl
  have hl := lv_entry [.ref (a 0), .int a1] (n := 4) (Nat.le_of_ble_eq_true rfl)
  rw [lg_entry_eq]
  generalize (lg_sl [.ref (a 0), .int a1] ++ List.replicate (4 - (lg_sl [.ref (a 0), .int a1]).length) Slot.unset).toArray = ls at hl ⊢
  have hl : lv_has ls 4 [(0, .ref (a 0)), (1, .int a1)] := hl
  exact k_Ref_width_0 hC (fun x h => Or.inr h) hK a1  s.heap [] ls hP (dD hd.self rfl) va_S.rf (lv_sub hl [0, 1] rfl) h
abbrev rm_Ref_moveUp : Room := { frames := 0, cells := 0, slots := 0, locals := 0 }
set_option maxRecDepth 100000 in
set_option maxHeartbeats 4000000 in
theorem k_Ref_moveUp_85 {p : Program} {l : Launch} {e : Env} {s : State} {m : MethodId} {args : Array Value} {below : List Frame} {meth : Method} {c : Code} {D : va_G} {a : Nat → Nat} {q : Nat → ClassId} {A : Nat → Prop} (hC : CX p s m args meth c prog_12_method_7_code 9 "OutwardTapeModel" none) (hA : ∀ x, s.heap.size ≤ x → A x) (hK : va_K D CLS (tR q) s) {g0 : Int32} {g1 : Nat → Int32} {g2 : Nat → Int64} {g3 : Nat → Int64} {g4 : Nat → Int32} {g5 : Int32} {g6 : Nat → Int32} {g7 : Int32} {g9 : Int32} {g10 : Int64} {g11 : Int64} {g12 : Int32} {g13 : Int32} {g14 : Int32} {g15 : Int64} {g16 : Int32} {g17 : Int32} {g18 : Int64} {g19 : Int32} {r0 : (Nat → Int32)} (k16 : Int32 → Int32 → Int32 → Int32 → (Nat → Int32) → Option ((Nat → Int32))) (hk16 : ∀ (v1 : Int32) (v3 : Int32) (v4 : Int32) (v5 : Int32) (g8 : Nat → Int32) (H : Heap) (locs : List Loc) (ls : Array Slot), va_P D CLS (wR a q g0 g1 g2 g3 g4 g5 g6 g7 g8 g9 g10 g11 g12 g13 g14 g15 g16 g17 g18 g19) H → va_D A (wR a q g0 g1 g2 g3 g4 g5 g6 g7 g8 g9 g10 g11 g12 g13 g14 g15 g16 g17 g18 g19) → va_S A s.heap H locs → lv_has ls 9 [(0, .ref (a 0)), (1, .int v1), (3, .int v3), (4, .int v4), (5, .int v5)] → k16 v1 v3 v4 v5 g8 = some r0 → W p l e rm_Ref_moveUp s m args below meth c H locs 0 0 (MQ below (va_Qv (fun _ : Unit => True) (fun _ t => va_P D CLS (wR a q g0 g1 g2 g3 g4 g5 g6 g7 r0 g9 g10 g11 g12 g13 g14 g15 g16 g17 g18 g19) t.heap) A) args s 0 0 A) (F0 m 16 ls [])) : ∀ (s0 : Int32) (v1 : Int32) (v3 : Int32) (v4 : Int32) (v5 : Int32) (v7 : Int32) (g8 : Nat → Int32) (H : Heap) (locs : List Loc) (ls : Array Slot), va_P D CLS (wR a q g0 g1 g2 g3 g4 g5 g6 g7 g8 g9 g10 g11 g12 g13 g14 g15 g16 g17 g18 g19) H → va_D A (wR a q g0 g1 g2 g3 g4 g5 g6 g7 g8 g9 g10 g11 g12 g13 g14 g15 g16 g17 g18 g19) → va_S A s.heap H locs → lv_has ls 9 [(0, .ref (a 0)), (1, .int v1), (3, .int v3), (4, .int v4), (5, .int v5), (7, .int v7)] → f_Ref_moveUp_85 k16 s0 v1 v3 v4 v5 v7 g8 = some r0 → W p l e rm_Ref_moveUp s m args below meth c H locs 0 0 (MQ below (va_Qv (fun _ : Unit => True) (fun _ t => va_P D CLS (wR a q g0 g1 g2 g3 g4 g5 g6 g7 r0 g9 g10 g11 g12 g13 g14 g15 g16 g17 g18 g19) t.heap) A) args s 0 0 A) (F0 m 85 ls [.int s0]) := by
  obtain ⟨hx, hb, hml, hown, hts, hr, hlocks⟩ := id hC
  intro s0 v1 v3 v4 v5 v7 g8 H locs ls hP hD hS hl h
  rw [f_Ref_moveUp_85] at h
  refine lv_istore (lv' := [(8, .int s0), (0, .ref (a 0)), (1, .int v1), (3, .int v3), (4, .int v4), (5, .int v5), (7, .int v7)]) hx hb (dt_at dt_Ref_moveUp 50 rfl) hl (by decide) rfl (fun ls hl => ?_)
  refine lv_aload_n hx hb (dt_at dt_Ref_moveUp 51 rfl) rfl (lv_at hl 1 rfl) ?_
  refine va_get (D := D) (ci := 0) (v := .ref (a 6)) (C := "OutwardTapeModel") (T := T_Ref) (N := 20) hx hb hts in_Ref hown hK hP 0 rfl rfl 8 (by decide) (hts (Cond.fieldLink "OutwardTapeModel" 26 "OutwardTapeModel" "limb" "[I") (m_4 7 rfl rfl)) (fun _ h9 => h9) rfl (dt_at dt_Ref_moveUp 52 rfl) ?_
  refine lv_sipush (v := 160) hx hb (dt_at dt_Ref_moveUp 53 rfl) (by decide) ?_
  refine lv_iload_n hx hb (dt_at dt_Ref_moveUp 54 rfl) rfl (lv_at hl 2 rfl) ?_
  refine lv_imul hx hb (dt_at dt_Ref_moveUp 55 rfl) ?_
  refine lv_iload hx hb (dt_at dt_Ref_moveUp 56 rfl) (lv_at hl 5 rfl) ?_
  refine lv_iadd hx hb (dt_at dt_Ref_moveUp 57 rfl) ?_
  refine lv_iload hx hb (dt_at dt_Ref_moveUp 58 rfl) (lv_at hl 6 rfl) ?_
  refine lv_iload hx hb (dt_at dt_Ref_moveUp 59 rfl) (lv_at hl 0 rfl) ?_
  refine lv_ior hx hb (dt_at dt_Ref_moveUp 60 rfl) ?_
  refine lv_ldc (v := 65535) hx hb hown (hts (Cond.constant "OutwardTapeModel" 39 (65535)) (m_4 163 rfl rfl)) (dt_at dt_Ref_moveUp 61 rfl) ?_
  refine lv_iand hx hb (dt_at dt_Ref_moveUp 62 rfl) ?_
  obtain ⟨z1, h⟩ := og_of h
  obtain ⟨t2, e_t2, h⟩ := ol_of h
  refine va_iast hx hb hK hP hD hS 6 5 rfl rfl z1 (dt_at dt_Ref_moveUp 63 rfl) (fun H locs hP hD hS => ?_)
  have hP : va_P D CLS (wR a q g0 g1 g2 g3 g4 g5 g6 g7 t2 g9 g10 g11 g12 g13 g14 g15 g16 g17 g18 g19) H := by rw [e_t2]; exact hP
  have hD : va_D A (wR a q g0 g1 g2 g3 g4 g5 g6 g7 t2 g9 g10 g11 g12 g13 g14 g15 g16 g17 g18 g19) := dD hD rfl
  obtain ⟨t3, e_t3, h⟩ := ol_of h
  refine lv_iinc (v := t3) (lv' := [(5, .int t3), (8, .int s0), (0, .ref (a 0)), (1, .int v1), (3, .int v3), (4, .int v4), (7, .int v7)]) hx hb (dt_at dt_Ref_moveUp 64 rfl) hl (k := 5) rfl (by rw [e_t3]; rfl) (by decide) rfl (fun ls hl => ?_)
  refine lv_goto (tgt := 16) hx hb (dt_at dt_Ref_moveUp 65 rfl) (by decide) ?_
  exact hk16 v1 v3 v4 t3 t2 H locs ls hP hD hS (lv_sub hl [2, 3, 4, 5, 0] rfl) h
set_option maxRecDepth 100000 in
set_option maxHeartbeats 4000000 in
theorem k_Ref_moveUp_52 {p : Program} {l : Launch} {e : Env} {s : State} {m : MethodId} {args : Array Value} {below : List Frame} {meth : Method} {c : Code} {D : va_G} {a : Nat → Nat} {q : Nat → ClassId} {A : Nat → Prop} (hC : CX p s m args meth c prog_12_method_7_code 9 "OutwardTapeModel" none) (hA : ∀ x, s.heap.size ≤ x → A x) (hK : va_K D CLS (tR q) s) {g0 : Int32} {g1 : Nat → Int32} {g2 : Nat → Int64} {g3 : Nat → Int64} {g4 : Nat → Int32} {g5 : Int32} {g6 : Nat → Int32} {g7 : Int32} {g9 : Int32} {g10 : Int64} {g11 : Int64} {g12 : Int32} {g13 : Int32} {g14 : Int32} {g15 : Int64} {g16 : Int32} {g17 : Int32} {g18 : Int64} {g19 : Int32} {r0 : (Nat → Int32)} (k16 : Int32 → Int32 → Int32 → Int32 → (Nat → Int32) → Option ((Nat → Int32))) (hk16 : ∀ (v1 : Int32) (v3 : Int32) (v4 : Int32) (v5 : Int32) (g8 : Nat → Int32) (H : Heap) (locs : List Loc) (ls : Array Slot), va_P D CLS (wR a q g0 g1 g2 g3 g4 g5 g6 g7 g8 g9 g10 g11 g12 g13 g14 g15 g16 g17 g18 g19) H → va_D A (wR a q g0 g1 g2 g3 g4 g5 g6 g7 g8 g9 g10 g11 g12 g13 g14 g15 g16 g17 g18 g19) → va_S A s.heap H locs → lv_has ls 9 [(0, .ref (a 0)), (1, .int v1), (3, .int v3), (4, .int v4), (5, .int v5)] → k16 v1 v3 v4 v5 g8 = some r0 → W p l e rm_Ref_moveUp s m args below meth c H locs 0 0 (MQ below (va_Qv (fun _ : Unit => True) (fun _ t => va_P D CLS (wR a q g0 g1 g2 g3 g4 g5 g6 g7 r0 g9 g10 g11 g12 g13 g14 g15 g16 g17 g18 g19) t.heap) A) args s 0 0 A) (F0 m 16 ls [])) : ∀ (s0 : Int32) (v1 : Int32) (v3 : Int32) (v4 : Int32) (v5 : Int32) (v6 : Int32) (g8 : Nat → Int32) (H : Heap) (locs : List Loc) (ls : Array Slot), va_P D CLS (wR a q g0 g1 g2 g3 g4 g5 g6 g7 g8 g9 g10 g11 g12 g13 g14 g15 g16 g17 g18 g19) H → va_D A (wR a q g0 g1 g2 g3 g4 g5 g6 g7 g8 g9 g10 g11 g12 g13 g14 g15 g16 g17 g18 g19) → va_S A s.heap H locs → lv_has ls 9 [(0, .ref (a 0)), (1, .int v1), (3, .int v3), (4, .int v4), (5, .int v5), (6, .int v6)] → f_Ref_moveUp_52 k16 s0 v1 v3 v4 v5 v6 g8 = some r0 → W p l e rm_Ref_moveUp s m args below meth c H locs 0 0 (MQ below (va_Qv (fun _ : Unit => True) (fun _ t => va_P D CLS (wR a q g0 g1 g2 g3 g4 g5 g6 g7 r0 g9 g10 g11 g12 g13 g14 g15 g16 g17 g18 g19) t.heap) A) args s 0 0 A) (F0 m 52 ls [.int s0]) := by
  obtain ⟨hx, hb, hml, hown, hts, hr, hlocks⟩ := id hC
  intro s0 v1 v3 v4 v5 v6 g8 H locs ls hP hD hS hl h
  rw [f_Ref_moveUp_52] at h
  refine lv_istore (lv' := [(7, .int s0), (0, .ref (a 0)), (1, .int v1), (3, .int v3), (4, .int v4), (5, .int v5), (6, .int v6)]) hx hb (dt_at dt_Ref_moveUp 30 rfl) hl (by decide) rfl (fun ls hl => ?_)
  refine lv_iload hx hb (dt_at dt_Ref_moveUp 31 rfl) (lv_at hl 6 rfl) ?_
  refine lv_iconst (v := 1) hx hb (dt_at dt_Ref_moveUp 32 rfl) (by decide) ?_
  refine lv_icmp_lt (tgt := 84) hx hb (dt_at dt_Ref_moveUp 33 rfl) (by decide) (fun c1 => ?_) (fun c1 => ?_)
  · have h := if_p h c1
    refine lv_iconst (v := 0) hx hb (dt_at dt_Ref_moveUp 49 rfl) (by decide) ?_
    exact k_Ref_moveUp_85 hC hA hK k16 hk16  (0 : Int32) v1 v3 v4 v5 s0 g8 H locs ls hP hD hS (lv_sub hl [1, 2, 3, 4, 5, 0] rfl) h
  · have h := if_n h c1
    refine lv_aload_n hx hb (dt_at dt_Ref_moveUp 34 rfl) rfl (lv_at hl 1 rfl) ?_
    refine va_get (D := D) (ci := 0) (v := .ref (a 6)) (C := "OutwardTapeModel") (T := T_Ref) (N := 20) hx hb hts in_Ref hown hK hP 0 rfl rfl 8 (by decide) (hts (Cond.fieldLink "OutwardTapeModel" 26 "OutwardTapeModel" "limb" "[I") (m_4 7 rfl rfl)) (fun _ h9 => h9) rfl (dt_at dt_Ref_moveUp 35 rfl) ?_
    refine lv_sipush (v := 160) hx hb (dt_at dt_Ref_moveUp 36 rfl) (by decide) ?_
    refine lv_iload_n hx hb (dt_at dt_Ref_moveUp 37 rfl) rfl (lv_at hl 2 rfl) ?_
    refine lv_imul hx hb (dt_at dt_Ref_moveUp 38 rfl) ?_
    refine lv_iload hx hb (dt_at dt_Ref_moveUp 39 rfl) (lv_at hl 6 rfl) ?_
    refine lv_iadd hx hb (dt_at dt_Ref_moveUp 40 rfl) ?_
    refine lv_iconst (v := 1) hx hb (dt_at dt_Ref_moveUp 41 rfl) (by decide) ?_
    refine lv_isub hx hb (dt_at dt_Ref_moveUp 42 rfl) ?_
    obtain ⟨z2, h⟩ := og_of h
    refine va_iald hx hb hK hP 6 5 rfl rfl z2 (dt_at dt_Ref_moveUp 43 rfl) ?_
    refine lv_iload hx hb (dt_at dt_Ref_moveUp 44 rfl) (lv_at hl 4 rfl) ?_
    refine lv_ishl hx hb (dt_at dt_Ref_moveUp 45 rfl) ?_
    refine lv_bipush (v := 16) hx hb (dt_at dt_Ref_moveUp 46 rfl) (by decide) ?_
    refine lv_ishr hx hb (dt_at dt_Ref_moveUp 47 rfl) ?_
    refine lv_goto (tgt := 85) hx hb (dt_at dt_Ref_moveUp 48 rfl) (by decide) ?_
    exact k_Ref_moveUp_85 hC hA hK k16 hk16  (j_ishr (j_ishl (g8 ((((160 : Int32) * v1) + v6) - (1 : Int32)).toNatClampNeg) v4) (16 : Int32)) v1 v3 v4 v5 s0 g8 H locs ls hP hD hS (lv_sub hl [1, 2, 3, 4, 5, 0] rfl) h
set_option maxRecDepth 100000 in
set_option maxHeartbeats 4000000 in
theorem k_Ref_moveUp_16 {p : Program} {l : Launch} {e : Env} {s : State} {m : MethodId} {args : Array Value} {below : List Frame} {meth : Method} {c : Code} {D : va_G} {a : Nat → Nat} {q : Nat → ClassId} {A : Nat → Prop} (hC : CX p s m args meth c prog_12_method_7_code 9 "OutwardTapeModel" none) (hA : ∀ x, s.heap.size ≤ x → A x) (hK : va_K D CLS (tR q) s) {g0 : Int32} {g1 : Nat → Int32} {g2 : Nat → Int64} {g3 : Nat → Int64} {g4 : Nat → Int32} {g5 : Int32} {g6 : Nat → Int32} {g7 : Int32} {g9 : Int32} {g10 : Int64} {g11 : Int64} {g12 : Int32} {g13 : Int32} {g14 : Int32} {g15 : Int64} {g16 : Int32} {g17 : Int32} {g18 : Int64} {g19 : Int32} {r0 : (Nat → Int32)} : ∀ n : Nat, ∀ (v1 : Int32) (v3 : Int32) (v4 : Int32) (v5 : Int32) (g8 : Nat → Int32) (H : Heap) (locs : List Loc) (ls : Array Slot), va_P D CLS (wR a q g0 g1 g2 g3 g4 g5 g6 g7 g8 g9 g10 g11 g12 g13 g14 g15 g16 g17 g18 g19) H → va_D A (wR a q g0 g1 g2 g3 g4 g5 g6 g7 g8 g9 g10 g11 g12 g13 g14 g15 g16 g17 g18 g19) → va_S A s.heap H locs → lv_has ls 9 [(0, .ref (a 0)), (1, .int v1), (3, .int v3), (4, .int v4), (5, .int v5)] → f_Ref_moveUp_16  n v1 v3 v4 v5 g8 = some r0 → W p l e rm_Ref_moveUp s m args below meth c H locs 0 0 (MQ below (va_Qv (fun _ : Unit => True) (fun _ t => va_P D CLS (wR a q g0 g1 g2 g3 g4 g5 g6 g7 r0 g9 g10 g11 g12 g13 g14 g15 g16 g17 g18 g19) t.heap) A) args s 0 0 A) (F0 m 16 ls []) := by
  obtain ⟨hx, hb, hml, hown, hts, hr, hlocks⟩ := id hC
  intro n
  induction n with
  | zero => intro v1 v3 v4 v5 g8 H locs ls hP hD hS hl h; cases h
  | succ n ih =>
    intro v1 v3 v4 v5 g8 H locs ls hP hD hS hl h
    rw [f_Ref_moveUp_16] at h
    refine lv_iload hx hb (dt_at dt_Ref_moveUp 10 rfl) (lv_at hl 4 rfl) ?_
    refine lv_if_lt (tgt := 114) hx hb (dt_at dt_Ref_moveUp 11 rfl) (by decide) (fun c1 => ?_) (fun c1 => ?_)
    · have h := if_p h c1
      obtain rfl := os_of h
      exact W.vret hx hb hr (fun t ht hW => ⟨⟨(), rfl, trivial, (hPt hP ht)⟩, hS.F ht⟩) hS.2.2 (dt_at dt_Ref_moveUp 66 rfl)
    · have h := if_n h c1
      refine lv_iload hx hb (dt_at dt_Ref_moveUp 12 rfl) (lv_at hl 4 rfl) ?_
      refine lv_iload_n hx hb (dt_at dt_Ref_moveUp 13 rfl) rfl (lv_at hl 2 rfl) ?_
      refine lv_isub hx hb (dt_at dt_Ref_moveUp 14 rfl) ?_
      obtain ⟨t2, e_t2, h⟩ := ol_of h
      refine lv_topi (fun u_t2 q_t2 => ?_)
      obtain rfl : t2 = u_t2 := e_t2.trans q_t2.symm
      refine lv_istore (lv' := [(6, .int t2), (0, .ref (a 0)), (1, .int v1), (3, .int v3), (4, .int v4), (5, .int v5)]) hx hb (dt_at dt_Ref_moveUp 15 rfl) hl (by decide) rfl (fun ls hl => ?_)
      refine lv_iload hx hb (dt_at dt_Ref_moveUp 16 rfl) (lv_at hl 0 rfl) ?_
      refine lv_if_lt (tgt := 51) hx hb (dt_at dt_Ref_moveUp 17 rfl) (by decide) (fun c3 => ?_) (fun c3 => ?_)
      · have h := if_p h c3
        refine lv_iconst (v := 0) hx hb (dt_at dt_Ref_moveUp 29 rfl) (by decide) ?_
        exact k_Ref_moveUp_52 hC hA hK (f_Ref_moveUp_16  n) ih  (0 : Int32) v1 v3 v4 v5 t2 g8 H locs ls hP hD hS (lv_sub hl [1, 2, 3, 4, 5, 0] rfl) h
      · have h := if_n h c3
        refine lv_aload_n hx hb (dt_at dt_Ref_moveUp 18 rfl) rfl (lv_at hl 1 rfl) ?_
        refine va_get (D := D) (ci := 0) (v := .ref (a 6)) (C := "OutwardTapeModel") (T := T_Ref) (N := 20) hx hb hts in_Ref hown hK hP 0 rfl rfl 8 (by decide) (hts (Cond.fieldLink "OutwardTapeModel" 26 "OutwardTapeModel" "limb" "[I") (m_4 7 rfl rfl)) (fun _ h9 => h9) rfl (dt_at dt_Ref_moveUp 19 rfl) ?_
        refine lv_sipush (v := 160) hx hb (dt_at dt_Ref_moveUp 20 rfl) (by decide) ?_
        refine lv_iload_n hx hb (dt_at dt_Ref_moveUp 21 rfl) rfl (lv_at hl 2 rfl) ?_
        refine lv_imul hx hb (dt_at dt_Ref_moveUp 22 rfl) ?_
        refine lv_iload hx hb (dt_at dt_Ref_moveUp 23 rfl) (lv_at hl 0 rfl) ?_
        refine lv_iadd hx hb (dt_at dt_Ref_moveUp 24 rfl) ?_
        obtain ⟨z4, h⟩ := og_of h
        refine va_iald hx hb hK hP 6 5 rfl rfl z4 (dt_at dt_Ref_moveUp 25 rfl) ?_
        refine lv_iload hx hb (dt_at dt_Ref_moveUp 26 rfl) (lv_at hl 4 rfl) ?_
        refine lv_ishl hx hb (dt_at dt_Ref_moveUp 27 rfl) ?_
        refine lv_goto (tgt := 52) hx hb (dt_at dt_Ref_moveUp 28 rfl) (by decide) ?_
        exact k_Ref_moveUp_52 hC hA hK (f_Ref_moveUp_16  n) ih  (j_ishl (g8 (((160 : Int32) * v1) + t2).toNatClampNeg) v4) v1 v3 v4 v5 t2 g8 H locs ls hP hD hS (lv_sub hl [1, 2, 3, 4, 5, 0] rfl) h
set_option maxRecDepth 100000 in
set_option maxHeartbeats 4000000 in
theorem k_Ref_moveUp_0 {p : Program} {l : Launch} {e : Env} {s : State} {m : MethodId} {args : Array Value} {below : List Frame} {meth : Method} {c : Code} {D : va_G} {a : Nat → Nat} {q : Nat → ClassId} {A : Nat → Prop} (hC : CX p s m args meth c prog_12_method_7_code 9 "OutwardTapeModel" none) (hA : ∀ x, s.heap.size ≤ x → A x) (hK : va_K D CLS (tR q) s) {g0 : Int32} {g1 : Nat → Int32} {g2 : Nat → Int64} {g3 : Nat → Int64} {g4 : Nat → Int32} {g5 : Int32} {g6 : Nat → Int32} {g7 : Int32} {g9 : Int32} {g10 : Int64} {g11 : Int64} {g12 : Int32} {g13 : Int32} {g14 : Int32} {g15 : Int64} {g16 : Int32} {g17 : Int32} {g18 : Int64} {g19 : Int32} {r0 : (Nat → Int32)} : ∀ (v1 : Int32) (v2 : Int32) (g8 : Nat → Int32) (H : Heap) (locs : List Loc) (ls : Array Slot), va_P D CLS (wR a q g0 g1 g2 g3 g4 g5 g6 g7 g8 g9 g10 g11 g12 g13 g14 g15 g16 g17 g18 g19) H → va_D A (wR a q g0 g1 g2 g3 g4 g5 g6 g7 g8 g9 g10 g11 g12 g13 g14 g15 g16 g17 g18 g19) → va_S A s.heap H locs → lv_has ls 9 [(0, .ref (a 0)), (1, .int v1), (2, .int v2)] → f_Ref_moveUp_0  v1 v2 g8 = some r0 → W p l e rm_Ref_moveUp s m args below meth c H locs 0 0 (MQ below (va_Qv (fun _ : Unit => True) (fun _ t => va_P D CLS (wR a q g0 g1 g2 g3 g4 g5 g6 g7 r0 g9 g10 g11 g12 g13 g14 g15 g16 g17 g18 g19) t.heap) A) args s 0 0 A) (F0 m 0 ls []) := by
  obtain ⟨hx, hb, hml, hown, hts, hr, hlocks⟩ := id hC
  intro v1 v2 g8 H locs ls hP hD hS hl h
  rw [f_Ref_moveUp_0] at h
  refine lv_iload_n hx hb (dt_at dt_Ref_moveUp 0 rfl) rfl (lv_at hl 2 rfl) ?_
  refine lv_bipush (v := 16) hx hb (dt_at dt_Ref_moveUp 1 rfl) (by decide) ?_
  refine lv_idiv hx hb (dt_at dt_Ref_moveUp 2 rfl) (by decide) ?_
  obtain ⟨t1, e_t1, h⟩ := ol_of h
  refine lv_topi (fun u_t1 q_t1 => ?_)
  obtain rfl : t1 = u_t1 := e_t1.trans q_t1.symm
  refine lv_istore_n (lv' := [(3, .int t1), (0, .ref (a 0)), (1, .int v1), (2, .int v2)]) hx hb (dt_at dt_Ref_moveUp 3 rfl) rfl hl (by decide) rfl (fun ls hl => ?_)
  refine lv_iload_n hx hb (dt_at dt_Ref_moveUp 4 rfl) rfl (lv_at hl 3 rfl) ?_
  refine lv_bipush (v := 16) hx hb (dt_at dt_Ref_moveUp 5 rfl) (by decide) ?_
  refine lv_irem hx hb (dt_at dt_Ref_moveUp 6 rfl) (by decide) ?_
  obtain ⟨t2, e_t2, h⟩ := ol_of h
  refine lv_topi (fun u_t2 q_t2 => ?_)
  obtain rfl : t2 = u_t2 := e_t2.trans q_t2.symm
  refine lv_istore (lv' := [(4, .int t2), (3, .int t1), (0, .ref (a 0)), (1, .int v1), (2, .int v2)]) hx hb (dt_at dt_Ref_moveUp 7 rfl) hl (by decide) rfl (fun ls hl => ?_)
  refine lv_sipush (v := 159) hx hb (dt_at dt_Ref_moveUp 8 rfl) (by decide) ?_
  refine lv_istore (lv' := [(5, .int (159 : Int32)), (4, .int t2), (3, .int t1), (0, .ref (a 0)), (1, .int v1), (2, .int v2)]) hx hb (dt_at dt_Ref_moveUp 9 rfl) hl (by decide) rfl (fun ls hl => ?_)
  exact k_Ref_moveUp_16 hC hA hK  5000 v1 t1 t2 (159 : Int32) g8 H locs ls hP hD hS (lv_sub hl [3, 4, 2, 1, 0] rfl) h
set_option maxRecDepth 100000 in
set_option maxHeartbeats 4000000 in
theorem c_Ref_moveUp (l : Launch) (D : va_G) (a : Nat → Nat) (q : Nat → ClassId) (hd : va_D (fun _ => True) (dR a)) (sz : Nat) (a1 : Int32) (a2 : Int32) (g0 : Int32) (g1 : Nat → Int32) (g2 : Nat → Int64) (g3 : Nat → Int64) (g4 : Nat → Int32) (g5 : Int32) (g6 : Nat → Int32) (g7 : Int32) (g8 : Nat → Int32) (g9 : Int32) (g10 : Int64) (g11 : Int64) (g12 : Int32) (g13 : Int32) (g14 : Int32) (g15 : Int64) (g16 : Int32) (g17 : Int32) (g18 : Int64) (g19 : Int32) (r0 : (Nat → Int32)) (h : f_Ref_moveUp a1 a2 g8 = some r0) : Met l (⟨"OutwardTapeModel", "moveUp", "(II)V"⟩ : MethodName) (WSm (⟨"OutwardTapeModel", "moveUp", "(II)V"⟩ : MethodName) prog_12_method_7_code 9 none) rm_Ref_moveUp (va_Pc [.ref (a 0), .int a1, .int a2] (fun U => U.heap.size = sz ∧ va_P D CLS (wR a q g0 g1 g2 g3 g4 g5 g6 g7 g8 g9 g10 g11 g12 g13 g14 g15 g16 g17 g18 g19) U.heap ∧ va_K D CLS (tR q) U)) (va_Qv (fun _ : Unit => True) (fun _ t => va_P D CLS (wR a q g0 g1 g2 g3 g4 g5 g6 g7 r0 g9 g10 g11 g12 g13 g14 g15 g16 g17 g18 g19) t.heap) (va_A (dR a) sz)) 0 0 (va_A (dR a) sz) := by
  refine Met.ofW (cc := prog_12_method_7_code) (maxL := 9) (ret := none) (by decide) rfl ?_
  intro p e s m args below meth c s₁ B hml hv
  obtain ⟨rfl, hsz, hP, hK⟩ := hv
  subst hsz
  have hC := CX.of B hml rfl
  have hl := lv_entry [.ref (a 0), .int a1, .int a2] (n := 9) (Nat.le_of_ble_eq_true rfl)
  rw [lg_entry_eq]
  generalize (lg_sl [.ref (a 0), .int a1, .int a2] ++ List.replicate (9 - (lg_sl [.ref (a 0), .int a1, .int a2]).length) Slot.unset).toArray = ls at hl ⊢
  have hl : lv_has ls 9 [(0, .ref (a 0)), (1, .int a1), (2, .int a2)] := hl
  exact k_Ref_moveUp_0 hC (fun x h => Or.inr h) hK a1 a2 g8 s.heap [] ls hP (dD hd.self rfl) va_S.rf (lv_sub hl [0, 1, 2] rfl) h
abbrev rm_Ref_compare : Room := { frames := 0, cells := 0, slots := 0, locals := 0 }
set_option maxRecDepth 100000 in
set_option maxHeartbeats 4000000 in
theorem k_Ref_compare_50 {p : Program} {l : Launch} {e : Env} {s : State} {m : MethodId} {args : Array Value} {below : List Frame} {meth : Method} {c : Code} {D : va_G} {a : Nat → Nat} {q : Nat → ClassId} {A : Nat → Prop} (hC : CX p s m args meth c prog_12_method_8_code 5 "OutwardTapeModel" (some .int)) (hA : ∀ x, s.heap.size ≤ x → A x) (hK : va_K D CLS (tR q) s) {g0 : Int32} {g1 : Nat → Int32} {g2 : Nat → Int64} {g3 : Nat → Int64} {g4 : Nat → Int32} {g5 : Int32} {g6 : Nat → Int32} {g7 : Int32} {g8 : Nat → Int32} {g9 : Int32} {g10 : Int64} {g11 : Int64} {g12 : Int32} {g13 : Int32} {g14 : Int32} {g15 : Int64} {g16 : Int32} {g17 : Int32} {g18 : Int64} {g19 : Int32} {r0 : Int32} : ∀ (s0 : Int32)  (H : Heap) (locs : List Loc) (ls : Array Slot), va_P D CLS (wR a q g0 g1 g2 g3 g4 g5 g6 g7 g8 g9 g10 g11 g12 g13 g14 g15 g16 g17 g18 g19) H → va_D A (wR a q g0 g1 g2 g3 g4 g5 g6 g7 g8 g9 g10 g11 g12 g13 g14 g15 g16 g17 g18 g19) → va_S A s.heap H locs → lv_has ls 5 [] → f_Ref_compare_50  s0 g8 = some r0 → W p l e rm_Ref_compare s m args below meth c H locs 0 0 (MQ below (va_Qi (fun (r : Int32) (_ : Unit) => r = r0) (fun _ t => va_P D CLS (wR a q g0 g1 g2 g3 g4 g5 g6 g7 g8 g9 g10 g11 g12 g13 g14 g15 g16 g17 g18 g19) t.heap) A) args s 0 0 A) (F0 m 50 ls [.int s0]) := by
  obtain ⟨hx, hb, hml, hown, hts, hr, hlocks⟩ := id hC
  intro s0 H locs ls hP hD hS hl h
  rw [f_Ref_compare_50] at h
  obtain rfl := os_of h
  exact W.iret (v := s0) hx hb hr (fun t ht hW => ⟨⟨_, (), rfl, rfl, (hPt hP ht)⟩, hS.F ht⟩) hS.2.2 (dt_at dt_Ref_compare 29 rfl)
set_option maxRecDepth 100000 in
set_option maxHeartbeats 4000000 in
theorem k_Ref_compare_4 {p : Program} {l : Launch} {e : Env} {s : State} {m : MethodId} {args : Array Value} {below : List Frame} {meth : Method} {c : Code} {D : va_G} {a : Nat → Nat} {q : Nat → ClassId} {A : Nat → Prop} (hC : CX p s m args meth c prog_12_method_8_code 5 "OutwardTapeModel" (some .int)) (hA : ∀ x, s.heap.size ≤ x → A x) (hK : va_K D CLS (tR q) s) {g0 : Int32} {g1 : Nat → Int32} {g2 : Nat → Int64} {g3 : Nat → Int64} {g4 : Nat → Int32} {g5 : Int32} {g6 : Nat → Int32} {g7 : Int32} {g8 : Nat → Int32} {g9 : Int32} {g10 : Int64} {g11 : Int64} {g12 : Int32} {g13 : Int32} {g14 : Int32} {g15 : Int64} {g16 : Int32} {g17 : Int32} {g18 : Int64} {g19 : Int32} {r0 : Int32} : ∀ n : Nat, ∀ (v1 : Int32) (v2 : Int32) (v3 : Int32)  (H : Heap) (locs : List Loc) (ls : Array Slot), va_P D CLS (wR a q g0 g1 g2 g3 g4 g5 g6 g7 g8 g9 g10 g11 g12 g13 g14 g15 g16 g17 g18 g19) H → va_D A (wR a q g0 g1 g2 g3 g4 g5 g6 g7 g8 g9 g10 g11 g12 g13 g14 g15 g16 g17 g18 g19) → va_S A s.heap H locs → lv_has ls 5 [(0, .ref (a 0)), (1, .int v1), (2, .int v2), (3, .int v3)] → f_Ref_compare_4  n v1 v2 v3 g8 = some r0 → W p l e rm_Ref_compare s m args below meth c H locs 0 0 (MQ below (va_Qi (fun (r : Int32) (_ : Unit) => r = r0) (fun _ t => va_P D CLS (wR a q g0 g1 g2 g3 g4 g5 g6 g7 g8 g9 g10 g11 g12 g13 g14 g15 g16 g17 g18 g19) t.heap) A) args s 0 0 A) (F0 m 4 ls []) := by
  obtain ⟨hx, hb, hml, hown, hts, hr, hlocks⟩ := id hC
  intro n
  induction n with
  | zero => intro v1 v2 v3 H locs ls hP hD hS hl h; cases h
  | succ n ih =>
    intro v1 v2 v3 H locs ls hP hD hS hl h
    rw [f_Ref_compare_4] at h
    refine lv_iload_n hx hb (dt_at dt_Ref_compare 2 rfl) rfl (lv_at hl 3 rfl) ?_
    refine lv_if_lt (tgt := 57) hx hb (dt_at dt_Ref_compare 3 rfl) (by decide) (fun c1 => ?_) (fun c1 => ?_)
    · have h := if_p h c1
      refine lv_iconst (v := 0) hx hb (dt_at dt_Ref_compare 32 rfl) (by decide) ?_
      obtain rfl := os_of h
      exact W.iret (v := (0 : Int32)) hx hb hr (fun t ht hW => ⟨⟨_, (), rfl, rfl, (hPt hP ht)⟩, hS.F ht⟩) hS.2.2 (dt_at dt_Ref_compare 33 rfl)
    · have h := if_n h c1
      refine lv_aload_n hx hb (dt_at dt_Ref_compare 4 rfl) rfl (lv_at hl 0 rfl) ?_
      refine va_get (D := D) (ci := 0) (v := .ref (a 6)) (C := "OutwardTapeModel") (T := T_Ref) (N := 20) hx hb hts in_Ref hown hK hP 0 rfl rfl 8 (by decide) (hts (Cond.fieldLink "OutwardTapeModel" 26 "OutwardTapeModel" "limb" "[I") (m_4 7 rfl rfl)) (fun _ h9 => h9) rfl (dt_at dt_Ref_compare 5 rfl) ?_
      refine lv_sipush (v := 160) hx hb (dt_at dt_Ref_compare 6 rfl) (by decide) ?_
      refine lv_iload_n hx hb (dt_at dt_Ref_compare 7 rfl) rfl (lv_at hl 1 rfl) ?_
      refine lv_imul hx hb (dt_at dt_Ref_compare 8 rfl) ?_
      refine lv_iload_n hx hb (dt_at dt_Ref_compare 9 rfl) rfl (lv_at hl 3 rfl) ?_
      refine lv_iadd hx hb (dt_at dt_Ref_compare 10 rfl) ?_
      obtain ⟨z2, h⟩ := og_of h
      refine va_iald hx hb hK hP 6 5 rfl rfl z2 (dt_at dt_Ref_compare 11 rfl) ?_
      refine lv_aload_n hx hb (dt_at dt_Ref_compare 12 rfl) rfl (lv_at hl 0 rfl) ?_
      refine va_get (D := D) (ci := 0) (v := .ref (a 6)) (C := "OutwardTapeModel") (T := T_Ref) (N := 20) hx hb hts in_Ref hown hK hP 0 rfl rfl 8 (by decide) (hts (Cond.fieldLink "OutwardTapeModel" 26 "OutwardTapeModel" "limb" "[I") (m_4 7 rfl rfl)) (fun _ h9 => h9) rfl (dt_at dt_Ref_compare 13 rfl) ?_
      refine lv_sipush (v := 160) hx hb (dt_at dt_Ref_compare 14 rfl) (by decide) ?_
      refine lv_iload_n hx hb (dt_at dt_Ref_compare 15 rfl) rfl (lv_at hl 2 rfl) ?_
      refine lv_imul hx hb (dt_at dt_Ref_compare 16 rfl) ?_
      refine lv_iload_n hx hb (dt_at dt_Ref_compare 17 rfl) rfl (lv_at hl 3 rfl) ?_
      refine lv_iadd hx hb (dt_at dt_Ref_compare 18 rfl) ?_
      obtain ⟨z3, h⟩ := og_of h
      refine va_iald hx hb hK hP 6 5 rfl rfl z3 (dt_at dt_Ref_compare 19 rfl) ?_
      refine lv_isub hx hb (dt_at dt_Ref_compare 20 rfl) ?_
      obtain ⟨t4, e_t4, h⟩ := ol_of h
      refine lv_topi (fun u_t4 q_t4 => ?_)
      obtain rfl : t4 = u_t4 := e_t4.trans q_t4.symm
      refine lv_istore (lv' := [(4, .int t4), (0, .ref (a 0)), (1, .int v1), (2, .int v2), (3, .int v3)]) hx hb (dt_at dt_Ref_compare 21 rfl) hl (by decide) rfl (fun ls hl => ?_)
      refine lv_iload hx hb (dt_at dt_Ref_compare 22 rfl) (lv_at hl 0 rfl) ?_
      refine lv_if_eq (tgt := 51) hx hb (dt_at dt_Ref_compare 23 rfl) (by decide) (fun c5 => ?_) (fun c5 => ?_)
      · have h := if_p h c5
        obtain ⟨t6, e_t6, h⟩ := ol_of h
        refine lv_iinc (v := t6) (lv' := [(3, .int t6), (4, .int t4), (0, .ref (a 0)), (1, .int v1), (2, .int v2)]) hx hb (dt_at dt_Ref_compare 30 rfl) hl (k := 4) rfl (by rw [e_t6]; rfl) (by decide) rfl (fun ls hl => ?_)
        refine lv_goto (tgt := 4) hx hb (dt_at dt_Ref_compare 31 rfl) (by decide) ?_
        exact ih v1 v2 t6 H locs ls hP hD hS (lv_sub hl [2, 3, 4, 0] rfl) h
      · have h := if_n h c5
        refine lv_iload hx hb (dt_at dt_Ref_compare 24 rfl) (lv_at hl 0 rfl) ?_
        refine lv_if_ge (tgt := 49) hx hb (dt_at dt_Ref_compare 25 rfl) (by decide) (fun c7 => ?_) (fun c7 => ?_)
        · have h := if_p h c7
          refine lv_iconst (v := 1) hx hb (dt_at dt_Ref_compare 28 rfl) (by decide) ?_
          exact k_Ref_compare_50 hC hA hK   (1 : Int32) H locs ls hP hD hS (lv_sub hl [] rfl) h
        · have h := if_n h c7
          refine lv_iconst (v := -1) hx hb (dt_at dt_Ref_compare 26 rfl) (by decide) ?_
          refine lv_goto (tgt := 50) hx hb (dt_at dt_Ref_compare 27 rfl) (by decide) ?_
          exact k_Ref_compare_50 hC hA hK   (-1 : Int32) H locs ls hP hD hS (lv_sub hl [] rfl) h
set_option maxRecDepth 100000 in
set_option maxHeartbeats 4000000 in
theorem k_Ref_compare_0 {p : Program} {l : Launch} {e : Env} {s : State} {m : MethodId} {args : Array Value} {below : List Frame} {meth : Method} {c : Code} {D : va_G} {a : Nat → Nat} {q : Nat → ClassId} {A : Nat → Prop} (hC : CX p s m args meth c prog_12_method_8_code 5 "OutwardTapeModel" (some .int)) (hA : ∀ x, s.heap.size ≤ x → A x) (hK : va_K D CLS (tR q) s) {g0 : Int32} {g1 : Nat → Int32} {g2 : Nat → Int64} {g3 : Nat → Int64} {g4 : Nat → Int32} {g5 : Int32} {g6 : Nat → Int32} {g7 : Int32} {g8 : Nat → Int32} {g9 : Int32} {g10 : Int64} {g11 : Int64} {g12 : Int32} {g13 : Int32} {g14 : Int32} {g15 : Int64} {g16 : Int32} {g17 : Int32} {g18 : Int64} {g19 : Int32} {r0 : Int32} : ∀ (v1 : Int32) (v2 : Int32)  (H : Heap) (locs : List Loc) (ls : Array Slot), va_P D CLS (wR a q g0 g1 g2 g3 g4 g5 g6 g7 g8 g9 g10 g11 g12 g13 g14 g15 g16 g17 g18 g19) H → va_D A (wR a q g0 g1 g2 g3 g4 g5 g6 g7 g8 g9 g10 g11 g12 g13 g14 g15 g16 g17 g18 g19) → va_S A s.heap H locs → lv_has ls 5 [(0, .ref (a 0)), (1, .int v1), (2, .int v2)] → f_Ref_compare_0  v1 v2 g8 = some r0 → W p l e rm_Ref_compare s m args below meth c H locs 0 0 (MQ below (va_Qi (fun (r : Int32) (_ : Unit) => r = r0) (fun _ t => va_P D CLS (wR a q g0 g1 g2 g3 g4 g5 g6 g7 g8 g9 g10 g11 g12 g13 g14 g15 g16 g17 g18 g19) t.heap) A) args s 0 0 A) (F0 m 0 ls []) := by
  obtain ⟨hx, hb, hml, hown, hts, hr, hlocks⟩ := id hC
  intro v1 v2 H locs ls hP hD hS hl h
  rw [f_Ref_compare_0] at h
  refine lv_sipush (v := 159) hx hb (dt_at dt_Ref_compare 0 rfl) (by decide) ?_
  refine lv_istore_n (lv' := [(3, .int (159 : Int32)), (0, .ref (a 0)), (1, .int v1), (2, .int v2)]) hx hb (dt_at dt_Ref_compare 1 rfl) rfl hl (by decide) rfl (fun ls hl => ?_)
  exact k_Ref_compare_4 hC hA hK  5000 v1 v2 (159 : Int32) H locs ls hP hD hS (lv_sub hl [1, 2, 3, 0] rfl) h
set_option maxRecDepth 100000 in
set_option maxHeartbeats 4000000 in
theorem c_Ref_compare (l : Launch) (D : va_G) (a : Nat → Nat) (q : Nat → ClassId) (hd : va_D (fun _ => True) (dR a)) (sz : Nat) (a1 : Int32) (a2 : Int32) (g0 : Int32) (g1 : Nat → Int32) (g2 : Nat → Int64) (g3 : Nat → Int64) (g4 : Nat → Int32) (g5 : Int32) (g6 : Nat → Int32) (g7 : Int32) (g8 : Nat → Int32) (g9 : Int32) (g10 : Int64) (g11 : Int64) (g12 : Int32) (g13 : Int32) (g14 : Int32) (g15 : Int64) (g16 : Int32) (g17 : Int32) (g18 : Int64) (g19 : Int32) (r0 : Int32) (h : f_Ref_compare a1 a2 g8 = some r0) : Met l (⟨"OutwardTapeModel", "compare", "(II)I"⟩ : MethodName) (WSm (⟨"OutwardTapeModel", "compare", "(II)I"⟩ : MethodName) prog_12_method_8_code 5 (some .int)) rm_Ref_compare (va_Pc [.ref (a 0), .int a1, .int a2] (fun U => U.heap.size = sz ∧ va_P D CLS (wR a q g0 g1 g2 g3 g4 g5 g6 g7 g8 g9 g10 g11 g12 g13 g14 g15 g16 g17 g18 g19) U.heap ∧ va_K D CLS (tR q) U)) (va_Qi (fun (r : Int32) (_ : Unit) => r = r0) (fun _ t => va_P D CLS (wR a q g0 g1 g2 g3 g4 g5 g6 g7 g8 g9 g10 g11 g12 g13 g14 g15 g16 g17 g18 g19) t.heap) (va_A (dR a) sz)) 0 0 (va_A (dR a) sz) := by
  refine Met.ofW (cc := prog_12_method_8_code) (maxL := 5) (ret := (some .int)) (by decide) rfl ?_
  intro p e s m args below meth c s₁ B hml hv
  obtain ⟨rfl, hsz, hP, hK⟩ := hv
  subst hsz
  have hC := CX.of B hml rfl
  have hl := lv_entry [.ref (a 0), .int a1, .int a2] (n := 5) (Nat.le_of_ble_eq_true rfl)
  rw [lg_entry_eq]
  generalize (lg_sl [.ref (a 0), .int a1, .int a2] ++ List.replicate (5 - (lg_sl [.ref (a 0), .int a1, .int a2]).length) Slot.unset).toArray = ls at hl ⊢
  have hl : lv_has ls 5 [(0, .ref (a 0)), (1, .int a1), (2, .int a2)] := hl
  exact k_Ref_compare_0 hC (fun x h => Or.inr h) hK a1 a2  s.heap [] ls hP (dD hd.self rfl) va_S.rf (lv_sub hl [0, 1, 2] rfl) h
abbrev rm_Ref_add : Room := { frames := 0, cells := 0, slots := 0, locals := 0 }
set_option maxRecDepth 100000 in
set_option maxHeartbeats 4000000 in
theorem k_Ref_add_6 {p : Program} {l : Launch} {e : Env} {s : State} {m : MethodId} {args : Array Value} {below : List Frame} {meth : Method} {c : Code} {D : va_G} {a : Nat → Nat} {q : Nat → ClassId} {A : Nat → Prop} (hC : CX p s m args meth c prog_12_method_9_code 7 "OutwardTapeModel" none) (hA : ∀ x, s.heap.size ≤ x → A x) (hK : va_K D CLS (tR q) s) {g0 : Int32} {g1 : Nat → Int32} {g2 : Nat → Int64} {g3 : Nat → Int64} {g4 : Nat → Int32} {g5 : Int32} {g6 : Nat → Int32} {g7 : Int32} {g9 : Int32} {g10 : Int64} {g11 : Int64} {g12 : Int32} {g13 : Int32} {g14 : Int32} {g15 : Int64} {g16 : Int32} {g17 : Int32} {g18 : Int64} {g19 : Int32} {r0 : (Nat → Int32)} : ∀ n : Nat, ∀ (v1 : Int32) (v2 : Int32) (v3 : Int32) (v4 : Int32) (v5 : Int32) (g8 : Nat → Int32) (H : Heap) (locs : List Loc) (ls : Array Slot), va_P D CLS (wR a q g0 g1 g2 g3 g4 g5 g6 g7 g8 g9 g10 g11 g12 g13 g14 g15 g16 g17 g18 g19) H → va_D A (wR a q g0 g1 g2 g3 g4 g5 g6 g7 g8 g9 g10 g11 g12 g13 g14 g15 g16 g17 g18 g19) → va_S A s.heap H locs → lv_has ls 7 [(0, .ref (a 0)), (1, .int v1), (2, .int v2), (3, .int v3), (4, .int v4), (5, .int v5)] → f_Ref_add_6  n v1 v2 v3 v4 v5 g8 = some r0 → W p l e rm_Ref_add s m args below meth c H locs 0 0 (MQ below (va_Qv (fun _ : Unit => True) (fun _ t => va_P D CLS (wR a q g0 g1 g2 g3 g4 g5 g6 g7 r0 g9 g10 g11 g12 g13 g14 g15 g16 g17 g18 g19) t.heap) A) args s 0 0 A) (F0 m 6 ls []) := by
  obtain ⟨hx, hb, hml, hown, hts, hr, hlocks⟩ := id hC
  intro n
  induction n with
  | zero => intro v1 v2 v3 v4 v5 g8 H locs ls hP hD hS hl h; cases h
  | succ n ih =>
    intro v1 v2 v3 v4 v5 g8 H locs ls hP hD hS hl h
    rw [f_Ref_add_6] at h
    refine lv_iload hx hb (dt_at dt_Ref_add 4 rfl) (lv_at hl 5 rfl) ?_
    refine lv_sipush (v := 160) hx hb (dt_at dt_Ref_add 5 rfl) (by decide) ?_
    refine lv_icmp_ge (tgt := 79) hx hb (dt_at dt_Ref_add 6 rfl) (by decide) (fun c1 => ?_) (fun c1 => ?_)
    · have h := if_p h c1
      obtain rfl := os_of h
      exact W.vret hx hb hr (fun t ht hW => ⟨⟨(), rfl, trivial, (hPt hP ht)⟩, hS.F ht⟩) hS.2.2 (dt_at dt_Ref_add 46 rfl)
    · have h := if_n h c1
      refine lv_aload_n hx hb (dt_at dt_Ref_add 7 rfl) rfl (lv_at hl 0 rfl) ?_
      refine va_get (D := D) (ci := 0) (v := .ref (a 6)) (C := "OutwardTapeModel") (T := T_Ref) (N := 20) hx hb hts in_Ref hown hK hP 0 rfl rfl 8 (by decide) (hts (Cond.fieldLink "OutwardTapeModel" 26 "OutwardTapeModel" "limb" "[I") (m_4 7 rfl rfl)) (fun _ h9 => h9) rfl (dt_at dt_Ref_add 8 rfl) ?_
      refine lv_sipush (v := 160) hx hb (dt_at dt_Ref_add 9 rfl) (by decide) ?_
      refine lv_iload_n hx hb (dt_at dt_Ref_add 10 rfl) rfl (lv_at hl 1 rfl) ?_
      refine lv_imul hx hb (dt_at dt_Ref_add 11 rfl) ?_
      refine lv_iload hx hb (dt_at dt_Ref_add 12 rfl) (lv_at hl 5 rfl) ?_
      refine lv_iadd hx hb (dt_at dt_Ref_add 13 rfl) ?_
      obtain ⟨z2, h⟩ := og_of h
      refine va_iald hx hb hK hP 6 5 rfl rfl z2 (dt_at dt_Ref_add 14 rfl) ?_
      refine lv_iload_n hx hb (dt_at dt_Ref_add 15 rfl) rfl (lv_at hl 3 rfl) ?_
      refine lv_aload_n hx hb (dt_at dt_Ref_add 16 rfl) rfl (lv_at hl 0 rfl) ?_
      refine va_get (D := D) (ci := 0) (v := .ref (a 6)) (C := "OutwardTapeModel") (T := T_Ref) (N := 20) hx hb hts in_Ref hown hK hP 0 rfl rfl 8 (by decide) (hts (Cond.fieldLink "OutwardTapeModel" 26 "OutwardTapeModel" "limb" "[I") (m_4 7 rfl rfl)) (fun _ h9 => h9) rfl (dt_at dt_Ref_add 17 rfl) ?_
      refine lv_sipush (v := 160) hx hb (dt_at dt_Ref_add 18 rfl) (by decide) ?_
      refine lv_iload_n hx hb (dt_at dt_Ref_add 19 rfl) rfl (lv_at hl 2 rfl) ?_
      refine lv_imul hx hb (dt_at dt_Ref_add 20 rfl) ?_
      refine lv_iload hx hb (dt_at dt_Ref_add 21 rfl) (lv_at hl 5 rfl) ?_
      refine lv_iadd hx hb (dt_at dt_Ref_add 22 rfl) ?_
      obtain ⟨z3, h⟩ := og_of h
      refine va_iald hx hb hK hP 6 5 rfl rfl z3 (dt_at dt_Ref_add 23 rfl) ?_
      refine lv_imul hx hb (dt_at dt_Ref_add 24 rfl) ?_
      refine lv_iadd hx hb (dt_at dt_Ref_add 25 rfl) ?_
      refine lv_iload hx hb (dt_at dt_Ref_add 26 rfl) (lv_at hl 4 rfl) ?_
      refine lv_iadd hx hb (dt_at dt_Ref_add 27 rfl) ?_
      obtain ⟨t4, e_t4, h⟩ := ol_of h
      refine lv_topi (fun u_t4 q_t4 => ?_)
      obtain rfl : t4 = u_t4 := e_t4.trans q_t4.symm
      refine lv_istore (lv' := [(6, .int t4), (0, .ref (a 0)), (1, .int v1), (2, .int v2), (3, .int v3), (4, .int v4), (5, .int v5)]) hx hb (dt_at dt_Ref_add 28 rfl) hl (by decide) rfl (fun ls hl => ?_)
      refine lv_aload_n hx hb (dt_at dt_Ref_add 29 rfl) rfl (lv_at hl 1 rfl) ?_
      refine va_get (D := D) (ci := 0) (v := .ref (a 6)) (C := "OutwardTapeModel") (T := T_Ref) (N := 20) hx hb hts in_Ref hown hK hP 0 rfl rfl 8 (by decide) (hts (Cond.fieldLink "OutwardTapeModel" 26 "OutwardTapeModel" "limb" "[I") (m_4 7 rfl rfl)) (fun _ h9 => h9) rfl (dt_at dt_Ref_add 30 rfl) ?_
      refine lv_sipush (v := 160) hx hb (dt_at dt_Ref_add 31 rfl) (by decide) ?_
      refine lv_iload_n hx hb (dt_at dt_Ref_add 32 rfl) rfl (lv_at hl 2 rfl) ?_
      refine lv_imul hx hb (dt_at dt_Ref_add 33 rfl) ?_
      refine lv_iload hx hb (dt_at dt_Ref_add 34 rfl) (lv_at hl 6 rfl) ?_
      refine lv_iadd hx hb (dt_at dt_Ref_add 35 rfl) ?_
      refine lv_iload hx hb (dt_at dt_Ref_add 36 rfl) (lv_at hl 0 rfl) ?_
      refine lv_ldc (v := 65535) hx hb hown (hts (Cond.constant "OutwardTapeModel" 39 (65535)) (m_4 163 rfl rfl)) (dt_at dt_Ref_add 37 rfl) ?_
      refine lv_iand hx hb (dt_at dt_Ref_add 38 rfl) ?_
      obtain ⟨z5, h⟩ := og_of h
      obtain ⟨t6, e_t6, h⟩ := ol_of h
      refine va_iast hx hb hK hP hD hS 6 5 rfl rfl z5 (dt_at dt_Ref_add 39 rfl) (fun H locs hP hD hS => ?_)
      have hP : va_P D CLS (wR a q g0 g1 g2 g3 g4 g5 g6 g7 t6 g9 g10 g11 g12 g13 g14 g15 g16 g17 g18 g19) H := by rw [e_t6]; exact hP
      have hD : va_D A (wR a q g0 g1 g2 g3 g4 g5 g6 g7 t6 g9 g10 g11 g12 g13 g14 g15 g16 g17 g18 g19) := dD hD rfl
      refine lv_iload hx hb (dt_at dt_Ref_add 40 rfl) (lv_at hl 0 rfl) ?_
      refine lv_bipush (v := 16) hx hb (dt_at dt_Ref_add 41 rfl) (by decide) ?_
      refine lv_ishr hx hb (dt_at dt_Ref_add 42 rfl) ?_
      obtain ⟨t7, e_t7, h⟩ := ol_of h
      refine lv_topi (fun u_t7 q_t7 => ?_)
      obtain rfl : t7 = u_t7 := e_t7.trans q_t7.symm
      refine lv_istore (lv' := [(4, .int t7), (6, .int t4), (0, .ref (a 0)), (1, .int v1), (2, .int v2), (3, .int v3), (5, .int v5)]) hx hb (dt_at dt_Ref_add 43 rfl) hl (by decide) rfl (fun ls hl => ?_)
      obtain ⟨t8, e_t8, h⟩ := ol_of h
      refine lv_iinc (v := t8) (lv' := [(5, .int t8), (4, .int t7), (6, .int t4), (0, .ref (a 0)), (1, .int v1), (2, .int v2), (3, .int v3)]) hx hb (dt_at dt_Ref_add 44 rfl) hl (k := 6) rfl (by rw [e_t8]; rfl) (by decide) rfl (fun ls hl => ?_)
      refine lv_goto (tgt := 6) hx hb (dt_at dt_Ref_add 45 rfl) (by decide) ?_
      exact ih v1 v2 v3 t7 t8 t6 H locs ls hP hD hS (lv_sub hl [3, 4, 5, 6, 1, 0] rfl) h
set_option maxRecDepth 100000 in
set_option maxHeartbeats 4000000 in
theorem k_Ref_add_0 {p : Program} {l : Launch} {e : Env} {s : State} {m : MethodId} {args : Array Value} {below : List Frame} {meth : Method} {c : Code} {D : va_G} {a : Nat → Nat} {q : Nat → ClassId} {A : Nat → Prop} (hC : CX p s m args meth c prog_12_method_9_code 7 "OutwardTapeModel" none) (hA : ∀ x, s.heap.size ≤ x → A x) (hK : va_K D CLS (tR q) s) {g0 : Int32} {g1 : Nat → Int32} {g2 : Nat → Int64} {g3 : Nat → Int64} {g4 : Nat → Int32} {g5 : Int32} {g6 : Nat → Int32} {g7 : Int32} {g9 : Int32} {g10 : Int64} {g11 : Int64} {g12 : Int32} {g13 : Int32} {g14 : Int32} {g15 : Int64} {g16 : Int32} {g17 : Int32} {g18 : Int64} {g19 : Int32} {r0 : (Nat → Int32)} : ∀ (v1 : Int32) (v2 : Int32) (v3 : Int32) (g8 : Nat → Int32) (H : Heap) (locs : List Loc) (ls : Array Slot), va_P D CLS (wR a q g0 g1 g2 g3 g4 g5 g6 g7 g8 g9 g10 g11 g12 g13 g14 g15 g16 g17 g18 g19) H → va_D A (wR a q g0 g1 g2 g3 g4 g5 g6 g7 g8 g9 g10 g11 g12 g13 g14 g15 g16 g17 g18 g19) → va_S A s.heap H locs → lv_has ls 7 [(0, .ref (a 0)), (1, .int v1), (2, .int v2), (3, .int v3)] → f_Ref_add_0  v1 v2 v3 g8 = some r0 → W p l e rm_Ref_add s m args below meth c H locs 0 0 (MQ below (va_Qv (fun _ : Unit => True) (fun _ t => va_P D CLS (wR a q g0 g1 g2 g3 g4 g5 g6 g7 r0 g9 g10 g11 g12 g13 g14 g15 g16 g17 g18 g19) t.heap) A) args s 0 0 A) (F0 m 0 ls []) := by
  obtain ⟨hx, hb, hml, hown, hts, hr, hlocks⟩ := id hC
  intro v1 v2 v3 g8 H locs ls hP hD hS hl h
  rw [f_Ref_add_0] at h
  refine lv_iconst (v := 0) hx hb (dt_at dt_Ref_add 0 rfl) (by decide) ?_
  refine lv_istore (lv' := [(4, .int (0 : Int32)), (0, .ref (a 0)), (1, .int v1), (2, .int v2), (3, .int v3)]) hx hb (dt_at dt_Ref_add 1 rfl) hl (by decide) rfl (fun ls hl => ?_)
  refine lv_iconst (v := 0) hx hb (dt_at dt_Ref_add 2 rfl) (by decide) ?_
  refine lv_istore (lv' := [(5, .int (0 : Int32)), (4, .int (0 : Int32)), (0, .ref (a 0)), (1, .int v1), (2, .int v2), (3, .int v3)]) hx hb (dt_at dt_Ref_add 3 rfl) hl (by decide) rfl (fun ls hl => ?_)
  exact k_Ref_add_6 hC hA hK  5000 v1 v2 v3 (0 : Int32) (0 : Int32) g8 H locs ls hP hD hS (lv_sub hl [2, 3, 4, 5, 1, 0] rfl) h
set_option maxRecDepth 100000 in
set_option maxHeartbeats 4000000 in
theorem c_Ref_add (l : Launch) (D : va_G) (a : Nat → Nat) (q : Nat → ClassId) (hd : va_D (fun _ => True) (dR a)) (sz : Nat) (a1 : Int32) (a2 : Int32) (a3 : Int32) (g0 : Int32) (g1 : Nat → Int32) (g2 : Nat → Int64) (g3 : Nat → Int64) (g4 : Nat → Int32) (g5 : Int32) (g6 : Nat → Int32) (g7 : Int32) (g8 : Nat → Int32) (g9 : Int32) (g10 : Int64) (g11 : Int64) (g12 : Int32) (g13 : Int32) (g14 : Int32) (g15 : Int64) (g16 : Int32) (g17 : Int32) (g18 : Int64) (g19 : Int32) (r0 : (Nat → Int32)) (h : f_Ref_add a1 a2 a3 g8 = some r0) : Met l (⟨"OutwardTapeModel", "add", "(III)V"⟩ : MethodName) (WSm (⟨"OutwardTapeModel", "add", "(III)V"⟩ : MethodName) prog_12_method_9_code 7 none) rm_Ref_add (va_Pc [.ref (a 0), .int a1, .int a2, .int a3] (fun U => U.heap.size = sz ∧ va_P D CLS (wR a q g0 g1 g2 g3 g4 g5 g6 g7 g8 g9 g10 g11 g12 g13 g14 g15 g16 g17 g18 g19) U.heap ∧ va_K D CLS (tR q) U)) (va_Qv (fun _ : Unit => True) (fun _ t => va_P D CLS (wR a q g0 g1 g2 g3 g4 g5 g6 g7 r0 g9 g10 g11 g12 g13 g14 g15 g16 g17 g18 g19) t.heap) (va_A (dR a) sz)) 0 0 (va_A (dR a) sz) := by
  refine Met.ofW (cc := prog_12_method_9_code) (maxL := 7) (ret := none) (by decide) rfl ?_
  intro p e s m args below meth c s₁ B hml hv
  obtain ⟨rfl, hsz, hP, hK⟩ := hv
  subst hsz
  have hC := CX.of B hml rfl
  have hl := lv_entry [.ref (a 0), .int a1, .int a2, .int a3] (n := 7) (Nat.le_of_ble_eq_true rfl)
  rw [lg_entry_eq]
  generalize (lg_sl [.ref (a 0), .int a1, .int a2, .int a3] ++ List.replicate (7 - (lg_sl [.ref (a 0), .int a1, .int a2, .int a3]).length) Slot.unset).toArray = ls at hl ⊢
  have hl : lv_has ls 7 [(0, .ref (a 0)), (1, .int a1), (2, .int a2), (3, .int a3)] := hl
  exact k_Ref_add_0 hC (fun x h => Or.inr h) hK a1 a2 a3 g8 s.heap [] ls hP (dD hd.self rfl) va_S.rf (lv_sub hl [0, 1, 2, 3] rfl) h
abbrev rm_Ref_timesSmall : Room := { frames := 0, cells := 0, slots := 0, locals := 0 }
set_option maxRecDepth 100000 in
set_option maxHeartbeats 4000000 in
theorem k_Ref_timesSmall_5 {p : Program} {l : Launch} {e : Env} {s : State} {m : MethodId} {args : Array Value} {below : List Frame} {meth : Method} {c : Code} {D : va_G} {a : Nat → Nat} {q : Nat → ClassId} {A : Nat → Prop} (hC : CX p s m args meth c prog_12_method_10_code 7 "OutwardTapeModel" none) (hA : ∀ x, s.heap.size ≤ x → A x) (hK : va_K D CLS (tR q) s) {g0 : Int32} {g1 : Nat → Int32} {g2 : Nat → Int64} {g3 : Nat → Int64} {g4 : Nat → Int32} {g5 : Int32} {g6 : Nat → Int32} {g7 : Int32} {g9 : Int32} {g10 : Int64} {g11 : Int64} {g12 : Int32} {g13 : Int32} {g14 : Int32} {g15 : Int64} {g16 : Int32} {g17 : Int32} {g18 : Int64} {g19 : Int32} {r0 : (Nat → Int32)} : ∀ n : Nat, ∀ (v1 : Int32) (v2 : Int32) (v3 : Int32) (v4 : Int32) (g8 : Nat → Int32) (H : Heap) (locs : List Loc) (ls : Array Slot), va_P D CLS (wR a q g0 g1 g2 g3 g4 g5 g6 g7 g8 g9 g10 g11 g12 g13 g14 g15 g16 g17 g18 g19) H → va_D A (wR a q g0 g1 g2 g3 g4 g5 g6 g7 g8 g9 g10 g11 g12 g13 g14 g15 g16 g17 g18 g19) → va_S A s.heap H locs → lv_has ls 7 [(0, .ref (a 0)), (1, .int v1), (2, .int v2), (3, .int v3), (4, .int v4)] → f_Ref_timesSmall_5  n v1 v2 v3 v4 g8 = some r0 → W p l e rm_Ref_timesSmall s m args below meth c H locs 0 0 (MQ below (va_Qv (fun _ : Unit => True) (fun _ t => va_P D CLS (wR a q g0 g1 g2 g3 g4 g5 g6 g7 r0 g9 g10 g11 g12 g13 g14 g15 g16 g17 g18 g19) t.heap) A) args s 0 0 A) (F0 m 5 ls []) := by
  obtain ⟨hx, hb, hml, hown, hts, hr, hlocks⟩ := id hC
  intro n
  induction n with
  | zero => intro v1 v2 v3 v4 g8 H locs ls hP hD hS hl h; cases h
  | succ n ih =>
    intro v1 v2 v3 v4 g8 H locs ls hP hD hS hl h
    rw [f_Ref_timesSmall_5] at h
    refine lv_iload hx hb (dt_at dt_Ref_timesSmall 4 rfl) (lv_at hl 4 rfl) ?_
    refine lv_sipush (v := 160) hx hb (dt_at dt_Ref_timesSmall 5 rfl) (by decide) ?_
    refine lv_icmp_ge (tgt := 68) hx hb (dt_at dt_Ref_timesSmall 6 rfl) (by decide) (fun c1 => ?_) (fun c1 => ?_)
    · have h := if_p h c1
      obtain rfl := os_of h
      exact W.vret hx hb hr (fun t ht hW => ⟨⟨(), rfl, trivial, (hPt hP ht)⟩, hS.F ht⟩) hS.2.2 (dt_at dt_Ref_timesSmall 42 rfl)
    · have h := if_n h c1
      refine lv_aload_n hx hb (dt_at dt_Ref_timesSmall 7 rfl) rfl (lv_at hl 0 rfl) ?_
      refine va_get (D := D) (ci := 0) (v := .ref (a 6)) (C := "OutwardTapeModel") (T := T_Ref) (N := 20) hx hb hts in_Ref hown hK hP 0 rfl rfl 8 (by decide) (hts (Cond.fieldLink "OutwardTapeModel" 26 "OutwardTapeModel" "limb" "[I") (m_4 7 rfl rfl)) (fun _ h9 => h9) rfl (dt_at dt_Ref_timesSmall 8 rfl) ?_
      refine lv_sipush (v := 160) hx hb (dt_at dt_Ref_timesSmall 9 rfl) (by decide) ?_
      refine lv_iload_n hx hb (dt_at dt_Ref_timesSmall 10 rfl) rfl (lv_at hl 1 rfl) ?_
      refine lv_imul hx hb (dt_at dt_Ref_timesSmall 11 rfl) ?_
      refine lv_iload hx hb (dt_at dt_Ref_timesSmall 12 rfl) (lv_at hl 4 rfl) ?_
      refine lv_iadd hx hb (dt_at dt_Ref_timesSmall 13 rfl) ?_
      obtain ⟨z2, h⟩ := og_of h
      refine va_iald hx hb hK hP 6 5 rfl rfl z2 (dt_at dt_Ref_timesSmall 14 rfl) ?_
      refine lv_i2l (v := (g8 (((160 : Int32) * v1) + v4).toNatClampNeg).toInt64) hx hb (dt_at dt_Ref_timesSmall 15 rfl) rfl ?_
      refine lv_iload_n hx hb (dt_at dt_Ref_timesSmall 16 rfl) rfl (lv_at hl 2 rfl) ?_
      refine lv_i2l (v := v2.toInt64) hx hb (dt_at dt_Ref_timesSmall 17 rfl) rfl ?_
      refine lv_lmul hx hb (dt_at dt_Ref_timesSmall 18 rfl) ?_
      refine lv_iload_n hx hb (dt_at dt_Ref_timesSmall 19 rfl) rfl (lv_at hl 3 rfl) ?_
      refine lv_i2l (v := v3.toInt64) hx hb (dt_at dt_Ref_timesSmall 20 rfl) rfl ?_
      refine lv_ladd hx hb (dt_at dt_Ref_timesSmall 21 rfl) ?_
      obtain ⟨t3, e_t3, h⟩ := ol_of h
      refine lv_topl (fun u_t3 q_t3 => ?_)
      obtain rfl : t3 = u_t3 := e_t3.trans q_t3.symm
      refine lv_lstore (lv' := [(5, .long t3), (0, .ref (a 0)), (1, .int v1), (2, .int v2), (3, .int v3), (4, .int v4)]) hx hb (dt_at dt_Ref_timesSmall 22 rfl) hl (by decide) rfl (fun ls hl => ?_)
      refine lv_aload_n hx hb (dt_at dt_Ref_timesSmall 23 rfl) rfl (lv_at hl 1 rfl) ?_
      refine va_get (D := D) (ci := 0) (v := .ref (a 6)) (C := "OutwardTapeModel") (T := T_Ref) (N := 20) hx hb hts in_Ref hown hK hP 0 rfl rfl 8 (by decide) (hts (Cond.fieldLink "OutwardTapeModel" 26 "OutwardTapeModel" "limb" "[I") (m_4 7 rfl rfl)) (fun _ h9 => h9) rfl (dt_at dt_Ref_timesSmall 24 rfl) ?_
      refine lv_sipush (v := 160) hx hb (dt_at dt_Ref_timesSmall 25 rfl) (by decide) ?_
      refine lv_iload_n hx hb (dt_at dt_Ref_timesSmall 26 rfl) rfl (lv_at hl 2 rfl) ?_
      refine lv_imul hx hb (dt_at dt_Ref_timesSmall 27 rfl) ?_
      refine lv_iload hx hb (dt_at dt_Ref_timesSmall 28 rfl) (lv_at hl 5 rfl) ?_
      refine lv_iadd hx hb (dt_at dt_Ref_timesSmall 29 rfl) ?_
      refine lv_lload hx hb (dt_at dt_Ref_timesSmall 30 rfl) (lv_at hl 0 rfl) ?_
      refine lv_ldc2 (v := 65535) hx hb hown (hts (Cond.constantLong "OutwardTapeModel" 33 (65535)) (m_4 133 rfl rfl)) (dt_at dt_Ref_timesSmall 31 rfl) ?_
      refine lv_land hx hb (dt_at dt_Ref_timesSmall 32 rfl) ?_
      refine lv_l2i (v := (t3 &&& (65535 : Int64)).toInt32) hx hb (dt_at dt_Ref_timesSmall 33 rfl) rfl ?_
      obtain ⟨z4, h⟩ := og_of h
      obtain ⟨t5, e_t5, h⟩ := ol_of h
      refine va_iast hx hb hK hP hD hS 6 5 rfl rfl z4 (dt_at dt_Ref_timesSmall 34 rfl) (fun H locs hP hD hS => ?_)
      have hP : va_P D CLS (wR a q g0 g1 g2 g3 g4 g5 g6 g7 t5 g9 g10 g11 g12 g13 g14 g15 g16 g17 g18 g19) H := by rw [e_t5]; exact hP
      have hD : va_D A (wR a q g0 g1 g2 g3 g4 g5 g6 g7 t5 g9 g10 g11 g12 g13 g14 g15 g16 g17 g18 g19) := dD hD rfl
      refine lv_lload hx hb (dt_at dt_Ref_timesSmall 35 rfl) (lv_at hl 0 rfl) ?_
      refine lv_bipush (v := 16) hx hb (dt_at dt_Ref_timesSmall 36 rfl) (by decide) ?_
      refine lv_lshr (v := (j_lshr t3 (16 : Int32))) hx hb (dt_at dt_Ref_timesSmall 37 rfl) rfl ?_
      refine lv_l2i (v := (j_lshr t3 (16 : Int32)).toInt32) hx hb (dt_at dt_Ref_timesSmall 38 rfl) rfl ?_
      obtain ⟨t6, e_t6, h⟩ := ol_of h
      refine lv_topi (fun u_t6 q_t6 => ?_)
      obtain rfl : t6 = u_t6 := e_t6.trans q_t6.symm
      refine lv_istore_n (lv' := [(3, .int t6), (5, .long t3), (0, .ref (a 0)), (1, .int v1), (2, .int v2), (4, .int v4)]) hx hb (dt_at dt_Ref_timesSmall 39 rfl) rfl hl (by decide) rfl (fun ls hl => ?_)
      obtain ⟨t7, e_t7, h⟩ := ol_of h
      refine lv_iinc (v := t7) (lv' := [(4, .int t7), (3, .int t6), (5, .long t3), (0, .ref (a 0)), (1, .int v1), (2, .int v2)]) hx hb (dt_at dt_Ref_timesSmall 40 rfl) hl (k := 5) rfl (by rw [e_t7]; rfl) (by decide) rfl (fun ls hl => ?_)
      refine lv_goto (tgt := 5) hx hb (dt_at dt_Ref_timesSmall 41 rfl) (by decide) ?_
      exact ih v1 v2 t6 t7 t5 H locs ls hP hD hS (lv_sub hl [3, 4, 5, 1, 0] rfl) h
set_option maxRecDepth 100000 in
set_option maxHeartbeats 4000000 in
theorem k_Ref_timesSmall_0 {p : Program} {l : Launch} {e : Env} {s : State} {m : MethodId} {args : Array Value} {below : List Frame} {meth : Method} {c : Code} {D : va_G} {a : Nat → Nat} {q : Nat → ClassId} {A : Nat → Prop} (hC : CX p s m args meth c prog_12_method_10_code 7 "OutwardTapeModel" none) (hA : ∀ x, s.heap.size ≤ x → A x) (hK : va_K D CLS (tR q) s) {g0 : Int32} {g1 : Nat → Int32} {g2 : Nat → Int64} {g3 : Nat → Int64} {g4 : Nat → Int32} {g5 : Int32} {g6 : Nat → Int32} {g7 : Int32} {g9 : Int32} {g10 : Int64} {g11 : Int64} {g12 : Int32} {g13 : Int32} {g14 : Int32} {g15 : Int64} {g16 : Int32} {g17 : Int32} {g18 : Int64} {g19 : Int32} {r0 : (Nat → Int32)} : ∀ (v1 : Int32) (v2 : Int32) (g8 : Nat → Int32) (H : Heap) (locs : List Loc) (ls : Array Slot), va_P D CLS (wR a q g0 g1 g2 g3 g4 g5 g6 g7 g8 g9 g10 g11 g12 g13 g14 g15 g16 g17 g18 g19) H → va_D A (wR a q g0 g1 g2 g3 g4 g5 g6 g7 g8 g9 g10 g11 g12 g13 g14 g15 g16 g17 g18 g19) → va_S A s.heap H locs → lv_has ls 7 [(0, .ref (a 0)), (1, .int v1), (2, .int v2)] → f_Ref_timesSmall_0  v1 v2 g8 = some r0 → W p l e rm_Ref_timesSmall s m args below meth c H locs 0 0 (MQ below (va_Qv (fun _ : Unit => True) (fun _ t => va_P D CLS (wR a q g0 g1 g2 g3 g4 g5 g6 g7 r0 g9 g10 g11 g12 g13 g14 g15 g16 g17 g18 g19) t.heap) A) args s 0 0 A) (F0 m 0 ls []) := by
  obtain ⟨hx, hb, hml, hown, hts, hr, hlocks⟩ := id hC
  intro v1 v2 g8 H locs ls hP hD hS hl h
  rw [f_Ref_timesSmall_0] at h
  refine lv_iconst (v := 0) hx hb (dt_at dt_Ref_timesSmall 0 rfl) (by decide) ?_
  refine lv_istore_n (lv' := [(3, .int (0 : Int32)), (0, .ref (a 0)), (1, .int v1), (2, .int v2)]) hx hb (dt_at dt_Ref_timesSmall 1 rfl) rfl hl (by decide) rfl (fun ls hl => ?_)
  refine lv_iconst (v := 0) hx hb (dt_at dt_Ref_timesSmall 2 rfl) (by decide) ?_
  refine lv_istore (lv' := [(4, .int (0 : Int32)), (3, .int (0 : Int32)), (0, .ref (a 0)), (1, .int v1), (2, .int v2)]) hx hb (dt_at dt_Ref_timesSmall 3 rfl) hl (by decide) rfl (fun ls hl => ?_)
  exact k_Ref_timesSmall_5 hC hA hK  5000 v1 v2 (0 : Int32) (0 : Int32) g8 H locs ls hP hD hS (lv_sub hl [2, 3, 4, 1, 0] rfl) h
set_option maxRecDepth 100000 in
set_option maxHeartbeats 4000000 in
theorem c_Ref_timesSmall (l : Launch) (D : va_G) (a : Nat → Nat) (q : Nat → ClassId) (hd : va_D (fun _ => True) (dR a)) (sz : Nat) (a1 : Int32) (a2 : Int32) (g0 : Int32) (g1 : Nat → Int32) (g2 : Nat → Int64) (g3 : Nat → Int64) (g4 : Nat → Int32) (g5 : Int32) (g6 : Nat → Int32) (g7 : Int32) (g8 : Nat → Int32) (g9 : Int32) (g10 : Int64) (g11 : Int64) (g12 : Int32) (g13 : Int32) (g14 : Int32) (g15 : Int64) (g16 : Int32) (g17 : Int32) (g18 : Int64) (g19 : Int32) (r0 : (Nat → Int32)) (h : f_Ref_timesSmall a1 a2 g8 = some r0) : Met l (⟨"OutwardTapeModel", "timesSmall", "(II)V"⟩ : MethodName) (WSm (⟨"OutwardTapeModel", "timesSmall", "(II)V"⟩ : MethodName) prog_12_method_10_code 7 none) rm_Ref_timesSmall (va_Pc [.ref (a 0), .int a1, .int a2] (fun U => U.heap.size = sz ∧ va_P D CLS (wR a q g0 g1 g2 g3 g4 g5 g6 g7 g8 g9 g10 g11 g12 g13 g14 g15 g16 g17 g18 g19) U.heap ∧ va_K D CLS (tR q) U)) (va_Qv (fun _ : Unit => True) (fun _ t => va_P D CLS (wR a q g0 g1 g2 g3 g4 g5 g6 g7 r0 g9 g10 g11 g12 g13 g14 g15 g16 g17 g18 g19) t.heap) (va_A (dR a) sz)) 0 0 (va_A (dR a) sz) := by
  refine Met.ofW (cc := prog_12_method_10_code) (maxL := 7) (ret := none) (by decide) rfl ?_
  intro p e s m args below meth c s₁ B hml hv
  obtain ⟨rfl, hsz, hP, hK⟩ := hv
  subst hsz
  have hC := CX.of B hml rfl
  have hl := lv_entry [.ref (a 0), .int a1, .int a2] (n := 7) (Nat.le_of_ble_eq_true rfl)
  rw [lg_entry_eq]
  generalize (lg_sl [.ref (a 0), .int a1, .int a2] ++ List.replicate (7 - (lg_sl [.ref (a 0), .int a1, .int a2]).length) Slot.unset).toArray = ls at hl ⊢
  have hl : lv_has ls 7 [(0, .ref (a 0)), (1, .int a1), (2, .int a2)] := hl
  exact k_Ref_timesSmall_0 hC (fun x h => Or.inr h) hK a1 a2 g8 s.heap [] ls hP (dD hd.self rfl) va_S.rf (lv_sub hl [0, 1, 2] rfl) h
abbrev rm_Ref_times : Room := { frames := 2, cells := 0, slots := 0, locals := 45 }
set_option maxRecDepth 100000 in
set_option maxHeartbeats 4000000 in
theorem k_Ref_times_48 {p : Program} {l : Launch} {e : Env} {s : State} {m : MethodId} {args : Array Value} {below : List Frame} {meth : Method} {c : Code} {D : va_G} {a : Nat → Nat} {q : Nat → ClassId} {A : Nat → Prop} (hC : CX p s m args meth c prog_12_method_11_code 12 "OutwardTapeModel" none) (hA : ∀ x, s.heap.size ≤ x → A x) (hK : va_K D CLS (tR q) s) {g0 : Int32} {g1 : Nat → Int32} {g2 : Nat → Int64} {g3 : Nat → Int64} {g4 : Nat → Int32} {g5 : Int32} {g6 : Nat → Int32} {g7 : Int32} {g9 : Int32} {g10 : Int64} {g11 : Int64} {g12 : Int32} {g13 : Int32} {g14 : Int32} {g15 : Int64} {g16 : Int32} {g17 : Int32} {g18 : Int64} {g19 : Int32} {r0 : (Nat → Int32)} (k35 : Int32 → Int32 → Int32 → Int32 → Int32 → Int32 → (Nat → Int32) → Option ((Nat → Int32))) (hk35 : ∀ (v1 : Int32) (v2 : Int32) (v3 : Int32) (v4 : Int32) (v5 : Int32) (v6 : Int32) (g8 : Nat → Int32) (H : Heap) (locs : List Loc) (ls : Array Slot), va_P D CLS (wR a q g0 g1 g2 g3 g4 g5 g6 g7 g8 g9 g10 g11 g12 g13 g14 g15 g16 g17 g18 g19) H → va_D A (wR a q g0 g1 g2 g3 g4 g5 g6 g7 g8 g9 g10 g11 g12 g13 g14 g15 g16 g17 g18 g19) → va_S A s.heap H locs → lv_has ls 12 [(0, .ref (a 0)), (1, .int v1), (2, .int v2), (3, .int v3), (4, .int v4), (5, .int v5), (6, .int v6)] → k35 v1 v2 v3 v4 v5 v6 g8 = some r0 → W p l e rm_Ref_times s m args below meth c H locs 0 0 (MQ below (va_Qv (fun _ : Unit => True) (fun _ t => va_P D CLS (wR a q g0 g1 g2 g3 g4 g5 g6 g7 r0 g9 g10 g11 g12 g13 g14 g15 g16 g17 g18 g19) t.heap) A) args s 0 0 A) (F0 m 35 ls [])) : ∀ n : Nat, ∀ (v1 : Int32) (v2 : Int32) (v3 : Int32) (v4 : Int32) (v5 : Int32) (v6 : Int32) (v7 : Int64) (v9 : Int32) (g8 : Nat → Int32) (H : Heap) (locs : List Loc) (ls : Array Slot), va_P D CLS (wR a q g0 g1 g2 g3 g4 g5 g6 g7 g8 g9 g10 g11 g12 g13 g14 g15 g16 g17 g18 g19) H → va_D A (wR a q g0 g1 g2 g3 g4 g5 g6 g7 g8 g9 g10 g11 g12 g13 g14 g15 g16 g17 g18 g19) → va_S A s.heap H locs → lv_has ls 12 [(0, .ref (a 0)), (1, .int v1), (2, .int v2), (3, .int v3), (4, .int v4), (5, .int v5), (6, .int v6), (7, .long v7), (9, .int v9)] → f_Ref_times_48 k35 n v1 v2 v3 v4 v5 v6 v7 v9 g8 = some r0 → W p l e rm_Ref_times s m args below meth c H locs 0 0 (MQ below (va_Qv (fun _ : Unit => True) (fun _ t => va_P D CLS (wR a q g0 g1 g2 g3 g4 g5 g6 g7 r0 g9 g10 g11 g12 g13 g14 g15 g16 g17 g18 g19) t.heap) A) args s 0 0 A) (F0 m 48 ls []) := by
  obtain ⟨hx, hb, hml, hown, hts, hr, hlocks⟩ := id hC
  intro n
  induction n with
  | zero => intro v1 v2 v3 v4 v5 v6 v7 v9 g8 H locs ls hP hD hS hl h; cases h
  | succ n ih =>
    intro v1 v2 v3 v4 v5 v6 v7 v9 g8 H locs ls hP hD hS hl h
    rw [f_Ref_times_48] at h
    refine lv_iload hx hb (dt_at dt_Ref_times 29 rfl) (lv_at hl 8 rfl) ?_
    refine lv_iload hx hb (dt_at dt_Ref_times 30 rfl) (lv_at hl 5 rfl) ?_
    refine lv_icmp_gt (tgt := 143) hx hb (dt_at dt_Ref_times 31 rfl) (by decide) (fun c1 => ?_) (fun c1 => ?_)
    · have h := if_p h c1
      obtain ⟨t2, e_t2, h⟩ := ol_of h
      refine lv_iinc (v := t2) (lv' := [(6, .int t2), (0, .ref (a 0)), (1, .int v1), (2, .int v2), (3, .int v3), (4, .int v4), (5, .int v5), (7, .long v7), (9, .int v9)]) hx hb (dt_at dt_Ref_times 86 rfl) hl (k := 6) rfl (by rw [e_t2]; rfl) (by decide) rfl (fun ls hl => ?_)
      refine lv_goto (tgt := 35) hx hb (dt_at dt_Ref_times 87 rfl) (by decide) ?_
      exact hk35 v1 v2 v3 v4 v5 t2 g8 H locs ls hP hD hS (lv_sub hl [1, 2, 3, 4, 5, 6, 0] rfl) h
    · have h := if_n h c1
      refine lv_aload_n hx hb (dt_at dt_Ref_times 32 rfl) rfl (lv_at hl 0 rfl) ?_
      refine va_get (D := D) (ci := 0) (v := .ref (a 6)) (C := "OutwardTapeModel") (T := T_Ref) (N := 20) hx hb hts in_Ref hown hK hP 0 rfl rfl 8 (by decide) (hts (Cond.fieldLink "OutwardTapeModel" 26 "OutwardTapeModel" "limb" "[I") (m_4 7 rfl rfl)) (fun _ h9 => h9) rfl (dt_at dt_Ref_times 33 rfl) ?_
      refine lv_sipush (v := 160) hx hb (dt_at dt_Ref_times 34 rfl) (by decide) ?_
      refine lv_iload_n hx hb (dt_at dt_Ref_times 35 rfl) rfl (lv_at hl 1 rfl) ?_
      refine lv_imul hx hb (dt_at dt_Ref_times 36 rfl) ?_
      refine lv_iload hx hb (dt_at dt_Ref_times 37 rfl) (lv_at hl 6 rfl) ?_
      refine lv_iadd hx hb (dt_at dt_Ref_times 38 rfl) ?_
      refine lv_iload hx hb (dt_at dt_Ref_times 39 rfl) (lv_at hl 8 rfl) ?_
      refine lv_iadd hx hb (dt_at dt_Ref_times 40 rfl) ?_
      obtain ⟨z3, h⟩ := og_of h
      refine va_iald hx hb hK hP 6 5 rfl rfl z3 (dt_at dt_Ref_times 41 rfl) ?_
      refine lv_i2l (v := (g8 ((((160 : Int32) * v1) + v6) + v9).toNatClampNeg).toInt64) hx hb (dt_at dt_Ref_times 42 rfl) rfl ?_
      refine lv_aload_n hx hb (dt_at dt_Ref_times 43 rfl) rfl (lv_at hl 0 rfl) ?_
      refine va_get (D := D) (ci := 0) (v := .ref (a 6)) (C := "OutwardTapeModel") (T := T_Ref) (N := 20) hx hb hts in_Ref hown hK hP 0 rfl rfl 8 (by decide) (hts (Cond.fieldLink "OutwardTapeModel" 26 "OutwardTapeModel" "limb" "[I") (m_4 7 rfl rfl)) (fun _ h9 => h9) rfl (dt_at dt_Ref_times 44 rfl) ?_
      refine lv_sipush (v := 160) hx hb (dt_at dt_Ref_times 45 rfl) (by decide) ?_
      refine lv_iload_n hx hb (dt_at dt_Ref_times 46 rfl) rfl (lv_at hl 2 rfl) ?_
      refine lv_imul hx hb (dt_at dt_Ref_times 47 rfl) ?_
      refine lv_iload hx hb (dt_at dt_Ref_times 48 rfl) (lv_at hl 6 rfl) ?_
      refine lv_iadd hx hb (dt_at dt_Ref_times 49 rfl) ?_
      obtain ⟨z4, h⟩ := og_of h
      refine va_iald hx hb hK hP 6 5 rfl rfl z4 (dt_at dt_Ref_times 50 rfl) ?_
      refine lv_i2l (v := (g8 (((160 : Int32) * v2) + v6).toNatClampNeg).toInt64) hx hb (dt_at dt_Ref_times 51 rfl) rfl ?_
      refine lv_aload_n hx hb (dt_at dt_Ref_times 52 rfl) rfl (lv_at hl 0 rfl) ?_
      refine va_get (D := D) (ci := 0) (v := .ref (a 6)) (C := "OutwardTapeModel") (T := T_Ref) (N := 20) hx hb hts in_Ref hown hK hP 0 rfl rfl 8 (by decide) (hts (Cond.fieldLink "OutwardTapeModel" 26 "OutwardTapeModel" "limb" "[I") (m_4 7 rfl rfl)) (fun _ h9 => h9) rfl (dt_at dt_Ref_times 53 rfl) ?_
      refine lv_sipush (v := 160) hx hb (dt_at dt_Ref_times 54 rfl) (by decide) ?_
      refine lv_iload_n hx hb (dt_at dt_Ref_times 55 rfl) rfl (lv_at hl 3 rfl) ?_
      refine lv_imul hx hb (dt_at dt_Ref_times 56 rfl) ?_
      refine lv_iload hx hb (dt_at dt_Ref_times 57 rfl) (lv_at hl 8 rfl) ?_
      refine lv_iadd hx hb (dt_at dt_Ref_times 58 rfl) ?_
      obtain ⟨z5, h⟩ := og_of h
      refine va_iald hx hb hK hP 6 5 rfl rfl z5 (dt_at dt_Ref_times 59 rfl) ?_
      refine lv_i2l (v := (g8 (((160 : Int32) * v3) + v9).toNatClampNeg).toInt64) hx hb (dt_at dt_Ref_times 60 rfl) rfl ?_
      refine lv_lmul hx hb (dt_at dt_Ref_times 61 rfl) ?_
      refine lv_ladd hx hb (dt_at dt_Ref_times 62 rfl) ?_
      refine lv_lload hx hb (dt_at dt_Ref_times 63 rfl) (lv_at hl 7 rfl) ?_
      refine lv_ladd hx hb (dt_at dt_Ref_times 64 rfl) ?_
      obtain ⟨t6, e_t6, h⟩ := ol_of h
      refine lv_topl (fun u_t6 q_t6 => ?_)
      obtain rfl : t6 = u_t6 := e_t6.trans q_t6.symm
      refine lv_lstore (lv' := [(10, .long t6), (0, .ref (a 0)), (1, .int v1), (2, .int v2), (3, .int v3), (4, .int v4), (5, .int v5), (6, .int v6), (7, .long v7), (9, .int v9)]) hx hb (dt_at dt_Ref_times 65 rfl) hl (by decide) rfl (fun ls hl => ?_)
      refine lv_aload_n hx hb (dt_at dt_Ref_times 66 rfl) rfl (lv_at hl 1 rfl) ?_
      refine va_get (D := D) (ci := 0) (v := .ref (a 6)) (C := "OutwardTapeModel") (T := T_Ref) (N := 20) hx hb hts in_Ref hown hK hP 0 rfl rfl 8 (by decide) (hts (Cond.fieldLink "OutwardTapeModel" 26 "OutwardTapeModel" "limb" "[I") (m_4 7 rfl rfl)) (fun _ h9 => h9) rfl (dt_at dt_Ref_times 67 rfl) ?_
      refine lv_sipush (v := 160) hx hb (dt_at dt_Ref_times 68 rfl) (by decide) ?_
      refine lv_iload_n hx hb (dt_at dt_Ref_times 69 rfl) rfl (lv_at hl 2 rfl) ?_
      refine lv_imul hx hb (dt_at dt_Ref_times 70 rfl) ?_
      refine lv_iload hx hb (dt_at dt_Ref_times 71 rfl) (lv_at hl 7 rfl) ?_
      refine lv_iadd hx hb (dt_at dt_Ref_times 72 rfl) ?_
      refine lv_iload hx hb (dt_at dt_Ref_times 73 rfl) (lv_at hl 9 rfl) ?_
      refine lv_iadd hx hb (dt_at dt_Ref_times 74 rfl) ?_
      refine lv_lload hx hb (dt_at dt_Ref_times 75 rfl) (lv_at hl 0 rfl) ?_
      refine lv_ldc2 (v := 65535) hx hb hown (hts (Cond.constantLong "OutwardTapeModel" 33 (65535)) (m_4 133 rfl rfl)) (dt_at dt_Ref_times 76 rfl) ?_
      refine lv_land hx hb (dt_at dt_Ref_times 77 rfl) ?_
      refine lv_l2i (v := (t6 &&& (65535 : Int64)).toInt32) hx hb (dt_at dt_Ref_times 78 rfl) rfl ?_
      obtain ⟨z7, h⟩ := og_of h
      obtain ⟨t8, e_t8, h⟩ := ol_of h
      refine va_iast hx hb hK hP hD hS 6 5 rfl rfl z7 (dt_at dt_Ref_times 79 rfl) (fun H locs hP hD hS => ?_)
      have hP : va_P D CLS (wR a q g0 g1 g2 g3 g4 g5 g6 g7 t8 g9 g10 g11 g12 g13 g14 g15 g16 g17 g18 g19) H := by rw [e_t8]; exact hP
      have hD : va_D A (wR a q g0 g1 g2 g3 g4 g5 g6 g7 t8 g9 g10 g11 g12 g13 g14 g15 g16 g17 g18 g19) := dD hD rfl
      refine lv_lload hx hb (dt_at dt_Ref_times 80 rfl) (lv_at hl 0 rfl) ?_
      refine lv_bipush (v := 16) hx hb (dt_at dt_Ref_times 81 rfl) (by decide) ?_
      refine lv_lshr (v := (j_lshr t6 (16 : Int32))) hx hb (dt_at dt_Ref_times 82 rfl) rfl ?_
      obtain ⟨t9, e_t9, h⟩ := ol_of h
      refine lv_topl (fun u_t9 q_t9 => ?_)
      obtain rfl : t9 = u_t9 := e_t9.trans q_t9.symm
      refine lv_lstore (lv' := [(7, .long t9), (10, .long t6), (0, .ref (a 0)), (1, .int v1), (2, .int v2), (3, .int v3), (4, .int v4), (5, .int v5), (6, .int v6), (9, .int v9)]) hx hb (dt_at dt_Ref_times 83 rfl) hl (by decide) rfl (fun ls hl => ?_)
      obtain ⟨t10, e_t10, h⟩ := ol_of h
      refine lv_iinc (v := t10) (lv' := [(9, .int t10), (7, .long t9), (10, .long t6), (0, .ref (a 0)), (1, .int v1), (2, .int v2), (3, .int v3), (4, .int v4), (5, .int v5), (6, .int v6)]) hx hb (dt_at dt_Ref_times 84 rfl) hl (k := 9) rfl (by rw [e_t10]; rfl) (by decide) rfl (fun ls hl => ?_)
      refine lv_goto (tgt := 48) hx hb (dt_at dt_Ref_times 85 rfl) (by decide) ?_
      exact ih v1 v2 v3 v4 v5 v6 t9 t10 t8 H locs ls hP hD hS (lv_sub hl [3, 4, 5, 6, 7, 8, 9, 1, 0] rfl) h
set_option maxRecDepth 100000 in
set_option maxHeartbeats 4000000 in
theorem k_Ref_times_35 {p : Program} {l : Launch} {e : Env} {s : State} {m : MethodId} {args : Array Value} {below : List Frame} {meth : Method} {c : Code} {D : va_G} {a : Nat → Nat} {q : Nat → ClassId} {A : Nat → Prop} (hC : CX p s m args meth c prog_12_method_11_code 12 "OutwardTapeModel" none) (hA : ∀ x, s.heap.size ≤ x → A x) (hK : va_K D CLS (tR q) s) {g0 : Int32} {g1 : Nat → Int32} {g2 : Nat → Int64} {g3 : Nat → Int64} {g4 : Nat → Int32} {g5 : Int32} {g6 : Nat → Int32} {g7 : Int32} {g9 : Int32} {g10 : Int64} {g11 : Int64} {g12 : Int32} {g13 : Int32} {g14 : Int32} {g15 : Int64} {g16 : Int32} {g17 : Int32} {g18 : Int64} {g19 : Int32} {r0 : (Nat → Int32)} : ∀ n : Nat, ∀ (v1 : Int32) (v2 : Int32) (v3 : Int32) (v4 : Int32) (v5 : Int32) (v6 : Int32) (g8 : Nat → Int32) (H : Heap) (locs : List Loc) (ls : Array Slot), va_P D CLS (wR a q g0 g1 g2 g3 g4 g5 g6 g7 g8 g9 g10 g11 g12 g13 g14 g15 g16 g17 g18 g19) H → va_D A (wR a q g0 g1 g2 g3 g4 g5 g6 g7 g8 g9 g10 g11 g12 g13 g14 g15 g16 g17 g18 g19) → va_S A s.heap H locs → lv_has ls 12 [(0, .ref (a 0)), (1, .int v1), (2, .int v2), (3, .int v3), (4, .int v4), (5, .int v5), (6, .int v6)] → f_Ref_times_35  n v1 v2 v3 v4 v5 v6 g8 = some r0 → W p l e rm_Ref_times s m args below meth c H locs 0 0 (MQ below (va_Qv (fun _ : Unit => True) (fun _ t => va_P D CLS (wR a q g0 g1 g2 g3 g4 g5 g6 g7 r0 g9 g10 g11 g12 g13 g14 g15 g16 g17 g18 g19) t.heap) A) args s 0 0 A) (F0 m 35 ls []) := by
  obtain ⟨hx, hb, hml, hown, hts, hr, hlocks⟩ := id hC
  intro n
  induction n with
  | zero => intro v1 v2 v3 v4 v5 v6 g8 H locs ls hP hD hS hl h; cases h
  | succ n ih =>
    intro v1 v2 v3 v4 v5 v6 g8 H locs ls hP hD hS hl h
    rw [f_Ref_times_35] at h
    refine lv_iload hx hb (dt_at dt_Ref_times 22 rfl) (lv_at hl 6 rfl) ?_
    refine lv_iload hx hb (dt_at dt_Ref_times 23 rfl) (lv_at hl 4 rfl) ?_
    refine lv_icmp_ge (tgt := 149) hx hb (dt_at dt_Ref_times 24 rfl) (by decide) (fun c1 => ?_) (fun c1 => ?_)
    · have h := if_p h c1
      obtain rfl := os_of h
      exact W.vret hx hb hr (fun t ht hW => ⟨⟨(), rfl, trivial, (hPt hP ht)⟩, hS.F ht⟩) hS.2.2 (dt_at dt_Ref_times 88 rfl)
    · have h := if_n h c1
      refine lv_lconst (v := 0) hx hb (dt_at dt_Ref_times 25 rfl) (by decide) ?_
      refine lv_lstore (lv' := [(7, .long (0 : Int64)), (0, .ref (a 0)), (1, .int v1), (2, .int v2), (3, .int v3), (4, .int v4), (5, .int v5), (6, .int v6)]) hx hb (dt_at dt_Ref_times 26 rfl) hl (by decide) rfl (fun ls hl => ?_)
      refine lv_iconst (v := 0) hx hb (dt_at dt_Ref_times 27 rfl) (by decide) ?_
      refine lv_istore (lv' := [(9, .int (0 : Int32)), (7, .long (0 : Int64)), (0, .ref (a 0)), (1, .int v1), (2, .int v2), (3, .int v3), (4, .int v4), (5, .int v5), (6, .int v6)]) hx hb (dt_at dt_Ref_times 28 rfl) hl (by decide) rfl (fun ls hl => ?_)
      exact k_Ref_times_48 hC hA hK (f_Ref_times_35  n) ih 5000 v1 v2 v3 v4 v5 v6 (0 : Int64) (0 : Int32) g8 H locs ls hP hD hS (lv_sub hl [2, 3, 4, 5, 6, 7, 8, 1, 0] rfl) h
set_option maxRecDepth 100000 in
set_option maxHeartbeats 4000000 in
theorem k_Ref_times_0 {p : Program} {l : Launch} {e : Env} {s : State} {m : MethodId} {args : Array Value} {below : List Frame} {meth : Method} {c : Code} {D : va_G} {a : Nat → Nat} {q : Nat → ClassId} {A : Nat → Prop} (hC : CX p s m args meth c prog_12_method_11_code 12 "OutwardTapeModel" none) (hA : ∀ x, s.heap.size ≤ x → A x) (hK : va_K D CLS (tR q) s) {g0 : Int32} {g1 : Nat → Int32} {g2 : Nat → Int64} {g3 : Nat → Int64} {g4 : Nat → Int32} {g5 : Int32} {g6 : Nat → Int32} {g7 : Int32} {g9 : Int32} {g10 : Int64} {g11 : Int64} {g12 : Int32} {g13 : Int32} {g14 : Int32} {g15 : Int64} {g16 : Int32} {g17 : Int32} {g18 : Int64} {g19 : Int32} {r0 : (Nat → Int32)} : ∀ (v1 : Int32) (v2 : Int32) (v3 : Int32) (g8 : Nat → Int32) (H : Heap) (locs : List Loc) (ls : Array Slot), va_P D CLS (wR a q g0 g1 g2 g3 g4 g5 g6 g7 g8 g9 g10 g11 g12 g13 g14 g15 g16 g17 g18 g19) H → va_D A (wR a q g0 g1 g2 g3 g4 g5 g6 g7 g8 g9 g10 g11 g12 g13 g14 g15 g16 g17 g18 g19) → va_S A s.heap H locs → lv_has ls 12 [(0, .ref (a 0)), (1, .int v1), (2, .int v2), (3, .int v3)] → f_Ref_times_0  v1 v2 v3 g8 = some r0 → W p l e rm_Ref_times s m args below meth c H locs 0 0 (MQ below (va_Qv (fun _ : Unit => True) (fun _ t => va_P D CLS (wR a q g0 g1 g2 g3 g4 g5 g6 g7 r0 g9 g10 g11 g12 g13 g14 g15 g16 g17 g18 g19) t.heap) A) args s 0 0 A) (F0 m 0 ls []) := by
  obtain ⟨hx, hb, hml, hown, hts, hr, hlocks⟩ := id hC
  intro v1 v2 v3 g8 H locs ls hP hD hS hl h
  rw [f_Ref_times_0] at h
  refine lv_aload_n hx hb (dt_at dt_Ref_times 0 rfl) rfl (lv_at hl 0 rfl) ?_
  refine lv_iload_n hx hb (dt_at dt_Ref_times 1 rfl) rfl (lv_at hl 1 rfl) ?_
  refine lv_lconst (v := 0) hx hb (dt_at dt_Ref_times 2 rfl) (by decide) ?_
  obtain ⟨r1, h_r1, h⟩ := ob_of h
  have hF := va_free (wc := dR a) (dD (ws' := dR a) hD rfl) hS hA [0, 1, 2, 3, 4, 5, 6] rfl
  have hd : va_D (fun _ => True) (dR a) := (dD (ws' := dR a) hD rfl).weaken (fun _ _ _ _ => trivial)
  refine va_callv (va_runV (As := [.int v1, .long (0 : Int64)]) (rest := []) ⟨hx, hb, hml, hown, hts⟩ (c_Ref_put l D a q hd H.size v1 (0 : Int64) g0 g1 g2 g3 g4 g5 g6 g7 g8 g9 g10 g11 g12 g13 g14 g15 g16 g17 g18 g19 r1 h_r1) (cwV 2 hts (gd_V (m_4 129 rfl rfl) (m_4 131 rfl rfl) (m_s 28 rfl rfl) (m_1 4 rfl rfl) (m_4 132 rfl rfl)) rfl rfl rfl (by decide +kernel) ⟨Nat.le_of_ble_eq_true rfl, Nat.le_of_ble_eq_true rfl⟩) ⟨fun a U g mk q => ⟨q.1, q.2.1, q.2.2.1, va_K.moved (u := U) (U := U.calling g mk a) (Vm.Alike.refl U.vm) q.2.2.2⟩, va_recv hK hP (ci := 0) (q0 := 0) rfl rfl, fun U hU hW => ⟨rfl, by rw [hU], by rw [hU]; exact hP, va_K.moved hW.alike hK⟩⟩ rfl rfl hl.1 rfl (lv_room (Nat.le_of_ble_eq_true rfl)) (dt_at dt_Ref_times 3 rfl) ⟨Nat.le_of_ble_eq_true rfl, Nat.le_of_ble_eq_true rfl⟩) hS (fun x _ h9 => hF x h9) hF (fun uu t H locs ht hvm hw hB hz1 hk1 hS => ?_)
  rw [ht] at hB
  have hP : va_P D CLS (wR a q g0 g1 g2 g3 g4 g5 g6 g7 r1 g9 g10 g11 g12 g13 g14 g15 g16 g17 g18 g19) H := hB
  have hD : va_D A (wR a q g0 g1 g2 g3 g4 g5 g6 g7 r1 g9 g10 g11 g12 g13 g14 g15 g16 g17 g18 g19) := dD hD rfl
  refine lv_aload_n hx hb (dt_at dt_Ref_times 4 rfl) rfl (lv_at hl 0 rfl) ?_
  refine lv_iload_n hx hb (dt_at dt_Ref_times 5 rfl) rfl (lv_at hl 2 rfl) ?_
  obtain ⟨r2, h_r2, h⟩ := ob_of h
  have hF := va_free (wc := dR a) (dD (ws' := dR a) hD rfl) hS hA [0, 1, 2, 3, 4, 5, 6] rfl
  have hd : va_D (fun _ => True) (dR a) := (dD (ws' := dR a) hD rfl).weaken (fun _ _ _ _ => trivial)
  refine va_calli (va_runV (As := [.int v2]) (rest := []) ⟨hx, hb, hml, hown, hts⟩ (c_Ref_width l D a q hd H.size v2 g0 g1 g2 g3 g4 g5 g6 g7 r1 g9 g10 g11 g12 g13 g14 g15 g16 g17 g18 g19 r2 h_r2) (cwV 1 hts (gd_V (m_4 138 rfl rfl) (m_4 140 rfl rfl) (m_s 30 rfl rfl) (m_1 4 rfl rfl) (m_4 141 rfl rfl)) rfl rfl rfl (by decide +kernel) ⟨Nat.le_of_ble_eq_true rfl, Nat.le_of_ble_eq_true rfl⟩) ⟨fun a U g mk q => ⟨q.1, q.2.1, q.2.2.1, va_K.moved (u := U) (U := U.calling g mk a) (Vm.Alike.refl U.vm) q.2.2.2⟩, va_recv hK hP (ci := 0) (q0 := 0) rfl rfl, fun U hU hW => ⟨rfl, by rw [hU], by rw [hU]; exact hP, va_K.moved hW.alike hK⟩⟩ rfl rfl hl.1 rfl (lv_room (Nat.le_of_ble_eq_true rfl)) (dt_at dt_Ref_times 6 rfl) ⟨Nat.le_of_ble_eq_true rfl, Nat.le_of_ble_eq_true rfl⟩) hS (fun x _ h9 => hF x h9) hF (fun u_r2 uu t H locs ht hvm hw hB hz1 hk1 hS => ?_)
  rw [ht] at hB
  obtain rfl : r2 = u_r2 := hw.symm
  have hP : va_P D CLS (wR a q g0 g1 g2 g3 g4 g5 g6 g7 r1 g9 g10 g11 g12 g13 g14 g15 g16 g17 g18 g19) H := hB
  have hD : va_D A (wR a q g0 g1 g2 g3 g4 g5 g6 g7 r1 g9 g10 g11 g12 g13 g14 g15 g16 g17 g18 g19) := dD hD rfl
  refine lv_bipush (v := 15) hx hb (dt_at dt_Ref_times 7 rfl) (by decide) ?_
  refine lv_iadd hx hb (dt_at dt_Ref_times 8 rfl) ?_
  refine lv_bipush (v := 16) hx hb (dt_at dt_Ref_times 9 rfl) (by decide) ?_
  refine lv_idiv hx hb (dt_at dt_Ref_times 10 rfl) (by decide) ?_
  obtain ⟨t3, e_t3, h⟩ := ol_of h
  refine lv_topi (fun u_t3 q_t3 => ?_)
  obtain rfl : t3 = u_t3 := e_t3.trans q_t3.symm
  refine lv_istore (lv' := [(4, .int t3), (0, .ref (a 0)), (1, .int v1), (2, .int v2), (3, .int v3)]) hx hb (dt_at dt_Ref_times 11 rfl) hl (by decide) rfl (fun ls hl => ?_)
  refine lv_aload_n hx hb (dt_at dt_Ref_times 12 rfl) rfl (lv_at hl 1 rfl) ?_
  refine lv_iload_n hx hb (dt_at dt_Ref_times 13 rfl) rfl (lv_at hl 4 rfl) ?_
  obtain ⟨r4, h_r4, h⟩ := ob_of h
  have hF := va_free (wc := dR a) (dD (ws' := dR a) hD rfl) hS hA [0, 1, 2, 3, 4, 5, 6] rfl
  have hd : va_D (fun _ => True) (dR a) := (dD (ws' := dR a) hD rfl).weaken (fun _ _ _ _ => trivial)
  refine va_calli (va_runV (As := [.int v3]) (rest := []) ⟨hx, hb, hml, hown, hts⟩ (c_Ref_width l D a q hd H.size v3 g0 g1 g2 g3 g4 g5 g6 g7 r1 g9 g10 g11 g12 g13 g14 g15 g16 g17 g18 g19 r4 h_r4) (cwV 1 hts (gd_V (m_4 138 rfl rfl) (m_4 140 rfl rfl) (m_s 30 rfl rfl) (m_1 4 rfl rfl) (m_4 141 rfl rfl)) rfl rfl rfl (by decide +kernel) ⟨Nat.le_of_ble_eq_true rfl, Nat.le_of_ble_eq_true rfl⟩) ⟨fun a U g mk q => ⟨q.1, q.2.1, q.2.2.1, va_K.moved (u := U) (U := U.calling g mk a) (Vm.Alike.refl U.vm) q.2.2.2⟩, va_recv hK hP (ci := 0) (q0 := 0) rfl rfl, fun U hU hW => ⟨rfl, by rw [hU], by rw [hU]; exact hP, va_K.moved hW.alike hK⟩⟩ rfl rfl hl.1 rfl (lv_room (Nat.le_of_ble_eq_true rfl)) (dt_at dt_Ref_times 14 rfl) ⟨Nat.le_of_ble_eq_true rfl, Nat.le_of_ble_eq_true rfl⟩) hS (fun x _ h9 => hF x h9) hF (fun u_r4 uu t H locs ht hvm hw hB hz1 hk1 hS => ?_)
  rw [ht] at hB
  obtain rfl : r4 = u_r4 := hw.symm
  have hP : va_P D CLS (wR a q g0 g1 g2 g3 g4 g5 g6 g7 r1 g9 g10 g11 g12 g13 g14 g15 g16 g17 g18 g19) H := hB
  have hD : va_D A (wR a q g0 g1 g2 g3 g4 g5 g6 g7 r1 g9 g10 g11 g12 g13 g14 g15 g16 g17 g18 g19) := dD hD rfl
  refine lv_bipush (v := 15) hx hb (dt_at dt_Ref_times 15 rfl) (by decide) ?_
  refine lv_iadd hx hb (dt_at dt_Ref_times 16 rfl) ?_
  refine lv_bipush (v := 16) hx hb (dt_at dt_Ref_times 17 rfl) (by decide) ?_
  refine lv_idiv hx hb (dt_at dt_Ref_times 18 rfl) (by decide) ?_
  obtain ⟨t5, e_t5, h⟩ := ol_of h
  refine lv_topi (fun u_t5 q_t5 => ?_)
  obtain rfl : t5 = u_t5 := e_t5.trans q_t5.symm
  refine lv_istore (lv' := [(5, .int t5), (4, .int t3), (0, .ref (a 0)), (1, .int v1), (2, .int v2), (3, .int v3)]) hx hb (dt_at dt_Ref_times 19 rfl) hl (by decide) rfl (fun ls hl => ?_)
  refine lv_iconst (v := 0) hx hb (dt_at dt_Ref_times 20 rfl) (by decide) ?_
  refine lv_istore (lv' := [(6, .int (0 : Int32)), (5, .int t5), (4, .int t3), (0, .ref (a 0)), (1, .int v1), (2, .int v2), (3, .int v3)]) hx hb (dt_at dt_Ref_times 21 rfl) hl (by decide) rfl (fun ls hl => ?_)
  exact k_Ref_times_35 hC hA hK  5000 v1 v2 v3 t3 t5 (0 : Int32) r1 H locs ls hP hD hS (lv_sub hl [3, 4, 5, 6, 2, 1, 0] rfl) h
set_option maxRecDepth 100000 in
set_option maxHeartbeats 4000000 in
theorem c_Ref_times (l : Launch) (D : va_G) (a : Nat → Nat) (q : Nat → ClassId) (hd : va_D (fun _ => True) (dR a)) (sz : Nat) (a1 : Int32) (a2 : Int32) (a3 : Int32) (g0 : Int32) (g1 : Nat → Int32) (g2 : Nat → Int64) (g3 : Nat → Int64) (g4 : Nat → Int32) (g5 : Int32) (g6 : Nat → Int32) (g7 : Int32) (g8 : Nat → Int32) (g9 : Int32) (g10 : Int64) (g11 : Int64) (g12 : Int32) (g13 : Int32) (g14 : Int32) (g15 : Int64) (g16 : Int32) (g17 : Int32) (g18 : Int64) (g19 : Int32) (r0 : (Nat → Int32)) (h : f_Ref_times a1 a2 a3 g8 = some r0) : Met l (⟨"OutwardTapeModel", "times", "(III)V"⟩ : MethodName) (WSm (⟨"OutwardTapeModel", "times", "(III)V"⟩ : MethodName) prog_12_method_11_code 12 none) rm_Ref_times (va_Pc [.ref (a 0), .int a1, .int a2, .int a3] (fun U => U.heap.size = sz ∧ va_P D CLS (wR a q g0 g1 g2 g3 g4 g5 g6 g7 g8 g9 g10 g11 g12 g13 g14 g15 g16 g17 g18 g19) U.heap ∧ va_K D CLS (tR q) U)) (va_Qv (fun _ : Unit => True) (fun _ t => va_P D CLS (wR a q g0 g1 g2 g3 g4 g5 g6 g7 r0 g9 g10 g11 g12 g13 g14 g15 g16 g17 g18 g19) t.heap) (va_A (dR a) sz)) 0 0 (va_A (dR a) sz) := by
  refine Met.ofW (cc := prog_12_method_11_code) (maxL := 12) (ret := none) (by decide) rfl ?_
  intro p e s m args below meth c s₁ B hml hv
  obtain ⟨rfl, hsz, hP, hK⟩ := hv
  subst hsz
  have hC := CX.of B hml rfl
  have hl := lv_entry [.ref (a 0), .int a1, .int a2, .int a3] (n := 12) (Nat.le_of_ble_eq_true rfl)
  rw [lg_entry_eq]
  generalize (lg_sl [.ref (a 0), .int a1, .int a2, .int a3] ++ List.replicate (12 - (lg_sl [.ref (a 0), .int a1, .int a2, .int a3]).length) Slot.unset).toArray = ls at hl ⊢
  have hl : lv_has ls 12 [(0, .ref (a 0)), (1, .int a1), (2, .int a2), (3, .int a3)] := hl
  exact k_Ref_times_0 hC (fun x h => Or.inr h) hK a1 a2 a3 g8 s.heap [] ls hP (dD hd.self rfl) va_S.rf (lv_sub hl [0, 1, 2, 3] rfl) h
abbrev rm_Ref_divide : Room := { frames := 2, cells := 0, slots := 0, locals := 45 }
set_option maxRecDepth 100000 in
set_option maxHeartbeats 4000000 in
theorem k_Ref_divide_122 {p : Program} {l : Launch} {e : Env} {s : State} {m : MethodId} {args : Array Value} {below : List Frame} {meth : Method} {c : Code} {D : va_G} {a : Nat → Nat} {q : Nat → ClassId} {A : Nat → Prop} (hC : CX p s m args meth c prog_12_method_12_code 6 "OutwardTapeModel" none) (hA : ∀ x, s.heap.size ≤ x → A x) (hK : va_K D CLS (tR q) s) {g0 : Int32} {g1 : Nat → Int32} {g2 : Nat → Int64} {g3 : Nat → Int64} {g4 : Nat → Int32} {g5 : Int32} {g6 : Nat → Int32} {g7 : Int32} {g9 : Int32} {g10 : Int64} {g11 : Int64} {g12 : Int32} {g13 : Int32} {g14 : Int32} {g15 : Int64} {g16 : Int32} {g17 : Int32} {g18 : Int64} {g19 : Int32} {r0 : (Nat → Int32)} (k22 : Int32 → Int32 → Int32 → Int32 → Int32 → (Nat → Int32) → Option ((Nat → Int32))) (hk22 : ∀ (v1 : Int32) (v2 : Int32) (v3 : Int32) (v4 : Int32) (v5 : Int32) (g8 : Nat → Int32) (H : Heap) (locs : List Loc) (ls : Array Slot), va_P D CLS (wR a q g0 g1 g2 g3 g4 g5 g6 g7 g8 g9 g10 g11 g12 g13 g14 g15 g16 g17 g18 g19) H → va_D A (wR a q g0 g1 g2 g3 g4 g5 g6 g7 g8 g9 g10 g11 g12 g13 g14 g15 g16 g17 g18 g19) → va_S A s.heap H locs → lv_has ls 6 [(0, .ref (a 0)), (1, .int v1), (2, .int v2), (3, .int v3), (4, .int v4), (5, .int v5)] → k22 v1 v2 v3 v4 v5 g8 = some r0 → W p l e rm_Ref_divide s m args below meth c H locs 0 0 (MQ below (va_Qv (fun _ : Unit => True) (fun _ t => va_P D CLS (wR a q g0 g1 g2 g3 g4 g5 g6 g7 r0 g9 g10 g11 g12 g13 g14 g15 g16 g17 g18 g19) t.heap) A) args s 0 0 A) (F0 m 22 ls [])) : ∀ (v1 : Int32) (v2 : Int32) (v3 : Int32) (v4 : Int32) (v5 : Int32) (g8 : Nat → Int32) (H : Heap) (locs : List Loc) (ls : Array Slot), va_P D CLS (wR a q g0 g1 g2 g3 g4 g5 g6 g7 g8 g9 g10 g11 g12 g13 g14 g15 g16 g17 g18 g19) H → va_D A (wR a q g0 g1 g2 g3 g4 g5 g6 g7 g8 g9 g10 g11 g12 g13 g14 g15 g16 g17 g18 g19) → va_S A s.heap H locs → lv_has ls 6 [(0, .ref (a 0)), (1, .int v1), (2, .int v2), (3, .int v3), (4, .int v4), (5, .int v5)] → f_Ref_divide_122 k22 v1 v2 v3 v4 v5 g8 = some r0 → W p l e rm_Ref_divide s m args below meth c H locs 0 0 (MQ below (va_Qv (fun _ : Unit => True) (fun _ t => va_P D CLS (wR a q g0 g1 g2 g3 g4 g5 g6 g7 r0 g9 g10 g11 g12 g13 g14 g15 g16 g17 g18 g19) t.heap) A) args s 0 0 A) (F0 m 122 ls []) := by
  obtain ⟨hx, hb, hml, hown, hts, hr, hlocks⟩ := id hC
  intro v1 v2 v3 v4 v5 g8 H locs ls hP hD hS hl h
  rw [f_Ref_divide_122] at h
  obtain ⟨t1, e_t1, h⟩ := ol_of h
  refine lv_iinc (v := t1) (lv' := [(5, .int t1), (0, .ref (a 0)), (1, .int v1), (2, .int v2), (3, .int v3), (4, .int v4)]) hx hb (dt_at dt_Ref_divide 73 rfl) hl (k := 5) rfl (by rw [e_t1]; rfl) (by decide) rfl (fun ls hl => ?_)
  refine lv_goto (tgt := 22) hx hb (dt_at dt_Ref_divide 74 rfl) (by decide) ?_
  exact hk22 v1 v2 v3 v4 t1 g8 H locs ls hP hD hS (lv_sub hl [1, 2, 3, 4, 5, 0] rfl) h
set_option maxRecDepth 100000 in
set_option maxHeartbeats 4000000 in
theorem k_Ref_divide_22 {p : Program} {l : Launch} {e : Env} {s : State} {m : MethodId} {args : Array Value} {below : List Frame} {meth : Method} {c : Code} {D : va_G} {a : Nat → Nat} {q : Nat → ClassId} {A : Nat → Prop} (hC : CX p s m args meth c prog_12_method_12_code 6 "OutwardTapeModel" none) (hA : ∀ x, s.heap.size ≤ x → A x) (hK : va_K D CLS (tR q) s) {g0 : Int32} {g1 : Nat → Int32} {g2 : Nat → Int64} {g3 : Nat → Int64} {g4 : Nat → Int32} {g5 : Int32} {g6 : Nat → Int32} {g7 : Int32} {g9 : Int32} {g10 : Int64} {g11 : Int64} {g12 : Int32} {g13 : Int32} {g14 : Int32} {g15 : Int64} {g16 : Int32} {g17 : Int32} {g18 : Int64} {g19 : Int32} {r0 : (Nat → Int32)} : ∀ n : Nat, ∀ (v1 : Int32) (v2 : Int32) (v3 : Int32) (v4 : Int32) (v5 : Int32) (g8 : Nat → Int32) (H : Heap) (locs : List Loc) (ls : Array Slot), va_P D CLS (wR a q g0 g1 g2 g3 g4 g5 g6 g7 g8 g9 g10 g11 g12 g13 g14 g15 g16 g17 g18 g19) H → va_D A (wR a q g0 g1 g2 g3 g4 g5 g6 g7 g8 g9 g10 g11 g12 g13 g14 g15 g16 g17 g18 g19) → va_S A s.heap H locs → lv_has ls 6 [(0, .ref (a 0)), (1, .int v1), (2, .int v2), (3, .int v3), (4, .int v4), (5, .int v5)] → f_Ref_divide_22  n v1 v2 v3 v4 v5 g8 = some r0 → W p l e rm_Ref_divide s m args below meth c H locs 0 0 (MQ below (va_Qv (fun _ : Unit => True) (fun _ t => va_P D CLS (wR a q g0 g1 g2 g3 g4 g5 g6 g7 r0 g9 g10 g11 g12 g13 g14 g15 g16 g17 g18 g19) t.heap) A) args s 0 0 A) (F0 m 22 ls []) := by
  obtain ⟨hx, hb, hml, hown, hts, hr, hlocks⟩ := id hC
  intro n
  induction n with
  | zero => intro v1 v2 v3 v4 v5 g8 H locs ls hP hD hS hl h; cases h
  | succ n ih =>
    intro v1 v2 v3 v4 v5 g8 H locs ls hP hD hS hl h
    rw [f_Ref_divide_22] at h
    refine lv_iload hx hb (dt_at dt_Ref_divide 14 rfl) (lv_at hl 5 rfl) ?_
    refine lv_if_lt (tgt := 128) hx hb (dt_at dt_Ref_divide 15 rfl) (by decide) (fun c1 => ?_) (fun c1 => ?_)
    · have h := if_p h c1
      obtain rfl := os_of h
      exact W.vret hx hb hr (fun t ht hW => ⟨⟨(), rfl, trivial, (hPt hP ht)⟩, hS.F ht⟩) hS.2.2 (dt_at dt_Ref_divide 75 rfl)
    · have h := if_n h c1
      refine lv_aload_n hx hb (dt_at dt_Ref_divide 16 rfl) rfl (lv_at hl 0 rfl) ?_
      refine lv_iload hx hb (dt_at dt_Ref_divide 17 rfl) (lv_at hl 4 rfl) ?_
      refine lv_iconst (v := 1) hx hb (dt_at dt_Ref_divide 18 rfl) (by decide) ?_
      obtain ⟨r2, h_r2, h⟩ := ob_of h
      have hF := va_free (wc := dR a) (dD (ws' := dR a) hD rfl) hS hA [0, 1, 2, 3, 4, 5, 6] rfl
      have hd : va_D (fun _ => True) (dR a) := (dD (ws' := dR a) hD rfl).weaken (fun _ _ _ _ => trivial)
      refine va_callv (va_runV (As := [.int v4, .int (1 : Int32)]) (rest := []) ⟨hx, hb, hml, hown, hts⟩ (c_Ref_moveUp l D a q hd H.size v4 (1 : Int32) g0 g1 g2 g3 g4 g5 g6 g7 g8 g9 g10 g11 g12 g13 g14 g15 g16 g17 g18 g19 r2 h_r2) (cwV 2 hts (gd_V (m_4 159 rfl rfl) (m_4 161 rfl rfl) (m_s 34 rfl rfl) (m_1 4 rfl rfl) (m_4 162 rfl rfl)) rfl rfl rfl (by decide +kernel) ⟨Nat.le_of_ble_eq_true rfl, Nat.le_of_ble_eq_true rfl⟩) ⟨fun a U g mk q => ⟨q.1, q.2.1, q.2.2.1, va_K.moved (u := U) (U := U.calling g mk a) (Vm.Alike.refl U.vm) q.2.2.2⟩, va_recv hK hP (ci := 0) (q0 := 0) rfl rfl, fun U hU hW => ⟨rfl, by rw [hU], by rw [hU]; exact hP, va_K.moved hW.alike hK⟩⟩ rfl rfl hl.1 rfl (lv_room (Nat.le_of_ble_eq_true rfl)) (dt_at dt_Ref_divide 19 rfl) ⟨Nat.le_of_ble_eq_true rfl, Nat.le_of_ble_eq_true rfl⟩) hS (fun x _ h9 => hF x h9) hF (fun uu t H locs ht hvm hw hB hz1 hk1 hS => ?_)
      rw [ht] at hB
      have hP : va_P D CLS (wR a q g0 g1 g2 g3 g4 g5 g6 g7 r2 g9 g10 g11 g12 g13 g14 g15 g16 g17 g18 g19) H := hB
      have hD : va_D A (wR a q g0 g1 g2 g3 g4 g5 g6 g7 r2 g9 g10 g11 g12 g13 g14 g15 g16 g17 g18 g19) := dD hD rfl
      refine lv_aload_n hx hb (dt_at dt_Ref_divide 20 rfl) rfl (lv_at hl 0 rfl) ?_
      refine va_get (D := D) (ci := 0) (v := .ref (a 6)) (C := "OutwardTapeModel") (T := T_Ref) (N := 20) hx hb hts in_Ref hown hK hP 0 rfl rfl 8 (by decide) (hts (Cond.fieldLink "OutwardTapeModel" 26 "OutwardTapeModel" "limb" "[I") (m_4 7 rfl rfl)) (fun _ h9 => h9) rfl (dt_at dt_Ref_divide 21 rfl) ?_
      refine lv_sipush (v := 160) hx hb (dt_at dt_Ref_divide 22 rfl) (by decide) ?_
      refine lv_iload hx hb (dt_at dt_Ref_divide 23 rfl) (lv_at hl 4 rfl) ?_
      refine lv_imul hx hb (dt_at dt_Ref_divide 24 rfl) ?_
      refine lv_aload_n hx hb (dt_at dt_Ref_divide 25 rfl) rfl (lv_at hl 0 rfl) ?_
      refine va_get (D := D) (ci := 0) (v := .ref (a 6)) (C := "OutwardTapeModel") (T := T_Ref) (N := 20) hx hb hts in_Ref hown hK hP 0 rfl rfl 8 (by decide) (hts (Cond.fieldLink "OutwardTapeModel" 26 "OutwardTapeModel" "limb" "[I") (m_4 7 rfl rfl)) (fun _ h9 => h9) rfl (dt_at dt_Ref_divide 26 rfl) ?_
      refine lv_sipush (v := 160) hx hb (dt_at dt_Ref_divide 27 rfl) (by decide) ?_
      refine lv_iload hx hb (dt_at dt_Ref_divide 28 rfl) (lv_at hl 4 rfl) ?_
      refine lv_imul hx hb (dt_at dt_Ref_divide 29 rfl) ?_
      obtain ⟨z3, h⟩ := og_of h
      refine va_iald hx hb hK hP 6 5 rfl rfl z3 (dt_at dt_Ref_divide 30 rfl) ?_
      refine lv_aload_n hx hb (dt_at dt_Ref_divide 31 rfl) rfl (lv_at hl 0 rfl) ?_
      refine lv_iload_n hx hb (dt_at dt_Ref_divide 32 rfl) rfl (lv_at hl 2 rfl) ?_
      refine lv_iload hx hb (dt_at dt_Ref_divide 33 rfl) (lv_at hl 5 rfl) ?_
      obtain ⟨r4, h_r4, h⟩ := ob_of h
      have hF := va_free (wc := dR a) (dD (ws' := dR a) hD rfl) hS hA [0, 1, 2, 3, 4, 5, 6] rfl
      have hd : va_D (fun _ => True) (dR a) := (dD (ws' := dR a) hD rfl).weaken (fun _ _ _ _ => trivial)
      refine va_calli (va_runV (As := [.int v2, .int v5]) (rest := [.int (r2 ((160 : Int32) * v4).toNatClampNeg), .int ((160 : Int32) * v4), .ref (a 6)]) ⟨hx, hb, hml, hown, hts⟩ (c_Ref_bit l D a q hd H.size v2 v5 g0 g1 g2 g3 g4 g5 g6 g7 r2 g9 g10 g11 g12 g13 g14 g15 g16 g17 g18 g19 r4 h_r4) (cwV 2 hts (gd_V (m_4 142 rfl rfl) (m_4 144 rfl rfl) (m_s 31 rfl rfl) (m_1 4 rfl rfl) (m_4 145 rfl rfl)) rfl rfl rfl (by decide +kernel) ⟨Nat.le_of_ble_eq_true rfl, Nat.le_of_ble_eq_true rfl⟩) ⟨fun a U g mk q => ⟨q.1, q.2.1, q.2.2.1, va_K.moved (u := U) (U := U.calling g mk a) (Vm.Alike.refl U.vm) q.2.2.2⟩, va_recv hK hP (ci := 0) (q0 := 0) rfl rfl, fun U hU hW => ⟨rfl, by rw [hU], by rw [hU]; exact hP, va_K.moved hW.alike hK⟩⟩ rfl rfl hl.1 rfl (lv_room (Nat.le_of_ble_eq_true rfl)) (dt_at dt_Ref_divide 34 rfl) ⟨Nat.le_of_ble_eq_true rfl, Nat.le_of_ble_eq_true rfl⟩) hS (fun x _ h9 => hF x h9) hF (fun u_r4 uu t H locs ht hvm hw hB hz1 hk1 hS => ?_)
      rw [ht] at hB
      obtain rfl : r4 = u_r4 := hw.symm
      have hP : va_P D CLS (wR a q g0 g1 g2 g3 g4 g5 g6 g7 r2 g9 g10 g11 g12 g13 g14 g15 g16 g17 g18 g19) H := hB
      have hD : va_D A (wR a q g0 g1 g2 g3 g4 g5 g6 g7 r2 g9 g10 g11 g12 g13 g14 g15 g16 g17 g18 g19) := dD hD rfl
      refine lv_ior hx hb (dt_at dt_Ref_divide 35 rfl) ?_
      obtain ⟨z5, h⟩ := og_of h
      obtain ⟨t6, e_t6, h⟩ := ol_of h
      refine va_iast hx hb hK hP hD hS 6 5 rfl rfl z5 (dt_at dt_Ref_divide 36 rfl) (fun H locs hP hD hS => ?_)
      have hP : va_P D CLS (wR a q g0 g1 g2 g3 g4 g5 g6 g7 t6 g9 g10 g11 g12 g13 g14 g15 g16 g17 g18 g19) H := by rw [e_t6]; exact hP
      have hD : va_D A (wR a q g0 g1 g2 g3 g4 g5 g6 g7 t6 g9 g10 g11 g12 g13 g14 g15 g16 g17 g18 g19) := dD hD rfl
      refine lv_aload_n hx hb (dt_at dt_Ref_divide 37 rfl) rfl (lv_at hl 0 rfl) ?_
      refine lv_iload hx hb (dt_at dt_Ref_divide 38 rfl) (lv_at hl 4 rfl) ?_
      refine lv_iload_n hx hb (dt_at dt_Ref_divide 39 rfl) rfl (lv_at hl 3 rfl) ?_
      obtain ⟨r7, h_r7, h⟩ := ob_of h
      have hF := va_free (wc := dR a) (dD (ws' := dR a) hD rfl) hS hA [0, 1, 2, 3, 4, 5, 6] rfl
      have hd : va_D (fun _ => True) (dR a) := (dD (ws' := dR a) hD rfl).weaken (fun _ _ _ _ => trivial)
      refine va_calli (va_runV (As := [.int v4, .int v3]) (rest := []) ⟨hx, hb, hml, hown, hts⟩ (c_Ref_compare l D a q hd H.size v4 v3 g0 g1 g2 g3 g4 g5 g6 g7 t6 g9 g10 g11 g12 g13 g14 g15 g16 g17 g18 g19 r7 h_r7) (cwV 2 hts (gd_V (m_4 164 rfl rfl) (m_4 166 rfl rfl) (m_s 35 rfl rfl) (m_1 4 rfl rfl) (m_4 167 rfl rfl)) rfl rfl rfl (by decide +kernel) ⟨Nat.le_of_ble_eq_true rfl, Nat.le_of_ble_eq_true rfl⟩) ⟨fun a U g mk q => ⟨q.1, q.2.1, q.2.2.1, va_K.moved (u := U) (U := U.calling g mk a) (Vm.Alike.refl U.vm) q.2.2.2⟩, va_recv hK hP (ci := 0) (q0 := 0) rfl rfl, fun U hU hW => ⟨rfl, by rw [hU], by rw [hU]; exact hP, va_K.moved hW.alike hK⟩⟩ rfl rfl hl.1 rfl (lv_room (Nat.le_of_ble_eq_true rfl)) (dt_at dt_Ref_divide 40 rfl) ⟨Nat.le_of_ble_eq_true rfl, Nat.le_of_ble_eq_true rfl⟩) hS (fun x _ h9 => hF x h9) hF (fun u_r7 uu t H locs ht hvm hw hB hz1 hk1 hS => ?_)
      rw [ht] at hB
      obtain rfl : r7 = u_r7 := hw.symm
      have hP : va_P D CLS (wR a q g0 g1 g2 g3 g4 g5 g6 g7 t6 g9 g10 g11 g12 g13 g14 g15 g16 g17 g18 g19) H := hB
      have hD : va_D A (wR a q g0 g1 g2 g3 g4 g5 g6 g7 t6 g9 g10 g11 g12 g13 g14 g15 g16 g17 g18 g19) := dD hD rfl
      refine lv_if_lt (tgt := 122) hx hb (dt_at dt_Ref_divide 41 rfl) (by decide) (fun c8 => ?_) (fun c8 => ?_)
      · have h := if_p h c8
        exact k_Ref_divide_122 hC hA hK (f_Ref_divide_22  n) ih  v1 v2 v3 v4 v5 t6 H locs ls hP hD hS (lv_sub hl [0, 1, 2, 3, 4, 5] rfl) h
      · have h := if_n h c8
        refine lv_aload_n hx hb (dt_at dt_Ref_divide 42 rfl) rfl (lv_at hl 0 rfl) ?_
        refine lv_iload hx hb (dt_at dt_Ref_divide 43 rfl) (lv_at hl 4 rfl) ?_
        refine lv_iload_n hx hb (dt_at dt_Ref_divide 44 rfl) rfl (lv_at hl 3 rfl) ?_
        refine lv_iconst (v := -1) hx hb (dt_at dt_Ref_divide 45 rfl) (by decide) ?_
        obtain ⟨r9, h_r9, h⟩ := ob_of h
        have hF := va_free (wc := dR a) (dD (ws' := dR a) hD rfl) hS hA [0, 1, 2, 3, 4, 5, 6] rfl
        have hd : va_D (fun _ => True) (dR a) := (dD (ws' := dR a) hD rfl).weaken (fun _ _ _ _ => trivial)
        refine va_callv (va_runV (As := [.int v4, .int v3, .int (-1 : Int32)]) (rest := []) ⟨hx, hb, hml, hown, hts⟩ (c_Ref_add l D a q hd H.size v4 v3 (-1 : Int32) g0 g1 g2 g3 g4 g5 g6 g7 t6 g9 g10 g11 g12 g13 g14 g15 g16 g17 g18 g19 r9 h_r9) (cwV 3 hts (gd_V (m_4 189 rfl rfl) (m_4 191 rfl rfl) (m_s 41 rfl rfl) (m_1 4 rfl rfl) (m_4 192 rfl rfl)) rfl rfl rfl (by decide +kernel) ⟨Nat.le_of_ble_eq_true rfl, Nat.le_of_ble_eq_true rfl⟩) ⟨fun a U g mk q => ⟨q.1, q.2.1, q.2.2.1, va_K.moved (u := U) (U := U.calling g mk a) (Vm.Alike.refl U.vm) q.2.2.2⟩, va_recv hK hP (ci := 0) (q0 := 0) rfl rfl, fun U hU hW => ⟨rfl, by rw [hU], by rw [hU]; exact hP, va_K.moved hW.alike hK⟩⟩ rfl rfl hl.1 rfl (lv_room (Nat.le_of_ble_eq_true rfl)) (dt_at dt_Ref_divide 46 rfl) ⟨Nat.le_of_ble_eq_true rfl, Nat.le_of_ble_eq_true rfl⟩) hS (fun x _ h9 => hF x h9) hF (fun uu t H locs ht hvm hw hB hz1 hk1 hS => ?_)
        rw [ht] at hB
        have hP : va_P D CLS (wR a q g0 g1 g2 g3 g4 g5 g6 g7 r9 g9 g10 g11 g12 g13 g14 g15 g16 g17 g18 g19) H := hB
        have hD : va_D A (wR a q g0 g1 g2 g3 g4 g5 g6 g7 r9 g9 g10 g11 g12 g13 g14 g15 g16 g17 g18 g19) := dD hD rfl
        refine lv_aload_n hx hb (dt_at dt_Ref_divide 47 rfl) rfl (lv_at hl 0 rfl) ?_
        refine va_get (D := D) (ci := 0) (v := .ref (a 6)) (C := "OutwardTapeModel") (T := T_Ref) (N := 20) hx hb hts in_Ref hown hK hP 0 rfl rfl 8 (by decide) (hts (Cond.fieldLink "OutwardTapeModel" 26 "OutwardTapeModel" "limb" "[I") (m_4 7 rfl rfl)) (fun _ h9 => h9) rfl (dt_at dt_Ref_divide 48 rfl) ?_
        refine lv_sipush (v := 160) hx hb (dt_at dt_Ref_divide 49 rfl) (by decide) ?_
        refine lv_iload_n hx hb (dt_at dt_Ref_divide 50 rfl) rfl (lv_at hl 1 rfl) ?_
        refine lv_imul hx hb (dt_at dt_Ref_divide 51 rfl) ?_
        refine lv_iload hx hb (dt_at dt_Ref_divide 52 rfl) (lv_at hl 5 rfl) ?_
        refine lv_bipush (v := 16) hx hb (dt_at dt_Ref_divide 53 rfl) (by decide) ?_
        refine lv_idiv hx hb (dt_at dt_Ref_divide 54 rfl) (by decide) ?_
        refine lv_iadd hx hb (dt_at dt_Ref_divide 55 rfl) ?_
        refine lv_aload_n hx hb (dt_at dt_Ref_divide 56 rfl) rfl (lv_at hl 0 rfl) ?_
        refine va_get (D := D) (ci := 0) (v := .ref (a 6)) (C := "OutwardTapeModel") (T := T_Ref) (N := 20) hx hb hts in_Ref hown hK hP 0 rfl rfl 8 (by decide) (hts (Cond.fieldLink "OutwardTapeModel" 26 "OutwardTapeModel" "limb" "[I") (m_4 7 rfl rfl)) (fun _ h9 => h9) rfl (dt_at dt_Ref_divide 57 rfl) ?_
        refine lv_sipush (v := 160) hx hb (dt_at dt_Ref_divide 58 rfl) (by decide) ?_
        refine lv_iload_n hx hb (dt_at dt_Ref_divide 59 rfl) rfl (lv_at hl 1 rfl) ?_
        refine lv_imul hx hb (dt_at dt_Ref_divide 60 rfl) ?_
        refine lv_iload hx hb (dt_at dt_Ref_divide 61 rfl) (lv_at hl 5 rfl) ?_
        refine lv_bipush (v := 16) hx hb (dt_at dt_Ref_divide 62 rfl) (by decide) ?_
        refine lv_idiv hx hb (dt_at dt_Ref_divide 63 rfl) (by decide) ?_
        refine lv_iadd hx hb (dt_at dt_Ref_divide 64 rfl) ?_
        obtain ⟨z10, h⟩ := og_of h
        refine va_iald hx hb hK hP 6 5 rfl rfl z10 (dt_at dt_Ref_divide 65 rfl) ?_
        refine lv_iconst (v := 1) hx hb (dt_at dt_Ref_divide 66 rfl) (by decide) ?_
        refine lv_iload hx hb (dt_at dt_Ref_divide 67 rfl) (lv_at hl 5 rfl) ?_
        refine lv_bipush (v := 16) hx hb (dt_at dt_Ref_divide 68 rfl) (by decide) ?_
        refine lv_irem hx hb (dt_at dt_Ref_divide 69 rfl) (by decide) ?_
        refine lv_ishl hx hb (dt_at dt_Ref_divide 70 rfl) ?_
        refine lv_ior hx hb (dt_at dt_Ref_divide 71 rfl) ?_
        obtain ⟨z11, h⟩ := og_of h
        obtain ⟨t12, e_t12, h⟩ := ol_of h
        refine va_iast hx hb hK hP hD hS 6 5 rfl rfl z11 (dt_at dt_Ref_divide 72 rfl) (fun H locs hP hD hS => ?_)
        have hP : va_P D CLS (wR a q g0 g1 g2 g3 g4 g5 g6 g7 t12 g9 g10 g11 g12 g13 g14 g15 g16 g17 g18 g19) H := by rw [e_t12]; exact hP
        have hD : va_D A (wR a q g0 g1 g2 g3 g4 g5 g6 g7 t12 g9 g10 g11 g12 g13 g14 g15 g16 g17 g18 g19) := dD hD rfl
        exact k_Ref_divide_122 hC hA hK (f_Ref_divide_22  n) ih  v1 v2 v3 v4 v5 t12 H locs ls hP hD hS (lv_sub hl [0, 1, 2, 3, 4, 5] rfl) h
set_option maxRecDepth 100000 in
set_option maxHeartbeats 4000000 in
theorem k_Ref_divide_0 {p : Program} {l : Launch} {e : Env} {s : State} {m : MethodId} {args : Array Value} {below : List Frame} {meth : Method} {c : Code} {D : va_G} {a : Nat → Nat} {q : Nat → ClassId} {A : Nat → Prop} (hC : CX p s m args meth c prog_12_method_12_code 6 "OutwardTapeModel" none) (hA : ∀ x, s.heap.size ≤ x → A x) (hK : va_K D CLS (tR q) s) {g0 : Int32} {g1 : Nat → Int32} {g2 : Nat → Int64} {g3 : Nat → Int64} {g4 : Nat → Int32} {g5 : Int32} {g6 : Nat → Int32} {g7 : Int32} {g9 : Int32} {g10 : Int64} {g11 : Int64} {g12 : Int32} {g13 : Int32} {g14 : Int32} {g15 : Int64} {g16 : Int32} {g17 : Int32} {g18 : Int64} {g19 : Int32} {r0 : (Nat → Int32)} : ∀ (v1 : Int32) (v2 : Int32) (v3 : Int32) (v4 : Int32) (g8 : Nat → Int32) (H : Heap) (locs : List Loc) (ls : Array Slot), va_P D CLS (wR a q g0 g1 g2 g3 g4 g5 g6 g7 g8 g9 g10 g11 g12 g13 g14 g15 g16 g17 g18 g19) H → va_D A (wR a q g0 g1 g2 g3 g4 g5 g6 g7 g8 g9 g10 g11 g12 g13 g14 g15 g16 g17 g18 g19) → va_S A s.heap H locs → lv_has ls 6 [(0, .ref (a 0)), (1, .int v1), (2, .int v2), (3, .int v3), (4, .int v4)] → f_Ref_divide_0  v1 v2 v3 v4 g8 = some r0 → W p l e rm_Ref_divide s m args below meth c H locs 0 0 (MQ below (va_Qv (fun _ : Unit => True) (fun _ t => va_P D CLS (wR a q g0 g1 g2 g3 g4 g5 g6 g7 r0 g9 g10 g11 g12 g13 g14 g15 g16 g17 g18 g19) t.heap) A) args s 0 0 A) (F0 m 0 ls []) := by
  obtain ⟨hx, hb, hml, hown, hts, hr, hlocks⟩ := id hC
  intro v1 v2 v3 v4 g8 H locs ls hP hD hS hl h
  rw [f_Ref_divide_0] at h
  refine lv_aload_n hx hb (dt_at dt_Ref_divide 0 rfl) rfl (lv_at hl 0 rfl) ?_
  refine lv_iload_n hx hb (dt_at dt_Ref_divide 1 rfl) rfl (lv_at hl 1 rfl) ?_
  refine lv_lconst (v := 0) hx hb (dt_at dt_Ref_divide 2 rfl) (by decide) ?_
  obtain ⟨r1, h_r1, h⟩ := ob_of h
  have hF := va_free (wc := dR a) (dD (ws' := dR a) hD rfl) hS hA [0, 1, 2, 3, 4, 5, 6] rfl
  have hd : va_D (fun _ => True) (dR a) := (dD (ws' := dR a) hD rfl).weaken (fun _ _ _ _ => trivial)
  refine va_callv (va_runV (As := [.int v1, .long (0 : Int64)]) (rest := []) ⟨hx, hb, hml, hown, hts⟩ (c_Ref_put l D a q hd H.size v1 (0 : Int64) g0 g1 g2 g3 g4 g5 g6 g7 g8 g9 g10 g11 g12 g13 g14 g15 g16 g17 g18 g19 r1 h_r1) (cwV 2 hts (gd_V (m_4 129 rfl rfl) (m_4 131 rfl rfl) (m_s 28 rfl rfl) (m_1 4 rfl rfl) (m_4 132 rfl rfl)) rfl rfl rfl (by decide +kernel) ⟨Nat.le_of_ble_eq_true rfl, Nat.le_of_ble_eq_true rfl⟩) ⟨fun a U g mk q => ⟨q.1, q.2.1, q.2.2.1, va_K.moved (u := U) (U := U.calling g mk a) (Vm.Alike.refl U.vm) q.2.2.2⟩, va_recv hK hP (ci := 0) (q0 := 0) rfl rfl, fun U hU hW => ⟨rfl, by rw [hU], by rw [hU]; exact hP, va_K.moved hW.alike hK⟩⟩ rfl rfl hl.1 rfl (lv_room (Nat.le_of_ble_eq_true rfl)) (dt_at dt_Ref_divide 3 rfl) ⟨Nat.le_of_ble_eq_true rfl, Nat.le_of_ble_eq_true rfl⟩) hS (fun x _ h9 => hF x h9) hF (fun uu t H locs ht hvm hw hB hz1 hk1 hS => ?_)
  rw [ht] at hB
  have hP : va_P D CLS (wR a q g0 g1 g2 g3 g4 g5 g6 g7 r1 g9 g10 g11 g12 g13 g14 g15 g16 g17 g18 g19) H := hB
  have hD : va_D A (wR a q g0 g1 g2 g3 g4 g5 g6 g7 r1 g9 g10 g11 g12 g13 g14 g15 g16 g17 g18 g19) := dD hD rfl
  refine lv_aload_n hx hb (dt_at dt_Ref_divide 4 rfl) rfl (lv_at hl 0 rfl) ?_
  refine lv_iload hx hb (dt_at dt_Ref_divide 5 rfl) (lv_at hl 4 rfl) ?_
  refine lv_lconst (v := 0) hx hb (dt_at dt_Ref_divide 6 rfl) (by decide) ?_
  obtain ⟨r2, h_r2, h⟩ := ob_of h
  have hF := va_free (wc := dR a) (dD (ws' := dR a) hD rfl) hS hA [0, 1, 2, 3, 4, 5, 6] rfl
  have hd : va_D (fun _ => True) (dR a) := (dD (ws' := dR a) hD rfl).weaken (fun _ _ _ _ => trivial)
  refine va_callv (va_runV (As := [.int v4, .long (0 : Int64)]) (rest := []) ⟨hx, hb, hml, hown, hts⟩ (c_Ref_put l D a q hd H.size v4 (0 : Int64) g0 g1 g2 g3 g4 g5 g6 g7 r1 g9 g10 g11 g12 g13 g14 g15 g16 g17 g18 g19 r2 h_r2) (cwV 2 hts (gd_V (m_4 129 rfl rfl) (m_4 131 rfl rfl) (m_s 28 rfl rfl) (m_1 4 rfl rfl) (m_4 132 rfl rfl)) rfl rfl rfl (by decide +kernel) ⟨Nat.le_of_ble_eq_true rfl, Nat.le_of_ble_eq_true rfl⟩) ⟨fun a U g mk q => ⟨q.1, q.2.1, q.2.2.1, va_K.moved (u := U) (U := U.calling g mk a) (Vm.Alike.refl U.vm) q.2.2.2⟩, va_recv hK hP (ci := 0) (q0 := 0) rfl rfl, fun U hU hW => ⟨rfl, by rw [hU], by rw [hU]; exact hP, va_K.moved hW.alike hK⟩⟩ rfl rfl hl.1 rfl (lv_room (Nat.le_of_ble_eq_true rfl)) (dt_at dt_Ref_divide 7 rfl) ⟨Nat.le_of_ble_eq_true rfl, Nat.le_of_ble_eq_true rfl⟩) hS (fun x _ h9 => hF x h9) hF (fun uu t H locs ht hvm hw hB hz1 hk1 hS => ?_)
  rw [ht] at hB
  have hP : va_P D CLS (wR a q g0 g1 g2 g3 g4 g5 g6 g7 r2 g9 g10 g11 g12 g13 g14 g15 g16 g17 g18 g19) H := hB
  have hD : va_D A (wR a q g0 g1 g2 g3 g4 g5 g6 g7 r2 g9 g10 g11 g12 g13 g14 g15 g16 g17 g18 g19) := dD hD rfl
  refine lv_aload_n hx hb (dt_at dt_Ref_divide 8 rfl) rfl (lv_at hl 0 rfl) ?_
  refine lv_iload_n hx hb (dt_at dt_Ref_divide 9 rfl) rfl (lv_at hl 2 rfl) ?_
  obtain ⟨r3, h_r3, h⟩ := ob_of h
  have hF := va_free (wc := dR a) (dD (ws' := dR a) hD rfl) hS hA [0, 1, 2, 3, 4, 5, 6] rfl
  have hd : va_D (fun _ => True) (dR a) := (dD (ws' := dR a) hD rfl).weaken (fun _ _ _ _ => trivial)
  refine va_calli (va_runV (As := [.int v2]) (rest := []) ⟨hx, hb, hml, hown, hts⟩ (c_Ref_width l D a q hd H.size v2 g0 g1 g2 g3 g4 g5 g6 g7 r2 g9 g10 g11 g12 g13 g14 g15 g16 g17 g18 g19 r3 h_r3) (cwV 1 hts (gd_V (m_4 138 rfl rfl) (m_4 140 rfl rfl) (m_s 30 rfl rfl) (m_1 4 rfl rfl) (m_4 141 rfl rfl)) rfl rfl rfl (by decide +kernel) ⟨Nat.le_of_ble_eq_true rfl, Nat.le_of_ble_eq_true rfl⟩) ⟨fun a U g mk q => ⟨q.1, q.2.1, q.2.2.1, va_K.moved (u := U) (U := U.calling g mk a) (Vm.Alike.refl U.vm) q.2.2.2⟩, va_recv hK hP (ci := 0) (q0 := 0) rfl rfl, fun U hU hW => ⟨rfl, by rw [hU], by rw [hU]; exact hP, va_K.moved hW.alike hK⟩⟩ rfl rfl hl.1 rfl (lv_room (Nat.le_of_ble_eq_true rfl)) (dt_at dt_Ref_divide 10 rfl) ⟨Nat.le_of_ble_eq_true rfl, Nat.le_of_ble_eq_true rfl⟩) hS (fun x _ h9 => hF x h9) hF (fun u_r3 uu t H locs ht hvm hw hB hz1 hk1 hS => ?_)
  rw [ht] at hB
  obtain rfl : r3 = u_r3 := hw.symm
  have hP : va_P D CLS (wR a q g0 g1 g2 g3 g4 g5 g6 g7 r2 g9 g10 g11 g12 g13 g14 g15 g16 g17 g18 g19) H := hB
  have hD : va_D A (wR a q g0 g1 g2 g3 g4 g5 g6 g7 r2 g9 g10 g11 g12 g13 g14 g15 g16 g17 g18 g19) := dD hD rfl
  refine lv_iconst (v := 1) hx hb (dt_at dt_Ref_divide 11 rfl) (by decide) ?_
  refine lv_isub hx hb (dt_at dt_Ref_divide 12 rfl) ?_
  obtain ⟨t4, e_t4, h⟩ := ol_of h
  refine lv_topi (fun u_t4 q_t4 => ?_)
  obtain rfl : t4 = u_t4 := e_t4.trans q_t4.symm
  refine lv_istore (lv' := [(5, .int t4), (0, .ref (a 0)), (1, .int v1), (2, .int v2), (3, .int v3), (4, .int v4)]) hx hb (dt_at dt_Ref_divide 13 rfl) hl (by decide) rfl (fun ls hl => ?_)
  exact k_Ref_divide_22 hC hA hK  5000 v1 v2 v3 v4 t4 r2 H locs ls hP hD hS (lv_sub hl [1, 2, 3, 4, 5, 0] rfl) h
set_option maxRecDepth 100000 in
set_option maxHeartbeats 4000000 in
theorem c_Ref_divide (l : Launch) (D : va_G) (a : Nat → Nat) (q : Nat → ClassId) (hd : va_D (fun _ => True) (dR a)) (sz : Nat) (a1 : Int32) (a2 : Int32) (a3 : Int32) (a4 : Int32) (g0 : Int32) (g1 : Nat → Int32) (g2 : Nat → Int64) (g3 : Nat → Int64) (g4 : Nat → Int32) (g5 : Int32) (g6 : Nat → Int32) (g7 : Int32) (g8 : Nat → Int32) (g9 : Int32) (g10 : Int64) (g11 : Int64) (g12 : Int32) (g13 : Int32) (g14 : Int32) (g15 : Int64) (g16 : Int32) (g17 : Int32) (g18 : Int64) (g19 : Int32) (r0 : (Nat → Int32)) (h : f_Ref_divide a1 a2 a3 a4 g8 = some r0) : Met l (⟨"OutwardTapeModel", "divide", "(IIII)V"⟩ : MethodName) (WSm (⟨"OutwardTapeModel", "divide", "(IIII)V"⟩ : MethodName) prog_12_method_12_code 6 none) rm_Ref_divide (va_Pc [.ref (a 0), .int a1, .int a2, .int a3, .int a4] (fun U => U.heap.size = sz ∧ va_P D CLS (wR a q g0 g1 g2 g3 g4 g5 g6 g7 g8 g9 g10 g11 g12 g13 g14 g15 g16 g17 g18 g19) U.heap ∧ va_K D CLS (tR q) U)) (va_Qv (fun _ : Unit => True) (fun _ t => va_P D CLS (wR a q g0 g1 g2 g3 g4 g5 g6 g7 r0 g9 g10 g11 g12 g13 g14 g15 g16 g17 g18 g19) t.heap) (va_A (dR a) sz)) 0 0 (va_A (dR a) sz) := by
  refine Met.ofW (cc := prog_12_method_12_code) (maxL := 6) (ret := none) (by decide) rfl ?_
  intro p e s m args below meth c s₁ B hml hv
  obtain ⟨rfl, hsz, hP, hK⟩ := hv
  subst hsz
  have hC := CX.of B hml rfl
  have hl := lv_entry [.ref (a 0), .int a1, .int a2, .int a3, .int a4] (n := 6) (Nat.le_of_ble_eq_true rfl)
  rw [lg_entry_eq]
  generalize (lg_sl [.ref (a 0), .int a1, .int a2, .int a3, .int a4] ++ List.replicate (6 - (lg_sl [.ref (a 0), .int a1, .int a2, .int a3, .int a4]).length) Slot.unset).toArray = ls at hl ⊢
  have hl : lv_has ls 6 [(0, .ref (a 0)), (1, .int a1), (2, .int a2), (3, .int a3), (4, .int a4)] := hl
  exact k_Ref_divide_0 hC (fun x h => Or.inr h) hK a1 a2 a3 a4 g8 s.heap [] ls hP (dD hd.self rfl) va_S.rf (lv_sub hl [0, 1, 2, 3, 4] rfl) h
abbrev rm_Ref_rounded : Room := { frames := 2, cells := 0, slots := 0, locals := 45 }
set_option maxRecDepth 100000 in
set_option maxHeartbeats 4000000 in
theorem k_Ref_rounded_346 {p : Program} {l : Launch} {e : Env} {s : State} {m : MethodId} {args : Array Value} {below : List Frame} {meth : Method} {c : Code} {D : va_G} {a : Nat → Nat} {q : Nat → ClassId} {A : Nat → Prop} (hC : CX p s m args meth c prog_12_method_15_code 15 "OutwardTapeModel" (some .long)) (hA : ∀ x, s.heap.size ≤ x → A x) (hK : va_K D CLS (tR q) s) {g0 : Int32} {g1 : Nat → Int32} {g2 : Nat → Int64} {g3 : Nat → Int64} {g4 : Nat → Int32} {g5 : Int32} {g6 : Nat → Int32} {g7 : Int32} {g8 : Nat → Int32} {g9 : Int32} {g10 : Int64} {g11 : Int64} {g12 : Int32} {g13 : Int32} {g14 : Int32} {g15 : Int64} {g16 : Int32} {g17 : Int32} {g18 : Int64} {g19 : Int32} {r0 : Int64} : ∀ (s0 : Int64)  (H : Heap) (locs : List Loc) (ls : Array Slot), va_P D CLS (wR a q g0 g1 g2 g3 g4 g5 g6 g7 g8 g9 g10 g11 g12 g13 g14 g15 g16 g17 g18 g19) H → va_D A (wR a q g0 g1 g2 g3 g4 g5 g6 g7 g8 g9 g10 g11 g12 g13 g14 g15 g16 g17 g18 g19) → va_S A s.heap H locs → lv_has ls 15 [] → f_Ref_rounded_346  s0 g8 g9 = some r0 → W p l e rm_Ref_rounded s m args below meth c H locs 0 0 (MQ below (va_Ql (fun (r : Int64) (_ : Unit) => r = r0) (fun _ t => va_P D CLS (wR a q g0 g1 g2 g3 g4 g5 g6 g7 g8 g9 g10 g11 g12 g13 g14 g15 g16 g17 g18 g19) t.heap) A) args s 0 0 A) (F0 m 346 ls [.long s0]) := by
  obtain ⟨hx, hb, hml, hown, hts, hr, hlocks⟩ := id hC
  intro s0 H locs ls hP hD hS hl h
  rw [f_Ref_rounded_346] at h
  obtain rfl := os_of h
  exact W.lret (v := s0) hx hb hr (fun t ht hW => ⟨⟨_, (), rfl, rfl, (hPt hP ht)⟩, hS.F ht⟩) hS.2.2 (dt_at dt_Ref_rounded 179 rfl)
set_option maxRecDepth 100000 in
set_option maxHeartbeats 4000000 in
theorem k_Ref_rounded_334 {p : Program} {l : Launch} {e : Env} {s : State} {m : MethodId} {args : Array Value} {below : List Frame} {meth : Method} {c : Code} {D : va_G} {a : Nat → Nat} {q : Nat → ClassId} {A : Nat → Prop} (hC : CX p s m args meth c prog_12_method_15_code 15 "OutwardTapeModel" (some .long)) (hA : ∀ x, s.heap.size ≤ x → A x) (hK : va_K D CLS (tR q) s) {g0 : Int32} {g1 : Nat → Int32} {g2 : Nat → Int64} {g3 : Nat → Int64} {g4 : Nat → Int32} {g5 : Int32} {g6 : Nat → Int32} {g7 : Int32} {g8 : Nat → Int32} {g9 : Int32} {g10 : Int64} {g11 : Int64} {g12 : Int32} {g13 : Int32} {g14 : Int32} {g15 : Int64} {g16 : Int32} {g17 : Int32} {g18 : Int64} {g19 : Int32} {r0 : Int64} : ∀ (v1 : Int32) (v13 : Int64)  (H : Heap) (locs : List Loc) (ls : Array Slot), va_P D CLS (wR a q g0 g1 g2 g3 g4 g5 g6 g7 g8 g9 g10 g11 g12 g13 g14 g15 g16 g17 g18 g19) H → va_D A (wR a q g0 g1 g2 g3 g4 g5 g6 g7 g8 g9 g10 g11 g12 g13 g14 g15 g16 g17 g18 g19) → va_S A s.heap H locs → lv_has ls 15 [(1, .int v1), (13, .long v13)] → f_Ref_rounded_334  v1 v13 g8 g9 = some r0 → W p l e rm_Ref_rounded s m args below meth c H locs 0 0 (MQ below (va_Ql (fun (r : Int64) (_ : Unit) => r = r0) (fun _ t => va_P D CLS (wR a q g0 g1 g2 g3 g4 g5 g6 g7 g8 g9 g10 g11 g12 g13 g14 g15 g16 g17 g18 g19) t.heap) A) args s 0 0 A) (F0 m 334 ls []) := by
  obtain ⟨hx, hb, hml, hown, hts, hr, hlocks⟩ := id hC
  intro v1 v13 H locs ls hP hD hS hl h
  rw [f_Ref_rounded_334] at h
  refine lv_iload_n hx hb (dt_at dt_Ref_rounded 173 rfl) rfl (lv_at hl 0 rfl) ?_
  refine lv_if_eq (tgt := 344) hx hb (dt_at dt_Ref_rounded 174 rfl) (by decide) (fun c1 => ?_) (fun c1 => ?_)
  · have h := if_p h c1
    refine lv_lload hx hb (dt_at dt_Ref_rounded 178 rfl) (lv_at hl 1 rfl) ?_
    exact k_Ref_rounded_346 hC hA hK   v13 H locs ls hP hD hS (lv_sub hl [] rfl) h
  · have h := if_n h c1
    refine lv_lload hx hb (dt_at dt_Ref_rounded 175 rfl) (lv_at hl 1 rfl) ?_
    refine lv_lneg hx hb (dt_at dt_Ref_rounded 176 rfl) ?_
    refine lv_goto (tgt := 346) hx hb (dt_at dt_Ref_rounded 177 rfl) (by decide) ?_
    exact k_Ref_rounded_346 hC hA hK   (-v13) H locs ls hP hD hS (lv_sub hl [] rfl) h
set_option maxRecDepth 100000 in
set_option maxHeartbeats 4000000 in
theorem k_Ref_rounded_332 {p : Program} {l : Launch} {e : Env} {s : State} {m : MethodId} {args : Array Value} {below : List Frame} {meth : Method} {c : Code} {D : va_G} {a : Nat → Nat} {q : Nat → ClassId} {A : Nat → Prop} (hC : CX p s m args meth c prog_12_method_15_code 15 "OutwardTapeModel" (some .long)) (hA : ∀ x, s.heap.size ≤ x → A x) (hK : va_K D CLS (tR q) s) {g0 : Int32} {g1 : Nat → Int32} {g2 : Nat → Int64} {g3 : Nat → Int64} {g4 : Nat → Int32} {g5 : Int32} {g6 : Nat → Int32} {g7 : Int32} {g8 : Nat → Int32} {g9 : Int32} {g10 : Int64} {g11 : Int64} {g12 : Int32} {g13 : Int32} {g14 : Int32} {g15 : Int64} {g16 : Int32} {g17 : Int32} {g18 : Int64} {g19 : Int32} {r0 : Int64} : ∀ (s0 : Int64) (v1 : Int32)  (H : Heap) (locs : List Loc) (ls : Array Slot), va_P D CLS (wR a q g0 g1 g2 g3 g4 g5 g6 g7 g8 g9 g10 g11 g12 g13 g14 g15 g16 g17 g18 g19) H → va_D A (wR a q g0 g1 g2 g3 g4 g5 g6 g7 g8 g9 g10 g11 g12 g13 g14 g15 g16 g17 g18 g19) → va_S A s.heap H locs → lv_has ls 15 [(1, .int v1)] → f_Ref_rounded_332  s0 v1 g8 g9 = some r0 → W p l e rm_Ref_rounded s m args below meth c H locs 0 0 (MQ below (va_Ql (fun (r : Int64) (_ : Unit) => r = r0) (fun _ t => va_P D CLS (wR a q g0 g1 g2 g3 g4 g5 g6 g7 g8 g9 g10 g11 g12 g13 g14 g15 g16 g17 g18 g19) t.heap) A) args s 0 0 A) (F0 m 332 ls [.long s0]) := by
  obtain ⟨hx, hb, hml, hown, hts, hr, hlocks⟩ := id hC
  intro s0 v1 H locs ls hP hD hS hl h
  rw [f_Ref_rounded_332] at h
  refine lv_lstore (lv' := [(13, .long s0), (1, .int v1)]) hx hb (dt_at dt_Ref_rounded 172 rfl) hl (by decide) rfl (fun ls hl => ?_)
  exact k_Ref_rounded_334 hC hA hK   v1 s0 H locs ls hP hD hS (lv_sub hl [1, 0] rfl) h
set_option maxRecDepth 100000 in
set_option maxHeartbeats 4000000 in
theorem k_Ref_rounded_329 {p : Program} {l : Launch} {e : Env} {s : State} {m : MethodId} {args : Array Value} {below : List Frame} {meth : Method} {c : Code} {D : va_G} {a : Nat → Nat} {q : Nat → ClassId} {A : Nat → Prop} (hC : CX p s m args meth c prog_12_method_15_code 15 "OutwardTapeModel" (some .long)) (hA : ∀ x, s.heap.size ≤ x → A x) (hK : va_K D CLS (tR q) s) {g0 : Int32} {g1 : Nat → Int32} {g2 : Nat → Int64} {g3 : Nat → Int64} {g4 : Nat → Int32} {g5 : Int32} {g6 : Nat → Int32} {g7 : Int32} {g8 : Nat → Int32} {g9 : Int32} {g10 : Int64} {g11 : Int64} {g12 : Int32} {g13 : Int32} {g14 : Int32} {g15 : Int64} {g16 : Int32} {g17 : Int32} {g18 : Int64} {g19 : Int32} {r0 : Int64} : ∀ (v1 : Int32)  (H : Heap) (locs : List Loc) (ls : Array Slot), va_P D CLS (wR a q g0 g1 g2 g3 g4 g5 g6 g7 g8 g9 g10 g11 g12 g13 g14 g15 g16 g17 g18 g19) H → va_D A (wR a q g0 g1 g2 g3 g4 g5 g6 g7 g8 g9 g10 g11 g12 g13 g14 g15 g16 g17 g18 g19) → va_S A s.heap H locs → lv_has ls 15 [(1, .int v1)] → f_Ref_rounded_329  v1 g8 g9 = some r0 → W p l e rm_Ref_rounded s m args below meth c H locs 0 0 (MQ below (va_Ql (fun (r : Int64) (_ : Unit) => r = r0) (fun _ t => va_P D CLS (wR a q g0 g1 g2 g3 g4 g5 g6 g7 g8 g9 g10 g11 g12 g13 g14 g15 g16 g17 g18 g19) t.heap) A) args s 0 0 A) (F0 m 329 ls []) := by
  obtain ⟨hx, hb, hml, hown, hts, hr, hlocks⟩ := id hC
  intro v1 H locs ls hP hD hS hl h
  rw [f_Ref_rounded_329] at h
  refine lv_ldc2 (v := 9218868437227405311) hx hb hown (hts (Cond.constantLong "OutwardTapeModel" 71 (9218868437227405311)) (m_4 154 rfl rfl)) (dt_at dt_Ref_rounded 171 rfl) ?_
  exact k_Ref_rounded_332 hC hA hK   (9218868437227405311 : Int64) v1 H locs ls hP hD hS (lv_sub hl [0] rfl) h
set_option maxRecDepth 100000 in
set_option maxHeartbeats 4000000 in
theorem k_Ref_rounded_319 {p : Program} {l : Launch} {e : Env} {s : State} {m : MethodId} {args : Array Value} {below : List Frame} {meth : Method} {c : Code} {D : va_G} {a : Nat → Nat} {q : Nat → ClassId} {A : Nat → Prop} (hC : CX p s m args meth c prog_12_method_15_code 15 "OutwardTapeModel" (some .long)) (hA : ∀ x, s.heap.size ≤ x → A x) (hK : va_K D CLS (tR q) s) {g0 : Int32} {g1 : Nat → Int32} {g2 : Nat → Int64} {g3 : Nat → Int64} {g4 : Nat → Int32} {g5 : Int32} {g6 : Nat → Int32} {g7 : Int32} {g8 : Nat → Int32} {g9 : Int32} {g10 : Int64} {g11 : Int64} {g12 : Int32} {g13 : Int32} {g14 : Int32} {g15 : Int64} {g16 : Int32} {g17 : Int32} {g18 : Int64} {g19 : Int32} {r0 : Int64} : ∀ (s0 : Int32) (v1 : Int32)  (H : Heap) (locs : List Loc) (ls : Array Slot), va_P D CLS (wR a q g0 g1 g2 g3 g4 g5 g6 g7 g8 g9 g10 g11 g12 g13 g14 g15 g16 g17 g18 g19) H → va_D A (wR a q g0 g1 g2 g3 g4 g5 g6 g7 g8 g9 g10 g11 g12 g13 g14 g15 g16 g17 g18 g19) → va_S A s.heap H locs → lv_has ls 15 [(1, .int v1)] → f_Ref_rounded_319  s0 v1 g8 g9 = some r0 → W p l e rm_Ref_rounded s m args below meth c H locs 0 0 (MQ below (va_Ql (fun (r : Int64) (_ : Unit) => r = r0) (fun _ t => va_P D CLS (wR a q g0 g1 g2 g3 g4 g5 g6 g7 g8 g9 g10 g11 g12 g13 g14 g15 g16 g17 g18 g19) t.heap) A) args s 0 0 A) (F0 m 319 ls [.int s0]) := by
  obtain ⟨hx, hb, hml, hown, hts, hr, hlocks⟩ := id hC
  intro s0 v1 H locs ls hP hD hS hl h
  rw [f_Ref_rounded_319] at h
  refine lv_iload_n hx hb (dt_at dt_Ref_rounded 167 rfl) rfl (lv_at hl 0 rfl) ?_
  refine lv_icmp_eq (tgt := 329) hx hb (dt_at dt_Ref_rounded 168 rfl) (by decide) (fun c1 => ?_) (fun c1 => ?_)
  · have h := if_p h c1
    exact k_Ref_rounded_329 hC hA hK   v1 H locs ls hP hD hS (lv_sub hl [0] rfl) h
  · have h := if_n h c1
    refine lv_ldc2 (v := 9218868437227405312) hx hb hown (hts (Cond.constantLong "OutwardTapeModel" 69 (9218868437227405312)) (m_4 70 rfl rfl)) (dt_at dt_Ref_rounded 169 rfl) ?_
    refine lv_goto (tgt := 332) hx hb (dt_at dt_Ref_rounded 170 rfl) (by decide) ?_
    exact k_Ref_rounded_332 hC hA hK   (9218868437227405312 : Int64) v1 H locs ls hP hD hS (lv_sub hl [0] rfl) h
set_option maxRecDepth 100000 in
set_option maxHeartbeats 4000000 in
theorem k_Ref_rounded_293 {p : Program} {l : Launch} {e : Env} {s : State} {m : MethodId} {args : Array Value} {below : List Frame} {meth : Method} {c : Code} {D : va_G} {a : Nat → Nat} {q : Nat → ClassId} {A : Nat → Prop} (hC : CX p s m args meth c prog_12_method_15_code 15 "OutwardTapeModel" (some .long)) (hA : ∀ x, s.heap.size ≤ x → A x) (hK : va_K D CLS (tR q) s) {g0 : Int32} {g1 : Nat → Int32} {g2 : Nat → Int64} {g3 : Nat → Int64} {g4 : Nat → Int32} {g5 : Int32} {g6 : Nat → Int32} {g7 : Int32} {g8 : Nat → Int32} {g9 : Int32} {g10 : Int64} {g11 : Int64} {g12 : Int32} {g13 : Int32} {g14 : Int32} {g15 : Int64} {g16 : Int32} {g17 : Int32} {g18 : Int64} {g19 : Int32} {r0 : Int64} : ∀ (s0 : Int64) (v1 : Int32) (v3 : Int32)  (H : Heap) (locs : List Loc) (ls : Array Slot), va_P D CLS (wR a q g0 g1 g2 g3 g4 g5 g6 g7 g8 g9 g10 g11 g12 g13 g14 g15 g16 g17 g18 g19) H → va_D A (wR a q g0 g1 g2 g3 g4 g5 g6 g7 g8 g9 g10 g11 g12 g13 g14 g15 g16 g17 g18 g19) → va_S A s.heap H locs → lv_has ls 15 [(1, .int v1), (3, .int v3)] → f_Ref_rounded_293  s0 v1 v3 g8 g9 = some r0 → W p l e rm_Ref_rounded s m args below meth c H locs 0 0 (MQ below (va_Ql (fun (r : Int64) (_ : Unit) => r = r0) (fun _ t => va_P D CLS (wR a q g0 g1 g2 g3 g4 g5 g6 g7 g8 g9 g10 g11 g12 g13 g14 g15 g16 g17 g18 g19) t.heap) A) args s 0 0 A) (F0 m 293 ls [.long s0]) := by
  obtain ⟨hx, hb, hml, hown, hts, hr, hlocks⟩ := id hC
  intro s0 v1 v3 H locs ls hP hD hS hl h
  rw [f_Ref_rounded_293] at h
  refine lv_lstore (lv' := [(13, .long s0), (1, .int v1), (3, .int v3)]) hx hb (dt_at dt_Ref_rounded 153 rfl) hl (by decide) rfl (fun ls hl => ?_)
  refine lv_lload hx hb (dt_at dt_Ref_rounded 154 rfl) (lv_at hl 0 rfl) ?_
  refine lv_ldc2 (v := 9218868437227405312) hx hb hown (hts (Cond.constantLong "OutwardTapeModel" 69 (9218868437227405312)) (m_4 70 rfl rfl)) (dt_at dt_Ref_rounded 155 rfl) ?_
  refine lc_lt (tgt := 334) hx hb (dt_at dt_Ref_rounded 156 rfl) (dt_at dt_Ref_rounded 157 rfl) (by decide) (fun c1 => ?_) (fun c1 => ?_)
  · have h := if_p h c1
    exact k_Ref_rounded_334 hC hA hK   v1 s0 H locs ls hP hD hS (lv_sub hl [1, 0] rfl) h
  · have h := if_n h c1
    refine lv_iload_n hx hb (dt_at dt_Ref_rounded 158 rfl) rfl (lv_at hl 2 rfl) ?_
    refine lv_iconst (v := 2) hx hb (dt_at dt_Ref_rounded 159 rfl) (by decide) ?_
    refine lv_icmp_eq (tgt := 329) hx hb (dt_at dt_Ref_rounded 160 rfl) (by decide) (fun c2 => ?_) (fun c2 => ?_)
    · have h := if_p h c2
      exact k_Ref_rounded_329 hC hA hK   v1 H locs ls hP hD hS (lv_sub hl [1] rfl) h
    · have h := if_n h c2
      refine lv_iload_n hx hb (dt_at dt_Ref_rounded 161 rfl) rfl (lv_at hl 2 rfl) ?_
      refine lv_iconst (v := 1) hx hb (dt_at dt_Ref_rounded 162 rfl) (by decide) ?_
      refine lv_icmp_ne (tgt := 318) hx hb (dt_at dt_Ref_rounded 163 rfl) (by decide) (fun c3 => ?_) (fun c3 => ?_)
      · have h := if_n h c3
        refine lv_iconst (v := 0) hx hb (dt_at dt_Ref_rounded 166 rfl) (by decide) ?_
        exact k_Ref_rounded_319 hC hA hK   (0 : Int32) v1 H locs ls hP hD hS (lv_sub hl [1] rfl) h
      · have h := if_p h c3
        refine lv_iconst (v := 1) hx hb (dt_at dt_Ref_rounded 164 rfl) (by decide) ?_
        refine lv_goto (tgt := 319) hx hb (dt_at dt_Ref_rounded 165 rfl) (by decide) ?_
        exact k_Ref_rounded_319 hC hA hK   (1 : Int32) v1 H locs ls hP hD hS (lv_sub hl [1] rfl) h
set_option maxRecDepth 100000 in
set_option maxHeartbeats 4000000 in
theorem k_Ref_rounded_292 {p : Program} {l : Launch} {e : Env} {s : State} {m : MethodId} {args : Array Value} {below : List Frame} {meth : Method} {c : Code} {D : va_G} {a : Nat → Nat} {q : Nat → ClassId} {A : Nat → Prop} (hC : CX p s m args meth c prog_12_method_15_code 15 "OutwardTapeModel" (some .long)) (hA : ∀ x, s.heap.size ≤ x → A x) (hK : va_K D CLS (tR q) s) {g0 : Int32} {g1 : Nat → Int32} {g2 : Nat → Int64} {g3 : Nat → Int64} {g4 : Nat → Int32} {g5 : Int32} {g6 : Nat → Int32} {g7 : Int32} {g8 : Nat → Int32} {g9 : Int32} {g10 : Int64} {g11 : Int64} {g12 : Int32} {g13 : Int32} {g14 : Int32} {g15 : Int64} {g16 : Int32} {g17 : Int32} {g18 : Int64} {g19 : Int32} {r0 : Int64} : ∀ (s0 : Int64) (s1 : Int64) (v1 : Int32) (v3 : Int32)  (H : Heap) (locs : List Loc) (ls : Array Slot), va_P D CLS (wR a q g0 g1 g2 g3 g4 g5 g6 g7 g8 g9 g10 g11 g12 g13 g14 g15 g16 g17 g18 g19) H → va_D A (wR a q g0 g1 g2 g3 g4 g5 g6 g7 g8 g9 g10 g11 g12 g13 g14 g15 g16 g17 g18 g19) → va_S A s.heap H locs → lv_has ls 15 [(1, .int v1), (3, .int v3)] → f_Ref_rounded_292  s0 s1 v1 v3 g8 g9 = some r0 → W p l e rm_Ref_rounded s m args below meth c H locs 0 0 (MQ below (va_Ql (fun (r : Int64) (_ : Unit) => r = r0) (fun _ t => va_P D CLS (wR a q g0 g1 g2 g3 g4 g5 g6 g7 g8 g9 g10 g11 g12 g13 g14 g15 g16 g17 g18 g19) t.heap) A) args s 0 0 A) (F0 m 292 ls [.long s0, .long s1]) := by
  obtain ⟨hx, hb, hml, hown, hts, hr, hlocks⟩ := id hC
  intro s0 s1 v1 v3 H locs ls hP hD hS hl h
  rw [f_Ref_rounded_292] at h
  refine lv_ladd hx hb (dt_at dt_Ref_rounded 152 rfl) ?_
  exact k_Ref_rounded_293 hC hA hK   (s1 + s0) v1 v3 H locs ls hP hD hS (lv_sub hl [0, 1] rfl) h
set_option maxRecDepth 100000 in
set_option maxHeartbeats 4000000 in
theorem k_Ref_rounded_255 {p : Program} {l : Launch} {e : Env} {s : State} {m : MethodId} {args : Array Value} {below : List Frame} {meth : Method} {c : Code} {D : va_G} {a : Nat → Nat} {q : Nat → ClassId} {A : Nat → Prop} (hC : CX p s m args meth c prog_12_method_15_code 15 "OutwardTapeModel" (some .long)) (hA : ∀ x, s.heap.size ≤ x → A x) (hK : va_K D CLS (tR q) s) {g0 : Int32} {g1 : Nat → Int32} {g2 : Nat → Int64} {g3 : Nat → Int64} {g4 : Nat → Int32} {g5 : Int32} {g6 : Nat → Int32} {g7 : Int32} {g8 : Nat → Int32} {g9 : Int32} {g10 : Int64} {g11 : Int64} {g12 : Int32} {g13 : Int32} {g14 : Int32} {g15 : Int64} {g16 : Int32} {g17 : Int32} {g18 : Int64} {g19 : Int32} {r0 : Int64} : ∀ (s0 : Int32) (v1 : Int32) (v3 : Int32) (v5 : Int32) (v7 : Int64) (v11 : Int32)  (H : Heap) (locs : List Loc) (ls : Array Slot), va_P D CLS (wR a q g0 g1 g2 g3 g4 g5 g6 g7 g8 g9 g10 g11 g12 g13 g14 g15 g16 g17 g18 g19) H → va_D A (wR a q g0 g1 g2 g3 g4 g5 g6 g7 g8 g9 g10 g11 g12 g13 g14 g15 g16 g17 g18 g19) → va_S A s.heap H locs → lv_has ls 15 [(1, .int v1), (3, .int v3), (5, .int v5), (7, .long v7), (11, .int v11)] → f_Ref_rounded_255  s0 v1 v3 v5 v7 v11 g8 g9 = some r0 → W p l e rm_Ref_rounded s m args below meth c H locs 0 0 (MQ below (va_Ql (fun (r : Int64) (_ : Unit) => r = r0) (fun _ t => va_P D CLS (wR a q g0 g1 g2 g3 g4 g5 g6 g7 g8 g9 g10 g11 g12 g13 g14 g15 g16 g17 g18 g19) t.heap) A) args s 0 0 A) (F0 m 255 ls [.int s0]) := by
  obtain ⟨hx, hb, hml, hown, hts, hr, hlocks⟩ := id hC
  intro s0 v1 v3 v5 v7 v11 H locs ls hP hD hS hl h
  rw [f_Ref_rounded_255] at h
  refine lv_istore (lv' := [(12, .int s0), (1, .int v1), (3, .int v3), (5, .int v5), (7, .long v7), (11, .int v11)]) hx hb (dt_at dt_Ref_rounded 134 rfl) hl (by decide) rfl (fun ls hl => ?_)
  refine lv_iload hx hb (dt_at dt_Ref_rounded 135 rfl) (lv_at hl 0 rfl) ?_
  refine lv_if_eq (tgt := 268) hx hb (dt_at dt_Ref_rounded 136 rfl) (by decide) (fun c1 => ?_) (fun c1 => ?_)
  · have h := if_p h c1
    refine lv_iload hx hb (dt_at dt_Ref_rounded 139 rfl) (lv_at hl 3 rfl) ?_
    refine lv_sipush (v := 1074) hx hb (dt_at dt_Ref_rounded 140 rfl) (by decide) ?_
    refine lv_iadd hx hb (dt_at dt_Ref_rounded 141 rfl) ?_
    refine lv_i2l (v := (v5 + (1074 : Int32)).toInt64) hx hb (dt_at dt_Ref_rounded 142 rfl) rfl ?_
    refine lv_bipush (v := 52) hx hb (dt_at dt_Ref_rounded 143 rfl) (by decide) ?_
    refine lv_lshl (v := (j_lshl ((v5 + (1074 : Int32)).toInt64) (52 : Int32))) hx hb (dt_at dt_Ref_rounded 144 rfl) rfl ?_
    refine lv_iload hx hb (dt_at dt_Ref_rounded 145 rfl) (lv_at hl 5 rfl) ?_
    refine lv_if_eq (tgt := 290) hx hb (dt_at dt_Ref_rounded 146 rfl) (by decide) (fun c2 => ?_) (fun c2 => ?_)
    · have h := if_p h c2
      refine lv_lload hx hb (dt_at dt_Ref_rounded 151 rfl) (lv_at hl 4 rfl) ?_
      exact k_Ref_rounded_292 hC hA hK   v7 (j_lshl ((v5 + (1074 : Int32)).toInt64) (52 : Int32)) v1 v3 H locs ls hP hD hS (lv_sub hl [1, 2] rfl) h
    · have h := if_n h c2
      refine lv_lload hx hb (dt_at dt_Ref_rounded 147 rfl) (lv_at hl 4 rfl) ?_
      refine lv_lconst (v := 1) hx hb (dt_at dt_Ref_rounded 148 rfl) (by decide) ?_
      refine lv_ladd hx hb (dt_at dt_Ref_rounded 149 rfl) ?_
      refine lv_goto (tgt := 292) hx hb (dt_at dt_Ref_rounded 150 rfl) (by decide) ?_
      exact k_Ref_rounded_292 hC hA hK   (v7 + (1 : Int64)) (j_lshl ((v5 + (1074 : Int32)).toInt64) (52 : Int32)) v1 v3 H locs ls hP hD hS (lv_sub hl [1, 2] rfl) h
  · have h := if_n h c1
    refine lv_ldc2 (v := 9218868437227405312) hx hb hown (hts (Cond.constantLong "OutwardTapeModel" 69 (9218868437227405312)) (m_4 70 rfl rfl)) (dt_at dt_Ref_rounded 137 rfl) ?_
    refine lv_goto (tgt := 293) hx hb (dt_at dt_Ref_rounded 138 rfl) (by decide) ?_
    exact k_Ref_rounded_293 hC hA hK   (9218868437227405312 : Int64) v1 v3 H locs ls hP hD hS (lv_sub hl [1, 2] rfl) h
set_option maxRecDepth 100000 in
set_option maxHeartbeats 4000000 in
theorem k_Ref_rounded_240 {p : Program} {l : Launch} {e : Env} {s : State} {m : MethodId} {args : Array Value} {below : List Frame} {meth : Method} {c : Code} {D : va_G} {a : Nat → Nat} {q : Nat → ClassId} {A : Nat → Prop} (hC : CX p s m args meth c prog_12_method_15_code 15 "OutwardTapeModel" (some .long)) (hA : ∀ x, s.heap.size ≤ x → A x) (hK : va_K D CLS (tR q) s) {g0 : Int32} {g1 : Nat → Int32} {g2 : Nat → Int64} {g3 : Nat → Int64} {g4 : Nat → Int32} {g5 : Int32} {g6 : Nat → Int32} {g7 : Int32} {g8 : Nat → Int32} {g9 : Int32} {g10 : Int64} {g11 : Int64} {g12 : Int32} {g13 : Int32} {g14 : Int32} {g15 : Int64} {g16 : Int32} {g17 : Int32} {g18 : Int64} {g19 : Int32} {r0 : Int64} : ∀ (s0 : Int32) (v1 : Int32) (v3 : Int32) (v5 : Int32) (v7 : Int64)  (H : Heap) (locs : List Loc) (ls : Array Slot), va_P D CLS (wR a q g0 g1 g2 g3 g4 g5 g6 g7 g8 g9 g10 g11 g12 g13 g14 g15 g16 g17 g18 g19) H → va_D A (wR a q g0 g1 g2 g3 g4 g5 g6 g7 g8 g9 g10 g11 g12 g13 g14 g15 g16 g17 g18 g19) → va_S A s.heap H locs → lv_has ls 15 [(1, .int v1), (3, .int v3), (5, .int v5), (7, .long v7)] → f_Ref_rounded_240  s0 v1 v3 v5 v7 g8 g9 = some r0 → W p l e rm_Ref_rounded s m args below meth c H locs 0 0 (MQ below (va_Ql (fun (r : Int64) (_ : Unit) => r = r0) (fun _ t => va_P D CLS (wR a q g0 g1 g2 g3 g4 g5 g6 g7 g8 g9 g10 g11 g12 g13 g14 g15 g16 g17 g18 g19) t.heap) A) args s 0 0 A) (F0 m 240 ls [.int s0]) := by
  obtain ⟨hx, hb, hml, hown, hts, hr, hlocks⟩ := id hC
  intro s0 v1 v3 v5 v7 H locs ls hP hD hS hl h
  rw [f_Ref_rounded_240] at h
  refine lv_istore (lv' := [(11, .int s0), (1, .int v1), (3, .int v3), (5, .int v5), (7, .long v7)]) hx hb (dt_at dt_Ref_rounded 127 rfl) hl (by decide) rfl (fun ls hl => ?_)
  refine lv_iload hx hb (dt_at dt_Ref_rounded 128 rfl) (lv_at hl 3 rfl) ?_
  refine lv_sipush (v := 971) hx hb (dt_at dt_Ref_rounded 129 rfl) (by decide) ?_
  refine lv_icmp_le (tgt := 254) hx hb (dt_at dt_Ref_rounded 130 rfl) (by decide) (fun c1 => ?_) (fun c1 => ?_)
  · have h := if_p h c1
    refine lv_iconst (v := 0) hx hb (dt_at dt_Ref_rounded 133 rfl) (by decide) ?_
    exact k_Ref_rounded_255 hC hA hK   (0 : Int32) v1 v3 v5 v7 s0 H locs ls hP hD hS (lv_sub hl [1, 2, 3, 4, 0] rfl) h
  · have h := if_n h c1
    refine lv_iconst (v := 1) hx hb (dt_at dt_Ref_rounded 131 rfl) (by decide) ?_
    refine lv_goto (tgt := 255) hx hb (dt_at dt_Ref_rounded 132 rfl) (by decide) ?_
    exact k_Ref_rounded_255 hC hA hK   (1 : Int32) v1 v3 v5 v7 s0 H locs ls hP hD hS (lv_sub hl [1, 2, 3, 4, 0] rfl) h
set_option maxRecDepth 100000 in
set_option maxHeartbeats 4000000 in
theorem k_Ref_rounded_239 {p : Program} {l : Launch} {e : Env} {s : State} {m : MethodId} {args : Array Value} {below : List Frame} {meth : Method} {c : Code} {D : va_G} {a : Nat → Nat} {q : Nat → ClassId} {A : Nat → Prop} (hC : CX p s m args meth c prog_12_method_15_code 15 "OutwardTapeModel" (some .long)) (hA : ∀ x, s.heap.size ≤ x → A x) (hK : va_K D CLS (tR q) s) {g0 : Int32} {g1 : Nat → Int32} {g2 : Nat → Int64} {g3 : Nat → Int64} {g4 : Nat → Int32} {g5 : Int32} {g6 : Nat → Int32} {g7 : Int32} {g8 : Nat → Int32} {g9 : Int32} {g10 : Int64} {g11 : Int64} {g12 : Int32} {g13 : Int32} {g14 : Int32} {g15 : Int64} {g16 : Int32} {g17 : Int32} {g18 : Int64} {g19 : Int32} {r0 : Int64} : ∀ (v1 : Int32) (v3 : Int32) (v5 : Int32) (v7 : Int64)  (H : Heap) (locs : List Loc) (ls : Array Slot), va_P D CLS (wR a q g0 g1 g2 g3 g4 g5 g6 g7 g8 g9 g10 g11 g12 g13 g14 g15 g16 g17 g18 g19) H → va_D A (wR a q g0 g1 g2 g3 g4 g5 g6 g7 g8 g9 g10 g11 g12 g13 g14 g15 g16 g17 g18 g19) → va_S A s.heap H locs → lv_has ls 15 [(1, .int v1), (3, .int v3), (5, .int v5), (7, .long v7)] → f_Ref_rounded_239  v1 v3 v5 v7 g8 g9 = some r0 → W p l e rm_Ref_rounded s m args below meth c H locs 0 0 (MQ below (va_Ql (fun (r : Int64) (_ : Unit) => r = r0) (fun _ t => va_P D CLS (wR a q g0 g1 g2 g3 g4 g5 g6 g7 g8 g9 g10 g11 g12 g13 g14 g15 g16 g17 g18 g19) t.heap) A) args s 0 0 A) (F0 m 239 ls []) := by
  obtain ⟨hx, hb, hml, hown, hts, hr, hlocks⟩ := id hC
  intro v1 v3 v5 v7 H locs ls hP hD hS hl h
  rw [f_Ref_rounded_239] at h
  refine lv_iconst (v := 0) hx hb (dt_at dt_Ref_rounded 126 rfl) (by decide) ?_
  exact k_Ref_rounded_240 hC hA hK   (0 : Int32) v1 v3 v5 v7 H locs ls hP hD hS (lv_sub hl [0, 1, 2, 3] rfl) h
set_option maxRecDepth 100000 in
set_option maxHeartbeats 4000000 in
theorem k_Ref_rounded_231 {p : Program} {l : Launch} {e : Env} {s : State} {m : MethodId} {args : Array Value} {below : List Frame} {meth : Method} {c : Code} {D : va_G} {a : Nat → Nat} {q : Nat → ClassId} {A : Nat → Prop} (hC : CX p s m args meth c prog_12_method_15_code 15 "OutwardTapeModel" (some .long)) (hA : ∀ x, s.heap.size ≤ x → A x) (hK : va_K D CLS (tR q) s) {g0 : Int32} {g1 : Nat → Int32} {g2 : Nat → Int64} {g3 : Nat → Int64} {g4 : Nat → Int32} {g5 : Int32} {g6 : Nat → Int32} {g7 : Int32} {g8 : Nat → Int32} {g9 : Int32} {g10 : Int64} {g11 : Int64} {g12 : Int32} {g13 : Int32} {g14 : Int32} {g15 : Int64} {g16 : Int32} {g17 : Int32} {g18 : Int64} {g19 : Int32} {r0 : Int64} : ∀ (s0 : Int32) (v1 : Int32) (v3 : Int32) (v5 : Int32) (v7 : Int64)  (H : Heap) (locs : List Loc) (ls : Array Slot), va_P D CLS (wR a q g0 g1 g2 g3 g4 g5 g6 g7 g8 g9 g10 g11 g12 g13 g14 g15 g16 g17 g18 g19) H → va_D A (wR a q g0 g1 g2 g3 g4 g5 g6 g7 g8 g9 g10 g11 g12 g13 g14 g15 g16 g17 g18 g19) → va_S A s.heap H locs → lv_has ls 15 [(1, .int v1), (3, .int v3), (5, .int v5), (7, .long v7)] → f_Ref_rounded_231  s0 v1 v3 v5 v7 g8 g9 = some r0 → W p l e rm_Ref_rounded s m args below meth c H locs 0 0 (MQ below (va_Ql (fun (r : Int64) (_ : Unit) => r = r0) (fun _ t => va_P D CLS (wR a q g0 g1 g2 g3 g4 g5 g6 g7 g8 g9 g10 g11 g12 g13 g14 g15 g16 g17 g18 g19) t.heap) A) args s 0 0 A) (F0 m 231 ls [.int s0]) := by
  obtain ⟨hx, hb, hml, hown, hts, hr, hlocks⟩ := id hC
  intro s0 v1 v3 v5 v7 H locs ls hP hD hS hl h
  rw [f_Ref_rounded_231] at h
  refine lv_iload_n hx hb (dt_at dt_Ref_rounded 122 rfl) rfl (lv_at hl 0 rfl) ?_
  refine lv_icmp_eq (tgt := 239) hx hb (dt_at dt_Ref_rounded 123 rfl) (by decide) (fun c1 => ?_) (fun c1 => ?_)
  · have h := if_p h c1
    exact k_Ref_rounded_239 hC hA hK   v1 v3 v5 v7 H locs ls hP hD hS (lv_sub hl [0, 1, 2, 3] rfl) h
  · have h := if_n h c1
    refine lv_iconst (v := 1) hx hb (dt_at dt_Ref_rounded 124 rfl) (by decide) ?_
    refine lv_goto (tgt := 240) hx hb (dt_at dt_Ref_rounded 125 rfl) (by decide) ?_
    exact k_Ref_rounded_240 hC hA hK   (1 : Int32) v1 v3 v5 v7 H locs ls hP hD hS (lv_sub hl [0, 1, 2, 3] rfl) h
set_option maxRecDepth 100000 in
set_option maxHeartbeats 4000000 in
theorem k_Ref_rounded_221 {p : Program} {l : Launch} {e : Env} {s : State} {m : MethodId} {args : Array Value} {below : List Frame} {meth : Method} {c : Code} {D : va_G} {a : Nat → Nat} {q : Nat → ClassId} {A : Nat → Prop} (hC : CX p s m args meth c prog_12_method_15_code 15 "OutwardTapeModel" (some .long)) (hA : ∀ x, s.heap.size ≤ x → A x) (hK : va_K D CLS (tR q) s) {g0 : Int32} {g1 : Nat → Int32} {g2 : Nat → Int64} {g3 : Nat → Int64} {g4 : Nat → Int32} {g5 : Int32} {g6 : Nat → Int32} {g7 : Int32} {g8 : Nat → Int32} {g9 : Int32} {g10 : Int64} {g11 : Int64} {g12 : Int32} {g13 : Int32} {g14 : Int32} {g15 : Int64} {g16 : Int32} {g17 : Int32} {g18 : Int64} {g19 : Int32} {r0 : Int64} : ∀ (v1 : Int32) (v3 : Int32) (v5 : Int32) (v7 : Int64)  (H : Heap) (locs : List Loc) (ls : Array Slot), va_P D CLS (wR a q g0 g1 g2 g3 g4 g5 g6 g7 g8 g9 g10 g11 g12 g13 g14 g15 g16 g17 g18 g19) H → va_D A (wR a q g0 g1 g2 g3 g4 g5 g6 g7 g8 g9 g10 g11 g12 g13 g14 g15 g16 g17 g18 g19) → va_S A s.heap H locs → lv_has ls 15 [(1, .int v1), (3, .int v3), (5, .int v5), (7, .long v7)] → f_Ref_rounded_221  v1 v3 v5 v7 g8 g9 = some r0 → W p l e rm_Ref_rounded s m args below meth c H locs 0 0 (MQ below (va_Ql (fun (r : Int64) (_ : Unit) => r = r0) (fun _ t => va_P D CLS (wR a q g0 g1 g2 g3 g4 g5 g6 g7 g8 g9 g10 g11 g12 g13 g14 g15 g16 g17 g18 g19) t.heap) A) args s 0 0 A) (F0 m 221 ls []) := by
  obtain ⟨hx, hb, hml, hown, hts, hr, hlocks⟩ := id hC
  intro v1 v3 v5 v7 H locs ls hP hD hS hl h
  rw [f_Ref_rounded_221] at h
  refine lv_iload_n hx hb (dt_at dt_Ref_rounded 116 rfl) rfl (lv_at hl 1 rfl) ?_
  refine lv_iconst (v := 1) hx hb (dt_at dt_Ref_rounded 117 rfl) (by decide) ?_
  refine lv_icmp_ne (tgt := 230) hx hb (dt_at dt_Ref_rounded 118 rfl) (by decide) (fun c1 => ?_) (fun c1 => ?_)
  · have h := if_n h c1
    refine lv_iconst (v := 0) hx hb (dt_at dt_Ref_rounded 121 rfl) (by decide) ?_
    exact k_Ref_rounded_231 hC hA hK   (0 : Int32) v1 v3 v5 v7 H locs ls hP hD hS (lv_sub hl [0, 1, 2, 3] rfl) h
  · have h := if_p h c1
    refine lv_iconst (v := 1) hx hb (dt_at dt_Ref_rounded 119 rfl) (by decide) ?_
    refine lv_goto (tgt := 231) hx hb (dt_at dt_Ref_rounded 120 rfl) (by decide) ?_
    exact k_Ref_rounded_231 hC hA hK   (1 : Int32) v1 v3 v5 v7 H locs ls hP hD hS (lv_sub hl [0, 1, 2, 3] rfl) h
set_option maxRecDepth 100000 in
set_option maxHeartbeats 4000000 in
theorem k_Ref_rounded_207 {p : Program} {l : Launch} {e : Env} {s : State} {m : MethodId} {args : Array Value} {below : List Frame} {meth : Method} {c : Code} {D : va_G} {a : Nat → Nat} {q : Nat → ClassId} {A : Nat → Prop} (hC : CX p s m args meth c prog_12_method_15_code 15 "OutwardTapeModel" (some .long)) (hA : ∀ x, s.heap.size ≤ x → A x) (hK : va_K D CLS (tR q) s) {g0 : Int32} {g1 : Nat → Int32} {g2 : Nat → Int64} {g3 : Nat → Int64} {g4 : Nat → Int32} {g5 : Int32} {g6 : Nat → Int32} {g7 : Int32} {g8 : Nat → Int32} {g9 : Int32} {g10 : Int64} {g11 : Int64} {g12 : Int32} {g13 : Int32} {g14 : Int32} {g15 : Int64} {g16 : Int32} {g17 : Int32} {g18 : Int64} {g19 : Int32} {r0 : Int64} : ∀ (v1 : Int32) (v3 : Int32) (v5 : Int32) (v7 : Int64)  (H : Heap) (locs : List Loc) (ls : Array Slot), va_P D CLS (wR a q g0 g1 g2 g3 g4 g5 g6 g7 g8 g9 g10 g11 g12 g13 g14 g15 g16 g17 g18 g19) H → va_D A (wR a q g0 g1 g2 g3 g4 g5 g6 g7 g8 g9 g10 g11 g12 g13 g14 g15 g16 g17 g18 g19) → va_S A s.heap H locs → lv_has ls 15 [(1, .int v1), (3, .int v3), (5, .int v5), (7, .long v7)] → f_Ref_rounded_207  v1 v3 v5 v7 g8 g9 = some r0 → W p l e rm_Ref_rounded s m args below meth c H locs 0 0 (MQ below (va_Ql (fun (r : Int64) (_ : Unit) => r = r0) (fun _ t => va_P D CLS (wR a q g0 g1 g2 g3 g4 g5 g6 g7 g8 g9 g10 g11 g12 g13 g14 g15 g16 g17 g18 g19) t.heap) A) args s 0 0 A) (F0 m 207 ls []) := by
  obtain ⟨hx, hb, hml, hown, hts, hr, hlocks⟩ := id hC
  intro v1 v3 v5 v7 H locs ls hP hD hS hl h
  rw [f_Ref_rounded_207] at h
  refine lv_iconst (v := 0) hx hb (dt_at dt_Ref_rounded 110 rfl) (by decide) ?_
  refine lv_goto (tgt := 240) hx hb (dt_at dt_Ref_rounded 111 rfl) (by decide) ?_
  exact k_Ref_rounded_240 hC hA hK   (0 : Int32) v1 v3 v5 v7 H locs ls hP hD hS (lv_sub hl [0, 1, 2, 3] rfl) h
set_option maxRecDepth 100000 in
set_option maxHeartbeats 4000000 in
theorem k_Ref_rounded_203 {p : Program} {l : Launch} {e : Env} {s : State} {m : MethodId} {args : Array Value} {below : List Frame} {meth : Method} {c : Code} {D : va_G} {a : Nat → Nat} {q : Nat → ClassId} {A : Nat → Prop} (hC : CX p s m args meth c prog_12_method_15_code 15 "OutwardTapeModel" (some .long)) (hA : ∀ x, s.heap.size ≤ x → A x) (hK : va_K D CLS (tR q) s) {g0 : Int32} {g1 : Nat → Int32} {g2 : Nat → Int64} {g3 : Nat → Int64} {g4 : Nat → Int32} {g5 : Int32} {g6 : Nat → Int32} {g7 : Int32} {g8 : Nat → Int32} {g9 : Int32} {g10 : Int64} {g11 : Int64} {g12 : Int32} {g13 : Int32} {g14 : Int32} {g15 : Int64} {g16 : Int32} {g17 : Int32} {g18 : Int64} {g19 : Int32} {r0 : Int64} : ∀ (v1 : Int32) (v3 : Int32) (v5 : Int32) (v7 : Int64)  (H : Heap) (locs : List Loc) (ls : Array Slot), va_P D CLS (wR a q g0 g1 g2 g3 g4 g5 g6 g7 g8 g9 g10 g11 g12 g13 g14 g15 g16 g17 g18 g19) H → va_D A (wR a q g0 g1 g2 g3 g4 g5 g6 g7 g8 g9 g10 g11 g12 g13 g14 g15 g16 g17 g18 g19) → va_S A s.heap H locs → lv_has ls 15 [(1, .int v1), (3, .int v3), (5, .int v5), (7, .long v7)] → f_Ref_rounded_203  v1 v3 v5 v7 g8 g9 = some r0 → W p l e rm_Ref_rounded s m args below meth c H locs 0 0 (MQ below (va_Ql (fun (r : Int64) (_ : Unit) => r = r0) (fun _ t => va_P D CLS (wR a q g0 g1 g2 g3 g4 g5 g6 g7 g8 g9 g10 g11 g12 g13 g14 g15 g16 g17 g18 g19) t.heap) A) args s 0 0 A) (F0 m 203 ls []) := by
  obtain ⟨hx, hb, hml, hown, hts, hr, hlocks⟩ := id hC
  intro v1 v3 v5 v7 H locs ls hP hD hS hl h
  rw [f_Ref_rounded_203] at h
  refine lv_iconst (v := 1) hx hb (dt_at dt_Ref_rounded 108 rfl) (by decide) ?_
  refine lv_goto (tgt := 240) hx hb (dt_at dt_Ref_rounded 109 rfl) (by decide) ?_
  exact k_Ref_rounded_240 hC hA hK   (1 : Int32) v1 v3 v5 v7 H locs ls hP hD hS (lv_sub hl [0, 1, 2, 3] rfl) h
set_option maxRecDepth 100000 in
set_option maxHeartbeats 4000000 in
theorem k_Ref_rounded_175 {p : Program} {l : Launch} {e : Env} {s : State} {m : MethodId} {args : Array Value} {below : List Frame} {meth : Method} {c : Code} {D : va_G} {a : Nat → Nat} {q : Nat → ClassId} {A : Nat → Prop} (hC : CX p s m args meth c prog_12_method_15_code 15 "OutwardTapeModel" (some .long)) (hA : ∀ x, s.heap.size ≤ x → A x) (hK : va_K D CLS (tR q) s) {g0 : Int32} {g1 : Nat → Int32} {g2 : Nat → Int64} {g3 : Nat → Int64} {g4 : Nat → Int32} {g5 : Int32} {g6 : Nat → Int32} {g7 : Int32} {g8 : Nat → Int32} {g9 : Int32} {g10 : Int64} {g11 : Int64} {g12 : Int32} {g13 : Int32} {g14 : Int32} {g15 : Int64} {g16 : Int32} {g17 : Int32} {g18 : Int64} {g19 : Int32} {r0 : Int64} : ∀ (s0 : Int32) (v1 : Int32) (v3 : Int32) (v5 : Int32) (v7 : Int64) (v9 : Int32)  (H : Heap) (locs : List Loc) (ls : Array Slot), va_P D CLS (wR a q g0 g1 g2 g3 g4 g5 g6 g7 g8 g9 g10 g11 g12 g13 g14 g15 g16 g17 g18 g19) H → va_D A (wR a q g0 g1 g2 g3 g4 g5 g6 g7 g8 g9 g10 g11 g12 g13 g14 g15 g16 g17 g18 g19) → va_S A s.heap H locs → lv_has ls 15 [(1, .int v1), (3, .int v3), (5, .int v5), (7, .long v7), (9, .int v9)] → f_Ref_rounded_175  s0 v1 v3 v5 v7 v9 g8 g9 = some r0 → W p l e rm_Ref_rounded s m args below meth c H locs 0 0 (MQ below (va_Ql (fun (r : Int64) (_ : Unit) => r = r0) (fun _ t => va_P D CLS (wR a q g0 g1 g2 g3 g4 g5 g6 g7 g8 g9 g10 g11 g12 g13 g14 g15 g16 g17 g18 g19) t.heap) A) args s 0 0 A) (F0 m 175 ls [.int s0]) := by
  obtain ⟨hx, hb, hml, hown, hts, hr, hlocks⟩ := id hC
  intro s0 v1 v3 v5 v7 v9 H locs ls hP hD hS hl h
  rw [f_Ref_rounded_175] at h
  refine lv_istore (lv' := [(10, .int s0), (1, .int v1), (3, .int v3), (5, .int v5), (7, .long v7), (9, .int v9)]) hx hb (dt_at dt_Ref_rounded 94 rfl) hl (by decide) rfl (fun ls hl => ?_)
  refine lv_iload_n hx hb (dt_at dt_Ref_rounded 95 rfl) rfl (lv_at hl 2 rfl) ?_
  refine lv_iconst (v := 2) hx hb (dt_at dt_Ref_rounded 96 rfl) (by decide) ?_
  refine lv_icmp_ne (tgt := 211) hx hb (dt_at dt_Ref_rounded 97 rfl) (by decide) (fun c1 => ?_) (fun c1 => ?_)
  · have h := if_n h c1
    refine lv_iload hx hb (dt_at dt_Ref_rounded 112 rfl) (lv_at hl 0 rfl) ?_
    refine lv_if_ne (tgt := 221) hx hb (dt_at dt_Ref_rounded 113 rfl) (by decide) (fun c2 => ?_) (fun c2 => ?_)
    · have h := if_n h c2
      exact k_Ref_rounded_221 hC hA hK   v1 v3 v5 v7 H locs ls hP hD hS (lv_sub hl [1, 2, 3, 4] rfl) h
    · have h := if_p h c2
      refine lv_iload hx hb (dt_at dt_Ref_rounded 114 rfl) (lv_at hl 5 rfl) ?_
      refine lv_if_eq (tgt := 239) hx hb (dt_at dt_Ref_rounded 115 rfl) (by decide) (fun c3 => ?_) (fun c3 => ?_)
      · have h := if_p h c3
        exact k_Ref_rounded_239 hC hA hK   v1 v3 v5 v7 H locs ls hP hD hS (lv_sub hl [1, 2, 3, 4] rfl) h
      · have h := if_n h c3
        exact k_Ref_rounded_221 hC hA hK   v1 v3 v5 v7 H locs ls hP hD hS (lv_sub hl [1, 2, 3, 4] rfl) h
  · have h := if_p h c1
    refine lv_iload hx hb (dt_at dt_Ref_rounded 98 rfl) (lv_at hl 0 rfl) ?_
    refine lv_if_eq (tgt := 207) hx hb (dt_at dt_Ref_rounded 99 rfl) (by decide) (fun c4 => ?_) (fun c4 => ?_)
    · have h := if_p h c4
      exact k_Ref_rounded_207 hC hA hK   v1 v3 v5 v7 H locs ls hP hD hS (lv_sub hl [1, 2, 3, 4] rfl) h
    · have h := if_n h c4
      refine lv_iload hx hb (dt_at dt_Ref_rounded 100 rfl) (lv_at hl 5 rfl) ?_
      refine lv_if_ne (tgt := 203) hx hb (dt_at dt_Ref_rounded 101 rfl) (by decide) (fun c5 => ?_) (fun c5 => ?_)
      · have h := if_n h c5
        exact k_Ref_rounded_203 hC hA hK   v1 v3 v5 v7 H locs ls hP hD hS (lv_sub hl [1, 2, 3, 4] rfl) h
      · have h := if_p h c5
        refine lv_lload hx hb (dt_at dt_Ref_rounded 102 rfl) (lv_at hl 4 rfl) ?_
        refine lv_ldc2 (v := 2) hx hb hown (hts (Cond.constantLong "OutwardTapeModel" 63 (2)) (m_4 153 rfl rfl)) (dt_at dt_Ref_rounded 103 rfl) ?_
        refine lv_lrem hx hb (dt_at dt_Ref_rounded 104 rfl) (by decide) ?_
        refine lv_lconst (v := 1) hx hb (dt_at dt_Ref_rounded 105 rfl) (by decide) ?_
        refine lc_ne (tgt := 207) hx hb (dt_at dt_Ref_rounded 106 rfl) (dt_at dt_Ref_rounded 107 rfl) (by decide) (fun c6 => ?_) (fun c6 => ?_)
        · have h := if_n h c6
          exact k_Ref_rounded_207 hC hA hK   v1 v3 v5 v7 H locs ls hP hD hS (lv_sub hl [1, 2, 3, 4] rfl) h
        · have h := if_p h c6
          exact k_Ref_rounded_203 hC hA hK   v1 v3 v5 v7 H locs ls hP hD hS (lv_sub hl [1, 2, 3, 4] rfl) h
set_option maxRecDepth 100000 in
set_option maxHeartbeats 4000000 in
theorem k_Ref_rounded_149 {p : Program} {l : Launch} {e : Env} {s : State} {m : MethodId} {args : Array Value} {below : List Frame} {meth : Method} {c : Code} {D : va_G} {a : Nat → Nat} {q : Nat → ClassId} {A : Nat → Prop} (hC : CX p s m args meth c prog_12_method_15_code 15 "OutwardTapeModel" (some .long)) (hA : ∀ x, s.heap.size ≤ x → A x) (hK : va_K D CLS (tR q) s) {g0 : Int32} {g1 : Nat → Int32} {g2 : Nat → Int64} {g3 : Nat → Int64} {g4 : Nat → Int32} {g5 : Int32} {g6 : Nat → Int32} {g7 : Int32} {g8 : Nat → Int32} {g9 : Int32} {g10 : Int64} {g11 : Int64} {g12 : Int32} {g13 : Int32} {g14 : Int32} {g15 : Int64} {g16 : Int32} {g17 : Int32} {g18 : Int64} {g19 : Int32} {r0 : Int64} (k119 : Int32 → Int32 → Int32 → Int32 → Int64 → Int32 → Int32 → (Nat → Int32) → Int32 → Option (Int64)) (hk119 : ∀ (v1 : Int32) (v3 : Int32) (v5 : Int32) (v6 : Int32) (v7 : Int64) (v9 : Int32) (v10 : Int32)  (H : Heap) (locs : List Loc) (ls : Array Slot), va_P D CLS (wR a q g0 g1 g2 g3 g4 g5 g6 g7 g8 g9 g10 g11 g12 g13 g14 g15 g16 g17 g18 g19) H → va_D A (wR a q g0 g1 g2 g3 g4 g5 g6 g7 g8 g9 g10 g11 g12 g13 g14 g15 g16 g17 g18 g19) → va_S A s.heap H locs → lv_has ls 15 [(0, .ref (a 0)), (1, .int v1), (3, .int v3), (5, .int v5), (6, .int v6), (7, .long v7), (9, .int v9), (10, .int v10)] → k119 v1 v3 v5 v6 v7 v9 v10 g8 g9 = some r0 → W p l e rm_Ref_rounded s m args below meth c H locs 0 0 (MQ below (va_Ql (fun (r : Int64) (_ : Unit) => r = r0) (fun _ t => va_P D CLS (wR a q g0 g1 g2 g3 g4 g5 g6 g7 g8 g9 g10 g11 g12 g13 g14 g15 g16 g17 g18 g19) t.heap) A) args s 0 0 A) (F0 m 119 ls [])) : ∀ (s0 : Int32) (v1 : Int32) (v3 : Int32) (v5 : Int32) (v6 : Int32) (v7 : Int64) (v10 : Int32)  (H : Heap) (locs : List Loc) (ls : Array Slot), va_P D CLS (wR a q g0 g1 g2 g3 g4 g5 g6 g7 g8 g9 g10 g11 g12 g13 g14 g15 g16 g17 g18 g19) H → va_D A (wR a q g0 g1 g2 g3 g4 g5 g6 g7 g8 g9 g10 g11 g12 g13 g14 g15 g16 g17 g18 g19) → va_S A s.heap H locs → lv_has ls 15 [(0, .ref (a 0)), (1, .int v1), (3, .int v3), (5, .int v5), (6, .int v6), (7, .long v7), (10, .int v10)] → f_Ref_rounded_149 k119 s0 v1 v3 v5 v6 v7 v10 g8 g9 = some r0 → W p l e rm_Ref_rounded s m args below meth c H locs 0 0 (MQ below (va_Ql (fun (r : Int64) (_ : Unit) => r = r0) (fun _ t => va_P D CLS (wR a q g0 g1 g2 g3 g4 g5 g6 g7 g8 g9 g10 g11 g12 g13 g14 g15 g16 g17 g18 g19) t.heap) A) args s 0 0 A) (F0 m 149 ls [.int s0]) := by
  obtain ⟨hx, hb, hml, hown, hts, hr, hlocks⟩ := id hC
  intro s0 v1 v3 v5 v6 v7 v10 H locs ls hP hD hS hl h
  rw [f_Ref_rounded_149] at h
  refine lv_istore (lv' := [(9, .int s0), (0, .ref (a 0)), (1, .int v1), (3, .int v3), (5, .int v5), (6, .int v6), (7, .long v7), (10, .int v10)]) hx hb (dt_at dt_Ref_rounded 80 rfl) hl (by decide) rfl (fun ls hl => ?_)
  obtain ⟨t1, e_t1, h⟩ := ol_of h
  refine lv_iinc (v := t1) (lv' := [(10, .int t1), (9, .int s0), (0, .ref (a 0)), (1, .int v1), (3, .int v3), (5, .int v5), (6, .int v6), (7, .long v7)]) hx hb (dt_at dt_Ref_rounded 81 rfl) hl (k := 7) rfl (by rw [e_t1]; rfl) (by decide) rfl (fun ls hl => ?_)
  refine lv_goto (tgt := 119) hx hb (dt_at dt_Ref_rounded 82 rfl) (by decide) ?_
  exact hk119 v1 v3 v5 v6 v7 s0 t1 H locs ls hP hD hS (lv_sub hl [2, 3, 4, 5, 6, 7, 1, 0] rfl) h
set_option maxRecDepth 100000 in
set_option maxHeartbeats 4000000 in
theorem k_Ref_rounded_144 {p : Program} {l : Launch} {e : Env} {s : State} {m : MethodId} {args : Array Value} {below : List Frame} {meth : Method} {c : Code} {D : va_G} {a : Nat → Nat} {q : Nat → ClassId} {A : Nat → Prop} (hC : CX p s m args meth c prog_12_method_15_code 15 "OutwardTapeModel" (some .long)) (hA : ∀ x, s.heap.size ≤ x → A x) (hK : va_K D CLS (tR q) s) {g0 : Int32} {g1 : Nat → Int32} {g2 : Nat → Int64} {g3 : Nat → Int64} {g4 : Nat → Int32} {g5 : Int32} {g6 : Nat → Int32} {g7 : Int32} {g8 : Nat → Int32} {g9 : Int32} {g10 : Int64} {g11 : Int64} {g12 : Int32} {g13 : Int32} {g14 : Int32} {g15 : Int64} {g16 : Int32} {g17 : Int32} {g18 : Int64} {g19 : Int32} {r0 : Int64} (k119 : Int32 → Int32 → Int32 → Int32 → Int64 → Int32 → Int32 → (Nat → Int32) → Int32 → Option (Int64)) (hk119 : ∀ (v1 : Int32) (v3 : Int32) (v5 : Int32) (v6 : Int32) (v7 : Int64) (v9 : Int32) (v10 : Int32)  (H : Heap) (locs : List Loc) (ls : Array Slot), va_P D CLS (wR a q g0 g1 g2 g3 g4 g5 g6 g7 g8 g9 g10 g11 g12 g13 g14 g15 g16 g17 g18 g19) H → va_D A (wR a q g0 g1 g2 g3 g4 g5 g6 g7 g8 g9 g10 g11 g12 g13 g14 g15 g16 g17 g18 g19) → va_S A s.heap H locs → lv_has ls 15 [(0, .ref (a 0)), (1, .int v1), (3, .int v3), (5, .int v5), (6, .int v6), (7, .long v7), (9, .int v9), (10, .int v10)] → k119 v1 v3 v5 v6 v7 v9 v10 g8 g9 = some r0 → W p l e rm_Ref_rounded s m args below meth c H locs 0 0 (MQ below (va_Ql (fun (r : Int64) (_ : Unit) => r = r0) (fun _ t => va_P D CLS (wR a q g0 g1 g2 g3 g4 g5 g6 g7 g8 g9 g10 g11 g12 g13 g14 g15 g16 g17 g18 g19) t.heap) A) args s 0 0 A) (F0 m 119 ls [])) : ∀ (v1 : Int32) (v3 : Int32) (v5 : Int32) (v6 : Int32) (v7 : Int64) (v10 : Int32)  (H : Heap) (locs : List Loc) (ls : Array Slot), va_P D CLS (wR a q g0 g1 g2 g3 g4 g5 g6 g7 g8 g9 g10 g11 g12 g13 g14 g15 g16 g17 g18 g19) H → va_D A (wR a q g0 g1 g2 g3 g4 g5 g6 g7 g8 g9 g10 g11 g12 g13 g14 g15 g16 g17 g18 g19) → va_S A s.heap H locs → lv_has ls 15 [(0, .ref (a 0)), (1, .int v1), (3, .int v3), (5, .int v5), (6, .int v6), (7, .long v7), (10, .int v10)] → f_Ref_rounded_144 k119 v1 v3 v5 v6 v7 v10 g8 g9 = some r0 → W p l e rm_Ref_rounded s m args below meth c H locs 0 0 (MQ below (va_Ql (fun (r : Int64) (_ : Unit) => r = r0) (fun _ t => va_P D CLS (wR a q g0 g1 g2 g3 g4 g5 g6 g7 g8 g9 g10 g11 g12 g13 g14 g15 g16 g17 g18 g19) t.heap) A) args s 0 0 A) (F0 m 144 ls []) := by
  obtain ⟨hx, hb, hml, hown, hts, hr, hlocks⟩ := id hC
  intro v1 v3 v5 v6 v7 v10 H locs ls hP hD hS hl h
  rw [f_Ref_rounded_144] at h
  refine lv_iconst (v := 1) hx hb (dt_at dt_Ref_rounded 77 rfl) (by decide) ?_
  refine lv_goto (tgt := 149) hx hb (dt_at dt_Ref_rounded 78 rfl) (by decide) ?_
  exact k_Ref_rounded_149 hC hA hK k119 hk119  (1 : Int32) v1 v3 v5 v6 v7 v10 H locs ls hP hD hS (lv_sub hl [0, 1, 2, 3, 4, 5, 6] rfl) h
set_option maxRecDepth 100000 in
set_option maxHeartbeats 4000000 in
theorem k_Ref_rounded_119 {p : Program} {l : Launch} {e : Env} {s : State} {m : MethodId} {args : Array Value} {below : List Frame} {meth : Method} {c : Code} {D : va_G} {a : Nat → Nat} {q : Nat → ClassId} {A : Nat → Prop} (hC : CX p s m args meth c prog_12_method_15_code 15 "OutwardTapeModel" (some .long)) (hA : ∀ x, s.heap.size ≤ x → A x) (hK : va_K D CLS (tR q) s) {g0 : Int32} {g1 : Nat → Int32} {g2 : Nat → Int64} {g3 : Nat → Int64} {g4 : Nat → Int32} {g5 : Int32} {g6 : Nat → Int32} {g7 : Int32} {g8 : Nat → Int32} {g9 : Int32} {g10 : Int64} {g11 : Int64} {g12 : Int32} {g13 : Int32} {g14 : Int32} {g15 : Int64} {g16 : Int32} {g17 : Int32} {g18 : Int64} {g19 : Int32} {r0 : Int64} : ∀ n : Nat, ∀ (v1 : Int32) (v3 : Int32) (v5 : Int32) (v6 : Int32) (v7 : Int64) (v9 : Int32) (v10 : Int32)  (H : Heap) (locs : List Loc) (ls : Array Slot), va_P D CLS (wR a q g0 g1 g2 g3 g4 g5 g6 g7 g8 g9 g10 g11 g12 g13 g14 g15 g16 g17 g18 g19) H → va_D A (wR a q g0 g1 g2 g3 g4 g5 g6 g7 g8 g9 g10 g11 g12 g13 g14 g15 g16 g17 g18 g19) → va_S A s.heap H locs → lv_has ls 15 [(0, .ref (a 0)), (1, .int v1), (3, .int v3), (5, .int v5), (6, .int v6), (7, .long v7), (9, .int v9), (10, .int v10)] → f_Ref_rounded_119  n v1 v3 v5 v6 v7 v9 v10 g8 g9 = some r0 → W p l e rm_Ref_rounded s m args below meth c H locs 0 0 (MQ below (va_Ql (fun (r : Int64) (_ : Unit) => r = r0) (fun _ t => va_P D CLS (wR a q g0 g1 g2 g3 g4 g5 g6 g7 g8 g9 g10 g11 g12 g13 g14 g15 g16 g17 g18 g19) t.heap) A) args s 0 0 A) (F0 m 119 ls []) := by
  obtain ⟨hx, hb, hml, hown, hts, hr, hlocks⟩ := id hC
  intro n
  induction n with
  | zero => intro v1 v3 v5 v6 v7 v9 v10 H locs ls hP hD hS hl h; cases h
  | succ n ih =>
    intro v1 v3 v5 v6 v7 v9 v10 H locs ls hP hD hS hl h
    rw [f_Ref_rounded_119] at h
    refine lv_iload hx hb (dt_at dt_Ref_rounded 64 rfl) (lv_at hl 7 rfl) ?_
    refine lv_iload hx hb (dt_at dt_Ref_rounded 65 rfl) (lv_at hl 4 rfl) ?_
    refine lv_iconst (v := 1) hx hb (dt_at dt_Ref_rounded 66 rfl) (by decide) ?_
    refine lv_isub hx hb (dt_at dt_Ref_rounded 67 rfl) ?_
    refine lv_icmp_ge (tgt := 157) hx hb (dt_at dt_Ref_rounded 68 rfl) (by decide) (fun c1 => ?_) (fun c1 => ?_)
    · have h := if_p h c1
      refine lv_aload_n hx hb (dt_at dt_Ref_rounded 83 rfl) rfl (lv_at hl 0 rfl) ?_
      refine lv_iconst (v := 0) hx hb (dt_at dt_Ref_rounded 84 rfl) (by decide) ?_
      refine lv_iload hx hb (dt_at dt_Ref_rounded 85 rfl) (lv_at hl 4 rfl) ?_
      refine lv_iconst (v := 1) hx hb (dt_at dt_Ref_rounded 86 rfl) (by decide) ?_
      refine lv_isub hx hb (dt_at dt_Ref_rounded 87 rfl) ?_
      obtain ⟨r2, h_r2, h⟩ := ob_of h
      have hF := va_free (wc := dR a) (dD (ws' := dR a) hD rfl) hS hA [0, 1, 2, 3, 4, 5, 6] rfl
      have hd : va_D (fun _ => True) (dR a) := (dD (ws' := dR a) hD rfl).weaken (fun _ _ _ _ => trivial)
      refine va_calli (va_runV (As := [.int (0 : Int32), .int (v6 - (1 : Int32))]) (rest := []) ⟨hx, hb, hml, hown, hts⟩ (c_Ref_bit l D a q hd H.size (0 : Int32) (v6 - (1 : Int32)) g0 g1 g2 g3 g4 g5 g6 g7 g8 g9 g10 g11 g12 g13 g14 g15 g16 g17 g18 g19 r2 h_r2) (cwV 2 hts (gd_V (m_4 142 rfl rfl) (m_4 144 rfl rfl) (m_s 31 rfl rfl) (m_1 4 rfl rfl) (m_4 145 rfl rfl)) rfl rfl rfl (by decide +kernel) ⟨Nat.le_of_ble_eq_true rfl, Nat.le_of_ble_eq_true rfl⟩) ⟨fun a U g mk q => ⟨q.1, q.2.1, q.2.2.1, va_K.moved (u := U) (U := U.calling g mk a) (Vm.Alike.refl U.vm) q.2.2.2⟩, va_recv hK hP (ci := 0) (q0 := 0) rfl rfl, fun U hU hW => ⟨rfl, by rw [hU], by rw [hU]; exact hP, va_K.moved hW.alike hK⟩⟩ rfl rfl hl.1 rfl (lv_room (Nat.le_of_ble_eq_true rfl)) (dt_at dt_Ref_rounded 88 rfl) ⟨Nat.le_of_ble_eq_true rfl, Nat.le_of_ble_eq_true rfl⟩) hS (fun x _ h9 => hF x h9) hF (fun u_r2 uu t H locs ht hvm hw hB hz1 hk1 hS => ?_)
      rw [ht] at hB
      obtain rfl : r2 = u_r2 := hw.symm
      have hP : va_P D CLS (wR a q g0 g1 g2 g3 g4 g5 g6 g7 g8 g9 g10 g11 g12 g13 g14 g15 g16 g17 g18 g19) H := hB
      have hD : va_D A (wR a q g0 g1 g2 g3 g4 g5 g6 g7 g8 g9 g10 g11 g12 g13 g14 g15 g16 g17 g18 g19) := dD hD rfl
      refine lv_iconst (v := 1) hx hb (dt_at dt_Ref_rounded 89 rfl) (by decide) ?_
      refine lv_icmp_ne (tgt := 174) hx hb (dt_at dt_Ref_rounded 90 rfl) (by decide) (fun c3 => ?_) (fun c3 => ?_)
      · have h := if_n h c3
        refine lv_iconst (v := 0) hx hb (dt_at dt_Ref_rounded 93 rfl) (by decide) ?_
        exact k_Ref_rounded_175 hC hA hK   (0 : Int32) v1 v3 v5 v7 v9 H locs ls hP hD hS (lv_sub hl [1, 2, 3, 5, 6] rfl) h
      · have h := if_p h c3
        refine lv_iconst (v := 1) hx hb (dt_at dt_Ref_rounded 91 rfl) (by decide) ?_
        refine lv_goto (tgt := 175) hx hb (dt_at dt_Ref_rounded 92 rfl) (by decide) ?_
        exact k_Ref_rounded_175 hC hA hK   (1 : Int32) v1 v3 v5 v7 v9 H locs ls hP hD hS (lv_sub hl [1, 2, 3, 5, 6] rfl) h
    · have h := if_n h c1
      refine lv_iload hx hb (dt_at dt_Ref_rounded 69 rfl) (lv_at hl 6 rfl) ?_
      refine lv_if_ne (tgt := 144) hx hb (dt_at dt_Ref_rounded 70 rfl) (by decide) (fun c4 => ?_) (fun c4 => ?_)
      · have h := if_n h c4
        exact k_Ref_rounded_144 hC hA hK (f_Ref_rounded_119  n) ih  v1 v3 v5 v6 v7 v10 H locs ls hP hD hS (lv_sub hl [0, 1, 2, 3, 4, 5, 7] rfl) h
      · have h := if_p h c4
        refine lv_aload_n hx hb (dt_at dt_Ref_rounded 71 rfl) rfl (lv_at hl 0 rfl) ?_
        refine lv_iconst (v := 0) hx hb (dt_at dt_Ref_rounded 72 rfl) (by decide) ?_
        refine lv_iload hx hb (dt_at dt_Ref_rounded 73 rfl) (lv_at hl 7 rfl) ?_
        obtain ⟨r5, h_r5, h⟩ := ob_of h
        have hF := va_free (wc := dR a) (dD (ws' := dR a) hD rfl) hS hA [0, 1, 2, 3, 4, 5, 6] rfl
        have hd : va_D (fun _ => True) (dR a) := (dD (ws' := dR a) hD rfl).weaken (fun _ _ _ _ => trivial)
        refine va_calli (va_runV (As := [.int (0 : Int32), .int v10]) (rest := []) ⟨hx, hb, hml, hown, hts⟩ (c_Ref_bit l D a q hd H.size (0 : Int32) v10 g0 g1 g2 g3 g4 g5 g6 g7 g8 g9 g10 g11 g12 g13 g14 g15 g16 g17 g18 g19 r5 h_r5) (cwV 2 hts (gd_V (m_4 142 rfl rfl) (m_4 144 rfl rfl) (m_s 31 rfl rfl) (m_1 4 rfl rfl) (m_4 145 rfl rfl)) rfl rfl rfl (by decide +kernel) ⟨Nat.le_of_ble_eq_true rfl, Nat.le_of_ble_eq_true rfl⟩) ⟨fun a U g mk q => ⟨q.1, q.2.1, q.2.2.1, va_K.moved (u := U) (U := U.calling g mk a) (Vm.Alike.refl U.vm) q.2.2.2⟩, va_recv hK hP (ci := 0) (q0 := 0) rfl rfl, fun U hU hW => ⟨rfl, by rw [hU], by rw [hU]; exact hP, va_K.moved hW.alike hK⟩⟩ rfl rfl hl.1 rfl (lv_room (Nat.le_of_ble_eq_true rfl)) (dt_at dt_Ref_rounded 74 rfl) ⟨Nat.le_of_ble_eq_true rfl, Nat.le_of_ble_eq_true rfl⟩) hS (fun x _ h9 => hF x h9) hF (fun u_r5 uu t H locs ht hvm hw hB hz1 hk1 hS => ?_)
        rw [ht] at hB
        obtain rfl : r5 = u_r5 := hw.symm
        have hP : va_P D CLS (wR a q g0 g1 g2 g3 g4 g5 g6 g7 g8 g9 g10 g11 g12 g13 g14 g15 g16 g17 g18 g19) H := hB
        have hD : va_D A (wR a q g0 g1 g2 g3 g4 g5 g6 g7 g8 g9 g10 g11 g12 g13 g14 g15 g16 g17 g18 g19) := dD hD rfl
        refine lv_iconst (v := 1) hx hb (dt_at dt_Ref_rounded 75 rfl) (by decide) ?_
        refine lv_icmp_ne (tgt := 148) hx hb (dt_at dt_Ref_rounded 76 rfl) (by decide) (fun c6 => ?_) (fun c6 => ?_)
        · have h := if_n h c6
          refine lv_iconst (v := 0) hx hb (dt_at dt_Ref_rounded 79 rfl) (by decide) ?_
          exact k_Ref_rounded_149 hC hA hK (f_Ref_rounded_119  n) ih  (0 : Int32) v1 v3 v5 v6 v7 v10 H locs ls hP hD hS (lv_sub hl [0, 1, 2, 3, 4, 5, 7] rfl) h
        · have h := if_p h c6
          exact k_Ref_rounded_144 hC hA hK (f_Ref_rounded_119  n) ih  v1 v3 v5 v6 v7 v10 H locs ls hP hD hS (lv_sub hl [0, 1, 2, 3, 4, 5, 7] rfl) h
set_option maxRecDepth 100000 in
set_option maxHeartbeats 4000000 in
theorem k_Ref_rounded_108 {p : Program} {l : Launch} {e : Env} {s : State} {m : MethodId} {args : Array Value} {below : List Frame} {meth : Method} {c : Code} {D : va_G} {a : Nat → Nat} {q : Nat → ClassId} {A : Nat → Prop} (hC : CX p s m args meth c prog_12_method_15_code 15 "OutwardTapeModel" (some .long)) (hA : ∀ x, s.heap.size ≤ x → A x) (hK : va_K D CLS (tR q) s) {g0 : Int32} {g1 : Nat → Int32} {g2 : Nat → Int64} {g3 : Nat → Int64} {g4 : Nat → Int32} {g5 : Int32} {g6 : Nat → Int32} {g7 : Int32} {g8 : Nat → Int32} {g9 : Int32} {g10 : Int64} {g11 : Int64} {g12 : Int32} {g13 : Int32} {g14 : Int32} {g15 : Int64} {g16 : Int32} {g17 : Int32} {g18 : Int64} {g19 : Int32} {r0 : Int64} : ∀ (s0 : Int64) (v1 : Int32) (v3 : Int32) (v5 : Int32) (v6 : Int32)  (H : Heap) (locs : List Loc) (ls : Array Slot), va_P D CLS (wR a q g0 g1 g2 g3 g4 g5 g6 g7 g8 g9 g10 g11 g12 g13 g14 g15 g16 g17 g18 g19) H → va_D A (wR a q g0 g1 g2 g3 g4 g5 g6 g7 g8 g9 g10 g11 g12 g13 g14 g15 g16 g17 g18 g19) → va_S A s.heap H locs → lv_has ls 15 [(0, .ref (a 0)), (1, .int v1), (3, .int v3), (5, .int v5), (6, .int v6)] → f_Ref_rounded_108  s0 v1 v3 v5 v6 g8 g9 = some r0 → W p l e rm_Ref_rounded s m args below meth c H locs 0 0 (MQ below (va_Ql (fun (r : Int64) (_ : Unit) => r = r0) (fun _ t => va_P D CLS (wR a q g0 g1 g2 g3 g4 g5 g6 g7 g8 g9 g10 g11 g12 g13 g14 g15 g16 g17 g18 g19) t.heap) A) args s 0 0 A) (F0 m 108 ls [.long s0]) := by
  obtain ⟨hx, hb, hml, hown, hts, hr, hlocks⟩ := id hC
  intro s0 v1 v3 v5 v6 H locs ls hP hD hS hl h
  rw [f_Ref_rounded_108] at h
  refine lv_lstore (lv' := [(7, .long s0), (0, .ref (a 0)), (1, .int v1), (3, .int v3), (5, .int v5), (6, .int v6)]) hx hb (dt_at dt_Ref_rounded 58 rfl) hl (by decide) rfl (fun ls hl => ?_)
  refine lv_aload_n hx hb (dt_at dt_Ref_rounded 59 rfl) rfl (lv_at hl 1 rfl) ?_
  refine va_get (D := D) (ci := 0) (v := .int g9) (C := "OutwardTapeModel") (T := T_Ref) (N := 20) hx hb hts in_Ref hown hK hP 0 rfl rfl 9 (by decide) (hts (Cond.fieldLink "OutwardTapeModel" 65 "OutwardTapeModel" "over" "Z") (m_4 8 rfl rfl)) (fun _ h9 => h9) rfl (dt_at dt_Ref_rounded 60 rfl) ?_
  refine lv_istore (lv' := [(9, .int g9), (7, .long s0), (0, .ref (a 0)), (1, .int v1), (3, .int v3), (5, .int v5), (6, .int v6)]) hx hb (dt_at dt_Ref_rounded 61 rfl) hl (by decide) rfl (fun ls hl => ?_)
  refine lv_iconst (v := 0) hx hb (dt_at dt_Ref_rounded 62 rfl) (by decide) ?_
  refine lv_istore (lv' := [(10, .int (0 : Int32)), (9, .int g9), (7, .long s0), (0, .ref (a 0)), (1, .int v1), (3, .int v3), (5, .int v5), (6, .int v6)]) hx hb (dt_at dt_Ref_rounded 63 rfl) hl (by decide) rfl (fun ls hl => ?_)
  exact k_Ref_rounded_119 hC hA hK  5000 v1 v3 v5 v6 s0 g9 (0 : Int32) H locs ls hP hD hS (lv_sub hl [3, 4, 5, 6, 7, 2, 1, 0] rfl) h
set_option maxRecDepth 100000 in
set_option maxHeartbeats 4000000 in
theorem k_Ref_rounded_92 {p : Program} {l : Launch} {e : Env} {s : State} {m : MethodId} {args : Array Value} {below : List Frame} {meth : Method} {c : Code} {D : va_G} {a : Nat → Nat} {q : Nat → ClassId} {A : Nat → Prop} (hC : CX p s m args meth c prog_12_method_15_code 15 "OutwardTapeModel" (some .long)) (hA : ∀ x, s.heap.size ≤ x → A x) (hK : va_K D CLS (tR q) s) {g0 : Int32} {g1 : Nat → Int32} {g2 : Nat → Int64} {g3 : Nat → Int64} {g4 : Nat → Int32} {g5 : Int32} {g6 : Nat → Int32} {g7 : Int32} {g8 : Nat → Int32} {g9 : Int32} {g10 : Int64} {g11 : Int64} {g12 : Int32} {g13 : Int32} {g14 : Int32} {g15 : Int64} {g16 : Int32} {g17 : Int32} {g18 : Int64} {g19 : Int32} {r0 : Int64} : ∀ (v1 : Int32) (v3 : Int32) (v5 : Int32) (v6 : Int32) (v7 : Int64)  (H : Heap) (locs : List Loc) (ls : Array Slot), va_P D CLS (wR a q g0 g1 g2 g3 g4 g5 g6 g7 g8 g9 g10 g11 g12 g13 g14 g15 g16 g17 g18 g19) H → va_D A (wR a q g0 g1 g2 g3 g4 g5 g6 g7 g8 g9 g10 g11 g12 g13 g14 g15 g16 g17 g18 g19) → va_S A s.heap H locs → lv_has ls 15 [(0, .ref (a 0)), (1, .int v1), (3, .int v3), (5, .int v5), (6, .int v6), (7, .long v7)] → f_Ref_rounded_92  v1 v3 v5 v6 v7 g8 g9 = some r0 → W p l e rm_Ref_rounded s m args below meth c H locs 0 0 (MQ below (va_Ql (fun (r : Int64) (_ : Unit) => r = r0) (fun _ t => va_P D CLS (wR a q g0 g1 g2 g3 g4 g5 g6 g7 g8 g9 g10 g11 g12 g13 g14 g15 g16 g17 g18 g19) t.heap) A) args s 0 0 A) (F0 m 92 ls []) := by
  obtain ⟨hx, hb, hml, hown, hts, hr, hlocks⟩ := id hC
  intro v1 v3 v5 v6 v7 H locs ls hP hD hS hl h
  rw [f_Ref_rounded_92] at h
  refine lv_iload hx hb (dt_at dt_Ref_rounded 50 rfl) (lv_at hl 4 rfl) ?_
  refine lv_if_ge (tgt := 106) hx hb (dt_at dt_Ref_rounded 51 rfl) (by decide) (fun c1 => ?_) (fun c1 => ?_)
  · have h := if_p h c1
    refine lv_lload hx hb (dt_at dt_Ref_rounded 57 rfl) (lv_at hl 5 rfl) ?_
    exact k_Ref_rounded_108 hC hA hK   v7 v1 v3 v5 v6 H locs ls hP hD hS (lv_sub hl [0, 1, 2, 3, 4] rfl) h
  · have h := if_n h c1
    refine lv_lload hx hb (dt_at dt_Ref_rounded 52 rfl) (lv_at hl 5 rfl) ?_
    refine lv_iload hx hb (dt_at dt_Ref_rounded 53 rfl) (lv_at hl 4 rfl) ?_
    refine lv_ineg hx hb (dt_at dt_Ref_rounded 54 rfl) ?_
    refine lv_lshl (v := (j_lshl v7 (-v6))) hx hb (dt_at dt_Ref_rounded 55 rfl) rfl ?_
    refine lv_goto (tgt := 108) hx hb (dt_at dt_Ref_rounded 56 rfl) (by decide) ?_
    exact k_Ref_rounded_108 hC hA hK   (j_lshl v7 (-v6)) v1 v3 v5 v6 H locs ls hP hD hS (lv_sub hl [0, 1, 2, 3, 4] rfl) h
set_option maxRecDepth 100000 in
set_option maxHeartbeats 4000000 in
theorem k_Ref_rounded_57 {p : Program} {l : Launch} {e : Env} {s : State} {m : MethodId} {args : Array Value} {below : List Frame} {meth : Method} {c : Code} {D : va_G} {a : Nat → Nat} {q : Nat → ClassId} {A : Nat → Prop} (hC : CX p s m args meth c prog_12_method_15_code 15 "OutwardTapeModel" (some .long)) (hA : ∀ x, s.heap.size ≤ x → A x) (hK : va_K D CLS (tR q) s) {g0 : Int32} {g1 : Nat → Int32} {g2 : Nat → Int64} {g3 : Nat → Int64} {g4 : Nat → Int32} {g5 : Int32} {g6 : Nat → Int32} {g7 : Int32} {g8 : Nat → Int32} {g9 : Int32} {g10 : Int64} {g11 : Int64} {g12 : Int32} {g13 : Int32} {g14 : Int32} {g15 : Int64} {g16 : Int32} {g17 : Int32} {g18 : Int64} {g19 : Int32} {r0 : Int64} : ∀ n : Nat, ∀ (v1 : Int32) (v3 : Int32) (v5 : Int32) (v6 : Int32) (v7 : Int64) (v9 : Int32)  (H : Heap) (locs : List Loc) (ls : Array Slot), va_P D CLS (wR a q g0 g1 g2 g3 g4 g5 g6 g7 g8 g9 g10 g11 g12 g13 g14 g15 g16 g17 g18 g19) H → va_D A (wR a q g0 g1 g2 g3 g4 g5 g6 g7 g8 g9 g10 g11 g12 g13 g14 g15 g16 g17 g18 g19) → va_S A s.heap H locs → lv_has ls 15 [(0, .ref (a 0)), (1, .int v1), (3, .int v3), (5, .int v5), (6, .int v6), (7, .long v7), (9, .int v9)] → f_Ref_rounded_57  n v1 v3 v5 v6 v7 v9 g8 g9 = some r0 → W p l e rm_Ref_rounded s m args below meth c H locs 0 0 (MQ below (va_Ql (fun (r : Int64) (_ : Unit) => r = r0) (fun _ t => va_P D CLS (wR a q g0 g1 g2 g3 g4 g5 g6 g7 g8 g9 g10 g11 g12 g13 g14 g15 g16 g17 g18 g19) t.heap) A) args s 0 0 A) (F0 m 57 ls []) := by
  obtain ⟨hx, hb, hml, hown, hts, hr, hlocks⟩ := id hC
  intro n
  induction n with
  | zero => intro v1 v3 v5 v6 v7 v9 H locs ls hP hD hS hl h; cases h
  | succ n ih =>
    intro v1 v3 v5 v6 v7 v9 H locs ls hP hD hS hl h
    rw [f_Ref_rounded_57] at h
    refine lv_iload hx hb (dt_at dt_Ref_rounded 33 rfl) (lv_at hl 6 rfl) ?_
    refine lv_iload hx hb (dt_at dt_Ref_rounded 34 rfl) (lv_at hl 4 rfl) ?_
    refine lv_icmp_lt (tgt := 92) hx hb (dt_at dt_Ref_rounded 35 rfl) (by decide) (fun c1 => ?_) (fun c1 => ?_)
    · have h := if_p h c1
      exact k_Ref_rounded_92 hC hA hK   v1 v3 v5 v6 v7 H locs ls hP hD hS (lv_sub hl [0, 1, 2, 3, 4, 5] rfl) h
    · have h := if_n h c1
      refine lv_iload hx hb (dt_at dt_Ref_rounded 36 rfl) (lv_at hl 6 rfl) ?_
      refine lv_if_lt (tgt := 92) hx hb (dt_at dt_Ref_rounded 37 rfl) (by decide) (fun c2 => ?_) (fun c2 => ?_)
      · have h := if_p h c2
        exact k_Ref_rounded_92 hC hA hK   v1 v3 v5 v6 v7 H locs ls hP hD hS (lv_sub hl [0, 1, 2, 3, 4, 5] rfl) h
      · have h := if_n h c2
        refine lv_ldc2 (v := 2) hx hb hown (hts (Cond.constantLong "OutwardTapeModel" 63 (2)) (m_4 153 rfl rfl)) (dt_at dt_Ref_rounded 38 rfl) ?_
        refine lv_lload hx hb (dt_at dt_Ref_rounded 39 rfl) (lv_at hl 5 rfl) ?_
        refine lv_lmul hx hb (dt_at dt_Ref_rounded 40 rfl) ?_
        refine lv_aload_n hx hb (dt_at dt_Ref_rounded 41 rfl) rfl (lv_at hl 0 rfl) ?_
        refine lv_iconst (v := 0) hx hb (dt_at dt_Ref_rounded 42 rfl) (by decide) ?_
        refine lv_iload hx hb (dt_at dt_Ref_rounded 43 rfl) (lv_at hl 6 rfl) ?_
        obtain ⟨r3, h_r3, h⟩ := ob_of h
        have hF := va_free (wc := dR a) (dD (ws' := dR a) hD rfl) hS hA [0, 1, 2, 3, 4, 5, 6] rfl
        have hd : va_D (fun _ => True) (dR a) := (dD (ws' := dR a) hD rfl).weaken (fun _ _ _ _ => trivial)
        refine va_calli (va_runV (As := [.int (0 : Int32), .int v9]) (rest := [.long ((2 : Int64) * v7)]) ⟨hx, hb, hml, hown, hts⟩ (c_Ref_bit l D a q hd H.size (0 : Int32) v9 g0 g1 g2 g3 g4 g5 g6 g7 g8 g9 g10 g11 g12 g13 g14 g15 g16 g17 g18 g19 r3 h_r3) (cwV 2 hts (gd_V (m_4 142 rfl rfl) (m_4 144 rfl rfl) (m_s 31 rfl rfl) (m_1 4 rfl rfl) (m_4 145 rfl rfl)) rfl rfl rfl (by decide +kernel) ⟨Nat.le_of_ble_eq_true rfl, Nat.le_of_ble_eq_true rfl⟩) ⟨fun a U g mk q => ⟨q.1, q.2.1, q.2.2.1, va_K.moved (u := U) (U := U.calling g mk a) (Vm.Alike.refl U.vm) q.2.2.2⟩, va_recv hK hP (ci := 0) (q0 := 0) rfl rfl, fun U hU hW => ⟨rfl, by rw [hU], by rw [hU]; exact hP, va_K.moved hW.alike hK⟩⟩ rfl rfl hl.1 rfl (lv_room (Nat.le_of_ble_eq_true rfl)) (dt_at dt_Ref_rounded 44 rfl) ⟨Nat.le_of_ble_eq_true rfl, Nat.le_of_ble_eq_true rfl⟩) hS (fun x _ h9 => hF x h9) hF (fun u_r3 uu t H locs ht hvm hw hB hz1 hk1 hS => ?_)
        rw [ht] at hB
        obtain rfl : r3 = u_r3 := hw.symm
        have hP : va_P D CLS (wR a q g0 g1 g2 g3 g4 g5 g6 g7 g8 g9 g10 g11 g12 g13 g14 g15 g16 g17 g18 g19) H := hB
        have hD : va_D A (wR a q g0 g1 g2 g3 g4 g5 g6 g7 g8 g9 g10 g11 g12 g13 g14 g15 g16 g17 g18 g19) := dD hD rfl
        refine lv_i2l (v := r3.toInt64) hx hb (dt_at dt_Ref_rounded 45 rfl) rfl ?_
        refine lv_ladd hx hb (dt_at dt_Ref_rounded 46 rfl) ?_
        obtain ⟨t4, e_t4, h⟩ := ol_of h
        refine lv_topl (fun u_t4 q_t4 => ?_)
        obtain rfl : t4 = u_t4 := e_t4.trans q_t4.symm
        refine lv_lstore (lv' := [(7, .long t4), (0, .ref (a 0)), (1, .int v1), (3, .int v3), (5, .int v5), (6, .int v6), (9, .int v9)]) hx hb (dt_at dt_Ref_rounded 47 rfl) hl (by decide) rfl (fun ls hl => ?_)
        obtain ⟨t5, e_t5, h⟩ := ol_of h
        refine lv_iinc (v := t5) (lv' := [(9, .int t5), (7, .long t4), (0, .ref (a 0)), (1, .int v1), (3, .int v3), (5, .int v5), (6, .int v6)]) hx hb (dt_at dt_Ref_rounded 48 rfl) hl (k := 6) rfl (by rw [e_t5]; rfl) (by decide) rfl (fun ls hl => ?_)
        refine lv_goto (tgt := 57) hx hb (dt_at dt_Ref_rounded 49 rfl) (by decide) ?_
        exact ih v1 v3 v5 v6 t4 t5 H locs ls hP hD hS (lv_sub hl [2, 3, 4, 5, 6, 1, 0] rfl) h
set_option maxRecDepth 100000 in
set_option maxHeartbeats 4000000 in
theorem k_Ref_rounded_40 {p : Program} {l : Launch} {e : Env} {s : State} {m : MethodId} {args : Array Value} {below : List Frame} {meth : Method} {c : Code} {D : va_G} {a : Nat → Nat} {q : Nat → ClassId} {A : Nat → Prop} (hC : CX p s m args meth c prog_12_method_15_code 15 "OutwardTapeModel" (some .long)) (hA : ∀ x, s.heap.size ≤ x → A x) (hK : va_K D CLS (tR q) s) {g0 : Int32} {g1 : Nat → Int32} {g2 : Nat → Int64} {g3 : Nat → Int64} {g4 : Nat → Int32} {g5 : Int32} {g6 : Nat → Int32} {g7 : Int32} {g8 : Nat → Int32} {g9 : Int32} {g10 : Int64} {g11 : Int64} {g12 : Int32} {g13 : Int32} {g14 : Int32} {g15 : Int64} {g16 : Int32} {g17 : Int32} {g18 : Int64} {g19 : Int32} {r0 : Int64} : ∀ (s0 : Int32) (v1 : Int32) (v2 : Int32) (v3 : Int32) (v4 : Int32)  (H : Heap) (locs : List Loc) (ls : Array Slot), va_P D CLS (wR a q g0 g1 g2 g3 g4 g5 g6 g7 g8 g9 g10 g11 g12 g13 g14 g15 g16 g17 g18 g19) H → va_D A (wR a q g0 g1 g2 g3 g4 g5 g6 g7 g8 g9 g10 g11 g12 g13 g14 g15 g16 g17 g18 g19) → va_S A s.heap H locs → lv_has ls 15 [(0, .ref (a 0)), (1, .int v1), (2, .int v2), (3, .int v3), (4, .int v4)] → f_Ref_rounded_40  s0 v1 v2 v3 v4 g8 g9 = some r0 → W p l e rm_Ref_rounded s m args below meth c H locs 0 0 (MQ below (va_Ql (fun (r : Int64) (_ : Unit) => r = r0) (fun _ t => va_P D CLS (wR a q g0 g1 g2 g3 g4 g5 g6 g7 g8 g9 g10 g11 g12 g13 g14 g15 g16 g17 g18 g19) t.heap) A) args s 0 0 A) (F0 m 40 ls [.int s0]) := by
  obtain ⟨hx, hb, hml, hown, hts, hr, hlocks⟩ := id hC
  intro s0 v1 v2 v3 v4 H locs ls hP hD hS hl h
  rw [f_Ref_rounded_40] at h
  refine lv_istore (lv' := [(5, .int s0), (0, .ref (a 0)), (1, .int v1), (2, .int v2), (3, .int v3), (4, .int v4)]) hx hb (dt_at dt_Ref_rounded 22 rfl) hl (by decide) rfl (fun ls hl => ?_)
  refine lv_iload hx hb (dt_at dt_Ref_rounded 23 rfl) (lv_at hl 0 rfl) ?_
  refine lv_iload_n hx hb (dt_at dt_Ref_rounded 24 rfl) rfl (lv_at hl 3 rfl) ?_
  refine lv_isub hx hb (dt_at dt_Ref_rounded 25 rfl) ?_
  obtain ⟨t1, e_t1, h⟩ := ol_of h
  refine lv_topi (fun u_t1 q_t1 => ?_)
  obtain rfl : t1 = u_t1 := e_t1.trans q_t1.symm
  refine lv_istore (lv' := [(6, .int t1), (5, .int s0), (0, .ref (a 0)), (1, .int v1), (2, .int v2), (3, .int v3), (4, .int v4)]) hx hb (dt_at dt_Ref_rounded 26 rfl) hl (by decide) rfl (fun ls hl => ?_)
  refine lv_lconst (v := 0) hx hb (dt_at dt_Ref_rounded 27 rfl) (by decide) ?_
  refine lv_lstore (lv' := [(7, .long (0 : Int64)), (6, .int t1), (5, .int s0), (0, .ref (a 0)), (1, .int v1), (2, .int v2), (3, .int v3), (4, .int v4)]) hx hb (dt_at dt_Ref_rounded 28 rfl) hl (by decide) rfl (fun ls hl => ?_)
  refine lv_iload hx hb (dt_at dt_Ref_rounded 29 rfl) (lv_at hl 7 rfl) ?_
  refine lv_iconst (v := 1) hx hb (dt_at dt_Ref_rounded 30 rfl) (by decide) ?_
  refine lv_isub hx hb (dt_at dt_Ref_rounded 31 rfl) ?_
  obtain ⟨t2, e_t2, h⟩ := ol_of h
  refine lv_topi (fun u_t2 q_t2 => ?_)
  obtain rfl : t2 = u_t2 := e_t2.trans q_t2.symm
  refine lv_istore (lv' := [(9, .int t2), (7, .long (0 : Int64)), (6, .int t1), (5, .int s0), (0, .ref (a 0)), (1, .int v1), (2, .int v2), (3, .int v3), (4, .int v4)]) hx hb (dt_at dt_Ref_rounded 32 rfl) hl (by decide) rfl (fun ls hl => ?_)
  exact k_Ref_rounded_57 hC hA hK  5000 v1 v3 s0 t1 (0 : Int64) t2 H locs ls hP hD hS (lv_sub hl [4, 5, 7, 3, 2, 1, 0] rfl) h
set_option maxRecDepth 100000 in
set_option maxHeartbeats 4000000 in
theorem k_Ref_rounded_0 {p : Program} {l : Launch} {e : Env} {s : State} {m : MethodId} {args : Array Value} {below : List Frame} {meth : Method} {c : Code} {D : va_G} {a : Nat → Nat} {q : Nat → ClassId} {A : Nat → Prop} (hC : CX p s m args meth c prog_12_method_15_code 15 "OutwardTapeModel" (some .long)) (hA : ∀ x, s.heap.size ≤ x → A x) (hK : va_K D CLS (tR q) s) {g0 : Int32} {g1 : Nat → Int32} {g2 : Nat → Int64} {g3 : Nat → Int64} {g4 : Nat → Int32} {g5 : Int32} {g6 : Nat → Int32} {g7 : Int32} {g8 : Nat → Int32} {g9 : Int32} {g10 : Int64} {g11 : Int64} {g12 : Int32} {g13 : Int32} {g14 : Int32} {g15 : Int64} {g16 : Int32} {g17 : Int32} {g18 : Int64} {g19 : Int32} {r0 : Int64} : ∀ (v1 : Int32) (v2 : Int32) (v3 : Int32)  (H : Heap) (locs : List Loc) (ls : Array Slot), va_P D CLS (wR a q g0 g1 g2 g3 g4 g5 g6 g7 g8 g9 g10 g11 g12 g13 g14 g15 g16 g17 g18 g19) H → va_D A (wR a q g0 g1 g2 g3 g4 g5 g6 g7 g8 g9 g10 g11 g12 g13 g14 g15 g16 g17 g18 g19) → va_S A s.heap H locs → lv_has ls 15 [(0, .ref (a 0)), (1, .int v1), (2, .int v2), (3, .int v3)] → f_Ref_rounded_0  v1 v2 v3 g8 g9 = some r0 → W p l e rm_Ref_rounded s m args below meth c H locs 0 0 (MQ below (va_Ql (fun (r : Int64) (_ : Unit) => r = r0) (fun _ t => va_P D CLS (wR a q g0 g1 g2 g3 g4 g5 g6 g7 g8 g9 g10 g11 g12 g13 g14 g15 g16 g17 g18 g19) t.heap) A) args s 0 0 A) (F0 m 0 ls []) := by
  obtain ⟨hx, hb, hml, hown, hts, hr, hlocks⟩ := id hC
  intro v1 v2 v3 H locs ls hP hD hS hl h
  rw [f_Ref_rounded_0] at h
  refine lv_aload_n hx hb (dt_at dt_Ref_rounded 0 rfl) rfl (lv_at hl 0 rfl) ?_
  refine lv_iconst (v := 0) hx hb (dt_at dt_Ref_rounded 1 rfl) (by decide) ?_
  obtain ⟨r1, h_r1, h⟩ := ob_of h
  have hF := va_free (wc := dR a) (dD (ws' := dR a) hD rfl) hS hA [0, 1, 2, 3, 4, 5, 6] rfl
  have hd : va_D (fun _ => True) (dR a) := (dD (ws' := dR a) hD rfl).weaken (fun _ _ _ _ => trivial)
  refine va_calli (va_runV (As := [.int (0 : Int32)]) (rest := []) ⟨hx, hb, hml, hown, hts⟩ (c_Ref_width l D a q hd H.size (0 : Int32) g0 g1 g2 g3 g4 g5 g6 g7 g8 g9 g10 g11 g12 g13 g14 g15 g16 g17 g18 g19 r1 h_r1) (cwV 1 hts (gd_V (m_4 138 rfl rfl) (m_4 140 rfl rfl) (m_s 30 rfl rfl) (m_1 4 rfl rfl) (m_4 141 rfl rfl)) rfl rfl rfl (by decide +kernel) ⟨Nat.le_of_ble_eq_true rfl, Nat.le_of_ble_eq_true rfl⟩) ⟨fun a U g mk q => ⟨q.1, q.2.1, q.2.2.1, va_K.moved (u := U) (U := U.calling g mk a) (Vm.Alike.refl U.vm) q.2.2.2⟩, va_recv hK hP (ci := 0) (q0 := 0) rfl rfl, fun U hU hW => ⟨rfl, by rw [hU], by rw [hU]; exact hP, va_K.moved hW.alike hK⟩⟩ rfl rfl hl.1 rfl (lv_room (Nat.le_of_ble_eq_true rfl)) (dt_at dt_Ref_rounded 2 rfl) ⟨Nat.le_of_ble_eq_true rfl, Nat.le_of_ble_eq_true rfl⟩) hS (fun x _ h9 => hF x h9) hF (fun u_r1 uu t H locs ht hvm hw hB hz1 hk1 hS => ?_)
  rw [ht] at hB
  obtain rfl : r1 = u_r1 := hw.symm
  have hP : va_P D CLS (wR a q g0 g1 g2 g3 g4 g5 g6 g7 g8 g9 g10 g11 g12 g13 g14 g15 g16 g17 g18 g19) H := hB
  have hD : va_D A (wR a q g0 g1 g2 g3 g4 g5 g6 g7 g8 g9 g10 g11 g12 g13 g14 g15 g16 g17 g18 g19) := dD hD rfl
  refine lv_istore (lv' := [(4, .int r1), (0, .ref (a 0)), (1, .int v1), (2, .int v2), (3, .int v3)]) hx hb (dt_at dt_Ref_rounded 3 rfl) hl (by decide) rfl (fun ls hl => ?_)
  refine lv_iload hx hb (dt_at dt_Ref_rounded 4 rfl) (lv_at hl 0 rfl) ?_
  refine lv_if_ne (tgt := 14) hx hb (dt_at dt_Ref_rounded 5 rfl) (by decide) (fun c2 => ?_) (fun c2 => ?_)
  · have h := if_n h c2
    refine lv_iload hx hb (dt_at dt_Ref_rounded 8 rfl) (lv_at hl 0 rfl) ?_
    refine lv_bipush (v := 53) hx hb (dt_at dt_Ref_rounded 9 rfl) (by decide) ?_
    refine lv_isub hx hb (dt_at dt_Ref_rounded 10 rfl) ?_
    refine lv_iload_n hx hb (dt_at dt_Ref_rounded 11 rfl) rfl (lv_at hl 3 rfl) ?_
    refine lv_iadd hx hb (dt_at dt_Ref_rounded 12 rfl) ?_
    refine lv_sipush (v := -1074) hx hb (dt_at dt_Ref_rounded 13 rfl) (by decide) ?_
    refine lv_icmp_le (tgt := 37) hx hb (dt_at dt_Ref_rounded 14 rfl) (by decide) (fun c3 => ?_) (fun c3 => ?_)
    · have h := if_p h c3
      refine lv_sipush (v := -1074) hx hb (dt_at dt_Ref_rounded 21 rfl) (by decide) ?_
      exact k_Ref_rounded_40 hC hA hK   (-1074 : Int32) v1 v2 v3 r1 H locs ls hP hD hS (lv_sub hl [1, 2, 3, 4, 0] rfl) h
    · have h := if_n h c3
      refine lv_iload hx hb (dt_at dt_Ref_rounded 15 rfl) (lv_at hl 0 rfl) ?_
      refine lv_bipush (v := 53) hx hb (dt_at dt_Ref_rounded 16 rfl) (by decide) ?_
      refine lv_isub hx hb (dt_at dt_Ref_rounded 17 rfl) ?_
      refine lv_iload_n hx hb (dt_at dt_Ref_rounded 18 rfl) rfl (lv_at hl 3 rfl) ?_
      refine lv_iadd hx hb (dt_at dt_Ref_rounded 19 rfl) ?_
      refine lv_goto (tgt := 40) hx hb (dt_at dt_Ref_rounded 20 rfl) (by decide) ?_
      exact k_Ref_rounded_40 hC hA hK   ((r1 - (53 : Int32)) + v2) v1 v2 v3 r1 H locs ls hP hD hS (lv_sub hl [1, 2, 3, 4, 0] rfl) h
  · have h := if_p h c2
    refine lv_lconst (v := 0) hx hb (dt_at dt_Ref_rounded 6 rfl) (by decide) ?_
    obtain rfl := os_of h
    exact W.lret (v := (0 : Int64)) hx hb hr (fun t ht hW => ⟨⟨_, (), rfl, rfl, (hPt hP ht)⟩, hS.F ht⟩) hS.2.2 (dt_at dt_Ref_rounded 7 rfl)
set_option maxRecDepth 100000 in
set_option maxHeartbeats 4000000 in
theorem c_Ref_rounded (l : Launch) (D : va_G) (a : Nat → Nat) (q : Nat → ClassId) (hd : va_D (fun _ => True) (dR a)) (sz : Nat) (a1 : Int32) (a2 : Int32) (a3 : Int32) (g0 : Int32) (g1 : Nat → Int32) (g2 : Nat → Int64) (g3 : Nat → Int64) (g4 : Nat → Int32) (g5 : Int32) (g6 : Nat → Int32) (g7 : Int32) (g8 : Nat → Int32) (g9 : Int32) (g10 : Int64) (g11 : Int64) (g12 : Int32) (g13 : Int32) (g14 : Int32) (g15 : Int64) (g16 : Int32) (g17 : Int32) (g18 : Int64) (g19 : Int32) (r0 : Int64) (h : f_Ref_rounded a1 a2 a3 g8 g9 = some r0) : Met l (⟨"OutwardTapeModel", "rounded", "(ZII)J"⟩ : MethodName) (WSm (⟨"OutwardTapeModel", "rounded", "(ZII)J"⟩ : MethodName) prog_12_method_15_code 15 (some .long)) rm_Ref_rounded (va_Pc [.ref (a 0), .int a1, .int a2, .int a3] (fun U => U.heap.size = sz ∧ va_P D CLS (wR a q g0 g1 g2 g3 g4 g5 g6 g7 g8 g9 g10 g11 g12 g13 g14 g15 g16 g17 g18 g19) U.heap ∧ va_K D CLS (tR q) U)) (va_Ql (fun (r : Int64) (_ : Unit) => r = r0) (fun _ t => va_P D CLS (wR a q g0 g1 g2 g3 g4 g5 g6 g7 g8 g9 g10 g11 g12 g13 g14 g15 g16 g17 g18 g19) t.heap) (va_A (dR a) sz)) 0 0 (va_A (dR a) sz) := by
  refine Met.ofW (cc := prog_12_method_15_code) (maxL := 15) (ret := (some .long)) (by decide) rfl ?_
  intro p e s m args below meth c s₁ B hml hv
  obtain ⟨rfl, hsz, hP, hK⟩ := hv
  subst hsz
  have hC := CX.of B hml rfl
  have hl := lv_entry [.ref (a 0), .int a1, .int a2, .int a3] (n := 15) (Nat.le_of_ble_eq_true rfl)
  rw [lg_entry_eq]
  generalize (lg_sl [.ref (a 0), .int a1, .int a2, .int a3] ++ List.replicate (15 - (lg_sl [.ref (a 0), .int a1, .int a2, .int a3]).length) Slot.unset).toArray = ls at hl ⊢
  have hl : lv_has ls 15 [(0, .ref (a 0)), (1, .int a1), (2, .int a2), (3, .int a3)] := hl
  exact k_Ref_rounded_0 hC (fun x h => Or.inr h) hK a1 a2 a3  s.heap [] ls hP (dD hd.self rfl) va_S.rf (lv_sub hl [0, 1, 2, 3] rfl) h
abbrev rm_Ref_sum : Room := { frames := 3, cells := 0, slots := 0, locals := 79 }
set_option maxRecDepth 100000 in
set_option maxHeartbeats 4000000 in
theorem k_Ref_sum_154 {p : Program} {l : Launch} {e : Env} {s : State} {m : MethodId} {args : Array Value} {below : List Frame} {meth : Method} {c : Code} {D : va_G} {a : Nat → Nat} {q : Nat → ClassId} {A : Nat → Prop} (hC : CX p s m args meth c prog_12_method_18_code 8 "OutwardTapeModel" (some .long)) (hA : ∀ x, s.heap.size ≤ x → A x) (hK : va_K D CLS (tR q) s) {g0 : Int32} {g1 : Nat → Int32} {g2 : Nat → Int64} {g3 : Nat → Int64} {g4 : Nat → Int32} {g5 : Int32} {g6 : Nat → Int32} {g7 : Int32} {g10 : Int64} {g11 : Int64} {g12 : Int32} {g13 : Int32} {g14 : Int32} {g15 : Int64} {g16 : Int32} {g17 : Int32} {g18 : Int64} {g19 : Int32} {r0 : Int64 × (Nat → Int32) × Int32} : ∀ (v5 : Int32) (v6 : Int32) (v7 : Int32) (g8 : Nat → Int32) (g9 : Int32) (H : Heap) (locs : List Loc) (ls : Array Slot), va_P D CLS (wR a q g0 g1 g2 g3 g4 g5 g6 g7 g8 g9 g10 g11 g12 g13 g14 g15 g16 g17 g18 g19) H → va_D A (wR a q g0 g1 g2 g3 g4 g5 g6 g7 g8 g9 g10 g11 g12 g13 g14 g15 g16 g17 g18 g19) → va_S A s.heap H locs → lv_has ls 8 [(0, .ref (a 0)), (5, .int v5), (6, .int v6), (7, .int v7)] → f_Ref_sum_154  v5 v6 v7 g8 g9 = some r0 → W p l e rm_Ref_sum s m args below meth c H locs 0 0 (MQ below (va_Ql (fun (r : Int64) (_ : Unit) => r = r0.1) (fun _ t => va_P D CLS (wR a q g0 g1 g2 g3 g4 g5 g6 g7 r0.2.1 r0.2.2 g10 g11 g12 g13 g14 g15 g16 g17 g18 g19) t.heap) A) args s 0 0 A) (F0 m 154 ls []) := by
  obtain ⟨hx, hb, hml, hown, hts, hr, hlocks⟩ := id hC
  intro v5 v6 v7 g8 g9 H locs ls hP hD hS hl h
  rw [f_Ref_sum_154] at h
  refine lv_aload_n hx hb (dt_at dt_Ref_sum 88 rfl) rfl (lv_at hl 0 rfl) ?_
  refine lv_iload hx hb (dt_at dt_Ref_sum 89 rfl) (lv_at hl 3 rfl) ?_
  refine lv_iload hx hb (dt_at dt_Ref_sum 90 rfl) (lv_at hl 1 rfl) ?_
  refine lv_sipush (v := 1074) hx hb (dt_at dt_Ref_sum 91 rfl) (by decide) ?_
  refine lv_isub hx hb (dt_at dt_Ref_sum 92 rfl) ?_
  refine lv_iload hx hb (dt_at dt_Ref_sum 93 rfl) (lv_at hl 2 rfl) ?_
  obtain ⟨r1, h_r1, h⟩ := ob_of h
  have hF := va_free (wc := dR a) (dD (ws' := dR a) hD rfl) hS hA [0, 1, 2, 3, 4, 5, 6] rfl
  have hd : va_D (fun _ => True) (dR a) := (dD (ws' := dR a) hD rfl).weaken (fun _ _ _ _ => trivial)
  refine va_calll (va_runV (As := [.int v7, .int (v5 - (1074 : Int32)), .int v6]) (rest := []) ⟨hx, hb, hml, hown, hts⟩ (c_Ref_rounded l D a q hd H.size v7 (v5 - (1074 : Int32)) v6 g0 g1 g2 g3 g4 g5 g6 g7 g8 g9 g10 g11 g12 g13 g14 g15 g16 g17 g18 g19 r1 h_r1) (cwV 3 hts (gd_V (m_4 149 rfl rfl) (m_4 151 rfl rfl) (m_s 32 rfl rfl) (m_1 4 rfl rfl) (m_4 152 rfl rfl)) rfl rfl rfl (by decide +kernel) ⟨Nat.le_of_ble_eq_true rfl, Nat.le_of_ble_eq_true rfl⟩) ⟨fun a U g mk q => ⟨q.1, q.2.1, q.2.2.1, va_K.moved (u := U) (U := U.calling g mk a) (Vm.Alike.refl U.vm) q.2.2.2⟩, va_recv hK hP (ci := 0) (q0 := 0) rfl rfl, fun U hU hW => ⟨rfl, by rw [hU], by rw [hU]; exact hP, va_K.moved hW.alike hK⟩⟩ rfl rfl hl.1 rfl (lv_room (Nat.le_of_ble_eq_true rfl)) (dt_at dt_Ref_sum 94 rfl) ⟨Nat.le_of_ble_eq_true rfl, Nat.le_of_ble_eq_true rfl⟩) hS (fun x _ h9 => hF x h9) hF (fun u_r1 uu t H locs ht hvm hw hB hz1 hk1 hS => ?_)
  rw [ht] at hB
  obtain rfl : r1 = u_r1 := hw.symm
  have hP : va_P D CLS (wR a q g0 g1 g2 g3 g4 g5 g6 g7 g8 g9 g10 g11 g12 g13 g14 g15 g16 g17 g18 g19) H := hB
  have hD : va_D A (wR a q g0 g1 g2 g3 g4 g5 g6 g7 g8 g9 g10 g11 g12 g13 g14 g15 g16 g17 g18 g19) := dD hD rfl
  obtain rfl := os_of h
  exact W.lret (v := r1) hx hb hr (fun t ht hW => ⟨⟨_, (), rfl, rfl, (hPt hP ht)⟩, hS.F ht⟩) hS.2.2 (dt_at dt_Ref_sum 95 rfl)
set_option maxRecDepth 100000 in
set_option maxHeartbeats 4000000 in
theorem k_Ref_sum_152 {p : Program} {l : Launch} {e : Env} {s : State} {m : MethodId} {args : Array Value} {below : List Frame} {meth : Method} {c : Code} {D : va_G} {a : Nat → Nat} {q : Nat → ClassId} {A : Nat → Prop} (hC : CX p s m args meth c prog_12_method_18_code 8 "OutwardTapeModel" (some .long)) (hA : ∀ x, s.heap.size ≤ x → A x) (hK : va_K D CLS (tR q) s) {g0 : Int32} {g1 : Nat → Int32} {g2 : Nat → Int64} {g3 : Nat → Int64} {g4 : Nat → Int32} {g5 : Int32} {g6 : Nat → Int32} {g7 : Int32} {g10 : Int64} {g11 : Int64} {g12 : Int32} {g13 : Int32} {g14 : Int32} {g15 : Int64} {g16 : Int32} {g17 : Int32} {g18 : Int64} {g19 : Int32} {r0 : Int64 × (Nat → Int32) × Int32} : ∀ (s0 : Int32) (v5 : Int32) (v6 : Int32) (g8 : Nat → Int32) (g9 : Int32) (H : Heap) (locs : List Loc) (ls : Array Slot), va_P D CLS (wR a q g0 g1 g2 g3 g4 g5 g6 g7 g8 g9 g10 g11 g12 g13 g14 g15 g16 g17 g18 g19) H → va_D A (wR a q g0 g1 g2 g3 g4 g5 g6 g7 g8 g9 g10 g11 g12 g13 g14 g15 g16 g17 g18 g19) → va_S A s.heap H locs → lv_has ls 8 [(0, .ref (a 0)), (5, .int v5), (6, .int v6)] → f_Ref_sum_152  s0 v5 v6 g8 g9 = some r0 → W p l e rm_Ref_sum s m args below meth c H locs 0 0 (MQ below (va_Ql (fun (r : Int64) (_ : Unit) => r = r0.1) (fun _ t => va_P D CLS (wR a q g0 g1 g2 g3 g4 g5 g6 g7 r0.2.1 r0.2.2 g10 g11 g12 g13 g14 g15 g16 g17 g18 g19) t.heap) A) args s 0 0 A) (F0 m 152 ls [.int s0]) := by
  obtain ⟨hx, hb, hml, hown, hts, hr, hlocks⟩ := id hC
  intro s0 v5 v6 g8 g9 H locs ls hP hD hS hl h
  rw [f_Ref_sum_152] at h
  refine lv_istore (lv' := [(7, .int s0), (0, .ref (a 0)), (5, .int v5), (6, .int v6)]) hx hb (dt_at dt_Ref_sum 87 rfl) hl (by decide) rfl (fun ls hl => ?_)
  exact k_Ref_sum_154 hC hA hK   v5 v6 s0 g8 g9 H locs ls hP hD hS (lv_sub hl [1, 2, 3, 0] rfl) h
set_option maxRecDepth 100000 in
set_option maxHeartbeats 4000000 in
theorem k_Ref_sum_96 {p : Program} {l : Launch} {e : Env} {s : State} {m : MethodId} {args : Array Value} {below : List Frame} {meth : Method} {c : Code} {D : va_G} {a : Nat → Nat} {q : Nat → ClassId} {A : Nat → Prop} (hC : CX p s m args meth c prog_12_method_18_code 8 "OutwardTapeModel" (some .long)) (hA : ∀ x, s.heap.size ≤ x → A x) (hK : va_K D CLS (tR q) s) {g0 : Int32} {g1 : Nat → Int32} {g2 : Nat → Int64} {g3 : Nat → Int64} {g4 : Nat → Int32} {g5 : Int32} {g6 : Nat → Int32} {g7 : Int32} {g10 : Int64} {g11 : Int64} {g12 : Int32} {g13 : Int32} {g14 : Int32} {g15 : Int64} {g16 : Int32} {g17 : Int32} {g18 : Int64} {g19 : Int32} {r0 : Int64 × (Nat → Int32) × Int32} : ∀ (s0 : Int32) (s1 : Int32) (v3 : Int64) (v5 : Int32) (v6 : Int32) (v7 : Int32) (g8 : Nat → Int32) (g9 : Int32) (H : Heap) (locs : List Loc) (ls : Array Slot), va_P D CLS (wR a q g0 g1 g2 g3 g4 g5 g6 g7 g8 g9 g10 g11 g12 g13 g14 g15 g16 g17 g18 g19) H → va_D A (wR a q g0 g1 g2 g3 g4 g5 g6 g7 g8 g9 g10 g11 g12 g13 g14 g15 g16 g17 g18 g19) → va_S A s.heap H locs → lv_has ls 8 [(0, .ref (a 0)), (3, .long v3), (5, .int v5), (6, .int v6), (7, .int v7)] → f_Ref_sum_96  s0 s1 v3 v5 v6 v7 g8 g9 = some r0 → W p l e rm_Ref_sum s m args below meth c H locs 0 0 (MQ below (va_Ql (fun (r : Int64) (_ : Unit) => r = r0.1) (fun _ t => va_P D CLS (wR a q g0 g1 g2 g3 g4 g5 g6 g7 r0.2.1 r0.2.2 g10 g11 g12 g13 g14 g15 g16 g17 g18 g19) t.heap) A) args s 0 0 A) (F0 m 96 ls [.int s0, .int s1]) := by
  obtain ⟨hx, hb, hml, hown, hts, hr, hlocks⟩ := id hC
  intro s0 s1 v3 v5 v6 v7 g8 g9 H locs ls hP hD hS hl h
  rw [f_Ref_sum_96] at h
  refine lv_icmp_ne (tgt := 109) hx hb (dt_at dt_Ref_sum 53 rfl) (by decide) (fun c1 => ?_) (fun c1 => ?_)
  · have h := if_n h c1
    refine lv_aload_n hx hb (dt_at dt_Ref_sum 60 rfl) rfl (lv_at hl 0 rfl) ?_
    refine lv_iconst (v := 0) hx hb (dt_at dt_Ref_sum 61 rfl) (by decide) ?_
    refine lv_iconst (v := 1) hx hb (dt_at dt_Ref_sum 62 rfl) (by decide) ?_
    obtain ⟨r2, h_r2, h⟩ := ob_of h
    have hF := va_free (wc := dR a) (dD (ws' := dR a) hD rfl) hS hA [0, 1, 2, 3, 4, 5, 6] rfl
    have hd : va_D (fun _ => True) (dR a) := (dD (ws' := dR a) hD rfl).weaken (fun _ _ _ _ => trivial)
    refine va_calli (va_runV (As := [.int (0 : Int32), .int (1 : Int32)]) (rest := []) ⟨hx, hb, hml, hown, hts⟩ (c_Ref_compare l D a q hd H.size (0 : Int32) (1 : Int32) g0 g1 g2 g3 g4 g5 g6 g7 g8 g9 g10 g11 g12 g13 g14 g15 g16 g17 g18 g19 r2 h_r2) (cwV 2 hts (gd_V (m_4 164 rfl rfl) (m_4 166 rfl rfl) (m_s 35 rfl rfl) (m_1 4 rfl rfl) (m_4 167 rfl rfl)) rfl rfl rfl (by decide +kernel) ⟨Nat.le_of_ble_eq_true rfl, Nat.le_of_ble_eq_true rfl⟩) ⟨fun a U g mk q => ⟨q.1, q.2.1, q.2.2.1, va_K.moved (u := U) (U := U.calling g mk a) (Vm.Alike.refl U.vm) q.2.2.2⟩, va_recv hK hP (ci := 0) (q0 := 0) rfl rfl, fun U hU hW => ⟨rfl, by rw [hU], by rw [hU]; exact hP, va_K.moved hW.alike hK⟩⟩ rfl rfl hl.1 rfl (lv_room (Nat.le_of_ble_eq_true rfl)) (dt_at dt_Ref_sum 63 rfl) ⟨Nat.le_of_ble_eq_true rfl, Nat.le_of_ble_eq_true rfl⟩) hS (fun x _ h9 => hF x h9) hF (fun u_r2 uu t H locs ht hvm hw hB hz1 hk1 hS => ?_)
    rw [ht] at hB
    obtain rfl : r2 = u_r2 := hw.symm
    have hP : va_P D CLS (wR a q g0 g1 g2 g3 g4 g5 g6 g7 g8 g9 g10 g11 g12 g13 g14 g15 g16 g17 g18 g19) H := hB
    have hD : va_D A (wR a q g0 g1 g2 g3 g4 g5 g6 g7 g8 g9 g10 g11 g12 g13 g14 g15 g16 g17 g18 g19) := dD hD rfl
    refine lv_if_lt (tgt := 128) hx hb (dt_at dt_Ref_sum 64 rfl) (by decide) (fun c3 => ?_) (fun c3 => ?_)
    · have h := if_p h c3
      refine lv_aload_n hx hb (dt_at dt_Ref_sum 71 rfl) rfl (lv_at hl 0 rfl) ?_
      refine lv_iconst (v := 1) hx hb (dt_at dt_Ref_sum 72 rfl) (by decide) ?_
      refine lv_iconst (v := 0) hx hb (dt_at dt_Ref_sum 73 rfl) (by decide) ?_
      refine lv_iconst (v := -1) hx hb (dt_at dt_Ref_sum 74 rfl) (by decide) ?_
      obtain ⟨r4, h_r4, h⟩ := ob_of h
      have hF := va_free (wc := dR a) (dD (ws' := dR a) hD rfl) hS hA [0, 1, 2, 3, 4, 5, 6] rfl
      have hd : va_D (fun _ => True) (dR a) := (dD (ws' := dR a) hD rfl).weaken (fun _ _ _ _ => trivial)
      refine va_callv (va_runV (As := [.int (1 : Int32), .int (0 : Int32), .int (-1 : Int32)]) (rest := []) ⟨hx, hb, hml, hown, hts⟩ (c_Ref_add l D a q hd H.size (1 : Int32) (0 : Int32) (-1 : Int32) g0 g1 g2 g3 g4 g5 g6 g7 g8 g9 g10 g11 g12 g13 g14 g15 g16 g17 g18 g19 r4 h_r4) (cwV 3 hts (gd_V (m_4 189 rfl rfl) (m_4 191 rfl rfl) (m_s 41 rfl rfl) (m_1 4 rfl rfl) (m_4 192 rfl rfl)) rfl rfl rfl (by decide +kernel) ⟨Nat.le_of_ble_eq_true rfl, Nat.le_of_ble_eq_true rfl⟩) ⟨fun a U g mk q => ⟨q.1, q.2.1, q.2.2.1, va_K.moved (u := U) (U := U.calling g mk a) (Vm.Alike.refl U.vm) q.2.2.2⟩, va_recv hK hP (ci := 0) (q0 := 0) rfl rfl, fun U hU hW => ⟨rfl, by rw [hU], by rw [hU]; exact hP, va_K.moved hW.alike hK⟩⟩ rfl rfl hl.1 rfl (lv_room (Nat.le_of_ble_eq_true rfl)) (dt_at dt_Ref_sum 75 rfl) ⟨Nat.le_of_ble_eq_true rfl, Nat.le_of_ble_eq_true rfl⟩) hS (fun x _ h9 => hF x h9) hF (fun uu t H locs ht hvm hw hB hz1 hk1 hS => ?_)
      rw [ht] at hB
      have hP : va_P D CLS (wR a q g0 g1 g2 g3 g4 g5 g6 g7 r4 g9 g10 g11 g12 g13 g14 g15 g16 g17 g18 g19) H := hB
      have hD : va_D A (wR a q g0 g1 g2 g3 g4 g5 g6 g7 r4 g9 g10 g11 g12 g13 g14 g15 g16 g17 g18 g19) := dD hD rfl
      refine lv_aload_n hx hb (dt_at dt_Ref_sum 76 rfl) rfl (lv_at hl 0 rfl) ?_
      refine lv_iconst (v := 0) hx hb (dt_at dt_Ref_sum 77 rfl) (by decide) ?_
      refine lv_iconst (v := 1) hx hb (dt_at dt_Ref_sum 78 rfl) (by decide) ?_
      obtain ⟨r5, h_r5, h⟩ := ob_of h
      have hF := va_free (wc := dR a) (dD (ws' := dR a) hD rfl) hS hA [0, 1, 2, 3, 4, 5, 6] rfl
      have hd : va_D (fun _ => True) (dR a) := (dD (ws' := dR a) hD rfl).weaken (fun _ _ _ _ => trivial)
      refine va_callv (va_runV (As := [.int (0 : Int32), .int (1 : Int32)]) (rest := []) ⟨hx, hb, hml, hown, hts⟩ (c_Ref_copy l D a q hd H.size (0 : Int32) (1 : Int32) g0 g1 g2 g3 g4 g5 g6 g7 r4 g9 g10 g11 g12 g13 g14 g15 g16 g17 g18 g19 r5 h_r5) (cwV 2 hts (gd_V (m_4 168 rfl rfl) (m_4 170 rfl rfl) (m_s 36 rfl rfl) (m_1 4 rfl rfl) (m_4 171 rfl rfl)) rfl rfl rfl (by decide +kernel) ⟨Nat.le_of_ble_eq_true rfl, Nat.le_of_ble_eq_true rfl⟩) ⟨fun a U g mk q => ⟨q.1, q.2.1, q.2.2.1, va_K.moved (u := U) (U := U.calling g mk a) (Vm.Alike.refl U.vm) q.2.2.2⟩, va_recv hK hP (ci := 0) (q0 := 0) rfl rfl, fun U hU hW => ⟨rfl, by rw [hU], by rw [hU]; exact hP, va_K.moved hW.alike hK⟩⟩ rfl rfl hl.1 rfl (lv_room (Nat.le_of_ble_eq_true rfl)) (dt_at dt_Ref_sum 79 rfl) ⟨Nat.le_of_ble_eq_true rfl, Nat.le_of_ble_eq_true rfl⟩) hS (fun x _ h9 => hF x h9) hF (fun uu t H locs ht hvm hw hB hz1 hk1 hS => ?_)
      rw [ht] at hB
      have hP : va_P D CLS (wR a q g0 g1 g2 g3 g4 g5 g6 g7 r5 g9 g10 g11 g12 g13 g14 g15 g16 g17 g18 g19) H := hB
      have hD : va_D A (wR a q g0 g1 g2 g3 g4 g5 g6 g7 r5 g9 g10 g11 g12 g13 g14 g15 g16 g17 g18 g19) := dD hD rfl
      refine lv_lload_n hx hb (dt_at dt_Ref_sum 80 rfl) rfl (lv_at hl 1 rfl) ?_
      refine lv_lconst (v := 0) hx hb (dt_at dt_Ref_sum 81 rfl) (by decide) ?_
      refine lc_ge (tgt := 151) hx hb (dt_at dt_Ref_sum 82 rfl) (dt_at dt_Ref_sum 83 rfl) (by decide) (fun c6 => ?_) (fun c6 => ?_)
      · have h := if_p h c6
        refine lv_iconst (v := 0) hx hb (dt_at dt_Ref_sum 86 rfl) (by decide) ?_
        exact k_Ref_sum_152 hC hA hK   (0 : Int32) v5 v6 r5 g9 H locs ls hP hD hS (lv_sub hl [0, 2, 3] rfl) h
      · have h := if_n h c6
        refine lv_iconst (v := 1) hx hb (dt_at dt_Ref_sum 84 rfl) (by decide) ?_
        refine lv_goto (tgt := 152) hx hb (dt_at dt_Ref_sum 85 rfl) (by decide) ?_
        exact k_Ref_sum_152 hC hA hK   (1 : Int32) v5 v6 r5 g9 H locs ls hP hD hS (lv_sub hl [0, 2, 3] rfl) h
    · have h := if_n h c3
      refine lv_aload_n hx hb (dt_at dt_Ref_sum 65 rfl) rfl (lv_at hl 0 rfl) ?_
      refine lv_iconst (v := 0) hx hb (dt_at dt_Ref_sum 66 rfl) (by decide) ?_
      refine lv_iconst (v := 1) hx hb (dt_at dt_Ref_sum 67 rfl) (by decide) ?_
      refine lv_iconst (v := -1) hx hb (dt_at dt_Ref_sum 68 rfl) (by decide) ?_
      obtain ⟨r7, h_r7, h⟩ := ob_of h
      have hF := va_free (wc := dR a) (dD (ws' := dR a) hD rfl) hS hA [0, 1, 2, 3, 4, 5, 6] rfl
      have hd : va_D (fun _ => True) (dR a) := (dD (ws' := dR a) hD rfl).weaken (fun _ _ _ _ => trivial)
      refine va_callv (va_runV (As := [.int (0 : Int32), .int (1 : Int32), .int (-1 : Int32)]) (rest := []) ⟨hx, hb, hml, hown, hts⟩ (c_Ref_add l D a q hd H.size (0 : Int32) (1 : Int32) (-1 : Int32) g0 g1 g2 g3 g4 g5 g6 g7 g8 g9 g10 g11 g12 g13 g14 g15 g16 g17 g18 g19 r7 h_r7) (cwV 3 hts (gd_V (m_4 189 rfl rfl) (m_4 191 rfl rfl) (m_s 41 rfl rfl) (m_1 4 rfl rfl) (m_4 192 rfl rfl)) rfl rfl rfl (by decide +kernel) ⟨Nat.le_of_ble_eq_true rfl, Nat.le_of_ble_eq_true rfl⟩) ⟨fun a U g mk q => ⟨q.1, q.2.1, q.2.2.1, va_K.moved (u := U) (U := U.calling g mk a) (Vm.Alike.refl U.vm) q.2.2.2⟩, va_recv hK hP (ci := 0) (q0 := 0) rfl rfl, fun U hU hW => ⟨rfl, by rw [hU], by rw [hU]; exact hP, va_K.moved hW.alike hK⟩⟩ rfl rfl hl.1 rfl (lv_room (Nat.le_of_ble_eq_true rfl)) (dt_at dt_Ref_sum 69 rfl) ⟨Nat.le_of_ble_eq_true rfl, Nat.le_of_ble_eq_true rfl⟩) hS (fun x _ h9 => hF x h9) hF (fun uu t H locs ht hvm hw hB hz1 hk1 hS => ?_)
      rw [ht] at hB
      have hP : va_P D CLS (wR a q g0 g1 g2 g3 g4 g5 g6 g7 r7 g9 g10 g11 g12 g13 g14 g15 g16 g17 g18 g19) H := hB
      have hD : va_D A (wR a q g0 g1 g2 g3 g4 g5 g6 g7 r7 g9 g10 g11 g12 g13 g14 g15 g16 g17 g18 g19) := dD hD rfl
      refine lv_goto (tgt := 154) hx hb (dt_at dt_Ref_sum 70 rfl) (by decide) ?_
      exact k_Ref_sum_154 hC hA hK   v5 v6 v7 r7 g9 H locs ls hP hD hS (lv_sub hl [0, 2, 3, 4] rfl) h
  · have h := if_p h c1
    refine lv_aload_n hx hb (dt_at dt_Ref_sum 54 rfl) rfl (lv_at hl 0 rfl) ?_
    refine lv_iconst (v := 0) hx hb (dt_at dt_Ref_sum 55 rfl) (by decide) ?_
    refine lv_iconst (v := 1) hx hb (dt_at dt_Ref_sum 56 rfl) (by decide) ?_
    refine lv_iconst (v := 1) hx hb (dt_at dt_Ref_sum 57 rfl) (by decide) ?_
    obtain ⟨r8, h_r8, h⟩ := ob_of h
    have hF := va_free (wc := dR a) (dD (ws' := dR a) hD rfl) hS hA [0, 1, 2, 3, 4, 5, 6] rfl
    have hd : va_D (fun _ => True) (dR a) := (dD (ws' := dR a) hD rfl).weaken (fun _ _ _ _ => trivial)
    refine va_callv (va_runV (As := [.int (0 : Int32), .int (1 : Int32), .int (1 : Int32)]) (rest := []) ⟨hx, hb, hml, hown, hts⟩ (c_Ref_add l D a q hd H.size (0 : Int32) (1 : Int32) (1 : Int32) g0 g1 g2 g3 g4 g5 g6 g7 g8 g9 g10 g11 g12 g13 g14 g15 g16 g17 g18 g19 r8 h_r8) (cwV 3 hts (gd_V (m_4 189 rfl rfl) (m_4 191 rfl rfl) (m_s 41 rfl rfl) (m_1 4 rfl rfl) (m_4 192 rfl rfl)) rfl rfl rfl (by decide +kernel) ⟨Nat.le_of_ble_eq_true rfl, Nat.le_of_ble_eq_true rfl⟩) ⟨fun a U g mk q => ⟨q.1, q.2.1, q.2.2.1, va_K.moved (u := U) (U := U.calling g mk a) (Vm.Alike.refl U.vm) q.2.2.2⟩, va_recv hK hP (ci := 0) (q0 := 0) rfl rfl, fun U hU hW => ⟨rfl, by rw [hU], by rw [hU]; exact hP, va_K.moved hW.alike hK⟩⟩ rfl rfl hl.1 rfl (lv_room (Nat.le_of_ble_eq_true rfl)) (dt_at dt_Ref_sum 58 rfl) ⟨Nat.le_of_ble_eq_true rfl, Nat.le_of_ble_eq_true rfl⟩) hS (fun x _ h9 => hF x h9) hF (fun uu t H locs ht hvm hw hB hz1 hk1 hS => ?_)
    rw [ht] at hB
    have hP : va_P D CLS (wR a q g0 g1 g2 g3 g4 g5 g6 g7 r8 g9 g10 g11 g12 g13 g14 g15 g16 g17 g18 g19) H := hB
    have hD : va_D A (wR a q g0 g1 g2 g3 g4 g5 g6 g7 r8 g9 g10 g11 g12 g13 g14 g15 g16 g17 g18 g19) := dD hD rfl
    refine lv_goto (tgt := 154) hx hb (dt_at dt_Ref_sum 59 rfl) (by decide) ?_
    exact k_Ref_sum_154 hC hA hK   v5 v6 v7 r8 g9 H locs ls hP hD hS (lv_sub hl [0, 2, 3, 4] rfl) h
set_option maxRecDepth 100000 in
set_option maxHeartbeats 4000000 in
theorem k_Ref_sum_85 {p : Program} {l : Launch} {e : Env} {s : State} {m : MethodId} {args : Array Value} {below : List Frame} {meth : Method} {c : Code} {D : va_G} {a : Nat → Nat} {q : Nat → ClassId} {A : Nat → Prop} (hC : CX p s m args meth c prog_12_method_18_code 8 "OutwardTapeModel" (some .long)) (hA : ∀ x, s.heap.size ≤ x → A x) (hK : va_K D CLS (tR q) s) {g0 : Int32} {g1 : Nat → Int32} {g2 : Nat → Int64} {g3 : Nat → Int64} {g4 : Nat → Int32} {g5 : Int32} {g6 : Nat → Int32} {g7 : Int32} {g10 : Int64} {g11 : Int64} {g12 : Int32} {g13 : Int32} {g14 : Int32} {g15 : Int64} {g16 : Int32} {g17 : Int32} {g18 : Int64} {g19 : Int32} {r0 : Int64 × (Nat → Int32) × Int32} : ∀ (s0 : Int32) (v3 : Int64) (v5 : Int32) (v6 : Int32) (v7 : Int32) (g8 : Nat → Int32) (g9 : Int32) (H : Heap) (locs : List Loc) (ls : Array Slot), va_P D CLS (wR a q g0 g1 g2 g3 g4 g5 g6 g7 g8 g9 g10 g11 g12 g13 g14 g15 g16 g17 g18 g19) H → va_D A (wR a q g0 g1 g2 g3 g4 g5 g6 g7 g8 g9 g10 g11 g12 g13 g14 g15 g16 g17 g18 g19) → va_S A s.heap H locs → lv_has ls 8 [(0, .ref (a 0)), (3, .long v3), (5, .int v5), (6, .int v6), (7, .int v7)] → f_Ref_sum_85  s0 v3 v5 v6 v7 g8 g9 = some r0 → W p l e rm_Ref_sum s m args below meth c H locs 0 0 (MQ below (va_Ql (fun (r : Int64) (_ : Unit) => r = r0.1) (fun _ t => va_P D CLS (wR a q g0 g1 g2 g3 g4 g5 g6 g7 r0.2.1 r0.2.2 g10 g11 g12 g13 g14 g15 g16 g17 g18 g19) t.heap) A) args s 0 0 A) (F0 m 85 ls [.int s0]) := by
  obtain ⟨hx, hb, hml, hown, hts, hr, hlocks⟩ := id hC
  intro s0 v3 v5 v6 v7 g8 g9 H locs ls hP hD hS hl h
  rw [f_Ref_sum_85] at h
  refine lv_lload_n hx hb (dt_at dt_Ref_sum 46 rfl) rfl (lv_at hl 1 rfl) ?_
  refine lv_lconst (v := 0) hx hb (dt_at dt_Ref_sum 47 rfl) (by decide) ?_
  refine lc_ge (tgt := 95) hx hb (dt_at dt_Ref_sum 48 rfl) (dt_at dt_Ref_sum 49 rfl) (by decide) (fun c1 => ?_) (fun c1 => ?_)
  · have h := if_p h c1
    refine lv_iconst (v := 0) hx hb (dt_at dt_Ref_sum 52 rfl) (by decide) ?_
    exact k_Ref_sum_96 hC hA hK   (0 : Int32) s0 v3 v5 v6 v7 g8 g9 H locs ls hP hD hS (lv_sub hl [0, 1, 2, 3, 4] rfl) h
  · have h := if_n h c1
    refine lv_iconst (v := 1) hx hb (dt_at dt_Ref_sum 50 rfl) (by decide) ?_
    refine lv_goto (tgt := 96) hx hb (dt_at dt_Ref_sum 51 rfl) (by decide) ?_
    exact k_Ref_sum_96 hC hA hK   (1 : Int32) s0 v3 v5 v6 v7 g8 g9 H locs ls hP hD hS (lv_sub hl [0, 1, 2, 3, 4] rfl) h
set_option maxRecDepth 100000 in
set_option maxHeartbeats 4000000 in
theorem k_Ref_sum_72 {p : Program} {l : Launch} {e : Env} {s : State} {m : MethodId} {args : Array Value} {below : List Frame} {meth : Method} {c : Code} {D : va_G} {a : Nat → Nat} {q : Nat → ClassId} {A : Nat → Prop} (hC : CX p s m args meth c prog_12_method_18_code 8 "OutwardTapeModel" (some .long)) (hA : ∀ x, s.heap.size ≤ x → A x) (hK : va_K D CLS (tR q) s) {g0 : Int32} {g1 : Nat → Int32} {g2 : Nat → Int64} {g3 : Nat → Int64} {g4 : Nat → Int32} {g5 : Int32} {g6 : Nat → Int32} {g7 : Int32} {g10 : Int64} {g11 : Int64} {g12 : Int32} {g13 : Int32} {g14 : Int32} {g15 : Int64} {g16 : Int32} {g17 : Int32} {g18 : Int64} {g19 : Int32} {r0 : Int64 × (Nat → Int32) × Int32} : ∀ (s0 : Int32) (v1 : Int64) (v3 : Int64) (v5 : Int32) (v6 : Int32) (g8 : Nat → Int32) (g9 : Int32) (H : Heap) (locs : List Loc) (ls : Array Slot), va_P D CLS (wR a q g0 g1 g2 g3 g4 g5 g6 g7 g8 g9 g10 g11 g12 g13 g14 g15 g16 g17 g18 g19) H → va_D A (wR a q g0 g1 g2 g3 g4 g5 g6 g7 g8 g9 g10 g11 g12 g13 g14 g15 g16 g17 g18 g19) → va_S A s.heap H locs → lv_has ls 8 [(0, .ref (a 0)), (1, .long v1), (3, .long v3), (5, .int v5), (6, .int v6)] → f_Ref_sum_72  s0 v1 v3 v5 v6 g8 g9 = some r0 → W p l e rm_Ref_sum s m args below meth c H locs 0 0 (MQ below (va_Ql (fun (r : Int64) (_ : Unit) => r = r0.1) (fun _ t => va_P D CLS (wR a q g0 g1 g2 g3 g4 g5 g6 g7 r0.2.1 r0.2.2 g10 g11 g12 g13 g14 g15 g16 g17 g18 g19) t.heap) A) args s 0 0 A) (F0 m 72 ls [.int s0]) := by
  obtain ⟨hx, hb, hml, hown, hts, hr, hlocks⟩ := id hC
  intro s0 v1 v3 v5 v6 g8 g9 H locs ls hP hD hS hl h
  rw [f_Ref_sum_72] at h
  refine lv_istore (lv' := [(7, .int s0), (0, .ref (a 0)), (1, .long v1), (3, .long v3), (5, .int v5), (6, .int v6)]) hx hb (dt_at dt_Ref_sum 38 rfl) hl (by decide) rfl (fun ls hl => ?_)
  refine lv_lload_n hx hb (dt_at dt_Ref_sum 39 rfl) rfl (lv_at hl 2 rfl) ?_
  refine lv_lconst (v := 0) hx hb (dt_at dt_Ref_sum 40 rfl) (by decide) ?_
  refine lc_ge (tgt := 84) hx hb (dt_at dt_Ref_sum 41 rfl) (dt_at dt_Ref_sum 42 rfl) (by decide) (fun c1 => ?_) (fun c1 => ?_)
  · have h := if_p h c1
    refine lv_iconst (v := 0) hx hb (dt_at dt_Ref_sum 45 rfl) (by decide) ?_
    exact k_Ref_sum_85 hC hA hK   (0 : Int32) v3 v5 v6 s0 g8 g9 H locs ls hP hD hS (lv_sub hl [1, 3, 4, 5, 0] rfl) h
  · have h := if_n h c1
    refine lv_iconst (v := 1) hx hb (dt_at dt_Ref_sum 43 rfl) (by decide) ?_
    refine lv_goto (tgt := 85) hx hb (dt_at dt_Ref_sum 44 rfl) (by decide) ?_
    exact k_Ref_sum_85 hC hA hK   (1 : Int32) v3 v5 v6 s0 g8 g9 H locs ls hP hD hS (lv_sub hl [1, 3, 4, 5, 0] rfl) h
set_option maxRecDepth 100000 in
set_option maxHeartbeats 4000000 in
theorem k_Ref_sum_0 {p : Program} {l : Launch} {e : Env} {s : State} {m : MethodId} {args : Array Value} {below : List Frame} {meth : Method} {c : Code} {D : va_G} {a : Nat → Nat} {q : Nat → ClassId} {A : Nat → Prop} (hC : CX p s m args meth c prog_12_method_18_code 8 "OutwardTapeModel" (some .long)) (hA : ∀ x, s.heap.size ≤ x → A x) (hK : va_K D CLS (tR q) s) {g0 : Int32} {g1 : Nat → Int32} {g2 : Nat → Int64} {g3 : Nat → Int64} {g4 : Nat → Int32} {g5 : Int32} {g6 : Nat → Int32} {g7 : Int32} {g10 : Int64} {g11 : Int64} {g12 : Int32} {g13 : Int32} {g14 : Int32} {g15 : Int64} {g16 : Int32} {g17 : Int32} {g18 : Int64} {g19 : Int32} {r0 : Int64 × (Nat → Int32) × Int32} : ∀ (v1 : Int64) (v3 : Int64) (v5 : Int32) (v6 : Int32) (g8 : Nat → Int32) (g9 : Int32) (H : Heap) (locs : List Loc) (ls : Array Slot), va_P D CLS (wR a q g0 g1 g2 g3 g4 g5 g6 g7 g8 g9 g10 g11 g12 g13 g14 g15 g16 g17 g18 g19) H → va_D A (wR a q g0 g1 g2 g3 g4 g5 g6 g7 g8 g9 g10 g11 g12 g13 g14 g15 g16 g17 g18 g19) → va_S A s.heap H locs → lv_has ls 8 [(0, .ref (a 0)), (1, .long v1), (3, .long v3), (5, .int v5), (6, .int v6)] → f_Ref_sum_0  v1 v3 v5 v6 g8 g9 = some r0 → W p l e rm_Ref_sum s m args below meth c H locs 0 0 (MQ below (va_Ql (fun (r : Int64) (_ : Unit) => r = r0.1) (fun _ t => va_P D CLS (wR a q g0 g1 g2 g3 g4 g5 g6 g7 r0.2.1 r0.2.2 g10 g11 g12 g13 g14 g15 g16 g17 g18 g19) t.heap) A) args s 0 0 A) (F0 m 0 ls []) := by
  obtain ⟨hx, hb, hml, hown, hts, hr, hlocks⟩ := id hC
  intro v1 v3 v5 v6 g8 g9 H locs ls hP hD hS hl h
  rw [f_Ref_sum_0] at h
  refine lv_aload_n hx hb (dt_at dt_Ref_sum 0 rfl) rfl (lv_at hl 0 rfl) ?_
  refine lv_iconst (v := 0) hx hb (dt_at dt_Ref_sum 1 rfl) (by decide) ?_
  refine va_put (D := D) (ci := 0) (v := .int (0 : Int32)) (ty := .boolean) (C := "OutwardTapeModel") (T := T_Ref) (N := 20) hx hb hts in_Ref ty_Ref tk_Ref nm_Ref hown hK hP hD hS 0 rfl rfl 9 (by decide) (hts (Cond.fieldLink "OutwardTapeModel" 65 "OutwardTapeModel" "over" "Z") (m_4 8 rfl rfl)) (fun _ h9 => h9) rfl (by decide +kernel) (by decide) (by decide) (Nat.le_of_ble_eq_true rfl) (dt_at dt_Ref_sum 2 rfl) (fun H locs hP hD hS => ?_)
  have hP : va_P D CLS (wR a q g0 g1 g2 g3 g4 g5 g6 g7 g8 (0 : Int32) g10 g11 g12 g13 g14 g15 g16 g17 g18 g19) H := hP
  have hD : va_D A (wR a q g0 g1 g2 g3 g4 g5 g6 g7 g8 (0 : Int32) g10 g11 g12 g13 g14 g15 g16 g17 g18 g19) := hD
  refine lv_aload_n hx hb (dt_at dt_Ref_sum 3 rfl) rfl (lv_at hl 0 rfl) ?_
  refine lv_iconst (v := 0) hx hb (dt_at dt_Ref_sum 4 rfl) (by decide) ?_
  refine lv_lload_n hx hb (dt_at dt_Ref_sum 5 rfl) rfl (lv_at hl 1 rfl) ?_
  obtain ⟨r1, h_r1, h⟩ := ob_of h
  refine vp_callSl (W.runS (As := [.long v1]) (rest := [.int (0 : Int32), .ref (a 0)]) ⟨hx, hb, hml, hown, hts⟩ (c_Ref_absolute l v1 r1 h_r1) (va_cwS 1 hts (gd_S (m_4 81 rfl rfl) (m_4 82 rfl rfl) (m_1 4 rfl rfl) (m_4 83 rfl rfl)) rfl rfl rfl (by decide +kernel) ⟨Nat.le_of_ble_eq_true rfl, Nat.le_of_ble_eq_true rfl⟩) ⟨fun _ _ _ _ q => q, fun U hU hW => ⟨rfl, trivial⟩⟩ rfl rfl hl.1 rfl (lv_room (Nat.le_of_ble_eq_true rfl)) (dt_at dt_Ref_sum 6 rfl) ⟨Nat.le_of_ble_eq_true rfl, Nat.le_of_ble_eq_true rfl⟩) (fun u_r1 q_r1 => ?_)
  obtain rfl : r1 = u_r1 := q_r1.symm
  obtain ⟨r2, h_r2, h⟩ := ob_of h
  refine vp_callSl (W.runS (As := [.long r1]) (rest := [.int (0 : Int32), .ref (a 0)]) ⟨hx, hb, hml, hown, hts⟩ (c_Ref_mantissa l r1 r2 h_r2) (va_cwS 1 hts (gd_S (m_4 124 rfl rfl) (m_4 125 rfl rfl) (m_1 4 rfl rfl) (m_4 126 rfl rfl)) rfl rfl rfl (by decide +kernel) ⟨Nat.le_of_ble_eq_true rfl, Nat.le_of_ble_eq_true rfl⟩) ⟨fun _ _ _ _ q => q, fun U hU hW => ⟨rfl, trivial⟩⟩ rfl rfl hl.1 rfl (lv_room (Nat.le_of_ble_eq_true rfl)) (dt_at dt_Ref_sum 7 rfl) ⟨Nat.le_of_ble_eq_true rfl, Nat.le_of_ble_eq_true rfl⟩) (fun u_r2 q_r2 => ?_)
  obtain rfl : r2 = u_r2 := q_r2.symm
  obtain ⟨r3, h_r3, h⟩ := ob_of h
  have hF := va_free (wc := dR a) (dD (ws' := dR a) hD rfl) hS hA [0, 1, 2, 3, 4, 5, 6] rfl
  have hd : va_D (fun _ => True) (dR a) := (dD (ws' := dR a) hD rfl).weaken (fun _ _ _ _ => trivial)
  refine va_callv (va_runV (As := [.int (0 : Int32), .long r2]) (rest := []) ⟨hx, hb, hml, hown, hts⟩ (c_Ref_put l D a q hd H.size (0 : Int32) r2 g0 g1 g2 g3 g4 g5 g6 g7 g8 (0 : Int32) g10 g11 g12 g13 g14 g15 g16 g17 g18 g19 r3 h_r3) (cwV 2 hts (gd_V (m_4 129 rfl rfl) (m_4 131 rfl rfl) (m_s 28 rfl rfl) (m_1 4 rfl rfl) (m_4 132 rfl rfl)) rfl rfl rfl (by decide +kernel) ⟨Nat.le_of_ble_eq_true rfl, Nat.le_of_ble_eq_true rfl⟩) ⟨fun a U g mk q => ⟨q.1, q.2.1, q.2.2.1, va_K.moved (u := U) (U := U.calling g mk a) (Vm.Alike.refl U.vm) q.2.2.2⟩, va_recv hK hP (ci := 0) (q0 := 0) rfl rfl, fun U hU hW => ⟨rfl, by rw [hU], by rw [hU]; exact hP, va_K.moved hW.alike hK⟩⟩ rfl rfl hl.1 rfl (lv_room (Nat.le_of_ble_eq_true rfl)) (dt_at dt_Ref_sum 8 rfl) ⟨Nat.le_of_ble_eq_true rfl, Nat.le_of_ble_eq_true rfl⟩) hS (fun x _ h9 => hF x h9) hF (fun uu t H locs ht hvm hw hB hz1 hk1 hS => ?_)
  rw [ht] at hB
  have hP : va_P D CLS (wR a q g0 g1 g2 g3 g4 g5 g6 g7 r3 (0 : Int32) g10 g11 g12 g13 g14 g15 g16 g17 g18 g19) H := hB
  have hD : va_D A (wR a q g0 g1 g2 g3 g4 g5 g6 g7 r3 (0 : Int32) g10 g11 g12 g13 g14 g15 g16 g17 g18 g19) := dD hD rfl
  refine lv_aload_n hx hb (dt_at dt_Ref_sum 9 rfl) rfl (lv_at hl 0 rfl) ?_
  refine lv_iconst (v := 0) hx hb (dt_at dt_Ref_sum 10 rfl) (by decide) ?_
  refine lv_lload_n hx hb (dt_at dt_Ref_sum 11 rfl) rfl (lv_at hl 1 rfl) ?_
  obtain ⟨r4, h_r4, h⟩ := ob_of h
  refine vp_callSl (W.runS (As := [.long v1]) (rest := [.int (0 : Int32), .ref (a 0)]) ⟨hx, hb, hml, hown, hts⟩ (c_Ref_absolute l v1 r4 h_r4) (va_cwS 1 hts (gd_S (m_4 81 rfl rfl) (m_4 82 rfl rfl) (m_1 4 rfl rfl) (m_4 83 rfl rfl)) rfl rfl rfl (by decide +kernel) ⟨Nat.le_of_ble_eq_true rfl, Nat.le_of_ble_eq_true rfl⟩) ⟨fun _ _ _ _ q => q, fun U hU hW => ⟨rfl, trivial⟩⟩ rfl rfl hl.1 rfl (lv_room (Nat.le_of_ble_eq_true rfl)) (dt_at dt_Ref_sum 12 rfl) ⟨Nat.le_of_ble_eq_true rfl, Nat.le_of_ble_eq_true rfl⟩) (fun u_r4 q_r4 => ?_)
  obtain rfl : r4 = u_r4 := q_r4.symm
  obtain ⟨r5, h_r5, h⟩ := ob_of h
  refine vp_callSi (W.runS (As := [.long r4]) (rest := [.int (0 : Int32), .ref (a 0)]) ⟨hx, hb, hml, hown, hts⟩ (c_Ref_exponent l r4 r5 h_r5) (va_cwS 1 hts (gd_S (m_4 146 rfl rfl) (m_4 147 rfl rfl) (m_1 4 rfl rfl) (m_4 148 rfl rfl)) rfl rfl rfl (by decide +kernel) ⟨Nat.le_of_ble_eq_true rfl, Nat.le_of_ble_eq_true rfl⟩) ⟨fun _ _ _ _ q => q, fun U hU hW => ⟨rfl, trivial⟩⟩ rfl rfl hl.1 rfl (lv_room (Nat.le_of_ble_eq_true rfl)) (dt_at dt_Ref_sum 13 rfl) ⟨Nat.le_of_ble_eq_true rfl, Nat.le_of_ble_eq_true rfl⟩) (fun u_r5 q_r5 => ?_)
  obtain rfl : r5 = u_r5 := q_r5.symm
  refine lv_sipush (v := 1074) hx hb (dt_at dt_Ref_sum 14 rfl) (by decide) ?_
  refine lv_iadd hx hb (dt_at dt_Ref_sum 15 rfl) ?_
  obtain ⟨r6, h_r6, h⟩ := ob_of h
  have hF := va_free (wc := dR a) (dD (ws' := dR a) hD rfl) hS hA [0, 1, 2, 3, 4, 5, 6] rfl
  have hd : va_D (fun _ => True) (dR a) := (dD (ws' := dR a) hD rfl).weaken (fun _ _ _ _ => trivial)
  refine va_callv (va_runV (As := [.int (0 : Int32), .int (r5 + (1074 : Int32))]) (rest := []) ⟨hx, hb, hml, hown, hts⟩ (c_Ref_moveUp l D a q hd H.size (0 : Int32) (r5 + (1074 : Int32)) g0 g1 g2 g3 g4 g5 g6 g7 r3 (0 : Int32) g10 g11 g12 g13 g14 g15 g16 g17 g18 g19 r6 h_r6) (cwV 2 hts (gd_V (m_4 159 rfl rfl) (m_4 161 rfl rfl) (m_s 34 rfl rfl) (m_1 4 rfl rfl) (m_4 162 rfl rfl)) rfl rfl rfl (by decide +kernel) ⟨Nat.le_of_ble_eq_true rfl, Nat.le_of_ble_eq_true rfl⟩) ⟨fun a U g mk q => ⟨q.1, q.2.1, q.2.2.1, va_K.moved (u := U) (U := U.calling g mk a) (Vm.Alike.refl U.vm) q.2.2.2⟩, va_recv hK hP (ci := 0) (q0 := 0) rfl rfl, fun U hU hW => ⟨rfl, by rw [hU], by rw [hU]; exact hP, va_K.moved hW.alike hK⟩⟩ rfl rfl hl.1 rfl (lv_room (Nat.le_of_ble_eq_true rfl)) (dt_at dt_Ref_sum 16 rfl) ⟨Nat.le_of_ble_eq_true rfl, Nat.le_of_ble_eq_true rfl⟩) hS (fun x _ h9 => hF x h9) hF (fun uu t H locs ht hvm hw hB hz1 hk1 hS => ?_)
  rw [ht] at hB
  have hP : va_P D CLS (wR a q g0 g1 g2 g3 g4 g5 g6 g7 r6 (0 : Int32) g10 g11 g12 g13 g14 g15 g16 g17 g18 g19) H := hB
  have hD : va_D A (wR a q g0 g1 g2 g3 g4 g5 g6 g7 r6 (0 : Int32) g10 g11 g12 g13 g14 g15 g16 g17 g18 g19) := dD hD rfl
  refine lv_aload_n hx hb (dt_at dt_Ref_sum 17 rfl) rfl (lv_at hl 0 rfl) ?_
  refine lv_iconst (v := 1) hx hb (dt_at dt_Ref_sum 18 rfl) (by decide) ?_
  refine lv_lload_n hx hb (dt_at dt_Ref_sum 19 rfl) rfl (lv_at hl 2 rfl) ?_
  obtain ⟨r7, h_r7, h⟩ := ob_of h
  refine vp_callSl (W.runS (As := [.long v3]) (rest := [.int (1 : Int32), .ref (a 0)]) ⟨hx, hb, hml, hown, hts⟩ (c_Ref_absolute l v3 r7 h_r7) (va_cwS 1 hts (gd_S (m_4 81 rfl rfl) (m_4 82 rfl rfl) (m_1 4 rfl rfl) (m_4 83 rfl rfl)) rfl rfl rfl (by decide +kernel) ⟨Nat.le_of_ble_eq_true rfl, Nat.le_of_ble_eq_true rfl⟩) ⟨fun _ _ _ _ q => q, fun U hU hW => ⟨rfl, trivial⟩⟩ rfl rfl hl.1 rfl (lv_room (Nat.le_of_ble_eq_true rfl)) (dt_at dt_Ref_sum 20 rfl) ⟨Nat.le_of_ble_eq_true rfl, Nat.le_of_ble_eq_true rfl⟩) (fun u_r7 q_r7 => ?_)
  obtain rfl : r7 = u_r7 := q_r7.symm
  obtain ⟨r8, h_r8, h⟩ := ob_of h
  refine vp_callSl (W.runS (As := [.long r7]) (rest := [.int (1 : Int32), .ref (a 0)]) ⟨hx, hb, hml, hown, hts⟩ (c_Ref_mantissa l r7 r8 h_r8) (va_cwS 1 hts (gd_S (m_4 124 rfl rfl) (m_4 125 rfl rfl) (m_1 4 rfl rfl) (m_4 126 rfl rfl)) rfl rfl rfl (by decide +kernel) ⟨Nat.le_of_ble_eq_true rfl, Nat.le_of_ble_eq_true rfl⟩) ⟨fun _ _ _ _ q => q, fun U hU hW => ⟨rfl, trivial⟩⟩ rfl rfl hl.1 rfl (lv_room (Nat.le_of_ble_eq_true rfl)) (dt_at dt_Ref_sum 21 rfl) ⟨Nat.le_of_ble_eq_true rfl, Nat.le_of_ble_eq_true rfl⟩) (fun u_r8 q_r8 => ?_)
  obtain rfl : r8 = u_r8 := q_r8.symm
  obtain ⟨r9, h_r9, h⟩ := ob_of h
  have hF := va_free (wc := dR a) (dD (ws' := dR a) hD rfl) hS hA [0, 1, 2, 3, 4, 5, 6] rfl
  have hd : va_D (fun _ => True) (dR a) := (dD (ws' := dR a) hD rfl).weaken (fun _ _ _ _ => trivial)
  refine va_callv (va_runV (As := [.int (1 : Int32), .long r8]) (rest := []) ⟨hx, hb, hml, hown, hts⟩ (c_Ref_put l D a q hd H.size (1 : Int32) r8 g0 g1 g2 g3 g4 g5 g6 g7 r6 (0 : Int32) g10 g11 g12 g13 g14 g15 g16 g17 g18 g19 r9 h_r9) (cwV 2 hts (gd_V (m_4 129 rfl rfl) (m_4 131 rfl rfl) (m_s 28 rfl rfl) (m_1 4 rfl rfl) (m_4 132 rfl rfl)) rfl rfl rfl (by decide +kernel) ⟨Nat.le_of_ble_eq_true rfl, Nat.le_of_ble_eq_true rfl⟩) ⟨fun a U g mk q => ⟨q.1, q.2.1, q.2.2.1, va_K.moved (u := U) (U := U.calling g mk a) (Vm.Alike.refl U.vm) q.2.2.2⟩, va_recv hK hP (ci := 0) (q0 := 0) rfl rfl, fun U hU hW => ⟨rfl, by rw [hU], by rw [hU]; exact hP, va_K.moved hW.alike hK⟩⟩ rfl rfl hl.1 rfl (lv_room (Nat.le_of_ble_eq_true rfl)) (dt_at dt_Ref_sum 22 rfl) ⟨Nat.le_of_ble_eq_true rfl, Nat.le_of_ble_eq_true rfl⟩) hS (fun x _ h9 => hF x h9) hF (fun uu t H locs ht hvm hw hB hz1 hk1 hS => ?_)
  rw [ht] at hB
  have hP : va_P D CLS (wR a q g0 g1 g2 g3 g4 g5 g6 g7 r9 (0 : Int32) g10 g11 g12 g13 g14 g15 g16 g17 g18 g19) H := hB
  have hD : va_D A (wR a q g0 g1 g2 g3 g4 g5 g6 g7 r9 (0 : Int32) g10 g11 g12 g13 g14 g15 g16 g17 g18 g19) := dD hD rfl
  refine lv_aload_n hx hb (dt_at dt_Ref_sum 23 rfl) rfl (lv_at hl 0 rfl) ?_
  refine lv_iconst (v := 1) hx hb (dt_at dt_Ref_sum 24 rfl) (by decide) ?_
  refine lv_lload_n hx hb (dt_at dt_Ref_sum 25 rfl) rfl (lv_at hl 2 rfl) ?_
  obtain ⟨r10, h_r10, h⟩ := ob_of h
  refine vp_callSl (W.runS (As := [.long v3]) (rest := [.int (1 : Int32), .ref (a 0)]) ⟨hx, hb, hml, hown, hts⟩ (c_Ref_absolute l v3 r10 h_r10) (va_cwS 1 hts (gd_S (m_4 81 rfl rfl) (m_4 82 rfl rfl) (m_1 4 rfl rfl) (m_4 83 rfl rfl)) rfl rfl rfl (by decide +kernel) ⟨Nat.le_of_ble_eq_true rfl, Nat.le_of_ble_eq_true rfl⟩) ⟨fun _ _ _ _ q => q, fun U hU hW => ⟨rfl, trivial⟩⟩ rfl rfl hl.1 rfl (lv_room (Nat.le_of_ble_eq_true rfl)) (dt_at dt_Ref_sum 26 rfl) ⟨Nat.le_of_ble_eq_true rfl, Nat.le_of_ble_eq_true rfl⟩) (fun u_r10 q_r10 => ?_)
  obtain rfl : r10 = u_r10 := q_r10.symm
  obtain ⟨r11, h_r11, h⟩ := ob_of h
  refine vp_callSi (W.runS (As := [.long r10]) (rest := [.int (1 : Int32), .ref (a 0)]) ⟨hx, hb, hml, hown, hts⟩ (c_Ref_exponent l r10 r11 h_r11) (va_cwS 1 hts (gd_S (m_4 146 rfl rfl) (m_4 147 rfl rfl) (m_1 4 rfl rfl) (m_4 148 rfl rfl)) rfl rfl rfl (by decide +kernel) ⟨Nat.le_of_ble_eq_true rfl, Nat.le_of_ble_eq_true rfl⟩) ⟨fun _ _ _ _ q => q, fun U hU hW => ⟨rfl, trivial⟩⟩ rfl rfl hl.1 rfl (lv_room (Nat.le_of_ble_eq_true rfl)) (dt_at dt_Ref_sum 27 rfl) ⟨Nat.le_of_ble_eq_true rfl, Nat.le_of_ble_eq_true rfl⟩) (fun u_r11 q_r11 => ?_)
  obtain rfl : r11 = u_r11 := q_r11.symm
  refine lv_sipush (v := 1074) hx hb (dt_at dt_Ref_sum 28 rfl) (by decide) ?_
  refine lv_iadd hx hb (dt_at dt_Ref_sum 29 rfl) ?_
  obtain ⟨r12, h_r12, h⟩ := ob_of h
  have hF := va_free (wc := dR a) (dD (ws' := dR a) hD rfl) hS hA [0, 1, 2, 3, 4, 5, 6] rfl
  have hd : va_D (fun _ => True) (dR a) := (dD (ws' := dR a) hD rfl).weaken (fun _ _ _ _ => trivial)
  refine va_callv (va_runV (As := [.int (1 : Int32), .int (r11 + (1074 : Int32))]) (rest := []) ⟨hx, hb, hml, hown, hts⟩ (c_Ref_moveUp l D a q hd H.size (1 : Int32) (r11 + (1074 : Int32)) g0 g1 g2 g3 g4 g5 g6 g7 r9 (0 : Int32) g10 g11 g12 g13 g14 g15 g16 g17 g18 g19 r12 h_r12) (cwV 2 hts (gd_V (m_4 159 rfl rfl) (m_4 161 rfl rfl) (m_s 34 rfl rfl) (m_1 4 rfl rfl) (m_4 162 rfl rfl)) rfl rfl rfl (by decide +kernel) ⟨Nat.le_of_ble_eq_true rfl, Nat.le_of_ble_eq_true rfl⟩) ⟨fun a U g mk q => ⟨q.1, q.2.1, q.2.2.1, va_K.moved (u := U) (U := U.calling g mk a) (Vm.Alike.refl U.vm) q.2.2.2⟩, va_recv hK hP (ci := 0) (q0 := 0) rfl rfl, fun U hU hW => ⟨rfl, by rw [hU], by rw [hU]; exact hP, va_K.moved hW.alike hK⟩⟩ rfl rfl hl.1 rfl (lv_room (Nat.le_of_ble_eq_true rfl)) (dt_at dt_Ref_sum 30 rfl) ⟨Nat.le_of_ble_eq_true rfl, Nat.le_of_ble_eq_true rfl⟩) hS (fun x _ h9 => hF x h9) hF (fun uu t H locs ht hvm hw hB hz1 hk1 hS => ?_)
  rw [ht] at hB
  have hP : va_P D CLS (wR a q g0 g1 g2 g3 g4 g5 g6 g7 r12 (0 : Int32) g10 g11 g12 g13 g14 g15 g16 g17 g18 g19) H := hB
  have hD : va_D A (wR a q g0 g1 g2 g3 g4 g5 g6 g7 r12 (0 : Int32) g10 g11 g12 g13 g14 g15 g16 g17 g18 g19) := dD hD rfl
  refine lv_lload_n hx hb (dt_at dt_Ref_sum 31 rfl) rfl (lv_at hl 1 rfl) ?_
  refine lv_lconst (v := 0) hx hb (dt_at dt_Ref_sum 32 rfl) (by decide) ?_
  refine lc_ge (tgt := 71) hx hb (dt_at dt_Ref_sum 33 rfl) (dt_at dt_Ref_sum 34 rfl) (by decide) (fun c13 => ?_) (fun c13 => ?_)
  · have h := if_p h c13
    refine lv_iconst (v := 0) hx hb (dt_at dt_Ref_sum 37 rfl) (by decide) ?_
    exact k_Ref_sum_72 hC hA hK   (0 : Int32) v1 v3 v5 v6 r12 (0 : Int32) H locs ls hP hD hS (lv_sub hl [0, 1, 2, 3, 4] rfl) h
  · have h := if_n h c13
    refine lv_iconst (v := 1) hx hb (dt_at dt_Ref_sum 35 rfl) (by decide) ?_
    refine lv_goto (tgt := 72) hx hb (dt_at dt_Ref_sum 36 rfl) (by decide) ?_
    exact k_Ref_sum_72 hC hA hK   (1 : Int32) v1 v3 v5 v6 r12 (0 : Int32) H locs ls hP hD hS (lv_sub hl [0, 1, 2, 3, 4] rfl) h
set_option maxRecDepth 100000 in
set_option maxHeartbeats 4000000 in
theorem c_Ref_sum (l : Launch) (D : va_G) (a : Nat → Nat) (q : Nat → ClassId) (hd : va_D (fun _ => True) (dR a)) (sz : Nat) (a1 : Int64) (a3 : Int64) (a5 : Int32) (a6 : Int32) (g0 : Int32) (g1 : Nat → Int32) (g2 : Nat → Int64) (g3 : Nat → Int64) (g4 : Nat → Int32) (g5 : Int32) (g6 : Nat → Int32) (g7 : Int32) (g8 : Nat → Int32) (g9 : Int32) (g10 : Int64) (g11 : Int64) (g12 : Int32) (g13 : Int32) (g14 : Int32) (g15 : Int64) (g16 : Int32) (g17 : Int32) (g18 : Int64) (g19 : Int32) (r0 : Int64 × (Nat → Int32) × Int32) (h : f_Ref_sum a1 a3 a5 a6 g8 g9 = some r0) : Met l (⟨"OutwardTapeModel", "sum", "(JJII)J"⟩ : MethodName) (WSm (⟨"OutwardTapeModel", "sum", "(JJII)J"⟩ : MethodName) prog_12_method_18_code 8 (some .long)) rm_Ref_sum (va_Pc [.ref (a 0), .long a1, .long a3, .int a5, .int a6] (fun U => U.heap.size = sz ∧ va_P D CLS (wR a q g0 g1 g2 g3 g4 g5 g6 g7 g8 g9 g10 g11 g12 g13 g14 g15 g16 g17 g18 g19) U.heap ∧ va_K D CLS (tR q) U)) (va_Ql (fun (r : Int64) (_ : Unit) => r = r0.1) (fun _ t => va_P D CLS (wR a q g0 g1 g2 g3 g4 g5 g6 g7 r0.2.1 r0.2.2 g10 g11 g12 g13 g14 g15 g16 g17 g18 g19) t.heap) (va_A (dR a) sz)) 0 0 (va_A (dR a) sz) := by
  refine Met.ofW (cc := prog_12_method_18_code) (maxL := 8) (ret := (some .long)) (by decide) rfl ?_
  intro p e s m args below meth c s₁ B hml hv
  obtain ⟨rfl, hsz, hP, hK⟩ := hv
  subst hsz
  have hC := CX.of B hml rfl
  have hl := lv_entry [.ref (a 0), .long a1, .long a3, .int a5, .int a6] (n := 8) (Nat.le_of_ble_eq_true rfl)
  rw [lg_entry_eq]
  generalize (lg_sl [.ref (a 0), .long a1, .long a3, .int a5, .int a6] ++ List.replicate (8 - (lg_sl [.ref (a 0), .long a1, .long a3, .int a5, .int a6]).length) Slot.unset).toArray = ls at hl ⊢
  have hl : lv_has ls 8 [(0, .ref (a 0)), (1, .long a1), (3, .long a3), (5, .int a5), (6, .int a6)] := hl
  exact k_Ref_sum_0 hC (fun x h => Or.inr h) hK a1 a3 a5 a6 g8 g9 s.heap [] ls hP (dD hd.self rfl) va_S.rf (lv_sub hl [0, 1, 2, 3, 4] rfl) h
