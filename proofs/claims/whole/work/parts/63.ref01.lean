-- written by wip/gen/ref.py: walks of the reference's methods
abbrev rm_Ref_product : Room := { frames := 3, cells := 0, slots := 0, locals := 79 }
set_option maxRecDepth 100000 in
set_option maxHeartbeats 4000000 in
theorem k_Ref_product_74 {p : Program} {l : Launch} {e : Env} {s : State} {m : MethodId} {args : Array Value} {below : List Frame} {meth : Method} {c : Code} {D : va_G} {a : Nat → Nat} {q : Nat → ClassId} {A : Nat → Prop} (hC : CX p s m args meth c prog_12_method_19_code 7 "OutwardTapeModel" (some .long)) (hA : ∀ x, s.heap.size ≤ x → A x) (hK : va_K D CLS (tR q) s) {g0 : Int32} {g1 : Nat → Int32} {g2 : Nat → Int64} {g3 : Nat → Int64} {g4 : Nat → Int32} {g5 : Int32} {g6 : Nat → Int32} {g7 : Int32} {g10 : Int64} {g11 : Int64} {g12 : Int32} {g13 : Int32} {g14 : Int32} {g15 : Int64} {g16 : Int32} {g17 : Int32} {g18 : Int64} {g19 : Int32} {r0 : Int64 × (Nat → Int32) × Int32} : ∀ (s0 : Int64) (g8 : Nat → Int32) (g9 : Int32) (H : Heap) (locs : List Loc) (ls : Array Slot), va_P D CLS (wR a q g0 g1 g2 g3 g4 g5 g6 g7 g8 g9 g10 g11 g12 g13 g14 g15 g16 g17 g18 g19) H → va_D A (wR a q g0 g1 g2 g3 g4 g5 g6 g7 g8 g9 g10 g11 g12 g13 g14 g15 g16 g17 g18 g19) → va_S A s.heap H locs → lv_has ls 7 [] → f_Ref_product_74  s0 g8 g9 = some r0 → W p l e rm_Ref_product s m args below meth c H locs 0 0 (MQ below (va_Ql (fun (r : Int64) (_ : Unit) => r = r0.1) (fun _ t => va_P D CLS (wR a q g0 g1 g2 g3 g4 g5 g6 g7 r0.2.1 r0.2.2 g10 g11 g12 g13 g14 g15 g16 g17 g18 g19) t.heap) A) args s 0 0 A) (F0 m 74 ls [.long s0]) := by
  obtain ⟨hx, hb, hml, hown, hts, hr, hlocks⟩ := id hC
  intro s0 g8 g9 H locs ls hP hD hS hl h
  rw [f_Ref_product_74] at h
  obtain rfl := os_of h
  exact W.lret (v := s0) hx hb hr (fun t ht hW => ⟨⟨_, (), rfl, rfl, (hPt hP ht)⟩, hS.F ht⟩) hS.2.2 (dt_at dt_Ref_product 40 rfl)
set_option maxRecDepth 100000 in
set_option maxHeartbeats 4000000 in
theorem k_Ref_product_60 {p : Program} {l : Launch} {e : Env} {s : State} {m : MethodId} {args : Array Value} {below : List Frame} {meth : Method} {c : Code} {D : va_G} {a : Nat → Nat} {q : Nat → ClassId} {A : Nat → Prop} (hC : CX p s m args meth c prog_12_method_19_code 7 "OutwardTapeModel" (some .long)) (hA : ∀ x, s.heap.size ≤ x → A x) (hK : va_K D CLS (tR q) s) {g0 : Int32} {g1 : Nat → Int32} {g2 : Nat → Int64} {g3 : Nat → Int64} {g4 : Nat → Int32} {g5 : Int32} {g6 : Nat → Int32} {g7 : Int32} {g10 : Int64} {g11 : Int64} {g12 : Int32} {g13 : Int32} {g14 : Int32} {g15 : Int64} {g16 : Int32} {g17 : Int32} {g18 : Int64} {g19 : Int32} {r0 : Int64 × (Nat → Int32) × Int32} : ∀ (v6 : Int32) (g8 : Nat → Int32) (g9 : Int32) (H : Heap) (locs : List Loc) (ls : Array Slot), va_P D CLS (wR a q g0 g1 g2 g3 g4 g5 g6 g7 g8 g9 g10 g11 g12 g13 g14 g15 g16 g17 g18 g19) H → va_D A (wR a q g0 g1 g2 g3 g4 g5 g6 g7 g8 g9 g10 g11 g12 g13 g14 g15 g16 g17 g18 g19) → va_S A s.heap H locs → lv_has ls 7 [(6, .int v6)] → f_Ref_product_60  v6 g8 g9 = some r0 → W p l e rm_Ref_product s m args below meth c H locs 0 0 (MQ below (va_Ql (fun (r : Int64) (_ : Unit) => r = r0.1) (fun _ t => va_P D CLS (wR a q g0 g1 g2 g3 g4 g5 g6 g7 r0.2.1 r0.2.2 g10 g11 g12 g13 g14 g15 g16 g17 g18 g19) t.heap) A) args s 0 0 A) (F0 m 60 ls []) := by
  obtain ⟨hx, hb, hml, hown, hts, hr, hlocks⟩ := id hC
  intro v6 g8 g9 H locs ls hP hD hS hl h
  rw [f_Ref_product_60] at h
  refine lv_iload hx hb (dt_at dt_Ref_product 35 rfl) (lv_at hl 0 rfl) ?_
  refine lv_if_eq (tgt := 71) hx hb (dt_at dt_Ref_product 36 rfl) (by decide) (fun c1 => ?_) (fun c1 => ?_)
  · have h := if_p h c1
    refine lv_ldc2 (v := 9218868437227405312) hx hb hown (hts (Cond.constantLong "OutwardTapeModel" 69 (9218868437227405312)) (m_4 70 rfl rfl)) (dt_at dt_Ref_product 39 rfl) ?_
    exact k_Ref_product_74 hC hA hK   (9218868437227405312 : Int64) g8 g9 H locs ls hP hD hS (lv_sub hl [] rfl) h
  · have h := if_n h c1
    refine lv_ldc2 (v := -9218868437227405312) hx hb hown (hts (Cond.constantLong "OutwardTapeModel" 95 (-9218868437227405312)) (m_4 74 rfl rfl)) (dt_at dt_Ref_product 37 rfl) ?_
    refine lv_goto (tgt := 74) hx hb (dt_at dt_Ref_product 38 rfl) (by decide) ?_
    exact k_Ref_product_74 hC hA hK   (-9218868437227405312 : Int64) g8 g9 H locs ls hP hD hS (lv_sub hl [] rfl) h
set_option maxRecDepth 100000 in
set_option maxHeartbeats 4000000 in
theorem k_Ref_product_44 {p : Program} {l : Launch} {e : Env} {s : State} {m : MethodId} {args : Array Value} {below : List Frame} {meth : Method} {c : Code} {D : va_G} {a : Nat → Nat} {q : Nat → ClassId} {A : Nat → Prop} (hC : CX p s m args meth c prog_12_method_19_code 7 "OutwardTapeModel" (some .long)) (hA : ∀ x, s.heap.size ≤ x → A x) (hK : va_K D CLS (tR q) s) {g0 : Int32} {g1 : Nat → Int32} {g2 : Nat → Int64} {g3 : Nat → Int64} {g4 : Nat → Int32} {g5 : Int32} {g6 : Nat → Int32} {g7 : Int32} {g10 : Int64} {g11 : Int64} {g12 : Int32} {g13 : Int32} {g14 : Int32} {g15 : Int64} {g16 : Int32} {g17 : Int32} {g18 : Int64} {g19 : Int32} {r0 : Int64 × (Nat → Int32) × Int32} : ∀ (s0 : Int32) (v1 : Int64) (v3 : Int64) (v5 : Int32) (g8 : Nat → Int32) (g9 : Int32) (H : Heap) (locs : List Loc) (ls : Array Slot), va_P D CLS (wR a q g0 g1 g2 g3 g4 g5 g6 g7 g8 g9 g10 g11 g12 g13 g14 g15 g16 g17 g18 g19) H → va_D A (wR a q g0 g1 g2 g3 g4 g5 g6 g7 g8 g9 g10 g11 g12 g13 g14 g15 g16 g17 g18 g19) → va_S A s.heap H locs → lv_has ls 7 [(0, .ref (a 0)), (1, .long v1), (3, .long v3), (5, .int v5)] → f_Ref_product_44  s0 v1 v3 v5 g8 g9 = some r0 → W p l e rm_Ref_product s m args below meth c H locs 0 0 (MQ below (va_Ql (fun (r : Int64) (_ : Unit) => r = r0.1) (fun _ t => va_P D CLS (wR a q g0 g1 g2 g3 g4 g5 g6 g7 r0.2.1 r0.2.2 g10 g11 g12 g13 g14 g15 g16 g17 g18 g19) t.heap) A) args s 0 0 A) (F0 m 44 ls [.int s0]) := by
  obtain ⟨hx, hb, hml, hown, hts, hr, hlocks⟩ := id hC
  intro s0 v1 v3 v5 g8 g9 H locs ls hP hD hS hl h
  rw [f_Ref_product_44] at h
  refine lv_istore (lv' := [(6, .int s0), (0, .ref (a 0)), (1, .long v1), (3, .long v3), (5, .int v5)]) hx hb (dt_at dt_Ref_product 28 rfl) hl (by decide) rfl (fun ls hl => ?_)
  refine lv_lload_n hx hb (dt_at dt_Ref_product 29 rfl) rfl (lv_at hl 2 rfl) ?_
  obtain ⟨r1, h_r1, h⟩ := ob_of h
  refine vp_callSi (W.runS (As := [.long v1]) (rest := []) ⟨hx, hb, hml, hown, hts⟩ (c_Ref_infinite l v1 r1 h_r1) (va_cwS 1 hts (gd_S (m_4 78 rfl rfl) (m_4 79 rfl rfl) (m_1 4 rfl rfl) (m_4 80 rfl rfl)) rfl rfl rfl (by decide +kernel) ⟨Nat.le_of_ble_eq_true rfl, Nat.le_of_ble_eq_true rfl⟩) ⟨fun _ _ _ _ q => q, fun U hU hW => ⟨rfl, trivial⟩⟩ rfl rfl hl.1 rfl (lv_room (Nat.le_of_ble_eq_true rfl)) (dt_at dt_Ref_product 30 rfl) ⟨Nat.le_of_ble_eq_true rfl, Nat.le_of_ble_eq_true rfl⟩) (fun u_r1 q_r1 => ?_)
  obtain rfl : r1 = u_r1 := q_r1.symm
  refine lv_if_ne (tgt := 60) hx hb (dt_at dt_Ref_product 31 rfl) (by decide) (fun c2 => ?_) (fun c2 => ?_)
  · have h := if_n h c2
    exact k_Ref_product_60 hC hA hK   s0 g8 g9 H locs ls hP hD hS (lv_sub hl [0] rfl) h
  · have h := if_p h c2
    refine lv_lload_n hx hb (dt_at dt_Ref_product 32 rfl) rfl (lv_at hl 3 rfl) ?_
    obtain ⟨r3, h_r3, h⟩ := ob_of h
    refine vp_callSi (W.runS (As := [.long v3]) (rest := []) ⟨hx, hb, hml, hown, hts⟩ (c_Ref_infinite l v3 r3 h_r3) (va_cwS 1 hts (gd_S (m_4 78 rfl rfl) (m_4 79 rfl rfl) (m_1 4 rfl rfl) (m_4 80 rfl rfl)) rfl rfl rfl (by decide +kernel) ⟨Nat.le_of_ble_eq_true rfl, Nat.le_of_ble_eq_true rfl⟩) ⟨fun _ _ _ _ q => q, fun U hU hW => ⟨rfl, trivial⟩⟩ rfl rfl hl.1 rfl (lv_room (Nat.le_of_ble_eq_true rfl)) (dt_at dt_Ref_product 33 rfl) ⟨Nat.le_of_ble_eq_true rfl, Nat.le_of_ble_eq_true rfl⟩) (fun u_r3 q_r3 => ?_)
    obtain rfl : r3 = u_r3 := q_r3.symm
    refine lv_if_eq (tgt := 75) hx hb (dt_at dt_Ref_product 34 rfl) (by decide) (fun c4 => ?_) (fun c4 => ?_)
    · have h := if_p h c4
      refine lv_aload_n hx hb (dt_at dt_Ref_product 41 rfl) rfl (lv_at hl 1 rfl) ?_
      refine lv_iconst (v := 0) hx hb (dt_at dt_Ref_product 42 rfl) (by decide) ?_
      refine va_put (D := D) (ci := 0) (v := .int (0 : Int32)) (ty := .boolean) (C := "OutwardTapeModel") (T := T_Ref) (N := 20) hx hb hts in_Ref ty_Ref tk_Ref nm_Ref hown hK hP hD hS 0 rfl rfl 9 (by decide) (hts (Cond.fieldLink "OutwardTapeModel" 65 "OutwardTapeModel" "over" "Z") (m_4 8 rfl rfl)) (fun _ h9 => h9) rfl (by decide +kernel) (by decide) (by decide) (Nat.le_of_ble_eq_true rfl) (dt_at dt_Ref_product 43 rfl) (fun H locs hP hD hS => ?_)
      have hP : va_P D CLS (wR a q g0 g1 g2 g3 g4 g5 g6 g7 g8 (0 : Int32) g10 g11 g12 g13 g14 g15 g16 g17 g18 g19) H := hP
      have hD : va_D A (wR a q g0 g1 g2 g3 g4 g5 g6 g7 g8 (0 : Int32) g10 g11 g12 g13 g14 g15 g16 g17 g18 g19) := hD
      refine lv_aload_n hx hb (dt_at dt_Ref_product 44 rfl) rfl (lv_at hl 1 rfl) ?_
      refine lv_iconst (v := 1) hx hb (dt_at dt_Ref_product 45 rfl) (by decide) ?_
      refine lv_lload_n hx hb (dt_at dt_Ref_product 46 rfl) rfl (lv_at hl 2 rfl) ?_
      obtain ⟨r5, h_r5, h⟩ := ob_of h
      refine vp_callSl (W.runS (As := [.long v1]) (rest := [.int (1 : Int32), .ref (a 0)]) ⟨hx, hb, hml, hown, hts⟩ (c_Ref_absolute l v1 r5 h_r5) (va_cwS 1 hts (gd_S (m_4 81 rfl rfl) (m_4 82 rfl rfl) (m_1 4 rfl rfl) (m_4 83 rfl rfl)) rfl rfl rfl (by decide +kernel) ⟨Nat.le_of_ble_eq_true rfl, Nat.le_of_ble_eq_true rfl⟩) ⟨fun _ _ _ _ q => q, fun U hU hW => ⟨rfl, trivial⟩⟩ rfl rfl hl.1 rfl (lv_room (Nat.le_of_ble_eq_true rfl)) (dt_at dt_Ref_product 47 rfl) ⟨Nat.le_of_ble_eq_true rfl, Nat.le_of_ble_eq_true rfl⟩) (fun u_r5 q_r5 => ?_)
      obtain rfl : r5 = u_r5 := q_r5.symm
      obtain ⟨r6, h_r6, h⟩ := ob_of h
      refine vp_callSl (W.runS (As := [.long r5]) (rest := [.int (1 : Int32), .ref (a 0)]) ⟨hx, hb, hml, hown, hts⟩ (c_Ref_mantissa l r5 r6 h_r6) (va_cwS 1 hts (gd_S (m_4 124 rfl rfl) (m_4 125 rfl rfl) (m_1 4 rfl rfl) (m_4 126 rfl rfl)) rfl rfl rfl (by decide +kernel) ⟨Nat.le_of_ble_eq_true rfl, Nat.le_of_ble_eq_true rfl⟩) ⟨fun _ _ _ _ q => q, fun U hU hW => ⟨rfl, trivial⟩⟩ rfl rfl hl.1 rfl (lv_room (Nat.le_of_ble_eq_true rfl)) (dt_at dt_Ref_product 48 rfl) ⟨Nat.le_of_ble_eq_true rfl, Nat.le_of_ble_eq_true rfl⟩) (fun u_r6 q_r6 => ?_)
      obtain rfl : r6 = u_r6 := q_r6.symm
      obtain ⟨r7, h_r7, h⟩ := ob_of h
      have hF := va_free (wc := dR a) (dD (ws' := dR a) hD rfl) hS hA [0, 1, 2, 3, 4, 5, 6] rfl
      have hd : va_D (fun _ => True) (dR a) := (dD (ws' := dR a) hD rfl).weaken (fun _ _ _ _ => trivial)
      refine va_callv (va_runV (As := [.int (1 : Int32), .long r6]) (rest := []) ⟨hx, hb, hml, hown, hts⟩ (c_Ref_put l D a q hd H.size (1 : Int32) r6 g0 g1 g2 g3 g4 g5 g6 g7 g8 (0 : Int32) g10 g11 g12 g13 g14 g15 g16 g17 g18 g19 r7 h_r7) (cwV 2 hts (gd_V (m_4 129 rfl rfl) (m_4 131 rfl rfl) (m_s 28 rfl rfl) (m_1 4 rfl rfl) (m_4 132 rfl rfl)) rfl rfl rfl (by decide +kernel) ⟨Nat.le_of_ble_eq_true rfl, Nat.le_of_ble_eq_true rfl⟩) ⟨fun a U g mk q => ⟨q.1, q.2.1, q.2.2.1, va_K.moved (u := U) (U := U.calling g mk a) (Vm.Alike.refl U.vm) q.2.2.2⟩, va_recv hK hP (ci := 0) (q0 := 0) rfl rfl, fun U hU hW => ⟨rfl, by rw [hU], by rw [hU]; exact hP, va_K.moved hW.alike hK⟩⟩ rfl rfl hl.1 rfl (lv_room (Nat.le_of_ble_eq_true rfl)) (dt_at dt_Ref_product 49 rfl) ⟨Nat.le_of_ble_eq_true rfl, Nat.le_of_ble_eq_true rfl⟩) hS (fun x _ h9 => hF x h9) hF (fun uu t H locs ht hvm hw hB hz1 hk1 hS => ?_)
      rw [ht] at hB
      have hP : va_P D CLS (wR a q g0 g1 g2 g3 g4 g5 g6 g7 r7 (0 : Int32) g10 g11 g12 g13 g14 g15 g16 g17 g18 g19) H := hB
      have hD : va_D A (wR a q g0 g1 g2 g3 g4 g5 g6 g7 r7 (0 : Int32) g10 g11 g12 g13 g14 g15 g16 g17 g18 g19) := dD hD rfl
      refine lv_aload_n hx hb (dt_at dt_Ref_product 50 rfl) rfl (lv_at hl 1 rfl) ?_
      refine lv_iconst (v := 2) hx hb (dt_at dt_Ref_product 51 rfl) (by decide) ?_
      refine lv_lload_n hx hb (dt_at dt_Ref_product 52 rfl) rfl (lv_at hl 3 rfl) ?_
      obtain ⟨r8, h_r8, h⟩ := ob_of h
      refine vp_callSl (W.runS (As := [.long v3]) (rest := [.int (2 : Int32), .ref (a 0)]) ⟨hx, hb, hml, hown, hts⟩ (c_Ref_absolute l v3 r8 h_r8) (va_cwS 1 hts (gd_S (m_4 81 rfl rfl) (m_4 82 rfl rfl) (m_1 4 rfl rfl) (m_4 83 rfl rfl)) rfl rfl rfl (by decide +kernel) ⟨Nat.le_of_ble_eq_true rfl, Nat.le_of_ble_eq_true rfl⟩) ⟨fun _ _ _ _ q => q, fun U hU hW => ⟨rfl, trivial⟩⟩ rfl rfl hl.1 rfl (lv_room (Nat.le_of_ble_eq_true rfl)) (dt_at dt_Ref_product 53 rfl) ⟨Nat.le_of_ble_eq_true rfl, Nat.le_of_ble_eq_true rfl⟩) (fun u_r8 q_r8 => ?_)
      obtain rfl : r8 = u_r8 := q_r8.symm
      obtain ⟨r9, h_r9, h⟩ := ob_of h
      refine vp_callSl (W.runS (As := [.long r8]) (rest := [.int (2 : Int32), .ref (a 0)]) ⟨hx, hb, hml, hown, hts⟩ (c_Ref_mantissa l r8 r9 h_r9) (va_cwS 1 hts (gd_S (m_4 124 rfl rfl) (m_4 125 rfl rfl) (m_1 4 rfl rfl) (m_4 126 rfl rfl)) rfl rfl rfl (by decide +kernel) ⟨Nat.le_of_ble_eq_true rfl, Nat.le_of_ble_eq_true rfl⟩) ⟨fun _ _ _ _ q => q, fun U hU hW => ⟨rfl, trivial⟩⟩ rfl rfl hl.1 rfl (lv_room (Nat.le_of_ble_eq_true rfl)) (dt_at dt_Ref_product 54 rfl) ⟨Nat.le_of_ble_eq_true rfl, Nat.le_of_ble_eq_true rfl⟩) (fun u_r9 q_r9 => ?_)
      obtain rfl : r9 = u_r9 := q_r9.symm
      obtain ⟨r10, h_r10, h⟩ := ob_of h
      have hF := va_free (wc := dR a) (dD (ws' := dR a) hD rfl) hS hA [0, 1, 2, 3, 4, 5, 6] rfl
      have hd : va_D (fun _ => True) (dR a) := (dD (ws' := dR a) hD rfl).weaken (fun _ _ _ _ => trivial)
      refine va_callv (va_runV (As := [.int (2 : Int32), .long r9]) (rest := []) ⟨hx, hb, hml, hown, hts⟩ (c_Ref_put l D a q hd H.size (2 : Int32) r9 g0 g1 g2 g3 g4 g5 g6 g7 r7 (0 : Int32) g10 g11 g12 g13 g14 g15 g16 g17 g18 g19 r10 h_r10) (cwV 2 hts (gd_V (m_4 129 rfl rfl) (m_4 131 rfl rfl) (m_s 28 rfl rfl) (m_1 4 rfl rfl) (m_4 132 rfl rfl)) rfl rfl rfl (by decide +kernel) ⟨Nat.le_of_ble_eq_true rfl, Nat.le_of_ble_eq_true rfl⟩) ⟨fun a U g mk q => ⟨q.1, q.2.1, q.2.2.1, va_K.moved (u := U) (U := U.calling g mk a) (Vm.Alike.refl U.vm) q.2.2.2⟩, va_recv hK hP (ci := 0) (q0 := 0) rfl rfl, fun U hU hW => ⟨rfl, by rw [hU], by rw [hU]; exact hP, va_K.moved hW.alike hK⟩⟩ rfl rfl hl.1 rfl (lv_room (Nat.le_of_ble_eq_true rfl)) (dt_at dt_Ref_product 55 rfl) ⟨Nat.le_of_ble_eq_true rfl, Nat.le_of_ble_eq_true rfl⟩) hS (fun x _ h9 => hF x h9) hF (fun uu t H locs ht hvm hw hB hz1 hk1 hS => ?_)
      rw [ht] at hB
      have hP : va_P D CLS (wR a q g0 g1 g2 g3 g4 g5 g6 g7 r10 (0 : Int32) g10 g11 g12 g13 g14 g15 g16 g17 g18 g19) H := hB
      have hD : va_D A (wR a q g0 g1 g2 g3 g4 g5 g6 g7 r10 (0 : Int32) g10 g11 g12 g13 g14 g15 g16 g17 g18 g19) := dD hD rfl
      refine lv_aload_n hx hb (dt_at dt_Ref_product 56 rfl) rfl (lv_at hl 1 rfl) ?_
      refine lv_iconst (v := 0) hx hb (dt_at dt_Ref_product 57 rfl) (by decide) ?_
      refine lv_iconst (v := 1) hx hb (dt_at dt_Ref_product 58 rfl) (by decide) ?_
      refine lv_iconst (v := 2) hx hb (dt_at dt_Ref_product 59 rfl) (by decide) ?_
      obtain ⟨r11, h_r11, h⟩ := ob_of h
      have hF := va_free (wc := dR a) (dD (ws' := dR a) hD rfl) hS hA [0, 1, 2, 3, 4, 5, 6] rfl
      have hd : va_D (fun _ => True) (dR a) := (dD (ws' := dR a) hD rfl).weaken (fun _ _ _ _ => trivial)
      refine va_callv (va_runV (As := [.int (0 : Int32), .int (1 : Int32), .int (2 : Int32)]) (rest := []) ⟨hx, hb, hml, hown, hts⟩ (c_Ref_times l D a q hd H.size (0 : Int32) (1 : Int32) (2 : Int32) g0 g1 g2 g3 g4 g5 g6 g7 r10 (0 : Int32) g10 g11 g12 g13 g14 g15 g16 g17 g18 g19 r11 h_r11) (cwV 3 hts (gd_V (m_4 134 rfl rfl) (m_4 136 rfl rfl) (m_s 29 rfl rfl) (m_1 4 rfl rfl) (m_4 137 rfl rfl)) rfl rfl rfl (by decide +kernel) ⟨Nat.le_of_ble_eq_true rfl, Nat.le_of_ble_eq_true rfl⟩) ⟨fun a U g mk q => ⟨q.1, q.2.1, q.2.2.1, va_K.moved (u := U) (U := U.calling g mk a) (Vm.Alike.refl U.vm) q.2.2.2⟩, va_recv hK hP (ci := 0) (q0 := 0) rfl rfl, fun U hU hW => ⟨rfl, by rw [hU], by rw [hU]; exact hP, va_K.moved hW.alike hK⟩⟩ rfl rfl hl.1 rfl (lv_room (Nat.le_of_ble_eq_true rfl)) (dt_at dt_Ref_product 60 rfl) ⟨Nat.le_of_ble_eq_true rfl, Nat.le_of_ble_eq_true rfl⟩) hS (fun x _ h9 => hF x h9) hF (fun uu t H locs ht hvm hw hB hz1 hk1 hS => ?_)
      rw [ht] at hB
      have hP : va_P D CLS (wR a q g0 g1 g2 g3 g4 g5 g6 g7 r11 (0 : Int32) g10 g11 g12 g13 g14 g15 g16 g17 g18 g19) H := hB
      have hD : va_D A (wR a q g0 g1 g2 g3 g4 g5 g6 g7 r11 (0 : Int32) g10 g11 g12 g13 g14 g15 g16 g17 g18 g19) := dD hD rfl
      refine lv_aload_n hx hb (dt_at dt_Ref_product 61 rfl) rfl (lv_at hl 1 rfl) ?_
      refine lv_iload hx hb (dt_at dt_Ref_product 62 rfl) (lv_at hl 0 rfl) ?_
      refine lv_lload_n hx hb (dt_at dt_Ref_product 63 rfl) rfl (lv_at hl 2 rfl) ?_
      obtain ⟨r12, h_r12, h⟩ := ob_of h
      refine vp_callSl (W.runS (As := [.long v1]) (rest := [.int s0, .ref (a 0)]) ⟨hx, hb, hml, hown, hts⟩ (c_Ref_absolute l v1 r12 h_r12) (va_cwS 1 hts (gd_S (m_4 81 rfl rfl) (m_4 82 rfl rfl) (m_1 4 rfl rfl) (m_4 83 rfl rfl)) rfl rfl rfl (by decide +kernel) ⟨Nat.le_of_ble_eq_true rfl, Nat.le_of_ble_eq_true rfl⟩) ⟨fun _ _ _ _ q => q, fun U hU hW => ⟨rfl, trivial⟩⟩ rfl rfl hl.1 rfl (lv_room (Nat.le_of_ble_eq_true rfl)) (dt_at dt_Ref_product 64 rfl) ⟨Nat.le_of_ble_eq_true rfl, Nat.le_of_ble_eq_true rfl⟩) (fun u_r12 q_r12 => ?_)
      obtain rfl : r12 = u_r12 := q_r12.symm
      obtain ⟨r13, h_r13, h⟩ := ob_of h
      refine vp_callSi (W.runS (As := [.long r12]) (rest := [.int s0, .ref (a 0)]) ⟨hx, hb, hml, hown, hts⟩ (c_Ref_exponent l r12 r13 h_r13) (va_cwS 1 hts (gd_S (m_4 146 rfl rfl) (m_4 147 rfl rfl) (m_1 4 rfl rfl) (m_4 148 rfl rfl)) rfl rfl rfl (by decide +kernel) ⟨Nat.le_of_ble_eq_true rfl, Nat.le_of_ble_eq_true rfl⟩) ⟨fun _ _ _ _ q => q, fun U hU hW => ⟨rfl, trivial⟩⟩ rfl rfl hl.1 rfl (lv_room (Nat.le_of_ble_eq_true rfl)) (dt_at dt_Ref_product 65 rfl) ⟨Nat.le_of_ble_eq_true rfl, Nat.le_of_ble_eq_true rfl⟩) (fun u_r13 q_r13 => ?_)
      obtain rfl : r13 = u_r13 := q_r13.symm
      refine lv_lload_n hx hb (dt_at dt_Ref_product 66 rfl) rfl (lv_at hl 3 rfl) ?_
      obtain ⟨r14, h_r14, h⟩ := ob_of h
      refine vp_callSl (W.runS (As := [.long v3]) (rest := [.int r13, .int s0, .ref (a 0)]) ⟨hx, hb, hml, hown, hts⟩ (c_Ref_absolute l v3 r14 h_r14) (va_cwS 1 hts (gd_S (m_4 81 rfl rfl) (m_4 82 rfl rfl) (m_1 4 rfl rfl) (m_4 83 rfl rfl)) rfl rfl rfl (by decide +kernel) ⟨Nat.le_of_ble_eq_true rfl, Nat.le_of_ble_eq_true rfl⟩) ⟨fun _ _ _ _ q => q, fun U hU hW => ⟨rfl, trivial⟩⟩ rfl rfl hl.1 rfl (lv_room (Nat.le_of_ble_eq_true rfl)) (dt_at dt_Ref_product 67 rfl) ⟨Nat.le_of_ble_eq_true rfl, Nat.le_of_ble_eq_true rfl⟩) (fun u_r14 q_r14 => ?_)
      obtain rfl : r14 = u_r14 := q_r14.symm
      obtain ⟨r15, h_r15, h⟩ := ob_of h
      refine vp_callSi (W.runS (As := [.long r14]) (rest := [.int r13, .int s0, .ref (a 0)]) ⟨hx, hb, hml, hown, hts⟩ (c_Ref_exponent l r14 r15 h_r15) (va_cwS 1 hts (gd_S (m_4 146 rfl rfl) (m_4 147 rfl rfl) (m_1 4 rfl rfl) (m_4 148 rfl rfl)) rfl rfl rfl (by decide +kernel) ⟨Nat.le_of_ble_eq_true rfl, Nat.le_of_ble_eq_true rfl⟩) ⟨fun _ _ _ _ q => q, fun U hU hW => ⟨rfl, trivial⟩⟩ rfl rfl hl.1 rfl (lv_room (Nat.le_of_ble_eq_true rfl)) (dt_at dt_Ref_product 68 rfl) ⟨Nat.le_of_ble_eq_true rfl, Nat.le_of_ble_eq_true rfl⟩) (fun u_r15 q_r15 => ?_)
      obtain rfl : r15 = u_r15 := q_r15.symm
      refine lv_iadd hx hb (dt_at dt_Ref_product 69 rfl) ?_
      refine lv_iload hx hb (dt_at dt_Ref_product 70 rfl) (lv_at hl 4 rfl) ?_
      obtain ⟨r16, h_r16, h⟩ := ob_of h
      have hF := va_free (wc := dR a) (dD (ws' := dR a) hD rfl) hS hA [0, 1, 2, 3, 4, 5, 6] rfl
      have hd : va_D (fun _ => True) (dR a) := (dD (ws' := dR a) hD rfl).weaken (fun _ _ _ _ => trivial)
      refine va_calll (va_runV (As := [.int s0, .int (r13 + r15), .int v5]) (rest := []) ⟨hx, hb, hml, hown, hts⟩ (c_Ref_rounded l D a q hd H.size s0 (r13 + r15) v5 g0 g1 g2 g3 g4 g5 g6 g7 r11 (0 : Int32) g10 g11 g12 g13 g14 g15 g16 g17 g18 g19 r16 h_r16) (cwV 3 hts (gd_V (m_4 149 rfl rfl) (m_4 151 rfl rfl) (m_s 32 rfl rfl) (m_1 4 rfl rfl) (m_4 152 rfl rfl)) rfl rfl rfl (by decide +kernel) ⟨Nat.le_of_ble_eq_true rfl, Nat.le_of_ble_eq_true rfl⟩) ⟨fun a U g mk q => ⟨q.1, q.2.1, q.2.2.1, va_K.moved (u := U) (U := U.calling g mk a) (Vm.Alike.refl U.vm) q.2.2.2⟩, va_recv hK hP (ci := 0) (q0 := 0) rfl rfl, fun U hU hW => ⟨rfl, by rw [hU], by rw [hU]; exact hP, va_K.moved hW.alike hK⟩⟩ rfl rfl hl.1 rfl (lv_room (Nat.le_of_ble_eq_true rfl)) (dt_at dt_Ref_product 71 rfl) ⟨Nat.le_of_ble_eq_true rfl, Nat.le_of_ble_eq_true rfl⟩) hS (fun x _ h9 => hF x h9) hF (fun u_r16 uu t H locs ht hvm hw hB hz1 hk1 hS => ?_)
      rw [ht] at hB
      obtain rfl : r16 = u_r16 := hw.symm
      have hP : va_P D CLS (wR a q g0 g1 g2 g3 g4 g5 g6 g7 r11 (0 : Int32) g10 g11 g12 g13 g14 g15 g16 g17 g18 g19) H := hB
      have hD : va_D A (wR a q g0 g1 g2 g3 g4 g5 g6 g7 r11 (0 : Int32) g10 g11 g12 g13 g14 g15 g16 g17 g18 g19) := dD hD rfl
      obtain rfl := os_of h
      exact W.lret (v := r16) hx hb hr (fun t ht hW => ⟨⟨_, (), rfl, rfl, (hPt hP ht)⟩, hS.F ht⟩) hS.2.2 (dt_at dt_Ref_product 72 rfl)
    · have h := if_n h c4
      exact k_Ref_product_60 hC hA hK   s0 g8 g9 H locs ls hP hD hS (lv_sub hl [0] rfl) h
set_option maxRecDepth 100000 in
set_option maxHeartbeats 4000000 in
theorem k_Ref_product_36 {p : Program} {l : Launch} {e : Env} {s : State} {m : MethodId} {args : Array Value} {below : List Frame} {meth : Method} {c : Code} {D : va_G} {a : Nat → Nat} {q : Nat → ClassId} {A : Nat → Prop} (hC : CX p s m args meth c prog_12_method_19_code 7 "OutwardTapeModel" (some .long)) (hA : ∀ x, s.heap.size ≤ x → A x) (hK : va_K D CLS (tR q) s) {g0 : Int32} {g1 : Nat → Int32} {g2 : Nat → Int64} {g3 : Nat → Int64} {g4 : Nat → Int32} {g5 : Int32} {g6 : Nat → Int32} {g7 : Int32} {g10 : Int64} {g11 : Int64} {g12 : Int32} {g13 : Int32} {g14 : Int32} {g15 : Int64} {g16 : Int32} {g17 : Int32} {g18 : Int64} {g19 : Int32} {r0 : Int64 × (Nat → Int32) × Int32} : ∀ (s0 : Int32) (s1 : Int32) (v1 : Int64) (v3 : Int64) (v5 : Int32) (g8 : Nat → Int32) (g9 : Int32) (H : Heap) (locs : List Loc) (ls : Array Slot), va_P D CLS (wR a q g0 g1 g2 g3 g4 g5 g6 g7 g8 g9 g10 g11 g12 g13 g14 g15 g16 g17 g18 g19) H → va_D A (wR a q g0 g1 g2 g3 g4 g5 g6 g7 g8 g9 g10 g11 g12 g13 g14 g15 g16 g17 g18 g19) → va_S A s.heap H locs → lv_has ls 7 [(0, .ref (a 0)), (1, .long v1), (3, .long v3), (5, .int v5)] → f_Ref_product_36  s0 s1 v1 v3 v5 g8 g9 = some r0 → W p l e rm_Ref_product s m args below meth c H locs 0 0 (MQ below (va_Ql (fun (r : Int64) (_ : Unit) => r = r0.1) (fun _ t => va_P D CLS (wR a q g0 g1 g2 g3 g4 g5 g6 g7 r0.2.1 r0.2.2 g10 g11 g12 g13 g14 g15 g16 g17 g18 g19) t.heap) A) args s 0 0 A) (F0 m 36 ls [.int s0, .int s1]) := by
  obtain ⟨hx, hb, hml, hown, hts, hr, hlocks⟩ := id hC
  intro s0 s1 v1 v3 v5 g8 g9 H locs ls hP hD hS hl h
  rw [f_Ref_product_36] at h
  refine lv_icmp_eq (tgt := 43) hx hb (dt_at dt_Ref_product 24 rfl) (by decide) (fun c1 => ?_) (fun c1 => ?_)
  · have h := if_p h c1
    refine lv_iconst (v := 0) hx hb (dt_at dt_Ref_product 27 rfl) (by decide) ?_
    exact k_Ref_product_44 hC hA hK   (0 : Int32) v1 v3 v5 g8 g9 H locs ls hP hD hS (lv_sub hl [0, 1, 2, 3] rfl) h
  · have h := if_n h c1
    refine lv_iconst (v := 1) hx hb (dt_at dt_Ref_product 25 rfl) (by decide) ?_
    refine lv_goto (tgt := 44) hx hb (dt_at dt_Ref_product 26 rfl) (by decide) ?_
    exact k_Ref_product_44 hC hA hK   (1 : Int32) v1 v3 v5 g8 g9 H locs ls hP hD hS (lv_sub hl [0, 1, 2, 3] rfl) h
set_option maxRecDepth 100000 in
set_option maxHeartbeats 4000000 in
theorem k_Ref_product_25 {p : Program} {l : Launch} {e : Env} {s : State} {m : MethodId} {args : Array Value} {below : List Frame} {meth : Method} {c : Code} {D : va_G} {a : Nat → Nat} {q : Nat → ClassId} {A : Nat → Prop} (hC : CX p s m args meth c prog_12_method_19_code 7 "OutwardTapeModel" (some .long)) (hA : ∀ x, s.heap.size ≤ x → A x) (hK : va_K D CLS (tR q) s) {g0 : Int32} {g1 : Nat → Int32} {g2 : Nat → Int64} {g3 : Nat → Int64} {g4 : Nat → Int32} {g5 : Int32} {g6 : Nat → Int32} {g7 : Int32} {g10 : Int64} {g11 : Int64} {g12 : Int32} {g13 : Int32} {g14 : Int32} {g15 : Int64} {g16 : Int32} {g17 : Int32} {g18 : Int64} {g19 : Int32} {r0 : Int64 × (Nat → Int32) × Int32} : ∀ (s0 : Int32) (v1 : Int64) (v3 : Int64) (v5 : Int32) (g8 : Nat → Int32) (g9 : Int32) (H : Heap) (locs : List Loc) (ls : Array Slot), va_P D CLS (wR a q g0 g1 g2 g3 g4 g5 g6 g7 g8 g9 g10 g11 g12 g13 g14 g15 g16 g17 g18 g19) H → va_D A (wR a q g0 g1 g2 g3 g4 g5 g6 g7 g8 g9 g10 g11 g12 g13 g14 g15 g16 g17 g18 g19) → va_S A s.heap H locs → lv_has ls 7 [(0, .ref (a 0)), (1, .long v1), (3, .long v3), (5, .int v5)] → f_Ref_product_25  s0 v1 v3 v5 g8 g9 = some r0 → W p l e rm_Ref_product s m args below meth c H locs 0 0 (MQ below (va_Ql (fun (r : Int64) (_ : Unit) => r = r0.1) (fun _ t => va_P D CLS (wR a q g0 g1 g2 g3 g4 g5 g6 g7 r0.2.1 r0.2.2 g10 g11 g12 g13 g14 g15 g16 g17 g18 g19) t.heap) A) args s 0 0 A) (F0 m 25 ls [.int s0]) := by
  obtain ⟨hx, hb, hml, hown, hts, hr, hlocks⟩ := id hC
  intro s0 v1 v3 v5 g8 g9 H locs ls hP hD hS hl h
  rw [f_Ref_product_25] at h
  refine lv_lload_n hx hb (dt_at dt_Ref_product 17 rfl) rfl (lv_at hl 2 rfl) ?_
  refine lv_lconst (v := 0) hx hb (dt_at dt_Ref_product 18 rfl) (by decide) ?_
  refine lc_ge (tgt := 35) hx hb (dt_at dt_Ref_product 19 rfl) (dt_at dt_Ref_product 20 rfl) (by decide) (fun c1 => ?_) (fun c1 => ?_)
  · have h := if_p h c1
    refine lv_iconst (v := 0) hx hb (dt_at dt_Ref_product 23 rfl) (by decide) ?_
    exact k_Ref_product_36 hC hA hK   (0 : Int32) s0 v1 v3 v5 g8 g9 H locs ls hP hD hS (lv_sub hl [0, 1, 2, 3] rfl) h
  · have h := if_n h c1
    refine lv_iconst (v := 1) hx hb (dt_at dt_Ref_product 21 rfl) (by decide) ?_
    refine lv_goto (tgt := 36) hx hb (dt_at dt_Ref_product 22 rfl) (by decide) ?_
    exact k_Ref_product_36 hC hA hK   (1 : Int32) s0 v1 v3 v5 g8 g9 H locs ls hP hD hS (lv_sub hl [0, 1, 2, 3] rfl) h
set_option maxRecDepth 100000 in
set_option maxHeartbeats 4000000 in
theorem k_Ref_product_12 {p : Program} {l : Launch} {e : Env} {s : State} {m : MethodId} {args : Array Value} {below : List Frame} {meth : Method} {c : Code} {D : va_G} {a : Nat → Nat} {q : Nat → ClassId} {A : Nat → Prop} (hC : CX p s m args meth c prog_12_method_19_code 7 "OutwardTapeModel" (some .long)) (hA : ∀ x, s.heap.size ≤ x → A x) (hK : va_K D CLS (tR q) s) {g0 : Int32} {g1 : Nat → Int32} {g2 : Nat → Int64} {g3 : Nat → Int64} {g4 : Nat → Int32} {g5 : Int32} {g6 : Nat → Int32} {g7 : Int32} {g10 : Int64} {g11 : Int64} {g12 : Int32} {g13 : Int32} {g14 : Int32} {g15 : Int64} {g16 : Int32} {g17 : Int32} {g18 : Int64} {g19 : Int32} {r0 : Int64 × (Nat → Int32) × Int32} : ∀  (g8 : Nat → Int32) (g9 : Int32) (H : Heap) (locs : List Loc) (ls : Array Slot), va_P D CLS (wR a q g0 g1 g2 g3 g4 g5 g6 g7 g8 g9 g10 g11 g12 g13 g14 g15 g16 g17 g18 g19) H → va_D A (wR a q g0 g1 g2 g3 g4 g5 g6 g7 g8 g9 g10 g11 g12 g13 g14 g15 g16 g17 g18 g19) → va_S A s.heap H locs → lv_has ls 7 [] → f_Ref_product_12  g8 g9 = some r0 → W p l e rm_Ref_product s m args below meth c H locs 0 0 (MQ below (va_Ql (fun (r : Int64) (_ : Unit) => r = r0.1) (fun _ t => va_P D CLS (wR a q g0 g1 g2 g3 g4 g5 g6 g7 r0.2.1 r0.2.2 g10 g11 g12 g13 g14 g15 g16 g17 g18 g19) t.heap) A) args s 0 0 A) (F0 m 12 ls []) := by
  obtain ⟨hx, hb, hml, hown, hts, hr, hlocks⟩ := id hC
  intro g8 g9 H locs ls hP hD hS hl h
  rw [f_Ref_product_12] at h
  refine lv_lconst (v := 0) hx hb (dt_at dt_Ref_product 8 rfl) (by decide) ?_
  obtain rfl := os_of h
  exact W.lret (v := (0 : Int64)) hx hb hr (fun t ht hW => ⟨⟨_, (), rfl, rfl, (hPt hP ht)⟩, hS.F ht⟩) hS.2.2 (dt_at dt_Ref_product 9 rfl)
set_option maxRecDepth 100000 in
set_option maxHeartbeats 4000000 in
theorem k_Ref_product_0 {p : Program} {l : Launch} {e : Env} {s : State} {m : MethodId} {args : Array Value} {below : List Frame} {meth : Method} {c : Code} {D : va_G} {a : Nat → Nat} {q : Nat → ClassId} {A : Nat → Prop} (hC : CX p s m args meth c prog_12_method_19_code 7 "OutwardTapeModel" (some .long)) (hA : ∀ x, s.heap.size ≤ x → A x) (hK : va_K D CLS (tR q) s) {g0 : Int32} {g1 : Nat → Int32} {g2 : Nat → Int64} {g3 : Nat → Int64} {g4 : Nat → Int32} {g5 : Int32} {g6 : Nat → Int32} {g7 : Int32} {g10 : Int64} {g11 : Int64} {g12 : Int32} {g13 : Int32} {g14 : Int32} {g15 : Int64} {g16 : Int32} {g17 : Int32} {g18 : Int64} {g19 : Int32} {r0 : Int64 × (Nat → Int32) × Int32} : ∀ (v1 : Int64) (v3 : Int64) (v5 : Int32) (g8 : Nat → Int32) (g9 : Int32) (H : Heap) (locs : List Loc) (ls : Array Slot), va_P D CLS (wR a q g0 g1 g2 g3 g4 g5 g6 g7 g8 g9 g10 g11 g12 g13 g14 g15 g16 g17 g18 g19) H → va_D A (wR a q g0 g1 g2 g3 g4 g5 g6 g7 g8 g9 g10 g11 g12 g13 g14 g15 g16 g17 g18 g19) → va_S A s.heap H locs → lv_has ls 7 [(0, .ref (a 0)), (1, .long v1), (3, .long v3), (5, .int v5)] → f_Ref_product_0  v1 v3 v5 g8 g9 = some r0 → W p l e rm_Ref_product s m args below meth c H locs 0 0 (MQ below (va_Ql (fun (r : Int64) (_ : Unit) => r = r0.1) (fun _ t => va_P D CLS (wR a q g0 g1 g2 g3 g4 g5 g6 g7 r0.2.1 r0.2.2 g10 g11 g12 g13 g14 g15 g16 g17 g18 g19) t.heap) A) args s 0 0 A) (F0 m 0 ls []) := by
  obtain ⟨hx, hb, hml, hown, hts, hr, hlocks⟩ := id hC
  intro v1 v3 v5 g8 g9 H locs ls hP hD hS hl h
  rw [f_Ref_product_0] at h
  refine lv_lload_n hx hb (dt_at dt_Ref_product 0 rfl) rfl (lv_at hl 1 rfl) ?_
  refine lv_lconst (v := 0) hx hb (dt_at dt_Ref_product 1 rfl) (by decide) ?_
  refine lc_eq (tgt := 12) hx hb (dt_at dt_Ref_product 2 rfl) (dt_at dt_Ref_product 3 rfl) (by decide) (fun c1 => ?_) (fun c1 => ?_)
  · have h := if_p h c1
    exact k_Ref_product_12 hC hA hK   g8 g9 H locs ls hP hD hS (lv_sub hl [] rfl) h
  · have h := if_n h c1
    refine lv_lload_n hx hb (dt_at dt_Ref_product 4 rfl) rfl (lv_at hl 2 rfl) ?_
    refine lv_lconst (v := 0) hx hb (dt_at dt_Ref_product 5 rfl) (by decide) ?_
    refine lc_ne (tgt := 14) hx hb (dt_at dt_Ref_product 6 rfl) (dt_at dt_Ref_product 7 rfl) (by decide) (fun c2 => ?_) (fun c2 => ?_)
    · have h := if_n h c2
      refine lv_lload_n hx hb (dt_at dt_Ref_product 10 rfl) rfl (lv_at hl 1 rfl) ?_
      refine lv_lconst (v := 0) hx hb (dt_at dt_Ref_product 11 rfl) (by decide) ?_
      refine lc_ge (tgt := 24) hx hb (dt_at dt_Ref_product 12 rfl) (dt_at dt_Ref_product 13 rfl) (by decide) (fun c3 => ?_) (fun c3 => ?_)
      · have h := if_p h c3
        refine lv_iconst (v := 0) hx hb (dt_at dt_Ref_product 16 rfl) (by decide) ?_
        exact k_Ref_product_25 hC hA hK   (0 : Int32) v1 v3 v5 g8 g9 H locs ls hP hD hS (lv_sub hl [0, 1, 2, 3] rfl) h
      · have h := if_n h c3
        refine lv_iconst (v := 1) hx hb (dt_at dt_Ref_product 14 rfl) (by decide) ?_
        refine lv_goto (tgt := 25) hx hb (dt_at dt_Ref_product 15 rfl) (by decide) ?_
        exact k_Ref_product_25 hC hA hK   (1 : Int32) v1 v3 v5 g8 g9 H locs ls hP hD hS (lv_sub hl [0, 1, 2, 3] rfl) h
    · have h := if_p h c2
      exact k_Ref_product_12 hC hA hK   g8 g9 H locs ls hP hD hS (lv_sub hl [] rfl) h
set_option maxRecDepth 100000 in
set_option maxHeartbeats 4000000 in
theorem c_Ref_product (l : Launch) (D : va_G) (a : Nat → Nat) (q : Nat → ClassId) (hd : va_D (fun _ => True) (dR a)) (sz : Nat) (a1 : Int64) (a3 : Int64) (a5 : Int32) (g0 : Int32) (g1 : Nat → Int32) (g2 : Nat → Int64) (g3 : Nat → Int64) (g4 : Nat → Int32) (g5 : Int32) (g6 : Nat → Int32) (g7 : Int32) (g8 : Nat → Int32) (g9 : Int32) (g10 : Int64) (g11 : Int64) (g12 : Int32) (g13 : Int32) (g14 : Int32) (g15 : Int64) (g16 : Int32) (g17 : Int32) (g18 : Int64) (g19 : Int32) (r0 : Int64 × (Nat → Int32) × Int32) (h : f_Ref_product a1 a3 a5 g8 g9 = some r0) : Met l (⟨"OutwardTapeModel", "product", "(JJI)J"⟩ : MethodName) (WSm (⟨"OutwardTapeModel", "product", "(JJI)J"⟩ : MethodName) prog_12_method_19_code 7 (some .long)) rm_Ref_product (va_Pc [.ref (a 0), .long a1, .long a3, .int a5] (fun U => U.heap.size = sz ∧ va_P D CLS (wR a q g0 g1 g2 g3 g4 g5 g6 g7 g8 g9 g10 g11 g12 g13 g14 g15 g16 g17 g18 g19) U.heap ∧ va_K D CLS (tR q) U)) (va_Ql (fun (r : Int64) (_ : Unit) => r = r0.1) (fun _ t => va_P D CLS (wR a q g0 g1 g2 g3 g4 g5 g6 g7 r0.2.1 r0.2.2 g10 g11 g12 g13 g14 g15 g16 g17 g18 g19) t.heap) (va_A (dR a) sz)) 0 0 (va_A (dR a) sz) := by
  refine Met.ofW (cc := prog_12_method_19_code) (maxL := 7) (ret := (some .long)) (by decide) rfl ?_
  intro p e s m args below meth c s₁ B hml hv
  obtain ⟨rfl, hsz, hP, hK⟩ := hv
  subst hsz
  have hC := CX.of B hml rfl
  have hl := lv_entry [.ref (a 0), .long a1, .long a3, .int a5] (n := 7) (Nat.le_of_ble_eq_true rfl)
  rw [lg_entry_eq]
  generalize (lg_sl [.ref (a 0), .long a1, .long a3, .int a5] ++ List.replicate (7 - (lg_sl [.ref (a 0), .long a1, .long a3, .int a5]).length) Slot.unset).toArray = ls at hl ⊢
  have hl : lv_has ls 7 [(0, .ref (a 0)), (1, .long a1), (3, .long a3), (5, .int a5)] := hl
  exact k_Ref_product_0 hC (fun x h => Or.inr h) hK a1 a3 a5 g8 g9 s.heap [] ls hP (dD hd.self rfl) va_S.rf (lv_sub hl [0, 1, 2, 3] rfl) h
abbrev rm_Ref_quotient : Room := { frames := 3, cells := 0, slots := 0, locals := 79 }
set_option maxRecDepth 100000 in
set_option maxHeartbeats 4000000 in
theorem k_Ref_quotient_122 {p : Program} {l : Launch} {e : Env} {s : State} {m : MethodId} {args : Array Value} {below : List Frame} {meth : Method} {c : Code} {D : va_G} {a : Nat → Nat} {q : Nat → ClassId} {A : Nat → Prop} (hC : CX p s m args meth c prog_12_method_20_code 7 "OutwardTapeModel" (some .long)) (hA : ∀ x, s.heap.size ≤ x → A x) (hK : va_K D CLS (tR q) s) {g0 : Int32} {g1 : Nat → Int32} {g2 : Nat → Int64} {g3 : Nat → Int64} {g4 : Nat → Int32} {g5 : Int32} {g6 : Nat → Int32} {g7 : Int32} {g10 : Int64} {g11 : Int64} {g12 : Int32} {g13 : Int32} {g14 : Int32} {g15 : Int64} {g16 : Int32} {g17 : Int32} {g18 : Int64} {g19 : Int32} {r0 : Int64 × (Nat → Int32) × Int32} : ∀ (s0 : Int32) (v1 : Int64) (v3 : Int64) (v5 : Int32) (v6 : Int32) (g8 : Nat → Int32) (g9 : Int32) (H : Heap) (locs : List Loc) (ls : Array Slot), va_P D CLS (wR a q g0 g1 g2 g3 g4 g5 g6 g7 g8 g9 g10 g11 g12 g13 g14 g15 g16 g17 g18 g19) H → va_D A (wR a q g0 g1 g2 g3 g4 g5 g6 g7 g8 g9 g10 g11 g12 g13 g14 g15 g16 g17 g18 g19) → va_S A s.heap H locs → lv_has ls 7 [(0, .ref (a 0)), (1, .long v1), (3, .long v3), (5, .int v5), (6, .int v6)] → f_Ref_quotient_122  s0 v1 v3 v5 v6 g8 g9 = some r0 → W p l e rm_Ref_quotient s m args below meth c H locs 0 0 (MQ below (va_Ql (fun (r : Int64) (_ : Unit) => r = r0.1) (fun _ t => va_P D CLS (wR a q g0 g1 g2 g3 g4 g5 g6 g7 r0.2.1 r0.2.2 g10 g11 g12 g13 g14 g15 g16 g17 g18 g19) t.heap) A) args s 0 0 A) (F0 m 122 ls [.int s0, .ref (a 0)]) := by
  obtain ⟨hx, hb, hml, hown, hts, hr, hlocks⟩ := id hC
  intro s0 v1 v3 v5 v6 g8 g9 H locs ls hP hD hS hl h
  rw [f_Ref_quotient_122] at h
  obtain ⟨z1, h⟩ := og_of h
  refine va_put (D := D) (ci := 0) (v := .int s0) (ty := .boolean) (C := "OutwardTapeModel") (T := T_Ref) (N := 20) hx hb hts in_Ref ty_Ref tk_Ref nm_Ref hown hK hP hD hS 0 rfl rfl 9 (by decide) (hts (Cond.fieldLink "OutwardTapeModel" 65 "OutwardTapeModel" "over" "Z") (m_4 8 rfl rfl)) (fun _ h9 => h9) rfl (by decide +kernel) (j_z_nar z1) (j_z_fit z1) (Nat.le_of_ble_eq_true rfl) (dt_at dt_Ref_quotient 67 rfl) (fun H locs hP hD hS => ?_)
  have hP : va_P D CLS (wR a q g0 g1 g2 g3 g4 g5 g6 g7 g8 s0 g10 g11 g12 g13 g14 g15 g16 g17 g18 g19) H := hP
  have hD : va_D A (wR a q g0 g1 g2 g3 g4 g5 g6 g7 g8 s0 g10 g11 g12 g13 g14 g15 g16 g17 g18 g19) := hD
  refine lv_aload_n hx hb (dt_at dt_Ref_quotient 68 rfl) rfl (lv_at hl 0 rfl) ?_
  refine lv_iload hx hb (dt_at dt_Ref_quotient 69 rfl) (lv_at hl 4 rfl) ?_
  refine lv_lload_n hx hb (dt_at dt_Ref_quotient 70 rfl) rfl (lv_at hl 1 rfl) ?_
  obtain ⟨r2, h_r2, h⟩ := ob_of h
  refine vp_callSl (W.runS (As := [.long v1]) (rest := [.int v6, .ref (a 0)]) ⟨hx, hb, hml, hown, hts⟩ (c_Ref_absolute l v1 r2 h_r2) (va_cwS 1 hts (gd_S (m_4 81 rfl rfl) (m_4 82 rfl rfl) (m_1 4 rfl rfl) (m_4 83 rfl rfl)) rfl rfl rfl (by decide +kernel) ⟨Nat.le_of_ble_eq_true rfl, Nat.le_of_ble_eq_true rfl⟩) ⟨fun _ _ _ _ q => q, fun U hU hW => ⟨rfl, trivial⟩⟩ rfl rfl hl.1 rfl (lv_room (Nat.le_of_ble_eq_true rfl)) (dt_at dt_Ref_quotient 71 rfl) ⟨Nat.le_of_ble_eq_true rfl, Nat.le_of_ble_eq_true rfl⟩) (fun u_r2 q_r2 => ?_)
  obtain rfl : r2 = u_r2 := q_r2.symm
  obtain ⟨r3, h_r3, h⟩ := ob_of h
  refine vp_callSi (W.runS (As := [.long r2]) (rest := [.int v6, .ref (a 0)]) ⟨hx, hb, hml, hown, hts⟩ (c_Ref_exponent l r2 r3 h_r3) (va_cwS 1 hts (gd_S (m_4 146 rfl rfl) (m_4 147 rfl rfl) (m_1 4 rfl rfl) (m_4 148 rfl rfl)) rfl rfl rfl (by decide +kernel) ⟨Nat.le_of_ble_eq_true rfl, Nat.le_of_ble_eq_true rfl⟩) ⟨fun _ _ _ _ q => q, fun U hU hW => ⟨rfl, trivial⟩⟩ rfl rfl hl.1 rfl (lv_room (Nat.le_of_ble_eq_true rfl)) (dt_at dt_Ref_quotient 72 rfl) ⟨Nat.le_of_ble_eq_true rfl, Nat.le_of_ble_eq_true rfl⟩) (fun u_r3 q_r3 => ?_)
  obtain rfl : r3 = u_r3 := q_r3.symm
  refine lv_lload_n hx hb (dt_at dt_Ref_quotient 73 rfl) rfl (lv_at hl 2 rfl) ?_
  obtain ⟨r4, h_r4, h⟩ := ob_of h
  refine vp_callSl (W.runS (As := [.long v3]) (rest := [.int r3, .int v6, .ref (a 0)]) ⟨hx, hb, hml, hown, hts⟩ (c_Ref_absolute l v3 r4 h_r4) (va_cwS 1 hts (gd_S (m_4 81 rfl rfl) (m_4 82 rfl rfl) (m_1 4 rfl rfl) (m_4 83 rfl rfl)) rfl rfl rfl (by decide +kernel) ⟨Nat.le_of_ble_eq_true rfl, Nat.le_of_ble_eq_true rfl⟩) ⟨fun _ _ _ _ q => q, fun U hU hW => ⟨rfl, trivial⟩⟩ rfl rfl hl.1 rfl (lv_room (Nat.le_of_ble_eq_true rfl)) (dt_at dt_Ref_quotient 74 rfl) ⟨Nat.le_of_ble_eq_true rfl, Nat.le_of_ble_eq_true rfl⟩) (fun u_r4 q_r4 => ?_)
  obtain rfl : r4 = u_r4 := q_r4.symm
  obtain ⟨r5, h_r5, h⟩ := ob_of h
  refine vp_callSi (W.runS (As := [.long r4]) (rest := [.int r3, .int v6, .ref (a 0)]) ⟨hx, hb, hml, hown, hts⟩ (c_Ref_exponent l r4 r5 h_r5) (va_cwS 1 hts (gd_S (m_4 146 rfl rfl) (m_4 147 rfl rfl) (m_1 4 rfl rfl) (m_4 148 rfl rfl)) rfl rfl rfl (by decide +kernel) ⟨Nat.le_of_ble_eq_true rfl, Nat.le_of_ble_eq_true rfl⟩) ⟨fun _ _ _ _ q => q, fun U hU hW => ⟨rfl, trivial⟩⟩ rfl rfl hl.1 rfl (lv_room (Nat.le_of_ble_eq_true rfl)) (dt_at dt_Ref_quotient 75 rfl) ⟨Nat.le_of_ble_eq_true rfl, Nat.le_of_ble_eq_true rfl⟩) (fun u_r5 q_r5 => ?_)
  obtain rfl : r5 = u_r5 := q_r5.symm
  refine lv_isub hx hb (dt_at dt_Ref_quotient 76 rfl) ?_
  refine lv_bipush (v := 120) hx hb (dt_at dt_Ref_quotient 77 rfl) (by decide) ?_
  refine lv_isub hx hb (dt_at dt_Ref_quotient 78 rfl) ?_
  refine lv_iload hx hb (dt_at dt_Ref_quotient 79 rfl) (lv_at hl 3 rfl) ?_
  obtain ⟨r6, h_r6, h⟩ := ob_of h
  have hF := va_free (wc := dR a) (dD (ws' := dR a) hD rfl) hS hA [0, 1, 2, 3, 4, 5, 6] rfl
  have hd : va_D (fun _ => True) (dR a) := (dD (ws' := dR a) hD rfl).weaken (fun _ _ _ _ => trivial)
  refine va_calll (va_runV (As := [.int v6, .int ((r3 - r5) - (120 : Int32)), .int v5]) (rest := []) ⟨hx, hb, hml, hown, hts⟩ (c_Ref_rounded l D a q hd H.size v6 ((r3 - r5) - (120 : Int32)) v5 g0 g1 g2 g3 g4 g5 g6 g7 g8 s0 g10 g11 g12 g13 g14 g15 g16 g17 g18 g19 r6 h_r6) (cwV 3 hts (gd_V (m_4 149 rfl rfl) (m_4 151 rfl rfl) (m_s 32 rfl rfl) (m_1 4 rfl rfl) (m_4 152 rfl rfl)) rfl rfl rfl (by decide +kernel) ⟨Nat.le_of_ble_eq_true rfl, Nat.le_of_ble_eq_true rfl⟩) ⟨fun a U g mk q => ⟨q.1, q.2.1, q.2.2.1, va_K.moved (u := U) (U := U.calling g mk a) (Vm.Alike.refl U.vm) q.2.2.2⟩, va_recv hK hP (ci := 0) (q0 := 0) rfl rfl, fun U hU hW => ⟨rfl, by rw [hU], by rw [hU]; exact hP, va_K.moved hW.alike hK⟩⟩ rfl rfl hl.1 rfl (lv_room (Nat.le_of_ble_eq_true rfl)) (dt_at dt_Ref_quotient 80 rfl) ⟨Nat.le_of_ble_eq_true rfl, Nat.le_of_ble_eq_true rfl⟩) hS (fun x _ h9 => hF x h9) hF (fun u_r6 uu t H locs ht hvm hw hB hz1 hk1 hS => ?_)
  rw [ht] at hB
  obtain rfl : r6 = u_r6 := hw.symm
  have hP : va_P D CLS (wR a q g0 g1 g2 g3 g4 g5 g6 g7 g8 s0 g10 g11 g12 g13 g14 g15 g16 g17 g18 g19) H := hB
  have hD : va_D A (wR a q g0 g1 g2 g3 g4 g5 g6 g7 g8 s0 g10 g11 g12 g13 g14 g15 g16 g17 g18 g19) := dD hD rfl
  obtain rfl := os_of h
  exact W.lret (v := r6) hx hb hr (fun t ht hW => ⟨⟨_, (), rfl, rfl, (hPt hP ht)⟩, hS.F ht⟩) hS.2.2 (dt_at dt_Ref_quotient 81 rfl)
set_option maxRecDepth 100000 in
set_option maxHeartbeats 4000000 in
theorem k_Ref_quotient_68 {p : Program} {l : Launch} {e : Env} {s : State} {m : MethodId} {args : Array Value} {below : List Frame} {meth : Method} {c : Code} {D : va_G} {a : Nat → Nat} {q : Nat → ClassId} {A : Nat → Prop} (hC : CX p s m args meth c prog_12_method_20_code 7 "OutwardTapeModel" (some .long)) (hA : ∀ x, s.heap.size ≤ x → A x) (hK : va_K D CLS (tR q) s) {g0 : Int32} {g1 : Nat → Int32} {g2 : Nat → Int64} {g3 : Nat → Int64} {g4 : Nat → Int32} {g5 : Int32} {g6 : Nat → Int32} {g7 : Int32} {g10 : Int64} {g11 : Int64} {g12 : Int32} {g13 : Int32} {g14 : Int32} {g15 : Int64} {g16 : Int32} {g17 : Int32} {g18 : Int64} {g19 : Int32} {r0 : Int64 × (Nat → Int32) × Int32} : ∀ (s0 : Int64) (g8 : Nat → Int32) (g9 : Int32) (H : Heap) (locs : List Loc) (ls : Array Slot), va_P D CLS (wR a q g0 g1 g2 g3 g4 g5 g6 g7 g8 g9 g10 g11 g12 g13 g14 g15 g16 g17 g18 g19) H → va_D A (wR a q g0 g1 g2 g3 g4 g5 g6 g7 g8 g9 g10 g11 g12 g13 g14 g15 g16 g17 g18 g19) → va_S A s.heap H locs → lv_has ls 7 [] → f_Ref_quotient_68  s0 g8 g9 = some r0 → W p l e rm_Ref_quotient s m args below meth c H locs 0 0 (MQ below (va_Ql (fun (r : Int64) (_ : Unit) => r = r0.1) (fun _ t => va_P D CLS (wR a q g0 g1 g2 g3 g4 g5 g6 g7 r0.2.1 r0.2.2 g10 g11 g12 g13 g14 g15 g16 g17 g18 g19) t.heap) A) args s 0 0 A) (F0 m 68 ls [.long s0]) := by
  obtain ⟨hx, hb, hml, hown, hts, hr, hlocks⟩ := id hC
  intro s0 g8 g9 H locs ls hP hD hS hl h
  rw [f_Ref_quotient_68] at h
  obtain rfl := os_of h
  exact W.lret (v := s0) hx hb hr (fun t ht hW => ⟨⟨_, (), rfl, rfl, (hPt hP ht)⟩, hS.F ht⟩) hS.2.2 (dt_at dt_Ref_quotient 36 rfl)
set_option maxRecDepth 100000 in
set_option maxHeartbeats 4000000 in
theorem k_Ref_quotient_45 {p : Program} {l : Launch} {e : Env} {s : State} {m : MethodId} {args : Array Value} {below : List Frame} {meth : Method} {c : Code} {D : va_G} {a : Nat → Nat} {q : Nat → ClassId} {A : Nat → Prop} (hC : CX p s m args meth c prog_12_method_20_code 7 "OutwardTapeModel" (some .long)) (hA : ∀ x, s.heap.size ≤ x → A x) (hK : va_K D CLS (tR q) s) {g0 : Int32} {g1 : Nat → Int32} {g2 : Nat → Int64} {g3 : Nat → Int64} {g4 : Nat → Int32} {g5 : Int32} {g6 : Nat → Int32} {g7 : Int32} {g10 : Int64} {g11 : Int64} {g12 : Int32} {g13 : Int32} {g14 : Int32} {g15 : Int64} {g16 : Int32} {g17 : Int32} {g18 : Int64} {g19 : Int32} {r0 : Int64 × (Nat → Int32) × Int32} : ∀ (s0 : Int32) (v1 : Int64) (v3 : Int64) (v5 : Int32) (g8 : Nat → Int32) (g9 : Int32) (H : Heap) (locs : List Loc) (ls : Array Slot), va_P D CLS (wR a q g0 g1 g2 g3 g4 g5 g6 g7 g8 g9 g10 g11 g12 g13 g14 g15 g16 g17 g18 g19) H → va_D A (wR a q g0 g1 g2 g3 g4 g5 g6 g7 g8 g9 g10 g11 g12 g13 g14 g15 g16 g17 g18 g19) → va_S A s.heap H locs → lv_has ls 7 [(0, .ref (a 0)), (1, .long v1), (3, .long v3), (5, .int v5)] → f_Ref_quotient_45  s0 v1 v3 v5 g8 g9 = some r0 → W p l e rm_Ref_quotient s m args below meth c H locs 0 0 (MQ below (va_Ql (fun (r : Int64) (_ : Unit) => r = r0.1) (fun _ t => va_P D CLS (wR a q g0 g1 g2 g3 g4 g5 g6 g7 r0.2.1 r0.2.2 g10 g11 g12 g13 g14 g15 g16 g17 g18 g19) t.heap) A) args s 0 0 A) (F0 m 45 ls [.int s0]) := by
  obtain ⟨hx, hb, hml, hown, hts, hr, hlocks⟩ := id hC
  intro s0 v1 v3 v5 g8 g9 H locs ls hP hD hS hl h
  rw [f_Ref_quotient_45] at h
  refine lv_istore (lv' := [(6, .int s0), (0, .ref (a 0)), (1, .long v1), (3, .long v3), (5, .int v5)]) hx hb (dt_at dt_Ref_quotient 27 rfl) hl (by decide) rfl (fun ls hl => ?_)
  refine lv_lload_n hx hb (dt_at dt_Ref_quotient 28 rfl) rfl (lv_at hl 2 rfl) ?_
  obtain ⟨r1, h_r1, h⟩ := ob_of h
  refine vp_callSi (W.runS (As := [.long v1]) (rest := []) ⟨hx, hb, hml, hown, hts⟩ (c_Ref_infinite l v1 r1 h_r1) (va_cwS 1 hts (gd_S (m_4 78 rfl rfl) (m_4 79 rfl rfl) (m_1 4 rfl rfl) (m_4 80 rfl rfl)) rfl rfl rfl (by decide +kernel) ⟨Nat.le_of_ble_eq_true rfl, Nat.le_of_ble_eq_true rfl⟩) ⟨fun _ _ _ _ q => q, fun U hU hW => ⟨rfl, trivial⟩⟩ rfl rfl hl.1 rfl (lv_room (Nat.le_of_ble_eq_true rfl)) (dt_at dt_Ref_quotient 29 rfl) ⟨Nat.le_of_ble_eq_true rfl, Nat.le_of_ble_eq_true rfl⟩) (fun u_r1 q_r1 => ?_)
  obtain rfl : r1 = u_r1 := q_r1.symm
  refine lv_if_eq (tgt := 69) hx hb (dt_at dt_Ref_quotient 30 rfl) (by decide) (fun c2 => ?_) (fun c2 => ?_)
  · have h := if_p h c2
    refine lv_aload_n hx hb (dt_at dt_Ref_quotient 37 rfl) rfl (lv_at hl 1 rfl) ?_
    refine lv_iconst (v := 1) hx hb (dt_at dt_Ref_quotient 38 rfl) (by decide) ?_
    refine lv_lload_n hx hb (dt_at dt_Ref_quotient 39 rfl) rfl (lv_at hl 2 rfl) ?_
    obtain ⟨r3, h_r3, h⟩ := ob_of h
    refine vp_callSl (W.runS (As := [.long v1]) (rest := [.int (1 : Int32), .ref (a 0)]) ⟨hx, hb, hml, hown, hts⟩ (c_Ref_absolute l v1 r3 h_r3) (va_cwS 1 hts (gd_S (m_4 81 rfl rfl) (m_4 82 rfl rfl) (m_1 4 rfl rfl) (m_4 83 rfl rfl)) rfl rfl rfl (by decide +kernel) ⟨Nat.le_of_ble_eq_true rfl, Nat.le_of_ble_eq_true rfl⟩) ⟨fun _ _ _ _ q => q, fun U hU hW => ⟨rfl, trivial⟩⟩ rfl rfl hl.1 rfl (lv_room (Nat.le_of_ble_eq_true rfl)) (dt_at dt_Ref_quotient 40 rfl) ⟨Nat.le_of_ble_eq_true rfl, Nat.le_of_ble_eq_true rfl⟩) (fun u_r3 q_r3 => ?_)
    obtain rfl : r3 = u_r3 := q_r3.symm
    obtain ⟨r4, h_r4, h⟩ := ob_of h
    refine vp_callSl (W.runS (As := [.long r3]) (rest := [.int (1 : Int32), .ref (a 0)]) ⟨hx, hb, hml, hown, hts⟩ (c_Ref_mantissa l r3 r4 h_r4) (va_cwS 1 hts (gd_S (m_4 124 rfl rfl) (m_4 125 rfl rfl) (m_1 4 rfl rfl) (m_4 126 rfl rfl)) rfl rfl rfl (by decide +kernel) ⟨Nat.le_of_ble_eq_true rfl, Nat.le_of_ble_eq_true rfl⟩) ⟨fun _ _ _ _ q => q, fun U hU hW => ⟨rfl, trivial⟩⟩ rfl rfl hl.1 rfl (lv_room (Nat.le_of_ble_eq_true rfl)) (dt_at dt_Ref_quotient 41 rfl) ⟨Nat.le_of_ble_eq_true rfl, Nat.le_of_ble_eq_true rfl⟩) (fun u_r4 q_r4 => ?_)
    obtain rfl : r4 = u_r4 := q_r4.symm
    obtain ⟨r5, h_r5, h⟩ := ob_of h
    have hF := va_free (wc := dR a) (dD (ws' := dR a) hD rfl) hS hA [0, 1, 2, 3, 4, 5, 6] rfl
    have hd : va_D (fun _ => True) (dR a) := (dD (ws' := dR a) hD rfl).weaken (fun _ _ _ _ => trivial)
    refine va_callv (va_runV (As := [.int (1 : Int32), .long r4]) (rest := []) ⟨hx, hb, hml, hown, hts⟩ (c_Ref_put l D a q hd H.size (1 : Int32) r4 g0 g1 g2 g3 g4 g5 g6 g7 g8 g9 g10 g11 g12 g13 g14 g15 g16 g17 g18 g19 r5 h_r5) (cwV 2 hts (gd_V (m_4 129 rfl rfl) (m_4 131 rfl rfl) (m_s 28 rfl rfl) (m_1 4 rfl rfl) (m_4 132 rfl rfl)) rfl rfl rfl (by decide +kernel) ⟨Nat.le_of_ble_eq_true rfl, Nat.le_of_ble_eq_true rfl⟩) ⟨fun a U g mk q => ⟨q.1, q.2.1, q.2.2.1, va_K.moved (u := U) (U := U.calling g mk a) (Vm.Alike.refl U.vm) q.2.2.2⟩, va_recv hK hP (ci := 0) (q0 := 0) rfl rfl, fun U hU hW => ⟨rfl, by rw [hU], by rw [hU]; exact hP, va_K.moved hW.alike hK⟩⟩ rfl rfl hl.1 rfl (lv_room (Nat.le_of_ble_eq_true rfl)) (dt_at dt_Ref_quotient 42 rfl) ⟨Nat.le_of_ble_eq_true rfl, Nat.le_of_ble_eq_true rfl⟩) hS (fun x _ h9 => hF x h9) hF (fun uu t H locs ht hvm hw hB hz1 hk1 hS => ?_)
    rw [ht] at hB
    have hP : va_P D CLS (wR a q g0 g1 g2 g3 g4 g5 g6 g7 r5 g9 g10 g11 g12 g13 g14 g15 g16 g17 g18 g19) H := hB
    have hD : va_D A (wR a q g0 g1 g2 g3 g4 g5 g6 g7 r5 g9 g10 g11 g12 g13 g14 g15 g16 g17 g18 g19) := dD hD rfl
    refine lv_aload_n hx hb (dt_at dt_Ref_quotient 43 rfl) rfl (lv_at hl 1 rfl) ?_
    refine lv_iconst (v := 1) hx hb (dt_at dt_Ref_quotient 44 rfl) (by decide) ?_
    refine lv_bipush (v := 120) hx hb (dt_at dt_Ref_quotient 45 rfl) (by decide) ?_
    obtain ⟨r6, h_r6, h⟩ := ob_of h
    have hF := va_free (wc := dR a) (dD (ws' := dR a) hD rfl) hS hA [0, 1, 2, 3, 4, 5, 6] rfl
    have hd : va_D (fun _ => True) (dR a) := (dD (ws' := dR a) hD rfl).weaken (fun _ _ _ _ => trivial)
    refine va_callv (va_runV (As := [.int (1 : Int32), .int (120 : Int32)]) (rest := []) ⟨hx, hb, hml, hown, hts⟩ (c_Ref_moveUp l D a q hd H.size (1 : Int32) (120 : Int32) g0 g1 g2 g3 g4 g5 g6 g7 r5 g9 g10 g11 g12 g13 g14 g15 g16 g17 g18 g19 r6 h_r6) (cwV 2 hts (gd_V (m_4 159 rfl rfl) (m_4 161 rfl rfl) (m_s 34 rfl rfl) (m_1 4 rfl rfl) (m_4 162 rfl rfl)) rfl rfl rfl (by decide +kernel) ⟨Nat.le_of_ble_eq_true rfl, Nat.le_of_ble_eq_true rfl⟩) ⟨fun a U g mk q => ⟨q.1, q.2.1, q.2.2.1, va_K.moved (u := U) (U := U.calling g mk a) (Vm.Alike.refl U.vm) q.2.2.2⟩, va_recv hK hP (ci := 0) (q0 := 0) rfl rfl, fun U hU hW => ⟨rfl, by rw [hU], by rw [hU]; exact hP, va_K.moved hW.alike hK⟩⟩ rfl rfl hl.1 rfl (lv_room (Nat.le_of_ble_eq_true rfl)) (dt_at dt_Ref_quotient 46 rfl) ⟨Nat.le_of_ble_eq_true rfl, Nat.le_of_ble_eq_true rfl⟩) hS (fun x _ h9 => hF x h9) hF (fun uu t H locs ht hvm hw hB hz1 hk1 hS => ?_)
    rw [ht] at hB
    have hP : va_P D CLS (wR a q g0 g1 g2 g3 g4 g5 g6 g7 r6 g9 g10 g11 g12 g13 g14 g15 g16 g17 g18 g19) H := hB
    have hD : va_D A (wR a q g0 g1 g2 g3 g4 g5 g6 g7 r6 g9 g10 g11 g12 g13 g14 g15 g16 g17 g18 g19) := dD hD rfl
    refine lv_aload_n hx hb (dt_at dt_Ref_quotient 47 rfl) rfl (lv_at hl 1 rfl) ?_
    refine lv_iconst (v := 2) hx hb (dt_at dt_Ref_quotient 48 rfl) (by decide) ?_
    refine lv_lload_n hx hb (dt_at dt_Ref_quotient 49 rfl) rfl (lv_at hl 3 rfl) ?_
    obtain ⟨r7, h_r7, h⟩ := ob_of h
    refine vp_callSl (W.runS (As := [.long v3]) (rest := [.int (2 : Int32), .ref (a 0)]) ⟨hx, hb, hml, hown, hts⟩ (c_Ref_absolute l v3 r7 h_r7) (va_cwS 1 hts (gd_S (m_4 81 rfl rfl) (m_4 82 rfl rfl) (m_1 4 rfl rfl) (m_4 83 rfl rfl)) rfl rfl rfl (by decide +kernel) ⟨Nat.le_of_ble_eq_true rfl, Nat.le_of_ble_eq_true rfl⟩) ⟨fun _ _ _ _ q => q, fun U hU hW => ⟨rfl, trivial⟩⟩ rfl rfl hl.1 rfl (lv_room (Nat.le_of_ble_eq_true rfl)) (dt_at dt_Ref_quotient 50 rfl) ⟨Nat.le_of_ble_eq_true rfl, Nat.le_of_ble_eq_true rfl⟩) (fun u_r7 q_r7 => ?_)
    obtain rfl : r7 = u_r7 := q_r7.symm
    obtain ⟨r8, h_r8, h⟩ := ob_of h
    refine vp_callSl (W.runS (As := [.long r7]) (rest := [.int (2 : Int32), .ref (a 0)]) ⟨hx, hb, hml, hown, hts⟩ (c_Ref_mantissa l r7 r8 h_r8) (va_cwS 1 hts (gd_S (m_4 124 rfl rfl) (m_4 125 rfl rfl) (m_1 4 rfl rfl) (m_4 126 rfl rfl)) rfl rfl rfl (by decide +kernel) ⟨Nat.le_of_ble_eq_true rfl, Nat.le_of_ble_eq_true rfl⟩) ⟨fun _ _ _ _ q => q, fun U hU hW => ⟨rfl, trivial⟩⟩ rfl rfl hl.1 rfl (lv_room (Nat.le_of_ble_eq_true rfl)) (dt_at dt_Ref_quotient 51 rfl) ⟨Nat.le_of_ble_eq_true rfl, Nat.le_of_ble_eq_true rfl⟩) (fun u_r8 q_r8 => ?_)
    obtain rfl : r8 = u_r8 := q_r8.symm
    obtain ⟨r9, h_r9, h⟩ := ob_of h
    have hF := va_free (wc := dR a) (dD (ws' := dR a) hD rfl) hS hA [0, 1, 2, 3, 4, 5, 6] rfl
    have hd : va_D (fun _ => True) (dR a) := (dD (ws' := dR a) hD rfl).weaken (fun _ _ _ _ => trivial)
    refine va_callv (va_runV (As := [.int (2 : Int32), .long r8]) (rest := []) ⟨hx, hb, hml, hown, hts⟩ (c_Ref_put l D a q hd H.size (2 : Int32) r8 g0 g1 g2 g3 g4 g5 g6 g7 r6 g9 g10 g11 g12 g13 g14 g15 g16 g17 g18 g19 r9 h_r9) (cwV 2 hts (gd_V (m_4 129 rfl rfl) (m_4 131 rfl rfl) (m_s 28 rfl rfl) (m_1 4 rfl rfl) (m_4 132 rfl rfl)) rfl rfl rfl (by decide +kernel) ⟨Nat.le_of_ble_eq_true rfl, Nat.le_of_ble_eq_true rfl⟩) ⟨fun a U g mk q => ⟨q.1, q.2.1, q.2.2.1, va_K.moved (u := U) (U := U.calling g mk a) (Vm.Alike.refl U.vm) q.2.2.2⟩, va_recv hK hP (ci := 0) (q0 := 0) rfl rfl, fun U hU hW => ⟨rfl, by rw [hU], by rw [hU]; exact hP, va_K.moved hW.alike hK⟩⟩ rfl rfl hl.1 rfl (lv_room (Nat.le_of_ble_eq_true rfl)) (dt_at dt_Ref_quotient 52 rfl) ⟨Nat.le_of_ble_eq_true rfl, Nat.le_of_ble_eq_true rfl⟩) hS (fun x _ h9 => hF x h9) hF (fun uu t H locs ht hvm hw hB hz1 hk1 hS => ?_)
    rw [ht] at hB
    have hP : va_P D CLS (wR a q g0 g1 g2 g3 g4 g5 g6 g7 r9 g9 g10 g11 g12 g13 g14 g15 g16 g17 g18 g19) H := hB
    have hD : va_D A (wR a q g0 g1 g2 g3 g4 g5 g6 g7 r9 g9 g10 g11 g12 g13 g14 g15 g16 g17 g18 g19) := dD hD rfl
    refine lv_aload_n hx hb (dt_at dt_Ref_quotient 53 rfl) rfl (lv_at hl 1 rfl) ?_
    refine lv_iconst (v := 0) hx hb (dt_at dt_Ref_quotient 54 rfl) (by decide) ?_
    refine lv_iconst (v := 1) hx hb (dt_at dt_Ref_quotient 55 rfl) (by decide) ?_
    refine lv_iconst (v := 2) hx hb (dt_at dt_Ref_quotient 56 rfl) (by decide) ?_
    refine lv_iconst (v := 3) hx hb (dt_at dt_Ref_quotient 57 rfl) (by decide) ?_
    obtain ⟨r10, h_r10, h⟩ := ob_of h
    have hF := va_free (wc := dR a) (dD (ws' := dR a) hD rfl) hS hA [0, 1, 2, 3, 4, 5, 6] rfl
    have hd : va_D (fun _ => True) (dR a) := (dD (ws' := dR a) hD rfl).weaken (fun _ _ _ _ => trivial)
    refine va_callv (va_runV (As := [.int (0 : Int32), .int (1 : Int32), .int (2 : Int32), .int (3 : Int32)]) (rest := []) ⟨hx, hb, hml, hown, hts⟩ (c_Ref_divide l D a q hd H.size (0 : Int32) (1 : Int32) (2 : Int32) (3 : Int32) g0 g1 g2 g3 g4 g5 g6 g7 r9 g9 g10 g11 g12 g13 g14 g15 g16 g17 g18 g19 r10 h_r10) (cwV 4 hts (gd_V (m_4 185 rfl rfl) (m_4 187 rfl rfl) (m_s 40 rfl rfl) (m_1 4 rfl rfl) (m_4 188 rfl rfl)) rfl rfl rfl (by decide +kernel) ⟨Nat.le_of_ble_eq_true rfl, Nat.le_of_ble_eq_true rfl⟩) ⟨fun a U g mk q => ⟨q.1, q.2.1, q.2.2.1, va_K.moved (u := U) (U := U.calling g mk a) (Vm.Alike.refl U.vm) q.2.2.2⟩, va_recv hK hP (ci := 0) (q0 := 0) rfl rfl, fun U hU hW => ⟨rfl, by rw [hU], by rw [hU]; exact hP, va_K.moved hW.alike hK⟩⟩ rfl rfl hl.1 rfl (lv_room (Nat.le_of_ble_eq_true rfl)) (dt_at dt_Ref_quotient 58 rfl) ⟨Nat.le_of_ble_eq_true rfl, Nat.le_of_ble_eq_true rfl⟩) hS (fun x _ h9 => hF x h9) hF (fun uu t H locs ht hvm hw hB hz1 hk1 hS => ?_)
    rw [ht] at hB
    have hP : va_P D CLS (wR a q g0 g1 g2 g3 g4 g5 g6 g7 r10 g9 g10 g11 g12 g13 g14 g15 g16 g17 g18 g19) H := hB
    have hD : va_D A (wR a q g0 g1 g2 g3 g4 g5 g6 g7 r10 g9 g10 g11 g12 g13 g14 g15 g16 g17 g18 g19) := dD hD rfl
    refine lv_aload_n hx hb (dt_at dt_Ref_quotient 59 rfl) rfl (lv_at hl 1 rfl) ?_
    refine lv_aload_n hx hb (dt_at dt_Ref_quotient 60 rfl) rfl (lv_at hl 1 rfl) ?_
    refine lv_iconst (v := 3) hx hb (dt_at dt_Ref_quotient 61 rfl) (by decide) ?_
    obtain ⟨r11, h_r11, h⟩ := ob_of h
    have hF := va_free (wc := dR a) (dD (ws' := dR a) hD rfl) hS hA [0, 1, 2, 3, 4, 5, 6] rfl
    have hd : va_D (fun _ => True) (dR a) := (dD (ws' := dR a) hD rfl).weaken (fun _ _ _ _ => trivial)
    refine va_calli (va_runV (As := [.int (3 : Int32)]) (rest := [.ref (a 0)]) ⟨hx, hb, hml, hown, hts⟩ (c_Ref_width l D a q hd H.size (3 : Int32) g0 g1 g2 g3 g4 g5 g6 g7 r10 g9 g10 g11 g12 g13 g14 g15 g16 g17 g18 g19 r11 h_r11) (cwV 1 hts (gd_V (m_4 138 rfl rfl) (m_4 140 rfl rfl) (m_s 30 rfl rfl) (m_1 4 rfl rfl) (m_4 141 rfl rfl)) rfl rfl rfl (by decide +kernel) ⟨Nat.le_of_ble_eq_true rfl, Nat.le_of_ble_eq_true rfl⟩) ⟨fun a U g mk q => ⟨q.1, q.2.1, q.2.2.1, va_K.moved (u := U) (U := U.calling g mk a) (Vm.Alike.refl U.vm) q.2.2.2⟩, va_recv hK hP (ci := 0) (q0 := 0) rfl rfl, fun U hU hW => ⟨rfl, by rw [hU], by rw [hU]; exact hP, va_K.moved hW.alike hK⟩⟩ rfl rfl hl.1 rfl (lv_room (Nat.le_of_ble_eq_true rfl)) (dt_at dt_Ref_quotient 62 rfl) ⟨Nat.le_of_ble_eq_true rfl, Nat.le_of_ble_eq_true rfl⟩) hS (fun x _ h9 => hF x h9) hF (fun u_r11 uu t H locs ht hvm hw hB hz1 hk1 hS => ?_)
    rw [ht] at hB
    obtain rfl : r11 = u_r11 := hw.symm
    have hP : va_P D CLS (wR a q g0 g1 g2 g3 g4 g5 g6 g7 r10 g9 g10 g11 g12 g13 g14 g15 g16 g17 g18 g19) H := hB
    have hD : va_D A (wR a q g0 g1 g2 g3 g4 g5 g6 g7 r10 g9 g10 g11 g12 g13 g14 g15 g16 g17 g18 g19) := dD hD rfl
    refine lv_if_le (tgt := 121) hx hb (dt_at dt_Ref_quotient 63 rfl) (by decide) (fun c12 => ?_) (fun c12 => ?_)
    · have h := if_p h c12
      refine lv_iconst (v := 0) hx hb (dt_at dt_Ref_quotient 66 rfl) (by decide) ?_
      exact k_Ref_quotient_122 hC hA hK   (0 : Int32) v1 v3 v5 s0 r10 g9 H locs ls hP hD hS (lv_sub hl [1, 2, 3, 4, 0] rfl) h
    · have h := if_n h c12
      refine lv_iconst (v := 1) hx hb (dt_at dt_Ref_quotient 64 rfl) (by decide) ?_
      refine lv_goto (tgt := 122) hx hb (dt_at dt_Ref_quotient 65 rfl) (by decide) ?_
      exact k_Ref_quotient_122 hC hA hK   (1 : Int32) v1 v3 v5 s0 r10 g9 H locs ls hP hD hS (lv_sub hl [1, 2, 3, 4, 0] rfl) h
  · have h := if_n h c2
    refine lv_iload hx hb (dt_at dt_Ref_quotient 31 rfl) (lv_at hl 0 rfl) ?_
    refine lv_if_eq (tgt := 65) hx hb (dt_at dt_Ref_quotient 32 rfl) (by decide) (fun c13 => ?_) (fun c13 => ?_)
    · have h := if_p h c13
      refine lv_ldc2 (v := 9218868437227405312) hx hb hown (hts (Cond.constantLong "OutwardTapeModel" 69 (9218868437227405312)) (m_4 70 rfl rfl)) (dt_at dt_Ref_quotient 35 rfl) ?_
      exact k_Ref_quotient_68 hC hA hK   (9218868437227405312 : Int64) g8 g9 H locs ls hP hD hS (lv_sub hl [] rfl) h
    · have h := if_n h c13
      refine lv_ldc2 (v := -9218868437227405312) hx hb hown (hts (Cond.constantLong "OutwardTapeModel" 95 (-9218868437227405312)) (m_4 74 rfl rfl)) (dt_at dt_Ref_quotient 33 rfl) ?_
      refine lv_goto (tgt := 68) hx hb (dt_at dt_Ref_quotient 34 rfl) (by decide) ?_
      exact k_Ref_quotient_68 hC hA hK   (-9218868437227405312 : Int64) g8 g9 H locs ls hP hD hS (lv_sub hl [] rfl) h
set_option maxRecDepth 100000 in
set_option maxHeartbeats 4000000 in
theorem k_Ref_quotient_37 {p : Program} {l : Launch} {e : Env} {s : State} {m : MethodId} {args : Array Value} {below : List Frame} {meth : Method} {c : Code} {D : va_G} {a : Nat → Nat} {q : Nat → ClassId} {A : Nat → Prop} (hC : CX p s m args meth c prog_12_method_20_code 7 "OutwardTapeModel" (some .long)) (hA : ∀ x, s.heap.size ≤ x → A x) (hK : va_K D CLS (tR q) s) {g0 : Int32} {g1 : Nat → Int32} {g2 : Nat → Int64} {g3 : Nat → Int64} {g4 : Nat → Int32} {g5 : Int32} {g6 : Nat → Int32} {g7 : Int32} {g10 : Int64} {g11 : Int64} {g12 : Int32} {g13 : Int32} {g14 : Int32} {g15 : Int64} {g16 : Int32} {g17 : Int32} {g18 : Int64} {g19 : Int32} {r0 : Int64 × (Nat → Int32) × Int32} : ∀ (s0 : Int32) (s1 : Int32) (v1 : Int64) (v3 : Int64) (v5 : Int32) (g8 : Nat → Int32) (g9 : Int32) (H : Heap) (locs : List Loc) (ls : Array Slot), va_P D CLS (wR a q g0 g1 g2 g3 g4 g5 g6 g7 g8 g9 g10 g11 g12 g13 g14 g15 g16 g17 g18 g19) H → va_D A (wR a q g0 g1 g2 g3 g4 g5 g6 g7 g8 g9 g10 g11 g12 g13 g14 g15 g16 g17 g18 g19) → va_S A s.heap H locs → lv_has ls 7 [(0, .ref (a 0)), (1, .long v1), (3, .long v3), (5, .int v5)] → f_Ref_quotient_37  s0 s1 v1 v3 v5 g8 g9 = some r0 → W p l e rm_Ref_quotient s m args below meth c H locs 0 0 (MQ below (va_Ql (fun (r : Int64) (_ : Unit) => r = r0.1) (fun _ t => va_P D CLS (wR a q g0 g1 g2 g3 g4 g5 g6 g7 r0.2.1 r0.2.2 g10 g11 g12 g13 g14 g15 g16 g17 g18 g19) t.heap) A) args s 0 0 A) (F0 m 37 ls [.int s0, .int s1]) := by
  obtain ⟨hx, hb, hml, hown, hts, hr, hlocks⟩ := id hC
  intro s0 s1 v1 v3 v5 g8 g9 H locs ls hP hD hS hl h
  rw [f_Ref_quotient_37] at h
  refine lv_icmp_eq (tgt := 44) hx hb (dt_at dt_Ref_quotient 23 rfl) (by decide) (fun c1 => ?_) (fun c1 => ?_)
  · have h := if_p h c1
    refine lv_iconst (v := 0) hx hb (dt_at dt_Ref_quotient 26 rfl) (by decide) ?_
    exact k_Ref_quotient_45 hC hA hK   (0 : Int32) v1 v3 v5 g8 g9 H locs ls hP hD hS (lv_sub hl [0, 1, 2, 3] rfl) h
  · have h := if_n h c1
    refine lv_iconst (v := 1) hx hb (dt_at dt_Ref_quotient 24 rfl) (by decide) ?_
    refine lv_goto (tgt := 45) hx hb (dt_at dt_Ref_quotient 25 rfl) (by decide) ?_
    exact k_Ref_quotient_45 hC hA hK   (1 : Int32) v1 v3 v5 g8 g9 H locs ls hP hD hS (lv_sub hl [0, 1, 2, 3] rfl) h
set_option maxRecDepth 100000 in
set_option maxHeartbeats 4000000 in
theorem k_Ref_quotient_26 {p : Program} {l : Launch} {e : Env} {s : State} {m : MethodId} {args : Array Value} {below : List Frame} {meth : Method} {c : Code} {D : va_G} {a : Nat → Nat} {q : Nat → ClassId} {A : Nat → Prop} (hC : CX p s m args meth c prog_12_method_20_code 7 "OutwardTapeModel" (some .long)) (hA : ∀ x, s.heap.size ≤ x → A x) (hK : va_K D CLS (tR q) s) {g0 : Int32} {g1 : Nat → Int32} {g2 : Nat → Int64} {g3 : Nat → Int64} {g4 : Nat → Int32} {g5 : Int32} {g6 : Nat → Int32} {g7 : Int32} {g10 : Int64} {g11 : Int64} {g12 : Int32} {g13 : Int32} {g14 : Int32} {g15 : Int64} {g16 : Int32} {g17 : Int32} {g18 : Int64} {g19 : Int32} {r0 : Int64 × (Nat → Int32) × Int32} : ∀ (s0 : Int32) (v1 : Int64) (v3 : Int64) (v5 : Int32) (g8 : Nat → Int32) (g9 : Int32) (H : Heap) (locs : List Loc) (ls : Array Slot), va_P D CLS (wR a q g0 g1 g2 g3 g4 g5 g6 g7 g8 g9 g10 g11 g12 g13 g14 g15 g16 g17 g18 g19) H → va_D A (wR a q g0 g1 g2 g3 g4 g5 g6 g7 g8 g9 g10 g11 g12 g13 g14 g15 g16 g17 g18 g19) → va_S A s.heap H locs → lv_has ls 7 [(0, .ref (a 0)), (1, .long v1), (3, .long v3), (5, .int v5)] → f_Ref_quotient_26  s0 v1 v3 v5 g8 g9 = some r0 → W p l e rm_Ref_quotient s m args below meth c H locs 0 0 (MQ below (va_Ql (fun (r : Int64) (_ : Unit) => r = r0.1) (fun _ t => va_P D CLS (wR a q g0 g1 g2 g3 g4 g5 g6 g7 r0.2.1 r0.2.2 g10 g11 g12 g13 g14 g15 g16 g17 g18 g19) t.heap) A) args s 0 0 A) (F0 m 26 ls [.int s0]) := by
  obtain ⟨hx, hb, hml, hown, hts, hr, hlocks⟩ := id hC
  intro s0 v1 v3 v5 g8 g9 H locs ls hP hD hS hl h
  rw [f_Ref_quotient_26] at h
  refine lv_lload_n hx hb (dt_at dt_Ref_quotient 16 rfl) rfl (lv_at hl 2 rfl) ?_
  refine lv_lconst (v := 0) hx hb (dt_at dt_Ref_quotient 17 rfl) (by decide) ?_
  refine lc_ge (tgt := 36) hx hb (dt_at dt_Ref_quotient 18 rfl) (dt_at dt_Ref_quotient 19 rfl) (by decide) (fun c1 => ?_) (fun c1 => ?_)
  · have h := if_p h c1
    refine lv_iconst (v := 0) hx hb (dt_at dt_Ref_quotient 22 rfl) (by decide) ?_
    exact k_Ref_quotient_37 hC hA hK   (0 : Int32) s0 v1 v3 v5 g8 g9 H locs ls hP hD hS (lv_sub hl [0, 1, 2, 3] rfl) h
  · have h := if_n h c1
    refine lv_iconst (v := 1) hx hb (dt_at dt_Ref_quotient 20 rfl) (by decide) ?_
    refine lv_goto (tgt := 37) hx hb (dt_at dt_Ref_quotient 21 rfl) (by decide) ?_
    exact k_Ref_quotient_37 hC hA hK   (1 : Int32) s0 v1 v3 v5 g8 g9 H locs ls hP hD hS (lv_sub hl [0, 1, 2, 3] rfl) h
set_option maxRecDepth 100000 in
set_option maxHeartbeats 4000000 in
theorem k_Ref_quotient_13 {p : Program} {l : Launch} {e : Env} {s : State} {m : MethodId} {args : Array Value} {below : List Frame} {meth : Method} {c : Code} {D : va_G} {a : Nat → Nat} {q : Nat → ClassId} {A : Nat → Prop} (hC : CX p s m args meth c prog_12_method_20_code 7 "OutwardTapeModel" (some .long)) (hA : ∀ x, s.heap.size ≤ x → A x) (hK : va_K D CLS (tR q) s) {g0 : Int32} {g1 : Nat → Int32} {g2 : Nat → Int64} {g3 : Nat → Int64} {g4 : Nat → Int32} {g5 : Int32} {g6 : Nat → Int32} {g7 : Int32} {g10 : Int64} {g11 : Int64} {g12 : Int32} {g13 : Int32} {g14 : Int32} {g15 : Int64} {g16 : Int32} {g17 : Int32} {g18 : Int64} {g19 : Int32} {r0 : Int64 × (Nat → Int32) × Int32} : ∀  (g8 : Nat → Int32) (g9 : Int32) (H : Heap) (locs : List Loc) (ls : Array Slot), va_P D CLS (wR a q g0 g1 g2 g3 g4 g5 g6 g7 g8 g9 g10 g11 g12 g13 g14 g15 g16 g17 g18 g19) H → va_D A (wR a q g0 g1 g2 g3 g4 g5 g6 g7 g8 g9 g10 g11 g12 g13 g14 g15 g16 g17 g18 g19) → va_S A s.heap H locs → lv_has ls 7 [] → f_Ref_quotient_13  g8 g9 = some r0 → W p l e rm_Ref_quotient s m args below meth c H locs 0 0 (MQ below (va_Ql (fun (r : Int64) (_ : Unit) => r = r0.1) (fun _ t => va_P D CLS (wR a q g0 g1 g2 g3 g4 g5 g6 g7 r0.2.1 r0.2.2 g10 g11 g12 g13 g14 g15 g16 g17 g18 g19) t.heap) A) args s 0 0 A) (F0 m 13 ls []) := by
  obtain ⟨hx, hb, hml, hown, hts, hr, hlocks⟩ := id hC
  intro g8 g9 H locs ls hP hD hS hl h
  rw [f_Ref_quotient_13] at h
  refine lv_lconst (v := 0) hx hb (dt_at dt_Ref_quotient 7 rfl) (by decide) ?_
  obtain rfl := os_of h
  exact W.lret (v := (0 : Int64)) hx hb hr (fun t ht hW => ⟨⟨_, (), rfl, rfl, (hPt hP ht)⟩, hS.F ht⟩) hS.2.2 (dt_at dt_Ref_quotient 8 rfl)
set_option maxRecDepth 100000 in
set_option maxHeartbeats 4000000 in
theorem k_Ref_quotient_0 {p : Program} {l : Launch} {e : Env} {s : State} {m : MethodId} {args : Array Value} {below : List Frame} {meth : Method} {c : Code} {D : va_G} {a : Nat → Nat} {q : Nat → ClassId} {A : Nat → Prop} (hC : CX p s m args meth c prog_12_method_20_code 7 "OutwardTapeModel" (some .long)) (hA : ∀ x, s.heap.size ≤ x → A x) (hK : va_K D CLS (tR q) s) {g0 : Int32} {g1 : Nat → Int32} {g2 : Nat → Int64} {g3 : Nat → Int64} {g4 : Nat → Int32} {g5 : Int32} {g6 : Nat → Int32} {g7 : Int32} {g10 : Int64} {g11 : Int64} {g12 : Int32} {g13 : Int32} {g14 : Int32} {g15 : Int64} {g16 : Int32} {g17 : Int32} {g18 : Int64} {g19 : Int32} {r0 : Int64 × (Nat → Int32) × Int32} : ∀ (v1 : Int64) (v3 : Int64) (v5 : Int32) (g8 : Nat → Int32) (g9 : Int32) (H : Heap) (locs : List Loc) (ls : Array Slot), va_P D CLS (wR a q g0 g1 g2 g3 g4 g5 g6 g7 g8 g9 g10 g11 g12 g13 g14 g15 g16 g17 g18 g19) H → va_D A (wR a q g0 g1 g2 g3 g4 g5 g6 g7 g8 g9 g10 g11 g12 g13 g14 g15 g16 g17 g18 g19) → va_S A s.heap H locs → lv_has ls 7 [(0, .ref (a 0)), (1, .long v1), (3, .long v3), (5, .int v5)] → f_Ref_quotient_0  v1 v3 v5 g8 g9 = some r0 → W p l e rm_Ref_quotient s m args below meth c H locs 0 0 (MQ below (va_Ql (fun (r : Int64) (_ : Unit) => r = r0.1) (fun _ t => va_P D CLS (wR a q g0 g1 g2 g3 g4 g5 g6 g7 r0.2.1 r0.2.2 g10 g11 g12 g13 g14 g15 g16 g17 g18 g19) t.heap) A) args s 0 0 A) (F0 m 0 ls []) := by
  obtain ⟨hx, hb, hml, hown, hts, hr, hlocks⟩ := id hC
  intro v1 v3 v5 g8 g9 H locs ls hP hD hS hl h
  rw [f_Ref_quotient_0] at h
  refine lv_lload_n hx hb (dt_at dt_Ref_quotient 0 rfl) rfl (lv_at hl 1 rfl) ?_
  refine lv_lconst (v := 0) hx hb (dt_at dt_Ref_quotient 1 rfl) (by decide) ?_
  refine lc_eq (tgt := 13) hx hb (dt_at dt_Ref_quotient 2 rfl) (dt_at dt_Ref_quotient 3 rfl) (by decide) (fun c1 => ?_) (fun c1 => ?_)
  · have h := if_p h c1
    exact k_Ref_quotient_13 hC hA hK   g8 g9 H locs ls hP hD hS (lv_sub hl [] rfl) h
  · have h := if_n h c1
    refine lv_lload_n hx hb (dt_at dt_Ref_quotient 4 rfl) rfl (lv_at hl 2 rfl) ?_
    obtain ⟨r2, h_r2, h⟩ := ob_of h
    refine vp_callSi (W.runS (As := [.long v3]) (rest := []) ⟨hx, hb, hml, hown, hts⟩ (c_Ref_infinite l v3 r2 h_r2) (va_cwS 1 hts (gd_S (m_4 78 rfl rfl) (m_4 79 rfl rfl) (m_1 4 rfl rfl) (m_4 80 rfl rfl)) rfl rfl rfl (by decide +kernel) ⟨Nat.le_of_ble_eq_true rfl, Nat.le_of_ble_eq_true rfl⟩) ⟨fun _ _ _ _ q => q, fun U hU hW => ⟨rfl, trivial⟩⟩ rfl rfl hl.1 rfl (lv_room (Nat.le_of_ble_eq_true rfl)) (dt_at dt_Ref_quotient 5 rfl) ⟨Nat.le_of_ble_eq_true rfl, Nat.le_of_ble_eq_true rfl⟩) (fun u_r2 q_r2 => ?_)
    obtain rfl : r2 = u_r2 := q_r2.symm
    refine lv_if_eq (tgt := 15) hx hb (dt_at dt_Ref_quotient 6 rfl) (by decide) (fun c3 => ?_) (fun c3 => ?_)
    · have h := if_p h c3
      refine lv_lload_n hx hb (dt_at dt_Ref_quotient 9 rfl) rfl (lv_at hl 1 rfl) ?_
      refine lv_lconst (v := 0) hx hb (dt_at dt_Ref_quotient 10 rfl) (by decide) ?_
      refine lc_ge (tgt := 25) hx hb (dt_at dt_Ref_quotient 11 rfl) (dt_at dt_Ref_quotient 12 rfl) (by decide) (fun c4 => ?_) (fun c4 => ?_)
      · have h := if_p h c4
        refine lv_iconst (v := 0) hx hb (dt_at dt_Ref_quotient 15 rfl) (by decide) ?_
        exact k_Ref_quotient_26 hC hA hK   (0 : Int32) v1 v3 v5 g8 g9 H locs ls hP hD hS (lv_sub hl [0, 1, 2, 3] rfl) h
      · have h := if_n h c4
        refine lv_iconst (v := 1) hx hb (dt_at dt_Ref_quotient 13 rfl) (by decide) ?_
        refine lv_goto (tgt := 26) hx hb (dt_at dt_Ref_quotient 14 rfl) (by decide) ?_
        exact k_Ref_quotient_26 hC hA hK   (1 : Int32) v1 v3 v5 g8 g9 H locs ls hP hD hS (lv_sub hl [0, 1, 2, 3] rfl) h
    · have h := if_n h c3
      exact k_Ref_quotient_13 hC hA hK   g8 g9 H locs ls hP hD hS (lv_sub hl [] rfl) h
set_option maxRecDepth 100000 in
set_option maxHeartbeats 4000000 in
theorem c_Ref_quotient (l : Launch) (D : va_G) (a : Nat → Nat) (q : Nat → ClassId) (hd : va_D (fun _ => True) (dR a)) (sz : Nat) (a1 : Int64) (a3 : Int64) (a5 : Int32) (g0 : Int32) (g1 : Nat → Int32) (g2 : Nat → Int64) (g3 : Nat → Int64) (g4 : Nat → Int32) (g5 : Int32) (g6 : Nat → Int32) (g7 : Int32) (g8 : Nat → Int32) (g9 : Int32) (g10 : Int64) (g11 : Int64) (g12 : Int32) (g13 : Int32) (g14 : Int32) (g15 : Int64) (g16 : Int32) (g17 : Int32) (g18 : Int64) (g19 : Int32) (r0 : Int64 × (Nat → Int32) × Int32) (h : f_Ref_quotient a1 a3 a5 g8 g9 = some r0) : Met l (⟨"OutwardTapeModel", "quotient", "(JJI)J"⟩ : MethodName) (WSm (⟨"OutwardTapeModel", "quotient", "(JJI)J"⟩ : MethodName) prog_12_method_20_code 7 (some .long)) rm_Ref_quotient (va_Pc [.ref (a 0), .long a1, .long a3, .int a5] (fun U => U.heap.size = sz ∧ va_P D CLS (wR a q g0 g1 g2 g3 g4 g5 g6 g7 g8 g9 g10 g11 g12 g13 g14 g15 g16 g17 g18 g19) U.heap ∧ va_K D CLS (tR q) U)) (va_Ql (fun (r : Int64) (_ : Unit) => r = r0.1) (fun _ t => va_P D CLS (wR a q g0 g1 g2 g3 g4 g5 g6 g7 r0.2.1 r0.2.2 g10 g11 g12 g13 g14 g15 g16 g17 g18 g19) t.heap) (va_A (dR a) sz)) 0 0 (va_A (dR a) sz) := by
  refine Met.ofW (cc := prog_12_method_20_code) (maxL := 7) (ret := (some .long)) (by decide) rfl ?_
  intro p e s m args below meth c s₁ B hml hv
  obtain ⟨rfl, hsz, hP, hK⟩ := hv
  subst hsz
  have hC := CX.of B hml rfl
  have hl := lv_entry [.ref (a 0), .long a1, .long a3, .int a5] (n := 7) (Nat.le_of_ble_eq_true rfl)
  rw [lg_entry_eq]
  generalize (lg_sl [.ref (a 0), .long a1, .long a3, .int a5] ++ List.replicate (7 - (lg_sl [.ref (a 0), .long a1, .long a3, .int a5]).length) Slot.unset).toArray = ls at hl ⊢
  have hl : lv_has ls 7 [(0, .ref (a 0)), (1, .long a1), (3, .long a3), (5, .int a5)] := hl
  exact k_Ref_quotient_0 hC (fun x h => Or.inr h) hK a1 a3 a5 g8 g9 s.heap [] ls hP (dD hd.self rfl) va_S.rf (lv_sub hl [0, 1, 2, 3] rfl) h
abbrev rm_Ref_root : Room := { frames := 3, cells := 0, slots := 0, locals := 79 }
set_option maxRecDepth 100000 in
set_option maxHeartbeats 4000000 in
theorem k_Ref_root_186 {p : Program} {l : Launch} {e : Env} {s : State} {m : MethodId} {args : Array Value} {below : List Frame} {meth : Method} {c : Code} {D : va_G} {a : Nat → Nat} {q : Nat → ClassId} {A : Nat → Prop} (hC : CX p s m args meth c prog_12_method_21_code 7 "OutwardTapeModel" (some .long)) (hA : ∀ x, s.heap.size ≤ x → A x) (hK : va_K D CLS (tR q) s) {g0 : Int32} {g1 : Nat → Int32} {g2 : Nat → Int64} {g3 : Nat → Int64} {g4 : Nat → Int32} {g5 : Int32} {g6 : Nat → Int32} {g7 : Int32} {g10 : Int64} {g11 : Int64} {g12 : Int32} {g13 : Int32} {g14 : Int32} {g15 : Int64} {g16 : Int32} {g17 : Int32} {g18 : Int64} {g19 : Int32} {r0 : Int64 × (Nat → Int32) × Int32} : ∀ (s0 : Int32) (v3 : Int32) (v4 : Int32) (v5 : Int32) (g8 : Nat → Int32) (g9 : Int32) (H : Heap) (locs : List Loc) (ls : Array Slot), va_P D CLS (wR a q g0 g1 g2 g3 g4 g5 g6 g7 g8 g9 g10 g11 g12 g13 g14 g15 g16 g17 g18 g19) H → va_D A (wR a q g0 g1 g2 g3 g4 g5 g6 g7 g8 g9 g10 g11 g12 g13 g14 g15 g16 g17 g18 g19) → va_S A s.heap H locs → lv_has ls 7 [(0, .ref (a 0)), (3, .int v3), (4, .int v4), (5, .int v5)] → f_Ref_root_186  s0 v3 v4 v5 g8 g9 = some r0 → W p l e rm_Ref_root s m args below meth c H locs 0 0 (MQ below (va_Ql (fun (r : Int64) (_ : Unit) => r = r0.1) (fun _ t => va_P D CLS (wR a q g0 g1 g2 g3 g4 g5 g6 g7 r0.2.1 r0.2.2 g10 g11 g12 g13 g14 g15 g16 g17 g18 g19) t.heap) A) args s 0 0 A) (F0 m 186 ls [.int s0, .ref (a 0)]) := by
  obtain ⟨hx, hb, hml, hown, hts, hr, hlocks⟩ := id hC
  intro s0 v3 v4 v5 g8 g9 H locs ls hP hD hS hl h
  rw [f_Ref_root_186] at h
  obtain ⟨z1, h⟩ := og_of h
  refine va_put (D := D) (ci := 0) (v := .int s0) (ty := .boolean) (C := "OutwardTapeModel") (T := T_Ref) (N := 20) hx hb hts in_Ref ty_Ref tk_Ref nm_Ref hown hK hP hD hS 0 rfl rfl 9 (by decide) (hts (Cond.fieldLink "OutwardTapeModel" 65 "OutwardTapeModel" "over" "Z") (m_4 8 rfl rfl)) (fun _ h9 => h9) rfl (by decide +kernel) (j_z_nar z1) (j_z_fit z1) (Nat.le_of_ble_eq_true rfl) (dt_at dt_Ref_root 109 rfl) (fun H locs hP hD hS => ?_)
  have hP : va_P D CLS (wR a q g0 g1 g2 g3 g4 g5 g6 g7 g8 s0 g10 g11 g12 g13 g14 g15 g16 g17 g18 g19) H := hP
  have hD : va_D A (wR a q g0 g1 g2 g3 g4 g5 g6 g7 g8 s0 g10 g11 g12 g13 g14 g15 g16 g17 g18 g19) := hD
  refine lv_aload_n hx hb (dt_at dt_Ref_root 110 rfl) rfl (lv_at hl 0 rfl) ?_
  refine lv_iconst (v := 0) hx hb (dt_at dt_Ref_root 111 rfl) (by decide) ?_
  refine lv_iconst (v := 2) hx hb (dt_at dt_Ref_root 112 rfl) (by decide) ?_
  obtain ⟨r2, h_r2, h⟩ := ob_of h
  have hF := va_free (wc := dR a) (dD (ws' := dR a) hD rfl) hS hA [0, 1, 2, 3, 4, 5, 6] rfl
  have hd : va_D (fun _ => True) (dR a) := (dD (ws' := dR a) hD rfl).weaken (fun _ _ _ _ => trivial)
  refine va_callv (va_runV (As := [.int (0 : Int32), .int (2 : Int32)]) (rest := []) ⟨hx, hb, hml, hown, hts⟩ (c_Ref_copy l D a q hd H.size (0 : Int32) (2 : Int32) g0 g1 g2 g3 g4 g5 g6 g7 g8 s0 g10 g11 g12 g13 g14 g15 g16 g17 g18 g19 r2 h_r2) (cwV 2 hts (gd_V (m_4 168 rfl rfl) (m_4 170 rfl rfl) (m_s 36 rfl rfl) (m_1 4 rfl rfl) (m_4 171 rfl rfl)) rfl rfl rfl (by decide +kernel) ⟨Nat.le_of_ble_eq_true rfl, Nat.le_of_ble_eq_true rfl⟩) ⟨fun a U g mk q => ⟨q.1, q.2.1, q.2.2.1, va_K.moved (u := U) (U := U.calling g mk a) (Vm.Alike.refl U.vm) q.2.2.2⟩, va_recv hK hP (ci := 0) (q0 := 0) rfl rfl, fun U hU hW => ⟨rfl, by rw [hU], by rw [hU]; exact hP, va_K.moved hW.alike hK⟩⟩ rfl rfl hl.1 rfl (lv_room (Nat.le_of_ble_eq_true rfl)) (dt_at dt_Ref_root 113 rfl) ⟨Nat.le_of_ble_eq_true rfl, Nat.le_of_ble_eq_true rfl⟩) hS (fun x _ h9 => hF x h9) hF (fun uu t H locs ht hvm hw hB hz1 hk1 hS => ?_)
  rw [ht] at hB
  have hP : va_P D CLS (wR a q g0 g1 g2 g3 g4 g5 g6 g7 r2 s0 g10 g11 g12 g13 g14 g15 g16 g17 g18 g19) H := hB
  have hD : va_D A (wR a q g0 g1 g2 g3 g4 g5 g6 g7 r2 s0 g10 g11 g12 g13 g14 g15 g16 g17 g18 g19) := dD hD rfl
  refine lv_aload_n hx hb (dt_at dt_Ref_root 114 rfl) rfl (lv_at hl 0 rfl) ?_
  refine lv_iconst (v := 0) hx hb (dt_at dt_Ref_root 115 rfl) (by decide) ?_
  refine lv_iload hx hb (dt_at dt_Ref_root 116 rfl) (lv_at hl 2 rfl) ?_
  refine lv_iload hx hb (dt_at dt_Ref_root 117 rfl) (lv_at hl 3 rfl) ?_
  refine lv_isub hx hb (dt_at dt_Ref_root 118 rfl) ?_
  refine lv_iconst (v := 2) hx hb (dt_at dt_Ref_root 119 rfl) (by decide) ?_
  refine lv_idiv hx hb (dt_at dt_Ref_root 120 rfl) (by decide) ?_
  refine lv_iload_n hx hb (dt_at dt_Ref_root 121 rfl) rfl (lv_at hl 1 rfl) ?_
  obtain ⟨r3, h_r3, h⟩ := ob_of h
  have hF := va_free (wc := dR a) (dD (ws' := dR a) hD rfl) hS hA [0, 1, 2, 3, 4, 5, 6] rfl
  have hd : va_D (fun _ => True) (dR a) := (dD (ws' := dR a) hD rfl).weaken (fun _ _ _ _ => trivial)
  refine va_calll (va_runV (As := [.int (0 : Int32), .int ((v4 - v5) / (2 : Int32)), .int v3]) (rest := []) ⟨hx, hb, hml, hown, hts⟩ (c_Ref_rounded l D a q hd H.size (0 : Int32) ((v4 - v5) / (2 : Int32)) v3 g0 g1 g2 g3 g4 g5 g6 g7 r2 s0 g10 g11 g12 g13 g14 g15 g16 g17 g18 g19 r3 h_r3) (cwV 3 hts (gd_V (m_4 149 rfl rfl) (m_4 151 rfl rfl) (m_s 32 rfl rfl) (m_1 4 rfl rfl) (m_4 152 rfl rfl)) rfl rfl rfl (by decide +kernel) ⟨Nat.le_of_ble_eq_true rfl, Nat.le_of_ble_eq_true rfl⟩) ⟨fun a U g mk q => ⟨q.1, q.2.1, q.2.2.1, va_K.moved (u := U) (U := U.calling g mk a) (Vm.Alike.refl U.vm) q.2.2.2⟩, va_recv hK hP (ci := 0) (q0 := 0) rfl rfl, fun U hU hW => ⟨rfl, by rw [hU], by rw [hU]; exact hP, va_K.moved hW.alike hK⟩⟩ rfl rfl hl.1 rfl (lv_room (Nat.le_of_ble_eq_true rfl)) (dt_at dt_Ref_root 122 rfl) ⟨Nat.le_of_ble_eq_true rfl, Nat.le_of_ble_eq_true rfl⟩) hS (fun x _ h9 => hF x h9) hF (fun u_r3 uu t H locs ht hvm hw hB hz1 hk1 hS => ?_)
  rw [ht] at hB
  obtain rfl : r3 = u_r3 := hw.symm
  have hP : va_P D CLS (wR a q g0 g1 g2 g3 g4 g5 g6 g7 r2 s0 g10 g11 g12 g13 g14 g15 g16 g17 g18 g19) H := hB
  have hD : va_D A (wR a q g0 g1 g2 g3 g4 g5 g6 g7 r2 s0 g10 g11 g12 g13 g14 g15 g16 g17 g18 g19) := dD hD rfl
  obtain rfl := os_of h
  exact W.lret (v := r3) hx hb hr (fun t ht hW => ⟨⟨_, (), rfl, rfl, (hPt hP ht)⟩, hS.F ht⟩) hS.2.2 (dt_at dt_Ref_root 123 rfl)
set_option maxRecDepth 100000 in
set_option maxHeartbeats 4000000 in
theorem k_Ref_root_158 {p : Program} {l : Launch} {e : Env} {s : State} {m : MethodId} {args : Array Value} {below : List Frame} {meth : Method} {c : Code} {D : va_G} {a : Nat → Nat} {q : Nat → ClassId} {A : Nat → Prop} (hC : CX p s m args meth c prog_12_method_21_code 7 "OutwardTapeModel" (some .long)) (hA : ∀ x, s.heap.size ≤ x → A x) (hK : va_K D CLS (tR q) s) {g0 : Int32} {g1 : Nat → Int32} {g2 : Nat → Int64} {g3 : Nat → Int64} {g4 : Nat → Int32} {g5 : Int32} {g6 : Nat → Int32} {g7 : Int32} {g10 : Int64} {g11 : Int64} {g12 : Int32} {g13 : Int32} {g14 : Int32} {g15 : Int64} {g16 : Int32} {g17 : Int32} {g18 : Int64} {g19 : Int32} {r0 : Int64 × (Nat → Int32) × Int32} (k63 : Int32 → Int32 → Int32 → Int32 → (Nat → Int32) → Int32 → Option (Int64 × (Nat → Int32) × Int32)) (hk63 : ∀ (v3 : Int32) (v4 : Int32) (v5 : Int32) (v6 : Int32) (g8 : Nat → Int32) (g9 : Int32) (H : Heap) (locs : List Loc) (ls : Array Slot), va_P D CLS (wR a q g0 g1 g2 g3 g4 g5 g6 g7 g8 g9 g10 g11 g12 g13 g14 g15 g16 g17 g18 g19) H → va_D A (wR a q g0 g1 g2 g3 g4 g5 g6 g7 g8 g9 g10 g11 g12 g13 g14 g15 g16 g17 g18 g19) → va_S A s.heap H locs → lv_has ls 7 [(0, .ref (a 0)), (3, .int v3), (4, .int v4), (5, .int v5), (6, .int v6)] → k63 v3 v4 v5 v6 g8 g9 = some r0 → W p l e rm_Ref_root s m args below meth c H locs 0 0 (MQ below (va_Ql (fun (r : Int64) (_ : Unit) => r = r0.1) (fun _ t => va_P D CLS (wR a q g0 g1 g2 g3 g4 g5 g6 g7 r0.2.1 r0.2.2 g10 g11 g12 g13 g14 g15 g16 g17 g18 g19) t.heap) A) args s 0 0 A) (F0 m 63 ls [])) : ∀ (v3 : Int32) (v4 : Int32) (v5 : Int32) (v6 : Int32) (g8 : Nat → Int32) (g9 : Int32) (H : Heap) (locs : List Loc) (ls : Array Slot), va_P D CLS (wR a q g0 g1 g2 g3 g4 g5 g6 g7 g8 g9 g10 g11 g12 g13 g14 g15 g16 g17 g18 g19) H → va_D A (wR a q g0 g1 g2 g3 g4 g5 g6 g7 g8 g9 g10 g11 g12 g13 g14 g15 g16 g17 g18 g19) → va_S A s.heap H locs → lv_has ls 7 [(0, .ref (a 0)), (3, .int v3), (4, .int v4), (5, .int v5), (6, .int v6)] → f_Ref_root_158 k63 v3 v4 v5 v6 g8 g9 = some r0 → W p l e rm_Ref_root s m args below meth c H locs 0 0 (MQ below (va_Ql (fun (r : Int64) (_ : Unit) => r = r0.1) (fun _ t => va_P D CLS (wR a q g0 g1 g2 g3 g4 g5 g6 g7 r0.2.1 r0.2.2 g10 g11 g12 g13 g14 g15 g16 g17 g18 g19) t.heap) A) args s 0 0 A) (F0 m 158 ls []) := by
  obtain ⟨hx, hb, hml, hown, hts, hr, hlocks⟩ := id hC
  intro v3 v4 v5 v6 g8 g9 H locs ls hP hD hS hl h
  rw [f_Ref_root_158] at h
  obtain ⟨t1, e_t1, h⟩ := ol_of h
  refine lv_iinc (v := t1) (lv' := [(6, .int t1), (0, .ref (a 0)), (3, .int v3), (4, .int v4), (5, .int v5)]) hx hb (dt_at dt_Ref_root 93 rfl) hl (k := 4) rfl (by rw [e_t1]; rfl) (by decide) rfl (fun ls hl => ?_)
  refine lv_goto (tgt := 63) hx hb (dt_at dt_Ref_root 94 rfl) (by decide) ?_
  exact hk63 v3 v4 v5 t1 g8 g9 H locs ls hP hD hS (lv_sub hl [1, 2, 3, 4, 0] rfl) h
set_option maxRecDepth 100000 in
set_option maxHeartbeats 4000000 in
theorem k_Ref_root_63 {p : Program} {l : Launch} {e : Env} {s : State} {m : MethodId} {args : Array Value} {below : List Frame} {meth : Method} {c : Code} {D : va_G} {a : Nat → Nat} {q : Nat → ClassId} {A : Nat → Prop} (hC : CX p s m args meth c prog_12_method_21_code 7 "OutwardTapeModel" (some .long)) (hA : ∀ x, s.heap.size ≤ x → A x) (hK : va_K D CLS (tR q) s) {g0 : Int32} {g1 : Nat → Int32} {g2 : Nat → Int64} {g3 : Nat → Int64} {g4 : Nat → Int32} {g5 : Int32} {g6 : Nat → Int32} {g7 : Int32} {g10 : Int64} {g11 : Int64} {g12 : Int32} {g13 : Int32} {g14 : Int32} {g15 : Int64} {g16 : Int32} {g17 : Int32} {g18 : Int64} {g19 : Int32} {r0 : Int64 × (Nat → Int32) × Int32} : ∀ n : Nat, ∀ (v3 : Int32) (v4 : Int32) (v5 : Int32) (v6 : Int32) (g8 : Nat → Int32) (g9 : Int32) (H : Heap) (locs : List Loc) (ls : Array Slot), va_P D CLS (wR a q g0 g1 g2 g3 g4 g5 g6 g7 g8 g9 g10 g11 g12 g13 g14 g15 g16 g17 g18 g19) H → va_D A (wR a q g0 g1 g2 g3 g4 g5 g6 g7 g8 g9 g10 g11 g12 g13 g14 g15 g16 g17 g18 g19) → va_S A s.heap H locs → lv_has ls 7 [(0, .ref (a 0)), (3, .int v3), (4, .int v4), (5, .int v5), (6, .int v6)] → f_Ref_root_63  n v3 v4 v5 v6 g8 g9 = some r0 → W p l e rm_Ref_root s m args below meth c H locs 0 0 (MQ below (va_Ql (fun (r : Int64) (_ : Unit) => r = r0.1) (fun _ t => va_P D CLS (wR a q g0 g1 g2 g3 g4 g5 g6 g7 r0.2.1 r0.2.2 g10 g11 g12 g13 g14 g15 g16 g17 g18 g19) t.heap) A) args s 0 0 A) (F0 m 63 ls []) := by
  obtain ⟨hx, hb, hml, hown, hts, hr, hlocks⟩ := id hC
  intro n
  induction n with
  | zero => intro v3 v4 v5 v6 g8 g9 H locs ls hP hD hS hl h; cases h
  | succ n ih =>
    intro v3 v4 v5 v6 g8 g9 H locs ls hP hD hS hl h
    rw [f_Ref_root_63] at h
    refine lv_iload hx hb (dt_at dt_Ref_root 35 rfl) (lv_at hl 4 rfl) ?_
    refine lv_if_lt (tgt := 164) hx hb (dt_at dt_Ref_root 36 rfl) (by decide) (fun c1 => ?_) (fun c1 => ?_)
    · have h := if_p h c1
      refine lv_aload_n hx hb (dt_at dt_Ref_root 95 rfl) rfl (lv_at hl 0 rfl) ?_
      refine lv_iconst (v := 3) hx hb (dt_at dt_Ref_root 96 rfl) (by decide) ?_
      refine lv_iconst (v := 2) hx hb (dt_at dt_Ref_root 97 rfl) (by decide) ?_
      refine lv_iconst (v := 2) hx hb (dt_at dt_Ref_root 98 rfl) (by decide) ?_
      obtain ⟨r2, h_r2, h⟩ := ob_of h
      have hF := va_free (wc := dR a) (dD (ws' := dR a) hD rfl) hS hA [0, 1, 2, 3, 4, 5, 6] rfl
      have hd : va_D (fun _ => True) (dR a) := (dD (ws' := dR a) hD rfl).weaken (fun _ _ _ _ => trivial)
      refine va_callv (va_runV (As := [.int (3 : Int32), .int (2 : Int32), .int (2 : Int32)]) (rest := []) ⟨hx, hb, hml, hown, hts⟩ (c_Ref_times l D a q hd H.size (3 : Int32) (2 : Int32) (2 : Int32) g0 g1 g2 g3 g4 g5 g6 g7 g8 g9 g10 g11 g12 g13 g14 g15 g16 g17 g18 g19 r2 h_r2) (cwV 3 hts (gd_V (m_4 134 rfl rfl) (m_4 136 rfl rfl) (m_s 29 rfl rfl) (m_1 4 rfl rfl) (m_4 137 rfl rfl)) rfl rfl rfl (by decide +kernel) ⟨Nat.le_of_ble_eq_true rfl, Nat.le_of_ble_eq_true rfl⟩) ⟨fun a U g mk q => ⟨q.1, q.2.1, q.2.2.1, va_K.moved (u := U) (U := U.calling g mk a) (Vm.Alike.refl U.vm) q.2.2.2⟩, va_recv hK hP (ci := 0) (q0 := 0) rfl rfl, fun U hU hW => ⟨rfl, by rw [hU], by rw [hU]; exact hP, va_K.moved hW.alike hK⟩⟩ rfl rfl hl.1 rfl (lv_room (Nat.le_of_ble_eq_true rfl)) (dt_at dt_Ref_root 99 rfl) ⟨Nat.le_of_ble_eq_true rfl, Nat.le_of_ble_eq_true rfl⟩) hS (fun x _ h9 => hF x h9) hF (fun uu t H locs ht hvm hw hB hz1 hk1 hS => ?_)
      rw [ht] at hB
      have hP : va_P D CLS (wR a q g0 g1 g2 g3 g4 g5 g6 g7 r2 g9 g10 g11 g12 g13 g14 g15 g16 g17 g18 g19) H := hB
      have hD : va_D A (wR a q g0 g1 g2 g3 g4 g5 g6 g7 r2 g9 g10 g11 g12 g13 g14 g15 g16 g17 g18 g19) := dD hD rfl
      refine lv_aload_n hx hb (dt_at dt_Ref_root 100 rfl) rfl (lv_at hl 0 rfl) ?_
      refine lv_aload_n hx hb (dt_at dt_Ref_root 101 rfl) rfl (lv_at hl 0 rfl) ?_
      refine lv_iconst (v := 3) hx hb (dt_at dt_Ref_root 102 rfl) (by decide) ?_
      refine lv_iconst (v := 1) hx hb (dt_at dt_Ref_root 103 rfl) (by decide) ?_
      obtain ⟨r3, h_r3, h⟩ := ob_of h
      have hF := va_free (wc := dR a) (dD (ws' := dR a) hD rfl) hS hA [0, 1, 2, 3, 4, 5, 6] rfl
      have hd : va_D (fun _ => True) (dR a) := (dD (ws' := dR a) hD rfl).weaken (fun _ _ _ _ => trivial)
      refine va_calli (va_runV (As := [.int (3 : Int32), .int (1 : Int32)]) (rest := [.ref (a 0)]) ⟨hx, hb, hml, hown, hts⟩ (c_Ref_compare l D a q hd H.size (3 : Int32) (1 : Int32) g0 g1 g2 g3 g4 g5 g6 g7 r2 g9 g10 g11 g12 g13 g14 g15 g16 g17 g18 g19 r3 h_r3) (cwV 2 hts (gd_V (m_4 164 rfl rfl) (m_4 166 rfl rfl) (m_s 35 rfl rfl) (m_1 4 rfl rfl) (m_4 167 rfl rfl)) rfl rfl rfl (by decide +kernel) ⟨Nat.le_of_ble_eq_true rfl, Nat.le_of_ble_eq_true rfl⟩) ⟨fun a U g mk q => ⟨q.1, q.2.1, q.2.2.1, va_K.moved (u := U) (U := U.calling g mk a) (Vm.Alike.refl U.vm) q.2.2.2⟩, va_recv hK hP (ci := 0) (q0 := 0) rfl rfl, fun U hU hW => ⟨rfl, by rw [hU], by rw [hU]; exact hP, va_K.moved hW.alike hK⟩⟩ rfl rfl hl.1 rfl (lv_room (Nat.le_of_ble_eq_true rfl)) (dt_at dt_Ref_root 104 rfl) ⟨Nat.le_of_ble_eq_true rfl, Nat.le_of_ble_eq_true rfl⟩) hS (fun x _ h9 => hF x h9) hF (fun u_r3 uu t H locs ht hvm hw hB hz1 hk1 hS => ?_)
      rw [ht] at hB
      obtain rfl : r3 = u_r3 := hw.symm
      have hP : va_P D CLS (wR a q g0 g1 g2 g3 g4 g5 g6 g7 r2 g9 g10 g11 g12 g13 g14 g15 g16 g17 g18 g19) H := hB
      have hD : va_D A (wR a q g0 g1 g2 g3 g4 g5 g6 g7 r2 g9 g10 g11 g12 g13 g14 g15 g16 g17 g18 g19) := dD hD rfl
      refine lv_if_eq (tgt := 185) hx hb (dt_at dt_Ref_root 105 rfl) (by decide) (fun c4 => ?_) (fun c4 => ?_)
      · have h := if_p h c4
        refine lv_iconst (v := 0) hx hb (dt_at dt_Ref_root 108 rfl) (by decide) ?_
        exact k_Ref_root_186 hC hA hK   (0 : Int32) v3 v4 v5 r2 g9 H locs ls hP hD hS (lv_sub hl [0, 1, 2, 3] rfl) h
      · have h := if_n h c4
        refine lv_iconst (v := 1) hx hb (dt_at dt_Ref_root 106 rfl) (by decide) ?_
        refine lv_goto (tgt := 186) hx hb (dt_at dt_Ref_root 107 rfl) (by decide) ?_
        exact k_Ref_root_186 hC hA hK   (1 : Int32) v3 v4 v5 r2 g9 H locs ls hP hD hS (lv_sub hl [0, 1, 2, 3] rfl) h
    · have h := if_n h c1
      refine lv_aload_n hx hb (dt_at dt_Ref_root 37 rfl) rfl (lv_at hl 0 rfl) ?_
      refine va_get (D := D) (ci := 0) (v := .ref (a 6)) (C := "OutwardTapeModel") (T := T_Ref) (N := 20) hx hb hts in_Ref hown hK hP 0 rfl rfl 8 (by decide) (hts (Cond.fieldLink "OutwardTapeModel" 26 "OutwardTapeModel" "limb" "[I") (m_4 7 rfl rfl)) (fun _ h9 => h9) rfl (dt_at dt_Ref_root 38 rfl) ?_
      refine lv_sipush (v := 320) hx hb (dt_at dt_Ref_root 39 rfl) (by decide) ?_
      refine lv_iload hx hb (dt_at dt_Ref_root 40 rfl) (lv_at hl 4 rfl) ?_
      refine lv_bipush (v := 16) hx hb (dt_at dt_Ref_root 41 rfl) (by decide) ?_
      refine lv_idiv hx hb (dt_at dt_Ref_root 42 rfl) (by decide) ?_
      refine lv_iadd hx hb (dt_at dt_Ref_root 43 rfl) ?_
      refine lv_aload_n hx hb (dt_at dt_Ref_root 44 rfl) rfl (lv_at hl 0 rfl) ?_
      refine va_get (D := D) (ci := 0) (v := .ref (a 6)) (C := "OutwardTapeModel") (T := T_Ref) (N := 20) hx hb hts in_Ref hown hK hP 0 rfl rfl 8 (by decide) (hts (Cond.fieldLink "OutwardTapeModel" 26 "OutwardTapeModel" "limb" "[I") (m_4 7 rfl rfl)) (fun _ h9 => h9) rfl (dt_at dt_Ref_root 45 rfl) ?_
      refine lv_sipush (v := 320) hx hb (dt_at dt_Ref_root 46 rfl) (by decide) ?_
      refine lv_iload hx hb (dt_at dt_Ref_root 47 rfl) (lv_at hl 4 rfl) ?_
      refine lv_bipush (v := 16) hx hb (dt_at dt_Ref_root 48 rfl) (by decide) ?_
      refine lv_idiv hx hb (dt_at dt_Ref_root 49 rfl) (by decide) ?_
      refine lv_iadd hx hb (dt_at dt_Ref_root 50 rfl) ?_
      obtain ⟨z5, h⟩ := og_of h
      refine va_iald hx hb hK hP 6 5 rfl rfl z5 (dt_at dt_Ref_root 51 rfl) ?_
      refine lv_iconst (v := 1) hx hb (dt_at dt_Ref_root 52 rfl) (by decide) ?_
      refine lv_iload hx hb (dt_at dt_Ref_root 53 rfl) (lv_at hl 4 rfl) ?_
      refine lv_bipush (v := 16) hx hb (dt_at dt_Ref_root 54 rfl) (by decide) ?_
      refine lv_irem hx hb (dt_at dt_Ref_root 55 rfl) (by decide) ?_
      refine lv_ishl hx hb (dt_at dt_Ref_root 56 rfl) ?_
      refine lv_ior hx hb (dt_at dt_Ref_root 57 rfl) ?_
      obtain ⟨z6, h⟩ := og_of h
      obtain ⟨t7, e_t7, h⟩ := ol_of h
      refine va_iast hx hb hK hP hD hS 6 5 rfl rfl z6 (dt_at dt_Ref_root 58 rfl) (fun H locs hP hD hS => ?_)
      have hP : va_P D CLS (wR a q g0 g1 g2 g3 g4 g5 g6 g7 t7 g9 g10 g11 g12 g13 g14 g15 g16 g17 g18 g19) H := by rw [e_t7]; exact hP
      have hD : va_D A (wR a q g0 g1 g2 g3 g4 g5 g6 g7 t7 g9 g10 g11 g12 g13 g14 g15 g16 g17 g18 g19) := dD hD rfl
      refine lv_aload_n hx hb (dt_at dt_Ref_root 59 rfl) rfl (lv_at hl 0 rfl) ?_
      refine lv_iconst (v := 3) hx hb (dt_at dt_Ref_root 60 rfl) (by decide) ?_
      refine lv_iconst (v := 2) hx hb (dt_at dt_Ref_root 61 rfl) (by decide) ?_
      refine lv_iconst (v := 2) hx hb (dt_at dt_Ref_root 62 rfl) (by decide) ?_
      obtain ⟨r8, h_r8, h⟩ := ob_of h
      have hF := va_free (wc := dR a) (dD (ws' := dR a) hD rfl) hS hA [0, 1, 2, 3, 4, 5, 6] rfl
      have hd : va_D (fun _ => True) (dR a) := (dD (ws' := dR a) hD rfl).weaken (fun _ _ _ _ => trivial)
      refine va_callv (va_runV (As := [.int (3 : Int32), .int (2 : Int32), .int (2 : Int32)]) (rest := []) ⟨hx, hb, hml, hown, hts⟩ (c_Ref_times l D a q hd H.size (3 : Int32) (2 : Int32) (2 : Int32) g0 g1 g2 g3 g4 g5 g6 g7 t7 g9 g10 g11 g12 g13 g14 g15 g16 g17 g18 g19 r8 h_r8) (cwV 3 hts (gd_V (m_4 134 rfl rfl) (m_4 136 rfl rfl) (m_s 29 rfl rfl) (m_1 4 rfl rfl) (m_4 137 rfl rfl)) rfl rfl rfl (by decide +kernel) ⟨Nat.le_of_ble_eq_true rfl, Nat.le_of_ble_eq_true rfl⟩) ⟨fun a U g mk q => ⟨q.1, q.2.1, q.2.2.1, va_K.moved (u := U) (U := U.calling g mk a) (Vm.Alike.refl U.vm) q.2.2.2⟩, va_recv hK hP (ci := 0) (q0 := 0) rfl rfl, fun U hU hW => ⟨rfl, by rw [hU], by rw [hU]; exact hP, va_K.moved hW.alike hK⟩⟩ rfl rfl hl.1 rfl (lv_room (Nat.le_of_ble_eq_true rfl)) (dt_at dt_Ref_root 63 rfl) ⟨Nat.le_of_ble_eq_true rfl, Nat.le_of_ble_eq_true rfl⟩) hS (fun x _ h9 => hF x h9) hF (fun uu t H locs ht hvm hw hB hz1 hk1 hS => ?_)
      rw [ht] at hB
      have hP : va_P D CLS (wR a q g0 g1 g2 g3 g4 g5 g6 g7 r8 g9 g10 g11 g12 g13 g14 g15 g16 g17 g18 g19) H := hB
      have hD : va_D A (wR a q g0 g1 g2 g3 g4 g5 g6 g7 r8 g9 g10 g11 g12 g13 g14 g15 g16 g17 g18 g19) := dD hD rfl
      refine lv_aload_n hx hb (dt_at dt_Ref_root 64 rfl) rfl (lv_at hl 0 rfl) ?_
      refine lv_iconst (v := 3) hx hb (dt_at dt_Ref_root 65 rfl) (by decide) ?_
      refine lv_iconst (v := 1) hx hb (dt_at dt_Ref_root 66 rfl) (by decide) ?_
      obtain ⟨r9, h_r9, h⟩ := ob_of h
      have hF := va_free (wc := dR a) (dD (ws' := dR a) hD rfl) hS hA [0, 1, 2, 3, 4, 5, 6] rfl
      have hd : va_D (fun _ => True) (dR a) := (dD (ws' := dR a) hD rfl).weaken (fun _ _ _ _ => trivial)
      refine va_calli (va_runV (As := [.int (3 : Int32), .int (1 : Int32)]) (rest := []) ⟨hx, hb, hml, hown, hts⟩ (c_Ref_compare l D a q hd H.size (3 : Int32) (1 : Int32) g0 g1 g2 g3 g4 g5 g6 g7 r8 g9 g10 g11 g12 g13 g14 g15 g16 g17 g18 g19 r9 h_r9) (cwV 2 hts (gd_V (m_4 164 rfl rfl) (m_4 166 rfl rfl) (m_s 35 rfl rfl) (m_1 4 rfl rfl) (m_4 167 rfl rfl)) rfl rfl rfl (by decide +kernel) ⟨Nat.le_of_ble_eq_true rfl, Nat.le_of_ble_eq_true rfl⟩) ⟨fun a U g mk q => ⟨q.1, q.2.1, q.2.2.1, va_K.moved (u := U) (U := U.calling g mk a) (Vm.Alike.refl U.vm) q.2.2.2⟩, va_recv hK hP (ci := 0) (q0 := 0) rfl rfl, fun U hU hW => ⟨rfl, by rw [hU], by rw [hU]; exact hP, va_K.moved hW.alike hK⟩⟩ rfl rfl hl.1 rfl (lv_room (Nat.le_of_ble_eq_true rfl)) (dt_at dt_Ref_root 67 rfl) ⟨Nat.le_of_ble_eq_true rfl, Nat.le_of_ble_eq_true rfl⟩) hS (fun x _ h9 => hF x h9) hF (fun u_r9 uu t H locs ht hvm hw hB hz1 hk1 hS => ?_)
      rw [ht] at hB
      obtain rfl : r9 = u_r9 := hw.symm
      have hP : va_P D CLS (wR a q g0 g1 g2 g3 g4 g5 g6 g7 r8 g9 g10 g11 g12 g13 g14 g15 g16 g17 g18 g19) H := hB
      have hD : va_D A (wR a q g0 g1 g2 g3 g4 g5 g6 g7 r8 g9 g10 g11 g12 g13 g14 g15 g16 g17 g18 g19) := dD hD rfl
      refine lv_if_le (tgt := 158) hx hb (dt_at dt_Ref_root 68 rfl) (by decide) (fun c10 => ?_) (fun c10 => ?_)
      · have h := if_p h c10
        exact k_Ref_root_158 hC hA hK (f_Ref_root_63  n) ih  v3 v4 v5 v6 r8 g9 H locs ls hP hD hS (lv_sub hl [0, 1, 2, 3, 4] rfl) h
      · have h := if_n h c10
        refine lv_aload_n hx hb (dt_at dt_Ref_root 69 rfl) rfl (lv_at hl 0 rfl) ?_
        refine va_get (D := D) (ci := 0) (v := .ref (a 6)) (C := "OutwardTapeModel") (T := T_Ref) (N := 20) hx hb hts in_Ref hown hK hP 0 rfl rfl 8 (by decide) (hts (Cond.fieldLink "OutwardTapeModel" 26 "OutwardTapeModel" "limb" "[I") (m_4 7 rfl rfl)) (fun _ h9 => h9) rfl (dt_at dt_Ref_root 70 rfl) ?_
        refine lv_sipush (v := 320) hx hb (dt_at dt_Ref_root 71 rfl) (by decide) ?_
        refine lv_iload hx hb (dt_at dt_Ref_root 72 rfl) (lv_at hl 4 rfl) ?_
        refine lv_bipush (v := 16) hx hb (dt_at dt_Ref_root 73 rfl) (by decide) ?_
        refine lv_idiv hx hb (dt_at dt_Ref_root 74 rfl) (by decide) ?_
        refine lv_iadd hx hb (dt_at dt_Ref_root 75 rfl) ?_
        refine lv_aload_n hx hb (dt_at dt_Ref_root 76 rfl) rfl (lv_at hl 0 rfl) ?_
        refine va_get (D := D) (ci := 0) (v := .ref (a 6)) (C := "OutwardTapeModel") (T := T_Ref) (N := 20) hx hb hts in_Ref hown hK hP 0 rfl rfl 8 (by decide) (hts (Cond.fieldLink "OutwardTapeModel" 26 "OutwardTapeModel" "limb" "[I") (m_4 7 rfl rfl)) (fun _ h9 => h9) rfl (dt_at dt_Ref_root 77 rfl) ?_
        refine lv_sipush (v := 320) hx hb (dt_at dt_Ref_root 78 rfl) (by decide) ?_
        refine lv_iload hx hb (dt_at dt_Ref_root 79 rfl) (lv_at hl 4 rfl) ?_
        refine lv_bipush (v := 16) hx hb (dt_at dt_Ref_root 80 rfl) (by decide) ?_
        refine lv_idiv hx hb (dt_at dt_Ref_root 81 rfl) (by decide) ?_
        refine lv_iadd hx hb (dt_at dt_Ref_root 82 rfl) ?_
        obtain ⟨z11, h⟩ := og_of h
        refine va_iald hx hb hK hP 6 5 rfl rfl z11 (dt_at dt_Ref_root 83 rfl) ?_
        refine lv_iconst (v := 1) hx hb (dt_at dt_Ref_root 84 rfl) (by decide) ?_
        refine lv_iload hx hb (dt_at dt_Ref_root 85 rfl) (lv_at hl 4 rfl) ?_
        refine lv_bipush (v := 16) hx hb (dt_at dt_Ref_root 86 rfl) (by decide) ?_
        refine lv_irem hx hb (dt_at dt_Ref_root 87 rfl) (by decide) ?_
        refine lv_ishl hx hb (dt_at dt_Ref_root 88 rfl) ?_
        refine lv_iconst (v := -1) hx hb (dt_at dt_Ref_root 89 rfl) (by decide) ?_
        refine lv_ixor hx hb (dt_at dt_Ref_root 90 rfl) ?_
        refine lv_iand hx hb (dt_at dt_Ref_root 91 rfl) ?_
        obtain ⟨z12, h⟩ := og_of h
        obtain ⟨t13, e_t13, h⟩ := ol_of h
        refine va_iast hx hb hK hP hD hS 6 5 rfl rfl z12 (dt_at dt_Ref_root 92 rfl) (fun H locs hP hD hS => ?_)
        have hP : va_P D CLS (wR a q g0 g1 g2 g3 g4 g5 g6 g7 t13 g9 g10 g11 g12 g13 g14 g15 g16 g17 g18 g19) H := by rw [e_t13]; exact hP
        have hD : va_D A (wR a q g0 g1 g2 g3 g4 g5 g6 g7 t13 g9 g10 g11 g12 g13 g14 g15 g16 g17 g18 g19) := dD hD rfl
        exact k_Ref_root_158 hC hA hK (f_Ref_root_63  n) ih  v3 v4 v5 v6 t13 g9 H locs ls hP hD hS (lv_sub hl [0, 1, 2, 3, 4] rfl) h
set_option maxRecDepth 100000 in
set_option maxHeartbeats 4000000 in
theorem k_Ref_root_35 {p : Program} {l : Launch} {e : Env} {s : State} {m : MethodId} {args : Array Value} {below : List Frame} {meth : Method} {c : Code} {D : va_G} {a : Nat → Nat} {q : Nat → ClassId} {A : Nat → Prop} (hC : CX p s m args meth c prog_12_method_21_code 7 "OutwardTapeModel" (some .long)) (hA : ∀ x, s.heap.size ≤ x → A x) (hK : va_K D CLS (tR q) s) {g0 : Int32} {g1 : Nat → Int32} {g2 : Nat → Int64} {g3 : Nat → Int64} {g4 : Nat → Int32} {g5 : Int32} {g6 : Nat → Int32} {g7 : Int32} {g10 : Int64} {g11 : Int64} {g12 : Int32} {g13 : Int32} {g14 : Int32} {g15 : Int64} {g16 : Int32} {g17 : Int32} {g18 : Int64} {g19 : Int32} {r0 : Int64 × (Nat → Int32) × Int32} : ∀ (s0 : Int32) (v1 : Int64) (v3 : Int32) (v4 : Int32) (g8 : Nat → Int32) (g9 : Int32) (H : Heap) (locs : List Loc) (ls : Array Slot), va_P D CLS (wR a q g0 g1 g2 g3 g4 g5 g6 g7 g8 g9 g10 g11 g12 g13 g14 g15 g16 g17 g18 g19) H → va_D A (wR a q g0 g1 g2 g3 g4 g5 g6 g7 g8 g9 g10 g11 g12 g13 g14 g15 g16 g17 g18 g19) → va_S A s.heap H locs → lv_has ls 7 [(0, .ref (a 0)), (1, .long v1), (3, .int v3), (4, .int v4)] → f_Ref_root_35  s0 v1 v3 v4 g8 g9 = some r0 → W p l e rm_Ref_root s m args below meth c H locs 0 0 (MQ below (va_Ql (fun (r : Int64) (_ : Unit) => r = r0.1) (fun _ t => va_P D CLS (wR a q g0 g1 g2 g3 g4 g5 g6 g7 r0.2.1 r0.2.2 g10 g11 g12 g13 g14 g15 g16 g17 g18 g19) t.heap) A) args s 0 0 A) (F0 m 35 ls [.int s0]) := by
  obtain ⟨hx, hb, hml, hown, hts, hr, hlocks⟩ := id hC
  intro s0 v1 v3 v4 g8 g9 H locs ls hP hD hS hl h
  rw [f_Ref_root_35] at h
  refine lv_istore (lv' := [(5, .int s0), (0, .ref (a 0)), (1, .long v1), (3, .int v3), (4, .int v4)]) hx hb (dt_at dt_Ref_root 19 rfl) hl (by decide) rfl (fun ls hl => ?_)
  refine lv_aload_n hx hb (dt_at dt_Ref_root 20 rfl) rfl (lv_at hl 1 rfl) ?_
  refine lv_iconst (v := 1) hx hb (dt_at dt_Ref_root 21 rfl) (by decide) ?_
  refine lv_lload_n hx hb (dt_at dt_Ref_root 22 rfl) rfl (lv_at hl 2 rfl) ?_
  obtain ⟨r1, h_r1, h⟩ := ob_of h
  refine vp_callSl (W.runS (As := [.long v1]) (rest := [.int (1 : Int32), .ref (a 0)]) ⟨hx, hb, hml, hown, hts⟩ (c_Ref_mantissa l v1 r1 h_r1) (va_cwS 1 hts (gd_S (m_4 124 rfl rfl) (m_4 125 rfl rfl) (m_1 4 rfl rfl) (m_4 126 rfl rfl)) rfl rfl rfl (by decide +kernel) ⟨Nat.le_of_ble_eq_true rfl, Nat.le_of_ble_eq_true rfl⟩) ⟨fun _ _ _ _ q => q, fun U hU hW => ⟨rfl, trivial⟩⟩ rfl rfl hl.1 rfl (lv_room (Nat.le_of_ble_eq_true rfl)) (dt_at dt_Ref_root 23 rfl) ⟨Nat.le_of_ble_eq_true rfl, Nat.le_of_ble_eq_true rfl⟩) (fun u_r1 q_r1 => ?_)
  obtain rfl : r1 = u_r1 := q_r1.symm
  obtain ⟨r2, h_r2, h⟩ := ob_of h
  have hF := va_free (wc := dR a) (dD (ws' := dR a) hD rfl) hS hA [0, 1, 2, 3, 4, 5, 6] rfl
  have hd : va_D (fun _ => True) (dR a) := (dD (ws' := dR a) hD rfl).weaken (fun _ _ _ _ => trivial)
  refine va_callv (va_runV (As := [.int (1 : Int32), .long r1]) (rest := []) ⟨hx, hb, hml, hown, hts⟩ (c_Ref_put l D a q hd H.size (1 : Int32) r1 g0 g1 g2 g3 g4 g5 g6 g7 g8 g9 g10 g11 g12 g13 g14 g15 g16 g17 g18 g19 r2 h_r2) (cwV 2 hts (gd_V (m_4 129 rfl rfl) (m_4 131 rfl rfl) (m_s 28 rfl rfl) (m_1 4 rfl rfl) (m_4 132 rfl rfl)) rfl rfl rfl (by decide +kernel) ⟨Nat.le_of_ble_eq_true rfl, Nat.le_of_ble_eq_true rfl⟩) ⟨fun a U g mk q => ⟨q.1, q.2.1, q.2.2.1, va_K.moved (u := U) (U := U.calling g mk a) (Vm.Alike.refl U.vm) q.2.2.2⟩, va_recv hK hP (ci := 0) (q0 := 0) rfl rfl, fun U hU hW => ⟨rfl, by rw [hU], by rw [hU]; exact hP, va_K.moved hW.alike hK⟩⟩ rfl rfl hl.1 rfl (lv_room (Nat.le_of_ble_eq_true rfl)) (dt_at dt_Ref_root 24 rfl) ⟨Nat.le_of_ble_eq_true rfl, Nat.le_of_ble_eq_true rfl⟩) hS (fun x _ h9 => hF x h9) hF (fun uu t H locs ht hvm hw hB hz1 hk1 hS => ?_)
  rw [ht] at hB
  have hP : va_P D CLS (wR a q g0 g1 g2 g3 g4 g5 g6 g7 r2 g9 g10 g11 g12 g13 g14 g15 g16 g17 g18 g19) H := hB
  have hD : va_D A (wR a q g0 g1 g2 g3 g4 g5 g6 g7 r2 g9 g10 g11 g12 g13 g14 g15 g16 g17 g18 g19) := dD hD rfl
  refine lv_aload_n hx hb (dt_at dt_Ref_root 25 rfl) rfl (lv_at hl 1 rfl) ?_
  refine lv_iconst (v := 1) hx hb (dt_at dt_Ref_root 26 rfl) (by decide) ?_
  refine lv_iload hx hb (dt_at dt_Ref_root 27 rfl) (lv_at hl 0 rfl) ?_
  obtain ⟨r3, h_r3, h⟩ := ob_of h
  have hF := va_free (wc := dR a) (dD (ws' := dR a) hD rfl) hS hA [0, 1, 2, 3, 4, 5, 6] rfl
  have hd : va_D (fun _ => True) (dR a) := (dD (ws' := dR a) hD rfl).weaken (fun _ _ _ _ => trivial)
  refine va_callv (va_runV (As := [.int (1 : Int32), .int s0]) (rest := []) ⟨hx, hb, hml, hown, hts⟩ (c_Ref_moveUp l D a q hd H.size (1 : Int32) s0 g0 g1 g2 g3 g4 g5 g6 g7 r2 g9 g10 g11 g12 g13 g14 g15 g16 g17 g18 g19 r3 h_r3) (cwV 2 hts (gd_V (m_4 159 rfl rfl) (m_4 161 rfl rfl) (m_s 34 rfl rfl) (m_1 4 rfl rfl) (m_4 162 rfl rfl)) rfl rfl rfl (by decide +kernel) ⟨Nat.le_of_ble_eq_true rfl, Nat.le_of_ble_eq_true rfl⟩) ⟨fun a U g mk q => ⟨q.1, q.2.1, q.2.2.1, va_K.moved (u := U) (U := U.calling g mk a) (Vm.Alike.refl U.vm) q.2.2.2⟩, va_recv hK hP (ci := 0) (q0 := 0) rfl rfl, fun U hU hW => ⟨rfl, by rw [hU], by rw [hU]; exact hP, va_K.moved hW.alike hK⟩⟩ rfl rfl hl.1 rfl (lv_room (Nat.le_of_ble_eq_true rfl)) (dt_at dt_Ref_root 28 rfl) ⟨Nat.le_of_ble_eq_true rfl, Nat.le_of_ble_eq_true rfl⟩) hS (fun x _ h9 => hF x h9) hF (fun uu t H locs ht hvm hw hB hz1 hk1 hS => ?_)
  rw [ht] at hB
  have hP : va_P D CLS (wR a q g0 g1 g2 g3 g4 g5 g6 g7 r3 g9 g10 g11 g12 g13 g14 g15 g16 g17 g18 g19) H := hB
  have hD : va_D A (wR a q g0 g1 g2 g3 g4 g5 g6 g7 r3 g9 g10 g11 g12 g13 g14 g15 g16 g17 g18 g19) := dD hD rfl
  refine lv_aload_n hx hb (dt_at dt_Ref_root 29 rfl) rfl (lv_at hl 1 rfl) ?_
  refine lv_iconst (v := 2) hx hb (dt_at dt_Ref_root 30 rfl) (by decide) ?_
  refine lv_lconst (v := 0) hx hb (dt_at dt_Ref_root 31 rfl) (by decide) ?_
  obtain ⟨r4, h_r4, h⟩ := ob_of h
  have hF := va_free (wc := dR a) (dD (ws' := dR a) hD rfl) hS hA [0, 1, 2, 3, 4, 5, 6] rfl
  have hd : va_D (fun _ => True) (dR a) := (dD (ws' := dR a) hD rfl).weaken (fun _ _ _ _ => trivial)
  refine va_callv (va_runV (As := [.int (2 : Int32), .long (0 : Int64)]) (rest := []) ⟨hx, hb, hml, hown, hts⟩ (c_Ref_put l D a q hd H.size (2 : Int32) (0 : Int64) g0 g1 g2 g3 g4 g5 g6 g7 r3 g9 g10 g11 g12 g13 g14 g15 g16 g17 g18 g19 r4 h_r4) (cwV 2 hts (gd_V (m_4 129 rfl rfl) (m_4 131 rfl rfl) (m_s 28 rfl rfl) (m_1 4 rfl rfl) (m_4 132 rfl rfl)) rfl rfl rfl (by decide +kernel) ⟨Nat.le_of_ble_eq_true rfl, Nat.le_of_ble_eq_true rfl⟩) ⟨fun a U g mk q => ⟨q.1, q.2.1, q.2.2.1, va_K.moved (u := U) (U := U.calling g mk a) (Vm.Alike.refl U.vm) q.2.2.2⟩, va_recv hK hP (ci := 0) (q0 := 0) rfl rfl, fun U hU hW => ⟨rfl, by rw [hU], by rw [hU]; exact hP, va_K.moved hW.alike hK⟩⟩ rfl rfl hl.1 rfl (lv_room (Nat.le_of_ble_eq_true rfl)) (dt_at dt_Ref_root 32 rfl) ⟨Nat.le_of_ble_eq_true rfl, Nat.le_of_ble_eq_true rfl⟩) hS (fun x _ h9 => hF x h9) hF (fun uu t H locs ht hvm hw hB hz1 hk1 hS => ?_)
  rw [ht] at hB
  have hP : va_P D CLS (wR a q g0 g1 g2 g3 g4 g5 g6 g7 r4 g9 g10 g11 g12 g13 g14 g15 g16 g17 g18 g19) H := hB
  have hD : va_D A (wR a q g0 g1 g2 g3 g4 g5 g6 g7 r4 g9 g10 g11 g12 g13 g14 g15 g16 g17 g18 g19) := dD hD rfl
  refine lv_bipush (v := 84) hx hb (dt_at dt_Ref_root 33 rfl) (by decide) ?_
  refine lv_istore (lv' := [(6, .int (84 : Int32)), (5, .int s0), (0, .ref (a 0)), (1, .long v1), (3, .int v3), (4, .int v4)]) hx hb (dt_at dt_Ref_root 34 rfl) hl (by decide) rfl (fun ls hl => ?_)
  exact k_Ref_root_63 hC hA hK  5000 v3 v4 s0 (84 : Int32) r4 g9 H locs ls hP hD hS (lv_sub hl [2, 4, 5, 1, 0] rfl) h
set_option maxRecDepth 100000 in
set_option maxHeartbeats 4000000 in
theorem k_Ref_root_13 {p : Program} {l : Launch} {e : Env} {s : State} {m : MethodId} {args : Array Value} {below : List Frame} {meth : Method} {c : Code} {D : va_G} {a : Nat → Nat} {q : Nat → ClassId} {A : Nat → Prop} (hC : CX p s m args meth c prog_12_method_21_code 7 "OutwardTapeModel" (some .long)) (hA : ∀ x, s.heap.size ≤ x → A x) (hK : va_K D CLS (tR q) s) {g0 : Int32} {g1 : Nat → Int32} {g2 : Nat → Int64} {g3 : Nat → Int64} {g4 : Nat → Int32} {g5 : Int32} {g6 : Nat → Int32} {g7 : Int32} {g10 : Int64} {g11 : Int64} {g12 : Int32} {g13 : Int32} {g14 : Int32} {g15 : Int64} {g16 : Int32} {g17 : Int32} {g18 : Int64} {g19 : Int32} {r0 : Int64 × (Nat → Int32) × Int32} : ∀ (v1 : Int64) (g8 : Nat → Int32) (g9 : Int32) (H : Heap) (locs : List Loc) (ls : Array Slot), va_P D CLS (wR a q g0 g1 g2 g3 g4 g5 g6 g7 g8 g9 g10 g11 g12 g13 g14 g15 g16 g17 g18 g19) H → va_D A (wR a q g0 g1 g2 g3 g4 g5 g6 g7 g8 g9 g10 g11 g12 g13 g14 g15 g16 g17 g18 g19) → va_S A s.heap H locs → lv_has ls 7 [(1, .long v1)] → f_Ref_root_13  v1 g8 g9 = some r0 → W p l e rm_Ref_root s m args below meth c H locs 0 0 (MQ below (va_Ql (fun (r : Int64) (_ : Unit) => r = r0.1) (fun _ t => va_P D CLS (wR a q g0 g1 g2 g3 g4 g5 g6 g7 r0.2.1 r0.2.2 g10 g11 g12 g13 g14 g15 g16 g17 g18 g19) t.heap) A) args s 0 0 A) (F0 m 13 ls []) := by
  obtain ⟨hx, hb, hml, hown, hts, hr, hlocks⟩ := id hC
  intro v1 g8 g9 H locs ls hP hD hS hl h
  rw [f_Ref_root_13] at h
  refine lv_lload_n hx hb (dt_at dt_Ref_root 7 rfl) rfl (lv_at hl 0 rfl) ?_
  obtain rfl := os_of h
  exact W.lret (v := v1) hx hb hr (fun t ht hW => ⟨⟨_, (), rfl, rfl, (hPt hP ht)⟩, hS.F ht⟩) hS.2.2 (dt_at dt_Ref_root 8 rfl)
set_option maxRecDepth 100000 in
set_option maxHeartbeats 4000000 in
theorem k_Ref_root_0 {p : Program} {l : Launch} {e : Env} {s : State} {m : MethodId} {args : Array Value} {below : List Frame} {meth : Method} {c : Code} {D : va_G} {a : Nat → Nat} {q : Nat → ClassId} {A : Nat → Prop} (hC : CX p s m args meth c prog_12_method_21_code 7 "OutwardTapeModel" (some .long)) (hA : ∀ x, s.heap.size ≤ x → A x) (hK : va_K D CLS (tR q) s) {g0 : Int32} {g1 : Nat → Int32} {g2 : Nat → Int64} {g3 : Nat → Int64} {g4 : Nat → Int32} {g5 : Int32} {g6 : Nat → Int32} {g7 : Int32} {g10 : Int64} {g11 : Int64} {g12 : Int32} {g13 : Int32} {g14 : Int32} {g15 : Int64} {g16 : Int32} {g17 : Int32} {g18 : Int64} {g19 : Int32} {r0 : Int64 × (Nat → Int32) × Int32} : ∀ (v1 : Int64) (v3 : Int32) (g8 : Nat → Int32) (g9 : Int32) (H : Heap) (locs : List Loc) (ls : Array Slot), va_P D CLS (wR a q g0 g1 g2 g3 g4 g5 g6 g7 g8 g9 g10 g11 g12 g13 g14 g15 g16 g17 g18 g19) H → va_D A (wR a q g0 g1 g2 g3 g4 g5 g6 g7 g8 g9 g10 g11 g12 g13 g14 g15 g16 g17 g18 g19) → va_S A s.heap H locs → lv_has ls 7 [(0, .ref (a 0)), (1, .long v1), (3, .int v3)] → f_Ref_root_0  v1 v3 g8 g9 = some r0 → W p l e rm_Ref_root s m args below meth c H locs 0 0 (MQ below (va_Ql (fun (r : Int64) (_ : Unit) => r = r0.1) (fun _ t => va_P D CLS (wR a q g0 g1 g2 g3 g4 g5 g6 g7 r0.2.1 r0.2.2 g10 g11 g12 g13 g14 g15 g16 g17 g18 g19) t.heap) A) args s 0 0 A) (F0 m 0 ls []) := by
  obtain ⟨hx, hb, hml, hown, hts, hr, hlocks⟩ := id hC
  intro v1 v3 g8 g9 H locs ls hP hD hS hl h
  rw [f_Ref_root_0] at h
  refine lv_lload_n hx hb (dt_at dt_Ref_root 0 rfl) rfl (lv_at hl 1 rfl) ?_
  refine lv_lconst (v := 0) hx hb (dt_at dt_Ref_root 1 rfl) (by decide) ?_
  refine lc_eq (tgt := 13) hx hb (dt_at dt_Ref_root 2 rfl) (dt_at dt_Ref_root 3 rfl) (by decide) (fun c1 => ?_) (fun c1 => ?_)
  · have h := if_p h c1
    exact k_Ref_root_13 hC hA hK   v1 g8 g9 H locs ls hP hD hS (lv_sub hl [1] rfl) h
  · have h := if_n h c1
    refine lv_lload_n hx hb (dt_at dt_Ref_root 4 rfl) rfl (lv_at hl 1 rfl) ?_
    obtain ⟨r2, h_r2, h⟩ := ob_of h
    refine vp_callSi (W.runS (As := [.long v1]) (rest := []) ⟨hx, hb, hml, hown, hts⟩ (c_Ref_infinite l v1 r2 h_r2) (va_cwS 1 hts (gd_S (m_4 78 rfl rfl) (m_4 79 rfl rfl) (m_1 4 rfl rfl) (m_4 80 rfl rfl)) rfl rfl rfl (by decide +kernel) ⟨Nat.le_of_ble_eq_true rfl, Nat.le_of_ble_eq_true rfl⟩) ⟨fun _ _ _ _ q => q, fun U hU hW => ⟨rfl, trivial⟩⟩ rfl rfl hl.1 rfl (lv_room (Nat.le_of_ble_eq_true rfl)) (dt_at dt_Ref_root 5 rfl) ⟨Nat.le_of_ble_eq_true rfl, Nat.le_of_ble_eq_true rfl⟩) (fun u_r2 q_r2 => ?_)
    obtain rfl : r2 = u_r2 := q_r2.symm
    refine lv_if_eq (tgt := 15) hx hb (dt_at dt_Ref_root 6 rfl) (by decide) (fun c3 => ?_) (fun c3 => ?_)
    · have h := if_p h c3
      refine lv_lload_n hx hb (dt_at dt_Ref_root 9 rfl) rfl (lv_at hl 1 rfl) ?_
      obtain ⟨r4, h_r4, h⟩ := ob_of h
      refine vp_callSi (W.runS (As := [.long v1]) (rest := []) ⟨hx, hb, hml, hown, hts⟩ (c_Ref_exponent l v1 r4 h_r4) (va_cwS 1 hts (gd_S (m_4 146 rfl rfl) (m_4 147 rfl rfl) (m_1 4 rfl rfl) (m_4 148 rfl rfl)) rfl rfl rfl (by decide +kernel) ⟨Nat.le_of_ble_eq_true rfl, Nat.le_of_ble_eq_true rfl⟩) ⟨fun _ _ _ _ q => q, fun U hU hW => ⟨rfl, trivial⟩⟩ rfl rfl hl.1 rfl (lv_room (Nat.le_of_ble_eq_true rfl)) (dt_at dt_Ref_root 10 rfl) ⟨Nat.le_of_ble_eq_true rfl, Nat.le_of_ble_eq_true rfl⟩) (fun u_r4 q_r4 => ?_)
      obtain rfl : r4 = u_r4 := q_r4.symm
      refine lv_istore (lv' := [(4, .int r4), (0, .ref (a 0)), (1, .long v1), (3, .int v3)]) hx hb (dt_at dt_Ref_root 11 rfl) hl (by decide) rfl (fun ls hl => ?_)
      refine lv_iload hx hb (dt_at dt_Ref_root 12 rfl) (lv_at hl 0 rfl) ?_
      refine lv_iconst (v := 2) hx hb (dt_at dt_Ref_root 13 rfl) (by decide) ?_
      refine lv_irem hx hb (dt_at dt_Ref_root 14 rfl) (by decide) ?_
      refine lv_if_ne (tgt := 33) hx hb (dt_at dt_Ref_root 15 rfl) (by decide) (fun c5 => ?_) (fun c5 => ?_)
      · have h := if_n h c5
        refine lv_bipush (v := 113) hx hb (dt_at dt_Ref_root 18 rfl) (by decide) ?_
        exact k_Ref_root_35 hC hA hK   (113 : Int32) v1 v3 r4 g8 g9 H locs ls hP hD hS (lv_sub hl [1, 2, 3, 0] rfl) h
      · have h := if_p h c5
        refine lv_bipush (v := 112) hx hb (dt_at dt_Ref_root 16 rfl) (by decide) ?_
        refine lv_goto (tgt := 35) hx hb (dt_at dt_Ref_root 17 rfl) (by decide) ?_
        exact k_Ref_root_35 hC hA hK   (112 : Int32) v1 v3 r4 g8 g9 H locs ls hP hD hS (lv_sub hl [1, 2, 3, 0] rfl) h
    · have h := if_n h c3
      exact k_Ref_root_13 hC hA hK   v1 g8 g9 H locs ls hP hD hS (lv_sub hl [1] rfl) h
set_option maxRecDepth 100000 in
set_option maxHeartbeats 4000000 in
theorem c_Ref_root (l : Launch) (D : va_G) (a : Nat → Nat) (q : Nat → ClassId) (hd : va_D (fun _ => True) (dR a)) (sz : Nat) (a1 : Int64) (a3 : Int32) (g0 : Int32) (g1 : Nat → Int32) (g2 : Nat → Int64) (g3 : Nat → Int64) (g4 : Nat → Int32) (g5 : Int32) (g6 : Nat → Int32) (g7 : Int32) (g8 : Nat → Int32) (g9 : Int32) (g10 : Int64) (g11 : Int64) (g12 : Int32) (g13 : Int32) (g14 : Int32) (g15 : Int64) (g16 : Int32) (g17 : Int32) (g18 : Int64) (g19 : Int32) (r0 : Int64 × (Nat → Int32) × Int32) (h : f_Ref_root a1 a3 g8 g9 = some r0) : Met l (⟨"OutwardTapeModel", "root", "(JI)J"⟩ : MethodName) (WSm (⟨"OutwardTapeModel", "root", "(JI)J"⟩ : MethodName) prog_12_method_21_code 7 (some .long)) rm_Ref_root (va_Pc [.ref (a 0), .long a1, .int a3] (fun U => U.heap.size = sz ∧ va_P D CLS (wR a q g0 g1 g2 g3 g4 g5 g6 g7 g8 g9 g10 g11 g12 g13 g14 g15 g16 g17 g18 g19) U.heap ∧ va_K D CLS (tR q) U)) (va_Ql (fun (r : Int64) (_ : Unit) => r = r0.1) (fun _ t => va_P D CLS (wR a q g0 g1 g2 g3 g4 g5 g6 g7 r0.2.1 r0.2.2 g10 g11 g12 g13 g14 g15 g16 g17 g18 g19) t.heap) (va_A (dR a) sz)) 0 0 (va_A (dR a) sz) := by
  refine Met.ofW (cc := prog_12_method_21_code) (maxL := 7) (ret := (some .long)) (by decide) rfl ?_
  intro p e s m args below meth c s₁ B hml hv
  obtain ⟨rfl, hsz, hP, hK⟩ := hv
  subst hsz
  have hC := CX.of B hml rfl
  have hl := lv_entry [.ref (a 0), .long a1, .int a3] (n := 7) (Nat.le_of_ble_eq_true rfl)
  rw [lg_entry_eq]
  generalize (lg_sl [.ref (a 0), .long a1, .int a3] ++ List.replicate (7 - (lg_sl [.ref (a 0), .long a1, .int a3]).length) Slot.unset).toArray = ls at hl ⊢
  have hl : lv_has ls 7 [(0, .ref (a 0)), (1, .long a1), (3, .int a3)] := hl
  exact k_Ref_root_0 hC (fun x h => Or.inr h) hK a1 a3 g8 g9 s.heap [] ls hP (dD hd.self rfl) va_S.rf (lv_sub hl [0, 1, 2] rfl) h
abbrev rm_Ref_tenTimes : Room := { frames := 1, cells := 0, slots := 0, locals := 26 }
set_option maxRecDepth 100000 in
set_option maxHeartbeats 4000000 in
theorem k_Ref_tenTimes_2 {p : Program} {l : Launch} {e : Env} {s : State} {m : MethodId} {args : Array Value} {below : List Frame} {meth : Method} {c : Code} {D : va_G} {a : Nat → Nat} {q : Nat → ClassId} {A : Nat → Prop} (hC : CX p s m args meth c prog_12_method_22_code 4 "OutwardTapeModel" none) (hA : ∀ x, s.heap.size ≤ x → A x) (hK : va_K D CLS (tR q) s) {g0 : Int32} {g1 : Nat → Int32} {g2 : Nat → Int64} {g3 : Nat → Int64} {g4 : Nat → Int32} {g5 : Int32} {g6 : Nat → Int32} {g7 : Int32} {g9 : Int32} {g10 : Int64} {g11 : Int64} {g12 : Int32} {g13 : Int32} {g14 : Int32} {g15 : Int64} {g16 : Int32} {g17 : Int32} {g18 : Int64} {g19 : Int32} {r0 : (Nat → Int32)} : ∀ n : Nat, ∀ (v1 : Int32) (v2 : Int32) (v3 : Int32) (g8 : Nat → Int32) (H : Heap) (locs : List Loc) (ls : Array Slot), va_P D CLS (wR a q g0 g1 g2 g3 g4 g5 g6 g7 g8 g9 g10 g11 g12 g13 g14 g15 g16 g17 g18 g19) H → va_D A (wR a q g0 g1 g2 g3 g4 g5 g6 g7 g8 g9 g10 g11 g12 g13 g14 g15 g16 g17 g18 g19) → va_S A s.heap H locs → lv_has ls 4 [(0, .ref (a 0)), (1, .int v1), (2, .int v2), (3, .int v3)] → f_Ref_tenTimes_2  n v1 v2 v3 g8 = some r0 → W p l e rm_Ref_tenTimes s m args below meth c H locs 0 0 (MQ below (va_Qv (fun _ : Unit => True) (fun _ t => va_P D CLS (wR a q g0 g1 g2 g3 g4 g5 g6 g7 r0 g9 g10 g11 g12 g13 g14 g15 g16 g17 g18 g19) t.heap) A) args s 0 0 A) (F0 m 2 ls []) := by
  obtain ⟨hx, hb, hml, hown, hts, hr, hlocks⟩ := id hC
  intro n
  induction n with
  | zero => intro v1 v2 v3 g8 H locs ls hP hD hS hl h; cases h
  | succ n ih =>
    intro v1 v2 v3 g8 H locs ls hP hD hS hl h
    rw [f_Ref_tenTimes_2] at h
    refine lv_iload_n hx hb (dt_at dt_Ref_tenTimes 2 rfl) rfl (lv_at hl 3 rfl) ?_
    refine lv_iload_n hx hb (dt_at dt_Ref_tenTimes 3 rfl) rfl (lv_at hl 2 rfl) ?_
    refine lv_icmp_ge (tgt := 20) hx hb (dt_at dt_Ref_tenTimes 4 rfl) (by decide) (fun c1 => ?_) (fun c1 => ?_)
    · have h := if_p h c1
      obtain rfl := os_of h
      exact W.vret hx hb hr (fun t ht hW => ⟨⟨(), rfl, trivial, (hPt hP ht)⟩, hS.F ht⟩) hS.2.2 (dt_at dt_Ref_tenTimes 11 rfl)
    · have h := if_n h c1
      refine lv_aload_n hx hb (dt_at dt_Ref_tenTimes 5 rfl) rfl (lv_at hl 0 rfl) ?_
      refine lv_iload_n hx hb (dt_at dt_Ref_tenTimes 6 rfl) rfl (lv_at hl 1 rfl) ?_
      refine lv_bipush (v := 10) hx hb (dt_at dt_Ref_tenTimes 7 rfl) (by decide) ?_
      obtain ⟨r2, h_r2, h⟩ := ob_of h
      have hF := va_free (wc := dR a) (dD (ws' := dR a) hD rfl) hS hA [0, 1, 2, 3, 4, 5, 6] rfl
      have hd : va_D (fun _ => True) (dR a) := (dD (ws' := dR a) hD rfl).weaken (fun _ _ _ _ => trivial)
      refine va_callv (va_runV (As := [.int v1, .int (10 : Int32)]) (rest := []) ⟨hx, hb, hml, hown, hts⟩ (c_Ref_timesSmall l D a q hd H.size v1 (10 : Int32) g0 g1 g2 g3 g4 g5 g6 g7 g8 g9 g10 g11 g12 g13 g14 g15 g16 g17 g18 g19 r2 h_r2) (cwV 2 hts (gd_V (m_5 73 rfl rfl) (m_5 75 rfl rfl) (m_s 62 rfl rfl) (m_1 4 rfl rfl) (m_5 76 rfl rfl)) rfl rfl rfl (by decide +kernel) ⟨Nat.le_of_ble_eq_true rfl, Nat.le_of_ble_eq_true rfl⟩) ⟨fun a U g mk q => ⟨q.1, q.2.1, q.2.2.1, va_K.moved (u := U) (U := U.calling g mk a) (Vm.Alike.refl U.vm) q.2.2.2⟩, va_recv hK hP (ci := 0) (q0 := 0) rfl rfl, fun U hU hW => ⟨rfl, by rw [hU], by rw [hU]; exact hP, va_K.moved hW.alike hK⟩⟩ rfl rfl hl.1 rfl (lv_room (Nat.le_of_ble_eq_true rfl)) (dt_at dt_Ref_tenTimes 8 rfl) ⟨Nat.le_of_ble_eq_true rfl, Nat.le_of_ble_eq_true rfl⟩) hS (fun x _ h9 => hF x h9) hF (fun uu t H locs ht hvm hw hB hz1 hk1 hS => ?_)
      rw [ht] at hB
      have hP : va_P D CLS (wR a q g0 g1 g2 g3 g4 g5 g6 g7 r2 g9 g10 g11 g12 g13 g14 g15 g16 g17 g18 g19) H := hB
      have hD : va_D A (wR a q g0 g1 g2 g3 g4 g5 g6 g7 r2 g9 g10 g11 g12 g13 g14 g15 g16 g17 g18 g19) := dD hD rfl
      obtain ⟨t3, e_t3, h⟩ := ol_of h
      refine lv_iinc (v := t3) (lv' := [(3, .int t3), (0, .ref (a 0)), (1, .int v1), (2, .int v2)]) hx hb (dt_at dt_Ref_tenTimes 9 rfl) hl (k := 3) rfl (by rw [e_t3]; rfl) (by decide) rfl (fun ls hl => ?_)
      refine lv_goto (tgt := 2) hx hb (dt_at dt_Ref_tenTimes 10 rfl) (by decide) ?_
      exact ih v1 v2 t3 r2 H locs ls hP hD hS (lv_sub hl [1, 2, 3, 0] rfl) h
set_option maxRecDepth 100000 in
set_option maxHeartbeats 4000000 in
theorem k_Ref_tenTimes_0 {p : Program} {l : Launch} {e : Env} {s : State} {m : MethodId} {args : Array Value} {below : List Frame} {meth : Method} {c : Code} {D : va_G} {a : Nat → Nat} {q : Nat → ClassId} {A : Nat → Prop} (hC : CX p s m args meth c prog_12_method_22_code 4 "OutwardTapeModel" none) (hA : ∀ x, s.heap.size ≤ x → A x) (hK : va_K D CLS (tR q) s) {g0 : Int32} {g1 : Nat → Int32} {g2 : Nat → Int64} {g3 : Nat → Int64} {g4 : Nat → Int32} {g5 : Int32} {g6 : Nat → Int32} {g7 : Int32} {g9 : Int32} {g10 : Int64} {g11 : Int64} {g12 : Int32} {g13 : Int32} {g14 : Int32} {g15 : Int64} {g16 : Int32} {g17 : Int32} {g18 : Int64} {g19 : Int32} {r0 : (Nat → Int32)} : ∀ (v1 : Int32) (v2 : Int32) (g8 : Nat → Int32) (H : Heap) (locs : List Loc) (ls : Array Slot), va_P D CLS (wR a q g0 g1 g2 g3 g4 g5 g6 g7 g8 g9 g10 g11 g12 g13 g14 g15 g16 g17 g18 g19) H → va_D A (wR a q g0 g1 g2 g3 g4 g5 g6 g7 g8 g9 g10 g11 g12 g13 g14 g15 g16 g17 g18 g19) → va_S A s.heap H locs → lv_has ls 4 [(0, .ref (a 0)), (1, .int v1), (2, .int v2)] → f_Ref_tenTimes_0  v1 v2 g8 = some r0 → W p l e rm_Ref_tenTimes s m args below meth c H locs 0 0 (MQ below (va_Qv (fun _ : Unit => True) (fun _ t => va_P D CLS (wR a q g0 g1 g2 g3 g4 g5 g6 g7 r0 g9 g10 g11 g12 g13 g14 g15 g16 g17 g18 g19) t.heap) A) args s 0 0 A) (F0 m 0 ls []) := by
  obtain ⟨hx, hb, hml, hown, hts, hr, hlocks⟩ := id hC
  intro v1 v2 g8 H locs ls hP hD hS hl h
  rw [f_Ref_tenTimes_0] at h
  refine lv_iconst (v := 0) hx hb (dt_at dt_Ref_tenTimes 0 rfl) (by decide) ?_
  refine lv_istore_n (lv' := [(3, .int (0 : Int32)), (0, .ref (a 0)), (1, .int v1), (2, .int v2)]) hx hb (dt_at dt_Ref_tenTimes 1 rfl) rfl hl (by decide) rfl (fun ls hl => ?_)
  exact k_Ref_tenTimes_2 hC hA hK  5000 v1 v2 (0 : Int32) g8 H locs ls hP hD hS (lv_sub hl [1, 2, 3, 0] rfl) h
set_option maxRecDepth 100000 in
set_option maxHeartbeats 4000000 in
theorem c_Ref_tenTimes (l : Launch) (D : va_G) (a : Nat → Nat) (q : Nat → ClassId) (hd : va_D (fun _ => True) (dR a)) (sz : Nat) (a1 : Int32) (a2 : Int32) (g0 : Int32) (g1 : Nat → Int32) (g2 : Nat → Int64) (g3 : Nat → Int64) (g4 : Nat → Int32) (g5 : Int32) (g6 : Nat → Int32) (g7 : Int32) (g8 : Nat → Int32) (g9 : Int32) (g10 : Int64) (g11 : Int64) (g12 : Int32) (g13 : Int32) (g14 : Int32) (g15 : Int64) (g16 : Int32) (g17 : Int32) (g18 : Int64) (g19 : Int32) (r0 : (Nat → Int32)) (h : f_Ref_tenTimes a1 a2 g8 = some r0) : Met l (⟨"OutwardTapeModel", "tenTimes", "(II)V"⟩ : MethodName) (WSm (⟨"OutwardTapeModel", "tenTimes", "(II)V"⟩ : MethodName) prog_12_method_22_code 4 none) rm_Ref_tenTimes (va_Pc [.ref (a 0), .int a1, .int a2] (fun U => U.heap.size = sz ∧ va_P D CLS (wR a q g0 g1 g2 g3 g4 g5 g6 g7 g8 g9 g10 g11 g12 g13 g14 g15 g16 g17 g18 g19) U.heap ∧ va_K D CLS (tR q) U)) (va_Qv (fun _ : Unit => True) (fun _ t => va_P D CLS (wR a q g0 g1 g2 g3 g4 g5 g6 g7 r0 g9 g10 g11 g12 g13 g14 g15 g16 g17 g18 g19) t.heap) (va_A (dR a) sz)) 0 0 (va_A (dR a) sz) := by
  refine Met.ofW (cc := prog_12_method_22_code) (maxL := 4) (ret := none) (by decide) rfl ?_
  intro p e s m args below meth c s₁ B hml hv
  obtain ⟨rfl, hsz, hP, hK⟩ := hv
  subst hsz
  have hC := CX.of B hml rfl
  have hl := lv_entry [.ref (a 0), .int a1, .int a2] (n := 4) (Nat.le_of_ble_eq_true rfl)
  rw [lg_entry_eq]
  generalize (lg_sl [.ref (a 0), .int a1, .int a2] ++ List.replicate (4 - (lg_sl [.ref (a 0), .int a1, .int a2]).length) Slot.unset).toArray = ls at hl ⊢
  have hl : lv_has ls 4 [(0, .ref (a 0)), (1, .int a1), (2, .int a2)] := hl
  exact k_Ref_tenTimes_0 hC (fun x h => Or.inr h) hK a1 a2 g8 s.heap [] ls hP (dD hd.self rfl) va_S.rf (lv_sub hl [0, 1, 2] rfl) h
abbrev rm_Ref_decimal : Room := { frames := 3, cells := 0, slots := 0, locals := 79 }
set_option maxRecDepth 100000 in
set_option maxHeartbeats 4000000 in
theorem k_Ref_decimal_82 {p : Program} {l : Launch} {e : Env} {s : State} {m : MethodId} {args : Array Value} {below : List Frame} {meth : Method} {c : Code} {D : va_G} {a : Nat → Nat} {q : Nat → ClassId} {A : Nat → Prop} (hC : CX p s m args meth c prog_12_method_23_code 6 "OutwardTapeModel" (some .long)) (hA : ∀ x, s.heap.size ≤ x → A x) (hK : va_K D CLS (tR q) s) {g0 : Int32} {g1 : Nat → Int32} {g2 : Nat → Int64} {g3 : Nat → Int64} {g4 : Nat → Int32} {g5 : Int32} {g6 : Nat → Int32} {g7 : Int32} {g10 : Int64} {g11 : Int64} {g12 : Int32} {g13 : Int32} {g14 : Int32} {g15 : Int64} {g16 : Int32} {g17 : Int32} {g18 : Int64} {g19 : Int32} {r0 : Int64 × (Nat → Int32) × Int32} : ∀ (s0 : Int32) (v1 : Int32) (v5 : Int32) (g8 : Nat → Int32) (g9 : Int32) (H : Heap) (locs : List Loc) (ls : Array Slot), va_P D CLS (wR a q g0 g1 g2 g3 g4 g5 g6 g7 g8 g9 g10 g11 g12 g13 g14 g15 g16 g17 g18 g19) H → va_D A (wR a q g0 g1 g2 g3 g4 g5 g6 g7 g8 g9 g10 g11 g12 g13 g14 g15 g16 g17 g18 g19) → va_S A s.heap H locs → lv_has ls 6 [(0, .ref (a 0)), (1, .int v1), (5, .int v5)] → f_Ref_decimal_82  s0 v1 v5 g8 g9 = some r0 → W p l e rm_Ref_decimal s m args below meth c H locs 0 0 (MQ below (va_Ql (fun (r : Int64) (_ : Unit) => r = r0.1) (fun _ t => va_P D CLS (wR a q g0 g1 g2 g3 g4 g5 g6 g7 r0.2.1 r0.2.2 g10 g11 g12 g13 g14 g15 g16 g17 g18 g19) t.heap) A) args s 0 0 A) (F0 m 82 ls [.int s0, .ref (a 0)]) := by
  obtain ⟨hx, hb, hml, hown, hts, hr, hlocks⟩ := id hC
  intro s0 v1 v5 g8 g9 H locs ls hP hD hS hl h
  rw [f_Ref_decimal_82] at h
  obtain ⟨z1, h⟩ := og_of h
  refine va_put (D := D) (ci := 0) (v := .int s0) (ty := .boolean) (C := "OutwardTapeModel") (T := T_Ref) (N := 20) hx hb hts in_Ref ty_Ref tk_Ref nm_Ref hown hK hP hD hS 0 rfl rfl 9 (by decide) (hts (Cond.fieldLink "OutwardTapeModel" 65 "OutwardTapeModel" "over" "Z") (m_4 8 rfl rfl)) (fun _ h9 => h9) rfl (by decide +kernel) (j_z_nar z1) (j_z_fit z1) (Nat.le_of_ble_eq_true rfl) (dt_at dt_Ref_decimal 50 rfl) (fun H locs hP hD hS => ?_)
  have hP : va_P D CLS (wR a q g0 g1 g2 g3 g4 g5 g6 g7 g8 s0 g10 g11 g12 g13 g14 g15 g16 g17 g18 g19) H := hP
  have hD : va_D A (wR a q g0 g1 g2 g3 g4 g5 g6 g7 g8 s0 g10 g11 g12 g13 g14 g15 g16 g17 g18 g19) := hD
  refine lv_aload_n hx hb (dt_at dt_Ref_decimal 51 rfl) rfl (lv_at hl 0 rfl) ?_
  refine lv_iload_n hx hb (dt_at dt_Ref_decimal 52 rfl) rfl (lv_at hl 1 rfl) ?_
  refine lv_sipush (v := -260) hx hb (dt_at dt_Ref_decimal 53 rfl) (by decide) ?_
  refine lv_iload hx hb (dt_at dt_Ref_decimal 54 rfl) (lv_at hl 2 rfl) ?_
  obtain ⟨r2, h_r2, h⟩ := ob_of h
  have hF := va_free (wc := dR a) (dD (ws' := dR a) hD rfl) hS hA [0, 1, 2, 3, 4, 5, 6] rfl
  have hd : va_D (fun _ => True) (dR a) := (dD (ws' := dR a) hD rfl).weaken (fun _ _ _ _ => trivial)
  refine va_calll (va_runV (As := [.int v1, .int (-260 : Int32), .int v5]) (rest := []) ⟨hx, hb, hml, hown, hts⟩ (c_Ref_rounded l D a q hd H.size v1 (-260 : Int32) v5 g0 g1 g2 g3 g4 g5 g6 g7 g8 s0 g10 g11 g12 g13 g14 g15 g16 g17 g18 g19 r2 h_r2) (cwV 3 hts (gd_V (m_4 149 rfl rfl) (m_4 151 rfl rfl) (m_s 32 rfl rfl) (m_1 4 rfl rfl) (m_4 152 rfl rfl)) rfl rfl rfl (by decide +kernel) ⟨Nat.le_of_ble_eq_true rfl, Nat.le_of_ble_eq_true rfl⟩) ⟨fun a U g mk q => ⟨q.1, q.2.1, q.2.2.1, va_K.moved (u := U) (U := U.calling g mk a) (Vm.Alike.refl U.vm) q.2.2.2⟩, va_recv hK hP (ci := 0) (q0 := 0) rfl rfl, fun U hU hW => ⟨rfl, by rw [hU], by rw [hU]; exact hP, va_K.moved hW.alike hK⟩⟩ rfl rfl hl.1 rfl (lv_room (Nat.le_of_ble_eq_true rfl)) (dt_at dt_Ref_decimal 55 rfl) ⟨Nat.le_of_ble_eq_true rfl, Nat.le_of_ble_eq_true rfl⟩) hS (fun x _ h9 => hF x h9) hF (fun u_r2 uu t H locs ht hvm hw hB hz1 hk1 hS => ?_)
  rw [ht] at hB
  obtain rfl : r2 = u_r2 := hw.symm
  have hP : va_P D CLS (wR a q g0 g1 g2 g3 g4 g5 g6 g7 g8 s0 g10 g11 g12 g13 g14 g15 g16 g17 g18 g19) H := hB
  have hD : va_D A (wR a q g0 g1 g2 g3 g4 g5 g6 g7 g8 s0 g10 g11 g12 g13 g14 g15 g16 g17 g18 g19) := dD hD rfl
  obtain rfl := os_of h
  exact W.lret (v := r2) hx hb hr (fun t ht hW => ⟨⟨_, (), rfl, rfl, (hPt hP ht)⟩, hS.F ht⟩) hS.2.2 (dt_at dt_Ref_decimal 56 rfl)
set_option maxRecDepth 100000 in
set_option maxHeartbeats 4000000 in
theorem k_Ref_decimal_0 {p : Program} {l : Launch} {e : Env} {s : State} {m : MethodId} {args : Array Value} {below : List Frame} {meth : Method} {c : Code} {D : va_G} {a : Nat → Nat} {q : Nat → ClassId} {A : Nat → Prop} (hC : CX p s m args meth c prog_12_method_23_code 6 "OutwardTapeModel" (some .long)) (hA : ∀ x, s.heap.size ≤ x → A x) (hK : va_K D CLS (tR q) s) {g0 : Int32} {g1 : Nat → Int32} {g2 : Nat → Int64} {g3 : Nat → Int64} {g4 : Nat → Int32} {g5 : Int32} {g6 : Nat → Int32} {g7 : Int32} {g10 : Int64} {g11 : Int64} {g12 : Int32} {g13 : Int32} {g14 : Int32} {g15 : Int64} {g16 : Int32} {g17 : Int32} {g18 : Int64} {g19 : Int32} {r0 : Int64 × (Nat → Int32) × Int32} : ∀ (v1 : Int32) (v2 : Int64) (v4 : Int32) (v5 : Int32) (g8 : Nat → Int32) (g9 : Int32) (H : Heap) (locs : List Loc) (ls : Array Slot), va_P D CLS (wR a q g0 g1 g2 g3 g4 g5 g6 g7 g8 g9 g10 g11 g12 g13 g14 g15 g16 g17 g18 g19) H → va_D A (wR a q g0 g1 g2 g3 g4 g5 g6 g7 g8 g9 g10 g11 g12 g13 g14 g15 g16 g17 g18 g19) → va_S A s.heap H locs → lv_has ls 6 [(0, .ref (a 0)), (1, .int v1), (2, .long v2), (4, .int v4), (5, .int v5)] → f_Ref_decimal_0  v1 v2 v4 v5 g8 g9 = some r0 → W p l e rm_Ref_decimal s m args below meth c H locs 0 0 (MQ below (va_Ql (fun (r : Int64) (_ : Unit) => r = r0.1) (fun _ t => va_P D CLS (wR a q g0 g1 g2 g3 g4 g5 g6 g7 r0.2.1 r0.2.2 g10 g11 g12 g13 g14 g15 g16 g17 g18 g19) t.heap) A) args s 0 0 A) (F0 m 0 ls []) := by
  obtain ⟨hx, hb, hml, hown, hts, hr, hlocks⟩ := id hC
  intro v1 v2 v4 v5 g8 g9 H locs ls hP hD hS hl h
  rw [f_Ref_decimal_0] at h
  refine lv_aload_n hx hb (dt_at dt_Ref_decimal 0 rfl) rfl (lv_at hl 0 rfl) ?_
  refine lv_iconst (v := 1) hx hb (dt_at dt_Ref_decimal 1 rfl) (by decide) ?_
  refine lv_lload_n hx hb (dt_at dt_Ref_decimal 2 rfl) rfl (lv_at hl 2 rfl) ?_
  obtain ⟨r1, h_r1, h⟩ := ob_of h
  have hF := va_free (wc := dR a) (dD (ws' := dR a) hD rfl) hS hA [0, 1, 2, 3, 4, 5, 6] rfl
  have hd : va_D (fun _ => True) (dR a) := (dD (ws' := dR a) hD rfl).weaken (fun _ _ _ _ => trivial)
  refine va_callv (va_runV (As := [.int (1 : Int32), .long v2]) (rest := []) ⟨hx, hb, hml, hown, hts⟩ (c_Ref_put l D a q hd H.size (1 : Int32) v2 g0 g1 g2 g3 g4 g5 g6 g7 g8 g9 g10 g11 g12 g13 g14 g15 g16 g17 g18 g19 r1 h_r1) (cwV 2 hts (gd_V (m_4 129 rfl rfl) (m_4 131 rfl rfl) (m_s 28 rfl rfl) (m_1 4 rfl rfl) (m_4 132 rfl rfl)) rfl rfl rfl (by decide +kernel) ⟨Nat.le_of_ble_eq_true rfl, Nat.le_of_ble_eq_true rfl⟩) ⟨fun a U g mk q => ⟨q.1, q.2.1, q.2.2.1, va_K.moved (u := U) (U := U.calling g mk a) (Vm.Alike.refl U.vm) q.2.2.2⟩, va_recv hK hP (ci := 0) (q0 := 0) rfl rfl, fun U hU hW => ⟨rfl, by rw [hU], by rw [hU]; exact hP, va_K.moved hW.alike hK⟩⟩ rfl rfl hl.1 rfl (lv_room (Nat.le_of_ble_eq_true rfl)) (dt_at dt_Ref_decimal 3 rfl) ⟨Nat.le_of_ble_eq_true rfl, Nat.le_of_ble_eq_true rfl⟩) hS (fun x _ h9 => hF x h9) hF (fun uu t H locs ht hvm hw hB hz1 hk1 hS => ?_)
  rw [ht] at hB
  have hP : va_P D CLS (wR a q g0 g1 g2 g3 g4 g5 g6 g7 r1 g9 g10 g11 g12 g13 g14 g15 g16 g17 g18 g19) H := hB
  have hD : va_D A (wR a q g0 g1 g2 g3 g4 g5 g6 g7 r1 g9 g10 g11 g12 g13 g14 g15 g16 g17 g18 g19) := dD hD rfl
  refine lv_aload_n hx hb (dt_at dt_Ref_decimal 4 rfl) rfl (lv_at hl 0 rfl) ?_
  refine lv_iconst (v := 0) hx hb (dt_at dt_Ref_decimal 5 rfl) (by decide) ?_
  refine va_put (D := D) (ci := 0) (v := .int (0 : Int32)) (ty := .boolean) (C := "OutwardTapeModel") (T := T_Ref) (N := 20) hx hb hts in_Ref ty_Ref tk_Ref nm_Ref hown hK hP hD hS 0 rfl rfl 9 (by decide) (hts (Cond.fieldLink "OutwardTapeModel" 65 "OutwardTapeModel" "over" "Z") (m_4 8 rfl rfl)) (fun _ h9 => h9) rfl (by decide +kernel) (by decide) (by decide) (Nat.le_of_ble_eq_true rfl) (dt_at dt_Ref_decimal 6 rfl) (fun H locs hP hD hS => ?_)
  have hP : va_P D CLS (wR a q g0 g1 g2 g3 g4 g5 g6 g7 r1 (0 : Int32) g10 g11 g12 g13 g14 g15 g16 g17 g18 g19) H := hP
  have hD : va_D A (wR a q g0 g1 g2 g3 g4 g5 g6 g7 r1 (0 : Int32) g10 g11 g12 g13 g14 g15 g16 g17 g18 g19) := hD
  refine lv_iload hx hb (dt_at dt_Ref_decimal 7 rfl) (lv_at hl 3 rfl) ?_
  refine lv_if_lt (tgt := 38) hx hb (dt_at dt_Ref_decimal 8 rfl) (by decide) (fun c2 => ?_) (fun c2 => ?_)
  · have h := if_p h c2
    refine lv_aload_n hx hb (dt_at dt_Ref_decimal 23 rfl) rfl (lv_at hl 0 rfl) ?_
    refine lv_iconst (v := 1) hx hb (dt_at dt_Ref_decimal 24 rfl) (by decide) ?_
    refine lv_sipush (v := 260) hx hb (dt_at dt_Ref_decimal 25 rfl) (by decide) ?_
    obtain ⟨r3, h_r3, h⟩ := ob_of h
    have hF := va_free (wc := dR a) (dD (ws' := dR a) hD rfl) hS hA [0, 1, 2, 3, 4, 5, 6] rfl
    have hd : va_D (fun _ => True) (dR a) := (dD (ws' := dR a) hD rfl).weaken (fun _ _ _ _ => trivial)
    refine va_callv (va_runV (As := [.int (1 : Int32), .int (260 : Int32)]) (rest := []) ⟨hx, hb, hml, hown, hts⟩ (c_Ref_moveUp l D a q hd H.size (1 : Int32) (260 : Int32) g0 g1 g2 g3 g4 g5 g6 g7 r1 (0 : Int32) g10 g11 g12 g13 g14 g15 g16 g17 g18 g19 r3 h_r3) (cwV 2 hts (gd_V (m_4 159 rfl rfl) (m_4 161 rfl rfl) (m_s 34 rfl rfl) (m_1 4 rfl rfl) (m_4 162 rfl rfl)) rfl rfl rfl (by decide +kernel) ⟨Nat.le_of_ble_eq_true rfl, Nat.le_of_ble_eq_true rfl⟩) ⟨fun a U g mk q => ⟨q.1, q.2.1, q.2.2.1, va_K.moved (u := U) (U := U.calling g mk a) (Vm.Alike.refl U.vm) q.2.2.2⟩, va_recv hK hP (ci := 0) (q0 := 0) rfl rfl, fun U hU hW => ⟨rfl, by rw [hU], by rw [hU]; exact hP, va_K.moved hW.alike hK⟩⟩ rfl rfl hl.1 rfl (lv_room (Nat.le_of_ble_eq_true rfl)) (dt_at dt_Ref_decimal 26 rfl) ⟨Nat.le_of_ble_eq_true rfl, Nat.le_of_ble_eq_true rfl⟩) hS (fun x _ h9 => hF x h9) hF (fun uu t H locs ht hvm hw hB hz1 hk1 hS => ?_)
    rw [ht] at hB
    have hP : va_P D CLS (wR a q g0 g1 g2 g3 g4 g5 g6 g7 r3 (0 : Int32) g10 g11 g12 g13 g14 g15 g16 g17 g18 g19) H := hB
    have hD : va_D A (wR a q g0 g1 g2 g3 g4 g5 g6 g7 r3 (0 : Int32) g10 g11 g12 g13 g14 g15 g16 g17 g18 g19) := dD hD rfl
    refine lv_aload_n hx hb (dt_at dt_Ref_decimal 27 rfl) rfl (lv_at hl 0 rfl) ?_
    refine lv_iconst (v := 2) hx hb (dt_at dt_Ref_decimal 28 rfl) (by decide) ?_
    refine lv_lconst (v := 1) hx hb (dt_at dt_Ref_decimal 29 rfl) (by decide) ?_
    obtain ⟨r4, h_r4, h⟩ := ob_of h
    have hF := va_free (wc := dR a) (dD (ws' := dR a) hD rfl) hS hA [0, 1, 2, 3, 4, 5, 6] rfl
    have hd : va_D (fun _ => True) (dR a) := (dD (ws' := dR a) hD rfl).weaken (fun _ _ _ _ => trivial)
    refine va_callv (va_runV (As := [.int (2 : Int32), .long (1 : Int64)]) (rest := []) ⟨hx, hb, hml, hown, hts⟩ (c_Ref_put l D a q hd H.size (2 : Int32) (1 : Int64) g0 g1 g2 g3 g4 g5 g6 g7 r3 (0 : Int32) g10 g11 g12 g13 g14 g15 g16 g17 g18 g19 r4 h_r4) (cwV 2 hts (gd_V (m_4 129 rfl rfl) (m_4 131 rfl rfl) (m_s 28 rfl rfl) (m_1 4 rfl rfl) (m_4 132 rfl rfl)) rfl rfl rfl (by decide +kernel) ⟨Nat.le_of_ble_eq_true rfl, Nat.le_of_ble_eq_true rfl⟩) ⟨fun a U g mk q => ⟨q.1, q.2.1, q.2.2.1, va_K.moved (u := U) (U := U.calling g mk a) (Vm.Alike.refl U.vm) q.2.2.2⟩, va_recv hK hP (ci := 0) (q0 := 0) rfl rfl, fun U hU hW => ⟨rfl, by rw [hU], by rw [hU]; exact hP, va_K.moved hW.alike hK⟩⟩ rfl rfl hl.1 rfl (lv_room (Nat.le_of_ble_eq_true rfl)) (dt_at dt_Ref_decimal 30 rfl) ⟨Nat.le_of_ble_eq_true rfl, Nat.le_of_ble_eq_true rfl⟩) hS (fun x _ h9 => hF x h9) hF (fun uu t H locs ht hvm hw hB hz1 hk1 hS => ?_)
    rw [ht] at hB
    have hP : va_P D CLS (wR a q g0 g1 g2 g3 g4 g5 g6 g7 r4 (0 : Int32) g10 g11 g12 g13 g14 g15 g16 g17 g18 g19) H := hB
    have hD : va_D A (wR a q g0 g1 g2 g3 g4 g5 g6 g7 r4 (0 : Int32) g10 g11 g12 g13 g14 g15 g16 g17 g18 g19) := dD hD rfl
    refine lv_aload_n hx hb (dt_at dt_Ref_decimal 31 rfl) rfl (lv_at hl 0 rfl) ?_
    refine lv_iconst (v := 2) hx hb (dt_at dt_Ref_decimal 32 rfl) (by decide) ?_
    refine lv_iload hx hb (dt_at dt_Ref_decimal 33 rfl) (lv_at hl 3 rfl) ?_
    refine lv_ineg hx hb (dt_at dt_Ref_decimal 34 rfl) ?_
    obtain ⟨r5, h_r5, h⟩ := ob_of h
    have hF := va_free (wc := dR a) (dD (ws' := dR a) hD rfl) hS hA [0, 1, 2, 3, 4, 5, 6] rfl
    have hd : va_D (fun _ => True) (dR a) := (dD (ws' := dR a) hD rfl).weaken (fun _ _ _ _ => trivial)
    refine va_callv (va_runV (As := [.int (2 : Int32), .int (-v4)]) (rest := []) ⟨hx, hb, hml, hown, hts⟩ (c_Ref_tenTimes l D a q hd H.size (2 : Int32) (-v4) g0 g1 g2 g3 g4 g5 g6 g7 r4 (0 : Int32) g10 g11 g12 g13 g14 g15 g16 g17 g18 g19 r5 h_r5) (cwV 2 hts (gd_V (m_5 69 rfl rfl) (m_5 71 rfl rfl) (m_s 61 rfl rfl) (m_1 4 rfl rfl) (m_5 72 rfl rfl)) rfl rfl rfl (by decide +kernel) ⟨Nat.le_of_ble_eq_true rfl, Nat.le_of_ble_eq_true rfl⟩) ⟨fun a U g mk q => ⟨q.1, q.2.1, q.2.2.1, va_K.moved (u := U) (U := U.calling g mk a) (Vm.Alike.refl U.vm) q.2.2.2⟩, va_recv hK hP (ci := 0) (q0 := 0) rfl rfl, fun U hU hW => ⟨rfl, by rw [hU], by rw [hU]; exact hP, va_K.moved hW.alike hK⟩⟩ rfl rfl hl.1 rfl (lv_room (Nat.le_of_ble_eq_true rfl)) (dt_at dt_Ref_decimal 35 rfl) ⟨Nat.le_of_ble_eq_true rfl, Nat.le_of_ble_eq_true rfl⟩) hS (fun x _ h9 => hF x h9) hF (fun uu t H locs ht hvm hw hB hz1 hk1 hS => ?_)
    rw [ht] at hB
    have hP : va_P D CLS (wR a q g0 g1 g2 g3 g4 g5 g6 g7 r5 (0 : Int32) g10 g11 g12 g13 g14 g15 g16 g17 g18 g19) H := hB
    have hD : va_D A (wR a q g0 g1 g2 g3 g4 g5 g6 g7 r5 (0 : Int32) g10 g11 g12 g13 g14 g15 g16 g17 g18 g19) := dD hD rfl
    refine lv_aload_n hx hb (dt_at dt_Ref_decimal 36 rfl) rfl (lv_at hl 0 rfl) ?_
    refine lv_iconst (v := 0) hx hb (dt_at dt_Ref_decimal 37 rfl) (by decide) ?_
    refine lv_iconst (v := 1) hx hb (dt_at dt_Ref_decimal 38 rfl) (by decide) ?_
    refine lv_iconst (v := 2) hx hb (dt_at dt_Ref_decimal 39 rfl) (by decide) ?_
    refine lv_iconst (v := 3) hx hb (dt_at dt_Ref_decimal 40 rfl) (by decide) ?_
    obtain ⟨r6, h_r6, h⟩ := ob_of h
    have hF := va_free (wc := dR a) (dD (ws' := dR a) hD rfl) hS hA [0, 1, 2, 3, 4, 5, 6] rfl
    have hd : va_D (fun _ => True) (dR a) := (dD (ws' := dR a) hD rfl).weaken (fun _ _ _ _ => trivial)
    refine va_callv (va_runV (As := [.int (0 : Int32), .int (1 : Int32), .int (2 : Int32), .int (3 : Int32)]) (rest := []) ⟨hx, hb, hml, hown, hts⟩ (c_Ref_divide l D a q hd H.size (0 : Int32) (1 : Int32) (2 : Int32) (3 : Int32) g0 g1 g2 g3 g4 g5 g6 g7 r5 (0 : Int32) g10 g11 g12 g13 g14 g15 g16 g17 g18 g19 r6 h_r6) (cwV 4 hts (gd_V (m_4 185 rfl rfl) (m_4 187 rfl rfl) (m_s 40 rfl rfl) (m_1 4 rfl rfl) (m_4 188 rfl rfl)) rfl rfl rfl (by decide +kernel) ⟨Nat.le_of_ble_eq_true rfl, Nat.le_of_ble_eq_true rfl⟩) ⟨fun a U g mk q => ⟨q.1, q.2.1, q.2.2.1, va_K.moved (u := U) (U := U.calling g mk a) (Vm.Alike.refl U.vm) q.2.2.2⟩, va_recv hK hP (ci := 0) (q0 := 0) rfl rfl, fun U hU hW => ⟨rfl, by rw [hU], by rw [hU]; exact hP, va_K.moved hW.alike hK⟩⟩ rfl rfl hl.1 rfl (lv_room (Nat.le_of_ble_eq_true rfl)) (dt_at dt_Ref_decimal 41 rfl) ⟨Nat.le_of_ble_eq_true rfl, Nat.le_of_ble_eq_true rfl⟩) hS (fun x _ h9 => hF x h9) hF (fun uu t H locs ht hvm hw hB hz1 hk1 hS => ?_)
    rw [ht] at hB
    have hP : va_P D CLS (wR a q g0 g1 g2 g3 g4 g5 g6 g7 r6 (0 : Int32) g10 g11 g12 g13 g14 g15 g16 g17 g18 g19) H := hB
    have hD : va_D A (wR a q g0 g1 g2 g3 g4 g5 g6 g7 r6 (0 : Int32) g10 g11 g12 g13 g14 g15 g16 g17 g18 g19) := dD hD rfl
    refine lv_aload_n hx hb (dt_at dt_Ref_decimal 42 rfl) rfl (lv_at hl 0 rfl) ?_
    refine lv_aload_n hx hb (dt_at dt_Ref_decimal 43 rfl) rfl (lv_at hl 0 rfl) ?_
    refine lv_iconst (v := 3) hx hb (dt_at dt_Ref_decimal 44 rfl) (by decide) ?_
    obtain ⟨r7, h_r7, h⟩ := ob_of h
    have hF := va_free (wc := dR a) (dD (ws' := dR a) hD rfl) hS hA [0, 1, 2, 3, 4, 5, 6] rfl
    have hd : va_D (fun _ => True) (dR a) := (dD (ws' := dR a) hD rfl).weaken (fun _ _ _ _ => trivial)
    refine va_calli (va_runV (As := [.int (3 : Int32)]) (rest := [.ref (a 0)]) ⟨hx, hb, hml, hown, hts⟩ (c_Ref_width l D a q hd H.size (3 : Int32) g0 g1 g2 g3 g4 g5 g6 g7 r6 (0 : Int32) g10 g11 g12 g13 g14 g15 g16 g17 g18 g19 r7 h_r7) (cwV 1 hts (gd_V (m_4 138 rfl rfl) (m_4 140 rfl rfl) (m_s 30 rfl rfl) (m_1 4 rfl rfl) (m_4 141 rfl rfl)) rfl rfl rfl (by decide +kernel) ⟨Nat.le_of_ble_eq_true rfl, Nat.le_of_ble_eq_true rfl⟩) ⟨fun a U g mk q => ⟨q.1, q.2.1, q.2.2.1, va_K.moved (u := U) (U := U.calling g mk a) (Vm.Alike.refl U.vm) q.2.2.2⟩, va_recv hK hP (ci := 0) (q0 := 0) rfl rfl, fun U hU hW => ⟨rfl, by rw [hU], by rw [hU]; exact hP, va_K.moved hW.alike hK⟩⟩ rfl rfl hl.1 rfl (lv_room (Nat.le_of_ble_eq_true rfl)) (dt_at dt_Ref_decimal 45 rfl) ⟨Nat.le_of_ble_eq_true rfl, Nat.le_of_ble_eq_true rfl⟩) hS (fun x _ h9 => hF x h9) hF (fun u_r7 uu t H locs ht hvm hw hB hz1 hk1 hS => ?_)
    rw [ht] at hB
    obtain rfl : r7 = u_r7 := hw.symm
    have hP : va_P D CLS (wR a q g0 g1 g2 g3 g4 g5 g6 g7 r6 (0 : Int32) g10 g11 g12 g13 g14 g15 g16 g17 g18 g19) H := hB
    have hD : va_D A (wR a q g0 g1 g2 g3 g4 g5 g6 g7 r6 (0 : Int32) g10 g11 g12 g13 g14 g15 g16 g17 g18 g19) := dD hD rfl
    refine lv_if_le (tgt := 81) hx hb (dt_at dt_Ref_decimal 46 rfl) (by decide) (fun c8 => ?_) (fun c8 => ?_)
    · have h := if_p h c8
      refine lv_iconst (v := 0) hx hb (dt_at dt_Ref_decimal 49 rfl) (by decide) ?_
      exact k_Ref_decimal_82 hC hA hK   (0 : Int32) v1 v5 r6 (0 : Int32) H locs ls hP hD hS (lv_sub hl [0, 1, 4] rfl) h
    · have h := if_n h c8
      refine lv_iconst (v := 1) hx hb (dt_at dt_Ref_decimal 47 rfl) (by decide) ?_
      refine lv_goto (tgt := 82) hx hb (dt_at dt_Ref_decimal 48 rfl) (by decide) ?_
      exact k_Ref_decimal_82 hC hA hK   (1 : Int32) v1 v5 r6 (0 : Int32) H locs ls hP hD hS (lv_sub hl [0, 1, 4] rfl) h
  · have h := if_n h c2
    refine lv_aload_n hx hb (dt_at dt_Ref_decimal 9 rfl) rfl (lv_at hl 0 rfl) ?_
    refine lv_iconst (v := 1) hx hb (dt_at dt_Ref_decimal 10 rfl) (by decide) ?_
    refine lv_iload hx hb (dt_at dt_Ref_decimal 11 rfl) (lv_at hl 3 rfl) ?_
    obtain ⟨r9, h_r9, h⟩ := ob_of h
    have hF := va_free (wc := dR a) (dD (ws' := dR a) hD rfl) hS hA [0, 1, 2, 3, 4, 5, 6] rfl
    have hd : va_D (fun _ => True) (dR a) := (dD (ws' := dR a) hD rfl).weaken (fun _ _ _ _ => trivial)
    refine va_callv (va_runV (As := [.int (1 : Int32), .int v4]) (rest := []) ⟨hx, hb, hml, hown, hts⟩ (c_Ref_tenTimes l D a q hd H.size (1 : Int32) v4 g0 g1 g2 g3 g4 g5 g6 g7 r1 (0 : Int32) g10 g11 g12 g13 g14 g15 g16 g17 g18 g19 r9 h_r9) (cwV 2 hts (gd_V (m_5 69 rfl rfl) (m_5 71 rfl rfl) (m_s 61 rfl rfl) (m_1 4 rfl rfl) (m_5 72 rfl rfl)) rfl rfl rfl (by decide +kernel) ⟨Nat.le_of_ble_eq_true rfl, Nat.le_of_ble_eq_true rfl⟩) ⟨fun a U g mk q => ⟨q.1, q.2.1, q.2.2.1, va_K.moved (u := U) (U := U.calling g mk a) (Vm.Alike.refl U.vm) q.2.2.2⟩, va_recv hK hP (ci := 0) (q0 := 0) rfl rfl, fun U hU hW => ⟨rfl, by rw [hU], by rw [hU]; exact hP, va_K.moved hW.alike hK⟩⟩ rfl rfl hl.1 rfl (lv_room (Nat.le_of_ble_eq_true rfl)) (dt_at dt_Ref_decimal 12 rfl) ⟨Nat.le_of_ble_eq_true rfl, Nat.le_of_ble_eq_true rfl⟩) hS (fun x _ h9 => hF x h9) hF (fun uu t H locs ht hvm hw hB hz1 hk1 hS => ?_)
    rw [ht] at hB
    have hP : va_P D CLS (wR a q g0 g1 g2 g3 g4 g5 g6 g7 r9 (0 : Int32) g10 g11 g12 g13 g14 g15 g16 g17 g18 g19) H := hB
    have hD : va_D A (wR a q g0 g1 g2 g3 g4 g5 g6 g7 r9 (0 : Int32) g10 g11 g12 g13 g14 g15 g16 g17 g18 g19) := dD hD rfl
    refine lv_aload_n hx hb (dt_at dt_Ref_decimal 13 rfl) rfl (lv_at hl 0 rfl) ?_
    refine lv_iconst (v := 0) hx hb (dt_at dt_Ref_decimal 14 rfl) (by decide) ?_
    refine lv_iconst (v := 1) hx hb (dt_at dt_Ref_decimal 15 rfl) (by decide) ?_
    obtain ⟨r10, h_r10, h⟩ := ob_of h
    have hF := va_free (wc := dR a) (dD (ws' := dR a) hD rfl) hS hA [0, 1, 2, 3, 4, 5, 6] rfl
    have hd : va_D (fun _ => True) (dR a) := (dD (ws' := dR a) hD rfl).weaken (fun _ _ _ _ => trivial)
    refine va_callv (va_runV (As := [.int (0 : Int32), .int (1 : Int32)]) (rest := []) ⟨hx, hb, hml, hown, hts⟩ (c_Ref_copy l D a q hd H.size (0 : Int32) (1 : Int32) g0 g1 g2 g3 g4 g5 g6 g7 r9 (0 : Int32) g10 g11 g12 g13 g14 g15 g16 g17 g18 g19 r10 h_r10) (cwV 2 hts (gd_V (m_4 168 rfl rfl) (m_4 170 rfl rfl) (m_s 36 rfl rfl) (m_1 4 rfl rfl) (m_4 171 rfl rfl)) rfl rfl rfl (by decide +kernel) ⟨Nat.le_of_ble_eq_true rfl, Nat.le_of_ble_eq_true rfl⟩) ⟨fun a U g mk q => ⟨q.1, q.2.1, q.2.2.1, va_K.moved (u := U) (U := U.calling g mk a) (Vm.Alike.refl U.vm) q.2.2.2⟩, va_recv hK hP (ci := 0) (q0 := 0) rfl rfl, fun U hU hW => ⟨rfl, by rw [hU], by rw [hU]; exact hP, va_K.moved hW.alike hK⟩⟩ rfl rfl hl.1 rfl (lv_room (Nat.le_of_ble_eq_true rfl)) (dt_at dt_Ref_decimal 16 rfl) ⟨Nat.le_of_ble_eq_true rfl, Nat.le_of_ble_eq_true rfl⟩) hS (fun x _ h9 => hF x h9) hF (fun uu t H locs ht hvm hw hB hz1 hk1 hS => ?_)
    rw [ht] at hB
    have hP : va_P D CLS (wR a q g0 g1 g2 g3 g4 g5 g6 g7 r10 (0 : Int32) g10 g11 g12 g13 g14 g15 g16 g17 g18 g19) H := hB
    have hD : va_D A (wR a q g0 g1 g2 g3 g4 g5 g6 g7 r10 (0 : Int32) g10 g11 g12 g13 g14 g15 g16 g17 g18 g19) := dD hD rfl
    refine lv_aload_n hx hb (dt_at dt_Ref_decimal 17 rfl) rfl (lv_at hl 0 rfl) ?_
    refine lv_iload_n hx hb (dt_at dt_Ref_decimal 18 rfl) rfl (lv_at hl 1 rfl) ?_
    refine lv_iconst (v := 0) hx hb (dt_at dt_Ref_decimal 19 rfl) (by decide) ?_
    refine lv_iload hx hb (dt_at dt_Ref_decimal 20 rfl) (lv_at hl 4 rfl) ?_
    obtain ⟨r11, h_r11, h⟩ := ob_of h
    have hF := va_free (wc := dR a) (dD (ws' := dR a) hD rfl) hS hA [0, 1, 2, 3, 4, 5, 6] rfl
    have hd : va_D (fun _ => True) (dR a) := (dD (ws' := dR a) hD rfl).weaken (fun _ _ _ _ => trivial)
    refine va_calll (va_runV (As := [.int v1, .int (0 : Int32), .int v5]) (rest := []) ⟨hx, hb, hml, hown, hts⟩ (c_Ref_rounded l D a q hd H.size v1 (0 : Int32) v5 g0 g1 g2 g3 g4 g5 g6 g7 r10 (0 : Int32) g10 g11 g12 g13 g14 g15 g16 g17 g18 g19 r11 h_r11) (cwV 3 hts (gd_V (m_4 149 rfl rfl) (m_4 151 rfl rfl) (m_s 32 rfl rfl) (m_1 4 rfl rfl) (m_4 152 rfl rfl)) rfl rfl rfl (by decide +kernel) ⟨Nat.le_of_ble_eq_true rfl, Nat.le_of_ble_eq_true rfl⟩) ⟨fun a U g mk q => ⟨q.1, q.2.1, q.2.2.1, va_K.moved (u := U) (U := U.calling g mk a) (Vm.Alike.refl U.vm) q.2.2.2⟩, va_recv hK hP (ci := 0) (q0 := 0) rfl rfl, fun U hU hW => ⟨rfl, by rw [hU], by rw [hU]; exact hP, va_K.moved hW.alike hK⟩⟩ rfl rfl hl.1 rfl (lv_room (Nat.le_of_ble_eq_true rfl)) (dt_at dt_Ref_decimal 21 rfl) ⟨Nat.le_of_ble_eq_true rfl, Nat.le_of_ble_eq_true rfl⟩) hS (fun x _ h9 => hF x h9) hF (fun u_r11 uu t H locs ht hvm hw hB hz1 hk1 hS => ?_)
    rw [ht] at hB
    obtain rfl : r11 = u_r11 := hw.symm
    have hP : va_P D CLS (wR a q g0 g1 g2 g3 g4 g5 g6 g7 r10 (0 : Int32) g10 g11 g12 g13 g14 g15 g16 g17 g18 g19) H := hB
    have hD : va_D A (wR a q g0 g1 g2 g3 g4 g5 g6 g7 r10 (0 : Int32) g10 g11 g12 g13 g14 g15 g16 g17 g18 g19) := dD hD rfl
    obtain rfl := os_of h
    exact W.lret (v := r11) hx hb hr (fun t ht hW => ⟨⟨_, (), rfl, rfl, (hPt hP ht)⟩, hS.F ht⟩) hS.2.2 (dt_at dt_Ref_decimal 22 rfl)
set_option maxRecDepth 100000 in
set_option maxHeartbeats 4000000 in
theorem c_Ref_decimal (l : Launch) (D : va_G) (a : Nat → Nat) (q : Nat → ClassId) (hd : va_D (fun _ => True) (dR a)) (sz : Nat) (a1 : Int32) (a2 : Int64) (a4 : Int32) (a5 : Int32) (g0 : Int32) (g1 : Nat → Int32) (g2 : Nat → Int64) (g3 : Nat → Int64) (g4 : Nat → Int32) (g5 : Int32) (g6 : Nat → Int32) (g7 : Int32) (g8 : Nat → Int32) (g9 : Int32) (g10 : Int64) (g11 : Int64) (g12 : Int32) (g13 : Int32) (g14 : Int32) (g15 : Int64) (g16 : Int32) (g17 : Int32) (g18 : Int64) (g19 : Int32) (r0 : Int64 × (Nat → Int32) × Int32) (h : f_Ref_decimal a1 a2 a4 a5 g8 g9 = some r0) : Met l (⟨"OutwardTapeModel", "decimal", "(ZJII)J"⟩ : MethodName) (WSm (⟨"OutwardTapeModel", "decimal", "(ZJII)J"⟩ : MethodName) prog_12_method_23_code 6 (some .long)) rm_Ref_decimal (va_Pc [.ref (a 0), .int a1, .long a2, .int a4, .int a5] (fun U => U.heap.size = sz ∧ va_P D CLS (wR a q g0 g1 g2 g3 g4 g5 g6 g7 g8 g9 g10 g11 g12 g13 g14 g15 g16 g17 g18 g19) U.heap ∧ va_K D CLS (tR q) U)) (va_Ql (fun (r : Int64) (_ : Unit) => r = r0.1) (fun _ t => va_P D CLS (wR a q g0 g1 g2 g3 g4 g5 g6 g7 r0.2.1 r0.2.2 g10 g11 g12 g13 g14 g15 g16 g17 g18 g19) t.heap) (va_A (dR a) sz)) 0 0 (va_A (dR a) sz) := by
  refine Met.ofW (cc := prog_12_method_23_code) (maxL := 6) (ret := (some .long)) (by decide) rfl ?_
  intro p e s m args below meth c s₁ B hml hv
  obtain ⟨rfl, hsz, hP, hK⟩ := hv
  subst hsz
  have hC := CX.of B hml rfl
  have hl := lv_entry [.ref (a 0), .int a1, .long a2, .int a4, .int a5] (n := 6) (Nat.le_of_ble_eq_true rfl)
  rw [lg_entry_eq]
  generalize (lg_sl [.ref (a 0), .int a1, .long a2, .int a4, .int a5] ++ List.replicate (6 - (lg_sl [.ref (a 0), .int a1, .long a2, .int a4, .int a5]).length) Slot.unset).toArray = ls at hl ⊢
  have hl : lv_has ls 6 [(0, .ref (a 0)), (1, .int a1), (2, .long a2), (4, .int a4), (5, .int a5)] := hl
  exact k_Ref_decimal_0 hC (fun x h => Or.inr h) hK a1 a2 a4 a5 g8 g9 s.heap [] ls hP (dD hd.self rfl) va_S.rf (lv_sub hl [0, 1, 2, 3, 4] rfl) h
abbrev rm_Ref_whole : Room := { frames := 2, cells := 0, slots := 0, locals := 42 }
set_option maxRecDepth 100000 in
set_option maxHeartbeats 4000000 in
theorem k_Ref_whole_107 {p : Program} {l : Launch} {e : Env} {s : State} {m : MethodId} {args : Array Value} {below : List Frame} {meth : Method} {c : Code} {D : va_G} {a : Nat → Nat} {q : Nat → ClassId} {A : Nat → Prop} (hC : CX p s m args meth c prog_12_method_24_code 8 "OutwardTapeModel" (some .long)) (hA : ∀ x, s.heap.size ≤ x → A x) (hK : va_K D CLS (tR q) s) {g0 : Int32} {g1 : Nat → Int32} {g2 : Nat → Int64} {g3 : Nat → Int64} {g4 : Nat → Int32} {g5 : Int32} {g6 : Nat → Int32} {g7 : Int32} {g8 : Nat → Int32} {g10 : Int64} {g11 : Int64} {g12 : Int32} {g13 : Int32} {g14 : Int32} {g15 : Int64} {g16 : Int32} {g17 : Int32} {g18 : Int64} {g19 : Int32} {r0 : Int64 × Int32} : ∀ (s0 : Int64) (g9 : Int32) (H : Heap) (locs : List Loc) (ls : Array Slot), va_P D CLS (wR a q g0 g1 g2 g3 g4 g5 g6 g7 g8 g9 g10 g11 g12 g13 g14 g15 g16 g17 g18 g19) H → va_D A (wR a q g0 g1 g2 g3 g4 g5 g6 g7 g8 g9 g10 g11 g12 g13 g14 g15 g16 g17 g18 g19) → va_S A s.heap H locs → lv_has ls 8 [] → f_Ref_whole_107  s0 g9 = some r0 → W p l e rm_Ref_whole s m args below meth c H locs 0 0 (MQ below (va_Ql (fun (r : Int64) (_ : Unit) => r = r0.1) (fun _ t => va_P D CLS (wR a q g0 g1 g2 g3 g4 g5 g6 g7 g8 r0.2 g10 g11 g12 g13 g14 g15 g16 g17 g18 g19) t.heap) A) args s 0 0 A) (F0 m 107 ls [.long s0]) := by
  obtain ⟨hx, hb, hml, hown, hts, hr, hlocks⟩ := id hC
  intro s0 g9 H locs ls hP hD hS hl h
  rw [f_Ref_whole_107] at h
  obtain rfl := os_of h
  exact W.lret (v := s0) hx hb hr (fun t ht hW => ⟨⟨_, (), rfl, rfl, (hPt hP ht)⟩, hS.F ht⟩) hS.2.2 (dt_at dt_Ref_whole 61 rfl)
set_option maxRecDepth 100000 in
set_option maxHeartbeats 4000000 in
theorem k_Ref_whole_84 {p : Program} {l : Launch} {e : Env} {s : State} {m : MethodId} {args : Array Value} {below : List Frame} {meth : Method} {c : Code} {D : va_G} {a : Nat → Nat} {q : Nat → ClassId} {A : Nat → Prop} (hC : CX p s m args meth c prog_12_method_24_code 8 "OutwardTapeModel" (some .long)) (hA : ∀ x, s.heap.size ≤ x → A x) (hK : va_K D CLS (tR q) s) {g0 : Int32} {g1 : Nat → Int32} {g2 : Nat → Int64} {g3 : Nat → Int64} {g4 : Nat → Int32} {g5 : Int32} {g6 : Nat → Int32} {g7 : Int32} {g8 : Nat → Int32} {g10 : Int64} {g11 : Int64} {g12 : Int32} {g13 : Int32} {g14 : Int32} {g15 : Int64} {g16 : Int32} {g17 : Int32} {g18 : Int64} {g19 : Int32} {r0 : Int64 × Int32} : ∀ (s0 : Int32) (v3 : Int64) (v6 : Int64) (g9 : Int32) (H : Heap) (locs : List Loc) (ls : Array Slot), va_P D CLS (wR a q g0 g1 g2 g3 g4 g5 g6 g7 g8 g9 g10 g11 g12 g13 g14 g15 g16 g17 g18 g19) H → va_D A (wR a q g0 g1 g2 g3 g4 g5 g6 g7 g8 g9 g10 g11 g12 g13 g14 g15 g16 g17 g18 g19) → va_S A s.heap H locs → lv_has ls 8 [(3, .long v3), (6, .long v6)] → f_Ref_whole_84  s0 v3 v6 g9 = some r0 → W p l e rm_Ref_whole s m args below meth c H locs 0 0 (MQ below (va_Ql (fun (r : Int64) (_ : Unit) => r = r0.1) (fun _ t => va_P D CLS (wR a q g0 g1 g2 g3 g4 g5 g6 g7 g8 r0.2 g10 g11 g12 g13 g14 g15 g16 g17 g18 g19) t.heap) A) args s 0 0 A) (F0 m 84 ls [.int s0, .ref (a 0)]) := by
  obtain ⟨hx, hb, hml, hown, hts, hr, hlocks⟩ := id hC
  intro s0 v3 v6 g9 H locs ls hP hD hS hl h
  rw [f_Ref_whole_84] at h
  obtain ⟨z1, h⟩ := og_of h
  refine va_put (D := D) (ci := 0) (v := .int s0) (ty := .boolean) (C := "OutwardTapeModel") (T := T_Ref) (N := 20) hx hb hts in_Ref ty_Ref tk_Ref nm_Ref hown hK hP hD hS 0 rfl rfl 9 (by decide) (hts (Cond.fieldLink "OutwardTapeModel" 65 "OutwardTapeModel" "over" "Z") (m_4 8 rfl rfl)) (fun _ h9 => h9) rfl (by decide +kernel) (j_z_nar z1) (j_z_fit z1) (Nat.le_of_ble_eq_true rfl) (dt_at dt_Ref_whole 48 rfl) (fun H locs hP hD hS => ?_)
  have hP : va_P D CLS (wR a q g0 g1 g2 g3 g4 g5 g6 g7 g8 s0 g10 g11 g12 g13 g14 g15 g16 g17 g18 g19) H := hP
  have hD : va_D A (wR a q g0 g1 g2 g3 g4 g5 g6 g7 g8 s0 g10 g11 g12 g13 g14 g15 g16 g17 g18 g19) := hD
  refine lv_lload hx hb (dt_at dt_Ref_whole 49 rfl) (lv_at hl 1 rfl) ?_
  refine lv_lconst (v := 0) hx hb (dt_at dt_Ref_whole 50 rfl) (by decide) ?_
  refine lc_ne (tgt := 98) hx hb (dt_at dt_Ref_whole 51 rfl) (dt_at dt_Ref_whole 52 rfl) (by decide) (fun c2 => ?_) (fun c2 => ?_)
  · have h := if_n h c2
    refine lv_lload_n hx hb (dt_at dt_Ref_whole 55 rfl) rfl (lv_at hl 0 rfl) ?_
    refine lv_lload_n hx hb (dt_at dt_Ref_whole 56 rfl) rfl (lv_at hl 0 rfl) ?_
    obtain ⟨r3, h_r3, h⟩ := ob_of h
    refine vp_callSl (W.runS (As := [.long v3]) (rest := [.long v3]) ⟨hx, hb, hml, hown, hts⟩ (c_Ref_mantissa l v3 r3 h_r3) (va_cwS 1 hts (gd_S (m_4 124 rfl rfl) (m_4 125 rfl rfl) (m_1 4 rfl rfl) (m_4 126 rfl rfl)) rfl rfl rfl (by decide +kernel) ⟨Nat.le_of_ble_eq_true rfl, Nat.le_of_ble_eq_true rfl⟩) ⟨fun _ _ _ _ q => q, fun U hU hW => ⟨rfl, trivial⟩⟩ rfl rfl hl.1 rfl (lv_room (Nat.le_of_ble_eq_true rfl)) (dt_at dt_Ref_whole 57 rfl) ⟨Nat.le_of_ble_eq_true rfl, Nat.le_of_ble_eq_true rfl⟩) (fun u_r3 q_r3 => ?_)
    obtain rfl : r3 = u_r3 := q_r3.symm
    refine lv_lload hx hb (dt_at dt_Ref_whole 58 rfl) (lv_at hl 1 rfl) ?_
    refine lv_lsub hx hb (dt_at dt_Ref_whole 59 rfl) ?_
    refine lv_lsub hx hb (dt_at dt_Ref_whole 60 rfl) ?_
    exact k_Ref_whole_107 hC hA hK   (v3 - (r3 - v6)) s0 H locs ls hP hD hS (lv_sub hl [] rfl) h
  · have h := if_p h c2
    refine lv_lconst (v := 0) hx hb (dt_at dt_Ref_whole 53 rfl) (by decide) ?_
    refine lv_goto (tgt := 107) hx hb (dt_at dt_Ref_whole 54 rfl) (by decide) ?_
    exact k_Ref_whole_107 hC hA hK   (0 : Int64) s0 H locs ls hP hD hS (lv_sub hl [] rfl) h
set_option maxRecDepth 100000 in
set_option maxHeartbeats 4000000 in
theorem k_Ref_whole_49 {p : Program} {l : Launch} {e : Env} {s : State} {m : MethodId} {args : Array Value} {below : List Frame} {meth : Method} {c : Code} {D : va_G} {a : Nat → Nat} {q : Nat → ClassId} {A : Nat → Prop} (hC : CX p s m args meth c prog_12_method_24_code 8 "OutwardTapeModel" (some .long)) (hA : ∀ x, s.heap.size ≤ x → A x) (hK : va_K D CLS (tR q) s) {g0 : Int32} {g1 : Nat → Int32} {g2 : Nat → Int64} {g3 : Nat → Int64} {g4 : Nat → Int32} {g5 : Int32} {g6 : Nat → Int32} {g7 : Int32} {g8 : Nat → Int32} {g10 : Int64} {g11 : Int64} {g12 : Int32} {g13 : Int32} {g14 : Int32} {g15 : Int64} {g16 : Int32} {g17 : Int32} {g18 : Int64} {g19 : Int32} {r0 : Int64 × Int32} : ∀ (s0 : Int32) (g9 : Int32) (H : Heap) (locs : List Loc) (ls : Array Slot), va_P D CLS (wR a q g0 g1 g2 g3 g4 g5 g6 g7 g8 g9 g10 g11 g12 g13 g14 g15 g16 g17 g18 g19) H → va_D A (wR a q g0 g1 g2 g3 g4 g5 g6 g7 g8 g9 g10 g11 g12 g13 g14 g15 g16 g17 g18 g19) → va_S A s.heap H locs → lv_has ls 8 [] → f_Ref_whole_49  s0 g9 = some r0 → W p l e rm_Ref_whole s m args below meth c H locs 0 0 (MQ below (va_Ql (fun (r : Int64) (_ : Unit) => r = r0.1) (fun _ t => va_P D CLS (wR a q g0 g1 g2 g3 g4 g5 g6 g7 g8 r0.2 g10 g11 g12 g13 g14 g15 g16 g17 g18 g19) t.heap) A) args s 0 0 A) (F0 m 49 ls [.int s0, .ref (a 0)]) := by
  obtain ⟨hx, hb, hml, hown, hts, hr, hlocks⟩ := id hC
  intro s0 g9 H locs ls hP hD hS hl h
  rw [f_Ref_whole_49] at h
  obtain ⟨z1, h⟩ := og_of h
  refine va_put (D := D) (ci := 0) (v := .int s0) (ty := .boolean) (C := "OutwardTapeModel") (T := T_Ref) (N := 20) hx hb hts in_Ref ty_Ref tk_Ref nm_Ref hown hK hP hD hS 0 rfl rfl 9 (by decide) (hts (Cond.fieldLink "OutwardTapeModel" 65 "OutwardTapeModel" "over" "Z") (m_4 8 rfl rfl)) (fun _ h9 => h9) rfl (by decide +kernel) (j_z_nar z1) (j_z_fit z1) (Nat.le_of_ble_eq_true rfl) (dt_at dt_Ref_whole 27 rfl) (fun H locs hP hD hS => ?_)
  have hP : va_P D CLS (wR a q g0 g1 g2 g3 g4 g5 g6 g7 g8 s0 g10 g11 g12 g13 g14 g15 g16 g17 g18 g19) H := hP
  have hD : va_D A (wR a q g0 g1 g2 g3 g4 g5 g6 g7 g8 s0 g10 g11 g12 g13 g14 g15 g16 g17 g18 g19) := hD
  refine lv_lconst (v := 0) hx hb (dt_at dt_Ref_whole 28 rfl) (by decide) ?_
  obtain rfl := os_of h
  exact W.lret (v := (0 : Int64)) hx hb hr (fun t ht hW => ⟨⟨_, (), rfl, rfl, (hPt hP ht)⟩, hS.F ht⟩) hS.2.2 (dt_at dt_Ref_whole 29 rfl)
set_option maxRecDepth 100000 in
set_option maxHeartbeats 4000000 in
theorem k_Ref_whole_28 {p : Program} {l : Launch} {e : Env} {s : State} {m : MethodId} {args : Array Value} {below : List Frame} {meth : Method} {c : Code} {D : va_G} {a : Nat → Nat} {q : Nat → ClassId} {A : Nat → Prop} (hC : CX p s m args meth c prog_12_method_24_code 8 "OutwardTapeModel" (some .long)) (hA : ∀ x, s.heap.size ≤ x → A x) (hK : va_K D CLS (tR q) s) {g0 : Int32} {g1 : Nat → Int32} {g2 : Nat → Int64} {g3 : Nat → Int64} {g4 : Nat → Int32} {g5 : Int32} {g6 : Nat → Int32} {g7 : Int32} {g8 : Nat → Int32} {g10 : Int64} {g11 : Int64} {g12 : Int32} {g13 : Int32} {g14 : Int32} {g15 : Int64} {g16 : Int32} {g17 : Int32} {g18 : Int64} {g19 : Int32} {r0 : Int64 × Int32} : ∀ (v3 : Int64) (g9 : Int32) (H : Heap) (locs : List Loc) (ls : Array Slot), va_P D CLS (wR a q g0 g1 g2 g3 g4 g5 g6 g7 g8 g9 g10 g11 g12 g13 g14 g15 g16 g17 g18 g19) H → va_D A (wR a q g0 g1 g2 g3 g4 g5 g6 g7 g8 g9 g10 g11 g12 g13 g14 g15 g16 g17 g18 g19) → va_S A s.heap H locs → lv_has ls 8 [(3, .long v3)] → f_Ref_whole_28  v3 g9 = some r0 → W p l e rm_Ref_whole s m args below meth c H locs 0 0 (MQ below (va_Ql (fun (r : Int64) (_ : Unit) => r = r0.1) (fun _ t => va_P D CLS (wR a q g0 g1 g2 g3 g4 g5 g6 g7 g8 r0.2 g10 g11 g12 g13 g14 g15 g16 g17 g18 g19) t.heap) A) args s 0 0 A) (F0 m 28 ls []) := by
  obtain ⟨hx, hb, hml, hown, hts, hr, hlocks⟩ := id hC
  intro v3 g9 H locs ls hP hD hS hl h
  rw [f_Ref_whole_28] at h
  refine lv_lload_n hx hb (dt_at dt_Ref_whole 14 rfl) rfl (lv_at hl 0 rfl) ?_
  obtain rfl := os_of h
  exact W.lret (v := v3) hx hb hr (fun t ht hW => ⟨⟨_, (), rfl, rfl, (hPt hP ht)⟩, hS.F ht⟩) hS.2.2 (dt_at dt_Ref_whole 15 rfl)
set_option maxRecDepth 100000 in
set_option maxHeartbeats 4000000 in
theorem k_Ref_whole_0 {p : Program} {l : Launch} {e : Env} {s : State} {m : MethodId} {args : Array Value} {below : List Frame} {meth : Method} {c : Code} {D : va_G} {a : Nat → Nat} {q : Nat → ClassId} {A : Nat → Prop} (hC : CX p s m args meth c prog_12_method_24_code 8 "OutwardTapeModel" (some .long)) (hA : ∀ x, s.heap.size ≤ x → A x) (hK : va_K D CLS (tR q) s) {g0 : Int32} {g1 : Nat → Int32} {g2 : Nat → Int64} {g3 : Nat → Int64} {g4 : Nat → Int32} {g5 : Int32} {g6 : Nat → Int32} {g7 : Int32} {g8 : Nat → Int32} {g10 : Int64} {g11 : Int64} {g12 : Int32} {g13 : Int32} {g14 : Int32} {g15 : Int64} {g16 : Int32} {g17 : Int32} {g18 : Int64} {g19 : Int32} {r0 : Int64 × Int32} : ∀ (v1 : Int64) (g9 : Int32) (H : Heap) (locs : List Loc) (ls : Array Slot), va_P D CLS (wR a q g0 g1 g2 g3 g4 g5 g6 g7 g8 g9 g10 g11 g12 g13 g14 g15 g16 g17 g18 g19) H → va_D A (wR a q g0 g1 g2 g3 g4 g5 g6 g7 g8 g9 g10 g11 g12 g13 g14 g15 g16 g17 g18 g19) → va_S A s.heap H locs → lv_has ls 8 [(0, .ref (a 0)), (1, .long v1)] → f_Ref_whole_0  v1 g9 = some r0 → W p l e rm_Ref_whole s m args below meth c H locs 0 0 (MQ below (va_Ql (fun (r : Int64) (_ : Unit) => r = r0.1) (fun _ t => va_P D CLS (wR a q g0 g1 g2 g3 g4 g5 g6 g7 g8 r0.2 g10 g11 g12 g13 g14 g15 g16 g17 g18 g19) t.heap) A) args s 0 0 A) (F0 m 0 ls []) := by
  obtain ⟨hx, hb, hml, hown, hts, hr, hlocks⟩ := id hC
  intro v1 g9 H locs ls hP hD hS hl h
  rw [f_Ref_whole_0] at h
  refine lv_lload_n hx hb (dt_at dt_Ref_whole 0 rfl) rfl (lv_at hl 1 rfl) ?_
  obtain ⟨r1, h_r1, h⟩ := ob_of h
  refine vp_callSl (W.runS (As := [.long v1]) (rest := []) ⟨hx, hb, hml, hown, hts⟩ (c_Ref_absolute l v1 r1 h_r1) (va_cwS 1 hts (gd_S (m_4 81 rfl rfl) (m_4 82 rfl rfl) (m_1 4 rfl rfl) (m_4 83 rfl rfl)) rfl rfl rfl (by decide +kernel) ⟨Nat.le_of_ble_eq_true rfl, Nat.le_of_ble_eq_true rfl⟩) ⟨fun _ _ _ _ q => q, fun U hU hW => ⟨rfl, trivial⟩⟩ rfl rfl hl.1 rfl (lv_room (Nat.le_of_ble_eq_true rfl)) (dt_at dt_Ref_whole 1 rfl) ⟨Nat.le_of_ble_eq_true rfl, Nat.le_of_ble_eq_true rfl⟩) (fun u_r1 q_r1 => ?_)
  obtain rfl : r1 = u_r1 := q_r1.symm
  refine lv_lstore_n (lv' := [(3, .long r1), (0, .ref (a 0)), (1, .long v1)]) hx hb (dt_at dt_Ref_whole 2 rfl) rfl hl (by decide) rfl (fun ls hl => ?_)
  refine lv_lload_n hx hb (dt_at dt_Ref_whole 3 rfl) rfl (lv_at hl 0 rfl) ?_
  obtain ⟨r2, h_r2, h⟩ := ob_of h
  refine vp_callSi (W.runS (As := [.long r1]) (rest := []) ⟨hx, hb, hml, hown, hts⟩ (c_Ref_exponent l r1 r2 h_r2) (va_cwS 1 hts (gd_S (m_4 146 rfl rfl) (m_4 147 rfl rfl) (m_1 4 rfl rfl) (m_4 148 rfl rfl)) rfl rfl rfl (by decide +kernel) ⟨Nat.le_of_ble_eq_true rfl, Nat.le_of_ble_eq_true rfl⟩) ⟨fun _ _ _ _ q => q, fun U hU hW => ⟨rfl, trivial⟩⟩ rfl rfl hl.1 rfl (lv_room (Nat.le_of_ble_eq_true rfl)) (dt_at dt_Ref_whole 4 rfl) ⟨Nat.le_of_ble_eq_true rfl, Nat.le_of_ble_eq_true rfl⟩) (fun u_r2 q_r2 => ?_)
  obtain rfl : r2 = u_r2 := q_r2.symm
  refine lv_istore (lv' := [(5, .int r2), (3, .long r1), (0, .ref (a 0)), (1, .long v1)]) hx hb (dt_at dt_Ref_whole 5 rfl) hl (by decide) rfl (fun ls hl => ?_)
  refine lv_aload_n hx hb (dt_at dt_Ref_whole 6 rfl) rfl (lv_at hl 2 rfl) ?_
  refine lv_iconst (v := 0) hx hb (dt_at dt_Ref_whole 7 rfl) (by decide) ?_
  refine va_put (D := D) (ci := 0) (v := .int (0 : Int32)) (ty := .boolean) (C := "OutwardTapeModel") (T := T_Ref) (N := 20) hx hb hts in_Ref ty_Ref tk_Ref nm_Ref hown hK hP hD hS 0 rfl rfl 9 (by decide) (hts (Cond.fieldLink "OutwardTapeModel" 65 "OutwardTapeModel" "over" "Z") (m_4 8 rfl rfl)) (fun _ h9 => h9) rfl (by decide +kernel) (by decide) (by decide) (Nat.le_of_ble_eq_true rfl) (dt_at dt_Ref_whole 8 rfl) (fun H locs hP hD hS => ?_)
  have hP : va_P D CLS (wR a q g0 g1 g2 g3 g4 g5 g6 g7 g8 (0 : Int32) g10 g11 g12 g13 g14 g15 g16 g17 g18 g19) H := hP
  have hD : va_D A (wR a q g0 g1 g2 g3 g4 g5 g6 g7 g8 (0 : Int32) g10 g11 g12 g13 g14 g15 g16 g17 g18 g19) := hD
  refine lv_lload_n hx hb (dt_at dt_Ref_whole 9 rfl) rfl (lv_at hl 3 rfl) ?_
  obtain ⟨r3, h_r3, h⟩ := ob_of h
  refine vp_callSi (W.runS (As := [.long v1]) (rest := []) ⟨hx, hb, hml, hown, hts⟩ (c_Ref_infinite l v1 r3 h_r3) (va_cwS 1 hts (gd_S (m_4 78 rfl rfl) (m_4 79 rfl rfl) (m_1 4 rfl rfl) (m_4 80 rfl rfl)) rfl rfl rfl (by decide +kernel) ⟨Nat.le_of_ble_eq_true rfl, Nat.le_of_ble_eq_true rfl⟩) ⟨fun _ _ _ _ q => q, fun U hU hW => ⟨rfl, trivial⟩⟩ rfl rfl hl.1 rfl (lv_room (Nat.le_of_ble_eq_true rfl)) (dt_at dt_Ref_whole 10 rfl) ⟨Nat.le_of_ble_eq_true rfl, Nat.le_of_ble_eq_true rfl⟩) (fun u_r3 q_r3 => ?_)
  obtain rfl : r3 = u_r3 := q_r3.symm
  refine lv_if_ne (tgt := 28) hx hb (dt_at dt_Ref_whole 11 rfl) (by decide) (fun c4 => ?_) (fun c4 => ?_)
  · have h := if_n h c4
    exact k_Ref_whole_28 hC hA hK   r1 (0 : Int32) H locs ls hP hD hS (lv_sub hl [1] rfl) h
  · have h := if_p h c4
    refine lv_iload hx hb (dt_at dt_Ref_whole 12 rfl) (lv_at hl 0 rfl) ?_
    refine lv_if_lt (tgt := 30) hx hb (dt_at dt_Ref_whole 13 rfl) (by decide) (fun c5 => ?_) (fun c5 => ?_)
    · have h := if_p h c5
      refine lv_iload hx hb (dt_at dt_Ref_whole 16 rfl) (lv_at hl 0 rfl) ?_
      refine lv_bipush (v := -52) hx hb (dt_at dt_Ref_whole 17 rfl) (by decide) ?_
      refine lv_icmp_ge (tgt := 54) hx hb (dt_at dt_Ref_whole 18 rfl) (by decide) (fun c6 => ?_) (fun c6 => ?_)
      · have h := if_p h c6
        refine lv_lload_n hx hb (dt_at dt_Ref_whole 30 rfl) rfl (lv_at hl 1 rfl) ?_
        obtain ⟨r7, h_r7, h⟩ := ob_of h
        refine vp_callSl (W.runS (As := [.long r1]) (rest := []) ⟨hx, hb, hml, hown, hts⟩ (c_Ref_mantissa l r1 r7 h_r7) (va_cwS 1 hts (gd_S (m_4 124 rfl rfl) (m_4 125 rfl rfl) (m_1 4 rfl rfl) (m_4 126 rfl rfl)) rfl rfl rfl (by decide +kernel) ⟨Nat.le_of_ble_eq_true rfl, Nat.le_of_ble_eq_true rfl⟩) ⟨fun _ _ _ _ q => q, fun U hU hW => ⟨rfl, trivial⟩⟩ rfl rfl hl.1 rfl (lv_room (Nat.le_of_ble_eq_true rfl)) (dt_at dt_Ref_whole 31 rfl) ⟨Nat.le_of_ble_eq_true rfl, Nat.le_of_ble_eq_true rfl⟩) (fun u_r7 q_r7 => ?_)
        obtain rfl : r7 = u_r7 := q_r7.symm
        refine lv_iload hx hb (dt_at dt_Ref_whole 32 rfl) (lv_at hl 0 rfl) ?_
        refine lv_ineg hx hb (dt_at dt_Ref_whole 33 rfl) ?_
        refine lv_lshr (v := (j_lshr r7 (-r2))) hx hb (dt_at dt_Ref_whole 34 rfl) rfl ?_
        refine lv_iload hx hb (dt_at dt_Ref_whole 35 rfl) (lv_at hl 0 rfl) ?_
        refine lv_ineg hx hb (dt_at dt_Ref_whole 36 rfl) ?_
        refine lv_lshl (v := (j_lshl (j_lshr r7 (-r2)) (-r2))) hx hb (dt_at dt_Ref_whole 37 rfl) rfl ?_
        obtain ⟨t8, e_t8, h⟩ := ol_of h
        refine lv_topl (fun u_t8 q_t8 => ?_)
        obtain rfl : t8 = u_t8 := e_t8.trans q_t8.symm
        refine lv_lstore (lv' := [(6, .long t8), (5, .int r2), (3, .long r1), (0, .ref (a 0)), (1, .long v1)]) hx hb (dt_at dt_Ref_whole 38 rfl) hl (by decide) rfl (fun ls hl => ?_)
        refine lv_aload_n hx hb (dt_at dt_Ref_whole 39 rfl) rfl (lv_at hl 3 rfl) ?_
        refine lv_lload hx hb (dt_at dt_Ref_whole 40 rfl) (lv_at hl 0 rfl) ?_
        refine lv_lload_n hx hb (dt_at dt_Ref_whole 41 rfl) rfl (lv_at hl 2 rfl) ?_
        obtain ⟨r9, h_r9, h⟩ := ob_of h
        refine vp_callSl (W.runS (As := [.long r1]) (rest := [.long t8, .ref (a 0)]) ⟨hx, hb, hml, hown, hts⟩ (c_Ref_mantissa l r1 r9 h_r9) (va_cwS 1 hts (gd_S (m_4 124 rfl rfl) (m_4 125 rfl rfl) (m_1 4 rfl rfl) (m_4 126 rfl rfl)) rfl rfl rfl (by decide +kernel) ⟨Nat.le_of_ble_eq_true rfl, Nat.le_of_ble_eq_true rfl⟩) ⟨fun _ _ _ _ q => q, fun U hU hW => ⟨rfl, trivial⟩⟩ rfl rfl hl.1 rfl (lv_room (Nat.le_of_ble_eq_true rfl)) (dt_at dt_Ref_whole 42 rfl) ⟨Nat.le_of_ble_eq_true rfl, Nat.le_of_ble_eq_true rfl⟩) (fun u_r9 q_r9 => ?_)
        obtain rfl : r9 = u_r9 := q_r9.symm
        refine lc_eq (tgt := 83) hx hb (dt_at dt_Ref_whole 43 rfl) (dt_at dt_Ref_whole 44 rfl) (by decide) (fun c10 => ?_) (fun c10 => ?_)
        · have h := if_p h c10
          refine lv_iconst (v := 0) hx hb (dt_at dt_Ref_whole 47 rfl) (by decide) ?_
          exact k_Ref_whole_84 hC hA hK   (0 : Int32) r1 t8 (0 : Int32) H locs ls hP hD hS (lv_sub hl [2, 0] rfl) h
        · have h := if_n h c10
          refine lv_iconst (v := 1) hx hb (dt_at dt_Ref_whole 45 rfl) (by decide) ?_
          refine lv_goto (tgt := 84) hx hb (dt_at dt_Ref_whole 46 rfl) (by decide) ?_
          exact k_Ref_whole_84 hC hA hK   (1 : Int32) r1 t8 (0 : Int32) H locs ls hP hD hS (lv_sub hl [2, 0] rfl) h
      · have h := if_n h c6
        refine lv_aload_n hx hb (dt_at dt_Ref_whole 19 rfl) rfl (lv_at hl 2 rfl) ?_
        refine lv_lload_n hx hb (dt_at dt_Ref_whole 20 rfl) rfl (lv_at hl 1 rfl) ?_
        refine lv_lconst (v := 0) hx hb (dt_at dt_Ref_whole 21 rfl) (by decide) ?_
        refine lc_eq (tgt := 48) hx hb (dt_at dt_Ref_whole 22 rfl) (dt_at dt_Ref_whole 23 rfl) (by decide) (fun c11 => ?_) (fun c11 => ?_)
        · have h := if_p h c11
          refine lv_iconst (v := 0) hx hb (dt_at dt_Ref_whole 26 rfl) (by decide) ?_
          exact k_Ref_whole_49 hC hA hK   (0 : Int32) (0 : Int32) H locs ls hP hD hS (lv_sub hl [] rfl) h
        · have h := if_n h c11
          refine lv_iconst (v := 1) hx hb (dt_at dt_Ref_whole 24 rfl) (by decide) ?_
          refine lv_goto (tgt := 49) hx hb (dt_at dt_Ref_whole 25 rfl) (by decide) ?_
          exact k_Ref_whole_49 hC hA hK   (1 : Int32) (0 : Int32) H locs ls hP hD hS (lv_sub hl [] rfl) h
    · have h := if_n h c5
      exact k_Ref_whole_28 hC hA hK   r1 (0 : Int32) H locs ls hP hD hS (lv_sub hl [1] rfl) h
set_option maxRecDepth 100000 in
set_option maxHeartbeats 4000000 in
theorem c_Ref_whole (l : Launch) (D : va_G) (a : Nat → Nat) (q : Nat → ClassId) (hd : va_D (fun _ => True) (dR a)) (sz : Nat) (a1 : Int64) (g0 : Int32) (g1 : Nat → Int32) (g2 : Nat → Int64) (g3 : Nat → Int64) (g4 : Nat → Int32) (g5 : Int32) (g6 : Nat → Int32) (g7 : Int32) (g8 : Nat → Int32) (g9 : Int32) (g10 : Int64) (g11 : Int64) (g12 : Int32) (g13 : Int32) (g14 : Int32) (g15 : Int64) (g16 : Int32) (g17 : Int32) (g18 : Int64) (g19 : Int32) (r0 : Int64 × Int32) (h : f_Ref_whole a1 g9 = some r0) : Met l (⟨"OutwardTapeModel", "whole", "(J)J"⟩ : MethodName) (WSm (⟨"OutwardTapeModel", "whole", "(J)J"⟩ : MethodName) prog_12_method_24_code 8 (some .long)) rm_Ref_whole (va_Pc [.ref (a 0), .long a1] (fun U => U.heap.size = sz ∧ va_P D CLS (wR a q g0 g1 g2 g3 g4 g5 g6 g7 g8 g9 g10 g11 g12 g13 g14 g15 g16 g17 g18 g19) U.heap ∧ va_K D CLS (tR q) U)) (va_Ql (fun (r : Int64) (_ : Unit) => r = r0.1) (fun _ t => va_P D CLS (wR a q g0 g1 g2 g3 g4 g5 g6 g7 g8 r0.2 g10 g11 g12 g13 g14 g15 g16 g17 g18 g19) t.heap) (va_A (dR a) sz)) 0 0 (va_A (dR a) sz) := by
  refine Met.ofW (cc := prog_12_method_24_code) (maxL := 8) (ret := (some .long)) (by decide) rfl ?_
  intro p e s m args below meth c s₁ B hml hv
  obtain ⟨rfl, hsz, hP, hK⟩ := hv
  subst hsz
  have hC := CX.of B hml rfl
  have hl := lv_entry [.ref (a 0), .long a1] (n := 8) (Nat.le_of_ble_eq_true rfl)
  rw [lg_entry_eq]
  generalize (lg_sl [.ref (a 0), .long a1] ++ List.replicate (8 - (lg_sl [.ref (a 0), .long a1]).length) Slot.unset).toArray = ls at hl ⊢
  have hl : lv_has ls 8 [(0, .ref (a 0)), (1, .long a1)] := hl
  exact k_Ref_whole_0 hC (fun x h => Or.inr h) hK a1 g9 s.heap [] ls hP (dD hd.self rfl) va_S.rf (lv_sub hl [0, 1] rfl) h
abbrev rm_Ref_step : Room := { frames := 4, cells := 0, slots := 0, locals := 106 }
set_option maxRecDepth 100000 in
set_option maxHeartbeats 4000000 in
theorem k_Ref_step_86 {p : Program} {l : Launch} {e : Env} {s : State} {m : MethodId} {args : Array Value} {below : List Frame} {meth : Method} {c : Code} {D : va_G} {a : Nat → Nat} {q : Nat → ClassId} {A : Nat → Prop} (hC : CX p s m args meth c prog_12_method_25_code 9 "OutwardTapeModel" (some .long)) (hA : ∀ x, s.heap.size ≤ x → A x) (hK : va_K D CLS (tR q) s) {g0 : Int32} {g1 : Nat → Int32} {g2 : Nat → Int64} {g3 : Nat → Int64} {g4 : Nat → Int32} {g5 : Int32} {g6 : Nat → Int32} {g7 : Int32} {g10 : Int64} {g11 : Int64} {g12 : Int32} {g13 : Int32} {g14 : Int32} {g15 : Int64} {g16 : Int32} {g17 : Int32} {g18 : Int64} {g19 : Int32} {r0 : Int64 × (Nat → Int32) × Int32} : ∀ (s0 : Int64) (g8 : Nat → Int32) (g9 : Int32) (H : Heap) (locs : List Loc) (ls : Array Slot), va_P D CLS (wR a q g0 g1 g2 g3 g4 g5 g6 g7 g8 g9 g10 g11 g12 g13 g14 g15 g16 g17 g18 g19) H → va_D A (wR a q g0 g1 g2 g3 g4 g5 g6 g7 g8 g9 g10 g11 g12 g13 g14 g15 g16 g17 g18 g19) → va_S A s.heap H locs → lv_has ls 9 [] → f_Ref_step_86  s0 g8 g9 = some r0 → W p l e rm_Ref_step s m args below meth c H locs 0 0 (MQ below (va_Ql (fun (r : Int64) (_ : Unit) => r = r0.1) (fun _ t => va_P D CLS (wR a q g0 g1 g2 g3 g4 g5 g6 g7 r0.2.1 r0.2.2 g10 g11 g12 g13 g14 g15 g16 g17 g18 g19) t.heap) A) args s 0 0 A) (F0 m 86 ls [.long s0]) := by
  obtain ⟨hx, hb, hml, hown, hts, hr, hlocks⟩ := id hC
  intro s0 g8 g9 H locs ls hP hD hS hl h
  rw [f_Ref_step_86] at h
  obtain rfl := os_of h
  exact W.lret (v := s0) hx hb hr (fun t ht hW => ⟨⟨_, (), rfl, rfl, (hPt hP ht)⟩, hS.F ht⟩) hS.2.2 (dt_at dt_Ref_step 47 rfl)
set_option maxRecDepth 100000 in
set_option maxHeartbeats 4000000 in
theorem k_Ref_step_72 {p : Program} {l : Launch} {e : Env} {s : State} {m : MethodId} {args : Array Value} {below : List Frame} {meth : Method} {c : Code} {D : va_G} {a : Nat → Nat} {q : Nat → ClassId} {A : Nat → Prop} (hC : CX p s m args meth c prog_12_method_25_code 9 "OutwardTapeModel" (some .long)) (hA : ∀ x, s.heap.size ≤ x → A x) (hK : va_K D CLS (tR q) s) {g0 : Int32} {g1 : Nat → Int32} {g2 : Nat → Int64} {g3 : Nat → Int64} {g4 : Nat → Int32} {g5 : Int32} {g6 : Nat → Int32} {g7 : Int32} {g10 : Int64} {g11 : Int64} {g12 : Int32} {g13 : Int32} {g14 : Int32} {g15 : Int64} {g16 : Int32} {g17 : Int32} {g18 : Int64} {g19 : Int32} {r0 : Int64 × (Nat → Int32) × Int32} : ∀ (v1 : Int64) (v4 : Int64) (g8 : Nat → Int32) (g9 : Int32) (H : Heap) (locs : List Loc) (ls : Array Slot), va_P D CLS (wR a q g0 g1 g2 g3 g4 g5 g6 g7 g8 g9 g10 g11 g12 g13 g14 g15 g16 g17 g18 g19) H → va_D A (wR a q g0 g1 g2 g3 g4 g5 g6 g7 g8 g9 g10 g11 g12 g13 g14 g15 g16 g17 g18 g19) → va_S A s.heap H locs → lv_has ls 9 [(1, .long v1), (4, .long v4)] → f_Ref_step_72  v1 v4 g8 g9 = some r0 → W p l e rm_Ref_step s m args below meth c H locs 0 0 (MQ below (va_Ql (fun (r : Int64) (_ : Unit) => r = r0.1) (fun _ t => va_P D CLS (wR a q g0 g1 g2 g3 g4 g5 g6 g7 r0.2.1 r0.2.2 g10 g11 g12 g13 g14 g15 g16 g17 g18 g19) t.heap) A) args s 0 0 A) (F0 m 72 ls []) := by
  obtain ⟨hx, hb, hml, hown, hts, hr, hlocks⟩ := id hC
  intro v1 v4 g8 g9 H locs ls hP hD hS hl h
  rw [f_Ref_step_72] at h
  refine lv_lload_n hx hb (dt_at dt_Ref_step 39 rfl) rfl (lv_at hl 0 rfl) ?_
  refine lv_lconst (v := 0) hx hb (dt_at dt_Ref_step 40 rfl) (by decide) ?_
  refine lc_ge (tgt := 84) hx hb (dt_at dt_Ref_step 41 rfl) (dt_at dt_Ref_step 42 rfl) (by decide) (fun c1 => ?_) (fun c1 => ?_)
  · have h := if_p h c1
    refine lv_lload hx hb (dt_at dt_Ref_step 46 rfl) (lv_at hl 1 rfl) ?_
    exact k_Ref_step_86 hC hA hK   v4 g8 g9 H locs ls hP hD hS (lv_sub hl [] rfl) h
  · have h := if_n h c1
    refine lv_lload hx hb (dt_at dt_Ref_step 43 rfl) (lv_at hl 1 rfl) ?_
    refine lv_lneg hx hb (dt_at dt_Ref_step 44 rfl) ?_
    refine lv_goto (tgt := 86) hx hb (dt_at dt_Ref_step 45 rfl) (by decide) ?_
    exact k_Ref_step_86 hC hA hK   (-v4) g8 g9 H locs ls hP hD hS (lv_sub hl [] rfl) h
set_option maxRecDepth 100000 in
set_option maxHeartbeats 4000000 in
theorem k_Ref_step_48 {p : Program} {l : Launch} {e : Env} {s : State} {m : MethodId} {args : Array Value} {below : List Frame} {meth : Method} {c : Code} {D : va_G} {a : Nat → Nat} {q : Nat → ClassId} {A : Nat → Prop} (hC : CX p s m args meth c prog_12_method_25_code 9 "OutwardTapeModel" (some .long)) (hA : ∀ x, s.heap.size ≤ x → A x) (hK : va_K D CLS (tR q) s) {g0 : Int32} {g1 : Nat → Int32} {g2 : Nat → Int64} {g3 : Nat → Int64} {g4 : Nat → Int32} {g5 : Int32} {g6 : Nat → Int32} {g7 : Int32} {g10 : Int64} {g11 : Int64} {g12 : Int32} {g13 : Int32} {g14 : Int32} {g15 : Int64} {g16 : Int32} {g17 : Int32} {g18 : Int64} {g19 : Int32} {r0 : Int64 × (Nat → Int32) × Int32} : ∀ (s0 : Int32) (v1 : Int64) (v4 : Int64) (g8 : Nat → Int32) (g9 : Int32) (H : Heap) (locs : List Loc) (ls : Array Slot), va_P D CLS (wR a q g0 g1 g2 g3 g4 g5 g6 g7 g8 g9 g10 g11 g12 g13 g14 g15 g16 g17 g18 g19) H → va_D A (wR a q g0 g1 g2 g3 g4 g5 g6 g7 g8 g9 g10 g11 g12 g13 g14 g15 g16 g17 g18 g19) → va_S A s.heap H locs → lv_has ls 9 [(0, .ref (a 0)), (1, .long v1), (4, .long v4)] → f_Ref_step_48  s0 v1 v4 g8 g9 = some r0 → W p l e rm_Ref_step s m args below meth c H locs 0 0 (MQ below (va_Ql (fun (r : Int64) (_ : Unit) => r = r0.1) (fun _ t => va_P D CLS (wR a q g0 g1 g2 g3 g4 g5 g6 g7 r0.2.1 r0.2.2 g10 g11 g12 g13 g14 g15 g16 g17 g18 g19) t.heap) A) args s 0 0 A) (F0 m 48 ls [.int s0]) := by
  obtain ⟨hx, hb, hml, hown, hts, hr, hlocks⟩ := id hC
  intro s0 v1 v4 g8 g9 H locs ls hP hD hS hl h
  rw [f_Ref_step_48] at h
  refine lv_istore (lv' := [(6, .int s0), (0, .ref (a 0)), (1, .long v1), (4, .long v4)]) hx hb (dt_at dt_Ref_step 27 rfl) hl (by decide) rfl (fun ls hl => ?_)
  refine lv_iload hx hb (dt_at dt_Ref_step 28 rfl) (lv_at hl 0 rfl) ?_
  refine lv_if_eq (tgt := 72) hx hb (dt_at dt_Ref_step 29 rfl) (by decide) (fun c1 => ?_) (fun c1 => ?_)
  · have h := if_p h c1
    exact k_Ref_step_72 hC hA hK   v1 v4 g8 g9 H locs ls hP hD hS (lv_sub hl [2, 3] rfl) h
  · have h := if_n h c1
    refine lv_ldc2 (v := 4607182418800017408) hx hb hown (hts (Cond.constantLong "OutwardTapeModel" 113 (4607182418800017408)) (m_4 172 rfl rfl)) (dt_at dt_Ref_step 30 rfl) ?_
    refine lv_lstore (lv' := [(7, .long (4607182418800017408 : Int64)), (6, .int s0), (0, .ref (a 0)), (1, .long v1), (4, .long v4)]) hx hb (dt_at dt_Ref_step 31 rfl) hl (by decide) rfl (fun ls hl => ?_)
    refine lv_aload_n hx hb (dt_at dt_Ref_step 32 rfl) rfl (lv_at hl 2 rfl) ?_
    refine lv_lload hx hb (dt_at dt_Ref_step 33 rfl) (lv_at hl 4 rfl) ?_
    refine lv_lload hx hb (dt_at dt_Ref_step 34 rfl) (lv_at hl 0 rfl) ?_
    refine lv_iconst (v := 0) hx hb (dt_at dt_Ref_step 35 rfl) (by decide) ?_
    refine lv_iconst (v := 2) hx hb (dt_at dt_Ref_step 36 rfl) (by decide) ?_
    obtain ⟨r2, h_r2, h⟩ := ob_of h
    have hF := va_free (wc := dR a) (dD (ws' := dR a) hD rfl) hS hA [0, 1, 2, 3, 4, 5, 6] rfl
    have hd : va_D (fun _ => True) (dR a) := (dD (ws' := dR a) hD rfl).weaken (fun _ _ _ _ => trivial)
    refine va_calll (va_runV (As := [.long v4, .long (4607182418800017408 : Int64), .int (0 : Int32), .int (2 : Int32)]) (rest := []) ⟨hx, hb, hml, hown, hts⟩ (c_Ref_sum l D a q hd H.size v4 (4607182418800017408 : Int64) (0 : Int32) (2 : Int32) g0 g1 g2 g3 g4 g5 g6 g7 g8 g9 g10 g11 g12 g13 g14 g15 g16 g17 g18 g19 r2 h_r2) (cwV 4 hts (gd_V (m_4 201 rfl rfl) (m_4 203 rfl rfl) (m_s 44 rfl rfl) (m_1 4 rfl rfl) (m_4 204 rfl rfl)) rfl rfl rfl (by decide +kernel) ⟨Nat.le_of_ble_eq_true rfl, Nat.le_of_ble_eq_true rfl⟩) ⟨fun a U g mk q => ⟨q.1, q.2.1, q.2.2.1, va_K.moved (u := U) (U := U.calling g mk a) (Vm.Alike.refl U.vm) q.2.2.2⟩, va_recv hK hP (ci := 0) (q0 := 0) rfl rfl, fun U hU hW => ⟨rfl, by rw [hU], by rw [hU]; exact hP, va_K.moved hW.alike hK⟩⟩ rfl rfl hl.1 rfl (lv_room (Nat.le_of_ble_eq_true rfl)) (dt_at dt_Ref_step 37 rfl) ⟨Nat.le_of_ble_eq_true rfl, Nat.le_of_ble_eq_true rfl⟩) hS (fun x _ h9 => hF x h9) hF (fun u_r2 uu t H locs ht hvm hw hB hz1 hk1 hS => ?_)
    rw [ht] at hB
    subst hw
    have hP : va_P D CLS (wR a q g0 g1 g2 g3 g4 g5 g6 g7 r2.2.1 r2.2.2 g10 g11 g12 g13 g14 g15 g16 g17 g18 g19) H := hB
    have hD : va_D A (wR a q g0 g1 g2 g3 g4 g5 g6 g7 r2.2.1 r2.2.2 g10 g11 g12 g13 g14 g15 g16 g17 g18 g19) := dD hD rfl
    obtain ⟨t3, e_t3, h⟩ := ol_of h
    refine lv_topl (fun u_t3 q_t3 => ?_)
    obtain rfl : t3 = u_t3 := e_t3.trans q_t3.symm
    refine lv_lstore (lv' := [(4, .long t3), (7, .long (4607182418800017408 : Int64)), (6, .int s0), (0, .ref (a 0)), (1, .long v1)]) hx hb (dt_at dt_Ref_step 38 rfl) hl (by decide) rfl (fun ls hl => ?_)
    exact k_Ref_step_72 hC hA hK   v1 t3 r2.2.1 r2.2.2 H locs ls hP hD hS (lv_sub hl [4, 0] rfl) h
set_option maxRecDepth 100000 in
set_option maxHeartbeats 4000000 in
theorem k_Ref_step_47 {p : Program} {l : Launch} {e : Env} {s : State} {m : MethodId} {args : Array Value} {below : List Frame} {meth : Method} {c : Code} {D : va_G} {a : Nat → Nat} {q : Nat → ClassId} {A : Nat → Prop} (hC : CX p s m args meth c prog_12_method_25_code 9 "OutwardTapeModel" (some .long)) (hA : ∀ x, s.heap.size ≤ x → A x) (hK : va_K D CLS (tR q) s) {g0 : Int32} {g1 : Nat → Int32} {g2 : Nat → Int64} {g3 : Nat → Int64} {g4 : Nat → Int32} {g5 : Int32} {g6 : Nat → Int32} {g7 : Int32} {g10 : Int64} {g11 : Int64} {g12 : Int32} {g13 : Int32} {g14 : Int32} {g15 : Int64} {g16 : Int32} {g17 : Int32} {g18 : Int64} {g19 : Int32} {r0 : Int64 × (Nat → Int32) × Int32} : ∀ (v1 : Int64) (v4 : Int64) (g8 : Nat → Int32) (g9 : Int32) (H : Heap) (locs : List Loc) (ls : Array Slot), va_P D CLS (wR a q g0 g1 g2 g3 g4 g5 g6 g7 g8 g9 g10 g11 g12 g13 g14 g15 g16 g17 g18 g19) H → va_D A (wR a q g0 g1 g2 g3 g4 g5 g6 g7 g8 g9 g10 g11 g12 g13 g14 g15 g16 g17 g18 g19) → va_S A s.heap H locs → lv_has ls 9 [(0, .ref (a 0)), (1, .long v1), (4, .long v4)] → f_Ref_step_47  v1 v4 g8 g9 = some r0 → W p l e rm_Ref_step s m args below meth c H locs 0 0 (MQ below (va_Ql (fun (r : Int64) (_ : Unit) => r = r0.1) (fun _ t => va_P D CLS (wR a q g0 g1 g2 g3 g4 g5 g6 g7 r0.2.1 r0.2.2 g10 g11 g12 g13 g14 g15 g16 g17 g18 g19) t.heap) A) args s 0 0 A) (F0 m 47 ls []) := by
  obtain ⟨hx, hb, hml, hown, hts, hr, hlocks⟩ := id hC
  intro v1 v4 g8 g9 H locs ls hP hD hS hl h
  rw [f_Ref_step_47] at h
  refine lv_iconst (v := 0) hx hb (dt_at dt_Ref_step 26 rfl) (by decide) ?_
  exact k_Ref_step_48 hC hA hK   (0 : Int32) v1 v4 g8 g9 H locs ls hP hD hS (lv_sub hl [0, 1, 2] rfl) h
set_option maxRecDepth 100000 in
set_option maxHeartbeats 4000000 in
theorem k_Ref_step_40 {p : Program} {l : Launch} {e : Env} {s : State} {m : MethodId} {args : Array Value} {below : List Frame} {meth : Method} {c : Code} {D : va_G} {a : Nat → Nat} {q : Nat → ClassId} {A : Nat → Prop} (hC : CX p s m args meth c prog_12_method_25_code 9 "OutwardTapeModel" (some .long)) (hA : ∀ x, s.heap.size ≤ x → A x) (hK : va_K D CLS (tR q) s) {g0 : Int32} {g1 : Nat → Int32} {g2 : Nat → Int64} {g3 : Nat → Int64} {g4 : Nat → Int32} {g5 : Int32} {g6 : Nat → Int32} {g7 : Int32} {g10 : Int64} {g11 : Int64} {g12 : Int32} {g13 : Int32} {g14 : Int32} {g15 : Int64} {g16 : Int32} {g17 : Int32} {g18 : Int64} {g19 : Int32} {r0 : Int64 × (Nat → Int32) × Int32} : ∀ (s0 : Int32) (s1 : Int32) (v1 : Int64) (v4 : Int64) (g8 : Nat → Int32) (g9 : Int32) (H : Heap) (locs : List Loc) (ls : Array Slot), va_P D CLS (wR a q g0 g1 g2 g3 g4 g5 g6 g7 g8 g9 g10 g11 g12 g13 g14 g15 g16 g17 g18 g19) H → va_D A (wR a q g0 g1 g2 g3 g4 g5 g6 g7 g8 g9 g10 g11 g12 g13 g14 g15 g16 g17 g18 g19) → va_S A s.heap H locs → lv_has ls 9 [(0, .ref (a 0)), (1, .long v1), (4, .long v4)] → f_Ref_step_40  s0 s1 v1 v4 g8 g9 = some r0 → W p l e rm_Ref_step s m args below meth c H locs 0 0 (MQ below (va_Ql (fun (r : Int64) (_ : Unit) => r = r0.1) (fun _ t => va_P D CLS (wR a q g0 g1 g2 g3 g4 g5 g6 g7 r0.2.1 r0.2.2 g10 g11 g12 g13 g14 g15 g16 g17 g18 g19) t.heap) A) args s 0 0 A) (F0 m 40 ls [.int s0, .int s1]) := by
  obtain ⟨hx, hb, hml, hown, hts, hr, hlocks⟩ := id hC
  intro s0 s1 v1 v4 g8 g9 H locs ls hP hD hS hl h
  rw [f_Ref_step_40] at h
  refine lv_icmp_eq (tgt := 47) hx hb (dt_at dt_Ref_step 23 rfl) (by decide) (fun c1 => ?_) (fun c1 => ?_)
  · have h := if_p h c1
    exact k_Ref_step_47 hC hA hK   v1 v4 g8 g9 H locs ls hP hD hS (lv_sub hl [0, 1, 2] rfl) h
  · have h := if_n h c1
    refine lv_iconst (v := 1) hx hb (dt_at dt_Ref_step 24 rfl) (by decide) ?_
    refine lv_goto (tgt := 48) hx hb (dt_at dt_Ref_step 25 rfl) (by decide) ?_
    exact k_Ref_step_48 hC hA hK   (1 : Int32) v1 v4 g8 g9 H locs ls hP hD hS (lv_sub hl [0, 1, 2] rfl) h
set_option maxRecDepth 100000 in
set_option maxHeartbeats 4000000 in
theorem k_Ref_step_29 {p : Program} {l : Launch} {e : Env} {s : State} {m : MethodId} {args : Array Value} {below : List Frame} {meth : Method} {c : Code} {D : va_G} {a : Nat → Nat} {q : Nat → ClassId} {A : Nat → Prop} (hC : CX p s m args meth c prog_12_method_25_code 9 "OutwardTapeModel" (some .long)) (hA : ∀ x, s.heap.size ≤ x → A x) (hK : va_K D CLS (tR q) s) {g0 : Int32} {g1 : Nat → Int32} {g2 : Nat → Int64} {g3 : Nat → Int64} {g4 : Nat → Int32} {g5 : Int32} {g6 : Nat → Int32} {g7 : Int32} {g10 : Int64} {g11 : Int64} {g12 : Int32} {g13 : Int32} {g14 : Int32} {g15 : Int64} {g16 : Int32} {g17 : Int32} {g18 : Int64} {g19 : Int32} {r0 : Int64 × (Nat → Int32) × Int32} : ∀ (s0 : Int32) (v1 : Int64) (v4 : Int64) (g8 : Nat → Int32) (g9 : Int32) (H : Heap) (locs : List Loc) (ls : Array Slot), va_P D CLS (wR a q g0 g1 g2 g3 g4 g5 g6 g7 g8 g9 g10 g11 g12 g13 g14 g15 g16 g17 g18 g19) H → va_D A (wR a q g0 g1 g2 g3 g4 g5 g6 g7 g8 g9 g10 g11 g12 g13 g14 g15 g16 g17 g18 g19) → va_S A s.heap H locs → lv_has ls 9 [(0, .ref (a 0)), (1, .long v1), (4, .long v4)] → f_Ref_step_29  s0 v1 v4 g8 g9 = some r0 → W p l e rm_Ref_step s m args below meth c H locs 0 0 (MQ below (va_Ql (fun (r : Int64) (_ : Unit) => r = r0.1) (fun _ t => va_P D CLS (wR a q g0 g1 g2 g3 g4 g5 g6 g7 r0.2.1 r0.2.2 g10 g11 g12 g13 g14 g15 g16 g17 g18 g19) t.heap) A) args s 0 0 A) (F0 m 29 ls [.int s0]) := by
  obtain ⟨hx, hb, hml, hown, hts, hr, hlocks⟩ := id hC
  intro s0 v1 v4 g8 g9 H locs ls hP hD hS hl h
  rw [f_Ref_step_29] at h
  refine lv_lload_n hx hb (dt_at dt_Ref_step 16 rfl) rfl (lv_at hl 1 rfl) ?_
  refine lv_lconst (v := 0) hx hb (dt_at dt_Ref_step 17 rfl) (by decide) ?_
  refine lc_ge (tgt := 39) hx hb (dt_at dt_Ref_step 18 rfl) (dt_at dt_Ref_step 19 rfl) (by decide) (fun c1 => ?_) (fun c1 => ?_)
  · have h := if_p h c1
    refine lv_iconst (v := 0) hx hb (dt_at dt_Ref_step 22 rfl) (by decide) ?_
    exact k_Ref_step_40 hC hA hK   (0 : Int32) s0 v1 v4 g8 g9 H locs ls hP hD hS (lv_sub hl [0, 1, 2] rfl) h
  · have h := if_n h c1
    refine lv_iconst (v := 1) hx hb (dt_at dt_Ref_step 20 rfl) (by decide) ?_
    refine lv_goto (tgt := 40) hx hb (dt_at dt_Ref_step 21 rfl) (by decide) ?_
    exact k_Ref_step_40 hC hA hK   (1 : Int32) s0 v1 v4 g8 g9 H locs ls hP hD hS (lv_sub hl [0, 1, 2] rfl) h
set_option maxRecDepth 100000 in
set_option maxHeartbeats 4000000 in
theorem k_Ref_step_0 {p : Program} {l : Launch} {e : Env} {s : State} {m : MethodId} {args : Array Value} {below : List Frame} {meth : Method} {c : Code} {D : va_G} {a : Nat → Nat} {q : Nat → ClassId} {A : Nat → Prop} (hC : CX p s m args meth c prog_12_method_25_code 9 "OutwardTapeModel" (some .long)) (hA : ∀ x, s.heap.size ≤ x → A x) (hK : va_K D CLS (tR q) s) {g0 : Int32} {g1 : Nat → Int32} {g2 : Nat → Int64} {g3 : Nat → Int64} {g4 : Nat → Int32} {g5 : Int32} {g6 : Nat → Int32} {g7 : Int32} {g10 : Int64} {g11 : Int64} {g12 : Int32} {g13 : Int32} {g14 : Int32} {g15 : Int64} {g16 : Int32} {g17 : Int32} {g18 : Int64} {g19 : Int32} {r0 : Int64 × (Nat → Int32) × Int32} : ∀ (v1 : Int64) (v3 : Int32) (g8 : Nat → Int32) (g9 : Int32) (H : Heap) (locs : List Loc) (ls : Array Slot), va_P D CLS (wR a q g0 g1 g2 g3 g4 g5 g6 g7 g8 g9 g10 g11 g12 g13 g14 g15 g16 g17 g18 g19) H → va_D A (wR a q g0 g1 g2 g3 g4 g5 g6 g7 g8 g9 g10 g11 g12 g13 g14 g15 g16 g17 g18 g19) → va_S A s.heap H locs → lv_has ls 9 [(0, .ref (a 0)), (1, .long v1), (3, .int v3)] → f_Ref_step_0  v1 v3 g8 g9 = some r0 → W p l e rm_Ref_step s m args below meth c H locs 0 0 (MQ below (va_Ql (fun (r : Int64) (_ : Unit) => r = r0.1) (fun _ t => va_P D CLS (wR a q g0 g1 g2 g3 g4 g5 g6 g7 r0.2.1 r0.2.2 g10 g11 g12 g13 g14 g15 g16 g17 g18 g19) t.heap) A) args s 0 0 A) (F0 m 0 ls []) := by
  obtain ⟨hx, hb, hml, hown, hts, hr, hlocks⟩ := id hC
  intro v1 v3 g8 g9 H locs ls hP hD hS hl h
  rw [f_Ref_step_0] at h
  refine lv_aload_n hx hb (dt_at dt_Ref_step 0 rfl) rfl (lv_at hl 0 rfl) ?_
  refine lv_lload_n hx hb (dt_at dt_Ref_step 1 rfl) rfl (lv_at hl 1 rfl) ?_
  obtain ⟨r1, h_r1, h⟩ := ob_of h
  have hF := va_free (wc := dR a) (dD (ws' := dR a) hD rfl) hS hA [0, 1, 2, 3, 4, 5, 6] rfl
  have hd : va_D (fun _ => True) (dR a) := (dD (ws' := dR a) hD rfl).weaken (fun _ _ _ _ => trivial)
  refine va_calll (va_runV (As := [.long v1]) (rest := []) ⟨hx, hb, hml, hown, hts⟩ (c_Ref_whole l D a q hd H.size v1 g0 g1 g2 g3 g4 g5 g6 g7 g8 g9 g10 g11 g12 g13 g14 g15 g16 g17 g18 g19 r1 h_r1) (cwV 1 hts (gd_V (m_4 197 rfl rfl) (m_4 199 rfl rfl) (m_s 43 rfl rfl) (m_1 4 rfl rfl) (m_4 200 rfl rfl)) rfl rfl rfl (by decide +kernel) ⟨Nat.le_of_ble_eq_true rfl, Nat.le_of_ble_eq_true rfl⟩) ⟨fun a U g mk q => ⟨q.1, q.2.1, q.2.2.1, va_K.moved (u := U) (U := U.calling g mk a) (Vm.Alike.refl U.vm) q.2.2.2⟩, va_recv hK hP (ci := 0) (q0 := 0) rfl rfl, fun U hU hW => ⟨rfl, by rw [hU], by rw [hU]; exact hP, va_K.moved hW.alike hK⟩⟩ rfl rfl hl.1 rfl (lv_room (Nat.le_of_ble_eq_true rfl)) (dt_at dt_Ref_step 2 rfl) ⟨Nat.le_of_ble_eq_true rfl, Nat.le_of_ble_eq_true rfl⟩) hS (fun x _ h9 => hF x h9) hF (fun u_r1 uu t H locs ht hvm hw hB hz1 hk1 hS => ?_)
  rw [ht] at hB
  subst hw
  have hP : va_P D CLS (wR a q g0 g1 g2 g3 g4 g5 g6 g7 g8 r1.2 g10 g11 g12 g13 g14 g15 g16 g17 g18 g19) H := hB
  have hD : va_D A (wR a q g0 g1 g2 g3 g4 g5 g6 g7 g8 r1.2 g10 g11 g12 g13 g14 g15 g16 g17 g18 g19) := dD hD rfl
  obtain ⟨t2, e_t2, h⟩ := ol_of h
  refine lv_topl (fun u_t2 q_t2 => ?_)
  obtain rfl : t2 = u_t2 := e_t2.trans q_t2.symm
  refine lv_lstore (lv' := [(4, .long t2), (0, .ref (a 0)), (1, .long v1), (3, .int v3)]) hx hb (dt_at dt_Ref_step 3 rfl) hl (by decide) rfl (fun ls hl => ?_)
  refine lv_aload_n hx hb (dt_at dt_Ref_step 4 rfl) rfl (lv_at hl 1 rfl) ?_
  refine va_get (D := D) (ci := 0) (v := .int r1.2) (C := "OutwardTapeModel") (T := T_Ref) (N := 20) hx hb hts in_Ref hown hK hP 0 rfl rfl 9 (by decide) (hts (Cond.fieldLink "OutwardTapeModel" 65 "OutwardTapeModel" "over" "Z") (m_4 8 rfl rfl)) (fun _ h9 => h9) rfl (dt_at dt_Ref_step 5 rfl) ?_
  refine lv_if_eq (tgt := 47) hx hb (dt_at dt_Ref_step 6 rfl) (by decide) (fun c3 => ?_) (fun c3 => ?_)
  · have h := if_p h c3
    exact k_Ref_step_47 hC hA hK   v1 t2 g8 r1.2 H locs ls hP hD hS (lv_sub hl [1, 2, 0] rfl) h
  · have h := if_n h c3
    refine lv_iload_n hx hb (dt_at dt_Ref_step 7 rfl) rfl (lv_at hl 3 rfl) ?_
    refine lv_iconst (v := 2) hx hb (dt_at dt_Ref_step 8 rfl) (by decide) ?_
    refine lv_icmp_eq (tgt := 47) hx hb (dt_at dt_Ref_step 9 rfl) (by decide) (fun c4 => ?_) (fun c4 => ?_)
    · have h := if_p h c4
      exact k_Ref_step_47 hC hA hK   v1 t2 g8 r1.2 H locs ls hP hD hS (lv_sub hl [1, 2, 0] rfl) h
    · have h := if_n h c4
      refine lv_iload_n hx hb (dt_at dt_Ref_step 10 rfl) rfl (lv_at hl 3 rfl) ?_
      refine lv_iconst (v := 1) hx hb (dt_at dt_Ref_step 11 rfl) (by decide) ?_
      refine lv_icmp_ne (tgt := 28) hx hb (dt_at dt_Ref_step 12 rfl) (by decide) (fun c5 => ?_) (fun c5 => ?_)
      · have h := if_n h c5
        refine lv_iconst (v := 0) hx hb (dt_at dt_Ref_step 15 rfl) (by decide) ?_
        exact k_Ref_step_29 hC hA hK   (0 : Int32) v1 t2 g8 r1.2 H locs ls hP hD hS (lv_sub hl [1, 2, 0] rfl) h
      · have h := if_p h c5
        refine lv_iconst (v := 1) hx hb (dt_at dt_Ref_step 13 rfl) (by decide) ?_
        refine lv_goto (tgt := 29) hx hb (dt_at dt_Ref_step 14 rfl) (by decide) ?_
        exact k_Ref_step_29 hC hA hK   (1 : Int32) v1 t2 g8 r1.2 H locs ls hP hD hS (lv_sub hl [1, 2, 0] rfl) h
set_option maxRecDepth 100000 in
set_option maxHeartbeats 4000000 in
theorem c_Ref_step (l : Launch) (D : va_G) (a : Nat → Nat) (q : Nat → ClassId) (hd : va_D (fun _ => True) (dR a)) (sz : Nat) (a1 : Int64) (a3 : Int32) (g0 : Int32) (g1 : Nat → Int32) (g2 : Nat → Int64) (g3 : Nat → Int64) (g4 : Nat → Int32) (g5 : Int32) (g6 : Nat → Int32) (g7 : Int32) (g8 : Nat → Int32) (g9 : Int32) (g10 : Int64) (g11 : Int64) (g12 : Int32) (g13 : Int32) (g14 : Int32) (g15 : Int64) (g16 : Int32) (g17 : Int32) (g18 : Int64) (g19 : Int32) (r0 : Int64 × (Nat → Int32) × Int32) (h : f_Ref_step a1 a3 g8 g9 = some r0) : Met l (⟨"OutwardTapeModel", "step", "(JI)J"⟩ : MethodName) (WSm (⟨"OutwardTapeModel", "step", "(JI)J"⟩ : MethodName) prog_12_method_25_code 9 (some .long)) rm_Ref_step (va_Pc [.ref (a 0), .long a1, .int a3] (fun U => U.heap.size = sz ∧ va_P D CLS (wR a q g0 g1 g2 g3 g4 g5 g6 g7 g8 g9 g10 g11 g12 g13 g14 g15 g16 g17 g18 g19) U.heap ∧ va_K D CLS (tR q) U)) (va_Ql (fun (r : Int64) (_ : Unit) => r = r0.1) (fun _ t => va_P D CLS (wR a q g0 g1 g2 g3 g4 g5 g6 g7 r0.2.1 r0.2.2 g10 g11 g12 g13 g14 g15 g16 g17 g18 g19) t.heap) (va_A (dR a) sz)) 0 0 (va_A (dR a) sz) := by
  refine Met.ofW (cc := prog_12_method_25_code) (maxL := 9) (ret := (some .long)) (by decide) rfl ?_
  intro p e s m args below meth c s₁ B hml hv
  obtain ⟨rfl, hsz, hP, hK⟩ := hv
  subst hsz
  have hC := CX.of B hml rfl
  have hl := lv_entry [.ref (a 0), .long a1, .int a3] (n := 9) (Nat.le_of_ble_eq_true rfl)
  rw [lg_entry_eq]
  generalize (lg_sl [.ref (a 0), .long a1, .int a3] ++ List.replicate (9 - (lg_sl [.ref (a 0), .long a1, .int a3]).length) Slot.unset).toArray = ls at hl ⊢
  have hl : lv_has ls 9 [(0, .ref (a 0)), (1, .long a1), (3, .int a3)] := hl
  exact k_Ref_step_0 hC (fun x h => Or.inr h) hK a1 a3 g8 g9 s.heap [] ls hP (dD hd.self rfl) va_S.rf (lv_sub hl [0, 1, 2] rfl) h
abbrev rm_Ref_result : Room := { frames := 0, cells := 0, slots := 0, locals := 0 }
set_option maxRecDepth 100000 in
set_option maxHeartbeats 4000000 in
theorem k_Ref_result_0 {p : Program} {l : Launch} {e : Env} {s : State} {m : MethodId} {args : Array Value} {below : List Frame} {meth : Method} {c : Code} {D : va_G} {a : Nat → Nat} {q : Nat → ClassId} {A : Nat → Prop} (hC : CX p s m args meth c prog_12_method_31_code 5 "OutwardTapeModel" none) (hA : ∀ x, s.heap.size ≤ x → A x) (hK : va_K D CLS (tR q) s) {g0 : Int32} {g1 : Nat → Int32} {g2 : Nat → Int64} {g3 : Nat → Int64} {g4 : Nat → Int32} {g5 : Int32} {g6 : Nat → Int32} {g7 : Int32} {g8 : Nat → Int32} {g9 : Int32} {g12 : Int32} {g13 : Int32} {g14 : Int32} {g15 : Int64} {g16 : Int32} {g17 : Int32} {g18 : Int64} {g19 : Int32} {r0 : Int64 × Int64} : ∀ (v1 : Int64) (v3 : Int64) (g10 : Int64) (g11 : Int64) (H : Heap) (locs : List Loc) (ls : Array Slot), va_P D CLS (wR a q g0 g1 g2 g3 g4 g5 g6 g7 g8 g9 g10 g11 g12 g13 g14 g15 g16 g17 g18 g19) H → va_D A (wR a q g0 g1 g2 g3 g4 g5 g6 g7 g8 g9 g10 g11 g12 g13 g14 g15 g16 g17 g18 g19) → va_S A s.heap H locs → lv_has ls 5 [(0, .ref (a 0)), (1, .long v1), (3, .long v3)] → f_Ref_result_0  v1 v3 g10 g11 = some r0 → W p l e rm_Ref_result s m args below meth c H locs 0 0 (MQ below (va_Qv (fun _ : Unit => True) (fun _ t => va_P D CLS (wR a q g0 g1 g2 g3 g4 g5 g6 g7 g8 g9 r0.1 r0.2 g12 g13 g14 g15 g16 g17 g18 g19) t.heap) A) args s 0 0 A) (F0 m 0 ls []) := by
  obtain ⟨hx, hb, hml, hown, hts, hr, hlocks⟩ := id hC
  intro v1 v3 g10 g11 H locs ls hP hD hS hl h
  rw [f_Ref_result_0] at h
  refine lv_aload_n hx hb (dt_at dt_Ref_result 0 rfl) rfl (lv_at hl 0 rfl) ?_
  refine lv_lload_n hx hb (dt_at dt_Ref_result 1 rfl) rfl (lv_at hl 1 rfl) ?_
  refine va_put (D := D) (ci := 0) (v := .long v1) (ty := .long) (C := "OutwardTapeModel") (T := T_Ref) (N := 20) hx hb hts in_Ref ty_Ref tk_Ref nm_Ref hown hK hP hD hS 0 rfl rfl 10 (by decide) (hts (Cond.fieldLink "OutwardTapeModel" 126 "OutwardTapeModel" "resultLow" "J") (m_4 9 rfl rfl)) (fun _ h9 => h9) rfl (by decide +kernel) rfl rfl (Nat.le_of_ble_eq_true rfl) (dt_at dt_Ref_result 2 rfl) (fun H locs hP hD hS => ?_)
  have hP : va_P D CLS (wR a q g0 g1 g2 g3 g4 g5 g6 g7 g8 g9 v1 g11 g12 g13 g14 g15 g16 g17 g18 g19) H := hP
  have hD : va_D A (wR a q g0 g1 g2 g3 g4 g5 g6 g7 g8 g9 v1 g11 g12 g13 g14 g15 g16 g17 g18 g19) := hD
  refine lv_aload_n hx hb (dt_at dt_Ref_result 3 rfl) rfl (lv_at hl 0 rfl) ?_
  refine lv_lload_n hx hb (dt_at dt_Ref_result 4 rfl) rfl (lv_at hl 2 rfl) ?_
  refine va_put (D := D) (ci := 0) (v := .long v3) (ty := .long) (C := "OutwardTapeModel") (T := T_Ref) (N := 20) hx hb hts in_Ref ty_Ref tk_Ref nm_Ref hown hK hP hD hS 0 rfl rfl 11 (by decide) (hts (Cond.fieldLink "OutwardTapeModel" 130 "OutwardTapeModel" "resultHigh" "J") (m_4 10 rfl rfl)) (fun _ h9 => h9) rfl (by decide +kernel) rfl rfl (Nat.le_of_ble_eq_true rfl) (dt_at dt_Ref_result 5 rfl) (fun H locs hP hD hS => ?_)
  have hP : va_P D CLS (wR a q g0 g1 g2 g3 g4 g5 g6 g7 g8 g9 v1 v3 g12 g13 g14 g15 g16 g17 g18 g19) H := hP
  have hD : va_D A (wR a q g0 g1 g2 g3 g4 g5 g6 g7 g8 g9 v1 v3 g12 g13 g14 g15 g16 g17 g18 g19) := hD
  obtain rfl := os_of h
  exact W.vret hx hb hr (fun t ht hW => ⟨⟨(), rfl, trivial, (hPt hP ht)⟩, hS.F ht⟩) hS.2.2 (dt_at dt_Ref_result 6 rfl)
set_option maxRecDepth 100000 in
set_option maxHeartbeats 4000000 in
theorem c_Ref_result (l : Launch) (D : va_G) (a : Nat → Nat) (q : Nat → ClassId) (hd : va_D (fun _ => True) (dR a)) (sz : Nat) (a1 : Int64) (a3 : Int64) (g0 : Int32) (g1 : Nat → Int32) (g2 : Nat → Int64) (g3 : Nat → Int64) (g4 : Nat → Int32) (g5 : Int32) (g6 : Nat → Int32) (g7 : Int32) (g8 : Nat → Int32) (g9 : Int32) (g10 : Int64) (g11 : Int64) (g12 : Int32) (g13 : Int32) (g14 : Int32) (g15 : Int64) (g16 : Int32) (g17 : Int32) (g18 : Int64) (g19 : Int32) (r0 : Int64 × Int64) (h : f_Ref_result a1 a3 g10 g11 = some r0) : Met l (⟨"OutwardTapeModel", "result", "(JJ)V"⟩ : MethodName) (WSm (⟨"OutwardTapeModel", "result", "(JJ)V"⟩ : MethodName) prog_12_method_31_code 5 none) rm_Ref_result (va_Pc [.ref (a 0), .long a1, .long a3] (fun U => U.heap.size = sz ∧ va_P D CLS (wR a q g0 g1 g2 g3 g4 g5 g6 g7 g8 g9 g10 g11 g12 g13 g14 g15 g16 g17 g18 g19) U.heap ∧ va_K D CLS (tR q) U)) (va_Qv (fun _ : Unit => True) (fun _ t => va_P D CLS (wR a q g0 g1 g2 g3 g4 g5 g6 g7 g8 g9 r0.1 r0.2 g12 g13 g14 g15 g16 g17 g18 g19) t.heap) (va_A (dR a) sz)) 0 0 (va_A (dR a) sz) := by
  refine Met.ofW (cc := prog_12_method_31_code) (maxL := 5) (ret := none) (by decide) rfl ?_
  intro p e s m args below meth c s₁ B hml hv
  obtain ⟨rfl, hsz, hP, hK⟩ := hv
  subst hsz
  have hC := CX.of B hml rfl
  have hl := lv_entry [.ref (a 0), .long a1, .long a3] (n := 5) (Nat.le_of_ble_eq_true rfl)
  rw [lg_entry_eq]
  generalize (lg_sl [.ref (a 0), .long a1, .long a3] ++ List.replicate (5 - (lg_sl [.ref (a 0), .long a1, .long a3]).length) Slot.unset).toArray = ls at hl ⊢
  have hl : lv_has ls 5 [(0, .ref (a 0)), (1, .long a1), (3, .long a3)] := hl
  exact k_Ref_result_0 hC (fun x h => Or.inr h) hK a1 a3 g10 g11 s.heap [] ls hP (dD hd.self rfl) va_S.rf (lv_sub hl [0, 1, 2] rfl) h
abbrev rm_Ref_products : Room := { frames := 4, cells := 0, slots := 0, locals := 105 }
set_option maxRecDepth 100000 in
set_option maxHeartbeats 4000000 in
theorem k_Ref_products_0 {p : Program} {l : Launch} {e : Env} {s : State} {m : MethodId} {args : Array Value} {below : List Frame} {meth : Method} {c : Code} {D : va_G} {a : Nat → Nat} {q : Nat → ClassId} {A : Nat → Prop} (hC : CX p s m args meth c prog_12_method_32_code 13 "OutwardTapeModel" none) (hA : ∀ x, s.heap.size ≤ x → A x) (hK : va_K D CLS (tR q) s) {g0 : Int32} {g1 : Nat → Int32} {g2 : Nat → Int64} {g3 : Nat → Int64} {g4 : Nat → Int32} {g5 : Int32} {g6 : Nat → Int32} {g7 : Int32} {g12 : Int32} {g13 : Int32} {g14 : Int32} {g15 : Int64} {g16 : Int32} {g17 : Int32} {g18 : Int64} {g19 : Int32} {r0 : (Nat → Int32) × Int32 × Int64 × Int64} : ∀ (v1 : Int64) (v3 : Int64) (v5 : Int64) (v7 : Int64) (g8 : Nat → Int32) (g9 : Int32) (g10 : Int64) (g11 : Int64) (H : Heap) (locs : List Loc) (ls : Array Slot), va_P D CLS (wR a q g0 g1 g2 g3 g4 g5 g6 g7 g8 g9 g10 g11 g12 g13 g14 g15 g16 g17 g18 g19) H → va_D A (wR a q g0 g1 g2 g3 g4 g5 g6 g7 g8 g9 g10 g11 g12 g13 g14 g15 g16 g17 g18 g19) → va_S A s.heap H locs → lv_has ls 13 [(0, .ref (a 0)), (1, .long v1), (3, .long v3), (5, .long v5), (7, .long v7)] → f_Ref_products_0  v1 v3 v5 v7 g8 g9 g10 g11 = some r0 → W p l e rm_Ref_products s m args below meth c H locs 0 0 (MQ below (va_Qv (fun _ : Unit => True) (fun _ t => va_P D CLS (wR a q g0 g1 g2 g3 g4 g5 g6 g7 r0.1 r0.2.1 r0.2.2.1 r0.2.2.2 g12 g13 g14 g15 g16 g17 g18 g19) t.heap) A) args s 0 0 A) (F0 m 0 ls []) := by
  obtain ⟨hx, hb, hml, hown, hts, hr, hlocks⟩ := id hC
  intro v1 v3 v5 v7 g8 g9 g10 g11 H locs ls hP hD hS hl h
  rw [f_Ref_products_0] at h
  refine lv_aload_n hx hb (dt_at dt_Ref_products 0 rfl) rfl (lv_at hl 0 rfl) ?_
  refine lv_lload_n hx hb (dt_at dt_Ref_products 1 rfl) rfl (lv_at hl 1 rfl) ?_
  refine lv_lload hx hb (dt_at dt_Ref_products 2 rfl) (lv_at hl 3 rfl) ?_
  refine lv_iconst (v := 0) hx hb (dt_at dt_Ref_products 3 rfl) (by decide) ?_
  obtain ⟨r1, h_r1, h⟩ := ob_of h
  have hF := va_free (wc := dR a) (dD (ws' := dR a) hD rfl) hS hA [0, 1, 2, 3, 4, 5, 6] rfl
  have hd : va_D (fun _ => True) (dR a) := (dD (ws' := dR a) hD rfl).weaken (fun _ _ _ _ => trivial)
  refine va_calll (va_runV (As := [.long v1, .long v5, .int (0 : Int32)]) (rest := []) ⟨hx, hb, hml, hown, hts⟩ (c_Ref_product l D a q hd H.size v1 v5 (0 : Int32) g0 g1 g2 g3 g4 g5 g6 g7 g8 g9 g10 g11 g12 g13 g14 g15 g16 g17 g18 g19 r1 h_r1) (cwV 3 hts (gd_V (m_4 120 rfl rfl) (m_4 122 rfl rfl) (m_s 27 rfl rfl) (m_1 4 rfl rfl) (m_4 123 rfl rfl)) rfl rfl rfl (by decide +kernel) ⟨Nat.le_of_ble_eq_true rfl, Nat.le_of_ble_eq_true rfl⟩) ⟨fun a U g mk q => ⟨q.1, q.2.1, q.2.2.1, va_K.moved (u := U) (U := U.calling g mk a) (Vm.Alike.refl U.vm) q.2.2.2⟩, va_recv hK hP (ci := 0) (q0 := 0) rfl rfl, fun U hU hW => ⟨rfl, by rw [hU], by rw [hU]; exact hP, va_K.moved hW.alike hK⟩⟩ rfl rfl hl.1 rfl (lv_room (Nat.le_of_ble_eq_true rfl)) (dt_at dt_Ref_products 4 rfl) ⟨Nat.le_of_ble_eq_true rfl, Nat.le_of_ble_eq_true rfl⟩) hS (fun x _ h9 => hF x h9) hF (fun u_r1 uu t H locs ht hvm hw hB hz1 hk1 hS => ?_)
  rw [ht] at hB
  subst hw
  have hP : va_P D CLS (wR a q g0 g1 g2 g3 g4 g5 g6 g7 r1.2.1 r1.2.2 g10 g11 g12 g13 g14 g15 g16 g17 g18 g19) H := hB
  have hD : va_D A (wR a q g0 g1 g2 g3 g4 g5 g6 g7 r1.2.1 r1.2.2 g10 g11 g12 g13 g14 g15 g16 g17 g18 g19) := dD hD rfl
  refine lv_aload_n hx hb (dt_at dt_Ref_products 5 rfl) rfl (lv_at hl 0 rfl) ?_
  refine lv_lload_n hx hb (dt_at dt_Ref_products 6 rfl) rfl (lv_at hl 1 rfl) ?_
  refine lv_lload hx hb (dt_at dt_Ref_products 7 rfl) (lv_at hl 4 rfl) ?_
  refine lv_iconst (v := 0) hx hb (dt_at dt_Ref_products 8 rfl) (by decide) ?_
  obtain ⟨r2, h_r2, h⟩ := ob_of h
  have hF := va_free (wc := dR a) (dD (ws' := dR a) hD rfl) hS hA [0, 1, 2, 3, 4, 5, 6] rfl
  have hd : va_D (fun _ => True) (dR a) := (dD (ws' := dR a) hD rfl).weaken (fun _ _ _ _ => trivial)
  refine va_calll (va_runV (As := [.long v1, .long v7, .int (0 : Int32)]) (rest := [.long r1.1]) ⟨hx, hb, hml, hown, hts⟩ (c_Ref_product l D a q hd H.size v1 v7 (0 : Int32) g0 g1 g2 g3 g4 g5 g6 g7 r1.2.1 r1.2.2 g10 g11 g12 g13 g14 g15 g16 g17 g18 g19 r2 h_r2) (cwV 3 hts (gd_V (m_4 120 rfl rfl) (m_4 122 rfl rfl) (m_s 27 rfl rfl) (m_1 4 rfl rfl) (m_4 123 rfl rfl)) rfl rfl rfl (by decide +kernel) ⟨Nat.le_of_ble_eq_true rfl, Nat.le_of_ble_eq_true rfl⟩) ⟨fun a U g mk q => ⟨q.1, q.2.1, q.2.2.1, va_K.moved (u := U) (U := U.calling g mk a) (Vm.Alike.refl U.vm) q.2.2.2⟩, va_recv hK hP (ci := 0) (q0 := 0) rfl rfl, fun U hU hW => ⟨rfl, by rw [hU], by rw [hU]; exact hP, va_K.moved hW.alike hK⟩⟩ rfl rfl hl.1 rfl (lv_room (Nat.le_of_ble_eq_true rfl)) (dt_at dt_Ref_products 9 rfl) ⟨Nat.le_of_ble_eq_true rfl, Nat.le_of_ble_eq_true rfl⟩) hS (fun x _ h9 => hF x h9) hF (fun u_r2 uu t H locs ht hvm hw hB hz1 hk1 hS => ?_)
  rw [ht] at hB
  subst hw
  have hP : va_P D CLS (wR a q g0 g1 g2 g3 g4 g5 g6 g7 r2.2.1 r2.2.2 g10 g11 g12 g13 g14 g15 g16 g17 g18 g19) H := hB
  have hD : va_D A (wR a q g0 g1 g2 g3 g4 g5 g6 g7 r2.2.1 r2.2.2 g10 g11 g12 g13 g14 g15 g16 g17 g18 g19) := dD hD rfl
  obtain ⟨r3, h_r3, h⟩ := ob_of h
  refine vp_callSl (W.runS (As := [.long r1.1, .long r2.1]) (rest := []) ⟨hx, hb, hml, hown, hts⟩ (c_Ref_less l r1.1 r2.1 r3 h_r3) (va_cwS 2 hts (gd_S (m_4 111 rfl rfl) (m_4 112 rfl rfl) (m_1 4 rfl rfl) (m_4 113 rfl rfl)) rfl rfl rfl (by decide +kernel) ⟨Nat.le_of_ble_eq_true rfl, Nat.le_of_ble_eq_true rfl⟩) ⟨fun _ _ _ _ q => q, fun U hU hW => ⟨rfl, trivial⟩⟩ rfl rfl hl.1 rfl (lv_room (Nat.le_of_ble_eq_true rfl)) (dt_at dt_Ref_products 10 rfl) ⟨Nat.le_of_ble_eq_true rfl, Nat.le_of_ble_eq_true rfl⟩) (fun u_r3 q_r3 => ?_)
  obtain rfl : r3 = u_r3 := q_r3.symm
  refine lv_aload_n hx hb (dt_at dt_Ref_products 11 rfl) rfl (lv_at hl 0 rfl) ?_
  refine lv_lload_n hx hb (dt_at dt_Ref_products 12 rfl) rfl (lv_at hl 2 rfl) ?_
  refine lv_lload hx hb (dt_at dt_Ref_products 13 rfl) (lv_at hl 3 rfl) ?_
  refine lv_iconst (v := 0) hx hb (dt_at dt_Ref_products 14 rfl) (by decide) ?_
  obtain ⟨r4, h_r4, h⟩ := ob_of h
  have hF := va_free (wc := dR a) (dD (ws' := dR a) hD rfl) hS hA [0, 1, 2, 3, 4, 5, 6] rfl
  have hd : va_D (fun _ => True) (dR a) := (dD (ws' := dR a) hD rfl).weaken (fun _ _ _ _ => trivial)
  refine va_calll (va_runV (As := [.long v3, .long v5, .int (0 : Int32)]) (rest := [.long r3]) ⟨hx, hb, hml, hown, hts⟩ (c_Ref_product l D a q hd H.size v3 v5 (0 : Int32) g0 g1 g2 g3 g4 g5 g6 g7 r2.2.1 r2.2.2 g10 g11 g12 g13 g14 g15 g16 g17 g18 g19 r4 h_r4) (cwV 3 hts (gd_V (m_4 120 rfl rfl) (m_4 122 rfl rfl) (m_s 27 rfl rfl) (m_1 4 rfl rfl) (m_4 123 rfl rfl)) rfl rfl rfl (by decide +kernel) ⟨Nat.le_of_ble_eq_true rfl, Nat.le_of_ble_eq_true rfl⟩) ⟨fun a U g mk q => ⟨q.1, q.2.1, q.2.2.1, va_K.moved (u := U) (U := U.calling g mk a) (Vm.Alike.refl U.vm) q.2.2.2⟩, va_recv hK hP (ci := 0) (q0 := 0) rfl rfl, fun U hU hW => ⟨rfl, by rw [hU], by rw [hU]; exact hP, va_K.moved hW.alike hK⟩⟩ rfl rfl hl.1 rfl (lv_room (Nat.le_of_ble_eq_true rfl)) (dt_at dt_Ref_products 15 rfl) ⟨Nat.le_of_ble_eq_true rfl, Nat.le_of_ble_eq_true rfl⟩) hS (fun x _ h9 => hF x h9) hF (fun u_r4 uu t H locs ht hvm hw hB hz1 hk1 hS => ?_)
  rw [ht] at hB
  subst hw
  have hP : va_P D CLS (wR a q g0 g1 g2 g3 g4 g5 g6 g7 r4.2.1 r4.2.2 g10 g11 g12 g13 g14 g15 g16 g17 g18 g19) H := hB
  have hD : va_D A (wR a q g0 g1 g2 g3 g4 g5 g6 g7 r4.2.1 r4.2.2 g10 g11 g12 g13 g14 g15 g16 g17 g18 g19) := dD hD rfl
  refine lv_aload_n hx hb (dt_at dt_Ref_products 16 rfl) rfl (lv_at hl 0 rfl) ?_
  refine lv_lload_n hx hb (dt_at dt_Ref_products 17 rfl) rfl (lv_at hl 2 rfl) ?_
  refine lv_lload hx hb (dt_at dt_Ref_products 18 rfl) (lv_at hl 4 rfl) ?_
  refine lv_iconst (v := 0) hx hb (dt_at dt_Ref_products 19 rfl) (by decide) ?_
  obtain ⟨r5, h_r5, h⟩ := ob_of h
  have hF := va_free (wc := dR a) (dD (ws' := dR a) hD rfl) hS hA [0, 1, 2, 3, 4, 5, 6] rfl
  have hd : va_D (fun _ => True) (dR a) := (dD (ws' := dR a) hD rfl).weaken (fun _ _ _ _ => trivial)
  refine va_calll (va_runV (As := [.long v3, .long v7, .int (0 : Int32)]) (rest := [.long r4.1, .long r3]) ⟨hx, hb, hml, hown, hts⟩ (c_Ref_product l D a q hd H.size v3 v7 (0 : Int32) g0 g1 g2 g3 g4 g5 g6 g7 r4.2.1 r4.2.2 g10 g11 g12 g13 g14 g15 g16 g17 g18 g19 r5 h_r5) (cwV 3 hts (gd_V (m_4 120 rfl rfl) (m_4 122 rfl rfl) (m_s 27 rfl rfl) (m_1 4 rfl rfl) (m_4 123 rfl rfl)) rfl rfl rfl (by decide +kernel) ⟨Nat.le_of_ble_eq_true rfl, Nat.le_of_ble_eq_true rfl⟩) ⟨fun a U g mk q => ⟨q.1, q.2.1, q.2.2.1, va_K.moved (u := U) (U := U.calling g mk a) (Vm.Alike.refl U.vm) q.2.2.2⟩, va_recv hK hP (ci := 0) (q0 := 0) rfl rfl, fun U hU hW => ⟨rfl, by rw [hU], by rw [hU]; exact hP, va_K.moved hW.alike hK⟩⟩ rfl rfl hl.1 rfl (lv_room (Nat.le_of_ble_eq_true rfl)) (dt_at dt_Ref_products 20 rfl) ⟨Nat.le_of_ble_eq_true rfl, Nat.le_of_ble_eq_true rfl⟩) hS (fun x _ h9 => hF x h9) hF (fun u_r5 uu t H locs ht hvm hw hB hz1 hk1 hS => ?_)
  rw [ht] at hB
  subst hw
  have hP : va_P D CLS (wR a q g0 g1 g2 g3 g4 g5 g6 g7 r5.2.1 r5.2.2 g10 g11 g12 g13 g14 g15 g16 g17 g18 g19) H := hB
  have hD : va_D A (wR a q g0 g1 g2 g3 g4 g5 g6 g7 r5.2.1 r5.2.2 g10 g11 g12 g13 g14 g15 g16 g17 g18 g19) := dD hD rfl
  obtain ⟨r6, h_r6, h⟩ := ob_of h
  refine vp_callSl (W.runS (As := [.long r4.1, .long r5.1]) (rest := [.long r3]) ⟨hx, hb, hml, hown, hts⟩ (c_Ref_less l r4.1 r5.1 r6 h_r6) (va_cwS 2 hts (gd_S (m_4 111 rfl rfl) (m_4 112 rfl rfl) (m_1 4 rfl rfl) (m_4 113 rfl rfl)) rfl rfl rfl (by decide +kernel) ⟨Nat.le_of_ble_eq_true rfl, Nat.le_of_ble_eq_true rfl⟩) ⟨fun _ _ _ _ q => q, fun U hU hW => ⟨rfl, trivial⟩⟩ rfl rfl hl.1 rfl (lv_room (Nat.le_of_ble_eq_true rfl)) (dt_at dt_Ref_products 21 rfl) ⟨Nat.le_of_ble_eq_true rfl, Nat.le_of_ble_eq_true rfl⟩) (fun u_r6 q_r6 => ?_)
  obtain rfl : r6 = u_r6 := q_r6.symm
  obtain ⟨r7, h_r7, h⟩ := ob_of h
  refine vp_callSl (W.runS (As := [.long r3, .long r6]) (rest := []) ⟨hx, hb, hml, hown, hts⟩ (c_Ref_less l r3 r6 r7 h_r7) (va_cwS 2 hts (gd_S (m_4 111 rfl rfl) (m_4 112 rfl rfl) (m_1 4 rfl rfl) (m_4 113 rfl rfl)) rfl rfl rfl (by decide +kernel) ⟨Nat.le_of_ble_eq_true rfl, Nat.le_of_ble_eq_true rfl⟩) ⟨fun _ _ _ _ q => q, fun U hU hW => ⟨rfl, trivial⟩⟩ rfl rfl hl.1 rfl (lv_room (Nat.le_of_ble_eq_true rfl)) (dt_at dt_Ref_products 22 rfl) ⟨Nat.le_of_ble_eq_true rfl, Nat.le_of_ble_eq_true rfl⟩) (fun u_r7 q_r7 => ?_)
  obtain rfl : r7 = u_r7 := q_r7.symm
  refine lv_lstore (lv' := [(9, .long r7), (0, .ref (a 0)), (1, .long v1), (3, .long v3), (5, .long v5), (7, .long v7)]) hx hb (dt_at dt_Ref_products 23 rfl) hl (by decide) rfl (fun ls hl => ?_)
  refine lv_aload_n hx hb (dt_at dt_Ref_products 24 rfl) rfl (lv_at hl 1 rfl) ?_
  refine lv_lload_n hx hb (dt_at dt_Ref_products 25 rfl) rfl (lv_at hl 2 rfl) ?_
  refine lv_lload hx hb (dt_at dt_Ref_products 26 rfl) (lv_at hl 4 rfl) ?_
  refine lv_iconst (v := 1) hx hb (dt_at dt_Ref_products 27 rfl) (by decide) ?_
  obtain ⟨r8, h_r8, h⟩ := ob_of h
  have hF := va_free (wc := dR a) (dD (ws' := dR a) hD rfl) hS hA [0, 1, 2, 3, 4, 5, 6] rfl
  have hd : va_D (fun _ => True) (dR a) := (dD (ws' := dR a) hD rfl).weaken (fun _ _ _ _ => trivial)
  refine va_calll (va_runV (As := [.long v1, .long v5, .int (1 : Int32)]) (rest := []) ⟨hx, hb, hml, hown, hts⟩ (c_Ref_product l D a q hd H.size v1 v5 (1 : Int32) g0 g1 g2 g3 g4 g5 g6 g7 r5.2.1 r5.2.2 g10 g11 g12 g13 g14 g15 g16 g17 g18 g19 r8 h_r8) (cwV 3 hts (gd_V (m_4 120 rfl rfl) (m_4 122 rfl rfl) (m_s 27 rfl rfl) (m_1 4 rfl rfl) (m_4 123 rfl rfl)) rfl rfl rfl (by decide +kernel) ⟨Nat.le_of_ble_eq_true rfl, Nat.le_of_ble_eq_true rfl⟩) ⟨fun a U g mk q => ⟨q.1, q.2.1, q.2.2.1, va_K.moved (u := U) (U := U.calling g mk a) (Vm.Alike.refl U.vm) q.2.2.2⟩, va_recv hK hP (ci := 0) (q0 := 0) rfl rfl, fun U hU hW => ⟨rfl, by rw [hU], by rw [hU]; exact hP, va_K.moved hW.alike hK⟩⟩ rfl rfl hl.1 rfl (lv_room (Nat.le_of_ble_eq_true rfl)) (dt_at dt_Ref_products 28 rfl) ⟨Nat.le_of_ble_eq_true rfl, Nat.le_of_ble_eq_true rfl⟩) hS (fun x _ h9 => hF x h9) hF (fun u_r8 uu t H locs ht hvm hw hB hz1 hk1 hS => ?_)
  rw [ht] at hB
  subst hw
  have hP : va_P D CLS (wR a q g0 g1 g2 g3 g4 g5 g6 g7 r8.2.1 r8.2.2 g10 g11 g12 g13 g14 g15 g16 g17 g18 g19) H := hB
  have hD : va_D A (wR a q g0 g1 g2 g3 g4 g5 g6 g7 r8.2.1 r8.2.2 g10 g11 g12 g13 g14 g15 g16 g17 g18 g19) := dD hD rfl
  refine lv_aload_n hx hb (dt_at dt_Ref_products 29 rfl) rfl (lv_at hl 1 rfl) ?_
  refine lv_lload_n hx hb (dt_at dt_Ref_products 30 rfl) rfl (lv_at hl 2 rfl) ?_
  refine lv_lload hx hb (dt_at dt_Ref_products 31 rfl) (lv_at hl 5 rfl) ?_
  refine lv_iconst (v := 1) hx hb (dt_at dt_Ref_products 32 rfl) (by decide) ?_
  obtain ⟨r9, h_r9, h⟩ := ob_of h
  have hF := va_free (wc := dR a) (dD (ws' := dR a) hD rfl) hS hA [0, 1, 2, 3, 4, 5, 6] rfl
  have hd : va_D (fun _ => True) (dR a) := (dD (ws' := dR a) hD rfl).weaken (fun _ _ _ _ => trivial)
  refine va_calll (va_runV (As := [.long v1, .long v7, .int (1 : Int32)]) (rest := [.long r8.1]) ⟨hx, hb, hml, hown, hts⟩ (c_Ref_product l D a q hd H.size v1 v7 (1 : Int32) g0 g1 g2 g3 g4 g5 g6 g7 r8.2.1 r8.2.2 g10 g11 g12 g13 g14 g15 g16 g17 g18 g19 r9 h_r9) (cwV 3 hts (gd_V (m_4 120 rfl rfl) (m_4 122 rfl rfl) (m_s 27 rfl rfl) (m_1 4 rfl rfl) (m_4 123 rfl rfl)) rfl rfl rfl (by decide +kernel) ⟨Nat.le_of_ble_eq_true rfl, Nat.le_of_ble_eq_true rfl⟩) ⟨fun a U g mk q => ⟨q.1, q.2.1, q.2.2.1, va_K.moved (u := U) (U := U.calling g mk a) (Vm.Alike.refl U.vm) q.2.2.2⟩, va_recv hK hP (ci := 0) (q0 := 0) rfl rfl, fun U hU hW => ⟨rfl, by rw [hU], by rw [hU]; exact hP, va_K.moved hW.alike hK⟩⟩ rfl rfl hl.1 rfl (lv_room (Nat.le_of_ble_eq_true rfl)) (dt_at dt_Ref_products 33 rfl) ⟨Nat.le_of_ble_eq_true rfl, Nat.le_of_ble_eq_true rfl⟩) hS (fun x _ h9 => hF x h9) hF (fun u_r9 uu t H locs ht hvm hw hB hz1 hk1 hS => ?_)
  rw [ht] at hB
  subst hw
  have hP : va_P D CLS (wR a q g0 g1 g2 g3 g4 g5 g6 g7 r9.2.1 r9.2.2 g10 g11 g12 g13 g14 g15 g16 g17 g18 g19) H := hB
  have hD : va_D A (wR a q g0 g1 g2 g3 g4 g5 g6 g7 r9.2.1 r9.2.2 g10 g11 g12 g13 g14 g15 g16 g17 g18 g19) := dD hD rfl
  obtain ⟨r10, h_r10, h⟩ := ob_of h
  refine vp_callSl (W.runS (As := [.long r8.1, .long r9.1]) (rest := []) ⟨hx, hb, hml, hown, hts⟩ (c_Ref_greater l r8.1 r9.1 r10 h_r10) (va_cwS 2 hts (gd_S (m_4 117 rfl rfl) (m_4 118 rfl rfl) (m_1 4 rfl rfl) (m_4 119 rfl rfl)) rfl rfl rfl (by decide +kernel) ⟨Nat.le_of_ble_eq_true rfl, Nat.le_of_ble_eq_true rfl⟩) ⟨fun _ _ _ _ q => q, fun U hU hW => ⟨rfl, trivial⟩⟩ rfl rfl hl.1 rfl (lv_room (Nat.le_of_ble_eq_true rfl)) (dt_at dt_Ref_products 34 rfl) ⟨Nat.le_of_ble_eq_true rfl, Nat.le_of_ble_eq_true rfl⟩) (fun u_r10 q_r10 => ?_)
  obtain rfl : r10 = u_r10 := q_r10.symm
  refine lv_aload_n hx hb (dt_at dt_Ref_products 35 rfl) rfl (lv_at hl 1 rfl) ?_
  refine lv_lload_n hx hb (dt_at dt_Ref_products 36 rfl) rfl (lv_at hl 3 rfl) ?_
  refine lv_lload hx hb (dt_at dt_Ref_products 37 rfl) (lv_at hl 4 rfl) ?_
  refine lv_iconst (v := 1) hx hb (dt_at dt_Ref_products 38 rfl) (by decide) ?_
  obtain ⟨r11, h_r11, h⟩ := ob_of h
  have hF := va_free (wc := dR a) (dD (ws' := dR a) hD rfl) hS hA [0, 1, 2, 3, 4, 5, 6] rfl
  have hd : va_D (fun _ => True) (dR a) := (dD (ws' := dR a) hD rfl).weaken (fun _ _ _ _ => trivial)
  refine va_calll (va_runV (As := [.long v3, .long v5, .int (1 : Int32)]) (rest := [.long r10]) ⟨hx, hb, hml, hown, hts⟩ (c_Ref_product l D a q hd H.size v3 v5 (1 : Int32) g0 g1 g2 g3 g4 g5 g6 g7 r9.2.1 r9.2.2 g10 g11 g12 g13 g14 g15 g16 g17 g18 g19 r11 h_r11) (cwV 3 hts (gd_V (m_4 120 rfl rfl) (m_4 122 rfl rfl) (m_s 27 rfl rfl) (m_1 4 rfl rfl) (m_4 123 rfl rfl)) rfl rfl rfl (by decide +kernel) ⟨Nat.le_of_ble_eq_true rfl, Nat.le_of_ble_eq_true rfl⟩) ⟨fun a U g mk q => ⟨q.1, q.2.1, q.2.2.1, va_K.moved (u := U) (U := U.calling g mk a) (Vm.Alike.refl U.vm) q.2.2.2⟩, va_recv hK hP (ci := 0) (q0 := 0) rfl rfl, fun U hU hW => ⟨rfl, by rw [hU], by rw [hU]; exact hP, va_K.moved hW.alike hK⟩⟩ rfl rfl hl.1 rfl (lv_room (Nat.le_of_ble_eq_true rfl)) (dt_at dt_Ref_products 39 rfl) ⟨Nat.le_of_ble_eq_true rfl, Nat.le_of_ble_eq_true rfl⟩) hS (fun x _ h9 => hF x h9) hF (fun u_r11 uu t H locs ht hvm hw hB hz1 hk1 hS => ?_)
  rw [ht] at hB
  subst hw
  have hP : va_P D CLS (wR a q g0 g1 g2 g3 g4 g5 g6 g7 r11.2.1 r11.2.2 g10 g11 g12 g13 g14 g15 g16 g17 g18 g19) H := hB
  have hD : va_D A (wR a q g0 g1 g2 g3 g4 g5 g6 g7 r11.2.1 r11.2.2 g10 g11 g12 g13 g14 g15 g16 g17 g18 g19) := dD hD rfl
  refine lv_aload_n hx hb (dt_at dt_Ref_products 40 rfl) rfl (lv_at hl 1 rfl) ?_
  refine lv_lload_n hx hb (dt_at dt_Ref_products 41 rfl) rfl (lv_at hl 3 rfl) ?_
  refine lv_lload hx hb (dt_at dt_Ref_products 42 rfl) (lv_at hl 5 rfl) ?_
  refine lv_iconst (v := 1) hx hb (dt_at dt_Ref_products 43 rfl) (by decide) ?_
  obtain ⟨r12, h_r12, h⟩ := ob_of h
  have hF := va_free (wc := dR a) (dD (ws' := dR a) hD rfl) hS hA [0, 1, 2, 3, 4, 5, 6] rfl
  have hd : va_D (fun _ => True) (dR a) := (dD (ws' := dR a) hD rfl).weaken (fun _ _ _ _ => trivial)
  refine va_calll (va_runV (As := [.long v3, .long v7, .int (1 : Int32)]) (rest := [.long r11.1, .long r10]) ⟨hx, hb, hml, hown, hts⟩ (c_Ref_product l D a q hd H.size v3 v7 (1 : Int32) g0 g1 g2 g3 g4 g5 g6 g7 r11.2.1 r11.2.2 g10 g11 g12 g13 g14 g15 g16 g17 g18 g19 r12 h_r12) (cwV 3 hts (gd_V (m_4 120 rfl rfl) (m_4 122 rfl rfl) (m_s 27 rfl rfl) (m_1 4 rfl rfl) (m_4 123 rfl rfl)) rfl rfl rfl (by decide +kernel) ⟨Nat.le_of_ble_eq_true rfl, Nat.le_of_ble_eq_true rfl⟩) ⟨fun a U g mk q => ⟨q.1, q.2.1, q.2.2.1, va_K.moved (u := U) (U := U.calling g mk a) (Vm.Alike.refl U.vm) q.2.2.2⟩, va_recv hK hP (ci := 0) (q0 := 0) rfl rfl, fun U hU hW => ⟨rfl, by rw [hU], by rw [hU]; exact hP, va_K.moved hW.alike hK⟩⟩ rfl rfl hl.1 rfl (lv_room (Nat.le_of_ble_eq_true rfl)) (dt_at dt_Ref_products 44 rfl) ⟨Nat.le_of_ble_eq_true rfl, Nat.le_of_ble_eq_true rfl⟩) hS (fun x _ h9 => hF x h9) hF (fun u_r12 uu t H locs ht hvm hw hB hz1 hk1 hS => ?_)
  rw [ht] at hB
  subst hw
  have hP : va_P D CLS (wR a q g0 g1 g2 g3 g4 g5 g6 g7 r12.2.1 r12.2.2 g10 g11 g12 g13 g14 g15 g16 g17 g18 g19) H := hB
  have hD : va_D A (wR a q g0 g1 g2 g3 g4 g5 g6 g7 r12.2.1 r12.2.2 g10 g11 g12 g13 g14 g15 g16 g17 g18 g19) := dD hD rfl
  obtain ⟨r13, h_r13, h⟩ := ob_of h
  refine vp_callSl (W.runS (As := [.long r11.1, .long r12.1]) (rest := [.long r10]) ⟨hx, hb, hml, hown, hts⟩ (c_Ref_greater l r11.1 r12.1 r13 h_r13) (va_cwS 2 hts (gd_S (m_4 117 rfl rfl) (m_4 118 rfl rfl) (m_1 4 rfl rfl) (m_4 119 rfl rfl)) rfl rfl rfl (by decide +kernel) ⟨Nat.le_of_ble_eq_true rfl, Nat.le_of_ble_eq_true rfl⟩) ⟨fun _ _ _ _ q => q, fun U hU hW => ⟨rfl, trivial⟩⟩ rfl rfl hl.1 rfl (lv_room (Nat.le_of_ble_eq_true rfl)) (dt_at dt_Ref_products 45 rfl) ⟨Nat.le_of_ble_eq_true rfl, Nat.le_of_ble_eq_true rfl⟩) (fun u_r13 q_r13 => ?_)
  obtain rfl : r13 = u_r13 := q_r13.symm
  obtain ⟨r14, h_r14, h⟩ := ob_of h
  refine vp_callSl (W.runS (As := [.long r10, .long r13]) (rest := []) ⟨hx, hb, hml, hown, hts⟩ (c_Ref_greater l r10 r13 r14 h_r14) (va_cwS 2 hts (gd_S (m_4 117 rfl rfl) (m_4 118 rfl rfl) (m_1 4 rfl rfl) (m_4 119 rfl rfl)) rfl rfl rfl (by decide +kernel) ⟨Nat.le_of_ble_eq_true rfl, Nat.le_of_ble_eq_true rfl⟩) ⟨fun _ _ _ _ q => q, fun U hU hW => ⟨rfl, trivial⟩⟩ rfl rfl hl.1 rfl (lv_room (Nat.le_of_ble_eq_true rfl)) (dt_at dt_Ref_products 46 rfl) ⟨Nat.le_of_ble_eq_true rfl, Nat.le_of_ble_eq_true rfl⟩) (fun u_r14 q_r14 => ?_)
  obtain rfl : r14 = u_r14 := q_r14.symm
  refine lv_lstore (lv' := [(11, .long r14), (9, .long r7), (0, .ref (a 0)), (1, .long v1), (3, .long v3), (5, .long v5), (7, .long v7)]) hx hb (dt_at dt_Ref_products 47 rfl) hl (by decide) rfl (fun ls hl => ?_)
  refine lv_aload_n hx hb (dt_at dt_Ref_products 48 rfl) rfl (lv_at hl 2 rfl) ?_
  refine lv_lload hx hb (dt_at dt_Ref_products 49 rfl) (lv_at hl 1 rfl) ?_
  refine lv_lload hx hb (dt_at dt_Ref_products 50 rfl) (lv_at hl 0 rfl) ?_
  obtain ⟨r15, h_r15, h⟩ := ob_of h
  have hF := va_free (wc := dR a) (dD (ws' := dR a) hD rfl) hS hA [0, 1, 2, 3, 4, 5, 6] rfl
  have hd : va_D (fun _ => True) (dR a) := (dD (ws' := dR a) hD rfl).weaken (fun _ _ _ _ => trivial)
  refine va_callv (va_runV (As := [.long r7, .long r14]) (rest := []) ⟨hx, hb, hml, hown, hts⟩ (c_Ref_result l D a q hd H.size r7 r14 g0 g1 g2 g3 g4 g5 g6 g7 r12.2.1 r12.2.2 g10 g11 g12 g13 g14 g15 g16 g17 g18 g19 r15 h_r15) (cwV 2 hts (gd_V (m_4 104 rfl rfl) (m_4 106 rfl rfl) (m_s 26 rfl rfl) (m_1 4 rfl rfl) (m_4 107 rfl rfl)) rfl rfl rfl (by decide +kernel) ⟨Nat.le_of_ble_eq_true rfl, Nat.le_of_ble_eq_true rfl⟩) ⟨fun a U g mk q => ⟨q.1, q.2.1, q.2.2.1, va_K.moved (u := U) (U := U.calling g mk a) (Vm.Alike.refl U.vm) q.2.2.2⟩, va_recv hK hP (ci := 0) (q0 := 0) rfl rfl, fun U hU hW => ⟨rfl, by rw [hU], by rw [hU]; exact hP, va_K.moved hW.alike hK⟩⟩ rfl rfl hl.1 rfl (lv_room (Nat.le_of_ble_eq_true rfl)) (dt_at dt_Ref_products 51 rfl) ⟨Nat.le_of_ble_eq_true rfl, Nat.le_of_ble_eq_true rfl⟩) hS (fun x _ h9 => hF x h9) hF (fun uu t H locs ht hvm hw hB hz1 hk1 hS => ?_)
  rw [ht] at hB
  have hP : va_P D CLS (wR a q g0 g1 g2 g3 g4 g5 g6 g7 r12.2.1 r12.2.2 r15.1 r15.2 g12 g13 g14 g15 g16 g17 g18 g19) H := hB
  have hD : va_D A (wR a q g0 g1 g2 g3 g4 g5 g6 g7 r12.2.1 r12.2.2 r15.1 r15.2 g12 g13 g14 g15 g16 g17 g18 g19) := dD hD rfl
  obtain rfl := os_of h
  exact W.vret hx hb hr (fun t ht hW => ⟨⟨(), rfl, trivial, (hPt hP ht)⟩, hS.F ht⟩) hS.2.2 (dt_at dt_Ref_products 52 rfl)
set_option maxRecDepth 100000 in
set_option maxHeartbeats 4000000 in
theorem c_Ref_products (l : Launch) (D : va_G) (a : Nat → Nat) (q : Nat → ClassId) (hd : va_D (fun _ => True) (dR a)) (sz : Nat) (a1 : Int64) (a3 : Int64) (a5 : Int64) (a7 : Int64) (g0 : Int32) (g1 : Nat → Int32) (g2 : Nat → Int64) (g3 : Nat → Int64) (g4 : Nat → Int32) (g5 : Int32) (g6 : Nat → Int32) (g7 : Int32) (g8 : Nat → Int32) (g9 : Int32) (g10 : Int64) (g11 : Int64) (g12 : Int32) (g13 : Int32) (g14 : Int32) (g15 : Int64) (g16 : Int32) (g17 : Int32) (g18 : Int64) (g19 : Int32) (r0 : (Nat → Int32) × Int32 × Int64 × Int64) (h : f_Ref_products a1 a3 a5 a7 g8 g9 g10 g11 = some r0) : Met l (⟨"OutwardTapeModel", "products", "(JJJJ)V"⟩ : MethodName) (WSm (⟨"OutwardTapeModel", "products", "(JJJJ)V"⟩ : MethodName) prog_12_method_32_code 13 none) rm_Ref_products (va_Pc [.ref (a 0), .long a1, .long a3, .long a5, .long a7] (fun U => U.heap.size = sz ∧ va_P D CLS (wR a q g0 g1 g2 g3 g4 g5 g6 g7 g8 g9 g10 g11 g12 g13 g14 g15 g16 g17 g18 g19) U.heap ∧ va_K D CLS (tR q) U)) (va_Qv (fun _ : Unit => True) (fun _ t => va_P D CLS (wR a q g0 g1 g2 g3 g4 g5 g6 g7 r0.1 r0.2.1 r0.2.2.1 r0.2.2.2 g12 g13 g14 g15 g16 g17 g18 g19) t.heap) (va_A (dR a) sz)) 0 0 (va_A (dR a) sz) := by
  refine Met.ofW (cc := prog_12_method_32_code) (maxL := 13) (ret := none) (by decide) rfl ?_
  intro p e s m args below meth c s₁ B hml hv
  obtain ⟨rfl, hsz, hP, hK⟩ := hv
  subst hsz
  have hC := CX.of B hml rfl
  have hl := lv_entry [.ref (a 0), .long a1, .long a3, .long a5, .long a7] (n := 13) (Nat.le_of_ble_eq_true rfl)
  rw [lg_entry_eq]
  generalize (lg_sl [.ref (a 0), .long a1, .long a3, .long a5, .long a7] ++ List.replicate (13 - (lg_sl [.ref (a 0), .long a1, .long a3, .long a5, .long a7]).length) Slot.unset).toArray = ls at hl ⊢
  have hl : lv_has ls 13 [(0, .ref (a 0)), (1, .long a1), (3, .long a3), (5, .long a5), (7, .long a7)] := hl
  exact k_Ref_products_0 hC (fun x h => Or.inr h) hK a1 a3 a5 a7 g8 g9 g10 g11 s.heap [] ls hP (dD hd.self rfl) va_S.rf (lv_sub hl [0, 1, 2, 3, 4] rfl) h
abbrev rm_Ref_parts : Room := { frames := 4, cells := 0, slots := 0, locals := 105 }
set_option maxRecDepth 100000 in
set_option maxHeartbeats 4000000 in
theorem k_Ref_parts_92 {p : Program} {l : Launch} {e : Env} {s : State} {m : MethodId} {args : Array Value} {below : List Frame} {meth : Method} {c : Code} {D : va_G} {a : Nat → Nat} {q : Nat → ClassId} {A : Nat → Prop} (hC : CX p s m args meth c prog_12_method_33_code 13 "OutwardTapeModel" none) (hA : ∀ x, s.heap.size ≤ x → A x) (hK : va_K D CLS (tR q) s) {g0 : Int32} {g1 : Nat → Int32} {g2 : Nat → Int64} {g3 : Nat → Int64} {g4 : Nat → Int32} {g5 : Int32} {g6 : Nat → Int32} {g7 : Int32} {g12 : Int32} {g13 : Int32} {g14 : Int32} {g15 : Int64} {g16 : Int32} {g17 : Int32} {g18 : Int64} {g19 : Int32} {r0 : (Nat → Int32) × Int32 × Int64 × Int64} : ∀ (s0 : Int64) (v9 : Int64) (g8 : Nat → Int32) (g9 : Int32) (g10 : Int64) (g11 : Int64) (H : Heap) (locs : List Loc) (ls : Array Slot), va_P D CLS (wR a q g0 g1 g2 g3 g4 g5 g6 g7 g8 g9 g10 g11 g12 g13 g14 g15 g16 g17 g18 g19) H → va_D A (wR a q g0 g1 g2 g3 g4 g5 g6 g7 g8 g9 g10 g11 g12 g13 g14 g15 g16 g17 g18 g19) → va_S A s.heap H locs → lv_has ls 13 [(0, .ref (a 0)), (9, .long v9)] → f_Ref_parts_92  s0 v9 g8 g9 g10 g11 = some r0 → W p l e rm_Ref_parts s m args below meth c H locs 0 0 (MQ below (va_Qv (fun _ : Unit => True) (fun _ t => va_P D CLS (wR a q g0 g1 g2 g3 g4 g5 g6 g7 r0.1 r0.2.1 r0.2.2.1 r0.2.2.2 g12 g13 g14 g15 g16 g17 g18 g19) t.heap) A) args s 0 0 A) (F0 m 92 ls [.long s0]) := by
  obtain ⟨hx, hb, hml, hown, hts, hr, hlocks⟩ := id hC
  intro s0 v9 g8 g9 g10 g11 H locs ls hP hD hS hl h
  rw [f_Ref_parts_92] at h
  refine lv_lstore (lv' := [(11, .long s0), (0, .ref (a 0)), (9, .long v9)]) hx hb (dt_at dt_Ref_parts 49 rfl) hl (by decide) rfl (fun ls hl => ?_)
  refine lv_aload_n hx hb (dt_at dt_Ref_parts 50 rfl) rfl (lv_at hl 1 rfl) ?_
  refine lv_lload hx hb (dt_at dt_Ref_parts 51 rfl) (lv_at hl 2 rfl) ?_
  refine lv_lload hx hb (dt_at dt_Ref_parts 52 rfl) (lv_at hl 0 rfl) ?_
  obtain ⟨r1, h_r1, h⟩ := ob_of h
  have hF := va_free (wc := dR a) (dD (ws' := dR a) hD rfl) hS hA [0, 1, 2, 3, 4, 5, 6] rfl
  have hd : va_D (fun _ => True) (dR a) := (dD (ws' := dR a) hD rfl).weaken (fun _ _ _ _ => trivial)
  refine va_callv (va_runV (As := [.long v9, .long s0]) (rest := []) ⟨hx, hb, hml, hown, hts⟩ (c_Ref_result l D a q hd H.size v9 s0 g0 g1 g2 g3 g4 g5 g6 g7 g8 g9 g10 g11 g12 g13 g14 g15 g16 g17 g18 g19 r1 h_r1) (cwV 2 hts (gd_V (m_4 104 rfl rfl) (m_4 106 rfl rfl) (m_s 26 rfl rfl) (m_1 4 rfl rfl) (m_4 107 rfl rfl)) rfl rfl rfl (by decide +kernel) ⟨Nat.le_of_ble_eq_true rfl, Nat.le_of_ble_eq_true rfl⟩) ⟨fun a U g mk q => ⟨q.1, q.2.1, q.2.2.1, va_K.moved (u := U) (U := U.calling g mk a) (Vm.Alike.refl U.vm) q.2.2.2⟩, va_recv hK hP (ci := 0) (q0 := 0) rfl rfl, fun U hU hW => ⟨rfl, by rw [hU], by rw [hU]; exact hP, va_K.moved hW.alike hK⟩⟩ rfl rfl hl.1 rfl (lv_room (Nat.le_of_ble_eq_true rfl)) (dt_at dt_Ref_parts 53 rfl) ⟨Nat.le_of_ble_eq_true rfl, Nat.le_of_ble_eq_true rfl⟩) hS (fun x _ h9 => hF x h9) hF (fun uu t H locs ht hvm hw hB hz1 hk1 hS => ?_)
  rw [ht] at hB
  have hP : va_P D CLS (wR a q g0 g1 g2 g3 g4 g5 g6 g7 g8 g9 r1.1 r1.2 g12 g13 g14 g15 g16 g17 g18 g19) H := hB
  have hD : va_D A (wR a q g0 g1 g2 g3 g4 g5 g6 g7 g8 g9 r1.1 r1.2 g12 g13 g14 g15 g16 g17 g18 g19) := dD hD rfl
  obtain rfl := os_of h
  exact W.vret hx hb hr (fun t ht hW => ⟨⟨(), rfl, trivial, (hPt hP ht)⟩, hS.F ht⟩) hS.2.2 (dt_at dt_Ref_parts 54 rfl)
set_option maxRecDepth 100000 in
set_option maxHeartbeats 4000000 in
theorem k_Ref_parts_78 {p : Program} {l : Launch} {e : Env} {s : State} {m : MethodId} {args : Array Value} {below : List Frame} {meth : Method} {c : Code} {D : va_G} {a : Nat → Nat} {q : Nat → ClassId} {A : Nat → Prop} (hC : CX p s m args meth c prog_12_method_33_code 13 "OutwardTapeModel" none) (hA : ∀ x, s.heap.size ≤ x → A x) (hK : va_K D CLS (tR q) s) {g0 : Int32} {g1 : Nat → Int32} {g2 : Nat → Int64} {g3 : Nat → Int64} {g4 : Nat → Int32} {g5 : Int32} {g6 : Nat → Int32} {g7 : Int32} {g12 : Int32} {g13 : Int32} {g14 : Int32} {g15 : Int64} {g16 : Int32} {g17 : Int32} {g18 : Int64} {g19 : Int32} {r0 : (Nat → Int32) × Int32 × Int64 × Int64} : ∀ (v9 : Int64) (g8 : Nat → Int32) (g9 : Int32) (g10 : Int64) (g11 : Int64) (H : Heap) (locs : List Loc) (ls : Array Slot), va_P D CLS (wR a q g0 g1 g2 g3 g4 g5 g6 g7 g8 g9 g10 g11 g12 g13 g14 g15 g16 g17 g18 g19) H → va_D A (wR a q g0 g1 g2 g3 g4 g5 g6 g7 g8 g9 g10 g11 g12 g13 g14 g15 g16 g17 g18 g19) → va_S A s.heap H locs → lv_has ls 13 [(0, .ref (a 0)), (9, .long v9)] → f_Ref_parts_78  v9 g8 g9 g10 g11 = some r0 → W p l e rm_Ref_parts s m args below meth c H locs 0 0 (MQ below (va_Qv (fun _ : Unit => True) (fun _ t => va_P D CLS (wR a q g0 g1 g2 g3 g4 g5 g6 g7 r0.1 r0.2.1 r0.2.2.1 r0.2.2.2 g12 g13 g14 g15 g16 g17 g18 g19) t.heap) A) args s 0 0 A) (F0 m 78 ls []) := by
  obtain ⟨hx, hb, hml, hown, hts, hr, hlocks⟩ := id hC
  intro v9 g8 g9 g10 g11 H locs ls hP hD hS hl h
  rw [f_Ref_parts_78] at h
  refine lv_ldc2 (v := 9218868437227405312) hx hb hown (hts (Cond.constantLong "OutwardTapeModel" 69 (9218868437227405312)) (m_4 70 rfl rfl)) (dt_at dt_Ref_parts 42 rfl) ?_
  refine lv_goto (tgt := 92) hx hb (dt_at dt_Ref_parts 43 rfl) (by decide) ?_
  exact k_Ref_parts_92 hC hA hK   (9218868437227405312 : Int64) v9 g8 g9 g10 g11 H locs ls hP hD hS (lv_sub hl [0, 1] rfl) h
set_option maxRecDepth 100000 in
set_option maxHeartbeats 4000000 in
theorem k_Ref_parts_45 {p : Program} {l : Launch} {e : Env} {s : State} {m : MethodId} {args : Array Value} {below : List Frame} {meth : Method} {c : Code} {D : va_G} {a : Nat → Nat} {q : Nat → ClassId} {A : Nat → Prop} (hC : CX p s m args meth c prog_12_method_33_code 13 "OutwardTapeModel" none) (hA : ∀ x, s.heap.size ≤ x → A x) (hK : va_K D CLS (tR q) s) {g0 : Int32} {g1 : Nat → Int32} {g2 : Nat → Int64} {g3 : Nat → Int64} {g4 : Nat → Int32} {g5 : Int32} {g6 : Nat → Int32} {g7 : Int32} {g12 : Int32} {g13 : Int32} {g14 : Int32} {g15 : Int64} {g16 : Int32} {g17 : Int32} {g18 : Int64} {g19 : Int32} {r0 : (Nat → Int32) × Int32 × Int64 × Int64} : ∀ (s0 : Int64) (v3 : Int64) (v5 : Int64) (v7 : Int64) (g8 : Nat → Int32) (g9 : Int32) (g10 : Int64) (g11 : Int64) (H : Heap) (locs : List Loc) (ls : Array Slot), va_P D CLS (wR a q g0 g1 g2 g3 g4 g5 g6 g7 g8 g9 g10 g11 g12 g13 g14 g15 g16 g17 g18 g19) H → va_D A (wR a q g0 g1 g2 g3 g4 g5 g6 g7 g8 g9 g10 g11 g12 g13 g14 g15 g16 g17 g18 g19) → va_S A s.heap H locs → lv_has ls 13 [(0, .ref (a 0)), (3, .long v3), (5, .long v5), (7, .long v7)] → f_Ref_parts_45  s0 v3 v5 v7 g8 g9 g10 g11 = some r0 → W p l e rm_Ref_parts s m args below meth c H locs 0 0 (MQ below (va_Qv (fun _ : Unit => True) (fun _ t => va_P D CLS (wR a q g0 g1 g2 g3 g4 g5 g6 g7 r0.1 r0.2.1 r0.2.2.1 r0.2.2.2 g12 g13 g14 g15 g16 g17 g18 g19) t.heap) A) args s 0 0 A) (F0 m 45 ls [.long s0]) := by
  obtain ⟨hx, hb, hml, hown, hts, hr, hlocks⟩ := id hC
  intro s0 v3 v5 v7 g8 g9 g10 g11 H locs ls hP hD hS hl h
  rw [f_Ref_parts_45] at h
  refine lv_lstore (lv' := [(9, .long s0), (0, .ref (a 0)), (3, .long v3), (5, .long v5), (7, .long v7)]) hx hb (dt_at dt_Ref_parts 24 rfl) hl (by decide) rfl (fun ls hl => ?_)
  refine lv_lload_n hx hb (dt_at dt_Ref_parts 25 rfl) rfl (lv_at hl 2 rfl) ?_
  refine lv_lconst (v := 0) hx hb (dt_at dt_Ref_parts 26 rfl) (by decide) ?_
  refine lc_gt (tgt := 64) hx hb (dt_at dt_Ref_parts 27 rfl) (dt_at dt_Ref_parts 28 rfl) (by decide) (fun c1 => ?_) (fun c1 => ?_)
  · have h := if_p h c1
    refine lv_lload hx hb (dt_at dt_Ref_parts 35 rfl) (lv_at hl 3 rfl) ?_
    refine lv_lconst (v := 0) hx hb (dt_at dt_Ref_parts 36 rfl) (by decide) ?_
    refine lc_eq (tgt := 78) hx hb (dt_at dt_Ref_parts 37 rfl) (dt_at dt_Ref_parts 38 rfl) (by decide) (fun c2 => ?_) (fun c2 => ?_)
    · have h := if_p h c2
      exact k_Ref_parts_78 hC hA hK   s0 g8 g9 g10 g11 H locs ls hP hD hS (lv_sub hl [1, 0] rfl) h
    · have h := if_n h c2
      refine lv_lload_n hx hb (dt_at dt_Ref_parts 39 rfl) rfl (lv_at hl 2 rfl) ?_
      obtain ⟨r3, h_r3, h⟩ := ob_of h
      refine vp_callSi (W.runS (As := [.long v3]) (rest := []) ⟨hx, hb, hml, hown, hts⟩ (c_Ref_infinite l v3 r3 h_r3) (va_cwS 1 hts (gd_S (m_4 78 rfl rfl) (m_4 79 rfl rfl) (m_1 4 rfl rfl) (m_4 80 rfl rfl)) rfl rfl rfl (by decide +kernel) ⟨Nat.le_of_ble_eq_true rfl, Nat.le_of_ble_eq_true rfl⟩) ⟨fun _ _ _ _ q => q, fun U hU hW => ⟨rfl, trivial⟩⟩ rfl rfl hl.1 rfl (lv_room (Nat.le_of_ble_eq_true rfl)) (dt_at dt_Ref_parts 40 rfl) ⟨Nat.le_of_ble_eq_true rfl, Nat.le_of_ble_eq_true rfl⟩) (fun u_r3 q_r3 => ?_)
      obtain rfl : r3 = u_r3 := q_r3.symm
      refine lv_if_eq (tgt := 84) hx hb (dt_at dt_Ref_parts 41 rfl) (by decide) (fun c4 => ?_) (fun c4 => ?_)
      · have h := if_p h c4
        refine lv_aload_n hx hb (dt_at dt_Ref_parts 44 rfl) rfl (lv_at hl 1 rfl) ?_
        refine lv_lload_n hx hb (dt_at dt_Ref_parts 45 rfl) rfl (lv_at hl 2 rfl) ?_
        refine lv_lload hx hb (dt_at dt_Ref_parts 46 rfl) (lv_at hl 3 rfl) ?_
        refine lv_iconst (v := 1) hx hb (dt_at dt_Ref_parts 47 rfl) (by decide) ?_
        obtain ⟨r5, h_r5, h⟩ := ob_of h
        have hF := va_free (wc := dR a) (dD (ws' := dR a) hD rfl) hS hA [0, 1, 2, 3, 4, 5, 6] rfl
        have hd : va_D (fun _ => True) (dR a) := (dD (ws' := dR a) hD rfl).weaken (fun _ _ _ _ => trivial)
        refine va_calll (va_runV (As := [.long v3, .long v5, .int (1 : Int32)]) (rest := []) ⟨hx, hb, hml, hown, hts⟩ (c_Ref_quotient l D a q hd H.size v3 v5 (1 : Int32) g0 g1 g2 g3 g4 g5 g6 g7 g8 g9 g10 g11 g12 g13 g14 g15 g16 g17 g18 g19 r5 h_r5) (cwV 3 hts (gd_V (m_4 181 rfl rfl) (m_4 183 rfl rfl) (m_s 39 rfl rfl) (m_1 4 rfl rfl) (m_4 184 rfl rfl)) rfl rfl rfl (by decide +kernel) ⟨Nat.le_of_ble_eq_true rfl, Nat.le_of_ble_eq_true rfl⟩) ⟨fun a U g mk q => ⟨q.1, q.2.1, q.2.2.1, va_K.moved (u := U) (U := U.calling g mk a) (Vm.Alike.refl U.vm) q.2.2.2⟩, va_recv hK hP (ci := 0) (q0 := 0) rfl rfl, fun U hU hW => ⟨rfl, by rw [hU], by rw [hU]; exact hP, va_K.moved hW.alike hK⟩⟩ rfl rfl hl.1 rfl (lv_room (Nat.le_of_ble_eq_true rfl)) (dt_at dt_Ref_parts 48 rfl) ⟨Nat.le_of_ble_eq_true rfl, Nat.le_of_ble_eq_true rfl⟩) hS (fun x _ h9 => hF x h9) hF (fun u_r5 uu t H locs ht hvm hw hB hz1 hk1 hS => ?_)
        rw [ht] at hB
        subst hw
        have hP : va_P D CLS (wR a q g0 g1 g2 g3 g4 g5 g6 g7 r5.2.1 r5.2.2 g10 g11 g12 g13 g14 g15 g16 g17 g18 g19) H := hB
        have hD : va_D A (wR a q g0 g1 g2 g3 g4 g5 g6 g7 r5.2.1 r5.2.2 g10 g11 g12 g13 g14 g15 g16 g17 g18 g19) := dD hD rfl
        exact k_Ref_parts_92 hC hA hK   r5.1 s0 r5.2.1 r5.2.2 g10 g11 H locs ls hP hD hS (lv_sub hl [1, 0] rfl) h
      · have h := if_n h c4
        exact k_Ref_parts_78 hC hA hK   s0 g8 g9 g10 g11 H locs ls hP hD hS (lv_sub hl [1, 0] rfl) h
  · have h := if_n h c1
    refine lv_aload_n hx hb (dt_at dt_Ref_parts 29 rfl) rfl (lv_at hl 1 rfl) ?_
    refine lv_lload_n hx hb (dt_at dt_Ref_parts 30 rfl) rfl (lv_at hl 2 rfl) ?_
    refine lv_lload hx hb (dt_at dt_Ref_parts 31 rfl) (lv_at hl 4 rfl) ?_
    refine lv_iconst (v := 1) hx hb (dt_at dt_Ref_parts 32 rfl) (by decide) ?_
    obtain ⟨r6, h_r6, h⟩ := ob_of h
    have hF := va_free (wc := dR a) (dD (ws' := dR a) hD rfl) hS hA [0, 1, 2, 3, 4, 5, 6] rfl
    have hd : va_D (fun _ => True) (dR a) := (dD (ws' := dR a) hD rfl).weaken (fun _ _ _ _ => trivial)
    refine va_calll (va_runV (As := [.long v3, .long v7, .int (1 : Int32)]) (rest := []) ⟨hx, hb, hml, hown, hts⟩ (c_Ref_quotient l D a q hd H.size v3 v7 (1 : Int32) g0 g1 g2 g3 g4 g5 g6 g7 g8 g9 g10 g11 g12 g13 g14 g15 g16 g17 g18 g19 r6 h_r6) (cwV 3 hts (gd_V (m_4 181 rfl rfl) (m_4 183 rfl rfl) (m_s 39 rfl rfl) (m_1 4 rfl rfl) (m_4 184 rfl rfl)) rfl rfl rfl (by decide +kernel) ⟨Nat.le_of_ble_eq_true rfl, Nat.le_of_ble_eq_true rfl⟩) ⟨fun a U g mk q => ⟨q.1, q.2.1, q.2.2.1, va_K.moved (u := U) (U := U.calling g mk a) (Vm.Alike.refl U.vm) q.2.2.2⟩, va_recv hK hP (ci := 0) (q0 := 0) rfl rfl, fun U hU hW => ⟨rfl, by rw [hU], by rw [hU]; exact hP, va_K.moved hW.alike hK⟩⟩ rfl rfl hl.1 rfl (lv_room (Nat.le_of_ble_eq_true rfl)) (dt_at dt_Ref_parts 33 rfl) ⟨Nat.le_of_ble_eq_true rfl, Nat.le_of_ble_eq_true rfl⟩) hS (fun x _ h9 => hF x h9) hF (fun u_r6 uu t H locs ht hvm hw hB hz1 hk1 hS => ?_)
    rw [ht] at hB
    subst hw
    have hP : va_P D CLS (wR a q g0 g1 g2 g3 g4 g5 g6 g7 r6.2.1 r6.2.2 g10 g11 g12 g13 g14 g15 g16 g17 g18 g19) H := hB
    have hD : va_D A (wR a q g0 g1 g2 g3 g4 g5 g6 g7 r6.2.1 r6.2.2 g10 g11 g12 g13 g14 g15 g16 g17 g18 g19) := dD hD rfl
    refine lv_goto (tgt := 92) hx hb (dt_at dt_Ref_parts 34 rfl) (by decide) ?_
    exact k_Ref_parts_92 hC hA hK   r6.1 s0 r6.2.1 r6.2.2 g10 g11 H locs ls hP hD hS (lv_sub hl [1, 0] rfl) h
set_option maxRecDepth 100000 in
set_option maxHeartbeats 4000000 in
theorem k_Ref_parts_31 {p : Program} {l : Launch} {e : Env} {s : State} {m : MethodId} {args : Array Value} {below : List Frame} {meth : Method} {c : Code} {D : va_G} {a : Nat → Nat} {q : Nat → ClassId} {A : Nat → Prop} (hC : CX p s m args meth c prog_12_method_33_code 13 "OutwardTapeModel" none) (hA : ∀ x, s.heap.size ≤ x → A x) (hK : va_K D CLS (tR q) s) {g0 : Int32} {g1 : Nat → Int32} {g2 : Nat → Int64} {g3 : Nat → Int64} {g4 : Nat → Int32} {g5 : Int32} {g6 : Nat → Int32} {g7 : Int32} {g12 : Int32} {g13 : Int32} {g14 : Int32} {g15 : Int64} {g16 : Int32} {g17 : Int32} {g18 : Int64} {g19 : Int32} {r0 : (Nat → Int32) × Int32 × Int64 × Int64} : ∀ (v3 : Int64) (v5 : Int64) (v7 : Int64) (g8 : Nat → Int32) (g9 : Int32) (g10 : Int64) (g11 : Int64) (H : Heap) (locs : List Loc) (ls : Array Slot), va_P D CLS (wR a q g0 g1 g2 g3 g4 g5 g6 g7 g8 g9 g10 g11 g12 g13 g14 g15 g16 g17 g18 g19) H → va_D A (wR a q g0 g1 g2 g3 g4 g5 g6 g7 g8 g9 g10 g11 g12 g13 g14 g15 g16 g17 g18 g19) → va_S A s.heap H locs → lv_has ls 13 [(0, .ref (a 0)), (3, .long v3), (5, .long v5), (7, .long v7)] → f_Ref_parts_31  v3 v5 v7 g8 g9 g10 g11 = some r0 → W p l e rm_Ref_parts s m args below meth c H locs 0 0 (MQ below (va_Qv (fun _ : Unit => True) (fun _ t => va_P D CLS (wR a q g0 g1 g2 g3 g4 g5 g6 g7 r0.1 r0.2.1 r0.2.2.1 r0.2.2.2 g12 g13 g14 g15 g16 g17 g18 g19) t.heap) A) args s 0 0 A) (F0 m 31 ls []) := by
  obtain ⟨hx, hb, hml, hown, hts, hr, hlocks⟩ := id hC
  intro v3 v5 v7 g8 g9 g10 g11 H locs ls hP hD hS hl h
  rw [f_Ref_parts_31] at h
  refine lv_ldc2 (v := -9218868437227405312) hx hb hown (hts (Cond.constantLong "OutwardTapeModel" 95 (-9218868437227405312)) (m_4 74 rfl rfl)) (dt_at dt_Ref_parts 17 rfl) ?_
  refine lv_goto (tgt := 45) hx hb (dt_at dt_Ref_parts 18 rfl) (by decide) ?_
  exact k_Ref_parts_45 hC hA hK   (-9218868437227405312 : Int64) v3 v5 v7 g8 g9 g10 g11 H locs ls hP hD hS (lv_sub hl [0, 1, 2, 3] rfl) h
set_option maxRecDepth 100000 in
set_option maxHeartbeats 4000000 in
theorem k_Ref_parts_0 {p : Program} {l : Launch} {e : Env} {s : State} {m : MethodId} {args : Array Value} {below : List Frame} {meth : Method} {c : Code} {D : va_G} {a : Nat → Nat} {q : Nat → ClassId} {A : Nat → Prop} (hC : CX p s m args meth c prog_12_method_33_code 13 "OutwardTapeModel" none) (hA : ∀ x, s.heap.size ≤ x → A x) (hK : va_K D CLS (tR q) s) {g0 : Int32} {g1 : Nat → Int32} {g2 : Nat → Int64} {g3 : Nat → Int64} {g4 : Nat → Int32} {g5 : Int32} {g6 : Nat → Int32} {g7 : Int32} {g12 : Int32} {g13 : Int32} {g14 : Int32} {g15 : Int64} {g16 : Int32} {g17 : Int32} {g18 : Int64} {g19 : Int32} {r0 : (Nat → Int32) × Int32 × Int64 × Int64} : ∀ (v1 : Int64) (v3 : Int64) (v5 : Int64) (v7 : Int64) (g8 : Nat → Int32) (g9 : Int32) (g10 : Int64) (g11 : Int64) (H : Heap) (locs : List Loc) (ls : Array Slot), va_P D CLS (wR a q g0 g1 g2 g3 g4 g5 g6 g7 g8 g9 g10 g11 g12 g13 g14 g15 g16 g17 g18 g19) H → va_D A (wR a q g0 g1 g2 g3 g4 g5 g6 g7 g8 g9 g10 g11 g12 g13 g14 g15 g16 g17 g18 g19) → va_S A s.heap H locs → lv_has ls 13 [(0, .ref (a 0)), (1, .long v1), (3, .long v3), (5, .long v5), (7, .long v7)] → f_Ref_parts_0  v1 v3 v5 v7 g8 g9 g10 g11 = some r0 → W p l e rm_Ref_parts s m args below meth c H locs 0 0 (MQ below (va_Qv (fun _ : Unit => True) (fun _ t => va_P D CLS (wR a q g0 g1 g2 g3 g4 g5 g6 g7 r0.1 r0.2.1 r0.2.2.1 r0.2.2.2 g12 g13 g14 g15 g16 g17 g18 g19) t.heap) A) args s 0 0 A) (F0 m 0 ls []) := by
  obtain ⟨hx, hb, hml, hown, hts, hr, hlocks⟩ := id hC
  intro v1 v3 v5 v7 g8 g9 g10 g11 H locs ls hP hD hS hl h
  rw [f_Ref_parts_0] at h
  refine lv_lload_n hx hb (dt_at dt_Ref_parts 0 rfl) rfl (lv_at hl 1 rfl) ?_
  refine lv_lconst (v := 0) hx hb (dt_at dt_Ref_parts 1 rfl) (by decide) ?_
  refine lc_lt (tgt := 17) hx hb (dt_at dt_Ref_parts 2 rfl) (dt_at dt_Ref_parts 3 rfl) (by decide) (fun c1 => ?_) (fun c1 => ?_)
  · have h := if_p h c1
    refine lv_lload hx hb (dt_at dt_Ref_parts 10 rfl) (lv_at hl 3 rfl) ?_
    refine lv_lconst (v := 0) hx hb (dt_at dt_Ref_parts 11 rfl) (by decide) ?_
    refine lc_eq (tgt := 31) hx hb (dt_at dt_Ref_parts 12 rfl) (dt_at dt_Ref_parts 13 rfl) (by decide) (fun c2 => ?_) (fun c2 => ?_)
    · have h := if_p h c2
      exact k_Ref_parts_31 hC hA hK   v3 v5 v7 g8 g9 g10 g11 H locs ls hP hD hS (lv_sub hl [0, 2, 3, 4] rfl) h
    · have h := if_n h c2
      refine lv_lload_n hx hb (dt_at dt_Ref_parts 14 rfl) rfl (lv_at hl 1 rfl) ?_
      obtain ⟨r3, h_r3, h⟩ := ob_of h
      refine vp_callSi (W.runS (As := [.long v1]) (rest := []) ⟨hx, hb, hml, hown, hts⟩ (c_Ref_infinite l v1 r3 h_r3) (va_cwS 1 hts (gd_S (m_4 78 rfl rfl) (m_4 79 rfl rfl) (m_1 4 rfl rfl) (m_4 80 rfl rfl)) rfl rfl rfl (by decide +kernel) ⟨Nat.le_of_ble_eq_true rfl, Nat.le_of_ble_eq_true rfl⟩) ⟨fun _ _ _ _ q => q, fun U hU hW => ⟨rfl, trivial⟩⟩ rfl rfl hl.1 rfl (lv_room (Nat.le_of_ble_eq_true rfl)) (dt_at dt_Ref_parts 15 rfl) ⟨Nat.le_of_ble_eq_true rfl, Nat.le_of_ble_eq_true rfl⟩) (fun u_r3 q_r3 => ?_)
      obtain rfl : r3 = u_r3 := q_r3.symm
      refine lv_if_eq (tgt := 37) hx hb (dt_at dt_Ref_parts 16 rfl) (by decide) (fun c4 => ?_) (fun c4 => ?_)
      · have h := if_p h c4
        refine lv_aload_n hx hb (dt_at dt_Ref_parts 19 rfl) rfl (lv_at hl 0 rfl) ?_
        refine lv_lload_n hx hb (dt_at dt_Ref_parts 20 rfl) rfl (lv_at hl 1 rfl) ?_
        refine lv_lload hx hb (dt_at dt_Ref_parts 21 rfl) (lv_at hl 3 rfl) ?_
        refine lv_iconst (v := 0) hx hb (dt_at dt_Ref_parts 22 rfl) (by decide) ?_
        obtain ⟨r5, h_r5, h⟩ := ob_of h
        have hF := va_free (wc := dR a) (dD (ws' := dR a) hD rfl) hS hA [0, 1, 2, 3, 4, 5, 6] rfl
        have hd : va_D (fun _ => True) (dR a) := (dD (ws' := dR a) hD rfl).weaken (fun _ _ _ _ => trivial)
        refine va_calll (va_runV (As := [.long v1, .long v5, .int (0 : Int32)]) (rest := []) ⟨hx, hb, hml, hown, hts⟩ (c_Ref_quotient l D a q hd H.size v1 v5 (0 : Int32) g0 g1 g2 g3 g4 g5 g6 g7 g8 g9 g10 g11 g12 g13 g14 g15 g16 g17 g18 g19 r5 h_r5) (cwV 3 hts (gd_V (m_4 181 rfl rfl) (m_4 183 rfl rfl) (m_s 39 rfl rfl) (m_1 4 rfl rfl) (m_4 184 rfl rfl)) rfl rfl rfl (by decide +kernel) ⟨Nat.le_of_ble_eq_true rfl, Nat.le_of_ble_eq_true rfl⟩) ⟨fun a U g mk q => ⟨q.1, q.2.1, q.2.2.1, va_K.moved (u := U) (U := U.calling g mk a) (Vm.Alike.refl U.vm) q.2.2.2⟩, va_recv hK hP (ci := 0) (q0 := 0) rfl rfl, fun U hU hW => ⟨rfl, by rw [hU], by rw [hU]; exact hP, va_K.moved hW.alike hK⟩⟩ rfl rfl hl.1 rfl (lv_room (Nat.le_of_ble_eq_true rfl)) (dt_at dt_Ref_parts 23 rfl) ⟨Nat.le_of_ble_eq_true rfl, Nat.le_of_ble_eq_true rfl⟩) hS (fun x _ h9 => hF x h9) hF (fun u_r5 uu t H locs ht hvm hw hB hz1 hk1 hS => ?_)
        rw [ht] at hB
        subst hw
        have hP : va_P D CLS (wR a q g0 g1 g2 g3 g4 g5 g6 g7 r5.2.1 r5.2.2 g10 g11 g12 g13 g14 g15 g16 g17 g18 g19) H := hB
        have hD : va_D A (wR a q g0 g1 g2 g3 g4 g5 g6 g7 r5.2.1 r5.2.2 g10 g11 g12 g13 g14 g15 g16 g17 g18 g19) := dD hD rfl
        exact k_Ref_parts_45 hC hA hK   r5.1 v3 v5 v7 r5.2.1 r5.2.2 g10 g11 H locs ls hP hD hS (lv_sub hl [0, 2, 3, 4] rfl) h
      · have h := if_n h c4
        exact k_Ref_parts_31 hC hA hK   v3 v5 v7 g8 g9 g10 g11 H locs ls hP hD hS (lv_sub hl [0, 2, 3, 4] rfl) h
  · have h := if_n h c1
    refine lv_aload_n hx hb (dt_at dt_Ref_parts 4 rfl) rfl (lv_at hl 0 rfl) ?_
    refine lv_lload_n hx hb (dt_at dt_Ref_parts 5 rfl) rfl (lv_at hl 1 rfl) ?_
    refine lv_lload hx hb (dt_at dt_Ref_parts 6 rfl) (lv_at hl 4 rfl) ?_
    refine lv_iconst (v := 0) hx hb (dt_at dt_Ref_parts 7 rfl) (by decide) ?_
    obtain ⟨r6, h_r6, h⟩ := ob_of h
    have hF := va_free (wc := dR a) (dD (ws' := dR a) hD rfl) hS hA [0, 1, 2, 3, 4, 5, 6] rfl
    have hd : va_D (fun _ => True) (dR a) := (dD (ws' := dR a) hD rfl).weaken (fun _ _ _ _ => trivial)
    refine va_calll (va_runV (As := [.long v1, .long v7, .int (0 : Int32)]) (rest := []) ⟨hx, hb, hml, hown, hts⟩ (c_Ref_quotient l D a q hd H.size v1 v7 (0 : Int32) g0 g1 g2 g3 g4 g5 g6 g7 g8 g9 g10 g11 g12 g13 g14 g15 g16 g17 g18 g19 r6 h_r6) (cwV 3 hts (gd_V (m_4 181 rfl rfl) (m_4 183 rfl rfl) (m_s 39 rfl rfl) (m_1 4 rfl rfl) (m_4 184 rfl rfl)) rfl rfl rfl (by decide +kernel) ⟨Nat.le_of_ble_eq_true rfl, Nat.le_of_ble_eq_true rfl⟩) ⟨fun a U g mk q => ⟨q.1, q.2.1, q.2.2.1, va_K.moved (u := U) (U := U.calling g mk a) (Vm.Alike.refl U.vm) q.2.2.2⟩, va_recv hK hP (ci := 0) (q0 := 0) rfl rfl, fun U hU hW => ⟨rfl, by rw [hU], by rw [hU]; exact hP, va_K.moved hW.alike hK⟩⟩ rfl rfl hl.1 rfl (lv_room (Nat.le_of_ble_eq_true rfl)) (dt_at dt_Ref_parts 8 rfl) ⟨Nat.le_of_ble_eq_true rfl, Nat.le_of_ble_eq_true rfl⟩) hS (fun x _ h9 => hF x h9) hF (fun u_r6 uu t H locs ht hvm hw hB hz1 hk1 hS => ?_)
    rw [ht] at hB
    subst hw
    have hP : va_P D CLS (wR a q g0 g1 g2 g3 g4 g5 g6 g7 r6.2.1 r6.2.2 g10 g11 g12 g13 g14 g15 g16 g17 g18 g19) H := hB
    have hD : va_D A (wR a q g0 g1 g2 g3 g4 g5 g6 g7 r6.2.1 r6.2.2 g10 g11 g12 g13 g14 g15 g16 g17 g18 g19) := dD hD rfl
    refine lv_goto (tgt := 45) hx hb (dt_at dt_Ref_parts 9 rfl) (by decide) ?_
    exact k_Ref_parts_45 hC hA hK   r6.1 v3 v5 v7 r6.2.1 r6.2.2 g10 g11 H locs ls hP hD hS (lv_sub hl [0, 2, 3, 4] rfl) h
set_option maxRecDepth 100000 in
set_option maxHeartbeats 4000000 in
theorem c_Ref_parts (l : Launch) (D : va_G) (a : Nat → Nat) (q : Nat → ClassId) (hd : va_D (fun _ => True) (dR a)) (sz : Nat) (a1 : Int64) (a3 : Int64) (a5 : Int64) (a7 : Int64) (g0 : Int32) (g1 : Nat → Int32) (g2 : Nat → Int64) (g3 : Nat → Int64) (g4 : Nat → Int32) (g5 : Int32) (g6 : Nat → Int32) (g7 : Int32) (g8 : Nat → Int32) (g9 : Int32) (g10 : Int64) (g11 : Int64) (g12 : Int32) (g13 : Int32) (g14 : Int32) (g15 : Int64) (g16 : Int32) (g17 : Int32) (g18 : Int64) (g19 : Int32) (r0 : (Nat → Int32) × Int32 × Int64 × Int64) (h : f_Ref_parts a1 a3 a5 a7 g8 g9 g10 g11 = some r0) : Met l (⟨"OutwardTapeModel", "parts", "(JJJJ)V"⟩ : MethodName) (WSm (⟨"OutwardTapeModel", "parts", "(JJJJ)V"⟩ : MethodName) prog_12_method_33_code 13 none) rm_Ref_parts (va_Pc [.ref (a 0), .long a1, .long a3, .long a5, .long a7] (fun U => U.heap.size = sz ∧ va_P D CLS (wR a q g0 g1 g2 g3 g4 g5 g6 g7 g8 g9 g10 g11 g12 g13 g14 g15 g16 g17 g18 g19) U.heap ∧ va_K D CLS (tR q) U)) (va_Qv (fun _ : Unit => True) (fun _ t => va_P D CLS (wR a q g0 g1 g2 g3 g4 g5 g6 g7 r0.1 r0.2.1 r0.2.2.1 r0.2.2.2 g12 g13 g14 g15 g16 g17 g18 g19) t.heap) (va_A (dR a) sz)) 0 0 (va_A (dR a) sz) := by
  refine Met.ofW (cc := prog_12_method_33_code) (maxL := 13) (ret := none) (by decide) rfl ?_
  intro p e s m args below meth c s₁ B hml hv
  obtain ⟨rfl, hsz, hP, hK⟩ := hv
  subst hsz
  have hC := CX.of B hml rfl
  have hl := lv_entry [.ref (a 0), .long a1, .long a3, .long a5, .long a7] (n := 13) (Nat.le_of_ble_eq_true rfl)
  rw [lg_entry_eq]
  generalize (lg_sl [.ref (a 0), .long a1, .long a3, .long a5, .long a7] ++ List.replicate (13 - (lg_sl [.ref (a 0), .long a1, .long a3, .long a5, .long a7]).length) Slot.unset).toArray = ls at hl ⊢
  have hl : lv_has ls 13 [(0, .ref (a 0)), (1, .long a1), (3, .long a3), (5, .long a5), (7, .long a7)] := hl
  exact k_Ref_parts_0 hC (fun x h => Or.inr h) hK a1 a3 a5 a7 g8 g9 g10 g11 s.heap [] ls hP (dD hd.self rfl) va_S.rf (lv_sub hl [0, 1, 2, 3, 4] rfl) h
abbrev rm_Ref_quotients : Room := { frames := 5, cells := 0, slots := 0, locals := 137 }
set_option maxRecDepth 100000 in
set_option maxHeartbeats 4000000 in
theorem k_Ref_quotients_112 {p : Program} {l : Launch} {e : Env} {s : State} {m : MethodId} {args : Array Value} {below : List Frame} {meth : Method} {c : Code} {D : va_G} {a : Nat → Nat} {q : Nat → ClassId} {A : Nat → Prop} (hC : CX p s m args meth c prog_12_method_34_code 9 "OutwardTapeModel" none) (hA : ∀ x, s.heap.size ≤ x → A x) (hK : va_K D CLS (tR q) s) {g0 : Int32} {g1 : Nat → Int32} {g2 : Nat → Int64} {g3 : Nat → Int64} {g4 : Nat → Int32} {g5 : Int32} {g6 : Nat → Int32} {g7 : Int32} {g13 : Int32} {g14 : Int32} {g15 : Int64} {g16 : Int32} {g17 : Int32} {g18 : Int64} {g19 : Int32} {r0 : (Nat → Int32) × Int32 × Int64 × Int64 × Int32} : ∀  (g8 : Nat → Int32) (g9 : Int32) (g10 : Int64) (g11 : Int64) (g12 : Int32) (H : Heap) (locs : List Loc) (ls : Array Slot), va_P D CLS (wR a q g0 g1 g2 g3 g4 g5 g6 g7 g8 g9 g10 g11 g12 g13 g14 g15 g16 g17 g18 g19) H → va_D A (wR a q g0 g1 g2 g3 g4 g5 g6 g7 g8 g9 g10 g11 g12 g13 g14 g15 g16 g17 g18 g19) → va_S A s.heap H locs → lv_has ls 9 [] → f_Ref_quotients_112  g8 g9 g10 g11 g12 = some r0 → W p l e rm_Ref_quotients s m args below meth c H locs 0 0 (MQ below (va_Qv (fun _ : Unit => True) (fun _ t => va_P D CLS (wR a q g0 g1 g2 g3 g4 g5 g6 g7 r0.1 r0.2.1 r0.2.2.1 r0.2.2.2.1 r0.2.2.2.2 g13 g14 g15 g16 g17 g18 g19) t.heap) A) args s 0 0 A) (F0 m 112 ls []) := by
  obtain ⟨hx, hb, hml, hown, hts, hr, hlocks⟩ := id hC
  intro g8 g9 g10 g11 g12 H locs ls hP hD hS hl h
  rw [f_Ref_quotients_112] at h
  obtain rfl := os_of h
  exact W.vret hx hb hr (fun t ht hW => ⟨⟨(), rfl, trivial, (hPt hP ht)⟩, hS.F ht⟩) hS.2.2 (dt_at dt_Ref_quotients 63 rfl)
set_option maxRecDepth 100000 in
set_option maxHeartbeats 4000000 in
theorem k_Ref_quotients_78 {p : Program} {l : Launch} {e : Env} {s : State} {m : MethodId} {args : Array Value} {below : List Frame} {meth : Method} {c : Code} {D : va_G} {a : Nat → Nat} {q : Nat → ClassId} {A : Nat → Prop} (hC : CX p s m args meth c prog_12_method_34_code 9 "OutwardTapeModel" none) (hA : ∀ x, s.heap.size ≤ x → A x) (hK : va_K D CLS (tR q) s) {g0 : Int32} {g1 : Nat → Int32} {g2 : Nat → Int64} {g3 : Nat → Int64} {g4 : Nat → Int32} {g5 : Int32} {g6 : Nat → Int32} {g7 : Int32} {g13 : Int32} {g14 : Int32} {g15 : Int64} {g16 : Int32} {g17 : Int32} {g18 : Int64} {g19 : Int32} {r0 : (Nat → Int32) × Int32 × Int64 × Int64 × Int32} : ∀ (v1 : Int64) (v3 : Int64) (v5 : Int64) (v7 : Int64) (g8 : Nat → Int32) (g9 : Int32) (g10 : Int64) (g11 : Int64) (g12 : Int32) (H : Heap) (locs : List Loc) (ls : Array Slot), va_P D CLS (wR a q g0 g1 g2 g3 g4 g5 g6 g7 g8 g9 g10 g11 g12 g13 g14 g15 g16 g17 g18 g19) H → va_D A (wR a q g0 g1 g2 g3 g4 g5 g6 g7 g8 g9 g10 g11 g12 g13 g14 g15 g16 g17 g18 g19) → va_S A s.heap H locs → lv_has ls 9 [(0, .ref (a 0)), (1, .long v1), (3, .long v3), (5, .long v5), (7, .long v7)] → f_Ref_quotients_78  v1 v3 v5 v7 g8 g9 g10 g11 g12 = some r0 → W p l e rm_Ref_quotients s m args below meth c H locs 0 0 (MQ below (va_Qv (fun _ : Unit => True) (fun _ t => va_P D CLS (wR a q g0 g1 g2 g3 g4 g5 g6 g7 r0.1 r0.2.1 r0.2.2.1 r0.2.2.2.1 r0.2.2.2.2 g13 g14 g15 g16 g17 g18 g19) t.heap) A) args s 0 0 A) (F0 m 78 ls []) := by
  obtain ⟨hx, hb, hml, hown, hts, hr, hlocks⟩ := id hC
  intro v1 v3 v5 v7 g8 g9 g10 g11 g12 H locs ls hP hD hS hl h
  rw [f_Ref_quotients_78] at h
  refine lv_lload hx hb (dt_at dt_Ref_quotients 42 rfl) (lv_at hl 3 rfl) ?_
  refine lv_lconst (v := 0) hx hb (dt_at dt_Ref_quotients 43 rfl) (by decide) ?_
  refine lc_lt (tgt := 98) hx hb (dt_at dt_Ref_quotients 44 rfl) (dt_at dt_Ref_quotients 45 rfl) (by decide) (fun c1 => ?_) (fun c1 => ?_)
  · have h := if_p h c1
    refine lv_aload_n hx hb (dt_at dt_Ref_quotients 53 rfl) rfl (lv_at hl 0 rfl) ?_
    refine lv_lload_n hx hb (dt_at dt_Ref_quotients 54 rfl) rfl (lv_at hl 2 rfl) ?_
    refine lv_lneg hx hb (dt_at dt_Ref_quotients 55 rfl) ?_
    refine lv_lload_n hx hb (dt_at dt_Ref_quotients 56 rfl) rfl (lv_at hl 1 rfl) ?_
    refine lv_lneg hx hb (dt_at dt_Ref_quotients 57 rfl) ?_
    refine lv_lload hx hb (dt_at dt_Ref_quotients 58 rfl) (lv_at hl 4 rfl) ?_
    refine lv_lneg hx hb (dt_at dt_Ref_quotients 59 rfl) ?_
    refine lv_lload hx hb (dt_at dt_Ref_quotients 60 rfl) (lv_at hl 3 rfl) ?_
    refine lv_lneg hx hb (dt_at dt_Ref_quotients 61 rfl) ?_
    obtain ⟨r2, h_r2, h⟩ := ob_of h
    have hF := va_free (wc := dR a) (dD (ws' := dR a) hD rfl) hS hA [0, 1, 2, 3, 4, 5, 6] rfl
    have hd : va_D (fun _ => True) (dR a) := (dD (ws' := dR a) hD rfl).weaken (fun _ _ _ _ => trivial)
    refine va_callv (va_runV (As := [.long (-v3), .long (-v1), .long (-v7), .long (-v5)]) (rest := []) ⟨hx, hb, hml, hown, hts⟩ (c_Ref_parts l D a q hd H.size (-v3) (-v1) (-v7) (-v5) g0 g1 g2 g3 g4 g5 g6 g7 g8 g9 g10 g11 g12 g13 g14 g15 g16 g17 g18 g19 r2 h_r2) (cwV 4 hts (gd_V (m_4 177 rfl rfl) (m_4 179 rfl rfl) (m_s 38 rfl rfl) (m_1 4 rfl rfl) (m_4 180 rfl rfl)) rfl rfl rfl (by decide +kernel) ⟨Nat.le_of_ble_eq_true rfl, Nat.le_of_ble_eq_true rfl⟩) ⟨fun a U g mk q => ⟨q.1, q.2.1, q.2.2.1, va_K.moved (u := U) (U := U.calling g mk a) (Vm.Alike.refl U.vm) q.2.2.2⟩, va_recv hK hP (ci := 0) (q0 := 0) rfl rfl, fun U hU hW => ⟨rfl, by rw [hU], by rw [hU]; exact hP, va_K.moved hW.alike hK⟩⟩ rfl rfl hl.1 rfl (lv_room (Nat.le_of_ble_eq_true rfl)) (dt_at dt_Ref_quotients 62 rfl) ⟨Nat.le_of_ble_eq_true rfl, Nat.le_of_ble_eq_true rfl⟩) hS (fun x _ h9 => hF x h9) hF (fun uu t H locs ht hvm hw hB hz1 hk1 hS => ?_)
    rw [ht] at hB
    have hP : va_P D CLS (wR a q g0 g1 g2 g3 g4 g5 g6 g7 r2.1 r2.2.1 r2.2.2.1 r2.2.2.2 g12 g13 g14 g15 g16 g17 g18 g19) H := hB
    have hD : va_D A (wR a q g0 g1 g2 g3 g4 g5 g6 g7 r2.1 r2.2.1 r2.2.2.1 r2.2.2.2 g12 g13 g14 g15 g16 g17 g18 g19) := dD hD rfl
    exact k_Ref_quotients_112 hC hA hK   r2.1 r2.2.1 r2.2.2.1 r2.2.2.2 g12 H locs ls hP hD hS (lv_sub hl [] rfl) h
  · have h := if_n h c1
    refine lv_aload_n hx hb (dt_at dt_Ref_quotients 46 rfl) rfl (lv_at hl 0 rfl) ?_
    refine lv_lload_n hx hb (dt_at dt_Ref_quotients 47 rfl) rfl (lv_at hl 1 rfl) ?_
    refine lv_lload_n hx hb (dt_at dt_Ref_quotients 48 rfl) rfl (lv_at hl 2 rfl) ?_
    refine lv_lload hx hb (dt_at dt_Ref_quotients 49 rfl) (lv_at hl 3 rfl) ?_
    refine lv_lload hx hb (dt_at dt_Ref_quotients 50 rfl) (lv_at hl 4 rfl) ?_
    obtain ⟨r3, h_r3, h⟩ := ob_of h
    have hF := va_free (wc := dR a) (dD (ws' := dR a) hD rfl) hS hA [0, 1, 2, 3, 4, 5, 6] rfl
    have hd : va_D (fun _ => True) (dR a) := (dD (ws' := dR a) hD rfl).weaken (fun _ _ _ _ => trivial)
    refine va_callv (va_runV (As := [.long v1, .long v3, .long v5, .long v7]) (rest := []) ⟨hx, hb, hml, hown, hts⟩ (c_Ref_parts l D a q hd H.size v1 v3 v5 v7 g0 g1 g2 g3 g4 g5 g6 g7 g8 g9 g10 g11 g12 g13 g14 g15 g16 g17 g18 g19 r3 h_r3) (cwV 4 hts (gd_V (m_4 177 rfl rfl) (m_4 179 rfl rfl) (m_s 38 rfl rfl) (m_1 4 rfl rfl) (m_4 180 rfl rfl)) rfl rfl rfl (by decide +kernel) ⟨Nat.le_of_ble_eq_true rfl, Nat.le_of_ble_eq_true rfl⟩) ⟨fun a U g mk q => ⟨q.1, q.2.1, q.2.2.1, va_K.moved (u := U) (U := U.calling g mk a) (Vm.Alike.refl U.vm) q.2.2.2⟩, va_recv hK hP (ci := 0) (q0 := 0) rfl rfl, fun U hU hW => ⟨rfl, by rw [hU], by rw [hU]; exact hP, va_K.moved hW.alike hK⟩⟩ rfl rfl hl.1 rfl (lv_room (Nat.le_of_ble_eq_true rfl)) (dt_at dt_Ref_quotients 51 rfl) ⟨Nat.le_of_ble_eq_true rfl, Nat.le_of_ble_eq_true rfl⟩) hS (fun x _ h9 => hF x h9) hF (fun uu t H locs ht hvm hw hB hz1 hk1 hS => ?_)
    rw [ht] at hB
    have hP : va_P D CLS (wR a q g0 g1 g2 g3 g4 g5 g6 g7 r3.1 r3.2.1 r3.2.2.1 r3.2.2.2 g12 g13 g14 g15 g16 g17 g18 g19) H := hB
    have hD : va_D A (wR a q g0 g1 g2 g3 g4 g5 g6 g7 r3.1 r3.2.1 r3.2.2.1 r3.2.2.2 g12 g13 g14 g15 g16 g17 g18 g19) := dD hD rfl
    refine lv_goto (tgt := 112) hx hb (dt_at dt_Ref_quotients 52 rfl) (by decide) ?_
    exact k_Ref_quotients_112 hC hA hK   r3.1 r3.2.1 r3.2.2.1 r3.2.2.2 g12 H locs ls hP hD hS (lv_sub hl [] rfl) h
set_option maxRecDepth 100000 in
set_option maxHeartbeats 4000000 in
theorem k_Ref_quotients_51 {p : Program} {l : Launch} {e : Env} {s : State} {m : MethodId} {args : Array Value} {below : List Frame} {meth : Method} {c : Code} {D : va_G} {a : Nat → Nat} {q : Nat → ClassId} {A : Nat → Prop} (hC : CX p s m args meth c prog_12_method_34_code 9 "OutwardTapeModel" none) (hA : ∀ x, s.heap.size ≤ x → A x) (hK : va_K D CLS (tR q) s) {g0 : Int32} {g1 : Nat → Int32} {g2 : Nat → Int64} {g3 : Nat → Int64} {g4 : Nat → Int32} {g5 : Int32} {g6 : Nat → Int32} {g7 : Int32} {g13 : Int32} {g14 : Int32} {g15 : Int64} {g16 : Int32} {g17 : Int32} {g18 : Int64} {g19 : Int32} {r0 : (Nat → Int32) × Int32 × Int64 × Int64 × Int32} : ∀ (v1 : Int64) (v3 : Int64) (v5 : Int64) (v7 : Int64) (g8 : Nat → Int32) (g9 : Int32) (g10 : Int64) (g11 : Int64) (g12 : Int32) (H : Heap) (locs : List Loc) (ls : Array Slot), va_P D CLS (wR a q g0 g1 g2 g3 g4 g5 g6 g7 g8 g9 g10 g11 g12 g13 g14 g15 g16 g17 g18 g19) H → va_D A (wR a q g0 g1 g2 g3 g4 g5 g6 g7 g8 g9 g10 g11 g12 g13 g14 g15 g16 g17 g18 g19) → va_S A s.heap H locs → lv_has ls 9 [(0, .ref (a 0)), (1, .long v1), (3, .long v3), (5, .long v5), (7, .long v7)] → f_Ref_quotients_51  v1 v3 v5 v7 g8 g9 g10 g11 g12 = some r0 → W p l e rm_Ref_quotients s m args below meth c H locs 0 0 (MQ below (va_Qv (fun _ : Unit => True) (fun _ t => va_P D CLS (wR a q g0 g1 g2 g3 g4 g5 g6 g7 r0.1 r0.2.1 r0.2.2.1 r0.2.2.2.1 r0.2.2.2.2 g13 g14 g15 g16 g17 g18 g19) t.heap) A) args s 0 0 A) (F0 m 51 ls []) := by
  obtain ⟨hx, hb, hml, hown, hts, hr, hlocks⟩ := id hC
  intro v1 v3 v5 v7 g8 g9 g10 g11 g12 H locs ls hP hD hS hl h
  rw [f_Ref_quotients_51] at h
  refine lv_lload hx hb (dt_at dt_Ref_quotients 29 rfl) (lv_at hl 3 rfl) ?_
  refine lv_lconst (v := 0) hx hb (dt_at dt_Ref_quotients 30 rfl) (by decide) ?_
  refine lc_ge (tgt := 78) hx hb (dt_at dt_Ref_quotients 31 rfl) (dt_at dt_Ref_quotients 32 rfl) (by decide) (fun c1 => ?_) (fun c1 => ?_)
  · have h := if_p h c1
    exact k_Ref_quotients_78 hC hA hK   v1 v3 v5 v7 g8 g9 g10 g11 g12 H locs ls hP hD hS (lv_sub hl [0, 1, 2, 3, 4] rfl) h
  · have h := if_n h c1
    refine lv_lload hx hb (dt_at dt_Ref_quotients 33 rfl) (lv_at hl 4 rfl) ?_
    refine lv_lconst (v := 0) hx hb (dt_at dt_Ref_quotients 34 rfl) (by decide) ?_
    refine lc_le (tgt := 78) hx hb (dt_at dt_Ref_quotients 35 rfl) (dt_at dt_Ref_quotients 36 rfl) (by decide) (fun c2 => ?_) (fun c2 => ?_)
    · have h := if_p h c2
      exact k_Ref_quotients_78 hC hA hK   v1 v3 v5 v7 g8 g9 g10 g11 g12 H locs ls hP hD hS (lv_sub hl [0, 1, 2, 3, 4] rfl) h
    · have h := if_n h c2
      refine lv_aload_n hx hb (dt_at dt_Ref_quotients 37 rfl) rfl (lv_at hl 0 rfl) ?_
      refine lv_ldc2 (v := -9218868437227405312) hx hb hown (hts (Cond.constantLong "OutwardTapeModel" 95 (-9218868437227405312)) (m_4 74 rfl rfl)) (dt_at dt_Ref_quotients 38 rfl) ?_
      refine lv_ldc2 (v := 9218868437227405312) hx hb hown (hts (Cond.constantLong "OutwardTapeModel" 69 (9218868437227405312)) (m_4 70 rfl rfl)) (dt_at dt_Ref_quotients 39 rfl) ?_
      obtain ⟨r3, h_r3, h⟩ := ob_of h
      have hF := va_free (wc := dR a) (dD (ws' := dR a) hD rfl) hS hA [0, 1, 2, 3, 4, 5, 6] rfl
      have hd : va_D (fun _ => True) (dR a) := (dD (ws' := dR a) hD rfl).weaken (fun _ _ _ _ => trivial)
      refine va_callv (va_runV (As := [.long (-9218868437227405312 : Int64), .long (9218868437227405312 : Int64)]) (rest := []) ⟨hx, hb, hml, hown, hts⟩ (c_Ref_result l D a q hd H.size (-9218868437227405312 : Int64) (9218868437227405312 : Int64) g0 g1 g2 g3 g4 g5 g6 g7 g8 g9 g10 g11 g12 g13 g14 g15 g16 g17 g18 g19 r3 h_r3) (cwV 2 hts (gd_V (m_4 104 rfl rfl) (m_4 106 rfl rfl) (m_s 26 rfl rfl) (m_1 4 rfl rfl) (m_4 107 rfl rfl)) rfl rfl rfl (by decide +kernel) ⟨Nat.le_of_ble_eq_true rfl, Nat.le_of_ble_eq_true rfl⟩) ⟨fun a U g mk q => ⟨q.1, q.2.1, q.2.2.1, va_K.moved (u := U) (U := U.calling g mk a) (Vm.Alike.refl U.vm) q.2.2.2⟩, va_recv hK hP (ci := 0) (q0 := 0) rfl rfl, fun U hU hW => ⟨rfl, by rw [hU], by rw [hU]; exact hP, va_K.moved hW.alike hK⟩⟩ rfl rfl hl.1 rfl (lv_room (Nat.le_of_ble_eq_true rfl)) (dt_at dt_Ref_quotients 40 rfl) ⟨Nat.le_of_ble_eq_true rfl, Nat.le_of_ble_eq_true rfl⟩) hS (fun x _ h9 => hF x h9) hF (fun uu t H locs ht hvm hw hB hz1 hk1 hS => ?_)
      rw [ht] at hB
      have hP : va_P D CLS (wR a q g0 g1 g2 g3 g4 g5 g6 g7 g8 g9 r3.1 r3.2 g12 g13 g14 g15 g16 g17 g18 g19) H := hB
      have hD : va_D A (wR a q g0 g1 g2 g3 g4 g5 g6 g7 g8 g9 r3.1 r3.2 g12 g13 g14 g15 g16 g17 g18 g19) := dD hD rfl
      refine lv_goto (tgt := 112) hx hb (dt_at dt_Ref_quotients 41 rfl) (by decide) ?_
      exact k_Ref_quotients_112 hC hA hK   g8 g9 r3.1 r3.2 g12 H locs ls hP hD hS (lv_sub hl [] rfl) h
set_option maxRecDepth 100000 in
set_option maxHeartbeats 4000000 in
theorem k_Ref_quotients_42 {p : Program} {l : Launch} {e : Env} {s : State} {m : MethodId} {args : Array Value} {below : List Frame} {meth : Method} {c : Code} {D : va_G} {a : Nat → Nat} {q : Nat → ClassId} {A : Nat → Prop} (hC : CX p s m args meth c prog_12_method_34_code 9 "OutwardTapeModel" none) (hA : ∀ x, s.heap.size ≤ x → A x) (hK : va_K D CLS (tR q) s) {g0 : Int32} {g1 : Nat → Int32} {g2 : Nat → Int64} {g3 : Nat → Int64} {g4 : Nat → Int32} {g5 : Int32} {g6 : Nat → Int32} {g7 : Int32} {g13 : Int32} {g14 : Int32} {g15 : Int64} {g16 : Int32} {g17 : Int32} {g18 : Int64} {g19 : Int32} {r0 : (Nat → Int32) × Int32 × Int64 × Int64 × Int32} : ∀  (g8 : Nat → Int32) (g9 : Int32) (g10 : Int64) (g11 : Int64) (g12 : Int32) (H : Heap) (locs : List Loc) (ls : Array Slot), va_P D CLS (wR a q g0 g1 g2 g3 g4 g5 g6 g7 g8 g9 g10 g11 g12 g13 g14 g15 g16 g17 g18 g19) H → va_D A (wR a q g0 g1 g2 g3 g4 g5 g6 g7 g8 g9 g10 g11 g12 g13 g14 g15 g16 g17 g18 g19) → va_S A s.heap H locs → lv_has ls 9 [(0, .ref (a 0))] → f_Ref_quotients_42  g8 g9 g10 g11 g12 = some r0 → W p l e rm_Ref_quotients s m args below meth c H locs 0 0 (MQ below (va_Qv (fun _ : Unit => True) (fun _ t => va_P D CLS (wR a q g0 g1 g2 g3 g4 g5 g6 g7 r0.1 r0.2.1 r0.2.2.1 r0.2.2.2.1 r0.2.2.2.2 g13 g14 g15 g16 g17 g18 g19) t.heap) A) args s 0 0 A) (F0 m 42 ls []) := by
  obtain ⟨hx, hb, hml, hown, hts, hr, hlocks⟩ := id hC
  intro g8 g9 g10 g11 g12 H locs ls hP hD hS hl h
  rw [f_Ref_quotients_42] at h
  refine lv_aload_n hx hb (dt_at dt_Ref_quotients 24 rfl) rfl (lv_at hl 0 rfl) ?_
  refine lv_lconst (v := 0) hx hb (dt_at dt_Ref_quotients 25 rfl) (by decide) ?_
  refine lv_lconst (v := 0) hx hb (dt_at dt_Ref_quotients 26 rfl) (by decide) ?_
  obtain ⟨r1, h_r1, h⟩ := ob_of h
  have hF := va_free (wc := dR a) (dD (ws' := dR a) hD rfl) hS hA [0, 1, 2, 3, 4, 5, 6] rfl
  have hd : va_D (fun _ => True) (dR a) := (dD (ws' := dR a) hD rfl).weaken (fun _ _ _ _ => trivial)
  refine va_callv (va_runV (As := [.long (0 : Int64), .long (0 : Int64)]) (rest := []) ⟨hx, hb, hml, hown, hts⟩ (c_Ref_result l D a q hd H.size (0 : Int64) (0 : Int64) g0 g1 g2 g3 g4 g5 g6 g7 g8 g9 g10 g11 g12 g13 g14 g15 g16 g17 g18 g19 r1 h_r1) (cwV 2 hts (gd_V (m_4 104 rfl rfl) (m_4 106 rfl rfl) (m_s 26 rfl rfl) (m_1 4 rfl rfl) (m_4 107 rfl rfl)) rfl rfl rfl (by decide +kernel) ⟨Nat.le_of_ble_eq_true rfl, Nat.le_of_ble_eq_true rfl⟩) ⟨fun a U g mk q => ⟨q.1, q.2.1, q.2.2.1, va_K.moved (u := U) (U := U.calling g mk a) (Vm.Alike.refl U.vm) q.2.2.2⟩, va_recv hK hP (ci := 0) (q0 := 0) rfl rfl, fun U hU hW => ⟨rfl, by rw [hU], by rw [hU]; exact hP, va_K.moved hW.alike hK⟩⟩ rfl rfl hl.1 rfl (lv_room (Nat.le_of_ble_eq_true rfl)) (dt_at dt_Ref_quotients 27 rfl) ⟨Nat.le_of_ble_eq_true rfl, Nat.le_of_ble_eq_true rfl⟩) hS (fun x _ h9 => hF x h9) hF (fun uu t H locs ht hvm hw hB hz1 hk1 hS => ?_)
  rw [ht] at hB
  have hP : va_P D CLS (wR a q g0 g1 g2 g3 g4 g5 g6 g7 g8 g9 r1.1 r1.2 g12 g13 g14 g15 g16 g17 g18 g19) H := hB
  have hD : va_D A (wR a q g0 g1 g2 g3 g4 g5 g6 g7 g8 g9 r1.1 r1.2 g12 g13 g14 g15 g16 g17 g18 g19) := dD hD rfl
  refine lv_goto (tgt := 112) hx hb (dt_at dt_Ref_quotients 28 rfl) (by decide) ?_
  exact k_Ref_quotients_112 hC hA hK   g8 g9 r1.1 r1.2 g12 H locs ls hP hD hS (lv_sub hl [] rfl) h
set_option maxRecDepth 100000 in
set_option maxHeartbeats 4000000 in
theorem k_Ref_quotients_20 {p : Program} {l : Launch} {e : Env} {s : State} {m : MethodId} {args : Array Value} {below : List Frame} {meth : Method} {c : Code} {D : va_G} {a : Nat → Nat} {q : Nat → ClassId} {A : Nat → Prop} (hC : CX p s m args meth c prog_12_method_34_code 9 "OutwardTapeModel" none) (hA : ∀ x, s.heap.size ≤ x → A x) (hK : va_K D CLS (tR q) s) {g0 : Int32} {g1 : Nat → Int32} {g2 : Nat → Int64} {g3 : Nat → Int64} {g4 : Nat → Int32} {g5 : Int32} {g6 : Nat → Int32} {g7 : Int32} {g13 : Int32} {g14 : Int32} {g15 : Int64} {g16 : Int32} {g17 : Int32} {g18 : Int64} {g19 : Int32} {r0 : (Nat → Int32) × Int32 × Int64 × Int64 × Int32} : ∀ (s0 : Int32) (v1 : Int64) (v3 : Int64) (v5 : Int64) (v7 : Int64) (g8 : Nat → Int32) (g9 : Int32) (g10 : Int64) (g11 : Int64) (g12 : Int32) (H : Heap) (locs : List Loc) (ls : Array Slot), va_P D CLS (wR a q g0 g1 g2 g3 g4 g5 g6 g7 g8 g9 g10 g11 g12 g13 g14 g15 g16 g17 g18 g19) H → va_D A (wR a q g0 g1 g2 g3 g4 g5 g6 g7 g8 g9 g10 g11 g12 g13 g14 g15 g16 g17 g18 g19) → va_S A s.heap H locs → lv_has ls 9 [(0, .ref (a 0)), (1, .long v1), (3, .long v3), (5, .long v5), (7, .long v7)] → f_Ref_quotients_20  s0 v1 v3 v5 v7 g8 g9 g10 g11 g12 = some r0 → W p l e rm_Ref_quotients s m args below meth c H locs 0 0 (MQ below (va_Qv (fun _ : Unit => True) (fun _ t => va_P D CLS (wR a q g0 g1 g2 g3 g4 g5 g6 g7 r0.1 r0.2.1 r0.2.2.1 r0.2.2.2.1 r0.2.2.2.2 g13 g14 g15 g16 g17 g18 g19) t.heap) A) args s 0 0 A) (F0 m 20 ls [.int s0, .ref (a 0)]) := by
  obtain ⟨hx, hb, hml, hown, hts, hr, hlocks⟩ := id hC
  intro s0 v1 v3 v5 v7 g8 g9 g10 g11 g12 H locs ls hP hD hS hl h
  rw [f_Ref_quotients_20] at h
  obtain ⟨z1, h⟩ := og_of h
  refine va_put (D := D) (ci := 0) (v := .int s0) (ty := .boolean) (C := "OutwardTapeModel") (T := T_Ref) (N := 20) hx hb hts in_Ref ty_Ref tk_Ref nm_Ref hown hK hP hD hS 0 rfl rfl 12 (by decide) (hts (Cond.fieldLink "OutwardTapeModel" 144 "OutwardTapeModel" "none" "Z") (m_4 11 rfl rfl)) (fun _ h9 => h9) rfl (by decide +kernel) (j_z_nar z1) (j_z_fit z1) (Nat.le_of_ble_eq_true rfl) (dt_at dt_Ref_quotients 12 rfl) (fun H locs hP hD hS => ?_)
  have hP : va_P D CLS (wR a q g0 g1 g2 g3 g4 g5 g6 g7 g8 g9 g10 g11 s0 g13 g14 g15 g16 g17 g18 g19) H := hP
  have hD : va_D A (wR a q g0 g1 g2 g3 g4 g5 g6 g7 g8 g9 g10 g11 s0 g13 g14 g15 g16 g17 g18 g19) := hD
  refine lv_aload_n hx hb (dt_at dt_Ref_quotients 13 rfl) rfl (lv_at hl 0 rfl) ?_
  refine va_get (D := D) (ci := 0) (v := .int s0) (C := "OutwardTapeModel") (T := T_Ref) (N := 20) hx hb hts in_Ref hown hK hP 0 rfl rfl 12 (by decide) (hts (Cond.fieldLink "OutwardTapeModel" 144 "OutwardTapeModel" "none" "Z") (m_4 11 rfl rfl)) (fun _ h9 => h9) rfl (dt_at dt_Ref_quotients 14 rfl) ?_
  refine lv_if_ne (tgt := 42) hx hb (dt_at dt_Ref_quotients 15 rfl) (by decide) (fun c2 => ?_) (fun c2 => ?_)
  · have h := if_n h c2
    exact k_Ref_quotients_42 hC hA hK   g8 g9 g10 g11 s0 H locs ls hP hD hS (lv_sub hl [0] rfl) h
  · have h := if_p h c2
    refine lv_lload_n hx hb (dt_at dt_Ref_quotients 16 rfl) rfl (lv_at hl 1 rfl) ?_
    refine lv_lconst (v := 0) hx hb (dt_at dt_Ref_quotients 17 rfl) (by decide) ?_
    refine lc_ne (tgt := 51) hx hb (dt_at dt_Ref_quotients 18 rfl) (dt_at dt_Ref_quotients 19 rfl) (by decide) (fun c3 => ?_) (fun c3 => ?_)
    · have h := if_n h c3
      exact k_Ref_quotients_51 hC hA hK   v1 v3 v5 v7 g8 g9 g10 g11 s0 H locs ls hP hD hS (lv_sub hl [0, 1, 2, 3, 4] rfl) h
    · have h := if_p h c3
      refine lv_lload_n hx hb (dt_at dt_Ref_quotients 20 rfl) rfl (lv_at hl 2 rfl) ?_
      refine lv_lconst (v := 0) hx hb (dt_at dt_Ref_quotients 21 rfl) (by decide) ?_
      refine lc_ne (tgt := 51) hx hb (dt_at dt_Ref_quotients 22 rfl) (dt_at dt_Ref_quotients 23 rfl) (by decide) (fun c4 => ?_) (fun c4 => ?_)
      · have h := if_n h c4
        exact k_Ref_quotients_51 hC hA hK   v1 v3 v5 v7 g8 g9 g10 g11 s0 H locs ls hP hD hS (lv_sub hl [0, 1, 2, 3, 4] rfl) h
      · have h := if_p h c4
        exact k_Ref_quotients_42 hC hA hK   g8 g9 g10 g11 s0 H locs ls hP hD hS (lv_sub hl [0] rfl) h
set_option maxRecDepth 100000 in
set_option maxHeartbeats 4000000 in
theorem k_Ref_quotients_19 {p : Program} {l : Launch} {e : Env} {s : State} {m : MethodId} {args : Array Value} {below : List Frame} {meth : Method} {c : Code} {D : va_G} {a : Nat → Nat} {q : Nat → ClassId} {A : Nat → Prop} (hC : CX p s m args meth c prog_12_method_34_code 9 "OutwardTapeModel" none) (hA : ∀ x, s.heap.size ≤ x → A x) (hK : va_K D CLS (tR q) s) {g0 : Int32} {g1 : Nat → Int32} {g2 : Nat → Int64} {g3 : Nat → Int64} {g4 : Nat → Int32} {g5 : Int32} {g6 : Nat → Int32} {g7 : Int32} {g13 : Int32} {g14 : Int32} {g15 : Int64} {g16 : Int32} {g17 : Int32} {g18 : Int64} {g19 : Int32} {r0 : (Nat → Int32) × Int32 × Int64 × Int64 × Int32} : ∀ (v1 : Int64) (v3 : Int64) (v5 : Int64) (v7 : Int64) (g8 : Nat → Int32) (g9 : Int32) (g10 : Int64) (g11 : Int64) (g12 : Int32) (H : Heap) (locs : List Loc) (ls : Array Slot), va_P D CLS (wR a q g0 g1 g2 g3 g4 g5 g6 g7 g8 g9 g10 g11 g12 g13 g14 g15 g16 g17 g18 g19) H → va_D A (wR a q g0 g1 g2 g3 g4 g5 g6 g7 g8 g9 g10 g11 g12 g13 g14 g15 g16 g17 g18 g19) → va_S A s.heap H locs → lv_has ls 9 [(0, .ref (a 0)), (1, .long v1), (3, .long v3), (5, .long v5), (7, .long v7)] → f_Ref_quotients_19  v1 v3 v5 v7 g8 g9 g10 g11 g12 = some r0 → W p l e rm_Ref_quotients s m args below meth c H locs 0 0 (MQ below (va_Qv (fun _ : Unit => True) (fun _ t => va_P D CLS (wR a q g0 g1 g2 g3 g4 g5 g6 g7 r0.1 r0.2.1 r0.2.2.1 r0.2.2.2.1 r0.2.2.2.2 g13 g14 g15 g16 g17 g18 g19) t.heap) A) args s 0 0 A) (F0 m 19 ls [.ref (a 0)]) := by
  obtain ⟨hx, hb, hml, hown, hts, hr, hlocks⟩ := id hC
  intro v1 v3 v5 v7 g8 g9 g10 g11 g12 H locs ls hP hD hS hl h
  rw [f_Ref_quotients_19] at h
  refine lv_iconst (v := 0) hx hb (dt_at dt_Ref_quotients 11 rfl) (by decide) ?_
  exact k_Ref_quotients_20 hC hA hK   (0 : Int32) v1 v3 v5 v7 g8 g9 g10 g11 g12 H locs ls hP hD hS (lv_sub hl [0, 1, 2, 3, 4] rfl) h
set_option maxRecDepth 100000 in
set_option maxHeartbeats 4000000 in
theorem k_Ref_quotients_0 {p : Program} {l : Launch} {e : Env} {s : State} {m : MethodId} {args : Array Value} {below : List Frame} {meth : Method} {c : Code} {D : va_G} {a : Nat → Nat} {q : Nat → ClassId} {A : Nat → Prop} (hC : CX p s m args meth c prog_12_method_34_code 9 "OutwardTapeModel" none) (hA : ∀ x, s.heap.size ≤ x → A x) (hK : va_K D CLS (tR q) s) {g0 : Int32} {g1 : Nat → Int32} {g2 : Nat → Int64} {g3 : Nat → Int64} {g4 : Nat → Int32} {g5 : Int32} {g6 : Nat → Int32} {g7 : Int32} {g13 : Int32} {g14 : Int32} {g15 : Int64} {g16 : Int32} {g17 : Int32} {g18 : Int64} {g19 : Int32} {r0 : (Nat → Int32) × Int32 × Int64 × Int64 × Int32} : ∀ (v1 : Int64) (v3 : Int64) (v5 : Int64) (v7 : Int64) (g8 : Nat → Int32) (g9 : Int32) (g10 : Int64) (g11 : Int64) (g12 : Int32) (H : Heap) (locs : List Loc) (ls : Array Slot), va_P D CLS (wR a q g0 g1 g2 g3 g4 g5 g6 g7 g8 g9 g10 g11 g12 g13 g14 g15 g16 g17 g18 g19) H → va_D A (wR a q g0 g1 g2 g3 g4 g5 g6 g7 g8 g9 g10 g11 g12 g13 g14 g15 g16 g17 g18 g19) → va_S A s.heap H locs → lv_has ls 9 [(0, .ref (a 0)), (1, .long v1), (3, .long v3), (5, .long v5), (7, .long v7)] → f_Ref_quotients_0  v1 v3 v5 v7 g8 g9 g10 g11 g12 = some r0 → W p l e rm_Ref_quotients s m args below meth c H locs 0 0 (MQ below (va_Qv (fun _ : Unit => True) (fun _ t => va_P D CLS (wR a q g0 g1 g2 g3 g4 g5 g6 g7 r0.1 r0.2.1 r0.2.2.1 r0.2.2.2.1 r0.2.2.2.2 g13 g14 g15 g16 g17 g18 g19) t.heap) A) args s 0 0 A) (F0 m 0 ls []) := by
  obtain ⟨hx, hb, hml, hown, hts, hr, hlocks⟩ := id hC
  intro v1 v3 v5 v7 g8 g9 g10 g11 g12 H locs ls hP hD hS hl h
  rw [f_Ref_quotients_0] at h
  refine lv_aload_n hx hb (dt_at dt_Ref_quotients 0 rfl) rfl (lv_at hl 0 rfl) ?_
  refine lv_lload hx hb (dt_at dt_Ref_quotients 1 rfl) (lv_at hl 3 rfl) ?_
  refine lv_lconst (v := 0) hx hb (dt_at dt_Ref_quotients 2 rfl) (by decide) ?_
  refine lc_ne (tgt := 19) hx hb (dt_at dt_Ref_quotients 3 rfl) (dt_at dt_Ref_quotients 4 rfl) (by decide) (fun c1 => ?_) (fun c1 => ?_)
  · have h := if_n h c1
    exact k_Ref_quotients_19 hC hA hK   v1 v3 v5 v7 g8 g9 g10 g11 g12 H locs ls hP hD hS (lv_sub hl [0, 1, 2, 3, 4] rfl) h
  · have h := if_p h c1
    refine lv_lload hx hb (dt_at dt_Ref_quotients 5 rfl) (lv_at hl 4 rfl) ?_
    refine lv_lconst (v := 0) hx hb (dt_at dt_Ref_quotients 6 rfl) (by decide) ?_
    refine lc_ne (tgt := 19) hx hb (dt_at dt_Ref_quotients 7 rfl) (dt_at dt_Ref_quotients 8 rfl) (by decide) (fun c2 => ?_) (fun c2 => ?_)
    · have h := if_n h c2
      exact k_Ref_quotients_19 hC hA hK   v1 v3 v5 v7 g8 g9 g10 g11 g12 H locs ls hP hD hS (lv_sub hl [0, 1, 2, 3, 4] rfl) h
    · have h := if_p h c2
      refine lv_iconst (v := 1) hx hb (dt_at dt_Ref_quotients 9 rfl) (by decide) ?_
      refine lv_goto (tgt := 20) hx hb (dt_at dt_Ref_quotients 10 rfl) (by decide) ?_
      exact k_Ref_quotients_20 hC hA hK   (1 : Int32) v1 v3 v5 v7 g8 g9 g10 g11 g12 H locs ls hP hD hS (lv_sub hl [0, 1, 2, 3, 4] rfl) h
set_option maxRecDepth 100000 in
set_option maxHeartbeats 4000000 in
theorem c_Ref_quotients (l : Launch) (D : va_G) (a : Nat → Nat) (q : Nat → ClassId) (hd : va_D (fun _ => True) (dR a)) (sz : Nat) (a1 : Int64) (a3 : Int64) (a5 : Int64) (a7 : Int64) (g0 : Int32) (g1 : Nat → Int32) (g2 : Nat → Int64) (g3 : Nat → Int64) (g4 : Nat → Int32) (g5 : Int32) (g6 : Nat → Int32) (g7 : Int32) (g8 : Nat → Int32) (g9 : Int32) (g10 : Int64) (g11 : Int64) (g12 : Int32) (g13 : Int32) (g14 : Int32) (g15 : Int64) (g16 : Int32) (g17 : Int32) (g18 : Int64) (g19 : Int32) (r0 : (Nat → Int32) × Int32 × Int64 × Int64 × Int32) (h : f_Ref_quotients a1 a3 a5 a7 g8 g9 g10 g11 g12 = some r0) : Met l (⟨"OutwardTapeModel", "quotients", "(JJJJ)V"⟩ : MethodName) (WSm (⟨"OutwardTapeModel", "quotients", "(JJJJ)V"⟩ : MethodName) prog_12_method_34_code 9 none) rm_Ref_quotients (va_Pc [.ref (a 0), .long a1, .long a3, .long a5, .long a7] (fun U => U.heap.size = sz ∧ va_P D CLS (wR a q g0 g1 g2 g3 g4 g5 g6 g7 g8 g9 g10 g11 g12 g13 g14 g15 g16 g17 g18 g19) U.heap ∧ va_K D CLS (tR q) U)) (va_Qv (fun _ : Unit => True) (fun _ t => va_P D CLS (wR a q g0 g1 g2 g3 g4 g5 g6 g7 r0.1 r0.2.1 r0.2.2.1 r0.2.2.2.1 r0.2.2.2.2 g13 g14 g15 g16 g17 g18 g19) t.heap) (va_A (dR a) sz)) 0 0 (va_A (dR a) sz) := by
  refine Met.ofW (cc := prog_12_method_34_code) (maxL := 9) (ret := none) (by decide) rfl ?_
  intro p e s m args below meth c s₁ B hml hv
  obtain ⟨rfl, hsz, hP, hK⟩ := hv
  subst hsz
  have hC := CX.of B hml rfl
  have hl := lv_entry [.ref (a 0), .long a1, .long a3, .long a5, .long a7] (n := 9) (Nat.le_of_ble_eq_true rfl)
  rw [lg_entry_eq]
  generalize (lg_sl [.ref (a 0), .long a1, .long a3, .long a5, .long a7] ++ List.replicate (9 - (lg_sl [.ref (a 0), .long a1, .long a3, .long a5, .long a7]).length) Slot.unset).toArray = ls at hl ⊢
  have hl : lv_has ls 9 [(0, .ref (a 0)), (1, .long a1), (3, .long a3), (5, .long a5), (7, .long a7)] := hl
  exact k_Ref_quotients_0 hC (fun x h => Or.inr h) hK a1 a3 a5 a7 g8 g9 g10 g11 g12 s.heap [] ls hP (dD hd.self rfl) va_S.rf (lv_sub hl [0, 1, 2, 3, 4] rfl) h
abbrev rm_Ref_ofOne : Room := { frames := 6, cells := 0, slots := 0, locals := 165 }
set_option maxRecDepth 100000 in
set_option maxHeartbeats 4000000 in
theorem k_Ref_ofOne_295 {p : Program} {l : Launch} {e : Env} {s : State} {m : MethodId} {args : Array Value} {below : List Frame} {meth : Method} {c : Code} {D : va_G} {a : Nat → Nat} {q : Nat → ClassId} {A : Nat → Prop} (hC : CX p s m args meth c prog_12_method_35_code 10 "OutwardTapeModel" (some .int)) (hA : ∀ x, s.heap.size ≤ x → A x) (hK : va_K D CLS (tR q) s) {g0 : Int32} {g1 : Nat → Int32} {g2 : Nat → Int64} {g3 : Nat → Int64} {g4 : Nat → Int32} {g5 : Int32} {g6 : Nat → Int32} {g7 : Int32} {g13 : Int32} {g14 : Int32} {g15 : Int64} {g16 : Int32} {g17 : Int32} {g18 : Int64} {g19 : Int32} {r0 : Int32 × (Nat → Int32) × Int32 × Int64 × Int64 × Int32} : ∀ (s0 : Int32) (g8 : Nat → Int32) (g9 : Int32) (g10 : Int64) (g11 : Int64) (g12 : Int32) (H : Heap) (locs : List Loc) (ls : Array Slot), va_P D CLS (wR a q g0 g1 g2 g3 g4 g5 g6 g7 g8 g9 g10 g11 g12 g13 g14 g15 g16 g17 g18 g19) H → va_D A (wR a q g0 g1 g2 g3 g4 g5 g6 g7 g8 g9 g10 g11 g12 g13 g14 g15 g16 g17 g18 g19) → va_S A s.heap H locs → lv_has ls 10 [] → f_Ref_ofOne_295  s0 g8 g9 g10 g11 g12 = some r0 → W p l e rm_Ref_ofOne s m args below meth c H locs 0 0 (MQ below (va_Qi (fun (r : Int32) (_ : Unit) => r = r0.1) (fun _ t => va_P D CLS (wR a q g0 g1 g2 g3 g4 g5 g6 g7 r0.2.1 r0.2.2.1 r0.2.2.2.1 r0.2.2.2.2.1 r0.2.2.2.2.2 g13 g14 g15 g16 g17 g18 g19) t.heap) A) args s 0 0 A) (F0 m 295 ls [.int s0]) := by
  obtain ⟨hx, hb, hml, hown, hts, hr, hlocks⟩ := id hC
  intro s0 g8 g9 g10 g11 g12 H locs ls hP hD hS hl h
  rw [f_Ref_ofOne_295] at h
  obtain rfl := os_of h
  exact W.iret (v := s0) hx hb hr (fun t ht hW => ⟨⟨_, (), rfl, rfl, (hPt hP ht)⟩, hS.F ht⟩) hS.2.2 (dt_at dt_Ref_ofOne 141 rfl)
set_option maxRecDepth 100000 in
set_option maxHeartbeats 4000000 in
theorem k_Ref_ofOne_278 {p : Program} {l : Launch} {e : Env} {s : State} {m : MethodId} {args : Array Value} {below : List Frame} {meth : Method} {c : Code} {D : va_G} {a : Nat → Nat} {q : Nat → ClassId} {A : Nat → Prop} (hC : CX p s m args meth c prog_12_method_35_code 10 "OutwardTapeModel" (some .int)) (hA : ∀ x, s.heap.size ≤ x → A x) (hK : va_K D CLS (tR q) s) {g0 : Int32} {g1 : Nat → Int32} {g2 : Nat → Int64} {g3 : Nat → Int64} {g4 : Nat → Int32} {g5 : Int32} {g6 : Nat → Int32} {g7 : Int32} {g13 : Int32} {g14 : Int32} {g15 : Int64} {g16 : Int32} {g17 : Int32} {g18 : Int64} {g19 : Int32} {r0 : Int32 × (Nat → Int32) × Int32 × Int64 × Int64 × Int32} : ∀  (g8 : Nat → Int32) (g9 : Int32) (g10 : Int64) (g11 : Int64) (g12 : Int32) (H : Heap) (locs : List Loc) (ls : Array Slot), va_P D CLS (wR a q g0 g1 g2 g3 g4 g5 g6 g7 g8 g9 g10 g11 g12 g13 g14 g15 g16 g17 g18 g19) H → va_D A (wR a q g0 g1 g2 g3 g4 g5 g6 g7 g8 g9 g10 g11 g12 g13 g14 g15 g16 g17 g18 g19) → va_S A s.heap H locs → lv_has ls 10 [(0, .ref (a 0))] → f_Ref_ofOne_278  g8 g9 g10 g11 g12 = some r0 → W p l e rm_Ref_ofOne s m args below meth c H locs 0 0 (MQ below (va_Qi (fun (r : Int32) (_ : Unit) => r = r0.1) (fun _ t => va_P D CLS (wR a q g0 g1 g2 g3 g4 g5 g6 g7 r0.2.1 r0.2.2.1 r0.2.2.2.1 r0.2.2.2.2.1 r0.2.2.2.2.2 g13 g14 g15 g16 g17 g18 g19) t.heap) A) args s 0 0 A) (F0 m 278 ls []) := by
  obtain ⟨hx, hb, hml, hown, hts, hr, hlocks⟩ := id hC
  intro g8 g9 g10 g11 g12 H locs ls hP hD hS hl h
  rw [f_Ref_ofOne_278] at h
  refine lv_aload_n hx hb (dt_at dt_Ref_ofOne 132 rfl) rfl (lv_at hl 0 rfl) ?_
  refine va_get (D := D) (ci := 0) (v := .long g10) (C := "OutwardTapeModel") (T := T_Ref) (N := 20) hx hb hts in_Ref hown hK hP 0 rfl rfl 10 (by decide) (hts (Cond.fieldLink "OutwardTapeModel" 126 "OutwardTapeModel" "resultLow" "J") (m_4 9 rfl rfl)) (fun _ h9 => h9) rfl (dt_at dt_Ref_ofOne 133 rfl) ?_
  refine lv_aload_n hx hb (dt_at dt_Ref_ofOne 134 rfl) rfl (lv_at hl 0 rfl) ?_
  refine va_get (D := D) (ci := 0) (v := .long g11) (C := "OutwardTapeModel") (T := T_Ref) (N := 20) hx hb hts in_Ref hown hK hP 0 rfl rfl 11 (by decide) (hts (Cond.fieldLink "OutwardTapeModel" 130 "OutwardTapeModel" "resultHigh" "J") (m_4 10 rfl rfl)) (fun _ h9 => h9) rfl (dt_at dt_Ref_ofOne 135 rfl) ?_
  refine lc_ne (tgt := 294) hx hb (dt_at dt_Ref_ofOne 136 rfl) (dt_at dt_Ref_ofOne 137 rfl) (by decide) (fun c1 => ?_) (fun c1 => ?_)
  · have h := if_n h c1
    refine lv_iconst (v := 2) hx hb (dt_at dt_Ref_ofOne 140 rfl) (by decide) ?_
    exact k_Ref_ofOne_295 hC hA hK   (2 : Int32) g8 g9 g10 g11 g12 H locs ls hP hD hS (lv_sub hl [] rfl) h
  · have h := if_p h c1
    refine lv_iconst (v := 3) hx hb (dt_at dt_Ref_ofOne 138 rfl) (by decide) ?_
    refine lv_goto (tgt := 295) hx hb (dt_at dt_Ref_ofOne 139 rfl) (by decide) ?_
    exact k_Ref_ofOne_295 hC hA hK   (3 : Int32) g8 g9 g10 g11 g12 H locs ls hP hD hS (lv_sub hl [] rfl) h
set_option maxRecDepth 100000 in
set_option maxHeartbeats 4000000 in
theorem k_Ref_ofOne_204 {p : Program} {l : Launch} {e : Env} {s : State} {m : MethodId} {args : Array Value} {below : List Frame} {meth : Method} {c : Code} {D : va_G} {a : Nat → Nat} {q : Nat → ClassId} {A : Nat → Prop} (hC : CX p s m args meth c prog_12_method_35_code 10 "OutwardTapeModel" (some .int)) (hA : ∀ x, s.heap.size ≤ x → A x) (hK : va_K D CLS (tR q) s) {g0 : Int32} {g1 : Nat → Int32} {g2 : Nat → Int64} {g3 : Nat → Int64} {g4 : Nat → Int32} {g5 : Int32} {g6 : Nat → Int32} {g7 : Int32} {g13 : Int32} {g14 : Int32} {g15 : Int64} {g16 : Int32} {g17 : Int32} {g18 : Int64} {g19 : Int32} {r0 : Int32 × (Nat → Int32) × Int32 × Int64 × Int64 × Int32} : ∀ (s0 : Int32) (g8 : Nat → Int32) (g9 : Int32) (g10 : Int64) (g11 : Int64) (g12 : Int32) (H : Heap) (locs : List Loc) (ls : Array Slot), va_P D CLS (wR a q g0 g1 g2 g3 g4 g5 g6 g7 g8 g9 g10 g11 g12 g13 g14 g15 g16 g17 g18 g19) H → va_D A (wR a q g0 g1 g2 g3 g4 g5 g6 g7 g8 g9 g10 g11 g12 g13 g14 g15 g16 g17 g18 g19) → va_S A s.heap H locs → lv_has ls 10 [] → f_Ref_ofOne_204  s0 g8 g9 g10 g11 g12 = some r0 → W p l e rm_Ref_ofOne s m args below meth c H locs 0 0 (MQ below (va_Qi (fun (r : Int32) (_ : Unit) => r = r0.1) (fun _ t => va_P D CLS (wR a q g0 g1 g2 g3 g4 g5 g6 g7 r0.2.1 r0.2.2.1 r0.2.2.2.1 r0.2.2.2.2.1 r0.2.2.2.2.2 g13 g14 g15 g16 g17 g18 g19) t.heap) A) args s 0 0 A) (F0 m 204 ls [.int s0]) := by
  obtain ⟨hx, hb, hml, hown, hts, hr, hlocks⟩ := id hC
  intro s0 g8 g9 g10 g11 g12 H locs ls hP hD hS hl h
  rw [f_Ref_ofOne_204] at h
  obtain rfl := os_of h
  exact W.iret (v := s0) hx hb hr (fun t ht hW => ⟨⟨_, (), rfl, rfl, (hPt hP ht)⟩, hS.F ht⟩) hS.2.2 (dt_at dt_Ref_ofOne 92 rfl)
set_option maxRecDepth 100000 in
set_option maxHeartbeats 4000000 in
theorem k_Ref_ofOne_203 {p : Program} {l : Launch} {e : Env} {s : State} {m : MethodId} {args : Array Value} {below : List Frame} {meth : Method} {c : Code} {D : va_G} {a : Nat → Nat} {q : Nat → ClassId} {A : Nat → Prop} (hC : CX p s m args meth c prog_12_method_35_code 10 "OutwardTapeModel" (some .int)) (hA : ∀ x, s.heap.size ≤ x → A x) (hK : va_K D CLS (tR q) s) {g0 : Int32} {g1 : Nat → Int32} {g2 : Nat → Int64} {g3 : Nat → Int64} {g4 : Nat → Int32} {g5 : Int32} {g6 : Nat → Int32} {g7 : Int32} {g13 : Int32} {g14 : Int32} {g15 : Int64} {g16 : Int32} {g17 : Int32} {g18 : Int64} {g19 : Int32} {r0 : Int32 × (Nat → Int32) × Int32 × Int64 × Int64 × Int32} : ∀  (g8 : Nat → Int32) (g9 : Int32) (g10 : Int64) (g11 : Int64) (g12 : Int32) (H : Heap) (locs : List Loc) (ls : Array Slot), va_P D CLS (wR a q g0 g1 g2 g3 g4 g5 g6 g7 g8 g9 g10 g11 g12 g13 g14 g15 g16 g17 g18 g19) H → va_D A (wR a q g0 g1 g2 g3 g4 g5 g6 g7 g8 g9 g10 g11 g12 g13 g14 g15 g16 g17 g18 g19) → va_S A s.heap H locs → lv_has ls 10 [] → f_Ref_ofOne_203  g8 g9 g10 g11 g12 = some r0 → W p l e rm_Ref_ofOne s m args below meth c H locs 0 0 (MQ below (va_Qi (fun (r : Int32) (_ : Unit) => r = r0.1) (fun _ t => va_P D CLS (wR a q g0 g1 g2 g3 g4 g5 g6 g7 r0.2.1 r0.2.2.1 r0.2.2.2.1 r0.2.2.2.2.1 r0.2.2.2.2.2 g13 g14 g15 g16 g17 g18 g19) t.heap) A) args s 0 0 A) (F0 m 203 ls []) := by
  obtain ⟨hx, hb, hml, hown, hts, hr, hlocks⟩ := id hC
  intro g8 g9 g10 g11 g12 H locs ls hP hD hS hl h
  rw [f_Ref_ofOne_203] at h
  refine lv_iconst (v := 3) hx hb (dt_at dt_Ref_ofOne 91 rfl) (by decide) ?_
  exact k_Ref_ofOne_204 hC hA hK   (3 : Int32) g8 g9 g10 g11 g12 H locs ls hP hD hS (lv_sub hl [] rfl) h
set_option maxRecDepth 100000 in
set_option maxHeartbeats 4000000 in
theorem k_Ref_ofOne_169 {p : Program} {l : Launch} {e : Env} {s : State} {m : MethodId} {args : Array Value} {below : List Frame} {meth : Method} {c : Code} {D : va_G} {a : Nat → Nat} {q : Nat → ClassId} {A : Nat → Prop} (hC : CX p s m args meth c prog_12_method_35_code 10 "OutwardTapeModel" (some .int)) (hA : ∀ x, s.heap.size ≤ x → A x) (hK : va_K D CLS (tR q) s) {g0 : Int32} {g1 : Nat → Int32} {g2 : Nat → Int64} {g3 : Nat → Int64} {g4 : Nat → Int32} {g5 : Int32} {g6 : Nat → Int32} {g7 : Int32} {g13 : Int32} {g14 : Int32} {g15 : Int64} {g16 : Int32} {g17 : Int32} {g18 : Int64} {g19 : Int32} {r0 : Int32 × (Nat → Int32) × Int32 × Int64 × Int64 × Int32} : ∀ (s0 : Int32) (g8 : Nat → Int32) (g9 : Int32) (g10 : Int64) (g11 : Int64) (g12 : Int32) (H : Heap) (locs : List Loc) (ls : Array Slot), va_P D CLS (wR a q g0 g1 g2 g3 g4 g5 g6 g7 g8 g9 g10 g11 g12 g13 g14 g15 g16 g17 g18 g19) H → va_D A (wR a q g0 g1 g2 g3 g4 g5 g6 g7 g8 g9 g10 g11 g12 g13 g14 g15 g16 g17 g18 g19) → va_S A s.heap H locs → lv_has ls 10 [] → f_Ref_ofOne_169  s0 g8 g9 g10 g11 g12 = some r0 → W p l e rm_Ref_ofOne s m args below meth c H locs 0 0 (MQ below (va_Qi (fun (r : Int32) (_ : Unit) => r = r0.1) (fun _ t => va_P D CLS (wR a q g0 g1 g2 g3 g4 g5 g6 g7 r0.2.1 r0.2.2.1 r0.2.2.2.1 r0.2.2.2.2.1 r0.2.2.2.2.2 g13 g14 g15 g16 g17 g18 g19) t.heap) A) args s 0 0 A) (F0 m 169 ls [.int s0]) := by
  obtain ⟨hx, hb, hml, hown, hts, hr, hlocks⟩ := id hC
  intro s0 g8 g9 g10 g11 g12 H locs ls hP hD hS hl h
  rw [f_Ref_ofOne_169] at h
  obtain rfl := os_of h
  exact W.iret (v := s0) hx hb hr (fun t ht hW => ⟨⟨_, (), rfl, rfl, (hPt hP ht)⟩, hS.F ht⟩) hS.2.2 (dt_at dt_Ref_ofOne 72 rfl)
set_option maxRecDepth 100000 in
set_option maxHeartbeats 4000000 in
theorem k_Ref_ofOne_130 {p : Program} {l : Launch} {e : Env} {s : State} {m : MethodId} {args : Array Value} {below : List Frame} {meth : Method} {c : Code} {D : va_G} {a : Nat → Nat} {q : Nat → ClassId} {A : Nat → Prop} (hC : CX p s m args meth c prog_12_method_35_code 10 "OutwardTapeModel" (some .int)) (hA : ∀ x, s.heap.size ≤ x → A x) (hK : va_K D CLS (tR q) s) {g0 : Int32} {g1 : Nat → Int32} {g2 : Nat → Int64} {g3 : Nat → Int64} {g4 : Nat → Int32} {g5 : Int32} {g6 : Nat → Int32} {g7 : Int32} {g13 : Int32} {g14 : Int32} {g15 : Int64} {g16 : Int32} {g17 : Int32} {g18 : Int64} {g19 : Int32} {r0 : Int32 × (Nat → Int32) × Int32 × Int64 × Int64 × Int32} : ∀ (s0 : Int32) (v2 : Int64) (v4 : Int64) (g8 : Nat → Int32) (g9 : Int32) (g10 : Int64) (g11 : Int64) (g12 : Int32) (H : Heap) (locs : List Loc) (ls : Array Slot), va_P D CLS (wR a q g0 g1 g2 g3 g4 g5 g6 g7 g8 g9 g10 g11 g12 g13 g14 g15 g16 g17 g18 g19) H → va_D A (wR a q g0 g1 g2 g3 g4 g5 g6 g7 g8 g9 g10 g11 g12 g13 g14 g15 g16 g17 g18 g19) → va_S A s.heap H locs → lv_has ls 10 [(0, .ref (a 0)), (2, .long v2), (4, .long v4)] → f_Ref_ofOne_130  s0 v2 v4 g8 g9 g10 g11 g12 = some r0 → W p l e rm_Ref_ofOne s m args below meth c H locs 0 0 (MQ below (va_Qi (fun (r : Int32) (_ : Unit) => r = r0.1) (fun _ t => va_P D CLS (wR a q g0 g1 g2 g3 g4 g5 g6 g7 r0.2.1 r0.2.2.1 r0.2.2.2.1 r0.2.2.2.2.1 r0.2.2.2.2.2 g13 g14 g15 g16 g17 g18 g19) t.heap) A) args s 0 0 A) (F0 m 130 ls [.int s0, .ref (a 0)]) := by
  obtain ⟨hx, hb, hml, hown, hts, hr, hlocks⟩ := id hC
  intro s0 v2 v4 g8 g9 g10 g11 g12 H locs ls hP hD hS hl h
  rw [f_Ref_ofOne_130] at h
  obtain ⟨z1, h⟩ := og_of h
  refine va_put (D := D) (ci := 0) (v := .int s0) (ty := .boolean) (C := "OutwardTapeModel") (T := T_Ref) (N := 20) hx hb hts in_Ref ty_Ref tk_Ref nm_Ref hown hK hP hD hS 0 rfl rfl 12 (by decide) (hts (Cond.fieldLink "OutwardTapeModel" 144 "OutwardTapeModel" "none" "Z") (m_4 11 rfl rfl)) (fun _ h9 => h9) rfl (by decide +kernel) (j_z_nar z1) (j_z_fit z1) (Nat.le_of_ble_eq_true rfl) (dt_at dt_Ref_ofOne 50 rfl) (fun H locs hP hD hS => ?_)
  have hP : va_P D CLS (wR a q g0 g1 g2 g3 g4 g5 g6 g7 g8 g9 g10 g11 s0 g13 g14 g15 g16 g17 g18 g19) H := hP
  have hD : va_D A (wR a q g0 g1 g2 g3 g4 g5 g6 g7 g8 g9 g10 g11 s0 g13 g14 g15 g16 g17 g18 g19) := hD
  refine lv_aload_n hx hb (dt_at dt_Ref_ofOne 51 rfl) rfl (lv_at hl 0 rfl) ?_
  refine lv_aload_n hx hb (dt_at dt_Ref_ofOne 52 rfl) rfl (lv_at hl 0 rfl) ?_
  refine lv_lload_n hx hb (dt_at dt_Ref_ofOne 53 rfl) rfl (lv_at hl 1 rfl) ?_
  refine lv_lconst (v := 0) hx hb (dt_at dt_Ref_ofOne 54 rfl) (by decide) ?_
  obtain ⟨r2, h_r2, h⟩ := ob_of h
  refine vp_callSl (W.runS (As := [.long v2, .long (0 : Int64)]) (rest := [.ref (a 0), .ref (a 0)]) ⟨hx, hb, hml, hown, hts⟩ (c_Ref_greater l v2 (0 : Int64) r2 h_r2) (va_cwS 2 hts (gd_S (m_4 117 rfl rfl) (m_4 118 rfl rfl) (m_1 4 rfl rfl) (m_4 119 rfl rfl)) rfl rfl rfl (by decide +kernel) ⟨Nat.le_of_ble_eq_true rfl, Nat.le_of_ble_eq_true rfl⟩) ⟨fun _ _ _ _ q => q, fun U hU hW => ⟨rfl, trivial⟩⟩ rfl rfl hl.1 rfl (lv_room (Nat.le_of_ble_eq_true rfl)) (dt_at dt_Ref_ofOne 55 rfl) ⟨Nat.le_of_ble_eq_true rfl, Nat.le_of_ble_eq_true rfl⟩) (fun u_r2 q_r2 => ?_)
  obtain rfl : r2 = u_r2 := q_r2.symm
  refine lv_iconst (v := 0) hx hb (dt_at dt_Ref_ofOne 56 rfl) (by decide) ?_
  obtain ⟨r3, h_r3, h⟩ := ob_of h
  have hF := va_free (wc := dR a) (dD (ws' := dR a) hD rfl) hS hA [0, 1, 2, 3, 4, 5, 6] rfl
  have hd : va_D (fun _ => True) (dR a) := (dD (ws' := dR a) hD rfl).weaken (fun _ _ _ _ => trivial)
  refine va_calll (va_runV (As := [.long r2, .int (0 : Int32)]) (rest := [.ref (a 0)]) ⟨hx, hb, hml, hown, hts⟩ (c_Ref_root l D a q hd H.size r2 (0 : Int32) g0 g1 g2 g3 g4 g5 g6 g7 g8 g9 g10 g11 s0 g13 g14 g15 g16 g17 g18 g19 r3 h_r3) (cwV 2 hts (gd_V (m_4 155 rfl rfl) (m_4 157 rfl rfl) (m_s 33 rfl rfl) (m_1 4 rfl rfl) (m_4 158 rfl rfl)) rfl rfl rfl (by decide +kernel) ⟨Nat.le_of_ble_eq_true rfl, Nat.le_of_ble_eq_true rfl⟩) ⟨fun a U g mk q => ⟨q.1, q.2.1, q.2.2.1, va_K.moved (u := U) (U := U.calling g mk a) (Vm.Alike.refl U.vm) q.2.2.2⟩, va_recv hK hP (ci := 0) (q0 := 0) rfl rfl, fun U hU hW => ⟨rfl, by rw [hU], by rw [hU]; exact hP, va_K.moved hW.alike hK⟩⟩ rfl rfl hl.1 rfl (lv_room (Nat.le_of_ble_eq_true rfl)) (dt_at dt_Ref_ofOne 57 rfl) ⟨Nat.le_of_ble_eq_true rfl, Nat.le_of_ble_eq_true rfl⟩) hS (fun x _ h9 => hF x h9) hF (fun u_r3 uu t H locs ht hvm hw hB hz1 hk1 hS => ?_)
  rw [ht] at hB
  subst hw
  have hP : va_P D CLS (wR a q g0 g1 g2 g3 g4 g5 g6 g7 r3.2.1 r3.2.2 g10 g11 s0 g13 g14 g15 g16 g17 g18 g19) H := hB
  have hD : va_D A (wR a q g0 g1 g2 g3 g4 g5 g6 g7 r3.2.1 r3.2.2 g10 g11 s0 g13 g14 g15 g16 g17 g18 g19) := dD hD rfl
  refine lv_aload_n hx hb (dt_at dt_Ref_ofOne 58 rfl) rfl (lv_at hl 0 rfl) ?_
  refine lv_lload hx hb (dt_at dt_Ref_ofOne 59 rfl) (lv_at hl 2 rfl) ?_
  refine lv_lconst (v := 0) hx hb (dt_at dt_Ref_ofOne 60 rfl) (by decide) ?_
  obtain ⟨r4, h_r4, h⟩ := ob_of h
  refine vp_callSl (W.runS (As := [.long v4, .long (0 : Int64)]) (rest := [.ref (a 0), .long r3.1, .ref (a 0)]) ⟨hx, hb, hml, hown, hts⟩ (c_Ref_greater l v4 (0 : Int64) r4 h_r4) (va_cwS 2 hts (gd_S (m_4 117 rfl rfl) (m_4 118 rfl rfl) (m_1 4 rfl rfl) (m_4 119 rfl rfl)) rfl rfl rfl (by decide +kernel) ⟨Nat.le_of_ble_eq_true rfl, Nat.le_of_ble_eq_true rfl⟩) ⟨fun _ _ _ _ q => q, fun U hU hW => ⟨rfl, trivial⟩⟩ rfl rfl hl.1 rfl (lv_room (Nat.le_of_ble_eq_true rfl)) (dt_at dt_Ref_ofOne 61 rfl) ⟨Nat.le_of_ble_eq_true rfl, Nat.le_of_ble_eq_true rfl⟩) (fun u_r4 q_r4 => ?_)
  obtain rfl : r4 = u_r4 := q_r4.symm
  refine lv_iconst (v := 1) hx hb (dt_at dt_Ref_ofOne 62 rfl) (by decide) ?_
  obtain ⟨r5, h_r5, h⟩ := ob_of h
  have hF := va_free (wc := dR a) (dD (ws' := dR a) hD rfl) hS hA [0, 1, 2, 3, 4, 5, 6] rfl
  have hd : va_D (fun _ => True) (dR a) := (dD (ws' := dR a) hD rfl).weaken (fun _ _ _ _ => trivial)
  refine va_calll (va_runV (As := [.long r4, .int (1 : Int32)]) (rest := [.long r3.1, .ref (a 0)]) ⟨hx, hb, hml, hown, hts⟩ (c_Ref_root l D a q hd H.size r4 (1 : Int32) g0 g1 g2 g3 g4 g5 g6 g7 r3.2.1 r3.2.2 g10 g11 s0 g13 g14 g15 g16 g17 g18 g19 r5 h_r5) (cwV 2 hts (gd_V (m_4 155 rfl rfl) (m_4 157 rfl rfl) (m_s 33 rfl rfl) (m_1 4 rfl rfl) (m_4 158 rfl rfl)) rfl rfl rfl (by decide +kernel) ⟨Nat.le_of_ble_eq_true rfl, Nat.le_of_ble_eq_true rfl⟩) ⟨fun a U g mk q => ⟨q.1, q.2.1, q.2.2.1, va_K.moved (u := U) (U := U.calling g mk a) (Vm.Alike.refl U.vm) q.2.2.2⟩, va_recv hK hP (ci := 0) (q0 := 0) rfl rfl, fun U hU hW => ⟨rfl, by rw [hU], by rw [hU]; exact hP, va_K.moved hW.alike hK⟩⟩ rfl rfl hl.1 rfl (lv_room (Nat.le_of_ble_eq_true rfl)) (dt_at dt_Ref_ofOne 63 rfl) ⟨Nat.le_of_ble_eq_true rfl, Nat.le_of_ble_eq_true rfl⟩) hS (fun x _ h9 => hF x h9) hF (fun u_r5 uu t H locs ht hvm hw hB hz1 hk1 hS => ?_)
  rw [ht] at hB
  subst hw
  have hP : va_P D CLS (wR a q g0 g1 g2 g3 g4 g5 g6 g7 r5.2.1 r5.2.2 g10 g11 s0 g13 g14 g15 g16 g17 g18 g19) H := hB
  have hD : va_D A (wR a q g0 g1 g2 g3 g4 g5 g6 g7 r5.2.1 r5.2.2 g10 g11 s0 g13 g14 g15 g16 g17 g18 g19) := dD hD rfl
  obtain ⟨r6, h_r6, h⟩ := ob_of h
  have hF := va_free (wc := dR a) (dD (ws' := dR a) hD rfl) hS hA [0, 1, 2, 3, 4, 5, 6] rfl
  have hd : va_D (fun _ => True) (dR a) := (dD (ws' := dR a) hD rfl).weaken (fun _ _ _ _ => trivial)
  refine va_callv (va_runV (As := [.long r3.1, .long r5.1]) (rest := []) ⟨hx, hb, hml, hown, hts⟩ (c_Ref_result l D a q hd H.size r3.1 r5.1 g0 g1 g2 g3 g4 g5 g6 g7 r5.2.1 r5.2.2 g10 g11 s0 g13 g14 g15 g16 g17 g18 g19 r6 h_r6) (cwV 2 hts (gd_V (m_4 104 rfl rfl) (m_4 106 rfl rfl) (m_s 26 rfl rfl) (m_1 4 rfl rfl) (m_4 107 rfl rfl)) rfl rfl rfl (by decide +kernel) ⟨Nat.le_of_ble_eq_true rfl, Nat.le_of_ble_eq_true rfl⟩) ⟨fun a U g mk q => ⟨q.1, q.2.1, q.2.2.1, va_K.moved (u := U) (U := U.calling g mk a) (Vm.Alike.refl U.vm) q.2.2.2⟩, va_recv hK hP (ci := 0) (q0 := 0) rfl rfl, fun U hU hW => ⟨rfl, by rw [hU], by rw [hU]; exact hP, va_K.moved hW.alike hK⟩⟩ rfl rfl hl.1 rfl (lv_room (Nat.le_of_ble_eq_true rfl)) (dt_at dt_Ref_ofOne 64 rfl) ⟨Nat.le_of_ble_eq_true rfl, Nat.le_of_ble_eq_true rfl⟩) hS (fun x _ h9 => hF x h9) hF (fun uu t H locs ht hvm hw hB hz1 hk1 hS => ?_)
  rw [ht] at hB
  have hP : va_P D CLS (wR a q g0 g1 g2 g3 g4 g5 g6 g7 r5.2.1 r5.2.2 r6.1 r6.2 s0 g13 g14 g15 g16 g17 g18 g19) H := hB
  have hD : va_D A (wR a q g0 g1 g2 g3 g4 g5 g6 g7 r5.2.1 r5.2.2 r6.1 r6.2 s0 g13 g14 g15 g16 g17 g18 g19) := dD hD rfl
  refine lv_lload_n hx hb (dt_at dt_Ref_ofOne 65 rfl) rfl (lv_at hl 1 rfl) ?_
  refine lv_lconst (v := 0) hx hb (dt_at dt_Ref_ofOne 66 rfl) (by decide) ?_
  refine lc_lt (tgt := 168) hx hb (dt_at dt_Ref_ofOne 67 rfl) (dt_at dt_Ref_ofOne 68 rfl) (by decide) (fun c7 => ?_) (fun c7 => ?_)
  · have h := if_p h c7
    refine lv_iconst (v := 1) hx hb (dt_at dt_Ref_ofOne 71 rfl) (by decide) ?_
    exact k_Ref_ofOne_169 hC hA hK   (1 : Int32) r5.2.1 r5.2.2 r6.1 r6.2 s0 H locs ls hP hD hS (lv_sub hl [] rfl) h
  · have h := if_n h c7
    refine lv_iconst (v := 3) hx hb (dt_at dt_Ref_ofOne 69 rfl) (by decide) ?_
    refine lv_goto (tgt := 169) hx hb (dt_at dt_Ref_ofOne 70 rfl) (by decide) ?_
    exact k_Ref_ofOne_169 hC hA hK   (3 : Int32) r5.2.1 r5.2.2 r6.1 r6.2 s0 H locs ls hP hD hS (lv_sub hl [] rfl) h
set_option maxRecDepth 100000 in
set_option maxHeartbeats 4000000 in
theorem k_Ref_ofOne_0 {p : Program} {l : Launch} {e : Env} {s : State} {m : MethodId} {args : Array Value} {below : List Frame} {meth : Method} {c : Code} {D : va_G} {a : Nat → Nat} {q : Nat → ClassId} {A : Nat → Prop} (hC : CX p s m args meth c prog_12_method_35_code 10 "OutwardTapeModel" (some .int)) (hA : ∀ x, s.heap.size ≤ x → A x) (hK : va_K D CLS (tR q) s) {g0 : Int32} {g1 : Nat → Int32} {g2 : Nat → Int64} {g3 : Nat → Int64} {g4 : Nat → Int32} {g5 : Int32} {g6 : Nat → Int32} {g7 : Int32} {g13 : Int32} {g14 : Int32} {g15 : Int64} {g16 : Int32} {g17 : Int32} {g18 : Int64} {g19 : Int32} {r0 : Int32 × (Nat → Int32) × Int32 × Int64 × Int64 × Int32} : ∀ (v1 : Int32) (v2 : Int64) (v4 : Int64) (g8 : Nat → Int32) (g9 : Int32) (g10 : Int64) (g11 : Int64) (g12 : Int32) (H : Heap) (locs : List Loc) (ls : Array Slot), va_P D CLS (wR a q g0 g1 g2 g3 g4 g5 g6 g7 g8 g9 g10 g11 g12 g13 g14 g15 g16 g17 g18 g19) H → va_D A (wR a q g0 g1 g2 g3 g4 g5 g6 g7 g8 g9 g10 g11 g12 g13 g14 g15 g16 g17 g18 g19) → va_S A s.heap H locs → lv_has ls 10 [(0, .ref (a 0)), (1, .int v1), (2, .long v2), (4, .long v4)] → f_Ref_ofOne_0  v1 v2 v4 g8 g9 g10 g11 g12 = some r0 → W p l e rm_Ref_ofOne s m args below meth c H locs 0 0 (MQ below (va_Qi (fun (r : Int32) (_ : Unit) => r = r0.1) (fun _ t => va_P D CLS (wR a q g0 g1 g2 g3 g4 g5 g6 g7 r0.2.1 r0.2.2.1 r0.2.2.2.1 r0.2.2.2.2.1 r0.2.2.2.2.2 g13 g14 g15 g16 g17 g18 g19) t.heap) A) args s 0 0 A) (F0 m 0 ls []) := by
  obtain ⟨hx, hb, hml, hown, hts, hr, hlocks⟩ := id hC
  intro v1 v2 v4 g8 g9 g10 g11 g12 H locs ls hP hD hS hl h
  rw [f_Ref_ofOne_0] at h
  refine lv_iload_n hx hb (dt_at dt_Ref_ofOne 0 rfl) rfl (lv_at hl 1 rfl) ?_
  by_cases c1 : v1 = (0 : Int32)
  · have h := if_p h c1
    refine lv_tableIn (off := 47) (tgt := 48) hx hb (dt_at dt_Ref_ofOne 1 rfl) (by rw [c1]; decide) (by rw [c1]; decide) (by rw [c1]; rfl) (by decide) ?_
    refine lv_aload_n hx hb (dt_at dt_Ref_ofOne 2 rfl) rfl (lv_at hl 0 rfl) ?_
    refine lv_lload hx hb (dt_at dt_Ref_ofOne 3 rfl) (lv_at hl 3 rfl) ?_
    refine lv_lneg hx hb (dt_at dt_Ref_ofOne 4 rfl) ?_
    refine lv_lload_n hx hb (dt_at dt_Ref_ofOne 5 rfl) rfl (lv_at hl 2 rfl) ?_
    refine lv_lneg hx hb (dt_at dt_Ref_ofOne 6 rfl) ?_
    obtain ⟨r2, h_r2, h⟩ := ob_of h
    have hF := va_free (wc := dR a) (dD (ws' := dR a) hD rfl) hS hA [0, 1, 2, 3, 4, 5, 6] rfl
    have hd : va_D (fun _ => True) (dR a) := (dD (ws' := dR a) hD rfl).weaken (fun _ _ _ _ => trivial)
    refine va_callv (va_runV (As := [.long (-v4), .long (-v2)]) (rest := []) ⟨hx, hb, hml, hown, hts⟩ (c_Ref_result l D a q hd H.size (-v4) (-v2) g0 g1 g2 g3 g4 g5 g6 g7 g8 g9 g10 g11 g12 g13 g14 g15 g16 g17 g18 g19 r2 h_r2) (cwV 2 hts (gd_V (m_4 104 rfl rfl) (m_4 106 rfl rfl) (m_s 26 rfl rfl) (m_1 4 rfl rfl) (m_4 107 rfl rfl)) rfl rfl rfl (by decide +kernel) ⟨Nat.le_of_ble_eq_true rfl, Nat.le_of_ble_eq_true rfl⟩) ⟨fun a U g mk q => ⟨q.1, q.2.1, q.2.2.1, va_K.moved (u := U) (U := U.calling g mk a) (Vm.Alike.refl U.vm) q.2.2.2⟩, va_recv hK hP (ci := 0) (q0 := 0) rfl rfl, fun U hU hW => ⟨rfl, by rw [hU], by rw [hU]; exact hP, va_K.moved hW.alike hK⟩⟩ rfl rfl hl.1 rfl (lv_room (Nat.le_of_ble_eq_true rfl)) (dt_at dt_Ref_ofOne 7 rfl) ⟨Nat.le_of_ble_eq_true rfl, Nat.le_of_ble_eq_true rfl⟩) hS (fun x _ h9 => hF x h9) hF (fun uu t H locs ht hvm hw hB hz1 hk1 hS => ?_)
    rw [ht] at hB
    have hP : va_P D CLS (wR a q g0 g1 g2 g3 g4 g5 g6 g7 g8 g9 r2.1 r2.2 g12 g13 g14 g15 g16 g17 g18 g19) H := hB
    have hD : va_D A (wR a q g0 g1 g2 g3 g4 g5 g6 g7 g8 g9 r2.1 r2.2 g12 g13 g14 g15 g16 g17 g18 g19) := dD hD rfl
    refine lv_iconst (v := 3) hx hb (dt_at dt_Ref_ofOne 8 rfl) (by decide) ?_
    obtain rfl := os_of h
    exact W.iret (v := (3 : Int32)) hx hb hr (fun t ht hW => ⟨⟨_, (), rfl, rfl, (hPt hP ht)⟩, hS.F ht⟩) hS.2.2 (dt_at dt_Ref_ofOne 9 rfl)
  · have h := if_n h c1
    by_cases c3 : v1 = (1 : Int32)
    · have h := if_p h c3
      refine lv_tableIn (off := 58) (tgt := 59) hx hb (dt_at dt_Ref_ofOne 1 rfl) (by rw [c3]; decide) (by rw [c3]; decide) (by rw [c3]; rfl) (by decide) ?_
      refine lv_aload_n hx hb (dt_at dt_Ref_ofOne 10 rfl) rfl (lv_at hl 0 rfl) ?_
      refine lv_lload_n hx hb (dt_at dt_Ref_ofOne 11 rfl) rfl (lv_at hl 2 rfl) ?_
      refine lv_lload hx hb (dt_at dt_Ref_ofOne 12 rfl) (lv_at hl 3 rfl) ?_
      obtain ⟨r4, h_r4, h⟩ := ob_of h
      refine vp_callSl (W.runS (As := [.long v2, .long v4]) (rest := [.ref (a 0)]) ⟨hx, hb, hml, hown, hts⟩ (c_Ref_mignitude l v2 v4 r4 h_r4) (va_cwS 2 hts (gd_S (m_4 108 rfl rfl) (m_4 109 rfl rfl) (m_1 4 rfl rfl) (m_4 110 rfl rfl)) rfl rfl rfl (by decide +kernel) ⟨Nat.le_of_ble_eq_true rfl, Nat.le_of_ble_eq_true rfl⟩) ⟨fun _ _ _ _ q => q, fun U hU hW => ⟨rfl, trivial⟩⟩ rfl rfl hl.1 rfl (lv_room (Nat.le_of_ble_eq_true rfl)) (dt_at dt_Ref_ofOne 13 rfl) ⟨Nat.le_of_ble_eq_true rfl, Nat.le_of_ble_eq_true rfl⟩) (fun u_r4 q_r4 => ?_)
      obtain rfl : r4 = u_r4 := q_r4.symm
      refine lv_lload_n hx hb (dt_at dt_Ref_ofOne 14 rfl) rfl (lv_at hl 2 rfl) ?_
      refine lv_lload hx hb (dt_at dt_Ref_ofOne 15 rfl) (lv_at hl 3 rfl) ?_
      obtain ⟨r5, h_r5, h⟩ := ob_of h
      refine vp_callSl (W.runS (As := [.long v2, .long v4]) (rest := [.long r4, .ref (a 0)]) ⟨hx, hb, hml, hown, hts⟩ (c_Ref_magnitude l v2 v4 r5 h_r5) (va_cwS 2 hts (gd_S (m_4 114 rfl rfl) (m_4 115 rfl rfl) (m_1 4 rfl rfl) (m_4 116 rfl rfl)) rfl rfl rfl (by decide +kernel) ⟨Nat.le_of_ble_eq_true rfl, Nat.le_of_ble_eq_true rfl⟩) ⟨fun _ _ _ _ q => q, fun U hU hW => ⟨rfl, trivial⟩⟩ rfl rfl hl.1 rfl (lv_room (Nat.le_of_ble_eq_true rfl)) (dt_at dt_Ref_ofOne 16 rfl) ⟨Nat.le_of_ble_eq_true rfl, Nat.le_of_ble_eq_true rfl⟩) (fun u_r5 q_r5 => ?_)
      obtain rfl : r5 = u_r5 := q_r5.symm
      obtain ⟨r6, h_r6, h⟩ := ob_of h
      have hF := va_free (wc := dR a) (dD (ws' := dR a) hD rfl) hS hA [0, 1, 2, 3, 4, 5, 6] rfl
      have hd : va_D (fun _ => True) (dR a) := (dD (ws' := dR a) hD rfl).weaken (fun _ _ _ _ => trivial)
      refine va_callv (va_runV (As := [.long r4, .long r5]) (rest := []) ⟨hx, hb, hml, hown, hts⟩ (c_Ref_result l D a q hd H.size r4 r5 g0 g1 g2 g3 g4 g5 g6 g7 g8 g9 g10 g11 g12 g13 g14 g15 g16 g17 g18 g19 r6 h_r6) (cwV 2 hts (gd_V (m_4 104 rfl rfl) (m_4 106 rfl rfl) (m_s 26 rfl rfl) (m_1 4 rfl rfl) (m_4 107 rfl rfl)) rfl rfl rfl (by decide +kernel) ⟨Nat.le_of_ble_eq_true rfl, Nat.le_of_ble_eq_true rfl⟩) ⟨fun a U g mk q => ⟨q.1, q.2.1, q.2.2.1, va_K.moved (u := U) (U := U.calling g mk a) (Vm.Alike.refl U.vm) q.2.2.2⟩, va_recv hK hP (ci := 0) (q0 := 0) rfl rfl, fun U hU hW => ⟨rfl, by rw [hU], by rw [hU]; exact hP, va_K.moved hW.alike hK⟩⟩ rfl rfl hl.1 rfl (lv_room (Nat.le_of_ble_eq_true rfl)) (dt_at dt_Ref_ofOne 17 rfl) ⟨Nat.le_of_ble_eq_true rfl, Nat.le_of_ble_eq_true rfl⟩) hS (fun x _ h9 => hF x h9) hF (fun uu t H locs ht hvm hw hB hz1 hk1 hS => ?_)
      rw [ht] at hB
      have hP : va_P D CLS (wR a q g0 g1 g2 g3 g4 g5 g6 g7 g8 g9 r6.1 r6.2 g12 g13 g14 g15 g16 g17 g18 g19) H := hB
      have hD : va_D A (wR a q g0 g1 g2 g3 g4 g5 g6 g7 g8 g9 r6.1 r6.2 g12 g13 g14 g15 g16 g17 g18 g19) := dD hD rfl
      refine lv_iconst (v := 3) hx hb (dt_at dt_Ref_ofOne 18 rfl) (by decide) ?_
      obtain rfl := os_of h
      exact W.iret (v := (3 : Int32)) hx hb hr (fun t ht hW => ⟨⟨_, (), rfl, rfl, (hPt hP ht)⟩, hS.F ht⟩) hS.2.2 (dt_at dt_Ref_ofOne 19 rfl)
    · have h := if_n h c3
      by_cases c7 : v1 = (2 : Int32)
      · have h := if_p h c7
        refine lv_tableIn (off := 76) (tgt := 77) hx hb (dt_at dt_Ref_ofOne 1 rfl) (by rw [c7]; decide) (by rw [c7]; decide) (by rw [c7]; rfl) (by decide) ?_
        refine lv_lload_n hx hb (dt_at dt_Ref_ofOne 20 rfl) rfl (lv_at hl 2 rfl) ?_
        refine lv_lload hx hb (dt_at dt_Ref_ofOne 21 rfl) (lv_at hl 3 rfl) ?_
        obtain ⟨r8, h_r8, h⟩ := ob_of h
        refine vp_callSl (W.runS (As := [.long v2, .long v4]) (rest := []) ⟨hx, hb, hml, hown, hts⟩ (c_Ref_mignitude l v2 v4 r8 h_r8) (va_cwS 2 hts (gd_S (m_4 108 rfl rfl) (m_4 109 rfl rfl) (m_1 4 rfl rfl) (m_4 110 rfl rfl)) rfl rfl rfl (by decide +kernel) ⟨Nat.le_of_ble_eq_true rfl, Nat.le_of_ble_eq_true rfl⟩) ⟨fun _ _ _ _ q => q, fun U hU hW => ⟨rfl, trivial⟩⟩ rfl rfl hl.1 rfl (lv_room (Nat.le_of_ble_eq_true rfl)) (dt_at dt_Ref_ofOne 22 rfl) ⟨Nat.le_of_ble_eq_true rfl, Nat.le_of_ble_eq_true rfl⟩) (fun u_r8 q_r8 => ?_)
        obtain rfl : r8 = u_r8 := q_r8.symm
        refine lv_lstore (lv' := [(6, .long r8), (0, .ref (a 0)), (1, .int v1), (2, .long v2), (4, .long v4)]) hx hb (dt_at dt_Ref_ofOne 23 rfl) hl (by decide) rfl (fun ls hl => ?_)
        refine lv_lload_n hx hb (dt_at dt_Ref_ofOne 24 rfl) rfl (lv_at hl 3 rfl) ?_
        refine lv_lload hx hb (dt_at dt_Ref_ofOne 25 rfl) (lv_at hl 4 rfl) ?_
        obtain ⟨r9, h_r9, h⟩ := ob_of h
        refine vp_callSl (W.runS (As := [.long v2, .long v4]) (rest := []) ⟨hx, hb, hml, hown, hts⟩ (c_Ref_magnitude l v2 v4 r9 h_r9) (va_cwS 2 hts (gd_S (m_4 114 rfl rfl) (m_4 115 rfl rfl) (m_1 4 rfl rfl) (m_4 116 rfl rfl)) rfl rfl rfl (by decide +kernel) ⟨Nat.le_of_ble_eq_true rfl, Nat.le_of_ble_eq_true rfl⟩) ⟨fun _ _ _ _ q => q, fun U hU hW => ⟨rfl, trivial⟩⟩ rfl rfl hl.1 rfl (lv_room (Nat.le_of_ble_eq_true rfl)) (dt_at dt_Ref_ofOne 26 rfl) ⟨Nat.le_of_ble_eq_true rfl, Nat.le_of_ble_eq_true rfl⟩) (fun u_r9 q_r9 => ?_)
        obtain rfl : r9 = u_r9 := q_r9.symm
        refine lv_lstore (lv' := [(8, .long r9), (6, .long r8), (0, .ref (a 0)), (1, .int v1), (2, .long v2), (4, .long v4)]) hx hb (dt_at dt_Ref_ofOne 27 rfl) hl (by decide) rfl (fun ls hl => ?_)
        refine lv_aload_n hx hb (dt_at dt_Ref_ofOne 28 rfl) rfl (lv_at hl 2 rfl) ?_
        refine lv_aload_n hx hb (dt_at dt_Ref_ofOne 29 rfl) rfl (lv_at hl 2 rfl) ?_
        refine lv_lload hx hb (dt_at dt_Ref_ofOne 30 rfl) (lv_at hl 1 rfl) ?_
        refine lv_lload hx hb (dt_at dt_Ref_ofOne 31 rfl) (lv_at hl 1 rfl) ?_
        refine lv_iconst (v := 0) hx hb (dt_at dt_Ref_ofOne 32 rfl) (by decide) ?_
        obtain ⟨r10, h_r10, h⟩ := ob_of h
        have hF := va_free (wc := dR a) (dD (ws' := dR a) hD rfl) hS hA [0, 1, 2, 3, 4, 5, 6] rfl
        have hd : va_D (fun _ => True) (dR a) := (dD (ws' := dR a) hD rfl).weaken (fun _ _ _ _ => trivial)
        refine va_calll (va_runV (As := [.long r8, .long r8, .int (0 : Int32)]) (rest := [.ref (a 0)]) ⟨hx, hb, hml, hown, hts⟩ (c_Ref_product l D a q hd H.size r8 r8 (0 : Int32) g0 g1 g2 g3 g4 g5 g6 g7 g8 g9 g10 g11 g12 g13 g14 g15 g16 g17 g18 g19 r10 h_r10) (cwV 3 hts (gd_V (m_4 120 rfl rfl) (m_4 122 rfl rfl) (m_s 27 rfl rfl) (m_1 4 rfl rfl) (m_4 123 rfl rfl)) rfl rfl rfl (by decide +kernel) ⟨Nat.le_of_ble_eq_true rfl, Nat.le_of_ble_eq_true rfl⟩) ⟨fun a U g mk q => ⟨q.1, q.2.1, q.2.2.1, va_K.moved (u := U) (U := U.calling g mk a) (Vm.Alike.refl U.vm) q.2.2.2⟩, va_recv hK hP (ci := 0) (q0 := 0) rfl rfl, fun U hU hW => ⟨rfl, by rw [hU], by rw [hU]; exact hP, va_K.moved hW.alike hK⟩⟩ rfl rfl hl.1 rfl (lv_room (Nat.le_of_ble_eq_true rfl)) (dt_at dt_Ref_ofOne 33 rfl) ⟨Nat.le_of_ble_eq_true rfl, Nat.le_of_ble_eq_true rfl⟩) hS (fun x _ h9 => hF x h9) hF (fun u_r10 uu t H locs ht hvm hw hB hz1 hk1 hS => ?_)
        rw [ht] at hB
        subst hw
        have hP : va_P D CLS (wR a q g0 g1 g2 g3 g4 g5 g6 g7 r10.2.1 r10.2.2 g10 g11 g12 g13 g14 g15 g16 g17 g18 g19) H := hB
        have hD : va_D A (wR a q g0 g1 g2 g3 g4 g5 g6 g7 r10.2.1 r10.2.2 g10 g11 g12 g13 g14 g15 g16 g17 g18 g19) := dD hD rfl
        refine lv_aload_n hx hb (dt_at dt_Ref_ofOne 34 rfl) rfl (lv_at hl 2 rfl) ?_
        refine lv_lload hx hb (dt_at dt_Ref_ofOne 35 rfl) (lv_at hl 0 rfl) ?_
        refine lv_lload hx hb (dt_at dt_Ref_ofOne 36 rfl) (lv_at hl 0 rfl) ?_
        refine lv_iconst (v := 1) hx hb (dt_at dt_Ref_ofOne 37 rfl) (by decide) ?_
        obtain ⟨r11, h_r11, h⟩ := ob_of h
        have hF := va_free (wc := dR a) (dD (ws' := dR a) hD rfl) hS hA [0, 1, 2, 3, 4, 5, 6] rfl
        have hd : va_D (fun _ => True) (dR a) := (dD (ws' := dR a) hD rfl).weaken (fun _ _ _ _ => trivial)
        refine va_calll (va_runV (As := [.long r9, .long r9, .int (1 : Int32)]) (rest := [.long r10.1, .ref (a 0)]) ⟨hx, hb, hml, hown, hts⟩ (c_Ref_product l D a q hd H.size r9 r9 (1 : Int32) g0 g1 g2 g3 g4 g5 g6 g7 r10.2.1 r10.2.2 g10 g11 g12 g13 g14 g15 g16 g17 g18 g19 r11 h_r11) (cwV 3 hts (gd_V (m_4 120 rfl rfl) (m_4 122 rfl rfl) (m_s 27 rfl rfl) (m_1 4 rfl rfl) (m_4 123 rfl rfl)) rfl rfl rfl (by decide +kernel) ⟨Nat.le_of_ble_eq_true rfl, Nat.le_of_ble_eq_true rfl⟩) ⟨fun a U g mk q => ⟨q.1, q.2.1, q.2.2.1, va_K.moved (u := U) (U := U.calling g mk a) (Vm.Alike.refl U.vm) q.2.2.2⟩, va_recv hK hP (ci := 0) (q0 := 0) rfl rfl, fun U hU hW => ⟨rfl, by rw [hU], by rw [hU]; exact hP, va_K.moved hW.alike hK⟩⟩ rfl rfl hl.1 rfl (lv_room (Nat.le_of_ble_eq_true rfl)) (dt_at dt_Ref_ofOne 38 rfl) ⟨Nat.le_of_ble_eq_true rfl, Nat.le_of_ble_eq_true rfl⟩) hS (fun x _ h9 => hF x h9) hF (fun u_r11 uu t H locs ht hvm hw hB hz1 hk1 hS => ?_)
        rw [ht] at hB
        subst hw
        have hP : va_P D CLS (wR a q g0 g1 g2 g3 g4 g5 g6 g7 r11.2.1 r11.2.2 g10 g11 g12 g13 g14 g15 g16 g17 g18 g19) H := hB
        have hD : va_D A (wR a q g0 g1 g2 g3 g4 g5 g6 g7 r11.2.1 r11.2.2 g10 g11 g12 g13 g14 g15 g16 g17 g18 g19) := dD hD rfl
        obtain ⟨r12, h_r12, h⟩ := ob_of h
        have hF := va_free (wc := dR a) (dD (ws' := dR a) hD rfl) hS hA [0, 1, 2, 3, 4, 5, 6] rfl
        have hd : va_D (fun _ => True) (dR a) := (dD (ws' := dR a) hD rfl).weaken (fun _ _ _ _ => trivial)
        refine va_callv (va_runV (As := [.long r10.1, .long r11.1]) (rest := []) ⟨hx, hb, hml, hown, hts⟩ (c_Ref_result l D a q hd H.size r10.1 r11.1 g0 g1 g2 g3 g4 g5 g6 g7 r11.2.1 r11.2.2 g10 g11 g12 g13 g14 g15 g16 g17 g18 g19 r12 h_r12) (cwV 2 hts (gd_V (m_4 104 rfl rfl) (m_4 106 rfl rfl) (m_s 26 rfl rfl) (m_1 4 rfl rfl) (m_4 107 rfl rfl)) rfl rfl rfl (by decide +kernel) ⟨Nat.le_of_ble_eq_true rfl, Nat.le_of_ble_eq_true rfl⟩) ⟨fun a U g mk q => ⟨q.1, q.2.1, q.2.2.1, va_K.moved (u := U) (U := U.calling g mk a) (Vm.Alike.refl U.vm) q.2.2.2⟩, va_recv hK hP (ci := 0) (q0 := 0) rfl rfl, fun U hU hW => ⟨rfl, by rw [hU], by rw [hU]; exact hP, va_K.moved hW.alike hK⟩⟩ rfl rfl hl.1 rfl (lv_room (Nat.le_of_ble_eq_true rfl)) (dt_at dt_Ref_ofOne 39 rfl) ⟨Nat.le_of_ble_eq_true rfl, Nat.le_of_ble_eq_true rfl⟩) hS (fun x _ h9 => hF x h9) hF (fun uu t H locs ht hvm hw hB hz1 hk1 hS => ?_)
        rw [ht] at hB
        have hP : va_P D CLS (wR a q g0 g1 g2 g3 g4 g5 g6 g7 r11.2.1 r11.2.2 r12.1 r12.2 g12 g13 g14 g15 g16 g17 g18 g19) H := hB
        have hD : va_D A (wR a q g0 g1 g2 g3 g4 g5 g6 g7 r11.2.1 r11.2.2 r12.1 r12.2 g12 g13 g14 g15 g16 g17 g18 g19) := dD hD rfl
        refine lv_iconst (v := 3) hx hb (dt_at dt_Ref_ofOne 40 rfl) (by decide) ?_
        obtain rfl := os_of h
        exact W.iret (v := (3 : Int32)) hx hb hr (fun t ht hW => ⟨⟨_, (), rfl, rfl, (hPt hP ht)⟩, hS.F ht⟩) hS.2.2 (dt_at dt_Ref_ofOne 41 rfl)
      · have h := if_n h c7
        by_cases c13 : v1 = (3 : Int32)
        · have h := if_p h c13
          refine lv_tableIn (off := 116) (tgt := 117) hx hb (dt_at dt_Ref_ofOne 1 rfl) (by rw [c13]; decide) (by rw [c13]; decide) (by rw [c13]; rfl) (by decide) ?_
          refine lv_aload_n hx hb (dt_at dt_Ref_ofOne 42 rfl) rfl (lv_at hl 0 rfl) ?_
          refine lv_lload hx hb (dt_at dt_Ref_ofOne 43 rfl) (lv_at hl 3 rfl) ?_
          refine lv_lconst (v := 0) hx hb (dt_at dt_Ref_ofOne 44 rfl) (by decide) ?_
          refine lc_ge (tgt := 129) hx hb (dt_at dt_Ref_ofOne 45 rfl) (dt_at dt_Ref_ofOne 46 rfl) (by decide) (fun c14 => ?_) (fun c14 => ?_)
          · have h := if_p h c14
            refine lv_iconst (v := 0) hx hb (dt_at dt_Ref_ofOne 49 rfl) (by decide) ?_
            exact k_Ref_ofOne_130 hC hA hK   (0 : Int32) v2 v4 g8 g9 g10 g11 g12 H locs ls hP hD hS (lv_sub hl [0, 2, 3] rfl) h
          · have h := if_n h c14
            refine lv_iconst (v := 1) hx hb (dt_at dt_Ref_ofOne 47 rfl) (by decide) ?_
            refine lv_goto (tgt := 130) hx hb (dt_at dt_Ref_ofOne 48 rfl) (by decide) ?_
            exact k_Ref_ofOne_130 hC hA hK   (1 : Int32) v2 v4 g8 g9 g10 g11 g12 H locs ls hP hD hS (lv_sub hl [0, 2, 3] rfl) h
        · have h := if_n h c13
          by_cases c15 : v1 = (4 : Int32)
          · have h := if_p h c15
            refine lv_tableIn (off := 169) (tgt := 170) hx hb (dt_at dt_Ref_ofOne 1 rfl) (by rw [c15]; decide) (by rw [c15]; decide) (by rw [c15]; rfl) (by decide) ?_
            refine lv_ldc2 (v := 4607182418800017408) hx hb hown (hts (Cond.constantLong "OutwardTapeModel" 113 (4607182418800017408)) (m_4 172 rfl rfl)) (dt_at dt_Ref_ofOne 73 rfl) ?_
            refine lv_lstore (lv' := [(6, .long (4607182418800017408 : Int64)), (0, .ref (a 0)), (1, .int v1), (2, .long v2), (4, .long v4)]) hx hb (dt_at dt_Ref_ofOne 74 rfl) hl (by decide) rfl (fun ls hl => ?_)
            refine lv_aload_n hx hb (dt_at dt_Ref_ofOne 75 rfl) rfl (lv_at hl 1 rfl) ?_
            refine lv_lload hx hb (dt_at dt_Ref_ofOne 76 rfl) (lv_at hl 0 rfl) ?_
            refine lv_lload hx hb (dt_at dt_Ref_ofOne 77 rfl) (lv_at hl 0 rfl) ?_
            refine lv_lload_n hx hb (dt_at dt_Ref_ofOne 78 rfl) rfl (lv_at hl 3 rfl) ?_
            refine lv_lload hx hb (dt_at dt_Ref_ofOne 79 rfl) (lv_at hl 4 rfl) ?_
            obtain ⟨r16, h_r16, h⟩ := ob_of h
            have hF := va_free (wc := dR a) (dD (ws' := dR a) hD rfl) hS hA [0, 1, 2, 3, 4, 5, 6] rfl
            have hd : va_D (fun _ => True) (dR a) := (dD (ws' := dR a) hD rfl).weaken (fun _ _ _ _ => trivial)
            refine va_callv (va_runV (As := [.long (4607182418800017408 : Int64), .long (4607182418800017408 : Int64), .long v2, .long v4]) (rest := []) ⟨hx, hb, hml, hown, hts⟩ (c_Ref_quotients l D a q hd H.size (4607182418800017408 : Int64) (4607182418800017408 : Int64) v2 v4 g0 g1 g2 g3 g4 g5 g6 g7 g8 g9 g10 g11 g12 g13 g14 g15 g16 g17 g18 g19 r16 h_r16) (cwV 4 hts (gd_V (m_4 173 rfl rfl) (m_4 175 rfl rfl) (m_s 37 rfl rfl) (m_1 4 rfl rfl) (m_4 176 rfl rfl)) rfl rfl rfl (by decide +kernel) ⟨Nat.le_of_ble_eq_true rfl, Nat.le_of_ble_eq_true rfl⟩) ⟨fun a U g mk q => ⟨q.1, q.2.1, q.2.2.1, va_K.moved (u := U) (U := U.calling g mk a) (Vm.Alike.refl U.vm) q.2.2.2⟩, va_recv hK hP (ci := 0) (q0 := 0) rfl rfl, fun U hU hW => ⟨rfl, by rw [hU], by rw [hU]; exact hP, va_K.moved hW.alike hK⟩⟩ rfl rfl hl.1 rfl (lv_room (Nat.le_of_ble_eq_true rfl)) (dt_at dt_Ref_ofOne 80 rfl) ⟨Nat.le_of_ble_eq_true rfl, Nat.le_of_ble_eq_true rfl⟩) hS (fun x _ h9 => hF x h9) hF (fun uu t H locs ht hvm hw hB hz1 hk1 hS => ?_)
            rw [ht] at hB
            have hP : va_P D CLS (wR a q g0 g1 g2 g3 g4 g5 g6 g7 r16.1 r16.2.1 r16.2.2.1 r16.2.2.2.1 r16.2.2.2.2 g13 g14 g15 g16 g17 g18 g19) H := hB
            have hD : va_D A (wR a q g0 g1 g2 g3 g4 g5 g6 g7 r16.1 r16.2.1 r16.2.2.1 r16.2.2.2.1 r16.2.2.2.2 g13 g14 g15 g16 g17 g18 g19) := dD hD rfl
            refine lv_lload_n hx hb (dt_at dt_Ref_ofOne 81 rfl) rfl (lv_at hl 3 rfl) ?_
            refine lv_lconst (v := 0) hx hb (dt_at dt_Ref_ofOne 82 rfl) (by decide) ?_
            refine lc_gt (tgt := 203) hx hb (dt_at dt_Ref_ofOne 83 rfl) (dt_at dt_Ref_ofOne 84 rfl) (by decide) (fun c17 => ?_) (fun c17 => ?_)
            · have h := if_p h c17
              exact k_Ref_ofOne_203 hC hA hK   r16.1 r16.2.1 r16.2.2.1 r16.2.2.2.1 r16.2.2.2.2 H locs ls hP hD hS (lv_sub hl [] rfl) h
            · have h := if_n h c17
              refine lv_lload hx hb (dt_at dt_Ref_ofOne 85 rfl) (lv_at hl 4 rfl) ?_
              refine lv_lconst (v := 0) hx hb (dt_at dt_Ref_ofOne 86 rfl) (by decide) ?_
              refine lc_lt (tgt := 203) hx hb (dt_at dt_Ref_ofOne 87 rfl) (dt_at dt_Ref_ofOne 88 rfl) (by decide) (fun c18 => ?_) (fun c18 => ?_)
              · have h := if_p h c18
                exact k_Ref_ofOne_203 hC hA hK   r16.1 r16.2.1 r16.2.2.1 r16.2.2.2.1 r16.2.2.2.2 H locs ls hP hD hS (lv_sub hl [] rfl) h
              · have h := if_n h c18
                refine lv_iconst (v := 1) hx hb (dt_at dt_Ref_ofOne 89 rfl) (by decide) ?_
                refine lv_goto (tgt := 204) hx hb (dt_at dt_Ref_ofOne 90 rfl) (by decide) ?_
                exact k_Ref_ofOne_204 hC hA hK   (1 : Int32) r16.1 r16.2.1 r16.2.2.1 r16.2.2.2.1 r16.2.2.2.2 H locs ls hP hD hS (lv_sub hl [] rfl) h
          · have h := if_n h c15
            by_cases c19 : v1 = (5 : Int32)
            · have h := if_p h c19
              refine lv_tableIn (off := 204) (tgt := 205) hx hb (dt_at dt_Ref_ofOne 1 rfl) (by rw [c19]; decide) (by rw [c19]; decide) (by rw [c19]; rfl) (by decide) ?_
              refine lv_aload_n hx hb (dt_at dt_Ref_ofOne 93 rfl) rfl (lv_at hl 0 rfl) ?_
              refine lv_aload_n hx hb (dt_at dt_Ref_ofOne 94 rfl) rfl (lv_at hl 0 rfl) ?_
              refine lv_lload_n hx hb (dt_at dt_Ref_ofOne 95 rfl) rfl (lv_at hl 2 rfl) ?_
              refine lv_iconst (v := 0) hx hb (dt_at dt_Ref_ofOne 96 rfl) (by decide) ?_
              obtain ⟨r20, h_r20, h⟩ := ob_of h
              have hF := va_free (wc := dR a) (dD (ws' := dR a) hD rfl) hS hA [0, 1, 2, 3, 4, 5, 6] rfl
              have hd : va_D (fun _ => True) (dR a) := (dD (ws' := dR a) hD rfl).weaken (fun _ _ _ _ => trivial)
              refine va_calll (va_runV (As := [.long v2, .int (0 : Int32)]) (rest := [.ref (a 0)]) ⟨hx, hb, hml, hown, hts⟩ (c_Ref_step l D a q hd H.size v2 (0 : Int32) g0 g1 g2 g3 g4 g5 g6 g7 g8 g9 g10 g11 g12 g13 g14 g15 g16 g17 g18 g19 r20 h_r20) (cwV 2 hts (gd_V (m_4 193 rfl rfl) (m_4 195 rfl rfl) (m_s 42 rfl rfl) (m_1 4 rfl rfl) (m_4 196 rfl rfl)) rfl rfl rfl (by decide +kernel) ⟨Nat.le_of_ble_eq_true rfl, Nat.le_of_ble_eq_true rfl⟩) ⟨fun a U g mk q => ⟨q.1, q.2.1, q.2.2.1, va_K.moved (u := U) (U := U.calling g mk a) (Vm.Alike.refl U.vm) q.2.2.2⟩, va_recv hK hP (ci := 0) (q0 := 0) rfl rfl, fun U hU hW => ⟨rfl, by rw [hU], by rw [hU]; exact hP, va_K.moved hW.alike hK⟩⟩ rfl rfl hl.1 rfl (lv_room (Nat.le_of_ble_eq_true rfl)) (dt_at dt_Ref_ofOne 97 rfl) ⟨Nat.le_of_ble_eq_true rfl, Nat.le_of_ble_eq_true rfl⟩) hS (fun x _ h9 => hF x h9) hF (fun u_r20 uu t H locs ht hvm hw hB hz1 hk1 hS => ?_)
              rw [ht] at hB
              subst hw
              have hP : va_P D CLS (wR a q g0 g1 g2 g3 g4 g5 g6 g7 r20.2.1 r20.2.2 g10 g11 g12 g13 g14 g15 g16 g17 g18 g19) H := hB
              have hD : va_D A (wR a q g0 g1 g2 g3 g4 g5 g6 g7 r20.2.1 r20.2.2 g10 g11 g12 g13 g14 g15 g16 g17 g18 g19) := dD hD rfl
              refine lv_aload_n hx hb (dt_at dt_Ref_ofOne 98 rfl) rfl (lv_at hl 0 rfl) ?_
              refine lv_lload hx hb (dt_at dt_Ref_ofOne 99 rfl) (lv_at hl 3 rfl) ?_
              refine lv_iconst (v := 0) hx hb (dt_at dt_Ref_ofOne 100 rfl) (by decide) ?_
              obtain ⟨r21, h_r21, h⟩ := ob_of h
              have hF := va_free (wc := dR a) (dD (ws' := dR a) hD rfl) hS hA [0, 1, 2, 3, 4, 5, 6] rfl
              have hd : va_D (fun _ => True) (dR a) := (dD (ws' := dR a) hD rfl).weaken (fun _ _ _ _ => trivial)
              refine va_calll (va_runV (As := [.long v4, .int (0 : Int32)]) (rest := [.long r20.1, .ref (a 0)]) ⟨hx, hb, hml, hown, hts⟩ (c_Ref_step l D a q hd H.size v4 (0 : Int32) g0 g1 g2 g3 g4 g5 g6 g7 r20.2.1 r20.2.2 g10 g11 g12 g13 g14 g15 g16 g17 g18 g19 r21 h_r21) (cwV 2 hts (gd_V (m_4 193 rfl rfl) (m_4 195 rfl rfl) (m_s 42 rfl rfl) (m_1 4 rfl rfl) (m_4 196 rfl rfl)) rfl rfl rfl (by decide +kernel) ⟨Nat.le_of_ble_eq_true rfl, Nat.le_of_ble_eq_true rfl⟩) ⟨fun a U g mk q => ⟨q.1, q.2.1, q.2.2.1, va_K.moved (u := U) (U := U.calling g mk a) (Vm.Alike.refl U.vm) q.2.2.2⟩, va_recv hK hP (ci := 0) (q0 := 0) rfl rfl, fun U hU hW => ⟨rfl, by rw [hU], by rw [hU]; exact hP, va_K.moved hW.alike hK⟩⟩ rfl rfl hl.1 rfl (lv_room (Nat.le_of_ble_eq_true rfl)) (dt_at dt_Ref_ofOne 101 rfl) ⟨Nat.le_of_ble_eq_true rfl, Nat.le_of_ble_eq_true rfl⟩) hS (fun x _ h9 => hF x h9) hF (fun u_r21 uu t H locs ht hvm hw hB hz1 hk1 hS => ?_)
              rw [ht] at hB
              subst hw
              have hP : va_P D CLS (wR a q g0 g1 g2 g3 g4 g5 g6 g7 r21.2.1 r21.2.2 g10 g11 g12 g13 g14 g15 g16 g17 g18 g19) H := hB
              have hD : va_D A (wR a q g0 g1 g2 g3 g4 g5 g6 g7 r21.2.1 r21.2.2 g10 g11 g12 g13 g14 g15 g16 g17 g18 g19) := dD hD rfl
              obtain ⟨r22, h_r22, h⟩ := ob_of h
              have hF := va_free (wc := dR a) (dD (ws' := dR a) hD rfl) hS hA [0, 1, 2, 3, 4, 5, 6] rfl
              have hd : va_D (fun _ => True) (dR a) := (dD (ws' := dR a) hD rfl).weaken (fun _ _ _ _ => trivial)
              refine va_callv (va_runV (As := [.long r20.1, .long r21.1]) (rest := []) ⟨hx, hb, hml, hown, hts⟩ (c_Ref_result l D a q hd H.size r20.1 r21.1 g0 g1 g2 g3 g4 g5 g6 g7 r21.2.1 r21.2.2 g10 g11 g12 g13 g14 g15 g16 g17 g18 g19 r22 h_r22) (cwV 2 hts (gd_V (m_4 104 rfl rfl) (m_4 106 rfl rfl) (m_s 26 rfl rfl) (m_1 4 rfl rfl) (m_4 107 rfl rfl)) rfl rfl rfl (by decide +kernel) ⟨Nat.le_of_ble_eq_true rfl, Nat.le_of_ble_eq_true rfl⟩) ⟨fun a U g mk q => ⟨q.1, q.2.1, q.2.2.1, va_K.moved (u := U) (U := U.calling g mk a) (Vm.Alike.refl U.vm) q.2.2.2⟩, va_recv hK hP (ci := 0) (q0 := 0) rfl rfl, fun U hU hW => ⟨rfl, by rw [hU], by rw [hU]; exact hP, va_K.moved hW.alike hK⟩⟩ rfl rfl hl.1 rfl (lv_room (Nat.le_of_ble_eq_true rfl)) (dt_at dt_Ref_ofOne 102 rfl) ⟨Nat.le_of_ble_eq_true rfl, Nat.le_of_ble_eq_true rfl⟩) hS (fun x _ h9 => hF x h9) hF (fun uu t H locs ht hvm hw hB hz1 hk1 hS => ?_)
              rw [ht] at hB
              have hP : va_P D CLS (wR a q g0 g1 g2 g3 g4 g5 g6 g7 r21.2.1 r21.2.2 r22.1 r22.2 g12 g13 g14 g15 g16 g17 g18 g19) H := hB
              have hD : va_D A (wR a q g0 g1 g2 g3 g4 g5 g6 g7 r21.2.1 r21.2.2 r22.1 r22.2 g12 g13 g14 g15 g16 g17 g18 g19) := dD hD rfl
              refine lv_goto (tgt := 278) hx hb (dt_at dt_Ref_ofOne 103 rfl) (by decide) ?_
              exact k_Ref_ofOne_278 hC hA hK   r21.2.1 r21.2.2 r22.1 r22.2 g12 H locs ls hP hD hS (lv_sub hl [0] rfl) h
            · have h := if_n h c19
              by_cases c23 : v1 = (6 : Int32)
              · have h := if_p h c23
                refine lv_tableIn (off := 224) (tgt := 225) hx hb (dt_at dt_Ref_ofOne 1 rfl) (by rw [c23]; decide) (by rw [c23]; decide) (by rw [c23]; rfl) (by decide) ?_
                refine lv_aload_n hx hb (dt_at dt_Ref_ofOne 104 rfl) rfl (lv_at hl 0 rfl) ?_
                refine lv_aload_n hx hb (dt_at dt_Ref_ofOne 105 rfl) rfl (lv_at hl 0 rfl) ?_
                refine lv_lload_n hx hb (dt_at dt_Ref_ofOne 106 rfl) rfl (lv_at hl 2 rfl) ?_
                refine lv_iconst (v := 1) hx hb (dt_at dt_Ref_ofOne 107 rfl) (by decide) ?_
                obtain ⟨r24, h_r24, h⟩ := ob_of h
                have hF := va_free (wc := dR a) (dD (ws' := dR a) hD rfl) hS hA [0, 1, 2, 3, 4, 5, 6] rfl
                have hd : va_D (fun _ => True) (dR a) := (dD (ws' := dR a) hD rfl).weaken (fun _ _ _ _ => trivial)
                refine va_calll (va_runV (As := [.long v2, .int (1 : Int32)]) (rest := [.ref (a 0)]) ⟨hx, hb, hml, hown, hts⟩ (c_Ref_step l D a q hd H.size v2 (1 : Int32) g0 g1 g2 g3 g4 g5 g6 g7 g8 g9 g10 g11 g12 g13 g14 g15 g16 g17 g18 g19 r24 h_r24) (cwV 2 hts (gd_V (m_4 193 rfl rfl) (m_4 195 rfl rfl) (m_s 42 rfl rfl) (m_1 4 rfl rfl) (m_4 196 rfl rfl)) rfl rfl rfl (by decide +kernel) ⟨Nat.le_of_ble_eq_true rfl, Nat.le_of_ble_eq_true rfl⟩) ⟨fun a U g mk q => ⟨q.1, q.2.1, q.2.2.1, va_K.moved (u := U) (U := U.calling g mk a) (Vm.Alike.refl U.vm) q.2.2.2⟩, va_recv hK hP (ci := 0) (q0 := 0) rfl rfl, fun U hU hW => ⟨rfl, by rw [hU], by rw [hU]; exact hP, va_K.moved hW.alike hK⟩⟩ rfl rfl hl.1 rfl (lv_room (Nat.le_of_ble_eq_true rfl)) (dt_at dt_Ref_ofOne 108 rfl) ⟨Nat.le_of_ble_eq_true rfl, Nat.le_of_ble_eq_true rfl⟩) hS (fun x _ h9 => hF x h9) hF (fun u_r24 uu t H locs ht hvm hw hB hz1 hk1 hS => ?_)
                rw [ht] at hB
                subst hw
                have hP : va_P D CLS (wR a q g0 g1 g2 g3 g4 g5 g6 g7 r24.2.1 r24.2.2 g10 g11 g12 g13 g14 g15 g16 g17 g18 g19) H := hB
                have hD : va_D A (wR a q g0 g1 g2 g3 g4 g5 g6 g7 r24.2.1 r24.2.2 g10 g11 g12 g13 g14 g15 g16 g17 g18 g19) := dD hD rfl
                refine lv_aload_n hx hb (dt_at dt_Ref_ofOne 109 rfl) rfl (lv_at hl 0 rfl) ?_
                refine lv_lload hx hb (dt_at dt_Ref_ofOne 110 rfl) (lv_at hl 3 rfl) ?_
                refine lv_iconst (v := 1) hx hb (dt_at dt_Ref_ofOne 111 rfl) (by decide) ?_
                obtain ⟨r25, h_r25, h⟩ := ob_of h
                have hF := va_free (wc := dR a) (dD (ws' := dR a) hD rfl) hS hA [0, 1, 2, 3, 4, 5, 6] rfl
                have hd : va_D (fun _ => True) (dR a) := (dD (ws' := dR a) hD rfl).weaken (fun _ _ _ _ => trivial)
                refine va_calll (va_runV (As := [.long v4, .int (1 : Int32)]) (rest := [.long r24.1, .ref (a 0)]) ⟨hx, hb, hml, hown, hts⟩ (c_Ref_step l D a q hd H.size v4 (1 : Int32) g0 g1 g2 g3 g4 g5 g6 g7 r24.2.1 r24.2.2 g10 g11 g12 g13 g14 g15 g16 g17 g18 g19 r25 h_r25) (cwV 2 hts (gd_V (m_4 193 rfl rfl) (m_4 195 rfl rfl) (m_s 42 rfl rfl) (m_1 4 rfl rfl) (m_4 196 rfl rfl)) rfl rfl rfl (by decide +kernel) ⟨Nat.le_of_ble_eq_true rfl, Nat.le_of_ble_eq_true rfl⟩) ⟨fun a U g mk q => ⟨q.1, q.2.1, q.2.2.1, va_K.moved (u := U) (U := U.calling g mk a) (Vm.Alike.refl U.vm) q.2.2.2⟩, va_recv hK hP (ci := 0) (q0 := 0) rfl rfl, fun U hU hW => ⟨rfl, by rw [hU], by rw [hU]; exact hP, va_K.moved hW.alike hK⟩⟩ rfl rfl hl.1 rfl (lv_room (Nat.le_of_ble_eq_true rfl)) (dt_at dt_Ref_ofOne 112 rfl) ⟨Nat.le_of_ble_eq_true rfl, Nat.le_of_ble_eq_true rfl⟩) hS (fun x _ h9 => hF x h9) hF (fun u_r25 uu t H locs ht hvm hw hB hz1 hk1 hS => ?_)
                rw [ht] at hB
                subst hw
                have hP : va_P D CLS (wR a q g0 g1 g2 g3 g4 g5 g6 g7 r25.2.1 r25.2.2 g10 g11 g12 g13 g14 g15 g16 g17 g18 g19) H := hB
                have hD : va_D A (wR a q g0 g1 g2 g3 g4 g5 g6 g7 r25.2.1 r25.2.2 g10 g11 g12 g13 g14 g15 g16 g17 g18 g19) := dD hD rfl
                obtain ⟨r26, h_r26, h⟩ := ob_of h
                have hF := va_free (wc := dR a) (dD (ws' := dR a) hD rfl) hS hA [0, 1, 2, 3, 4, 5, 6] rfl
                have hd : va_D (fun _ => True) (dR a) := (dD (ws' := dR a) hD rfl).weaken (fun _ _ _ _ => trivial)
                refine va_callv (va_runV (As := [.long r24.1, .long r25.1]) (rest := []) ⟨hx, hb, hml, hown, hts⟩ (c_Ref_result l D a q hd H.size r24.1 r25.1 g0 g1 g2 g3 g4 g5 g6 g7 r25.2.1 r25.2.2 g10 g11 g12 g13 g14 g15 g16 g17 g18 g19 r26 h_r26) (cwV 2 hts (gd_V (m_4 104 rfl rfl) (m_4 106 rfl rfl) (m_s 26 rfl rfl) (m_1 4 rfl rfl) (m_4 107 rfl rfl)) rfl rfl rfl (by decide +kernel) ⟨Nat.le_of_ble_eq_true rfl, Nat.le_of_ble_eq_true rfl⟩) ⟨fun a U g mk q => ⟨q.1, q.2.1, q.2.2.1, va_K.moved (u := U) (U := U.calling g mk a) (Vm.Alike.refl U.vm) q.2.2.2⟩, va_recv hK hP (ci := 0) (q0 := 0) rfl rfl, fun U hU hW => ⟨rfl, by rw [hU], by rw [hU]; exact hP, va_K.moved hW.alike hK⟩⟩ rfl rfl hl.1 rfl (lv_room (Nat.le_of_ble_eq_true rfl)) (dt_at dt_Ref_ofOne 113 rfl) ⟨Nat.le_of_ble_eq_true rfl, Nat.le_of_ble_eq_true rfl⟩) hS (fun x _ h9 => hF x h9) hF (fun uu t H locs ht hvm hw hB hz1 hk1 hS => ?_)
                rw [ht] at hB
                have hP : va_P D CLS (wR a q g0 g1 g2 g3 g4 g5 g6 g7 r25.2.1 r25.2.2 r26.1 r26.2 g12 g13 g14 g15 g16 g17 g18 g19) H := hB
                have hD : va_D A (wR a q g0 g1 g2 g3 g4 g5 g6 g7 r25.2.1 r25.2.2 r26.1 r26.2 g12 g13 g14 g15 g16 g17 g18 g19) := dD hD rfl
                refine lv_goto (tgt := 278) hx hb (dt_at dt_Ref_ofOne 114 rfl) (by decide) ?_
                exact k_Ref_ofOne_278 hC hA hK   r25.2.1 r25.2.2 r26.1 r26.2 g12 H locs ls hP hD hS (lv_sub hl [0] rfl) h
              · have h := if_n h c23
                by_cases c27 : v1 = (7 : Int32)
                · have h := if_p h c27
                  refine lv_tableIn (off := 244) (tgt := 245) hx hb (dt_at dt_Ref_ofOne 1 rfl) (by rw [c27]; decide) (by rw [c27]; decide) (by rw [c27]; rfl) (by decide) ?_
                  refine lv_aload_n hx hb (dt_at dt_Ref_ofOne 115 rfl) rfl (lv_at hl 0 rfl) ?_
                  refine lv_aload_n hx hb (dt_at dt_Ref_ofOne 116 rfl) rfl (lv_at hl 0 rfl) ?_
                  refine lv_lload_n hx hb (dt_at dt_Ref_ofOne 117 rfl) rfl (lv_at hl 2 rfl) ?_
                  refine lv_iconst (v := 2) hx hb (dt_at dt_Ref_ofOne 118 rfl) (by decide) ?_
                  obtain ⟨r28, h_r28, h⟩ := ob_of h
                  have hF := va_free (wc := dR a) (dD (ws' := dR a) hD rfl) hS hA [0, 1, 2, 3, 4, 5, 6] rfl
                  have hd : va_D (fun _ => True) (dR a) := (dD (ws' := dR a) hD rfl).weaken (fun _ _ _ _ => trivial)
                  refine va_calll (va_runV (As := [.long v2, .int (2 : Int32)]) (rest := [.ref (a 0)]) ⟨hx, hb, hml, hown, hts⟩ (c_Ref_step l D a q hd H.size v2 (2 : Int32) g0 g1 g2 g3 g4 g5 g6 g7 g8 g9 g10 g11 g12 g13 g14 g15 g16 g17 g18 g19 r28 h_r28) (cwV 2 hts (gd_V (m_4 193 rfl rfl) (m_4 195 rfl rfl) (m_s 42 rfl rfl) (m_1 4 rfl rfl) (m_4 196 rfl rfl)) rfl rfl rfl (by decide +kernel) ⟨Nat.le_of_ble_eq_true rfl, Nat.le_of_ble_eq_true rfl⟩) ⟨fun a U g mk q => ⟨q.1, q.2.1, q.2.2.1, va_K.moved (u := U) (U := U.calling g mk a) (Vm.Alike.refl U.vm) q.2.2.2⟩, va_recv hK hP (ci := 0) (q0 := 0) rfl rfl, fun U hU hW => ⟨rfl, by rw [hU], by rw [hU]; exact hP, va_K.moved hW.alike hK⟩⟩ rfl rfl hl.1 rfl (lv_room (Nat.le_of_ble_eq_true rfl)) (dt_at dt_Ref_ofOne 119 rfl) ⟨Nat.le_of_ble_eq_true rfl, Nat.le_of_ble_eq_true rfl⟩) hS (fun x _ h9 => hF x h9) hF (fun u_r28 uu t H locs ht hvm hw hB hz1 hk1 hS => ?_)
                  rw [ht] at hB
                  subst hw
                  have hP : va_P D CLS (wR a q g0 g1 g2 g3 g4 g5 g6 g7 r28.2.1 r28.2.2 g10 g11 g12 g13 g14 g15 g16 g17 g18 g19) H := hB
                  have hD : va_D A (wR a q g0 g1 g2 g3 g4 g5 g6 g7 r28.2.1 r28.2.2 g10 g11 g12 g13 g14 g15 g16 g17 g18 g19) := dD hD rfl
                  refine lv_aload_n hx hb (dt_at dt_Ref_ofOne 120 rfl) rfl (lv_at hl 0 rfl) ?_
                  refine lv_lload hx hb (dt_at dt_Ref_ofOne 121 rfl) (lv_at hl 3 rfl) ?_
                  refine lv_iconst (v := 2) hx hb (dt_at dt_Ref_ofOne 122 rfl) (by decide) ?_
                  obtain ⟨r29, h_r29, h⟩ := ob_of h
                  have hF := va_free (wc := dR a) (dD (ws' := dR a) hD rfl) hS hA [0, 1, 2, 3, 4, 5, 6] rfl
                  have hd : va_D (fun _ => True) (dR a) := (dD (ws' := dR a) hD rfl).weaken (fun _ _ _ _ => trivial)
                  refine va_calll (va_runV (As := [.long v4, .int (2 : Int32)]) (rest := [.long r28.1, .ref (a 0)]) ⟨hx, hb, hml, hown, hts⟩ (c_Ref_step l D a q hd H.size v4 (2 : Int32) g0 g1 g2 g3 g4 g5 g6 g7 r28.2.1 r28.2.2 g10 g11 g12 g13 g14 g15 g16 g17 g18 g19 r29 h_r29) (cwV 2 hts (gd_V (m_4 193 rfl rfl) (m_4 195 rfl rfl) (m_s 42 rfl rfl) (m_1 4 rfl rfl) (m_4 196 rfl rfl)) rfl rfl rfl (by decide +kernel) ⟨Nat.le_of_ble_eq_true rfl, Nat.le_of_ble_eq_true rfl⟩) ⟨fun a U g mk q => ⟨q.1, q.2.1, q.2.2.1, va_K.moved (u := U) (U := U.calling g mk a) (Vm.Alike.refl U.vm) q.2.2.2⟩, va_recv hK hP (ci := 0) (q0 := 0) rfl rfl, fun U hU hW => ⟨rfl, by rw [hU], by rw [hU]; exact hP, va_K.moved hW.alike hK⟩⟩ rfl rfl hl.1 rfl (lv_room (Nat.le_of_ble_eq_true rfl)) (dt_at dt_Ref_ofOne 123 rfl) ⟨Nat.le_of_ble_eq_true rfl, Nat.le_of_ble_eq_true rfl⟩) hS (fun x _ h9 => hF x h9) hF (fun u_r29 uu t H locs ht hvm hw hB hz1 hk1 hS => ?_)
                  rw [ht] at hB
                  subst hw
                  have hP : va_P D CLS (wR a q g0 g1 g2 g3 g4 g5 g6 g7 r29.2.1 r29.2.2 g10 g11 g12 g13 g14 g15 g16 g17 g18 g19) H := hB
                  have hD : va_D A (wR a q g0 g1 g2 g3 g4 g5 g6 g7 r29.2.1 r29.2.2 g10 g11 g12 g13 g14 g15 g16 g17 g18 g19) := dD hD rfl
                  obtain ⟨r30, h_r30, h⟩ := ob_of h
                  have hF := va_free (wc := dR a) (dD (ws' := dR a) hD rfl) hS hA [0, 1, 2, 3, 4, 5, 6] rfl
                  have hd : va_D (fun _ => True) (dR a) := (dD (ws' := dR a) hD rfl).weaken (fun _ _ _ _ => trivial)
                  refine va_callv (va_runV (As := [.long r28.1, .long r29.1]) (rest := []) ⟨hx, hb, hml, hown, hts⟩ (c_Ref_result l D a q hd H.size r28.1 r29.1 g0 g1 g2 g3 g4 g5 g6 g7 r29.2.1 r29.2.2 g10 g11 g12 g13 g14 g15 g16 g17 g18 g19 r30 h_r30) (cwV 2 hts (gd_V (m_4 104 rfl rfl) (m_4 106 rfl rfl) (m_s 26 rfl rfl) (m_1 4 rfl rfl) (m_4 107 rfl rfl)) rfl rfl rfl (by decide +kernel) ⟨Nat.le_of_ble_eq_true rfl, Nat.le_of_ble_eq_true rfl⟩) ⟨fun a U g mk q => ⟨q.1, q.2.1, q.2.2.1, va_K.moved (u := U) (U := U.calling g mk a) (Vm.Alike.refl U.vm) q.2.2.2⟩, va_recv hK hP (ci := 0) (q0 := 0) rfl rfl, fun U hU hW => ⟨rfl, by rw [hU], by rw [hU]; exact hP, va_K.moved hW.alike hK⟩⟩ rfl rfl hl.1 rfl (lv_room (Nat.le_of_ble_eq_true rfl)) (dt_at dt_Ref_ofOne 124 rfl) ⟨Nat.le_of_ble_eq_true rfl, Nat.le_of_ble_eq_true rfl⟩) hS (fun x _ h9 => hF x h9) hF (fun uu t H locs ht hvm hw hB hz1 hk1 hS => ?_)
                  rw [ht] at hB
                  have hP : va_P D CLS (wR a q g0 g1 g2 g3 g4 g5 g6 g7 r29.2.1 r29.2.2 r30.1 r30.2 g12 g13 g14 g15 g16 g17 g18 g19) H := hB
                  have hD : va_D A (wR a q g0 g1 g2 g3 g4 g5 g6 g7 r29.2.1 r29.2.2 r30.1 r30.2 g12 g13 g14 g15 g16 g17 g18 g19) := dD hD rfl
                  refine lv_goto (tgt := 278) hx hb (dt_at dt_Ref_ofOne 125 rfl) (by decide) ?_
                  exact k_Ref_ofOne_278 hC hA hK   r29.2.1 r29.2.2 r30.1 r30.2 g12 H locs ls hP hD hS (lv_sub hl [0] rfl) h
                · have h := if_n h c27
                  have ho : (v1 : Int32).toInt < 0 ∨ 7 < (v1 : Int32).toInt := by
                    have n_c1 := ne_i c1 (show (0 : Int32).toInt = 0 by decide)
                    have n_c3 := ne_i c3 (show (1 : Int32).toInt = 1 by decide)
                    have n_c7 := ne_i c7 (show (2 : Int32).toInt = 2 by decide)
                    have n_c13 := ne_i c13 (show (3 : Int32).toInt = 3 by decide)
                    have n_c15 := ne_i c15 (show (4 : Int32).toInt = 4 by decide)
                    have n_c19 := ne_i c19 (show (5 : Int32).toInt = 5 by decide)
                    have n_c23 := ne_i c23 (show (6 : Int32).toInt = 6 by decide)
                    have n_c27 := ne_i c27 (show (7 : Int32).toInt = 7 by decide)
                    omega
                  refine lv_tableOut (tgt := 265) hx hb (dt_at dt_Ref_ofOne 1 rfl) ho (by decide) ?_
                  refine lv_aload_n hx hb (dt_at dt_Ref_ofOne 126 rfl) rfl (lv_at hl 0 rfl) ?_
                  refine lv_lload_n hx hb (dt_at dt_Ref_ofOne 127 rfl) rfl (lv_at hl 2 rfl) ?_
                  obtain ⟨r31, h_r31, h⟩ := ob_of h
                  refine vp_callSl (W.runS (As := [.long v2]) (rest := [.ref (a 0)]) ⟨hx, hb, hml, hown, hts⟩ (c_Ref_signOf l v2 r31 h_r31) (va_cwS 1 hts (gd_S (m_4 205 rfl rfl) (m_4 206 rfl rfl) (m_1 4 rfl rfl) (m_4 207 rfl rfl)) rfl rfl rfl (by decide +kernel) ⟨Nat.le_of_ble_eq_true rfl, Nat.le_of_ble_eq_true rfl⟩) ⟨fun _ _ _ _ q => q, fun U hU hW => ⟨rfl, trivial⟩⟩ rfl rfl hl.1 rfl (lv_room (Nat.le_of_ble_eq_true rfl)) (dt_at dt_Ref_ofOne 128 rfl) ⟨Nat.le_of_ble_eq_true rfl, Nat.le_of_ble_eq_true rfl⟩) (fun u_r31 q_r31 => ?_)
                  obtain rfl : r31 = u_r31 := q_r31.symm
                  refine lv_lload hx hb (dt_at dt_Ref_ofOne 129 rfl) (lv_at hl 3 rfl) ?_
                  obtain ⟨r32, h_r32, h⟩ := ob_of h
                  refine vp_callSl (W.runS (As := [.long v4]) (rest := [.long r31, .ref (a 0)]) ⟨hx, hb, hml, hown, hts⟩ (c_Ref_signOf l v4 r32 h_r32) (va_cwS 1 hts (gd_S (m_4 205 rfl rfl) (m_4 206 rfl rfl) (m_1 4 rfl rfl) (m_4 207 rfl rfl)) rfl rfl rfl (by decide +kernel) ⟨Nat.le_of_ble_eq_true rfl, Nat.le_of_ble_eq_true rfl⟩) ⟨fun _ _ _ _ q => q, fun U hU hW => ⟨rfl, trivial⟩⟩ rfl rfl hl.1 rfl (lv_room (Nat.le_of_ble_eq_true rfl)) (dt_at dt_Ref_ofOne 130 rfl) ⟨Nat.le_of_ble_eq_true rfl, Nat.le_of_ble_eq_true rfl⟩) (fun u_r32 q_r32 => ?_)
                  obtain rfl : r32 = u_r32 := q_r32.symm
                  obtain ⟨r33, h_r33, h⟩ := ob_of h
                  have hF := va_free (wc := dR a) (dD (ws' := dR a) hD rfl) hS hA [0, 1, 2, 3, 4, 5, 6] rfl
                  have hd : va_D (fun _ => True) (dR a) := (dD (ws' := dR a) hD rfl).weaken (fun _ _ _ _ => trivial)
                  refine va_callv (va_runV (As := [.long r31, .long r32]) (rest := []) ⟨hx, hb, hml, hown, hts⟩ (c_Ref_result l D a q hd H.size r31 r32 g0 g1 g2 g3 g4 g5 g6 g7 g8 g9 g10 g11 g12 g13 g14 g15 g16 g17 g18 g19 r33 h_r33) (cwV 2 hts (gd_V (m_4 104 rfl rfl) (m_4 106 rfl rfl) (m_s 26 rfl rfl) (m_1 4 rfl rfl) (m_4 107 rfl rfl)) rfl rfl rfl (by decide +kernel) ⟨Nat.le_of_ble_eq_true rfl, Nat.le_of_ble_eq_true rfl⟩) ⟨fun a U g mk q => ⟨q.1, q.2.1, q.2.2.1, va_K.moved (u := U) (U := U.calling g mk a) (Vm.Alike.refl U.vm) q.2.2.2⟩, va_recv hK hP (ci := 0) (q0 := 0) rfl rfl, fun U hU hW => ⟨rfl, by rw [hU], by rw [hU]; exact hP, va_K.moved hW.alike hK⟩⟩ rfl rfl hl.1 rfl (lv_room (Nat.le_of_ble_eq_true rfl)) (dt_at dt_Ref_ofOne 131 rfl) ⟨Nat.le_of_ble_eq_true rfl, Nat.le_of_ble_eq_true rfl⟩) hS (fun x _ h9 => hF x h9) hF (fun uu t H locs ht hvm hw hB hz1 hk1 hS => ?_)
                  rw [ht] at hB
                  have hP : va_P D CLS (wR a q g0 g1 g2 g3 g4 g5 g6 g7 g8 g9 r33.1 r33.2 g12 g13 g14 g15 g16 g17 g18 g19) H := hB
                  have hD : va_D A (wR a q g0 g1 g2 g3 g4 g5 g6 g7 g8 g9 r33.1 r33.2 g12 g13 g14 g15 g16 g17 g18 g19) := dD hD rfl
                  exact k_Ref_ofOne_278 hC hA hK   g8 g9 r33.1 r33.2 g12 H locs ls hP hD hS (lv_sub hl [0] rfl) h
set_option maxRecDepth 100000 in
set_option maxHeartbeats 4000000 in
theorem c_Ref_ofOne (l : Launch) (D : va_G) (a : Nat → Nat) (q : Nat → ClassId) (hd : va_D (fun _ => True) (dR a)) (sz : Nat) (a1 : Int32) (a2 : Int64) (a4 : Int64) (g0 : Int32) (g1 : Nat → Int32) (g2 : Nat → Int64) (g3 : Nat → Int64) (g4 : Nat → Int32) (g5 : Int32) (g6 : Nat → Int32) (g7 : Int32) (g8 : Nat → Int32) (g9 : Int32) (g10 : Int64) (g11 : Int64) (g12 : Int32) (g13 : Int32) (g14 : Int32) (g15 : Int64) (g16 : Int32) (g17 : Int32) (g18 : Int64) (g19 : Int32) (r0 : Int32 × (Nat → Int32) × Int32 × Int64 × Int64 × Int32) (h : f_Ref_ofOne a1 a2 a4 g8 g9 g10 g11 g12 = some r0) : Met l (⟨"OutwardTapeModel", "ofOne", "(IJJ)I"⟩ : MethodName) (WSm (⟨"OutwardTapeModel", "ofOne", "(IJJ)I"⟩ : MethodName) prog_12_method_35_code 10 (some .int)) rm_Ref_ofOne (va_Pc [.ref (a 0), .int a1, .long a2, .long a4] (fun U => U.heap.size = sz ∧ va_P D CLS (wR a q g0 g1 g2 g3 g4 g5 g6 g7 g8 g9 g10 g11 g12 g13 g14 g15 g16 g17 g18 g19) U.heap ∧ va_K D CLS (tR q) U)) (va_Qi (fun (r : Int32) (_ : Unit) => r = r0.1) (fun _ t => va_P D CLS (wR a q g0 g1 g2 g3 g4 g5 g6 g7 r0.2.1 r0.2.2.1 r0.2.2.2.1 r0.2.2.2.2.1 r0.2.2.2.2.2 g13 g14 g15 g16 g17 g18 g19) t.heap) (va_A (dR a) sz)) 0 0 (va_A (dR a) sz) := by
  refine Met.ofW (cc := prog_12_method_35_code) (maxL := 10) (ret := (some .int)) (by decide) rfl ?_
  intro p e s m args below meth c s₁ B hml hv
  obtain ⟨rfl, hsz, hP, hK⟩ := hv
  subst hsz
  have hC := CX.of B hml rfl
  have hl := lv_entry [.ref (a 0), .int a1, .long a2, .long a4] (n := 10) (Nat.le_of_ble_eq_true rfl)
  rw [lg_entry_eq]
  generalize (lg_sl [.ref (a 0), .int a1, .long a2, .long a4] ++ List.replicate (10 - (lg_sl [.ref (a 0), .int a1, .long a2, .long a4]).length) Slot.unset).toArray = ls at hl ⊢
  have hl : lv_has ls 10 [(0, .ref (a 0)), (1, .int a1), (2, .long a2), (4, .long a4)] := hl
  exact k_Ref_ofOne_0 hC (fun x h => Or.inr h) hK a1 a2 a4 g8 g9 g10 g11 g12 s.heap [] ls hP (dD hd.self rfl) va_S.rf (lv_sub hl [0, 1, 2, 3] rfl) h
