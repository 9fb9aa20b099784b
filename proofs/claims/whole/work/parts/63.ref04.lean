-- written by wip/gen/ref.py: walks of the reference's methods
abbrev rm_Ref_decorated : Room := { frames := 3, cells := 0, slots := 0, locals := 66 }
set_option maxRecDepth 100000 in
set_option maxHeartbeats 4000000 in
theorem k_Ref_decorated_119 {p : Program} {l : Launch} {e : Env} {s : State} {m : MethodId} {args : Array Value} {below : List Frame} {meth : Method} {c : Code} {D : va_G} {a : Nat → Nat} {q : Nat → ClassId} {A : Nat → Prop} (hC : CX p s m args meth c prog_12_method_65_code 4 "OutwardTapeModel" (some .int)) (hA : ∀ x, s.heap.size ≤ x → A x) (hK : va_K D CLS (tR q) s) {g0 : Int32} {g1 : Nat → Int32} {g2 : Nat → Int64} {g3 : Nat → Int64} {g4 : Nat → Int32} {g5 : Int32} {g6 : Nat → Int32} {g7 : Int32} {g8 : Nat → Int32} {g9 : Int32} {g10 : Int64} {g11 : Int64} {g12 : Int32} {g14 : Int32} {g15 : Int64} {g16 : Int32} {g17 : Int32} {g18 : Int64} {g19 : Int32} {r0 : Int32 × Int32} : ∀ (s0 : Int32) (g13 : Int32) (H : Heap) (locs : List Loc) (ls : Array Slot), va_P D CLS (wR a q g0 g1 g2 g3 g4 g5 g6 g7 g8 g9 g10 g11 g12 g13 g14 g15 g16 g17 g18 g19) H → va_D A (wR a q g0 g1 g2 g3 g4 g5 g6 g7 g8 g9 g10 g11 g12 g13 g14 g15 g16 g17 g18 g19) → va_S A s.heap H locs → lv_has ls 4 [] → f_Ref_decorated_119  s0 g6 g7 g13 = some r0 → W p l e rm_Ref_decorated s m args below meth c H locs 0 0 (MQ below (va_Qi (fun (r : Int32) (_ : Unit) => r = r0.1) (fun _ t => va_P D CLS (wR a q g0 g1 g2 g3 g4 g5 g6 g7 g8 g9 g10 g11 g12 r0.2 g14 g15 g16 g17 g18 g19) t.heap) A) args s 0 0 A) (F0 m 119 ls [.int s0]) := by
  obtain ⟨hx, hb, hml, hown, hts, hr, hlocks⟩ := id hC
  intro s0 g13 H locs ls hP hD hS hl h
  rw [f_Ref_decorated_119] at h
  obtain rfl := os_of h
  exact W.iret (v := s0) hx hb hr (fun t ht hW => ⟨⟨_, (), rfl, rfl, (hPt hP ht)⟩, hS.F ht⟩) hS.2.2 (dt_at dt_Ref_decorated 62 rfl)
set_option maxRecDepth 100000 in
set_option maxHeartbeats 4000000 in
theorem k_Ref_decorated_102 {p : Program} {l : Launch} {e : Env} {s : State} {m : MethodId} {args : Array Value} {below : List Frame} {meth : Method} {c : Code} {D : va_G} {a : Nat → Nat} {q : Nat → ClassId} {A : Nat → Prop} (hC : CX p s m args meth c prog_12_method_65_code 4 "OutwardTapeModel" (some .int)) (hA : ∀ x, s.heap.size ≤ x → A x) (hK : va_K D CLS (tR q) s) {g0 : Int32} {g1 : Nat → Int32} {g2 : Nat → Int64} {g3 : Nat → Int64} {g4 : Nat → Int32} {g5 : Int32} {g6 : Nat → Int32} {g7 : Int32} {g8 : Nat → Int32} {g9 : Int32} {g10 : Int64} {g11 : Int64} {g12 : Int32} {g14 : Int32} {g15 : Int64} {g16 : Int32} {g17 : Int32} {g18 : Int64} {g19 : Int32} {r0 : Int32 × Int32} : ∀ (s0 : Int32) (g13 : Int32) (H : Heap) (locs : List Loc) (ls : Array Slot), va_P D CLS (wR a q g0 g1 g2 g3 g4 g5 g6 g7 g8 g9 g10 g11 g12 g13 g14 g15 g16 g17 g18 g19) H → va_D A (wR a q g0 g1 g2 g3 g4 g5 g6 g7 g8 g9 g10 g11 g12 g13 g14 g15 g16 g17 g18 g19) → va_S A s.heap H locs → lv_has ls 4 [(0, .ref (a 0))] → f_Ref_decorated_102  s0 g6 g7 g13 = some r0 → W p l e rm_Ref_decorated s m args below meth c H locs 0 0 (MQ below (va_Qi (fun (r : Int32) (_ : Unit) => r = r0.1) (fun _ t => va_P D CLS (wR a q g0 g1 g2 g3 g4 g5 g6 g7 g8 g9 g10 g11 g12 r0.2 g14 g15 g16 g17 g18 g19) t.heap) A) args s 0 0 A) (F0 m 102 ls [.int s0]) := by
  obtain ⟨hx, hb, hml, hown, hts, hr, hlocks⟩ := id hC
  intro s0 g13 H locs ls hP hD hS hl h
  rw [f_Ref_decorated_102] at h
  refine lv_istore_n (lv' := [(3, .int s0), (0, .ref (a 0))]) hx hb (dt_at dt_Ref_decorated 53 rfl) rfl hl (by decide) rfl (fun ls hl => ?_)
  refine lv_aload_n hx hb (dt_at dt_Ref_decorated 54 rfl) rfl (lv_at hl 1 rfl) ?_
  refine va_get (D := D) (ci := 0) (v := .int g13) (C := "OutwardTapeModel") (T := T_Ref) (N := 20) hx hb hts in_Ref hown hK hP 0 rfl rfl 13 (by decide) (hts (Cond.fieldLink "OutwardTapeModel" 221 "OutwardTapeModel" "place" "I") (m_4 12 rfl rfl)) (fun _ h9 => h9) rfl (dt_at dt_Ref_decorated 55 rfl) ?_
  refine lv_aload_n hx hb (dt_at dt_Ref_decorated 56 rfl) rfl (lv_at hl 1 rfl) ?_
  refine va_get (D := D) (ci := 0) (v := .int g7) (C := "OutwardTapeModel") (T := T_Ref) (N := 20) hx hb hts in_Ref hown hK hP 0 rfl rfl 7 (by decide) (hts (Cond.fieldLink "OutwardTapeModel" 218 "OutwardTapeModel" "size" "I") (m_4 6 rfl rfl)) (fun _ h9 => h9) rfl (dt_at dt_Ref_decorated 57 rfl) ?_
  refine lv_icmp_ne (tgt := 118) hx hb (dt_at dt_Ref_decorated 58 rfl) (by decide) (fun c1 => ?_) (fun c1 => ?_)
  · have h := if_n h c1
    refine lv_iconst (v := -1) hx hb (dt_at dt_Ref_decorated 61 rfl) (by decide) ?_
    exact k_Ref_decorated_119 hC hA hK   (-1 : Int32) g13 H locs ls hP hD hS (lv_sub hl [] rfl) h
  · have h := if_p h c1
    refine lv_iload_n hx hb (dt_at dt_Ref_decorated 59 rfl) rfl (lv_at hl 0 rfl) ?_
    refine lv_goto (tgt := 119) hx hb (dt_at dt_Ref_decorated 60 rfl) (by decide) ?_
    exact k_Ref_decorated_119 hC hA hK   s0 g13 H locs ls hP hD hS (lv_sub hl [] rfl) h
set_option maxRecDepth 100000 in
set_option maxHeartbeats 4000000 in
theorem k_Ref_decorated_0 {p : Program} {l : Launch} {e : Env} {s : State} {m : MethodId} {args : Array Value} {below : List Frame} {meth : Method} {c : Code} {D : va_G} {a : Nat → Nat} {q : Nat → ClassId} {A : Nat → Prop} (hC : CX p s m args meth c prog_12_method_65_code 4 "OutwardTapeModel" (some .int)) (hA : ∀ x, s.heap.size ≤ x → A x) (hK : va_K D CLS (tR q) s) {g0 : Int32} {g1 : Nat → Int32} {g2 : Nat → Int64} {g3 : Nat → Int64} {g4 : Nat → Int32} {g5 : Int32} {g6 : Nat → Int32} {g7 : Int32} {g8 : Nat → Int32} {g9 : Int32} {g10 : Int64} {g11 : Int64} {g12 : Int32} {g14 : Int32} {g15 : Int64} {g16 : Int32} {g17 : Int32} {g18 : Int64} {g19 : Int32} {r0 : Int32 × Int32} : ∀  (g13 : Int32) (H : Heap) (locs : List Loc) (ls : Array Slot), va_P D CLS (wR a q g0 g1 g2 g3 g4 g5 g6 g7 g8 g9 g10 g11 g12 g13 g14 g15 g16 g17 g18 g19) H → va_D A (wR a q g0 g1 g2 g3 g4 g5 g6 g7 g8 g9 g10 g11 g12 g13 g14 g15 g16 g17 g18 g19) → va_S A s.heap H locs → lv_has ls 4 [(0, .ref (a 0))] → f_Ref_decorated_0  g6 g7 g13 = some r0 → W p l e rm_Ref_decorated s m args below meth c H locs 0 0 (MQ below (va_Qi (fun (r : Int32) (_ : Unit) => r = r0.1) (fun _ t => va_P D CLS (wR a q g0 g1 g2 g3 g4 g5 g6 g7 g8 g9 g10 g11 g12 r0.2 g14 g15 g16 g17 g18 g19) t.heap) A) args s 0 0 A) (F0 m 0 ls []) := by
  obtain ⟨hx, hb, hml, hown, hts, hr, hlocks⟩ := id hC
  intro g13 H locs ls hP hD hS hl h
  rw [f_Ref_decorated_0] at h
  refine lv_aload_n hx hb (dt_at dt_Ref_decorated 0 rfl) rfl (lv_at hl 0 rfl) ?_
  refine va_get (D := D) (ci := 0) (v := .int g13) (C := "OutwardTapeModel") (T := T_Ref) (N := 20) hx hb hts in_Ref hown hK hP 0 rfl rfl 13 (by decide) (hts (Cond.fieldLink "OutwardTapeModel" 221 "OutwardTapeModel" "place" "I") (m_4 12 rfl rfl)) (fun _ h9 => h9) rfl (dt_at dt_Ref_decorated 1 rfl) ?_
  refine lv_aload_n hx hb (dt_at dt_Ref_decorated 2 rfl) rfl (lv_at hl 0 rfl) ?_
  refine va_get (D := D) (ci := 0) (v := .int g7) (C := "OutwardTapeModel") (T := T_Ref) (N := 20) hx hb hts in_Ref hown hK hP 0 rfl rfl 7 (by decide) (hts (Cond.fieldLink "OutwardTapeModel" 218 "OutwardTapeModel" "size" "I") (m_4 6 rfl rfl)) (fun _ h9 => h9) rfl (dt_at dt_Ref_decorated 3 rfl) ?_
  refine lv_icmp_ne (tgt := 13) hx hb (dt_at dt_Ref_decorated 4 rfl) (by decide) (fun c1 => ?_) (fun c1 => ?_)
  · have h := if_n h c1
    refine lv_aload_n hx hb (dt_at dt_Ref_decorated 7 rfl) rfl (lv_at hl 0 rfl) ?_
    refine lv_bipush (v := 95) hx hb (dt_at dt_Ref_decorated 8 rfl) (by decide) ?_
    obtain ⟨r2, h_r2, h⟩ := ob_of h
    have hF := va_free (wc := dR a) (dD (ws' := dR a) hD rfl) hS hA [0, 1, 2, 3, 4, 5, 6] rfl
    have hd : va_D (fun _ => True) (dR a) := (dD (ws' := dR a) hD rfl).weaken (fun _ _ _ _ => trivial)
    refine va_calli (va_runV (As := [.int (95 : Int32)]) (rest := []) ⟨hx, hb, hml, hown, hts⟩ (c_Ref_eat l D a q hd H.size (95 : Int32) g0 g1 g2 g3 g4 g5 g6 g7 g8 g9 g10 g11 g12 g13 g14 g15 g16 g17 g18 g19 r2 h_r2) (cwV 1 hts (gd_V (m_5 11 rfl rfl) (m_5 13 rfl rfl) (m_s 50 rfl rfl) (m_1 4 rfl rfl) (m_5 14 rfl rfl)) rfl rfl rfl (by decide +kernel) ⟨Nat.le_of_ble_eq_true rfl, Nat.le_of_ble_eq_true rfl⟩) ⟨fun a U g mk q => ⟨q.1, q.2.1, q.2.2.1, va_K.moved (u := U) (U := U.calling g mk a) (Vm.Alike.refl U.vm) q.2.2.2⟩, va_recv hK hP (ci := 0) (q0 := 0) rfl rfl, fun U hU hW => ⟨rfl, by rw [hU], by rw [hU]; exact hP, va_K.moved hW.alike hK⟩⟩ rfl rfl hl.1 rfl (lv_room (Nat.le_of_ble_eq_true rfl)) (dt_at dt_Ref_decorated 9 rfl) ⟨Nat.le_of_ble_eq_true rfl, Nat.le_of_ble_eq_true rfl⟩) hS (fun x _ h9 => hF x h9) hF (fun u_r2 uu t H locs ht hvm hw hB hz1 hk1 hS => ?_)
    rw [ht] at hB
    subst hw
    have hP : va_P D CLS (wR a q g0 g1 g2 g3 g4 g5 g6 g7 g8 g9 g10 g11 g12 r2.2 g14 g15 g16 g17 g18 g19) H := hB
    have hD : va_D A (wR a q g0 g1 g2 g3 g4 g5 g6 g7 g8 g9 g10 g11 g12 r2.2 g14 g15 g16 g17 g18 g19) := dD hD rfl
    refine lv_if_ne (tgt := 24) hx hb (dt_at dt_Ref_decorated 10 rfl) (by decide) (fun c3 => ?_) (fun c3 => ?_)
    · have h := if_n h c3
      refine lv_aload_n hx hb (dt_at dt_Ref_decorated 13 rfl) rfl (lv_at hl 0 rfl) ?_
      obtain ⟨r4, h_r4, h⟩ := ob_of h
      have hF := va_free (wc := dR a) (dD (ws' := dR a) hD rfl) hS hA [0, 1, 2, 3, 4, 5, 6] rfl
      have hd : va_D (fun _ => True) (dR a) := (dD (ws' := dR a) hD rfl).weaken (fun _ _ _ _ => trivial)
      refine va_calll (va_runV (As := []) (rest := []) ⟨hx, hb, hml, hown, hts⟩ (c_Ref_word l D a q hd H.size  g0 g1 g2 g3 g4 g5 g6 g7 g8 g9 g10 g11 g12 r2.2 g14 g15 g16 g17 g18 g19 r4 h_r4) (cwV 0 hts (gd_V (m_5 27 rfl rfl) (m_5 29 rfl rfl) (m_s 54 rfl rfl) (m_1 4 rfl rfl) (m_5 30 rfl rfl)) rfl rfl rfl (by decide +kernel) ⟨Nat.le_of_ble_eq_true rfl, Nat.le_of_ble_eq_true rfl⟩) ⟨fun a U g mk q => ⟨q.1, q.2.1, q.2.2.1, va_K.moved (u := U) (U := U.calling g mk a) (Vm.Alike.refl U.vm) q.2.2.2⟩, va_recv hK hP (ci := 0) (q0 := 0) rfl rfl, fun U hU hW => ⟨rfl, by rw [hU], by rw [hU]; exact hP, va_K.moved hW.alike hK⟩⟩ rfl rfl hl.1 rfl (lv_room (Nat.le_of_ble_eq_true rfl)) (dt_at dt_Ref_decorated 14 rfl) ⟨Nat.le_of_ble_eq_true rfl, Nat.le_of_ble_eq_true rfl⟩) hS (fun x _ h9 => hF x h9) hF (fun u_r4 uu t H locs ht hvm hw hB hz1 hk1 hS => ?_)
      rw [ht] at hB
      subst hw
      have hP : va_P D CLS (wR a q g0 g1 g2 g3 g4 g5 g6 g7 g8 g9 g10 g11 g12 r4.2 g14 g15 g16 g17 g18 g19) H := hB
      have hD : va_D A (wR a q g0 g1 g2 g3 g4 g5 g6 g7 g8 g9 g10 g11 g12 r4.2 g14 g15 g16 g17 g18 g19) := dD hD rfl
      obtain ⟨t5, e_t5, h⟩ := ol_of h
      refine lv_topl (fun u_t5 q_t5 => ?_)
      obtain rfl : t5 = u_t5 := e_t5.trans q_t5.symm
      refine lv_lstore_n (lv' := [(1, .long t5), (0, .ref (a 0))]) hx hb (dt_at dt_Ref_decorated 15 rfl) rfl hl (by decide) rfl (fun ls hl => ?_)
      refine lv_lload_n hx hb (dt_at dt_Ref_decorated 16 rfl) rfl (lv_at hl 0 rfl) ?_
      refine lv_bipush (v := 99) hx hb (dt_at dt_Ref_decorated 17 rfl) (by decide) ?_
      refine lv_bipush (v := 111) hx hb (dt_at dt_Ref_decorated 18 rfl) (by decide) ?_
      refine lv_bipush (v := 109) hx hb (dt_at dt_Ref_decorated 19 rfl) (by decide) ?_
      obtain ⟨r6, h_r6, h⟩ := ob_of h
      refine vp_callSl (W.runS (As := [.int (99 : Int32), .int (111 : Int32), .int (109 : Int32)]) (rest := [.long t5]) ⟨hx, hb, hml, hown, hts⟩ (c_Ref_spelt l (99 : Int32) (111 : Int32) (109 : Int32) r6 h_r6) (va_cwS 3 hts (gd_S (m_5 38 rfl rfl) (m_5 39 rfl rfl) (m_1 4 rfl rfl) (m_5 40 rfl rfl)) rfl rfl rfl (by decide +kernel) ⟨Nat.le_of_ble_eq_true rfl, Nat.le_of_ble_eq_true rfl⟩) ⟨fun _ _ _ _ q => q, fun U hU hW => ⟨rfl, trivial⟩⟩ rfl rfl hl.1 rfl (lv_room (Nat.le_of_ble_eq_true rfl)) (dt_at dt_Ref_decorated 20 rfl) ⟨Nat.le_of_ble_eq_true rfl, Nat.le_of_ble_eq_true rfl⟩) (fun u_r6 q_r6 => ?_)
      obtain rfl : r6 = u_r6 := q_r6.symm
      refine lc_ne (tgt := 47) hx hb (dt_at dt_Ref_decorated 21 rfl) (dt_at dt_Ref_decorated 22 rfl) (by decide) (fun c7 => ?_) (fun c7 => ?_)
      · have h := if_n h c7
        refine lv_lload_n hx hb (dt_at dt_Ref_decorated 25 rfl) rfl (lv_at hl 0 rfl) ?_
        refine lv_bipush (v := 100) hx hb (dt_at dt_Ref_decorated 26 rfl) (by decide) ?_
        refine lv_bipush (v := 97) hx hb (dt_at dt_Ref_decorated 27 rfl) (by decide) ?_
        refine lv_bipush (v := 99) hx hb (dt_at dt_Ref_decorated 28 rfl) (by decide) ?_
        obtain ⟨r8, h_r8, h⟩ := ob_of h
        refine vp_callSl (W.runS (As := [.int (100 : Int32), .int (97 : Int32), .int (99 : Int32)]) (rest := [.long t5]) ⟨hx, hb, hml, hown, hts⟩ (c_Ref_spelt l (100 : Int32) (97 : Int32) (99 : Int32) r8 h_r8) (va_cwS 3 hts (gd_S (m_5 38 rfl rfl) (m_5 39 rfl rfl) (m_1 4 rfl rfl) (m_5 40 rfl rfl)) rfl rfl rfl (by decide +kernel) ⟨Nat.le_of_ble_eq_true rfl, Nat.le_of_ble_eq_true rfl⟩) ⟨fun _ _ _ _ q => q, fun U hU hW => ⟨rfl, trivial⟩⟩ rfl rfl hl.1 rfl (lv_room (Nat.le_of_ble_eq_true rfl)) (dt_at dt_Ref_decorated 29 rfl) ⟨Nat.le_of_ble_eq_true rfl, Nat.le_of_ble_eq_true rfl⟩) (fun u_r8 q_r8 => ?_)
        obtain rfl : r8 = u_r8 := q_r8.symm
        refine lc_ne (tgt := 65) hx hb (dt_at dt_Ref_decorated 30 rfl) (dt_at dt_Ref_decorated 31 rfl) (by decide) (fun c9 => ?_) (fun c9 => ?_)
        · have h := if_n h c9
          refine lv_lload_n hx hb (dt_at dt_Ref_decorated 34 rfl) rfl (lv_at hl 0 rfl) ?_
          refine lv_bipush (v := 100) hx hb (dt_at dt_Ref_decorated 35 rfl) (by decide) ?_
          refine lv_bipush (v := 101) hx hb (dt_at dt_Ref_decorated 36 rfl) (by decide) ?_
          refine lv_bipush (v := 102) hx hb (dt_at dt_Ref_decorated 37 rfl) (by decide) ?_
          obtain ⟨r10, h_r10, h⟩ := ob_of h
          refine vp_callSl (W.runS (As := [.int (100 : Int32), .int (101 : Int32), .int (102 : Int32)]) (rest := [.long t5]) ⟨hx, hb, hml, hown, hts⟩ (c_Ref_spelt l (100 : Int32) (101 : Int32) (102 : Int32) r10 h_r10) (va_cwS 3 hts (gd_S (m_5 38 rfl rfl) (m_5 39 rfl rfl) (m_1 4 rfl rfl) (m_5 40 rfl rfl)) rfl rfl rfl (by decide +kernel) ⟨Nat.le_of_ble_eq_true rfl, Nat.le_of_ble_eq_true rfl⟩) ⟨fun _ _ _ _ q => q, fun U hU hW => ⟨rfl, trivial⟩⟩ rfl rfl hl.1 rfl (lv_room (Nat.le_of_ble_eq_true rfl)) (dt_at dt_Ref_decorated 38 rfl) ⟨Nat.le_of_ble_eq_true rfl, Nat.le_of_ble_eq_true rfl⟩) (fun u_r10 q_r10 => ?_)
          obtain rfl : r10 = u_r10 := q_r10.symm
          refine lc_ne (tgt := 83) hx hb (dt_at dt_Ref_decorated 39 rfl) (dt_at dt_Ref_decorated 40 rfl) (by decide) (fun c11 => ?_) (fun c11 => ?_)
          · have h := if_n h c11
            refine lv_lload_n hx hb (dt_at dt_Ref_decorated 43 rfl) rfl (lv_at hl 0 rfl) ?_
            refine lv_bipush (v := 116) hx hb (dt_at dt_Ref_decorated 44 rfl) (by decide) ?_
            refine lv_bipush (v := 114) hx hb (dt_at dt_Ref_decorated 45 rfl) (by decide) ?_
            refine lv_bipush (v := 118) hx hb (dt_at dt_Ref_decorated 46 rfl) (by decide) ?_
            obtain ⟨r12, h_r12, h⟩ := ob_of h
            refine vp_callSl (W.runS (As := [.int (116 : Int32), .int (114 : Int32), .int (118 : Int32)]) (rest := [.long t5]) ⟨hx, hb, hml, hown, hts⟩ (c_Ref_spelt l (116 : Int32) (114 : Int32) (118 : Int32) r12 h_r12) (va_cwS 3 hts (gd_S (m_5 38 rfl rfl) (m_5 39 rfl rfl) (m_1 4 rfl rfl) (m_5 40 rfl rfl)) rfl rfl rfl (by decide +kernel) ⟨Nat.le_of_ble_eq_true rfl, Nat.le_of_ble_eq_true rfl⟩) ⟨fun _ _ _ _ q => q, fun U hU hW => ⟨rfl, trivial⟩⟩ rfl rfl hl.1 rfl (lv_room (Nat.le_of_ble_eq_true rfl)) (dt_at dt_Ref_decorated 47 rfl) ⟨Nat.le_of_ble_eq_true rfl, Nat.le_of_ble_eq_true rfl⟩) (fun u_r12 q_r12 => ?_)
            obtain rfl : r12 = u_r12 := q_r12.symm
            refine lc_ne (tgt := 101) hx hb (dt_at dt_Ref_decorated 48 rfl) (dt_at dt_Ref_decorated 49 rfl) (by decide) (fun c13 => ?_) (fun c13 => ?_)
            · have h := if_n h c13
              refine lv_iconst (v := -1) hx hb (dt_at dt_Ref_decorated 52 rfl) (by decide) ?_
              exact k_Ref_decorated_102 hC hA hK   (-1 : Int32) r4.2 H locs ls hP hD hS (lv_sub hl [1] rfl) h
            · have h := if_p h c13
              refine lv_iconst (v := 1) hx hb (dt_at dt_Ref_decorated 50 rfl) (by decide) ?_
              refine lv_goto (tgt := 102) hx hb (dt_at dt_Ref_decorated 51 rfl) (by decide) ?_
              exact k_Ref_decorated_102 hC hA hK   (1 : Int32) r4.2 H locs ls hP hD hS (lv_sub hl [1] rfl) h
          · have h := if_p h c11
            refine lv_iconst (v := 2) hx hb (dt_at dt_Ref_decorated 41 rfl) (by decide) ?_
            refine lv_goto (tgt := 102) hx hb (dt_at dt_Ref_decorated 42 rfl) (by decide) ?_
            exact k_Ref_decorated_102 hC hA hK   (2 : Int32) r4.2 H locs ls hP hD hS (lv_sub hl [1] rfl) h
        · have h := if_p h c9
          refine lv_iconst (v := 3) hx hb (dt_at dt_Ref_decorated 32 rfl) (by decide) ?_
          refine lv_goto (tgt := 102) hx hb (dt_at dt_Ref_decorated 33 rfl) (by decide) ?_
          exact k_Ref_decorated_102 hC hA hK   (3 : Int32) r4.2 H locs ls hP hD hS (lv_sub hl [1] rfl) h
      · have h := if_p h c7
        refine lv_iconst (v := 4) hx hb (dt_at dt_Ref_decorated 23 rfl) (by decide) ?_
        refine lv_goto (tgt := 102) hx hb (dt_at dt_Ref_decorated 24 rfl) (by decide) ?_
        exact k_Ref_decorated_102 hC hA hK   (4 : Int32) r4.2 H locs ls hP hD hS (lv_sub hl [1] rfl) h
    · have h := if_p h c3
      refine lv_iconst (v := -1) hx hb (dt_at dt_Ref_decorated 11 rfl) (by decide) ?_
      obtain rfl := os_of h
      exact W.iret (v := (-1 : Int32)) hx hb hr (fun t ht hW => ⟨⟨_, (), rfl, rfl, (hPt hP ht)⟩, hS.F ht⟩) hS.2.2 (dt_at dt_Ref_decorated 12 rfl)
  · have h := if_p h c1
    refine lv_iconst (v := 0) hx hb (dt_at dt_Ref_decorated 5 rfl) (by decide) ?_
    obtain rfl := os_of h
    exact W.iret (v := (0 : Int32)) hx hb hr (fun t ht hW => ⟨⟨_, (), rfl, rfl, (hPt hP ht)⟩, hS.F ht⟩) hS.2.2 (dt_at dt_Ref_decorated 6 rfl)
set_option maxRecDepth 100000 in
set_option maxHeartbeats 4000000 in
theorem c_Ref_decorated (l : Launch) (D : va_G) (a : Nat → Nat) (q : Nat → ClassId) (hd : va_D (fun _ => True) (dR a)) (sz : Nat)  (g0 : Int32) (g1 : Nat → Int32) (g2 : Nat → Int64) (g3 : Nat → Int64) (g4 : Nat → Int32) (g5 : Int32) (g6 : Nat → Int32) (g7 : Int32) (g8 : Nat → Int32) (g9 : Int32) (g10 : Int64) (g11 : Int64) (g12 : Int32) (g13 : Int32) (g14 : Int32) (g15 : Int64) (g16 : Int32) (g17 : Int32) (g18 : Int64) (g19 : Int32) (r0 : Int32 × Int32) (h : f_Ref_decorated g6 g7 g13 = some r0) : Met l (⟨"OutwardTapeModel", "decorated", "()I"⟩ : MethodName) (WSm (⟨"OutwardTapeModel", "decorated", "()I"⟩ : MethodName) prog_12_method_65_code 4 (some .int)) rm_Ref_decorated (va_Pc [.ref (a 0)] (fun U => U.heap.size = sz ∧ va_P D CLS (wR a q g0 g1 g2 g3 g4 g5 g6 g7 g8 g9 g10 g11 g12 g13 g14 g15 g16 g17 g18 g19) U.heap ∧ va_K D CLS (tR q) U)) (va_Qi (fun (r : Int32) (_ : Unit) => r = r0.1) (fun _ t => va_P D CLS (wR a q g0 g1 g2 g3 g4 g5 g6 g7 g8 g9 g10 g11 g12 r0.2 g14 g15 g16 g17 g18 g19) t.heap) (va_A (dR a) sz)) 0 0 (va_A (dR a) sz) := by
  refine Met.ofW (cc := prog_12_method_65_code) (maxL := 4) (ret := (some .int)) (by decide) rfl ?_
  intro p e s m args below meth c s₁ B hml hv
  obtain ⟨rfl, hsz, hP, hK⟩ := hv
  subst hsz
  have hC := CX.of B hml rfl
  have hl := lv_entry [.ref (a 0)] (n := 4) (Nat.le_of_ble_eq_true rfl)
  rw [lg_entry_eq]
  generalize (lg_sl [.ref (a 0)] ++ List.replicate (4 - (lg_sl [.ref (a 0)]).length) Slot.unset).toArray = ls at hl ⊢
  have hl : lv_has ls 4 [(0, .ref (a 0))] := hl
  exact k_Ref_decorated_0 hC (fun x h => Or.inr h) hK  g13 s.heap [] ls hP (dD hd.self rfl) va_S.rf (lv_sub hl [0] rfl) h
abbrev rm_Ref_literal : Room := { frames := 6, cells := 0, slots := 0, locals := 155 }
set_option maxRecDepth 100000 in
set_option maxHeartbeats 4000000 in
theorem k_Ref_literal_166 {p : Program} {l : Launch} {e : Env} {s : State} {m : MethodId} {args : Array Value} {below : List Frame} {meth : Method} {c : Code} {D : va_G} {a : Nat → Nat} {q : Nat → ClassId} {A : Nat → Prop} (hC : CX p s m args meth c prog_12_method_66_code 7 "OutwardTapeModel" (some .int)) (hA : ∀ x, s.heap.size ≤ x → A x) (hK : va_K D CLS (tR q) s) {g6 : Nat → Int32} {g7 : Int32} {g12 : Int32} {r0 : Int32 × Int32 × (Nat → Int32) × (Nat → Int64) × (Nat → Int64) × (Nat → Int32) × Int32 × (Nat → Int32) × Int32 × Int64 × Int64 × Int32 × Int32 × Int64 × Int32 × Int32 × Int64 × Int32} : ∀ (s0 : Int32) (s1 : Int64) (s2 : Int64) (s3 : Int32) (g0 : Int32) (g1 : Nat → Int32) (g2 : Nat → Int64) (g3 : Nat → Int64) (g4 : Nat → Int32) (g5 : Int32) (g8 : Nat → Int32) (g9 : Int32) (g10 : Int64) (g11 : Int64) (g13 : Int32) (g14 : Int32) (g15 : Int64) (g16 : Int32) (g17 : Int32) (g18 : Int64) (g19 : Int32) (H : Heap) (locs : List Loc) (ls : Array Slot), va_P D CLS (wR a q g0 g1 g2 g3 g4 g5 g6 g7 g8 g9 g10 g11 g12 g13 g14 g15 g16 g17 g18 g19) H → va_D A (wR a q g0 g1 g2 g3 g4 g5 g6 g7 g8 g9 g10 g11 g12 g13 g14 g15 g16 g17 g18 g19) → va_S A s.heap H locs → lv_has ls 7 [] → f_Ref_literal_166  s0 s1 s2 s3 g0 g1 g2 g3 g4 g5 g6 g7 g8 g9 g10 g11 g13 g14 g15 g16 g17 g18 g19 = some r0 → W p l e rm_Ref_literal s m args below meth c H locs 0 0 (MQ below (va_Qi (fun (r : Int32) (_ : Unit) => r = r0.1) (fun _ t => va_P D CLS (wR a q r0.2.1 r0.2.2.1 r0.2.2.2.1 r0.2.2.2.2.1 r0.2.2.2.2.2.1 r0.2.2.2.2.2.2.1 g6 g7 r0.2.2.2.2.2.2.2.1 r0.2.2.2.2.2.2.2.2.1 r0.2.2.2.2.2.2.2.2.2.1 r0.2.2.2.2.2.2.2.2.2.2.1 g12 r0.2.2.2.2.2.2.2.2.2.2.2.1 r0.2.2.2.2.2.2.2.2.2.2.2.2.1 r0.2.2.2.2.2.2.2.2.2.2.2.2.2.1 r0.2.2.2.2.2.2.2.2.2.2.2.2.2.2.1 r0.2.2.2.2.2.2.2.2.2.2.2.2.2.2.2.1 r0.2.2.2.2.2.2.2.2.2.2.2.2.2.2.2.2.1 r0.2.2.2.2.2.2.2.2.2.2.2.2.2.2.2.2.2) t.heap) A) args s 0 0 A) (F0 m 166 ls [.int s0, .long s1, .long s2, .int s3, .ref (a 0)]) := by
  obtain ⟨hx, hb, hml, hown, hts, hr, hlocks⟩ := id hC
  intro s0 s1 s2 s3 g0 g1 g2 g3 g4 g5 g8 g9 g10 g11 g13 g14 g15 g16 g17 g18 g19 H locs ls hP hD hS hl h
  rw [f_Ref_literal_166] at h
  obtain ⟨r1, h_r1, h⟩ := ob_of h
  have hF := va_free (wc := dR a) (dD (ws' := dR a) hD rfl) hS hA [0, 1, 2, 3, 4, 5, 6] rfl
  have hd : va_D (fun _ => True) (dR a) := (dD (ws' := dR a) hD rfl).weaken (fun _ _ _ _ => trivial)
  refine va_calli (va_runV (As := [.int s3, .long s2, .long s1, .int s0]) (rest := []) ⟨hx, hb, hml, hown, hts⟩ (c_Ref_cell l D a q hd H.size s3 s2 s1 s0 g0 g1 g2 g3 g4 g5 g6 g7 g8 g9 g10 g11 g12 g13 g14 g15 g16 g17 g18 g19 r1 h_r1) (cwV 4 hts (gd_V (m_4 88 rfl rfl) (m_4 90 rfl rfl) (m_s 23 rfl rfl) (m_1 4 rfl rfl) (m_4 91 rfl rfl)) rfl rfl rfl (by decide +kernel) ⟨Nat.le_of_ble_eq_true rfl, Nat.le_of_ble_eq_true rfl⟩) ⟨fun a U g mk q => ⟨q.1, q.2.1, q.2.2.1, va_K.moved (u := U) (U := U.calling g mk a) (Vm.Alike.refl U.vm) q.2.2.2⟩, va_recv hK hP (ci := 0) (q0 := 0) rfl rfl, fun U hU hW => ⟨rfl, by rw [hU], by rw [hU]; exact hP, va_K.moved hW.alike hK⟩⟩ rfl rfl hl.1 rfl (lv_room (Nat.le_of_ble_eq_true rfl)) (dt_at dt_Ref_literal 88 rfl) ⟨Nat.le_of_ble_eq_true rfl, Nat.le_of_ble_eq_true rfl⟩) hS (fun x _ h9 => hF x h9) hF (fun u_r1 uu t H locs ht hvm hw hB hz1 hk1 hS => ?_)
  rw [ht] at hB
  subst hw
  have hP : va_P D CLS (wR a q r1.2.1 r1.2.2.1 r1.2.2.2.1 r1.2.2.2.2.1 r1.2.2.2.2.2 g5 g6 g7 g8 g9 g10 g11 g12 g13 g14 g15 g16 g17 g18 g19) H := hB
  have hD : va_D A (wR a q r1.2.1 r1.2.2.1 r1.2.2.2.1 r1.2.2.2.2.1 r1.2.2.2.2.2 g5 g6 g7 g8 g9 g10 g11 g12 g13 g14 g15 g16 g17 g18 g19) := dD hD rfl
  obtain rfl := os_of h
  exact W.iret (v := r1.1) hx hb hr (fun t ht hW => ⟨⟨_, (), rfl, rfl, (hPt hP ht)⟩, hS.F ht⟩) hS.2.2 (dt_at dt_Ref_literal 89 rfl)
set_option maxRecDepth 100000 in
set_option maxHeartbeats 4000000 in
theorem k_Ref_literal_137 {p : Program} {l : Launch} {e : Env} {s : State} {m : MethodId} {args : Array Value} {below : List Frame} {meth : Method} {c : Code} {D : va_G} {a : Nat → Nat} {q : Nat → ClassId} {A : Nat → Prop} (hC : CX p s m args meth c prog_12_method_66_code 7 "OutwardTapeModel" (some .int)) (hA : ∀ x, s.heap.size ≤ x → A x) (hK : va_K D CLS (tR q) s) {g6 : Nat → Int32} {g7 : Int32} {g12 : Int32} {r0 : Int32 × Int32 × (Nat → Int32) × (Nat → Int64) × (Nat → Int64) × (Nat → Int32) × Int32 × (Nat → Int32) × Int32 × Int64 × Int64 × Int32 × Int32 × Int64 × Int32 × Int32 × Int64 × Int32} : ∀ (v2 : Int64) (v4 : Int64) (v6 : Int32) (g0 : Int32) (g1 : Nat → Int32) (g2 : Nat → Int64) (g3 : Nat → Int64) (g4 : Nat → Int32) (g5 : Int32) (g8 : Nat → Int32) (g9 : Int32) (g10 : Int64) (g11 : Int64) (g13 : Int32) (g14 : Int32) (g15 : Int64) (g16 : Int32) (g17 : Int32) (g18 : Int64) (g19 : Int32) (H : Heap) (locs : List Loc) (ls : Array Slot), va_P D CLS (wR a q g0 g1 g2 g3 g4 g5 g6 g7 g8 g9 g10 g11 g12 g13 g14 g15 g16 g17 g18 g19) H → va_D A (wR a q g0 g1 g2 g3 g4 g5 g6 g7 g8 g9 g10 g11 g12 g13 g14 g15 g16 g17 g18 g19) → va_S A s.heap H locs → lv_has ls 7 [(0, .ref (a 0)), (2, .long v2), (4, .long v4), (6, .int v6)] → f_Ref_literal_137  v2 v4 v6 g0 g1 g2 g3 g4 g5 g6 g7 g8 g9 g10 g11 g13 g14 g15 g16 g17 g18 g19 = some r0 → W p l e rm_Ref_literal s m args below meth c H locs 0 0 (MQ below (va_Qi (fun (r : Int32) (_ : Unit) => r = r0.1) (fun _ t => va_P D CLS (wR a q r0.2.1 r0.2.2.1 r0.2.2.2.1 r0.2.2.2.2.1 r0.2.2.2.2.2.1 r0.2.2.2.2.2.2.1 g6 g7 r0.2.2.2.2.2.2.2.1 r0.2.2.2.2.2.2.2.2.1 r0.2.2.2.2.2.2.2.2.2.1 r0.2.2.2.2.2.2.2.2.2.2.1 g12 r0.2.2.2.2.2.2.2.2.2.2.2.1 r0.2.2.2.2.2.2.2.2.2.2.2.2.1 r0.2.2.2.2.2.2.2.2.2.2.2.2.2.1 r0.2.2.2.2.2.2.2.2.2.2.2.2.2.2.1 r0.2.2.2.2.2.2.2.2.2.2.2.2.2.2.2.1 r0.2.2.2.2.2.2.2.2.2.2.2.2.2.2.2.2.1 r0.2.2.2.2.2.2.2.2.2.2.2.2.2.2.2.2.2) t.heap) A) args s 0 0 A) (F0 m 137 ls []) := by
  obtain ⟨hx, hb, hml, hown, hts, hr, hlocks⟩ := id hC
  intro v2 v4 v6 g0 g1 g2 g3 g4 g5 g8 g9 g10 g11 g13 g14 g15 g16 g17 g18 g19 H locs ls hP hD hS hl h
  rw [f_Ref_literal_137] at h
  refine lv_aload_n hx hb (dt_at dt_Ref_literal 73 rfl) rfl (lv_at hl 0 rfl) ?_
  refine lv_iconst (v := 2) hx hb (dt_at dt_Ref_literal 74 rfl) (by decide) ?_
  refine lv_lload_n hx hb (dt_at dt_Ref_literal 75 rfl) rfl (lv_at hl 1 rfl) ?_
  refine lv_lload hx hb (dt_at dt_Ref_literal 76 rfl) (lv_at hl 2 rfl) ?_
  refine lv_iload hx hb (dt_at dt_Ref_literal 77 rfl) (lv_at hl 3 rfl) ?_
  refine lv_if_le (tgt := 152) hx hb (dt_at dt_Ref_literal 78 rfl) (by decide) (fun c1 => ?_) (fun c1 => ?_)
  · have h := if_p h c1
    refine lv_lload_n hx hb (dt_at dt_Ref_literal 81 rfl) rfl (lv_at hl 1 rfl) ?_
    refine lv_lload hx hb (dt_at dt_Ref_literal 82 rfl) (lv_at hl 2 rfl) ?_
    obtain ⟨r2, h_r2, h⟩ := ob_of h
    refine vp_callSi (W.runS (As := [.long v2, .long v4]) (rest := [.long v4, .long v2, .int (2 : Int32), .ref (a 0)]) ⟨hx, hb, hml, hown, hts⟩ (c_Ref_bounded l v2 v4 r2 h_r2) (va_cwS 2 hts (gd_S (m_4 75 rfl rfl) (m_4 76 rfl rfl) (m_1 4 rfl rfl) (m_4 77 rfl rfl)) rfl rfl rfl (by decide +kernel) ⟨Nat.le_of_ble_eq_true rfl, Nat.le_of_ble_eq_true rfl⟩) ⟨fun _ _ _ _ q => q, fun U hU hW => ⟨rfl, trivial⟩⟩ rfl rfl hl.1 rfl (lv_room (Nat.le_of_ble_eq_true rfl)) (dt_at dt_Ref_literal 83 rfl) ⟨Nat.le_of_ble_eq_true rfl, Nat.le_of_ble_eq_true rfl⟩) (fun u_r2 q_r2 => ?_)
    obtain rfl : r2 = u_r2 := q_r2.symm
    refine lv_if_eq (tgt := 165) hx hb (dt_at dt_Ref_literal 84 rfl) (by decide) (fun c3 => ?_) (fun c3 => ?_)
    · have h := if_p h c3
      refine lv_iconst (v := 3) hx hb (dt_at dt_Ref_literal 87 rfl) (by decide) ?_
      exact k_Ref_literal_166 hC hA hK   (3 : Int32) v4 v2 (2 : Int32) g0 g1 g2 g3 g4 g5 g8 g9 g10 g11 g13 g14 g15 g16 g17 g18 g19 H locs ls hP hD hS (lv_sub hl [] rfl) h
    · have h := if_n h c3
      refine lv_iconst (v := 4) hx hb (dt_at dt_Ref_literal 85 rfl) (by decide) ?_
      refine lv_goto (tgt := 166) hx hb (dt_at dt_Ref_literal 86 rfl) (by decide) ?_
      exact k_Ref_literal_166 hC hA hK   (4 : Int32) v4 v2 (2 : Int32) g0 g1 g2 g3 g4 g5 g8 g9 g10 g11 g13 g14 g15 g16 g17 g18 g19 H locs ls hP hD hS (lv_sub hl [] rfl) h
  · have h := if_n h c1
    refine lv_iload hx hb (dt_at dt_Ref_literal 79 rfl) (lv_at hl 3 rfl) ?_
    refine lv_goto (tgt := 166) hx hb (dt_at dt_Ref_literal 80 rfl) (by decide) ?_
    exact k_Ref_literal_166 hC hA hK   v6 v4 v2 (2 : Int32) g0 g1 g2 g3 g4 g5 g8 g9 g10 g11 g13 g14 g15 g16 g17 g18 g19 H locs ls hP hD hS (lv_sub hl [] rfl) h
set_option maxRecDepth 100000 in
set_option maxHeartbeats 4000000 in
theorem k_Ref_literal_116 {p : Program} {l : Launch} {e : Env} {s : State} {m : MethodId} {args : Array Value} {below : List Frame} {meth : Method} {c : Code} {D : va_G} {a : Nat → Nat} {q : Nat → ClassId} {A : Nat → Prop} (hC : CX p s m args meth c prog_12_method_66_code 7 "OutwardTapeModel" (some .int)) (hA : ∀ x, s.heap.size ≤ x → A x) (hK : va_K D CLS (tR q) s) {g6 : Nat → Int32} {g7 : Int32} {g12 : Int32} {r0 : Int32 × Int32 × (Nat → Int32) × (Nat → Int64) × (Nat → Int64) × (Nat → Int32) × Int32 × (Nat → Int32) × Int32 × Int64 × Int64 × Int32 × Int32 × Int64 × Int32 × Int32 × Int64 × Int32} : ∀ (s0 : Int32) (g0 : Int32) (g1 : Nat → Int32) (g2 : Nat → Int64) (g3 : Nat → Int64) (g4 : Nat → Int32) (g5 : Int32) (g8 : Nat → Int32) (g9 : Int32) (g10 : Int64) (g11 : Int64) (g13 : Int32) (g14 : Int32) (g15 : Int64) (g16 : Int32) (g17 : Int32) (g18 : Int64) (g19 : Int32) (H : Heap) (locs : List Loc) (ls : Array Slot), va_P D CLS (wR a q g0 g1 g2 g3 g4 g5 g6 g7 g8 g9 g10 g11 g12 g13 g14 g15 g16 g17 g18 g19) H → va_D A (wR a q g0 g1 g2 g3 g4 g5 g6 g7 g8 g9 g10 g11 g12 g13 g14 g15 g16 g17 g18 g19) → va_S A s.heap H locs → lv_has ls 7 [] → f_Ref_literal_116  s0 g0 g1 g2 g3 g4 g5 g6 g7 g8 g9 g10 g11 g13 g14 g15 g16 g17 g18 g19 = some r0 → W p l e rm_Ref_literal s m args below meth c H locs 0 0 (MQ below (va_Qi (fun (r : Int32) (_ : Unit) => r = r0.1) (fun _ t => va_P D CLS (wR a q r0.2.1 r0.2.2.1 r0.2.2.2.1 r0.2.2.2.2.1 r0.2.2.2.2.2.1 r0.2.2.2.2.2.2.1 g6 g7 r0.2.2.2.2.2.2.2.1 r0.2.2.2.2.2.2.2.2.1 r0.2.2.2.2.2.2.2.2.2.1 r0.2.2.2.2.2.2.2.2.2.2.1 g12 r0.2.2.2.2.2.2.2.2.2.2.2.1 r0.2.2.2.2.2.2.2.2.2.2.2.2.1 r0.2.2.2.2.2.2.2.2.2.2.2.2.2.1 r0.2.2.2.2.2.2.2.2.2.2.2.2.2.2.1 r0.2.2.2.2.2.2.2.2.2.2.2.2.2.2.2.1 r0.2.2.2.2.2.2.2.2.2.2.2.2.2.2.2.2.1 r0.2.2.2.2.2.2.2.2.2.2.2.2.2.2.2.2.2) t.heap) A) args s 0 0 A) (F0 m 116 ls [.int s0]) := by
  obtain ⟨hx, hb, hml, hown, hts, hr, hlocks⟩ := id hC
  intro s0 g0 g1 g2 g3 g4 g5 g8 g9 g10 g11 g13 g14 g15 g16 g17 g18 g19 H locs ls hP hD hS hl h
  rw [f_Ref_literal_116] at h
  obtain rfl := os_of h
  exact W.iret (v := s0) hx hb hr (fun t ht hW => ⟨⟨_, (), rfl, rfl, (hPt hP ht)⟩, hS.F ht⟩) hS.2.2 (dt_at dt_Ref_literal 62 rfl)
set_option maxRecDepth 100000 in
set_option maxHeartbeats 4000000 in
theorem k_Ref_literal_85 {p : Program} {l : Launch} {e : Env} {s : State} {m : MethodId} {args : Array Value} {below : List Frame} {meth : Method} {c : Code} {D : va_G} {a : Nat → Nat} {q : Nat → ClassId} {A : Nat → Prop} (hC : CX p s m args meth c prog_12_method_66_code 7 "OutwardTapeModel" (some .int)) (hA : ∀ x, s.heap.size ≤ x → A x) (hK : va_K D CLS (tR q) s) {g6 : Nat → Int32} {g7 : Int32} {g12 : Int32} {r0 : Int32 × Int32 × (Nat → Int32) × (Nat → Int64) × (Nat → Int64) × (Nat → Int32) × Int32 × (Nat → Int32) × Int32 × Int64 × Int64 × Int32 × Int32 × Int64 × Int32 × Int32 × Int64 × Int32} : ∀  (g0 : Int32) (g1 : Nat → Int32) (g2 : Nat → Int64) (g3 : Nat → Int64) (g4 : Nat → Int32) (g5 : Int32) (g8 : Nat → Int32) (g9 : Int32) (g10 : Int64) (g11 : Int64) (g13 : Int32) (g14 : Int32) (g15 : Int64) (g16 : Int32) (g17 : Int32) (g18 : Int64) (g19 : Int32) (H : Heap) (locs : List Loc) (ls : Array Slot), va_P D CLS (wR a q g0 g1 g2 g3 g4 g5 g6 g7 g8 g9 g10 g11 g12 g13 g14 g15 g16 g17 g18 g19) H → va_D A (wR a q g0 g1 g2 g3 g4 g5 g6 g7 g8 g9 g10 g11 g12 g13 g14 g15 g16 g17 g18 g19) → va_S A s.heap H locs → lv_has ls 7 [(0, .ref (a 0))] → f_Ref_literal_85  g0 g1 g2 g3 g4 g5 g6 g7 g8 g9 g10 g11 g13 g14 g15 g16 g17 g18 g19 = some r0 → W p l e rm_Ref_literal s m args below meth c H locs 0 0 (MQ below (va_Qi (fun (r : Int32) (_ : Unit) => r = r0.1) (fun _ t => va_P D CLS (wR a q r0.2.1 r0.2.2.1 r0.2.2.2.1 r0.2.2.2.2.1 r0.2.2.2.2.2.1 r0.2.2.2.2.2.2.1 g6 g7 r0.2.2.2.2.2.2.2.1 r0.2.2.2.2.2.2.2.2.1 r0.2.2.2.2.2.2.2.2.2.1 r0.2.2.2.2.2.2.2.2.2.2.1 g12 r0.2.2.2.2.2.2.2.2.2.2.2.1 r0.2.2.2.2.2.2.2.2.2.2.2.2.1 r0.2.2.2.2.2.2.2.2.2.2.2.2.2.1 r0.2.2.2.2.2.2.2.2.2.2.2.2.2.2.1 r0.2.2.2.2.2.2.2.2.2.2.2.2.2.2.2.1 r0.2.2.2.2.2.2.2.2.2.2.2.2.2.2.2.2.1 r0.2.2.2.2.2.2.2.2.2.2.2.2.2.2.2.2.2) t.heap) A) args s 0 0 A) (F0 m 85 ls []) := by
  obtain ⟨hx, hb, hml, hown, hts, hr, hlocks⟩ := id hC
  intro g0 g1 g2 g3 g4 g5 g8 g9 g10 g11 g13 g14 g15 g16 g17 g18 g19 H locs ls hP hD hS hl h
  rw [f_Ref_literal_85] at h
  refine lv_aload_n hx hb (dt_at dt_Ref_literal 44 rfl) rfl (lv_at hl 0 rfl) ?_
  obtain ⟨r1, h_r1, h⟩ := ob_of h
  have hF := va_free (wc := dR a) (dD (ws' := dR a) hD rfl) hS hA [0, 1, 2, 3, 4, 5, 6] rfl
  have hd : va_D (fun _ => True) (dR a) := (dD (ws' := dR a) hD rfl).weaken (fun _ _ _ _ => trivial)
  refine va_calli (va_runV (As := []) (rest := []) ⟨hx, hb, hml, hown, hts⟩ (c_Ref_ill l D a q hd H.size  g0 g1 g2 g3 g4 g5 g6 g7 g8 g9 g10 g11 g12 g13 g14 g15 g16 g17 g18 g19 r1 h_r1) (cwV 0 hts (gd_V (m_4 84 rfl rfl) (m_4 86 rfl rfl) (m_s 22 rfl rfl) (m_1 4 rfl rfl) (m_4 87 rfl rfl)) rfl rfl rfl (by decide +kernel) ⟨Nat.le_of_ble_eq_true rfl, Nat.le_of_ble_eq_true rfl⟩) ⟨fun a U g mk q => ⟨q.1, q.2.1, q.2.2.1, va_K.moved (u := U) (U := U.calling g mk a) (Vm.Alike.refl U.vm) q.2.2.2⟩, va_recv hK hP (ci := 0) (q0 := 0) rfl rfl, fun U hU hW => ⟨rfl, by rw [hU], by rw [hU]; exact hP, va_K.moved hW.alike hK⟩⟩ rfl rfl hl.1 rfl (lv_room (Nat.le_of_ble_eq_true rfl)) (dt_at dt_Ref_literal 45 rfl) ⟨Nat.le_of_ble_eq_true rfl, Nat.le_of_ble_eq_true rfl⟩) hS (fun x _ h9 => hF x h9) hF (fun u_r1 uu t H locs ht hvm hw hB hz1 hk1 hS => ?_)
  rw [ht] at hB
  subst hw
  have hP : va_P D CLS (wR a q r1.2.1 r1.2.2.1 r1.2.2.2.1 r1.2.2.2.2.1 r1.2.2.2.2.2 g5 g6 g7 g8 g9 g10 g11 g12 g13 g14 g15 g16 g17 g18 g19) H := hB
  have hD : va_D A (wR a q r1.2.1 r1.2.2.1 r1.2.2.2.1 r1.2.2.2.2.1 r1.2.2.2.2.2 g5 g6 g7 g8 g9 g10 g11 g12 g13 g14 g15 g16 g17 g18 g19) := dD hD rfl
  obtain rfl := os_of h
  exact W.iret (v := r1.1) hx hb hr (fun t ht hW => ⟨⟨_, (), rfl, rfl, (hPt hP ht)⟩, hS.F ht⟩) hS.2.2 (dt_at dt_Ref_literal 46 rfl)
set_option maxRecDepth 100000 in
set_option maxHeartbeats 4000000 in
theorem k_Ref_literal_73 {p : Program} {l : Launch} {e : Env} {s : State} {m : MethodId} {args : Array Value} {below : List Frame} {meth : Method} {c : Code} {D : va_G} {a : Nat → Nat} {q : Nat → ClassId} {A : Nat → Prop} (hC : CX p s m args meth c prog_12_method_66_code 7 "OutwardTapeModel" (some .int)) (hA : ∀ x, s.heap.size ≤ x → A x) (hK : va_K D CLS (tR q) s) {g6 : Nat → Int32} {g7 : Int32} {g12 : Int32} {r0 : Int32 × Int32 × (Nat → Int32) × (Nat → Int64) × (Nat → Int64) × (Nat → Int32) × Int32 × (Nat → Int32) × Int32 × Int64 × Int64 × Int32 × Int32 × Int64 × Int32 × Int32 × Int64 × Int32} : ∀ (s0 : Int32) (v1 : Int32) (v2 : Int64) (v4 : Int64) (g0 : Int32) (g1 : Nat → Int32) (g2 : Nat → Int64) (g3 : Nat → Int64) (g4 : Nat → Int32) (g5 : Int32) (g8 : Nat → Int32) (g9 : Int32) (g10 : Int64) (g11 : Int64) (g13 : Int32) (g14 : Int32) (g15 : Int64) (g16 : Int32) (g17 : Int32) (g18 : Int64) (g19 : Int32) (H : Heap) (locs : List Loc) (ls : Array Slot), va_P D CLS (wR a q g0 g1 g2 g3 g4 g5 g6 g7 g8 g9 g10 g11 g12 g13 g14 g15 g16 g17 g18 g19) H → va_D A (wR a q g0 g1 g2 g3 g4 g5 g6 g7 g8 g9 g10 g11 g12 g13 g14 g15 g16 g17 g18 g19) → va_S A s.heap H locs → lv_has ls 7 [(0, .ref (a 0)), (1, .int v1), (2, .long v2), (4, .long v4)] → f_Ref_literal_73  s0 v1 v2 v4 g0 g1 g2 g3 g4 g5 g6 g7 g8 g9 g10 g11 g13 g14 g15 g16 g17 g18 g19 = some r0 → W p l e rm_Ref_literal s m args below meth c H locs 0 0 (MQ below (va_Qi (fun (r : Int32) (_ : Unit) => r = r0.1) (fun _ t => va_P D CLS (wR a q r0.2.1 r0.2.2.1 r0.2.2.2.1 r0.2.2.2.2.1 r0.2.2.2.2.2.1 r0.2.2.2.2.2.2.1 g6 g7 r0.2.2.2.2.2.2.2.1 r0.2.2.2.2.2.2.2.2.1 r0.2.2.2.2.2.2.2.2.2.1 r0.2.2.2.2.2.2.2.2.2.2.1 g12 r0.2.2.2.2.2.2.2.2.2.2.2.1 r0.2.2.2.2.2.2.2.2.2.2.2.2.1 r0.2.2.2.2.2.2.2.2.2.2.2.2.2.1 r0.2.2.2.2.2.2.2.2.2.2.2.2.2.2.1 r0.2.2.2.2.2.2.2.2.2.2.2.2.2.2.2.1 r0.2.2.2.2.2.2.2.2.2.2.2.2.2.2.2.2.1 r0.2.2.2.2.2.2.2.2.2.2.2.2.2.2.2.2.2) t.heap) A) args s 0 0 A) (F0 m 73 ls [.int s0]) := by
  obtain ⟨hx, hb, hml, hown, hts, hr, hlocks⟩ := id hC
  intro s0 v1 v2 v4 g0 g1 g2 g3 g4 g5 g8 g9 g10 g11 g13 g14 g15 g16 g17 g18 g19 H locs ls hP hD hS hl h
  rw [f_Ref_literal_73] at h
  refine lv_istore (lv' := [(6, .int s0), (0, .ref (a 0)), (1, .int v1), (2, .long v2), (4, .long v4)]) hx hb (dt_at dt_Ref_literal 38 rfl) hl (by decide) rfl (fun ls hl => ?_)
  refine lv_iload_n hx hb (dt_at dt_Ref_literal 39 rfl) rfl (lv_at hl 2 rfl) ?_
  refine lv_iconst (v := 1) hx hb (dt_at dt_Ref_literal 40 rfl) (by decide) ?_
  refine lv_icmp_lt (tgt := 85) hx hb (dt_at dt_Ref_literal 41 rfl) (by decide) (fun c1 => ?_) (fun c1 => ?_)
  · have h := if_p h c1
    exact k_Ref_literal_85 hC hA hK   g0 g1 g2 g3 g4 g5 g8 g9 g10 g11 g13 g14 g15 g16 g17 g18 g19 H locs ls hP hD hS (lv_sub hl [1] rfl) h
  · have h := if_n h c1
    refine lv_iload hx hb (dt_at dt_Ref_literal 42 rfl) (lv_at hl 0 rfl) ?_
    refine lv_if_ge (tgt := 90) hx hb (dt_at dt_Ref_literal 43 rfl) (by decide) (fun c2 => ?_) (fun c2 => ?_)
    · have h := if_p h c2
      refine lv_iload_n hx hb (dt_at dt_Ref_literal 47 rfl) rfl (lv_at hl 2 rfl) ?_
      refine lv_iconst (v := 1) hx hb (dt_at dt_Ref_literal 48 rfl) (by decide) ?_
      refine lv_icmp_ne (tgt := 117) hx hb (dt_at dt_Ref_literal 49 rfl) (by decide) (fun c3 => ?_) (fun c3 => ?_)
      · have h := if_n h c3
        refine lv_iload hx hb (dt_at dt_Ref_literal 63 rfl) (lv_at hl 0 rfl) ?_
        refine lv_iconst (v := 4) hx hb (dt_at dt_Ref_literal 64 rfl) (by decide) ?_
        refine lv_icmp_ne (tgt := 137) hx hb (dt_at dt_Ref_literal 65 rfl) (by decide) (fun c4 => ?_) (fun c4 => ?_)
        · have h := if_n h c4
          exact k_Ref_literal_137 hC hA hK   v2 v4 s0 g0 g1 g2 g3 g4 g5 g8 g9 g10 g11 g13 g14 g15 g16 g17 g18 g19 H locs ls hP hD hS (lv_sub hl [1, 3, 4, 0] rfl) h
        · have h := if_p h c4
          refine lv_lload_n hx hb (dt_at dt_Ref_literal 66 rfl) rfl (lv_at hl 3 rfl) ?_
          refine lv_lload hx hb (dt_at dt_Ref_literal 67 rfl) (lv_at hl 4 rfl) ?_
          obtain ⟨r5, h_r5, h⟩ := ob_of h
          refine vp_callSi (W.runS (As := [.long v2, .long v4]) (rest := []) ⟨hx, hb, hml, hown, hts⟩ (c_Ref_bounded l v2 v4 r5 h_r5) (va_cwS 2 hts (gd_S (m_4 75 rfl rfl) (m_4 76 rfl rfl) (m_1 4 rfl rfl) (m_4 77 rfl rfl)) rfl rfl rfl (by decide +kernel) ⟨Nat.le_of_ble_eq_true rfl, Nat.le_of_ble_eq_true rfl⟩) ⟨fun _ _ _ _ q => q, fun U hU hW => ⟨rfl, trivial⟩⟩ rfl rfl hl.1 rfl (lv_room (Nat.le_of_ble_eq_true rfl)) (dt_at dt_Ref_literal 68 rfl) ⟨Nat.le_of_ble_eq_true rfl, Nat.le_of_ble_eq_true rfl⟩) (fun u_r5 q_r5 => ?_)
          obtain rfl : r5 = u_r5 := q_r5.symm
          refine lv_if_ne (tgt := 137) hx hb (dt_at dt_Ref_literal 69 rfl) (by decide) (fun c6 => ?_) (fun c6 => ?_)
          · have h := if_n h c6
            exact k_Ref_literal_137 hC hA hK   v2 v4 s0 g0 g1 g2 g3 g4 g5 g8 g9 g10 g11 g13 g14 g15 g16 g17 g18 g19 H locs ls hP hD hS (lv_sub hl [1, 3, 4, 0] rfl) h
          · have h := if_p h c6
            refine lv_aload_n hx hb (dt_at dt_Ref_literal 70 rfl) rfl (lv_at hl 1 rfl) ?_
            obtain ⟨r7, h_r7, h⟩ := ob_of h
            have hF := va_free (wc := dR a) (dD (ws' := dR a) hD rfl) hS hA [0, 1, 2, 3, 4, 5, 6] rfl
            have hd : va_D (fun _ => True) (dR a) := (dD (ws' := dR a) hD rfl).weaken (fun _ _ _ _ => trivial)
            refine va_calli (va_runV (As := []) (rest := []) ⟨hx, hb, hml, hown, hts⟩ (c_Ref_ill l D a q hd H.size  g0 g1 g2 g3 g4 g5 g6 g7 g8 g9 g10 g11 g12 g13 g14 g15 g16 g17 g18 g19 r7 h_r7) (cwV 0 hts (gd_V (m_4 84 rfl rfl) (m_4 86 rfl rfl) (m_s 22 rfl rfl) (m_1 4 rfl rfl) (m_4 87 rfl rfl)) rfl rfl rfl (by decide +kernel) ⟨Nat.le_of_ble_eq_true rfl, Nat.le_of_ble_eq_true rfl⟩) ⟨fun a U g mk q => ⟨q.1, q.2.1, q.2.2.1, va_K.moved (u := U) (U := U.calling g mk a) (Vm.Alike.refl U.vm) q.2.2.2⟩, va_recv hK hP (ci := 0) (q0 := 0) rfl rfl, fun U hU hW => ⟨rfl, by rw [hU], by rw [hU]; exact hP, va_K.moved hW.alike hK⟩⟩ rfl rfl hl.1 rfl (lv_room (Nat.le_of_ble_eq_true rfl)) (dt_at dt_Ref_literal 71 rfl) ⟨Nat.le_of_ble_eq_true rfl, Nat.le_of_ble_eq_true rfl⟩) hS (fun x _ h9 => hF x h9) hF (fun u_r7 uu t H locs ht hvm hw hB hz1 hk1 hS => ?_)
            rw [ht] at hB
            subst hw
            have hP : va_P D CLS (wR a q r7.2.1 r7.2.2.1 r7.2.2.2.1 r7.2.2.2.2.1 r7.2.2.2.2.2 g5 g6 g7 g8 g9 g10 g11 g12 g13 g14 g15 g16 g17 g18 g19) H := hB
            have hD : va_D A (wR a q r7.2.1 r7.2.2.1 r7.2.2.2.1 r7.2.2.2.2.1 r7.2.2.2.2.2 g5 g6 g7 g8 g9 g10 g11 g12 g13 g14 g15 g16 g17 g18 g19) := dD hD rfl
            obtain rfl := os_of h
            exact W.iret (v := r7.1) hx hb hr (fun t ht hW => ⟨⟨_, (), rfl, rfl, (hPt hP ht)⟩, hS.F ht⟩) hS.2.2 (dt_at dt_Ref_literal 72 rfl)
      · have h := if_p h c3
        refine lv_iload hx hb (dt_at dt_Ref_literal 50 rfl) (lv_at hl 0 rfl) ?_
        refine lv_iconst (v := 1) hx hb (dt_at dt_Ref_literal 51 rfl) (by decide) ?_
        refine lv_icmp_le (tgt := 108) hx hb (dt_at dt_Ref_literal 52 rfl) (by decide) (fun c8 => ?_) (fun c8 => ?_)
        · have h := if_p h c8
          refine lv_aload_n hx hb (dt_at dt_Ref_literal 56 rfl) rfl (lv_at hl 1 rfl) ?_
          refine lv_iconst (v := 1) hx hb (dt_at dt_Ref_literal 57 rfl) (by decide) ?_
          refine lv_lconst (v := 0) hx hb (dt_at dt_Ref_literal 58 rfl) (by decide) ?_
          refine lv_lconst (v := 0) hx hb (dt_at dt_Ref_literal 59 rfl) (by decide) ?_
          refine lv_iconst (v := 1) hx hb (dt_at dt_Ref_literal 60 rfl) (by decide) ?_
          obtain ⟨r9, h_r9, h⟩ := ob_of h
          have hF := va_free (wc := dR a) (dD (ws' := dR a) hD rfl) hS hA [0, 1, 2, 3, 4, 5, 6] rfl
          have hd : va_D (fun _ => True) (dR a) := (dD (ws' := dR a) hD rfl).weaken (fun _ _ _ _ => trivial)
          refine va_calli (va_runV (As := [.int (1 : Int32), .long (0 : Int64), .long (0 : Int64), .int (1 : Int32)]) (rest := []) ⟨hx, hb, hml, hown, hts⟩ (c_Ref_cell l D a q hd H.size (1 : Int32) (0 : Int64) (0 : Int64) (1 : Int32) g0 g1 g2 g3 g4 g5 g6 g7 g8 g9 g10 g11 g12 g13 g14 g15 g16 g17 g18 g19 r9 h_r9) (cwV 4 hts (gd_V (m_4 88 rfl rfl) (m_4 90 rfl rfl) (m_s 23 rfl rfl) (m_1 4 rfl rfl) (m_4 91 rfl rfl)) rfl rfl rfl (by decide +kernel) ⟨Nat.le_of_ble_eq_true rfl, Nat.le_of_ble_eq_true rfl⟩) ⟨fun a U g mk q => ⟨q.1, q.2.1, q.2.2.1, va_K.moved (u := U) (U := U.calling g mk a) (Vm.Alike.refl U.vm) q.2.2.2⟩, va_recv hK hP (ci := 0) (q0 := 0) rfl rfl, fun U hU hW => ⟨rfl, by rw [hU], by rw [hU]; exact hP, va_K.moved hW.alike hK⟩⟩ rfl rfl hl.1 rfl (lv_room (Nat.le_of_ble_eq_true rfl)) (dt_at dt_Ref_literal 61 rfl) ⟨Nat.le_of_ble_eq_true rfl, Nat.le_of_ble_eq_true rfl⟩) hS (fun x _ h9 => hF x h9) hF (fun u_r9 uu t H locs ht hvm hw hB hz1 hk1 hS => ?_)
          rw [ht] at hB
          subst hw
          have hP : va_P D CLS (wR a q r9.2.1 r9.2.2.1 r9.2.2.2.1 r9.2.2.2.2.1 r9.2.2.2.2.2 g5 g6 g7 g8 g9 g10 g11 g12 g13 g14 g15 g16 g17 g18 g19) H := hB
          have hD : va_D A (wR a q r9.2.1 r9.2.2.1 r9.2.2.2.1 r9.2.2.2.2.1 r9.2.2.2.2.2 g5 g6 g7 g8 g9 g10 g11 g12 g13 g14 g15 g16 g17 g18 g19) := dD hD rfl
          exact k_Ref_literal_116 hC hA hK   r9.1 r9.2.1 r9.2.2.1 r9.2.2.2.1 r9.2.2.2.2.1 r9.2.2.2.2.2 g5 g8 g9 g10 g11 g13 g14 g15 g16 g17 g18 g19 H locs ls hP hD hS (lv_sub hl [] rfl) h
        · have h := if_n h c8
          refine lv_aload_n hx hb (dt_at dt_Ref_literal 53 rfl) rfl (lv_at hl 1 rfl) ?_
          obtain ⟨r10, h_r10, h⟩ := ob_of h
          have hF := va_free (wc := dR a) (dD (ws' := dR a) hD rfl) hS hA [0, 1, 2, 3, 4, 5, 6] rfl
          have hd : va_D (fun _ => True) (dR a) := (dD (ws' := dR a) hD rfl).weaken (fun _ _ _ _ => trivial)
          refine va_calli (va_runV (As := []) (rest := []) ⟨hx, hb, hml, hown, hts⟩ (c_Ref_ill l D a q hd H.size  g0 g1 g2 g3 g4 g5 g6 g7 g8 g9 g10 g11 g12 g13 g14 g15 g16 g17 g18 g19 r10 h_r10) (cwV 0 hts (gd_V (m_4 84 rfl rfl) (m_4 86 rfl rfl) (m_s 22 rfl rfl) (m_1 4 rfl rfl) (m_4 87 rfl rfl)) rfl rfl rfl (by decide +kernel) ⟨Nat.le_of_ble_eq_true rfl, Nat.le_of_ble_eq_true rfl⟩) ⟨fun a U g mk q => ⟨q.1, q.2.1, q.2.2.1, va_K.moved (u := U) (U := U.calling g mk a) (Vm.Alike.refl U.vm) q.2.2.2⟩, va_recv hK hP (ci := 0) (q0 := 0) rfl rfl, fun U hU hW => ⟨rfl, by rw [hU], by rw [hU]; exact hP, va_K.moved hW.alike hK⟩⟩ rfl rfl hl.1 rfl (lv_room (Nat.le_of_ble_eq_true rfl)) (dt_at dt_Ref_literal 54 rfl) ⟨Nat.le_of_ble_eq_true rfl, Nat.le_of_ble_eq_true rfl⟩) hS (fun x _ h9 => hF x h9) hF (fun u_r10 uu t H locs ht hvm hw hB hz1 hk1 hS => ?_)
          rw [ht] at hB
          subst hw
          have hP : va_P D CLS (wR a q r10.2.1 r10.2.2.1 r10.2.2.2.1 r10.2.2.2.2.1 r10.2.2.2.2.2 g5 g6 g7 g8 g9 g10 g11 g12 g13 g14 g15 g16 g17 g18 g19) H := hB
          have hD : va_D A (wR a q r10.2.1 r10.2.2.1 r10.2.2.2.1 r10.2.2.2.2.1 r10.2.2.2.2.2 g5 g6 g7 g8 g9 g10 g11 g12 g13 g14 g15 g16 g17 g18 g19) := dD hD rfl
          refine lv_goto (tgt := 116) hx hb (dt_at dt_Ref_literal 55 rfl) (by decide) ?_
          exact k_Ref_literal_116 hC hA hK   r10.1 r10.2.1 r10.2.2.1 r10.2.2.2.1 r10.2.2.2.2.1 r10.2.2.2.2.2 g5 g8 g9 g10 g11 g13 g14 g15 g16 g17 g18 g19 H locs ls hP hD hS (lv_sub hl [] rfl) h
    · have h := if_n h c2
      exact k_Ref_literal_85 hC hA hK   g0 g1 g2 g3 g4 g5 g8 g9 g10 g11 g13 g14 g15 g16 g17 g18 g19 H locs ls hP hD hS (lv_sub hl [1] rfl) h
set_option maxRecDepth 100000 in
set_option maxHeartbeats 4000000 in
theorem k_Ref_literal_49 {p : Program} {l : Launch} {e : Env} {s : State} {m : MethodId} {args : Array Value} {below : List Frame} {meth : Method} {c : Code} {D : va_G} {a : Nat → Nat} {q : Nat → ClassId} {A : Nat → Prop} (hC : CX p s m args meth c prog_12_method_66_code 7 "OutwardTapeModel" (some .int)) (hA : ∀ x, s.heap.size ≤ x → A x) (hK : va_K D CLS (tR q) s) {g6 : Nat → Int32} {g7 : Int32} {g12 : Int32} {r0 : Int32 × Int32 × (Nat → Int32) × (Nat → Int64) × (Nat → Int64) × (Nat → Int32) × Int32 × (Nat → Int32) × Int32 × Int64 × Int64 × Int32 × Int32 × Int64 × Int32 × Int32 × Int64 × Int32} : ∀ (s0 : Int32) (g0 : Int32) (g1 : Nat → Int32) (g2 : Nat → Int64) (g3 : Nat → Int64) (g4 : Nat → Int32) (g5 : Int32) (g8 : Nat → Int32) (g9 : Int32) (g10 : Int64) (g11 : Int64) (g13 : Int32) (g14 : Int32) (g15 : Int64) (g16 : Int32) (g17 : Int32) (g18 : Int64) (g19 : Int32) (H : Heap) (locs : List Loc) (ls : Array Slot), va_P D CLS (wR a q g0 g1 g2 g3 g4 g5 g6 g7 g8 g9 g10 g11 g12 g13 g14 g15 g16 g17 g18 g19) H → va_D A (wR a q g0 g1 g2 g3 g4 g5 g6 g7 g8 g9 g10 g11 g12 g13 g14 g15 g16 g17 g18 g19) → va_S A s.heap H locs → lv_has ls 7 [(0, .ref (a 0))] → f_Ref_literal_49  s0 g0 g1 g2 g3 g4 g5 g6 g7 g8 g9 g10 g11 g13 g14 g15 g16 g17 g18 g19 = some r0 → W p l e rm_Ref_literal s m args below meth c H locs 0 0 (MQ below (va_Qi (fun (r : Int32) (_ : Unit) => r = r0.1) (fun _ t => va_P D CLS (wR a q r0.2.1 r0.2.2.1 r0.2.2.2.1 r0.2.2.2.2.1 r0.2.2.2.2.2.1 r0.2.2.2.2.2.2.1 g6 g7 r0.2.2.2.2.2.2.2.1 r0.2.2.2.2.2.2.2.2.1 r0.2.2.2.2.2.2.2.2.2.1 r0.2.2.2.2.2.2.2.2.2.2.1 g12 r0.2.2.2.2.2.2.2.2.2.2.2.1 r0.2.2.2.2.2.2.2.2.2.2.2.2.1 r0.2.2.2.2.2.2.2.2.2.2.2.2.2.1 r0.2.2.2.2.2.2.2.2.2.2.2.2.2.2.1 r0.2.2.2.2.2.2.2.2.2.2.2.2.2.2.2.1 r0.2.2.2.2.2.2.2.2.2.2.2.2.2.2.2.2.1 r0.2.2.2.2.2.2.2.2.2.2.2.2.2.2.2.2.2) t.heap) A) args s 0 0 A) (F0 m 49 ls [.int s0]) := by
  obtain ⟨hx, hb, hml, hown, hts, hr, hlocks⟩ := id hC
  intro s0 g0 g1 g2 g3 g4 g5 g8 g9 g10 g11 g13 g14 g15 g16 g17 g18 g19 H locs ls hP hD hS hl h
  rw [f_Ref_literal_49] at h
  refine lv_istore_n (lv' := [(1, .int s0), (0, .ref (a 0))]) hx hb (dt_at dt_Ref_literal 25 rfl) rfl hl (by decide) rfl (fun ls hl => ?_)
  refine lv_aload_n hx hb (dt_at dt_Ref_literal 26 rfl) rfl (lv_at hl 1 rfl) ?_
  refine va_get (D := D) (ci := 0) (v := .long g10) (C := "OutwardTapeModel") (T := T_Ref) (N := 20) hx hb hts in_Ref hown hK hP 0 rfl rfl 10 (by decide) (hts (Cond.fieldLink "OutwardTapeModel" 126 "OutwardTapeModel" "resultLow" "J") (m_4 9 rfl rfl)) (fun _ h9 => h9) rfl (dt_at dt_Ref_literal 27 rfl) ?_
  refine lv_lstore_n (lv' := [(2, .long g10), (1, .int s0), (0, .ref (a 0))]) hx hb (dt_at dt_Ref_literal 28 rfl) rfl hl (by decide) rfl (fun ls hl => ?_)
  refine lv_aload_n hx hb (dt_at dt_Ref_literal 29 rfl) rfl (lv_at hl 2 rfl) ?_
  refine va_get (D := D) (ci := 0) (v := .long g11) (C := "OutwardTapeModel") (T := T_Ref) (N := 20) hx hb hts in_Ref hown hK hP 0 rfl rfl 11 (by decide) (hts (Cond.fieldLink "OutwardTapeModel" 130 "OutwardTapeModel" "resultHigh" "J") (m_4 10 rfl rfl)) (fun _ h9 => h9) rfl (dt_at dt_Ref_literal 30 rfl) ?_
  refine lv_lstore (lv' := [(4, .long g11), (2, .long g10), (1, .int s0), (0, .ref (a 0))]) hx hb (dt_at dt_Ref_literal 31 rfl) hl (by decide) rfl (fun ls hl => ?_)
  refine lv_iload_n hx hb (dt_at dt_Ref_literal 32 rfl) rfl (lv_at hl 2 rfl) ?_
  refine lv_if_ge (tgt := 69) hx hb (dt_at dt_Ref_literal 33 rfl) (by decide) (fun c1 => ?_) (fun c1 => ?_)
  · have h := if_p h c1
    refine lv_aload_n hx hb (dt_at dt_Ref_literal 36 rfl) rfl (lv_at hl 3 rfl) ?_
    obtain ⟨r2, h_r2, h⟩ := ob_of h
    have hF := va_free (wc := dR a) (dD (ws' := dR a) hD rfl) hS hA [0, 1, 2, 3, 4, 5, 6] rfl
    have hd : va_D (fun _ => True) (dR a) := (dD (ws' := dR a) hD rfl).weaken (fun _ _ _ _ => trivial)
    refine va_calli (va_runV (As := []) (rest := []) ⟨hx, hb, hml, hown, hts⟩ (c_Ref_decorated l D a q hd H.size  g0 g1 g2 g3 g4 g5 g6 g7 g8 g9 g10 g11 g12 g13 g14 g15 g16 g17 g18 g19 r2 h_r2) (cwV 0 hts (gd_V (m_5 81 rfl rfl) (m_5 83 rfl rfl) (m_s 64 rfl rfl) (m_1 4 rfl rfl) (m_5 84 rfl rfl)) rfl rfl rfl (by decide +kernel) ⟨Nat.le_of_ble_eq_true rfl, Nat.le_of_ble_eq_true rfl⟩) ⟨fun a U g mk q => ⟨q.1, q.2.1, q.2.2.1, va_K.moved (u := U) (U := U.calling g mk a) (Vm.Alike.refl U.vm) q.2.2.2⟩, va_recv hK hP (ci := 0) (q0 := 0) rfl rfl, fun U hU hW => ⟨rfl, by rw [hU], by rw [hU]; exact hP, va_K.moved hW.alike hK⟩⟩ rfl rfl hl.1 rfl (lv_room (Nat.le_of_ble_eq_true rfl)) (dt_at dt_Ref_literal 37 rfl) ⟨Nat.le_of_ble_eq_true rfl, Nat.le_of_ble_eq_true rfl⟩) hS (fun x _ h9 => hF x h9) hF (fun u_r2 uu t H locs ht hvm hw hB hz1 hk1 hS => ?_)
    rw [ht] at hB
    subst hw
    have hP : va_P D CLS (wR a q g0 g1 g2 g3 g4 g5 g6 g7 g8 g9 g10 g11 g12 r2.2 g14 g15 g16 g17 g18 g19) H := hB
    have hD : va_D A (wR a q g0 g1 g2 g3 g4 g5 g6 g7 g8 g9 g10 g11 g12 r2.2 g14 g15 g16 g17 g18 g19) := dD hD rfl
    exact k_Ref_literal_73 hC hA hK   r2.1 s0 g10 g11 g0 g1 g2 g3 g4 g5 g8 g9 g10 g11 r2.2 g14 g15 g16 g17 g18 g19 H locs ls hP hD hS (lv_sub hl [3, 2, 1, 0] rfl) h
  · have h := if_n h c1
    refine lv_iconst (v := -1) hx hb (dt_at dt_Ref_literal 34 rfl) (by decide) ?_
    refine lv_goto (tgt := 73) hx hb (dt_at dt_Ref_literal 35 rfl) (by decide) ?_
    exact k_Ref_literal_73 hC hA hK   (-1 : Int32) s0 g10 g11 g0 g1 g2 g3 g4 g5 g8 g9 g10 g11 g13 g14 g15 g16 g17 g18 g19 H locs ls hP hD hS (lv_sub hl [3, 2, 1, 0] rfl) h
set_option maxRecDepth 100000 in
set_option maxHeartbeats 4000000 in
theorem k_Ref_literal_15 {p : Program} {l : Launch} {e : Env} {s : State} {m : MethodId} {args : Array Value} {below : List Frame} {meth : Method} {c : Code} {D : va_G} {a : Nat → Nat} {q : Nat → ClassId} {A : Nat → Prop} (hC : CX p s m args meth c prog_12_method_66_code 7 "OutwardTapeModel" (some .int)) (hA : ∀ x, s.heap.size ≤ x → A x) (hK : va_K D CLS (tR q) s) {g6 : Nat → Int32} {g7 : Int32} {g12 : Int32} {r0 : Int32 × Int32 × (Nat → Int32) × (Nat → Int64) × (Nat → Int64) × (Nat → Int32) × Int32 × (Nat → Int32) × Int32 × Int64 × Int64 × Int32 × Int32 × Int64 × Int32 × Int32 × Int64 × Int32} : ∀ (s0 : Int32) (g0 : Int32) (g1 : Nat → Int32) (g2 : Nat → Int64) (g3 : Nat → Int64) (g4 : Nat → Int32) (g5 : Int32) (g8 : Nat → Int32) (g9 : Int32) (g10 : Int64) (g11 : Int64) (g13 : Int32) (g14 : Int32) (g15 : Int64) (g16 : Int32) (g17 : Int32) (g18 : Int64) (g19 : Int32) (H : Heap) (locs : List Loc) (ls : Array Slot), va_P D CLS (wR a q g0 g1 g2 g3 g4 g5 g6 g7 g8 g9 g10 g11 g12 g13 g14 g15 g16 g17 g18 g19) H → va_D A (wR a q g0 g1 g2 g3 g4 g5 g6 g7 g8 g9 g10 g11 g12 g13 g14 g15 g16 g17 g18 g19) → va_S A s.heap H locs → lv_has ls 7 [(0, .ref (a 0))] → f_Ref_literal_15  s0 g0 g1 g2 g3 g4 g5 g6 g7 g8 g9 g10 g11 g13 g14 g15 g16 g17 g18 g19 = some r0 → W p l e rm_Ref_literal s m args below meth c H locs 0 0 (MQ below (va_Qi (fun (r : Int32) (_ : Unit) => r = r0.1) (fun _ t => va_P D CLS (wR a q r0.2.1 r0.2.2.1 r0.2.2.2.1 r0.2.2.2.2.1 r0.2.2.2.2.2.1 r0.2.2.2.2.2.2.1 g6 g7 r0.2.2.2.2.2.2.2.1 r0.2.2.2.2.2.2.2.2.1 r0.2.2.2.2.2.2.2.2.2.1 r0.2.2.2.2.2.2.2.2.2.2.1 g12 r0.2.2.2.2.2.2.2.2.2.2.2.1 r0.2.2.2.2.2.2.2.2.2.2.2.2.1 r0.2.2.2.2.2.2.2.2.2.2.2.2.2.1 r0.2.2.2.2.2.2.2.2.2.2.2.2.2.2.1 r0.2.2.2.2.2.2.2.2.2.2.2.2.2.2.2.1 r0.2.2.2.2.2.2.2.2.2.2.2.2.2.2.2.2.1 r0.2.2.2.2.2.2.2.2.2.2.2.2.2.2.2.2.2) t.heap) A) args s 0 0 A) (F0 m 15 ls [.int s0, .ref (a 0)]) := by
  obtain ⟨hx, hb, hml, hown, hts, hr, hlocks⟩ := id hC
  intro s0 g0 g1 g2 g3 g4 g5 g8 g9 g10 g11 g13 g14 g15 g16 g17 g18 g19 H locs ls hP hD hS hl h
  rw [f_Ref_literal_15] at h
  refine va_put (D := D) (ci := 0) (v := .int s0) (ty := .int) (C := "OutwardTapeModel") (T := T_Ref) (N := 20) hx hb hts in_Ref ty_Ref tk_Ref nm_Ref hown hK hP hD hS 0 rfl rfl 5 (by decide) (hts (Cond.fieldLink "OutwardTapeModel" 29 "OutwardTapeModel" "code" "I") (m_4 4 rfl rfl)) (fun _ h9 => h9) rfl (by decide +kernel) rfl rfl (Nat.le_of_ble_eq_true rfl) (dt_at dt_Ref_literal 8 rfl) (fun H locs hP hD hS => ?_)
  have hP : va_P D CLS (wR a q g0 g1 g2 g3 g4 s0 g6 g7 g8 g9 g10 g11 g12 g13 g14 g15 g16 g17 g18 g19) H := hP
  have hD : va_D A (wR a q g0 g1 g2 g3 g4 s0 g6 g7 g8 g9 g10 g11 g12 g13 g14 g15 g16 g17 g18 g19) := hD
  refine lv_aload_n hx hb (dt_at dt_Ref_literal 9 rfl) rfl (lv_at hl 0 rfl) ?_
  refine va_get (D := D) (ci := 0) (v := .int s0) (C := "OutwardTapeModel") (T := T_Ref) (N := 20) hx hb hts in_Ref hown hK hP 0 rfl rfl 5 (by decide) (hts (Cond.fieldLink "OutwardTapeModel" 29 "OutwardTapeModel" "code" "I") (m_4 4 rfl rfl)) (fun _ h9 => h9) rfl (dt_at dt_Ref_literal 10 rfl) ?_
  refine lv_if_le (tgt := 27) hx hb (dt_at dt_Ref_literal 11 rfl) (by decide) (fun c1 => ?_) (fun c1 => ?_)
  · have h := if_p h c1
    refine lv_aload_n hx hb (dt_at dt_Ref_literal 14 rfl) rfl (lv_at hl 0 rfl) ?_
    refine lv_iconst (v := 0) hx hb (dt_at dt_Ref_literal 15 rfl) (by decide) ?_
    refine va_put (D := D) (ci := 0) (v := .int (0 : Int32)) (ty := .int) (C := "OutwardTapeModel") (T := T_Ref) (N := 20) hx hb hts in_Ref ty_Ref tk_Ref nm_Ref hown hK hP hD hS 0 rfl rfl 13 (by decide) (hts (Cond.fieldLink "OutwardTapeModel" 221 "OutwardTapeModel" "place" "I") (m_4 12 rfl rfl)) (fun _ h9 => h9) rfl (by decide +kernel) rfl rfl (Nat.le_of_ble_eq_true rfl) (dt_at dt_Ref_literal 16 rfl) (fun H locs hP hD hS => ?_)
    have hP : va_P D CLS (wR a q g0 g1 g2 g3 g4 s0 g6 g7 g8 g9 g10 g11 g12 (0 : Int32) g14 g15 g16 g17 g18 g19) H := hP
    have hD : va_D A (wR a q g0 g1 g2 g3 g4 s0 g6 g7 g8 g9 g10 g11 g12 (0 : Int32) g14 g15 g16 g17 g18 g19) := hD
    refine lv_aload_n hx hb (dt_at dt_Ref_literal 17 rfl) rfl (lv_at hl 0 rfl) ?_
    refine lv_bipush (v := 91) hx hb (dt_at dt_Ref_literal 18 rfl) (by decide) ?_
    obtain ⟨r2, h_r2, h⟩ := ob_of h
    have hF := va_free (wc := dR a) (dD (ws' := dR a) hD rfl) hS hA [0, 1, 2, 3, 4, 5, 6] rfl
    have hd : va_D (fun _ => True) (dR a) := (dD (ws' := dR a) hD rfl).weaken (fun _ _ _ _ => trivial)
    refine va_calli (va_runV (As := [.int (91 : Int32)]) (rest := []) ⟨hx, hb, hml, hown, hts⟩ (c_Ref_eat l D a q hd H.size (91 : Int32) g0 g1 g2 g3 g4 s0 g6 g7 g8 g9 g10 g11 g12 (0 : Int32) g14 g15 g16 g17 g18 g19 r2 h_r2) (cwV 1 hts (gd_V (m_5 11 rfl rfl) (m_5 13 rfl rfl) (m_s 50 rfl rfl) (m_1 4 rfl rfl) (m_5 14 rfl rfl)) rfl rfl rfl (by decide +kernel) ⟨Nat.le_of_ble_eq_true rfl, Nat.le_of_ble_eq_true rfl⟩) ⟨fun a U g mk q => ⟨q.1, q.2.1, q.2.2.1, va_K.moved (u := U) (U := U.calling g mk a) (Vm.Alike.refl U.vm) q.2.2.2⟩, va_recv hK hP (ci := 0) (q0 := 0) rfl rfl, fun U hU hW => ⟨rfl, by rw [hU], by rw [hU]; exact hP, va_K.moved hW.alike hK⟩⟩ rfl rfl hl.1 rfl (lv_room (Nat.le_of_ble_eq_true rfl)) (dt_at dt_Ref_literal 19 rfl) ⟨Nat.le_of_ble_eq_true rfl, Nat.le_of_ble_eq_true rfl⟩) hS (fun x _ h9 => hF x h9) hF (fun u_r2 uu t H locs ht hvm hw hB hz1 hk1 hS => ?_)
    rw [ht] at hB
    subst hw
    have hP : va_P D CLS (wR a q g0 g1 g2 g3 g4 s0 g6 g7 g8 g9 g10 g11 g12 r2.2 g14 g15 g16 g17 g18 g19) H := hB
    have hD : va_D A (wR a q g0 g1 g2 g3 g4 s0 g6 g7 g8 g9 g10 g11 g12 r2.2 g14 g15 g16 g17 g18 g19) := dD hD rfl
    refine lv_if_eq (tgt := 48) hx hb (dt_at dt_Ref_literal 20 rfl) (by decide) (fun c3 => ?_) (fun c3 => ?_)
    · have h := if_p h c3
      refine lv_iconst (v := -1) hx hb (dt_at dt_Ref_literal 24 rfl) (by decide) ?_
      exact k_Ref_literal_49 hC hA hK   (-1 : Int32) g0 g1 g2 g3 g4 s0 g8 g9 g10 g11 r2.2 g14 g15 g16 g17 g18 g19 H locs ls hP hD hS (lv_sub hl [0] rfl) h
    · have h := if_n h c3
      refine lv_aload_n hx hb (dt_at dt_Ref_literal 21 rfl) rfl (lv_at hl 0 rfl) ?_
      obtain ⟨r4, h_r4, h⟩ := ob_of h
      have hF := va_free (wc := dR a) (dD (ws' := dR a) hD rfl) hS hA [0, 1, 2, 3, 4, 5, 6] rfl
      have hd : va_D (fun _ => True) (dR a) := (dD (ws' := dR a) hD rfl).weaken (fun _ _ _ _ => trivial)
      refine va_calli (va_runV (As := []) (rest := []) ⟨hx, hb, hml, hown, hts⟩ (c_Ref_inside l D a q hd H.size  g0 g1 g2 g3 g4 s0 g6 g7 g8 g9 g10 g11 g12 r2.2 g14 g15 g16 g17 g18 g19 r4 h_r4) (cwV 0 hts (gd_V (m_5 19 rfl rfl) (m_5 21 rfl rfl) (m_s 52 rfl rfl) (m_1 4 rfl rfl) (m_5 22 rfl rfl)) rfl rfl rfl (by decide +kernel) ⟨Nat.le_of_ble_eq_true rfl, Nat.le_of_ble_eq_true rfl⟩) ⟨fun a U g mk q => ⟨q.1, q.2.1, q.2.2.1, va_K.moved (u := U) (U := U.calling g mk a) (Vm.Alike.refl U.vm) q.2.2.2⟩, va_recv hK hP (ci := 0) (q0 := 0) rfl rfl, fun U hU hW => ⟨rfl, by rw [hU], by rw [hU]; exact hP, va_K.moved hW.alike hK⟩⟩ rfl rfl hl.1 rfl (lv_room (Nat.le_of_ble_eq_true rfl)) (dt_at dt_Ref_literal 22 rfl) ⟨Nat.le_of_ble_eq_true rfl, Nat.le_of_ble_eq_true rfl⟩) hS (fun x _ h9 => hF x h9) hF (fun u_r4 uu t H locs ht hvm hw hB hz1 hk1 hS => ?_)
      rw [ht] at hB
      subst hw
      have hP : va_P D CLS (wR a q g0 g1 g2 g3 g4 s0 g6 g7 r4.2.1 r4.2.2.1 r4.2.2.2.1 r4.2.2.2.2.1 g12 r4.2.2.2.2.2.1 r4.2.2.2.2.2.2.1 r4.2.2.2.2.2.2.2.1 r4.2.2.2.2.2.2.2.2.1 r4.2.2.2.2.2.2.2.2.2.1 r4.2.2.2.2.2.2.2.2.2.2.1 r4.2.2.2.2.2.2.2.2.2.2.2) H := hB
      have hD : va_D A (wR a q g0 g1 g2 g3 g4 s0 g6 g7 r4.2.1 r4.2.2.1 r4.2.2.2.1 r4.2.2.2.2.1 g12 r4.2.2.2.2.2.1 r4.2.2.2.2.2.2.1 r4.2.2.2.2.2.2.2.1 r4.2.2.2.2.2.2.2.2.1 r4.2.2.2.2.2.2.2.2.2.1 r4.2.2.2.2.2.2.2.2.2.2.1 r4.2.2.2.2.2.2.2.2.2.2.2) := dD hD rfl
      refine lv_goto (tgt := 49) hx hb (dt_at dt_Ref_literal 23 rfl) (by decide) ?_
      exact k_Ref_literal_49 hC hA hK   r4.1 g0 g1 g2 g3 g4 s0 r4.2.1 r4.2.2.1 r4.2.2.2.1 r4.2.2.2.2.1 r4.2.2.2.2.2.1 r4.2.2.2.2.2.2.1 r4.2.2.2.2.2.2.2.1 r4.2.2.2.2.2.2.2.2.1 r4.2.2.2.2.2.2.2.2.2.1 r4.2.2.2.2.2.2.2.2.2.2.1 r4.2.2.2.2.2.2.2.2.2.2.2 H locs ls hP hD hS (lv_sub hl [0] rfl) h
  · have h := if_n h c1
    refine lv_iconst (v := 0) hx hb (dt_at dt_Ref_literal 12 rfl) (by decide) ?_
    obtain rfl := os_of h
    exact W.iret (v := (0 : Int32)) hx hb hr (fun t ht hW => ⟨⟨_, (), rfl, rfl, (hPt hP ht)⟩, hS.F ht⟩) hS.2.2 (dt_at dt_Ref_literal 13 rfl)
set_option maxRecDepth 100000 in
set_option maxHeartbeats 4000000 in
theorem k_Ref_literal_0 {p : Program} {l : Launch} {e : Env} {s : State} {m : MethodId} {args : Array Value} {below : List Frame} {meth : Method} {c : Code} {D : va_G} {a : Nat → Nat} {q : Nat → ClassId} {A : Nat → Prop} (hC : CX p s m args meth c prog_12_method_66_code 7 "OutwardTapeModel" (some .int)) (hA : ∀ x, s.heap.size ≤ x → A x) (hK : va_K D CLS (tR q) s) {g6 : Nat → Int32} {g7 : Int32} {g12 : Int32} {r0 : Int32 × Int32 × (Nat → Int32) × (Nat → Int64) × (Nat → Int64) × (Nat → Int32) × Int32 × (Nat → Int32) × Int32 × Int64 × Int64 × Int32 × Int32 × Int64 × Int32 × Int32 × Int64 × Int32} : ∀  (g0 : Int32) (g1 : Nat → Int32) (g2 : Nat → Int64) (g3 : Nat → Int64) (g4 : Nat → Int32) (g5 : Int32) (g8 : Nat → Int32) (g9 : Int32) (g10 : Int64) (g11 : Int64) (g13 : Int32) (g14 : Int32) (g15 : Int64) (g16 : Int32) (g17 : Int32) (g18 : Int64) (g19 : Int32) (H : Heap) (locs : List Loc) (ls : Array Slot), va_P D CLS (wR a q g0 g1 g2 g3 g4 g5 g6 g7 g8 g9 g10 g11 g12 g13 g14 g15 g16 g17 g18 g19) H → va_D A (wR a q g0 g1 g2 g3 g4 g5 g6 g7 g8 g9 g10 g11 g12 g13 g14 g15 g16 g17 g18 g19) → va_S A s.heap H locs → lv_has ls 7 [(0, .ref (a 0))] → f_Ref_literal_0  g0 g1 g2 g3 g4 g5 g6 g7 g8 g9 g10 g11 g13 g14 g15 g16 g17 g18 g19 = some r0 → W p l e rm_Ref_literal s m args below meth c H locs 0 0 (MQ below (va_Qi (fun (r : Int32) (_ : Unit) => r = r0.1) (fun _ t => va_P D CLS (wR a q r0.2.1 r0.2.2.1 r0.2.2.2.1 r0.2.2.2.2.1 r0.2.2.2.2.2.1 r0.2.2.2.2.2.2.1 g6 g7 r0.2.2.2.2.2.2.2.1 r0.2.2.2.2.2.2.2.2.1 r0.2.2.2.2.2.2.2.2.2.1 r0.2.2.2.2.2.2.2.2.2.2.1 g12 r0.2.2.2.2.2.2.2.2.2.2.2.1 r0.2.2.2.2.2.2.2.2.2.2.2.2.1 r0.2.2.2.2.2.2.2.2.2.2.2.2.2.1 r0.2.2.2.2.2.2.2.2.2.2.2.2.2.2.1 r0.2.2.2.2.2.2.2.2.2.2.2.2.2.2.2.1 r0.2.2.2.2.2.2.2.2.2.2.2.2.2.2.2.2.1 r0.2.2.2.2.2.2.2.2.2.2.2.2.2.2.2.2.2) t.heap) A) args s 0 0 A) (F0 m 0 ls []) := by
  obtain ⟨hx, hb, hml, hown, hts, hr, hlocks⟩ := id hC
  intro g0 g1 g2 g3 g4 g5 g8 g9 g10 g11 g13 g14 g15 g16 g17 g18 g19 H locs ls hP hD hS hl h
  rw [f_Ref_literal_0] at h
  refine lv_aload_n hx hb (dt_at dt_Ref_literal 0 rfl) rfl (lv_at hl 0 rfl) ?_
  refine lv_aload_n hx hb (dt_at dt_Ref_literal 1 rfl) rfl (lv_at hl 0 rfl) ?_
  refine va_get (D := D) (ci := 0) (v := .int g0) (C := "OutwardTapeModel") (T := T_Ref) (N := 20) hx hb hts in_Ref hown hK hP 0 rfl rfl 0 (by decide) (hts (Cond.fieldLink "OutwardTapeModel" 173 "OutwardTapeModel" "count" "I") (m_3 239 rfl rfl)) (fun _ h9 => h9) rfl (dt_at dt_Ref_literal 2 rfl) ?_
  refine lv_bipush (v := 40) hx hb (dt_at dt_Ref_literal 3 rfl) (by decide) ?_
  refine lv_icmp_ne (tgt := 14) hx hb (dt_at dt_Ref_literal 4 rfl) (by decide) (fun c1 => ?_) (fun c1 => ?_)
  · have h := if_n h c1
    refine lv_iconst (v := 0) hx hb (dt_at dt_Ref_literal 7 rfl) (by decide) ?_
    exact k_Ref_literal_15 hC hA hK   (0 : Int32) g0 g1 g2 g3 g4 g5 g8 g9 g10 g11 g13 g14 g15 g16 g17 g18 g19 H locs ls hP hD hS (lv_sub hl [0] rfl) h
  · have h := if_p h c1
    refine lv_iconst (v := 1) hx hb (dt_at dt_Ref_literal 5 rfl) (by decide) ?_
    refine lv_goto (tgt := 15) hx hb (dt_at dt_Ref_literal 6 rfl) (by decide) ?_
    exact k_Ref_literal_15 hC hA hK   (1 : Int32) g0 g1 g2 g3 g4 g5 g8 g9 g10 g11 g13 g14 g15 g16 g17 g18 g19 H locs ls hP hD hS (lv_sub hl [0] rfl) h
set_option maxRecDepth 100000 in
set_option maxHeartbeats 4000000 in
theorem c_Ref_literal (l : Launch) (D : va_G) (a : Nat → Nat) (q : Nat → ClassId) (hd : va_D (fun _ => True) (dR a)) (sz : Nat)  (g0 : Int32) (g1 : Nat → Int32) (g2 : Nat → Int64) (g3 : Nat → Int64) (g4 : Nat → Int32) (g5 : Int32) (g6 : Nat → Int32) (g7 : Int32) (g8 : Nat → Int32) (g9 : Int32) (g10 : Int64) (g11 : Int64) (g12 : Int32) (g13 : Int32) (g14 : Int32) (g15 : Int64) (g16 : Int32) (g17 : Int32) (g18 : Int64) (g19 : Int32) (r0 : Int32 × Int32 × (Nat → Int32) × (Nat → Int64) × (Nat → Int64) × (Nat → Int32) × Int32 × (Nat → Int32) × Int32 × Int64 × Int64 × Int32 × Int32 × Int64 × Int32 × Int32 × Int64 × Int32) (h : f_Ref_literal g0 g1 g2 g3 g4 g5 g6 g7 g8 g9 g10 g11 g13 g14 g15 g16 g17 g18 g19 = some r0) : Met l (⟨"OutwardTapeModel", "literal", "()I"⟩ : MethodName) (WSm (⟨"OutwardTapeModel", "literal", "()I"⟩ : MethodName) prog_12_method_66_code 7 (some .int)) rm_Ref_literal (va_Pc [.ref (a 0)] (fun U => U.heap.size = sz ∧ va_P D CLS (wR a q g0 g1 g2 g3 g4 g5 g6 g7 g8 g9 g10 g11 g12 g13 g14 g15 g16 g17 g18 g19) U.heap ∧ va_K D CLS (tR q) U)) (va_Qi (fun (r : Int32) (_ : Unit) => r = r0.1) (fun _ t => va_P D CLS (wR a q r0.2.1 r0.2.2.1 r0.2.2.2.1 r0.2.2.2.2.1 r0.2.2.2.2.2.1 r0.2.2.2.2.2.2.1 g6 g7 r0.2.2.2.2.2.2.2.1 r0.2.2.2.2.2.2.2.2.1 r0.2.2.2.2.2.2.2.2.2.1 r0.2.2.2.2.2.2.2.2.2.2.1 g12 r0.2.2.2.2.2.2.2.2.2.2.2.1 r0.2.2.2.2.2.2.2.2.2.2.2.2.1 r0.2.2.2.2.2.2.2.2.2.2.2.2.2.1 r0.2.2.2.2.2.2.2.2.2.2.2.2.2.2.1 r0.2.2.2.2.2.2.2.2.2.2.2.2.2.2.2.1 r0.2.2.2.2.2.2.2.2.2.2.2.2.2.2.2.2.1 r0.2.2.2.2.2.2.2.2.2.2.2.2.2.2.2.2.2) t.heap) (va_A (dR a) sz)) 0 0 (va_A (dR a) sz) := by
  refine Met.ofW (cc := prog_12_method_66_code) (maxL := 7) (ret := (some .int)) (by decide) rfl ?_
  intro p e s m args below meth c s₁ B hml hv
  obtain ⟨rfl, hsz, hP, hK⟩ := hv
  subst hsz
  have hC := CX.of B hml rfl
  have hl := lv_entry [.ref (a 0)] (n := 7) (Nat.le_of_ble_eq_true rfl)
  rw [lg_entry_eq]
  generalize (lg_sl [.ref (a 0)] ++ List.replicate (7 - (lg_sl [.ref (a 0)]).length) Slot.unset).toArray = ls at hl ⊢
  have hl : lv_has ls 7 [(0, .ref (a 0))] := hl
  exact k_Ref_literal_0 hC (fun x h => Or.inr h) hK  g0 g1 g2 g3 g4 g5 g8 g9 g10 g11 g13 g14 g15 g16 g17 g18 g19 s.heap [] ls hP (dD hd.self rfl) va_S.rf (lv_sub hl [0] rfl) h
abbrev rm_Ref_filled : Room := { frames := 0, cells := 0, slots := 0, locals := 0 }
set_option maxRecDepth 100000 in
set_option maxHeartbeats 4000000 in
theorem k_Ref_filled_0 {p : Program} {l : Launch} {e : Env} {s : State} {m : MethodId} {args : Array Value} {below : List Frame} {meth : Method} {c : Code} {D : va_G} {a : Nat → Nat} {q : Nat → ClassId} {A : Nat → Prop} (hC : CX p s m args meth c prog_12_method_67_code 1 "OutwardTapeModel" (some .int)) (hA : ∀ x, s.heap.size ≤ x → A x) (hK : va_K D CLS (tR q) s) {g0 : Int32} {g1 : Nat → Int32} {g2 : Nat → Int64} {g3 : Nat → Int64} {g4 : Nat → Int32} {g6 : Nat → Int32} {g7 : Int32} {g8 : Nat → Int32} {g9 : Int32} {g10 : Int64} {g11 : Int64} {g12 : Int32} {g13 : Int32} {g14 : Int32} {g15 : Int64} {g16 : Int32} {g17 : Int32} {g18 : Int64} {g19 : Int32} {r0 : Int32 × Int32} : ∀  (g5 : Int32) (H : Heap) (locs : List Loc) (ls : Array Slot), va_P D CLS (wR a q g0 g1 g2 g3 g4 g5 g6 g7 g8 g9 g10 g11 g12 g13 g14 g15 g16 g17 g18 g19) H → va_D A (wR a q g0 g1 g2 g3 g4 g5 g6 g7 g8 g9 g10 g11 g12 g13 g14 g15 g16 g17 g18 g19) → va_S A s.heap H locs → lv_has ls 1 [(0, .ref (a 0))] → f_Ref_filled_0  g0 g5 = some r0 → W p l e rm_Ref_filled s m args below meth c H locs 0 0 (MQ below (va_Qi (fun (r : Int32) (_ : Unit) => r = r0.1) (fun _ t => va_P D CLS (wR a q g0 g1 g2 g3 g4 r0.2 g6 g7 g8 g9 g10 g11 g12 g13 g14 g15 g16 g17 g18 g19) t.heap) A) args s 0 0 A) (F0 m 0 ls []) := by
  obtain ⟨hx, hb, hml, hown, hts, hr, hlocks⟩ := id hC
  intro g5 H locs ls hP hD hS hl h
  rw [f_Ref_filled_0] at h
  refine lv_aload_n hx hb (dt_at dt_Ref_filled 0 rfl) rfl (lv_at hl 0 rfl) ?_
  refine lv_iconst (v := 0) hx hb (dt_at dt_Ref_filled 1 rfl) (by decide) ?_
  refine va_put (D := D) (ci := 0) (v := .int (0 : Int32)) (ty := .int) (C := "OutwardTapeModel") (T := T_Ref) (N := 20) hx hb hts in_Ref ty_Ref tk_Ref nm_Ref hown hK hP hD hS 0 rfl rfl 5 (by decide) (hts (Cond.fieldLink "OutwardTapeModel" 29 "OutwardTapeModel" "code" "I") (m_4 4 rfl rfl)) (fun _ h9 => h9) rfl (by decide +kernel) rfl rfl (Nat.le_of_ble_eq_true rfl) (dt_at dt_Ref_filled 2 rfl) (fun H locs hP hD hS => ?_)
  have hP : va_P D CLS (wR a q g0 g1 g2 g3 g4 (0 : Int32) g6 g7 g8 g9 g10 g11 g12 g13 g14 g15 g16 g17 g18 g19) H := hP
  have hD : va_D A (wR a q g0 g1 g2 g3 g4 (0 : Int32) g6 g7 g8 g9 g10 g11 g12 g13 g14 g15 g16 g17 g18 g19) := hD
  refine lv_aload_n hx hb (dt_at dt_Ref_filled 3 rfl) rfl (lv_at hl 0 rfl) ?_
  refine va_get (D := D) (ci := 0) (v := .int g0) (C := "OutwardTapeModel") (T := T_Ref) (N := 20) hx hb hts in_Ref hown hK hP 0 rfl rfl 0 (by decide) (hts (Cond.fieldLink "OutwardTapeModel" 173 "OutwardTapeModel" "count" "I") (m_3 239 rfl rfl)) (fun _ h9 => h9) rfl (dt_at dt_Ref_filled 4 rfl) ?_
  obtain rfl := os_of h
  exact W.iret (v := g0) hx hb hr (fun t ht hW => ⟨⟨_, (), rfl, rfl, (hPt hP ht)⟩, hS.F ht⟩) hS.2.2 (dt_at dt_Ref_filled 5 rfl)
set_option maxRecDepth 100000 in
set_option maxHeartbeats 4000000 in
theorem c_Ref_filled (l : Launch) (D : va_G) (a : Nat → Nat) (q : Nat → ClassId) (hd : va_D (fun _ => True) (dR a)) (sz : Nat)  (g0 : Int32) (g1 : Nat → Int32) (g2 : Nat → Int64) (g3 : Nat → Int64) (g4 : Nat → Int32) (g5 : Int32) (g6 : Nat → Int32) (g7 : Int32) (g8 : Nat → Int32) (g9 : Int32) (g10 : Int64) (g11 : Int64) (g12 : Int32) (g13 : Int32) (g14 : Int32) (g15 : Int64) (g16 : Int32) (g17 : Int32) (g18 : Int64) (g19 : Int32) (r0 : Int32 × Int32) (h : f_Ref_filled g0 g5 = some r0) : Met l (⟨"OutwardTapeModel", "filled", "()I"⟩ : MethodName) (WSm (⟨"OutwardTapeModel", "filled", "()I"⟩ : MethodName) prog_12_method_67_code 1 (some .int)) rm_Ref_filled (va_Pc [.ref (a 0)] (fun U => U.heap.size = sz ∧ va_P D CLS (wR a q g0 g1 g2 g3 g4 g5 g6 g7 g8 g9 g10 g11 g12 g13 g14 g15 g16 g17 g18 g19) U.heap ∧ va_K D CLS (tR q) U)) (va_Qi (fun (r : Int32) (_ : Unit) => r = r0.1) (fun _ t => va_P D CLS (wR a q g0 g1 g2 g3 g4 r0.2 g6 g7 g8 g9 g10 g11 g12 g13 g14 g15 g16 g17 g18 g19) t.heap) (va_A (dR a) sz)) 0 0 (va_A (dR a) sz) := by
  refine Met.ofW (cc := prog_12_method_67_code) (maxL := 1) (ret := (some .int)) (by decide) rfl ?_
  intro p e s m args below meth c s₁ B hml hv
  obtain ⟨rfl, hsz, hP, hK⟩ := hv
  subst hsz
  have hC := CX.of B hml rfl
  have hl := lv_entry [.ref (a 0)] (n := 1) (Nat.le_of_ble_eq_true rfl)
  rw [lg_entry_eq]
  generalize (lg_sl [.ref (a 0)] ++ List.replicate (1 - (lg_sl [.ref (a 0)]).length) Slot.unset).toArray = ls at hl ⊢
  have hl : lv_has ls 1 [(0, .ref (a 0))] := hl
  exact k_Ref_filled_0 hC (fun x h => Or.inr h) hK  g5 s.heap [] ls hP (dD hd.self rfl) va_S.rf (lv_sub hl [0] rfl) h
abbrev rm_Ref_decoration : Room := { frames := 1, cells := 0, slots := 0, locals := 21 }
set_option maxRecDepth 100000 in
set_option maxHeartbeats 4000000 in
theorem k_Ref_decoration_35 {p : Program} {l : Launch} {e : Env} {s : State} {m : MethodId} {args : Array Value} {below : List Frame} {meth : Method} {c : Code} {D : va_G} {a : Nat → Nat} {q : Nat → ClassId} {A : Nat → Prop} (hC : CX p s m args meth c prog_12_method_68_code 2 "OutwardTapeModel" (some .int)) (hA : ∀ x, s.heap.size ≤ x → A x) (hK : va_K D CLS (tR q) s) {g0 : Int32} {g1 : Nat → Int32} {g2 : Nat → Int64} {g3 : Nat → Int64} {g4 : Nat → Int32} {g6 : Nat → Int32} {g7 : Int32} {g8 : Nat → Int32} {g9 : Int32} {g10 : Int64} {g11 : Int64} {g12 : Int32} {g13 : Int32} {g14 : Int32} {g15 : Int64} {g16 : Int32} {g17 : Int32} {g18 : Int64} {g19 : Int32} {r0 : Int32 × Int32} : ∀ (s0 : Int32) (g5 : Int32) (H : Heap) (locs : List Loc) (ls : Array Slot), va_P D CLS (wR a q g0 g1 g2 g3 g4 g5 g6 g7 g8 g9 g10 g11 g12 g13 g14 g15 g16 g17 g18 g19) H → va_D A (wR a q g0 g1 g2 g3 g4 g5 g6 g7 g8 g9 g10 g11 g12 g13 g14 g15 g16 g17 g18 g19) → va_S A s.heap H locs → lv_has ls 2 [] → f_Ref_decoration_35  s0 g0 g4 g5 = some r0 → W p l e rm_Ref_decoration s m args below meth c H locs 0 0 (MQ below (va_Qi (fun (r : Int32) (_ : Unit) => r = r0.1) (fun _ t => va_P D CLS (wR a q g0 g1 g2 g3 g4 r0.2 g6 g7 g8 g9 g10 g11 g12 g13 g14 g15 g16 g17 g18 g19) t.heap) A) args s 0 0 A) (F0 m 35 ls [.int s0]) := by
  obtain ⟨hx, hb, hml, hown, hts, hr, hlocks⟩ := id hC
  intro s0 g5 H locs ls hP hD hS hl h
  rw [f_Ref_decoration_35] at h
  obtain rfl := os_of h
  exact W.iret (v := s0) hx hb hr (fun t ht hW => ⟨⟨_, (), rfl, rfl, (hPt hP ht)⟩, hS.F ht⟩) hS.2.2 (dt_at dt_Ref_decoration 19 rfl)
set_option maxRecDepth 100000 in
set_option maxHeartbeats 4000000 in
theorem k_Ref_decoration_14 {p : Program} {l : Launch} {e : Env} {s : State} {m : MethodId} {args : Array Value} {below : List Frame} {meth : Method} {c : Code} {D : va_G} {a : Nat → Nat} {q : Nat → ClassId} {A : Nat → Prop} (hC : CX p s m args meth c prog_12_method_68_code 2 "OutwardTapeModel" (some .int)) (hA : ∀ x, s.heap.size ≤ x → A x) (hK : va_K D CLS (tR q) s) {g0 : Int32} {g1 : Nat → Int32} {g2 : Nat → Int64} {g3 : Nat → Int64} {g4 : Nat → Int32} {g6 : Nat → Int32} {g7 : Int32} {g8 : Nat → Int32} {g9 : Int32} {g10 : Int64} {g11 : Int64} {g12 : Int32} {g13 : Int32} {g14 : Int32} {g15 : Int64} {g16 : Int32} {g17 : Int32} {g18 : Int64} {g19 : Int32} {r0 : Int32 × Int32} : ∀ (s0 : Int32) (v1 : Int32) (g5 : Int32) (H : Heap) (locs : List Loc) (ls : Array Slot), va_P D CLS (wR a q g0 g1 g2 g3 g4 g5 g6 g7 g8 g9 g10 g11 g12 g13 g14 g15 g16 g17 g18 g19) H → va_D A (wR a q g0 g1 g2 g3 g4 g5 g6 g7 g8 g9 g10 g11 g12 g13 g14 g15 g16 g17 g18 g19) → va_S A s.heap H locs → lv_has ls 2 [(0, .ref (a 0)), (1, .int v1)] → f_Ref_decoration_14  s0 v1 g0 g4 g5 = some r0 → W p l e rm_Ref_decoration s m args below meth c H locs 0 0 (MQ below (va_Qi (fun (r : Int32) (_ : Unit) => r = r0.1) (fun _ t => va_P D CLS (wR a q g0 g1 g2 g3 g4 r0.2 g6 g7 g8 g9 g10 g11 g12 g13 g14 g15 g16 g17 g18 g19) t.heap) A) args s 0 0 A) (F0 m 14 ls [.int s0, .ref (a 0)]) := by
  obtain ⟨hx, hb, hml, hown, hts, hr, hlocks⟩ := id hC
  intro s0 v1 g5 H locs ls hP hD hS hl h
  rw [f_Ref_decoration_14] at h
  refine va_put (D := D) (ci := 0) (v := .int s0) (ty := .int) (C := "OutwardTapeModel") (T := T_Ref) (N := 20) hx hb hts in_Ref ty_Ref tk_Ref nm_Ref hown hK hP hD hS 0 rfl rfl 5 (by decide) (hts (Cond.fieldLink "OutwardTapeModel" 29 "OutwardTapeModel" "code" "I") (m_4 4 rfl rfl)) (fun _ h9 => h9) rfl (by decide +kernel) rfl rfl (Nat.le_of_ble_eq_true rfl) (dt_at dt_Ref_decoration 8 rfl) (fun H locs hP hD hS => ?_)
  have hP : va_P D CLS (wR a q g0 g1 g2 g3 g4 s0 g6 g7 g8 g9 g10 g11 g12 g13 g14 g15 g16 g17 g18 g19) H := hP
  have hD : va_D A (wR a q g0 g1 g2 g3 g4 s0 g6 g7 g8 g9 g10 g11 g12 g13 g14 g15 g16 g17 g18 g19) := hD
  refine lv_aload_n hx hb (dt_at dt_Ref_decoration 9 rfl) rfl (lv_at hl 0 rfl) ?_
  refine lv_iload_n hx hb (dt_at dt_Ref_decoration 10 rfl) rfl (lv_at hl 1 rfl) ?_
  obtain ⟨r1, h_r1, h⟩ := ob_of h
  have hF := va_free (wc := dR a) (dD (ws' := dR a) hD rfl) hS hA [0, 1, 2, 3, 4, 5, 6] rfl
  have hd : va_D (fun _ => True) (dR a) := (dD (ws' := dR a) hD rfl).weaken (fun _ _ _ _ => trivial)
  refine va_calli (va_runV (As := [.int v1]) (rest := []) ⟨hx, hb, hml, hown, hts⟩ (c_Ref_there l D a q hd H.size v1 g0 g1 g2 g3 g4 s0 g6 g7 g8 g9 g10 g11 g12 g13 g14 g15 g16 g17 g18 g19 r1 h_r1) (cwV 1 hts (gd_V (m_4 96 rfl rfl) (m_4 98 rfl rfl) (m_s 24 rfl rfl) (m_1 4 rfl rfl) (m_4 99 rfl rfl)) rfl rfl rfl (by decide +kernel) ⟨Nat.le_of_ble_eq_true rfl, Nat.le_of_ble_eq_true rfl⟩) ⟨fun a U g mk q => ⟨q.1, q.2.1, q.2.2.1, va_K.moved (u := U) (U := U.calling g mk a) (Vm.Alike.refl U.vm) q.2.2.2⟩, va_recv hK hP (ci := 0) (q0 := 0) rfl rfl, fun U hU hW => ⟨rfl, by rw [hU], by rw [hU]; exact hP, va_K.moved hW.alike hK⟩⟩ rfl rfl hl.1 rfl (lv_room (Nat.le_of_ble_eq_true rfl)) (dt_at dt_Ref_decoration 11 rfl) ⟨Nat.le_of_ble_eq_true rfl, Nat.le_of_ble_eq_true rfl⟩) hS (fun x _ h9 => hF x h9) hF (fun u_r1 uu t H locs ht hvm hw hB hz1 hk1 hS => ?_)
  rw [ht] at hB
  obtain rfl : r1 = u_r1 := hw.symm
  have hP : va_P D CLS (wR a q g0 g1 g2 g3 g4 s0 g6 g7 g8 g9 g10 g11 g12 g13 g14 g15 g16 g17 g18 g19) H := hB
  have hD : va_D A (wR a q g0 g1 g2 g3 g4 s0 g6 g7 g8 g9 g10 g11 g12 g13 g14 g15 g16 g17 g18 g19) := dD hD rfl
  refine lv_if_eq (tgt := 34) hx hb (dt_at dt_Ref_decoration 12 rfl) (by decide) (fun c2 => ?_) (fun c2 => ?_)
  · have h := if_p h c2
    refine lv_iconst (v := 0) hx hb (dt_at dt_Ref_decoration 18 rfl) (by decide) ?_
    exact k_Ref_decoration_35 hC hA hK   (0 : Int32) s0 H locs ls hP hD hS (lv_sub hl [] rfl) h
  · have h := if_n h c2
    refine lv_aload_n hx hb (dt_at dt_Ref_decoration 13 rfl) rfl (lv_at hl 0 rfl) ?_
    refine va_get (D := D) (ci := 0) (v := .ref (a 4)) (C := "OutwardTapeModel") (T := T_Ref) (N := 20) hx hb hts in_Ref hown hK hP 0 rfl rfl 4 (by decide) (hts (Cond.fieldLink "OutwardTapeModel" 20 "OutwardTapeModel" "mark" "[I") (m_4 3 rfl rfl)) (fun _ h9 => h9) rfl (dt_at dt_Ref_decoration 14 rfl) ?_
    refine lv_iload_n hx hb (dt_at dt_Ref_decoration 15 rfl) rfl (lv_at hl 1 rfl) ?_
    obtain ⟨z3, h⟩ := og_of h
    refine va_iald hx hb hK hP 4 3 rfl rfl z3 (dt_at dt_Ref_decoration 16 rfl) ?_
    refine lv_goto (tgt := 35) hx hb (dt_at dt_Ref_decoration 17 rfl) (by decide) ?_
    exact k_Ref_decoration_35 hC hA hK   (g4 v1.toNatClampNeg) s0 H locs ls hP hD hS (lv_sub hl [] rfl) h
set_option maxRecDepth 100000 in
set_option maxHeartbeats 4000000 in
theorem k_Ref_decoration_0 {p : Program} {l : Launch} {e : Env} {s : State} {m : MethodId} {args : Array Value} {below : List Frame} {meth : Method} {c : Code} {D : va_G} {a : Nat → Nat} {q : Nat → ClassId} {A : Nat → Prop} (hC : CX p s m args meth c prog_12_method_68_code 2 "OutwardTapeModel" (some .int)) (hA : ∀ x, s.heap.size ≤ x → A x) (hK : va_K D CLS (tR q) s) {g0 : Int32} {g1 : Nat → Int32} {g2 : Nat → Int64} {g3 : Nat → Int64} {g4 : Nat → Int32} {g6 : Nat → Int32} {g7 : Int32} {g8 : Nat → Int32} {g9 : Int32} {g10 : Int64} {g11 : Int64} {g12 : Int32} {g13 : Int32} {g14 : Int32} {g15 : Int64} {g16 : Int32} {g17 : Int32} {g18 : Int64} {g19 : Int32} {r0 : Int32 × Int32} : ∀ (v1 : Int32) (g5 : Int32) (H : Heap) (locs : List Loc) (ls : Array Slot), va_P D CLS (wR a q g0 g1 g2 g3 g4 g5 g6 g7 g8 g9 g10 g11 g12 g13 g14 g15 g16 g17 g18 g19) H → va_D A (wR a q g0 g1 g2 g3 g4 g5 g6 g7 g8 g9 g10 g11 g12 g13 g14 g15 g16 g17 g18 g19) → va_S A s.heap H locs → lv_has ls 2 [(0, .ref (a 0)), (1, .int v1)] → f_Ref_decoration_0  v1 g0 g4 g5 = some r0 → W p l e rm_Ref_decoration s m args below meth c H locs 0 0 (MQ below (va_Qi (fun (r : Int32) (_ : Unit) => r = r0.1) (fun _ t => va_P D CLS (wR a q g0 g1 g2 g3 g4 r0.2 g6 g7 g8 g9 g10 g11 g12 g13 g14 g15 g16 g17 g18 g19) t.heap) A) args s 0 0 A) (F0 m 0 ls []) := by
  obtain ⟨hx, hb, hml, hown, hts, hr, hlocks⟩ := id hC
  intro v1 g5 H locs ls hP hD hS hl h
  rw [f_Ref_decoration_0] at h
  refine lv_aload_n hx hb (dt_at dt_Ref_decoration 0 rfl) rfl (lv_at hl 0 rfl) ?_
  refine lv_aload_n hx hb (dt_at dt_Ref_decoration 1 rfl) rfl (lv_at hl 0 rfl) ?_
  refine lv_iload_n hx hb (dt_at dt_Ref_decoration 2 rfl) rfl (lv_at hl 1 rfl) ?_
  obtain ⟨r1, h_r1, h⟩ := ob_of h
  have hF := va_free (wc := dR a) (dD (ws' := dR a) hD rfl) hS hA [0, 1, 2, 3, 4, 5, 6] rfl
  have hd : va_D (fun _ => True) (dR a) := (dD (ws' := dR a) hD rfl).weaken (fun _ _ _ _ => trivial)
  refine va_calli (va_runV (As := [.int v1]) (rest := [.ref (a 0)]) ⟨hx, hb, hml, hown, hts⟩ (c_Ref_there l D a q hd H.size v1 g0 g1 g2 g3 g4 g5 g6 g7 g8 g9 g10 g11 g12 g13 g14 g15 g16 g17 g18 g19 r1 h_r1) (cwV 1 hts (gd_V (m_4 96 rfl rfl) (m_4 98 rfl rfl) (m_s 24 rfl rfl) (m_1 4 rfl rfl) (m_4 99 rfl rfl)) rfl rfl rfl (by decide +kernel) ⟨Nat.le_of_ble_eq_true rfl, Nat.le_of_ble_eq_true rfl⟩) ⟨fun a U g mk q => ⟨q.1, q.2.1, q.2.2.1, va_K.moved (u := U) (U := U.calling g mk a) (Vm.Alike.refl U.vm) q.2.2.2⟩, va_recv hK hP (ci := 0) (q0 := 0) rfl rfl, fun U hU hW => ⟨rfl, by rw [hU], by rw [hU]; exact hP, va_K.moved hW.alike hK⟩⟩ rfl rfl hl.1 rfl (lv_room (Nat.le_of_ble_eq_true rfl)) (dt_at dt_Ref_decoration 3 rfl) ⟨Nat.le_of_ble_eq_true rfl, Nat.le_of_ble_eq_true rfl⟩) hS (fun x _ h9 => hF x h9) hF (fun u_r1 uu t H locs ht hvm hw hB hz1 hk1 hS => ?_)
  rw [ht] at hB
  obtain rfl : r1 = u_r1 := hw.symm
  have hP : va_P D CLS (wR a q g0 g1 g2 g3 g4 g5 g6 g7 g8 g9 g10 g11 g12 g13 g14 g15 g16 g17 g18 g19) H := hB
  have hD : va_D A (wR a q g0 g1 g2 g3 g4 g5 g6 g7 g8 g9 g10 g11 g12 g13 g14 g15 g16 g17 g18 g19) := dD hD rfl
  refine lv_if_eq (tgt := 13) hx hb (dt_at dt_Ref_decoration 4 rfl) (by decide) (fun c2 => ?_) (fun c2 => ?_)
  · have h := if_p h c2
    refine lv_iconst (v := 1) hx hb (dt_at dt_Ref_decoration 7 rfl) (by decide) ?_
    exact k_Ref_decoration_14 hC hA hK   (1 : Int32) v1 g5 H locs ls hP hD hS (lv_sub hl [0, 1] rfl) h
  · have h := if_n h c2
    refine lv_iconst (v := 0) hx hb (dt_at dt_Ref_decoration 5 rfl) (by decide) ?_
    refine lv_goto (tgt := 14) hx hb (dt_at dt_Ref_decoration 6 rfl) (by decide) ?_
    exact k_Ref_decoration_14 hC hA hK   (0 : Int32) v1 g5 H locs ls hP hD hS (lv_sub hl [0, 1] rfl) h
set_option maxRecDepth 100000 in
set_option maxHeartbeats 4000000 in
theorem c_Ref_decoration (l : Launch) (D : va_G) (a : Nat → Nat) (q : Nat → ClassId) (hd : va_D (fun _ => True) (dR a)) (sz : Nat) (a1 : Int32) (g0 : Int32) (g1 : Nat → Int32) (g2 : Nat → Int64) (g3 : Nat → Int64) (g4 : Nat → Int32) (g5 : Int32) (g6 : Nat → Int32) (g7 : Int32) (g8 : Nat → Int32) (g9 : Int32) (g10 : Int64) (g11 : Int64) (g12 : Int32) (g13 : Int32) (g14 : Int32) (g15 : Int64) (g16 : Int32) (g17 : Int32) (g18 : Int64) (g19 : Int32) (r0 : Int32 × Int32) (h : f_Ref_decoration a1 g0 g4 g5 = some r0) : Met l (⟨"OutwardTapeModel", "decoration", "(I)I"⟩ : MethodName) (WSm (⟨"OutwardTapeModel", "decoration", "(I)I"⟩ : MethodName) prog_12_method_68_code 2 (some .int)) rm_Ref_decoration (va_Pc [.ref (a 0), .int a1] (fun U => U.heap.size = sz ∧ va_P D CLS (wR a q g0 g1 g2 g3 g4 g5 g6 g7 g8 g9 g10 g11 g12 g13 g14 g15 g16 g17 g18 g19) U.heap ∧ va_K D CLS (tR q) U)) (va_Qi (fun (r : Int32) (_ : Unit) => r = r0.1) (fun _ t => va_P D CLS (wR a q g0 g1 g2 g3 g4 r0.2 g6 g7 g8 g9 g10 g11 g12 g13 g14 g15 g16 g17 g18 g19) t.heap) (va_A (dR a) sz)) 0 0 (va_A (dR a) sz) := by
  refine Met.ofW (cc := prog_12_method_68_code) (maxL := 2) (ret := (some .int)) (by decide) rfl ?_
  intro p e s m args below meth c s₁ B hml hv
  obtain ⟨rfl, hsz, hP, hK⟩ := hv
  subst hsz
  have hC := CX.of B hml rfl
  have hl := lv_entry [.ref (a 0), .int a1] (n := 2) (Nat.le_of_ble_eq_true rfl)
  rw [lg_entry_eq]
  generalize (lg_sl [.ref (a 0), .int a1] ++ List.replicate (2 - (lg_sl [.ref (a 0), .int a1]).length) Slot.unset).toArray = ls at hl ⊢
  have hl : lv_has ls 2 [(0, .ref (a 0)), (1, .int a1)] := hl
  exact k_Ref_decoration_0 hC (fun x h => Or.inr h) hK a1 g5 s.heap [] ls hP (dD hd.self rfl) va_S.rf (lv_sub hl [0, 1] rfl) h
abbrev rm_Ref_isEmpty : Room := { frames := 1, cells := 0, slots := 0, locals := 21 }
set_option maxRecDepth 100000 in
set_option maxHeartbeats 4000000 in
theorem k_Ref_isEmpty_28 {p : Program} {l : Launch} {e : Env} {s : State} {m : MethodId} {args : Array Value} {below : List Frame} {meth : Method} {c : Code} {D : va_G} {a : Nat → Nat} {q : Nat → ClassId} {A : Nat → Prop} (hC : CX p s m args meth c prog_12_method_69_code 2 "OutwardTapeModel" (some .boolean)) (hA : ∀ x, s.heap.size ≤ x → A x) (hK : va_K D CLS (tR q) s) {g0 : Int32} {g1 : Nat → Int32} {g2 : Nat → Int64} {g3 : Nat → Int64} {g4 : Nat → Int32} {g6 : Nat → Int32} {g7 : Int32} {g8 : Nat → Int32} {g9 : Int32} {g10 : Int64} {g11 : Int64} {g12 : Int32} {g13 : Int32} {g14 : Int32} {g15 : Int64} {g16 : Int32} {g17 : Int32} {g18 : Int64} {g19 : Int32} {r0 : Int32 × Int32} : ∀ (s0 : Int32) (g5 : Int32) (H : Heap) (locs : List Loc) (ls : Array Slot), va_P D CLS (wR a q g0 g1 g2 g3 g4 g5 g6 g7 g8 g9 g10 g11 g12 g13 g14 g15 g16 g17 g18 g19) H → va_D A (wR a q g0 g1 g2 g3 g4 g5 g6 g7 g8 g9 g10 g11 g12 g13 g14 g15 g16 g17 g18 g19) → va_S A s.heap H locs → lv_has ls 2 [] → f_Ref_isEmpty_28  s0 g0 g1 g5 = some r0 → W p l e rm_Ref_isEmpty s m args below meth c H locs 0 0 (MQ below (va_Qi (fun (r : Int32) (_ : Unit) => r = r0.1) (fun _ t => va_P D CLS (wR a q g0 g1 g2 g3 g4 r0.2 g6 g7 g8 g9 g10 g11 g12 g13 g14 g15 g16 g17 g18 g19) t.heap) A) args s 0 0 A) (F0 m 28 ls [.int s0]) := by
  obtain ⟨hx, hb, hml, hown, hts, hr, hlocks⟩ := id hC
  intro s0 g5 H locs ls hP hD hS hl h
  rw [f_Ref_isEmpty_28] at h
  obtain ⟨hz, h⟩ := og_of h
  obtain rfl := os_of h
  exact W.zret (v := s0) (ty := .boolean) hx hb hr (j_z_nar hz) (fun t ht hW => ⟨⟨_, (), rfl, rfl, (hPt hP ht)⟩, hS.F ht⟩) hS.2.2 (dt_at dt_Ref_isEmpty 16 rfl)
set_option maxRecDepth 100000 in
set_option maxHeartbeats 4000000 in
theorem k_Ref_isEmpty_27 {p : Program} {l : Launch} {e : Env} {s : State} {m : MethodId} {args : Array Value} {below : List Frame} {meth : Method} {c : Code} {D : va_G} {a : Nat → Nat} {q : Nat → ClassId} {A : Nat → Prop} (hC : CX p s m args meth c prog_12_method_69_code 2 "OutwardTapeModel" (some .boolean)) (hA : ∀ x, s.heap.size ≤ x → A x) (hK : va_K D CLS (tR q) s) {g0 : Int32} {g1 : Nat → Int32} {g2 : Nat → Int64} {g3 : Nat → Int64} {g4 : Nat → Int32} {g6 : Nat → Int32} {g7 : Int32} {g8 : Nat → Int32} {g9 : Int32} {g10 : Int64} {g11 : Int64} {g12 : Int32} {g13 : Int32} {g14 : Int32} {g15 : Int64} {g16 : Int32} {g17 : Int32} {g18 : Int64} {g19 : Int32} {r0 : Int32 × Int32} : ∀  (g5 : Int32) (H : Heap) (locs : List Loc) (ls : Array Slot), va_P D CLS (wR a q g0 g1 g2 g3 g4 g5 g6 g7 g8 g9 g10 g11 g12 g13 g14 g15 g16 g17 g18 g19) H → va_D A (wR a q g0 g1 g2 g3 g4 g5 g6 g7 g8 g9 g10 g11 g12 g13 g14 g15 g16 g17 g18 g19) → va_S A s.heap H locs → lv_has ls 2 [] → f_Ref_isEmpty_27  g0 g1 g5 = some r0 → W p l e rm_Ref_isEmpty s m args below meth c H locs 0 0 (MQ below (va_Qi (fun (r : Int32) (_ : Unit) => r = r0.1) (fun _ t => va_P D CLS (wR a q g0 g1 g2 g3 g4 r0.2 g6 g7 g8 g9 g10 g11 g12 g13 g14 g15 g16 g17 g18 g19) t.heap) A) args s 0 0 A) (F0 m 27 ls []) := by
  obtain ⟨hx, hb, hml, hown, hts, hr, hlocks⟩ := id hC
  intro g5 H locs ls hP hD hS hl h
  rw [f_Ref_isEmpty_27] at h
  refine lv_iconst (v := 0) hx hb (dt_at dt_Ref_isEmpty 15 rfl) (by decide) ?_
  exact k_Ref_isEmpty_28 hC hA hK   (0 : Int32) g5 H locs ls hP hD hS (lv_sub hl [] rfl) h
set_option maxRecDepth 100000 in
set_option maxHeartbeats 4000000 in
theorem k_Ref_isEmpty_0 {p : Program} {l : Launch} {e : Env} {s : State} {m : MethodId} {args : Array Value} {below : List Frame} {meth : Method} {c : Code} {D : va_G} {a : Nat → Nat} {q : Nat → ClassId} {A : Nat → Prop} (hC : CX p s m args meth c prog_12_method_69_code 2 "OutwardTapeModel" (some .boolean)) (hA : ∀ x, s.heap.size ≤ x → A x) (hK : va_K D CLS (tR q) s) {g0 : Int32} {g1 : Nat → Int32} {g2 : Nat → Int64} {g3 : Nat → Int64} {g4 : Nat → Int32} {g6 : Nat → Int32} {g7 : Int32} {g8 : Nat → Int32} {g9 : Int32} {g10 : Int64} {g11 : Int64} {g12 : Int32} {g13 : Int32} {g14 : Int32} {g15 : Int64} {g16 : Int32} {g17 : Int32} {g18 : Int64} {g19 : Int32} {r0 : Int32 × Int32} : ∀ (v1 : Int32) (g5 : Int32) (H : Heap) (locs : List Loc) (ls : Array Slot), va_P D CLS (wR a q g0 g1 g2 g3 g4 g5 g6 g7 g8 g9 g10 g11 g12 g13 g14 g15 g16 g17 g18 g19) H → va_D A (wR a q g0 g1 g2 g3 g4 g5 g6 g7 g8 g9 g10 g11 g12 g13 g14 g15 g16 g17 g18 g19) → va_S A s.heap H locs → lv_has ls 2 [(0, .ref (a 0)), (1, .int v1)] → f_Ref_isEmpty_0  v1 g0 g1 g5 = some r0 → W p l e rm_Ref_isEmpty s m args below meth c H locs 0 0 (MQ below (va_Qi (fun (r : Int32) (_ : Unit) => r = r0.1) (fun _ t => va_P D CLS (wR a q g0 g1 g2 g3 g4 r0.2 g6 g7 g8 g9 g10 g11 g12 g13 g14 g15 g16 g17 g18 g19) t.heap) A) args s 0 0 A) (F0 m 0 ls []) := by
  obtain ⟨hx, hb, hml, hown, hts, hr, hlocks⟩ := id hC
  intro v1 g5 H locs ls hP hD hS hl h
  rw [f_Ref_isEmpty_0] at h
  refine lv_aload_n hx hb (dt_at dt_Ref_isEmpty 0 rfl) rfl (lv_at hl 0 rfl) ?_
  refine lv_iconst (v := 0) hx hb (dt_at dt_Ref_isEmpty 1 rfl) (by decide) ?_
  refine va_put (D := D) (ci := 0) (v := .int (0 : Int32)) (ty := .int) (C := "OutwardTapeModel") (T := T_Ref) (N := 20) hx hb hts in_Ref ty_Ref tk_Ref nm_Ref hown hK hP hD hS 0 rfl rfl 5 (by decide) (hts (Cond.fieldLink "OutwardTapeModel" 29 "OutwardTapeModel" "code" "I") (m_4 4 rfl rfl)) (fun _ h9 => h9) rfl (by decide +kernel) rfl rfl (Nat.le_of_ble_eq_true rfl) (dt_at dt_Ref_isEmpty 2 rfl) (fun H locs hP hD hS => ?_)
  have hP : va_P D CLS (wR a q g0 g1 g2 g3 g4 (0 : Int32) g6 g7 g8 g9 g10 g11 g12 g13 g14 g15 g16 g17 g18 g19) H := hP
  have hD : va_D A (wR a q g0 g1 g2 g3 g4 (0 : Int32) g6 g7 g8 g9 g10 g11 g12 g13 g14 g15 g16 g17 g18 g19) := hD
  refine lv_aload_n hx hb (dt_at dt_Ref_isEmpty 3 rfl) rfl (lv_at hl 0 rfl) ?_
  refine lv_iload_n hx hb (dt_at dt_Ref_isEmpty 4 rfl) rfl (lv_at hl 1 rfl) ?_
  obtain ⟨r1, h_r1, h⟩ := ob_of h
  have hF := va_free (wc := dR a) (dD (ws' := dR a) hD rfl) hS hA [0, 1, 2, 3, 4, 5, 6] rfl
  have hd : va_D (fun _ => True) (dR a) := (dD (ws' := dR a) hD rfl).weaken (fun _ _ _ _ => trivial)
  refine va_calli (va_runV (As := [.int v1]) (rest := []) ⟨hx, hb, hml, hown, hts⟩ (c_Ref_there l D a q hd H.size v1 g0 g1 g2 g3 g4 (0 : Int32) g6 g7 g8 g9 g10 g11 g12 g13 g14 g15 g16 g17 g18 g19 r1 h_r1) (cwV 1 hts (gd_V (m_4 96 rfl rfl) (m_4 98 rfl rfl) (m_s 24 rfl rfl) (m_1 4 rfl rfl) (m_4 99 rfl rfl)) rfl rfl rfl (by decide +kernel) ⟨Nat.le_of_ble_eq_true rfl, Nat.le_of_ble_eq_true rfl⟩) ⟨fun a U g mk q => ⟨q.1, q.2.1, q.2.2.1, va_K.moved (u := U) (U := U.calling g mk a) (Vm.Alike.refl U.vm) q.2.2.2⟩, va_recv hK hP (ci := 0) (q0 := 0) rfl rfl, fun U hU hW => ⟨rfl, by rw [hU], by rw [hU]; exact hP, va_K.moved hW.alike hK⟩⟩ rfl rfl hl.1 rfl (lv_room (Nat.le_of_ble_eq_true rfl)) (dt_at dt_Ref_isEmpty 5 rfl) ⟨Nat.le_of_ble_eq_true rfl, Nat.le_of_ble_eq_true rfl⟩) hS (fun x _ h9 => hF x h9) hF (fun u_r1 uu t H locs ht hvm hw hB hz1 hk1 hS => ?_)
  rw [ht] at hB
  obtain rfl : r1 = u_r1 := hw.symm
  have hP : va_P D CLS (wR a q g0 g1 g2 g3 g4 (0 : Int32) g6 g7 g8 g9 g10 g11 g12 g13 g14 g15 g16 g17 g18 g19) H := hB
  have hD : va_D A (wR a q g0 g1 g2 g3 g4 (0 : Int32) g6 g7 g8 g9 g10 g11 g12 g13 g14 g15 g16 g17 g18 g19) := dD hD rfl
  refine lv_if_eq (tgt := 27) hx hb (dt_at dt_Ref_isEmpty 6 rfl) (by decide) (fun c2 => ?_) (fun c2 => ?_)
  · have h := if_p h c2
    exact k_Ref_isEmpty_27 hC hA hK   (0 : Int32) H locs ls hP hD hS (lv_sub hl [] rfl) h
  · have h := if_n h c2
    refine lv_aload_n hx hb (dt_at dt_Ref_isEmpty 7 rfl) rfl (lv_at hl 0 rfl) ?_
    refine va_get (D := D) (ci := 0) (v := .ref (a 1)) (C := "OutwardTapeModel") (T := T_Ref) (N := 20) hx hb hts in_Ref hown hK hP 0 rfl rfl 1 (by decide) (hts (Cond.fieldLink "OutwardTapeModel" 7 "OutwardTapeModel" "kind" "[I") (m_4 0 rfl rfl)) (fun _ h9 => h9) rfl (dt_at dt_Ref_isEmpty 8 rfl) ?_
    refine lv_iload_n hx hb (dt_at dt_Ref_isEmpty 9 rfl) rfl (lv_at hl 1 rfl) ?_
    obtain ⟨z3, h⟩ := og_of h
    refine va_iald hx hb hK hP 1 0 rfl rfl z3 (dt_at dt_Ref_isEmpty 10 rfl) ?_
    refine lv_iconst (v := 1) hx hb (dt_at dt_Ref_isEmpty 11 rfl) (by decide) ?_
    refine lv_icmp_ne (tgt := 27) hx hb (dt_at dt_Ref_isEmpty 12 rfl) (by decide) (fun c4 => ?_) (fun c4 => ?_)
    · have h := if_n h c4
      exact k_Ref_isEmpty_27 hC hA hK   (0 : Int32) H locs ls hP hD hS (lv_sub hl [] rfl) h
    · have h := if_p h c4
      refine lv_iconst (v := 1) hx hb (dt_at dt_Ref_isEmpty 13 rfl) (by decide) ?_
      refine lv_goto (tgt := 28) hx hb (dt_at dt_Ref_isEmpty 14 rfl) (by decide) ?_
      exact k_Ref_isEmpty_28 hC hA hK   (1 : Int32) (0 : Int32) H locs ls hP hD hS (lv_sub hl [] rfl) h
set_option maxRecDepth 100000 in
set_option maxHeartbeats 4000000 in
theorem c_Ref_isEmpty (l : Launch) (D : va_G) (a : Nat → Nat) (q : Nat → ClassId) (hd : va_D (fun _ => True) (dR a)) (sz : Nat) (a1 : Int32) (g0 : Int32) (g1 : Nat → Int32) (g2 : Nat → Int64) (g3 : Nat → Int64) (g4 : Nat → Int32) (g5 : Int32) (g6 : Nat → Int32) (g7 : Int32) (g8 : Nat → Int32) (g9 : Int32) (g10 : Int64) (g11 : Int64) (g12 : Int32) (g13 : Int32) (g14 : Int32) (g15 : Int64) (g16 : Int32) (g17 : Int32) (g18 : Int64) (g19 : Int32) (r0 : Int32 × Int32) (h : f_Ref_isEmpty a1 g0 g1 g5 = some r0) : Met l (⟨"OutwardTapeModel", "isEmpty", "(I)Z"⟩ : MethodName) (WSm (⟨"OutwardTapeModel", "isEmpty", "(I)Z"⟩ : MethodName) prog_12_method_69_code 2 (some .boolean)) rm_Ref_isEmpty (va_Pc [.ref (a 0), .int a1] (fun U => U.heap.size = sz ∧ va_P D CLS (wR a q g0 g1 g2 g3 g4 g5 g6 g7 g8 g9 g10 g11 g12 g13 g14 g15 g16 g17 g18 g19) U.heap ∧ va_K D CLS (tR q) U)) (va_Qi (fun (r : Int32) (_ : Unit) => r = r0.1) (fun _ t => va_P D CLS (wR a q g0 g1 g2 g3 g4 r0.2 g6 g7 g8 g9 g10 g11 g12 g13 g14 g15 g16 g17 g18 g19) t.heap) (va_A (dR a) sz)) 0 0 (va_A (dR a) sz) := by
  refine Met.ofW (cc := prog_12_method_69_code) (maxL := 2) (ret := (some .boolean)) (by decide) rfl ?_
  intro p e s m args below meth c s₁ B hml hv
  obtain ⟨rfl, hsz, hP, hK⟩ := hv
  subst hsz
  have hC := CX.of B hml rfl
  have hl := lv_entry [.ref (a 0), .int a1] (n := 2) (Nat.le_of_ble_eq_true rfl)
  rw [lg_entry_eq]
  generalize (lg_sl [.ref (a 0), .int a1] ++ List.replicate (2 - (lg_sl [.ref (a 0), .int a1]).length) Slot.unset).toArray = ls at hl ⊢
  have hl : lv_has ls 2 [(0, .ref (a 0)), (1, .int a1)] := hl
  exact k_Ref_isEmpty_0 hC (fun x h => Or.inr h) hK a1 g5 s.heap [] ls hP (dD hd.self rfl) va_S.rf (lv_sub hl [0, 1] rfl) h
abbrev rm_Ref_lower : Room := { frames := 1, cells := 0, slots := 0, locals := 21 }
set_option maxRecDepth 100000 in
set_option maxHeartbeats 4000000 in
theorem k_Ref_lower_68 {p : Program} {l : Launch} {e : Env} {s : State} {m : MethodId} {args : Array Value} {below : List Frame} {meth : Method} {c : Code} {D : va_G} {a : Nat → Nat} {q : Nat → ClassId} {A : Nat → Prop} (hC : CX p s m args meth c prog_12_method_71_code 2 "OutwardTapeModel" (some .long)) (hA : ∀ x, s.heap.size ≤ x → A x) (hK : va_K D CLS (tR q) s) {g0 : Int32} {g1 : Nat → Int32} {g2 : Nat → Int64} {g3 : Nat → Int64} {g4 : Nat → Int32} {g6 : Nat → Int32} {g7 : Int32} {g8 : Nat → Int32} {g9 : Int32} {g10 : Int64} {g11 : Int64} {g12 : Int32} {g13 : Int32} {g14 : Int32} {g15 : Int64} {g16 : Int32} {g17 : Int32} {g18 : Int64} {g19 : Int32} {r0 : Int64 × Int32} : ∀ (s0 : Int64) (g5 : Int32) (H : Heap) (locs : List Loc) (ls : Array Slot), va_P D CLS (wR a q g0 g1 g2 g3 g4 g5 g6 g7 g8 g9 g10 g11 g12 g13 g14 g15 g16 g17 g18 g19) H → va_D A (wR a q g0 g1 g2 g3 g4 g5 g6 g7 g8 g9 g10 g11 g12 g13 g14 g15 g16 g17 g18 g19) → va_S A s.heap H locs → lv_has ls 2 [] → f_Ref_lower_68  s0 g0 g1 g2 g5 = some r0 → W p l e rm_Ref_lower s m args below meth c H locs 0 0 (MQ below (va_Ql (fun (r : Int64) (_ : Unit) => r = r0.1) (fun _ t => va_P D CLS (wR a q g0 g1 g2 g3 g4 r0.2 g6 g7 g8 g9 g10 g11 g12 g13 g14 g15 g16 g17 g18 g19) t.heap) A) args s 0 0 A) (F0 m 68 ls [.long s0]) := by
  obtain ⟨hx, hb, hml, hown, hts, hr, hlocks⟩ := id hC
  intro s0 g5 H locs ls hP hD hS hl h
  rw [f_Ref_lower_68] at h
  obtain rfl := os_of h
  exact W.lret (v := s0) hx hb hr (fun t ht hW => ⟨⟨_, (), rfl, rfl, (hPt hP ht)⟩, hS.F ht⟩) hS.2.2 (dt_at dt_Ref_lower 36 rfl)
set_option maxRecDepth 100000 in
set_option maxHeartbeats 4000000 in
theorem k_Ref_lower_22 {p : Program} {l : Launch} {e : Env} {s : State} {m : MethodId} {args : Array Value} {below : List Frame} {meth : Method} {c : Code} {D : va_G} {a : Nat → Nat} {q : Nat → ClassId} {A : Nat → Prop} (hC : CX p s m args meth c prog_12_method_71_code 2 "OutwardTapeModel" (some .long)) (hA : ∀ x, s.heap.size ≤ x → A x) (hK : va_K D CLS (tR q) s) {g0 : Int32} {g1 : Nat → Int32} {g2 : Nat → Int64} {g3 : Nat → Int64} {g4 : Nat → Int32} {g6 : Nat → Int32} {g7 : Int32} {g8 : Nat → Int32} {g9 : Int32} {g10 : Int64} {g11 : Int64} {g12 : Int32} {g13 : Int32} {g14 : Int32} {g15 : Int64} {g16 : Int32} {g17 : Int32} {g18 : Int64} {g19 : Int32} {r0 : Int64 × Int32} : ∀  (g5 : Int32) (H : Heap) (locs : List Loc) (ls : Array Slot), va_P D CLS (wR a q g0 g1 g2 g3 g4 g5 g6 g7 g8 g9 g10 g11 g12 g13 g14 g15 g16 g17 g18 g19) H → va_D A (wR a q g0 g1 g2 g3 g4 g5 g6 g7 g8 g9 g10 g11 g12 g13 g14 g15 g16 g17 g18 g19) → va_S A s.heap H locs → lv_has ls 2 [] → f_Ref_lower_22  g0 g1 g2 g5 = some r0 → W p l e rm_Ref_lower s m args below meth c H locs 0 0 (MQ below (va_Ql (fun (r : Int64) (_ : Unit) => r = r0.1) (fun _ t => va_P D CLS (wR a q g0 g1 g2 g3 g4 r0.2 g6 g7 g8 g9 g10 g11 g12 g13 g14 g15 g16 g17 g18 g19) t.heap) A) args s 0 0 A) (F0 m 22 ls []) := by
  obtain ⟨hx, hb, hml, hown, hts, hr, hlocks⟩ := id hC
  intro g5 H locs ls hP hD hS hl h
  rw [f_Ref_lower_22] at h
  refine lv_ldc2 (v := 9221120237041090560) hx hb hown (hts (Cond.constantLong "OutwardTapeModel" 311 (9221120237041090560)) (m_5 101 rfl rfl)) (dt_at dt_Ref_lower 12 rfl) ?_
  obtain rfl := os_of h
  exact W.lret (v := (9221120237041090560 : Int64)) hx hb hr (fun t ht hW => ⟨⟨_, (), rfl, rfl, (hPt hP ht)⟩, hS.F ht⟩) hS.2.2 (dt_at dt_Ref_lower 13 rfl)
set_option maxRecDepth 100000 in
set_option maxHeartbeats 4000000 in
theorem k_Ref_lower_0 {p : Program} {l : Launch} {e : Env} {s : State} {m : MethodId} {args : Array Value} {below : List Frame} {meth : Method} {c : Code} {D : va_G} {a : Nat → Nat} {q : Nat → ClassId} {A : Nat → Prop} (hC : CX p s m args meth c prog_12_method_71_code 2 "OutwardTapeModel" (some .long)) (hA : ∀ x, s.heap.size ≤ x → A x) (hK : va_K D CLS (tR q) s) {g0 : Int32} {g1 : Nat → Int32} {g2 : Nat → Int64} {g3 : Nat → Int64} {g4 : Nat → Int32} {g6 : Nat → Int32} {g7 : Int32} {g8 : Nat → Int32} {g9 : Int32} {g10 : Int64} {g11 : Int64} {g12 : Int32} {g13 : Int32} {g14 : Int32} {g15 : Int64} {g16 : Int32} {g17 : Int32} {g18 : Int64} {g19 : Int32} {r0 : Int64 × Int32} : ∀ (v1 : Int32) (g5 : Int32) (H : Heap) (locs : List Loc) (ls : Array Slot), va_P D CLS (wR a q g0 g1 g2 g3 g4 g5 g6 g7 g8 g9 g10 g11 g12 g13 g14 g15 g16 g17 g18 g19) H → va_D A (wR a q g0 g1 g2 g3 g4 g5 g6 g7 g8 g9 g10 g11 g12 g13 g14 g15 g16 g17 g18 g19) → va_S A s.heap H locs → lv_has ls 2 [(0, .ref (a 0)), (1, .int v1)] → f_Ref_lower_0  v1 g0 g1 g2 g5 = some r0 → W p l e rm_Ref_lower s m args below meth c H locs 0 0 (MQ below (va_Ql (fun (r : Int64) (_ : Unit) => r = r0.1) (fun _ t => va_P D CLS (wR a q g0 g1 g2 g3 g4 r0.2 g6 g7 g8 g9 g10 g11 g12 g13 g14 g15 g16 g17 g18 g19) t.heap) A) args s 0 0 A) (F0 m 0 ls []) := by
  obtain ⟨hx, hb, hml, hown, hts, hr, hlocks⟩ := id hC
  intro v1 g5 H locs ls hP hD hS hl h
  rw [f_Ref_lower_0] at h
  refine lv_aload_n hx hb (dt_at dt_Ref_lower 0 rfl) rfl (lv_at hl 0 rfl) ?_
  refine lv_iconst (v := 0) hx hb (dt_at dt_Ref_lower 1 rfl) (by decide) ?_
  refine va_put (D := D) (ci := 0) (v := .int (0 : Int32)) (ty := .int) (C := "OutwardTapeModel") (T := T_Ref) (N := 20) hx hb hts in_Ref ty_Ref tk_Ref nm_Ref hown hK hP hD hS 0 rfl rfl 5 (by decide) (hts (Cond.fieldLink "OutwardTapeModel" 29 "OutwardTapeModel" "code" "I") (m_4 4 rfl rfl)) (fun _ h9 => h9) rfl (by decide +kernel) rfl rfl (Nat.le_of_ble_eq_true rfl) (dt_at dt_Ref_lower 2 rfl) (fun H locs hP hD hS => ?_)
  have hP : va_P D CLS (wR a q g0 g1 g2 g3 g4 (0 : Int32) g6 g7 g8 g9 g10 g11 g12 g13 g14 g15 g16 g17 g18 g19) H := hP
  have hD : va_D A (wR a q g0 g1 g2 g3 g4 (0 : Int32) g6 g7 g8 g9 g10 g11 g12 g13 g14 g15 g16 g17 g18 g19) := hD
  refine lv_aload_n hx hb (dt_at dt_Ref_lower 3 rfl) rfl (lv_at hl 0 rfl) ?_
  refine lv_iload_n hx hb (dt_at dt_Ref_lower 4 rfl) rfl (lv_at hl 1 rfl) ?_
  obtain ⟨r1, h_r1, h⟩ := ob_of h
  have hF := va_free (wc := dR a) (dD (ws' := dR a) hD rfl) hS hA [0, 1, 2, 3, 4, 5, 6] rfl
  have hd : va_D (fun _ => True) (dR a) := (dD (ws' := dR a) hD rfl).weaken (fun _ _ _ _ => trivial)
  refine va_calli (va_runV (As := [.int v1]) (rest := []) ⟨hx, hb, hml, hown, hts⟩ (c_Ref_there l D a q hd H.size v1 g0 g1 g2 g3 g4 (0 : Int32) g6 g7 g8 g9 g10 g11 g12 g13 g14 g15 g16 g17 g18 g19 r1 h_r1) (cwV 1 hts (gd_V (m_4 96 rfl rfl) (m_4 98 rfl rfl) (m_s 24 rfl rfl) (m_1 4 rfl rfl) (m_4 99 rfl rfl)) rfl rfl rfl (by decide +kernel) ⟨Nat.le_of_ble_eq_true rfl, Nat.le_of_ble_eq_true rfl⟩) ⟨fun a U g mk q => ⟨q.1, q.2.1, q.2.2.1, va_K.moved (u := U) (U := U.calling g mk a) (Vm.Alike.refl U.vm) q.2.2.2⟩, va_recv hK hP (ci := 0) (q0 := 0) rfl rfl, fun U hU hW => ⟨rfl, by rw [hU], by rw [hU]; exact hP, va_K.moved hW.alike hK⟩⟩ rfl rfl hl.1 rfl (lv_room (Nat.le_of_ble_eq_true rfl)) (dt_at dt_Ref_lower 5 rfl) ⟨Nat.le_of_ble_eq_true rfl, Nat.le_of_ble_eq_true rfl⟩) hS (fun x _ h9 => hF x h9) hF (fun u_r1 uu t H locs ht hvm hw hB hz1 hk1 hS => ?_)
  rw [ht] at hB
  obtain rfl : r1 = u_r1 := hw.symm
  have hP : va_P D CLS (wR a q g0 g1 g2 g3 g4 (0 : Int32) g6 g7 g8 g9 g10 g11 g12 g13 g14 g15 g16 g17 g18 g19) H := hB
  have hD : va_D A (wR a q g0 g1 g2 g3 g4 (0 : Int32) g6 g7 g8 g9 g10 g11 g12 g13 g14 g15 g16 g17 g18 g19) := dD hD rfl
  refine lv_if_eq (tgt := 22) hx hb (dt_at dt_Ref_lower 6 rfl) (by decide) (fun c2 => ?_) (fun c2 => ?_)
  · have h := if_p h c2
    exact k_Ref_lower_22 hC hA hK   (0 : Int32) H locs ls hP hD hS (lv_sub hl [] rfl) h
  · have h := if_n h c2
    refine lv_aload_n hx hb (dt_at dt_Ref_lower 7 rfl) rfl (lv_at hl 0 rfl) ?_
    refine va_get (D := D) (ci := 0) (v := .ref (a 1)) (C := "OutwardTapeModel") (T := T_Ref) (N := 20) hx hb hts in_Ref hown hK hP 0 rfl rfl 1 (by decide) (hts (Cond.fieldLink "OutwardTapeModel" 7 "OutwardTapeModel" "kind" "[I") (m_4 0 rfl rfl)) (fun _ h9 => h9) rfl (dt_at dt_Ref_lower 8 rfl) ?_
    refine lv_iload_n hx hb (dt_at dt_Ref_lower 9 rfl) rfl (lv_at hl 1 rfl) ?_
    obtain ⟨z3, h⟩ := og_of h
    refine va_iald hx hb hK hP 1 0 rfl rfl z3 (dt_at dt_Ref_lower 10 rfl) ?_
    refine lv_if_ne (tgt := 26) hx hb (dt_at dt_Ref_lower 11 rfl) (by decide) (fun c4 => ?_) (fun c4 => ?_)
    · have h := if_n h c4
      refine lv_aload_n hx hb (dt_at dt_Ref_lower 14 rfl) rfl (lv_at hl 0 rfl) ?_
      refine va_get (D := D) (ci := 0) (v := .ref (a 1)) (C := "OutwardTapeModel") (T := T_Ref) (N := 20) hx hb hts in_Ref hown hK hP 0 rfl rfl 1 (by decide) (hts (Cond.fieldLink "OutwardTapeModel" 7 "OutwardTapeModel" "kind" "[I") (m_4 0 rfl rfl)) (fun _ h9 => h9) rfl (dt_at dt_Ref_lower 15 rfl) ?_
      refine lv_iload_n hx hb (dt_at dt_Ref_lower 16 rfl) rfl (lv_at hl 1 rfl) ?_
      obtain ⟨z5, h⟩ := og_of h
      refine va_iald hx hb hK hP 1 0 rfl rfl z5 (dt_at dt_Ref_lower 17 rfl) ?_
      refine lv_iconst (v := 1) hx hb (dt_at dt_Ref_lower 18 rfl) (by decide) ?_
      refine lv_icmp_ne (tgt := 42) hx hb (dt_at dt_Ref_lower 19 rfl) (by decide) (fun c6 => ?_) (fun c6 => ?_)
      · have h := if_n h c6
        refine lv_aload_n hx hb (dt_at dt_Ref_lower 22 rfl) rfl (lv_at hl 0 rfl) ?_
        refine va_get (D := D) (ci := 0) (v := .ref (a 2)) (C := "OutwardTapeModel") (T := T_Ref) (N := 20) hx hb hts in_Ref hown hK hP 0 rfl rfl 2 (by decide) (hts (Cond.fieldLink "OutwardTapeModel" 13 "OutwardTapeModel" "low" "[J") (m_4 1 rfl rfl)) (fun _ h9 => h9) rfl (dt_at dt_Ref_lower 23 rfl) ?_
        refine lv_iload_n hx hb (dt_at dt_Ref_lower 24 rfl) rfl (lv_at hl 1 rfl) ?_
        obtain ⟨z7, h⟩ := og_of h
        refine va_lald hx hb hK hP 2 1 rfl rfl z7 (dt_at dt_Ref_lower 25 rfl) ?_
        refine lv_lconst (v := 0) hx hb (dt_at dt_Ref_lower 26 rfl) (by decide) ?_
        refine lc_ne (tgt := 59) hx hb (dt_at dt_Ref_lower 27 rfl) (dt_at dt_Ref_lower 28 rfl) (by decide) (fun c8 => ?_) (fun c8 => ?_)
        · have h := if_n h c8
          refine lv_aload_n hx hb (dt_at dt_Ref_lower 31 rfl) rfl (lv_at hl 0 rfl) ?_
          refine va_get (D := D) (ci := 0) (v := .ref (a 2)) (C := "OutwardTapeModel") (T := T_Ref) (N := 20) hx hb hts in_Ref hown hK hP 0 rfl rfl 2 (by decide) (hts (Cond.fieldLink "OutwardTapeModel" 13 "OutwardTapeModel" "low" "[J") (m_4 1 rfl rfl)) (fun _ h9 => h9) rfl (dt_at dt_Ref_lower 32 rfl) ?_
          refine lv_iload_n hx hb (dt_at dt_Ref_lower 33 rfl) rfl (lv_at hl 1 rfl) ?_
          obtain ⟨z9, h⟩ := og_of h
          refine va_lald hx hb hK hP 2 1 rfl rfl z9 (dt_at dt_Ref_lower 34 rfl) ?_
          obtain ⟨r10, h_r10, h⟩ := ob_of h
          refine vp_callSl (W.runS (As := [.long (g2 v1.toNatClampNeg)]) (rest := []) ⟨hx, hb, hml, hown, hts⟩ (c_Ref_bits l (g2 v1.toNatClampNeg) r10 h_r10) (va_cwS 1 hts (gd_S (m_5 103 rfl rfl) (m_5 104 rfl rfl) (m_1 4 rfl rfl) (m_5 105 rfl rfl)) rfl rfl rfl (by decide +kernel) ⟨Nat.le_of_ble_eq_true rfl, Nat.le_of_ble_eq_true rfl⟩) ⟨fun _ _ _ _ q => q, fun U hU hW => ⟨rfl, trivial⟩⟩ rfl rfl hl.1 rfl (lv_room (Nat.le_of_ble_eq_true rfl)) (dt_at dt_Ref_lower 35 rfl) ⟨Nat.le_of_ble_eq_true rfl, Nat.le_of_ble_eq_true rfl⟩) (fun u_r10 q_r10 => ?_)
          obtain rfl : r10 = u_r10 := q_r10.symm
          exact k_Ref_lower_68 hC hA hK   r10 (0 : Int32) H locs ls hP hD hS (lv_sub hl [] rfl) h
        · have h := if_p h c8
          refine lv_ldc2 (v := -9223372036854775808) hx hb hown (hts (Cond.constantLong "OutwardTapeModel" 309 (-9223372036854775808)) (m_5 102 rfl rfl)) (dt_at dt_Ref_lower 29 rfl) ?_
          refine lv_goto (tgt := 68) hx hb (dt_at dt_Ref_lower 30 rfl) (by decide) ?_
          exact k_Ref_lower_68 hC hA hK   (-9223372036854775808 : Int64) (0 : Int32) H locs ls hP hD hS (lv_sub hl [] rfl) h
      · have h := if_p h c6
        refine lv_ldc2 (v := 9218868437227405312) hx hb hown (hts (Cond.constantLong "OutwardTapeModel" 69 (9218868437227405312)) (m_4 70 rfl rfl)) (dt_at dt_Ref_lower 20 rfl) ?_
        refine lv_goto (tgt := 68) hx hb (dt_at dt_Ref_lower 21 rfl) (by decide) ?_
        exact k_Ref_lower_68 hC hA hK   (9218868437227405312 : Int64) (0 : Int32) H locs ls hP hD hS (lv_sub hl [] rfl) h
    · have h := if_p h c4
      exact k_Ref_lower_22 hC hA hK   (0 : Int32) H locs ls hP hD hS (lv_sub hl [] rfl) h
set_option maxRecDepth 100000 in
set_option maxHeartbeats 4000000 in
theorem c_Ref_lower (l : Launch) (D : va_G) (a : Nat → Nat) (q : Nat → ClassId) (hd : va_D (fun _ => True) (dR a)) (sz : Nat) (a1 : Int32) (g0 : Int32) (g1 : Nat → Int32) (g2 : Nat → Int64) (g3 : Nat → Int64) (g4 : Nat → Int32) (g5 : Int32) (g6 : Nat → Int32) (g7 : Int32) (g8 : Nat → Int32) (g9 : Int32) (g10 : Int64) (g11 : Int64) (g12 : Int32) (g13 : Int32) (g14 : Int32) (g15 : Int64) (g16 : Int32) (g17 : Int32) (g18 : Int64) (g19 : Int32) (r0 : Int64 × Int32) (h : f_Ref_lower a1 g0 g1 g2 g5 = some r0) : Met l (⟨"OutwardTapeModel", "lower", "(I)J"⟩ : MethodName) (WSm (⟨"OutwardTapeModel", "lower", "(I)J"⟩ : MethodName) prog_12_method_71_code 2 (some .long)) rm_Ref_lower (va_Pc [.ref (a 0), .int a1] (fun U => U.heap.size = sz ∧ va_P D CLS (wR a q g0 g1 g2 g3 g4 g5 g6 g7 g8 g9 g10 g11 g12 g13 g14 g15 g16 g17 g18 g19) U.heap ∧ va_K D CLS (tR q) U)) (va_Ql (fun (r : Int64) (_ : Unit) => r = r0.1) (fun _ t => va_P D CLS (wR a q g0 g1 g2 g3 g4 r0.2 g6 g7 g8 g9 g10 g11 g12 g13 g14 g15 g16 g17 g18 g19) t.heap) (va_A (dR a) sz)) 0 0 (va_A (dR a) sz) := by
  refine Met.ofW (cc := prog_12_method_71_code) (maxL := 2) (ret := (some .long)) (by decide) rfl ?_
  intro p e s m args below meth c s₁ B hml hv
  obtain ⟨rfl, hsz, hP, hK⟩ := hv
  subst hsz
  have hC := CX.of B hml rfl
  have hl := lv_entry [.ref (a 0), .int a1] (n := 2) (Nat.le_of_ble_eq_true rfl)
  rw [lg_entry_eq]
  generalize (lg_sl [.ref (a 0), .int a1] ++ List.replicate (2 - (lg_sl [.ref (a 0), .int a1]).length) Slot.unset).toArray = ls at hl ⊢
  have hl : lv_has ls 2 [(0, .ref (a 0)), (1, .int a1)] := hl
  exact k_Ref_lower_0 hC (fun x h => Or.inr h) hK a1 g5 s.heap [] ls hP (dD hd.self rfl) va_S.rf (lv_sub hl [0, 1] rfl) h
abbrev rm_Ref_upper : Room := { frames := 1, cells := 0, slots := 0, locals := 21 }
set_option maxRecDepth 100000 in
set_option maxHeartbeats 4000000 in
theorem k_Ref_upper_54 {p : Program} {l : Launch} {e : Env} {s : State} {m : MethodId} {args : Array Value} {below : List Frame} {meth : Method} {c : Code} {D : va_G} {a : Nat → Nat} {q : Nat → ClassId} {A : Nat → Prop} (hC : CX p s m args meth c prog_12_method_72_code 2 "OutwardTapeModel" (some .long)) (hA : ∀ x, s.heap.size ≤ x → A x) (hK : va_K D CLS (tR q) s) {g0 : Int32} {g1 : Nat → Int32} {g2 : Nat → Int64} {g3 : Nat → Int64} {g4 : Nat → Int32} {g6 : Nat → Int32} {g7 : Int32} {g8 : Nat → Int32} {g9 : Int32} {g10 : Int64} {g11 : Int64} {g12 : Int32} {g13 : Int32} {g14 : Int32} {g15 : Int64} {g16 : Int32} {g17 : Int32} {g18 : Int64} {g19 : Int32} {r0 : Int64 × Int32} : ∀ (s0 : Int64) (g5 : Int32) (H : Heap) (locs : List Loc) (ls : Array Slot), va_P D CLS (wR a q g0 g1 g2 g3 g4 g5 g6 g7 g8 g9 g10 g11 g12 g13 g14 g15 g16 g17 g18 g19) H → va_D A (wR a q g0 g1 g2 g3 g4 g5 g6 g7 g8 g9 g10 g11 g12 g13 g14 g15 g16 g17 g18 g19) → va_S A s.heap H locs → lv_has ls 2 [] → f_Ref_upper_54  s0 g0 g1 g3 g5 = some r0 → W p l e rm_Ref_upper s m args below meth c H locs 0 0 (MQ below (va_Ql (fun (r : Int64) (_ : Unit) => r = r0.1) (fun _ t => va_P D CLS (wR a q g0 g1 g2 g3 g4 r0.2 g6 g7 g8 g9 g10 g11 g12 g13 g14 g15 g16 g17 g18 g19) t.heap) A) args s 0 0 A) (F0 m 54 ls [.long s0]) := by
  obtain ⟨hx, hb, hml, hown, hts, hr, hlocks⟩ := id hC
  intro s0 g5 H locs ls hP hD hS hl h
  rw [f_Ref_upper_54] at h
  obtain rfl := os_of h
  exact W.lret (v := s0) hx hb hr (fun t ht hW => ⟨⟨_, (), rfl, rfl, (hPt hP ht)⟩, hS.F ht⟩) hS.2.2 (dt_at dt_Ref_upper 28 rfl)
set_option maxRecDepth 100000 in
set_option maxHeartbeats 4000000 in
theorem k_Ref_upper_22 {p : Program} {l : Launch} {e : Env} {s : State} {m : MethodId} {args : Array Value} {below : List Frame} {meth : Method} {c : Code} {D : va_G} {a : Nat → Nat} {q : Nat → ClassId} {A : Nat → Prop} (hC : CX p s m args meth c prog_12_method_72_code 2 "OutwardTapeModel" (some .long)) (hA : ∀ x, s.heap.size ≤ x → A x) (hK : va_K D CLS (tR q) s) {g0 : Int32} {g1 : Nat → Int32} {g2 : Nat → Int64} {g3 : Nat → Int64} {g4 : Nat → Int32} {g6 : Nat → Int32} {g7 : Int32} {g8 : Nat → Int32} {g9 : Int32} {g10 : Int64} {g11 : Int64} {g12 : Int32} {g13 : Int32} {g14 : Int32} {g15 : Int64} {g16 : Int32} {g17 : Int32} {g18 : Int64} {g19 : Int32} {r0 : Int64 × Int32} : ∀  (g5 : Int32) (H : Heap) (locs : List Loc) (ls : Array Slot), va_P D CLS (wR a q g0 g1 g2 g3 g4 g5 g6 g7 g8 g9 g10 g11 g12 g13 g14 g15 g16 g17 g18 g19) H → va_D A (wR a q g0 g1 g2 g3 g4 g5 g6 g7 g8 g9 g10 g11 g12 g13 g14 g15 g16 g17 g18 g19) → va_S A s.heap H locs → lv_has ls 2 [] → f_Ref_upper_22  g0 g1 g3 g5 = some r0 → W p l e rm_Ref_upper s m args below meth c H locs 0 0 (MQ below (va_Ql (fun (r : Int64) (_ : Unit) => r = r0.1) (fun _ t => va_P D CLS (wR a q g0 g1 g2 g3 g4 r0.2 g6 g7 g8 g9 g10 g11 g12 g13 g14 g15 g16 g17 g18 g19) t.heap) A) args s 0 0 A) (F0 m 22 ls []) := by
  obtain ⟨hx, hb, hml, hown, hts, hr, hlocks⟩ := id hC
  intro g5 H locs ls hP hD hS hl h
  rw [f_Ref_upper_22] at h
  refine lv_ldc2 (v := 9221120237041090560) hx hb hown (hts (Cond.constantLong "OutwardTapeModel" 311 (9221120237041090560)) (m_5 101 rfl rfl)) (dt_at dt_Ref_upper 12 rfl) ?_
  obtain rfl := os_of h
  exact W.lret (v := (9221120237041090560 : Int64)) hx hb hr (fun t ht hW => ⟨⟨_, (), rfl, rfl, (hPt hP ht)⟩, hS.F ht⟩) hS.2.2 (dt_at dt_Ref_upper 13 rfl)
set_option maxRecDepth 100000 in
set_option maxHeartbeats 4000000 in
theorem k_Ref_upper_0 {p : Program} {l : Launch} {e : Env} {s : State} {m : MethodId} {args : Array Value} {below : List Frame} {meth : Method} {c : Code} {D : va_G} {a : Nat → Nat} {q : Nat → ClassId} {A : Nat → Prop} (hC : CX p s m args meth c prog_12_method_72_code 2 "OutwardTapeModel" (some .long)) (hA : ∀ x, s.heap.size ≤ x → A x) (hK : va_K D CLS (tR q) s) {g0 : Int32} {g1 : Nat → Int32} {g2 : Nat → Int64} {g3 : Nat → Int64} {g4 : Nat → Int32} {g6 : Nat → Int32} {g7 : Int32} {g8 : Nat → Int32} {g9 : Int32} {g10 : Int64} {g11 : Int64} {g12 : Int32} {g13 : Int32} {g14 : Int32} {g15 : Int64} {g16 : Int32} {g17 : Int32} {g18 : Int64} {g19 : Int32} {r0 : Int64 × Int32} : ∀ (v1 : Int32) (g5 : Int32) (H : Heap) (locs : List Loc) (ls : Array Slot), va_P D CLS (wR a q g0 g1 g2 g3 g4 g5 g6 g7 g8 g9 g10 g11 g12 g13 g14 g15 g16 g17 g18 g19) H → va_D A (wR a q g0 g1 g2 g3 g4 g5 g6 g7 g8 g9 g10 g11 g12 g13 g14 g15 g16 g17 g18 g19) → va_S A s.heap H locs → lv_has ls 2 [(0, .ref (a 0)), (1, .int v1)] → f_Ref_upper_0  v1 g0 g1 g3 g5 = some r0 → W p l e rm_Ref_upper s m args below meth c H locs 0 0 (MQ below (va_Ql (fun (r : Int64) (_ : Unit) => r = r0.1) (fun _ t => va_P D CLS (wR a q g0 g1 g2 g3 g4 r0.2 g6 g7 g8 g9 g10 g11 g12 g13 g14 g15 g16 g17 g18 g19) t.heap) A) args s 0 0 A) (F0 m 0 ls []) := by
  obtain ⟨hx, hb, hml, hown, hts, hr, hlocks⟩ := id hC
  intro v1 g5 H locs ls hP hD hS hl h
  rw [f_Ref_upper_0] at h
  refine lv_aload_n hx hb (dt_at dt_Ref_upper 0 rfl) rfl (lv_at hl 0 rfl) ?_
  refine lv_iconst (v := 0) hx hb (dt_at dt_Ref_upper 1 rfl) (by decide) ?_
  refine va_put (D := D) (ci := 0) (v := .int (0 : Int32)) (ty := .int) (C := "OutwardTapeModel") (T := T_Ref) (N := 20) hx hb hts in_Ref ty_Ref tk_Ref nm_Ref hown hK hP hD hS 0 rfl rfl 5 (by decide) (hts (Cond.fieldLink "OutwardTapeModel" 29 "OutwardTapeModel" "code" "I") (m_4 4 rfl rfl)) (fun _ h9 => h9) rfl (by decide +kernel) rfl rfl (Nat.le_of_ble_eq_true rfl) (dt_at dt_Ref_upper 2 rfl) (fun H locs hP hD hS => ?_)
  have hP : va_P D CLS (wR a q g0 g1 g2 g3 g4 (0 : Int32) g6 g7 g8 g9 g10 g11 g12 g13 g14 g15 g16 g17 g18 g19) H := hP
  have hD : va_D A (wR a q g0 g1 g2 g3 g4 (0 : Int32) g6 g7 g8 g9 g10 g11 g12 g13 g14 g15 g16 g17 g18 g19) := hD
  refine lv_aload_n hx hb (dt_at dt_Ref_upper 3 rfl) rfl (lv_at hl 0 rfl) ?_
  refine lv_iload_n hx hb (dt_at dt_Ref_upper 4 rfl) rfl (lv_at hl 1 rfl) ?_
  obtain ⟨r1, h_r1, h⟩ := ob_of h
  have hF := va_free (wc := dR a) (dD (ws' := dR a) hD rfl) hS hA [0, 1, 2, 3, 4, 5, 6] rfl
  have hd : va_D (fun _ => True) (dR a) := (dD (ws' := dR a) hD rfl).weaken (fun _ _ _ _ => trivial)
  refine va_calli (va_runV (As := [.int v1]) (rest := []) ⟨hx, hb, hml, hown, hts⟩ (c_Ref_there l D a q hd H.size v1 g0 g1 g2 g3 g4 (0 : Int32) g6 g7 g8 g9 g10 g11 g12 g13 g14 g15 g16 g17 g18 g19 r1 h_r1) (cwV 1 hts (gd_V (m_4 96 rfl rfl) (m_4 98 rfl rfl) (m_s 24 rfl rfl) (m_1 4 rfl rfl) (m_4 99 rfl rfl)) rfl rfl rfl (by decide +kernel) ⟨Nat.le_of_ble_eq_true rfl, Nat.le_of_ble_eq_true rfl⟩) ⟨fun a U g mk q => ⟨q.1, q.2.1, q.2.2.1, va_K.moved (u := U) (U := U.calling g mk a) (Vm.Alike.refl U.vm) q.2.2.2⟩, va_recv hK hP (ci := 0) (q0 := 0) rfl rfl, fun U hU hW => ⟨rfl, by rw [hU], by rw [hU]; exact hP, va_K.moved hW.alike hK⟩⟩ rfl rfl hl.1 rfl (lv_room (Nat.le_of_ble_eq_true rfl)) (dt_at dt_Ref_upper 5 rfl) ⟨Nat.le_of_ble_eq_true rfl, Nat.le_of_ble_eq_true rfl⟩) hS (fun x _ h9 => hF x h9) hF (fun u_r1 uu t H locs ht hvm hw hB hz1 hk1 hS => ?_)
  rw [ht] at hB
  obtain rfl : r1 = u_r1 := hw.symm
  have hP : va_P D CLS (wR a q g0 g1 g2 g3 g4 (0 : Int32) g6 g7 g8 g9 g10 g11 g12 g13 g14 g15 g16 g17 g18 g19) H := hB
  have hD : va_D A (wR a q g0 g1 g2 g3 g4 (0 : Int32) g6 g7 g8 g9 g10 g11 g12 g13 g14 g15 g16 g17 g18 g19) := dD hD rfl
  refine lv_if_eq (tgt := 22) hx hb (dt_at dt_Ref_upper 6 rfl) (by decide) (fun c2 => ?_) (fun c2 => ?_)
  · have h := if_p h c2
    exact k_Ref_upper_22 hC hA hK   (0 : Int32) H locs ls hP hD hS (lv_sub hl [] rfl) h
  · have h := if_n h c2
    refine lv_aload_n hx hb (dt_at dt_Ref_upper 7 rfl) rfl (lv_at hl 0 rfl) ?_
    refine va_get (D := D) (ci := 0) (v := .ref (a 1)) (C := "OutwardTapeModel") (T := T_Ref) (N := 20) hx hb hts in_Ref hown hK hP 0 rfl rfl 1 (by decide) (hts (Cond.fieldLink "OutwardTapeModel" 7 "OutwardTapeModel" "kind" "[I") (m_4 0 rfl rfl)) (fun _ h9 => h9) rfl (dt_at dt_Ref_upper 8 rfl) ?_
    refine lv_iload_n hx hb (dt_at dt_Ref_upper 9 rfl) rfl (lv_at hl 1 rfl) ?_
    obtain ⟨z3, h⟩ := og_of h
    refine va_iald hx hb hK hP 1 0 rfl rfl z3 (dt_at dt_Ref_upper 10 rfl) ?_
    refine lv_if_ne (tgt := 26) hx hb (dt_at dt_Ref_upper 11 rfl) (by decide) (fun c4 => ?_) (fun c4 => ?_)
    · have h := if_n h c4
      refine lv_aload_n hx hb (dt_at dt_Ref_upper 14 rfl) rfl (lv_at hl 0 rfl) ?_
      refine va_get (D := D) (ci := 0) (v := .ref (a 1)) (C := "OutwardTapeModel") (T := T_Ref) (N := 20) hx hb hts in_Ref hown hK hP 0 rfl rfl 1 (by decide) (hts (Cond.fieldLink "OutwardTapeModel" 7 "OutwardTapeModel" "kind" "[I") (m_4 0 rfl rfl)) (fun _ h9 => h9) rfl (dt_at dt_Ref_upper 15 rfl) ?_
      refine lv_iload_n hx hb (dt_at dt_Ref_upper 16 rfl) rfl (lv_at hl 1 rfl) ?_
      obtain ⟨z5, h⟩ := og_of h
      refine va_iald hx hb hK hP 1 0 rfl rfl z5 (dt_at dt_Ref_upper 17 rfl) ?_
      refine lv_iconst (v := 1) hx hb (dt_at dt_Ref_upper 18 rfl) (by decide) ?_
      refine lv_icmp_ne (tgt := 45) hx hb (dt_at dt_Ref_upper 19 rfl) (by decide) (fun c6 => ?_) (fun c6 => ?_)
      · have h := if_n h c6
        refine lv_aload_n hx hb (dt_at dt_Ref_upper 23 rfl) rfl (lv_at hl 0 rfl) ?_
        refine va_get (D := D) (ci := 0) (v := .ref (a 3)) (C := "OutwardTapeModel") (T := T_Ref) (N := 20) hx hb hts in_Ref hown hK hP 0 rfl rfl 3 (by decide) (hts (Cond.fieldLink "OutwardTapeModel" 17 "OutwardTapeModel" "high" "[J") (m_4 2 rfl rfl)) (fun _ h9 => h9) rfl (dt_at dt_Ref_upper 24 rfl) ?_
        refine lv_iload_n hx hb (dt_at dt_Ref_upper 25 rfl) rfl (lv_at hl 1 rfl) ?_
        obtain ⟨z7, h⟩ := og_of h
        refine va_lald hx hb hK hP 3 2 rfl rfl z7 (dt_at dt_Ref_upper 26 rfl) ?_
        obtain ⟨r8, h_r8, h⟩ := ob_of h
        refine vp_callSl (W.runS (As := [.long (g3 v1.toNatClampNeg)]) (rest := []) ⟨hx, hb, hml, hown, hts⟩ (c_Ref_bits l (g3 v1.toNatClampNeg) r8 h_r8) (va_cwS 1 hts (gd_S (m_5 103 rfl rfl) (m_5 104 rfl rfl) (m_1 4 rfl rfl) (m_5 105 rfl rfl)) rfl rfl rfl (by decide +kernel) ⟨Nat.le_of_ble_eq_true rfl, Nat.le_of_ble_eq_true rfl⟩) ⟨fun _ _ _ _ q => q, fun U hU hW => ⟨rfl, trivial⟩⟩ rfl rfl hl.1 rfl (lv_room (Nat.le_of_ble_eq_true rfl)) (dt_at dt_Ref_upper 27 rfl) ⟨Nat.le_of_ble_eq_true rfl, Nat.le_of_ble_eq_true rfl⟩) (fun u_r8 q_r8 => ?_)
        obtain rfl : r8 = u_r8 := q_r8.symm
        exact k_Ref_upper_54 hC hA hK   r8 (0 : Int32) H locs ls hP hD hS (lv_sub hl [] rfl) h
      · have h := if_p h c6
        refine lv_ldc2 (v := -9218868437227405312) hx hb hown (hts (Cond.constantLong "OutwardTapeModel" 95 (-9218868437227405312)) (m_4 74 rfl rfl)) (dt_at dt_Ref_upper 20 rfl) ?_
        obtain ⟨r9, h_r9, h⟩ := ob_of h
        refine vp_callSl (W.runS (As := [.long (-9218868437227405312 : Int64)]) (rest := []) ⟨hx, hb, hml, hown, hts⟩ (c_Ref_bits l (-9218868437227405312 : Int64) r9 h_r9) (va_cwS 1 hts (gd_S (m_5 103 rfl rfl) (m_5 104 rfl rfl) (m_1 4 rfl rfl) (m_5 105 rfl rfl)) rfl rfl rfl (by decide +kernel) ⟨Nat.le_of_ble_eq_true rfl, Nat.le_of_ble_eq_true rfl⟩) ⟨fun _ _ _ _ q => q, fun U hU hW => ⟨rfl, trivial⟩⟩ rfl rfl hl.1 rfl (lv_room (Nat.le_of_ble_eq_true rfl)) (dt_at dt_Ref_upper 21 rfl) ⟨Nat.le_of_ble_eq_true rfl, Nat.le_of_ble_eq_true rfl⟩) (fun u_r9 q_r9 => ?_)
        obtain rfl : r9 = u_r9 := q_r9.symm
        refine lv_goto (tgt := 54) hx hb (dt_at dt_Ref_upper 22 rfl) (by decide) ?_
        exact k_Ref_upper_54 hC hA hK   r9 (0 : Int32) H locs ls hP hD hS (lv_sub hl [] rfl) h
    · have h := if_p h c4
      exact k_Ref_upper_22 hC hA hK   (0 : Int32) H locs ls hP hD hS (lv_sub hl [] rfl) h
set_option maxRecDepth 100000 in
set_option maxHeartbeats 4000000 in
theorem c_Ref_upper (l : Launch) (D : va_G) (a : Nat → Nat) (q : Nat → ClassId) (hd : va_D (fun _ => True) (dR a)) (sz : Nat) (a1 : Int32) (g0 : Int32) (g1 : Nat → Int32) (g2 : Nat → Int64) (g3 : Nat → Int64) (g4 : Nat → Int32) (g5 : Int32) (g6 : Nat → Int32) (g7 : Int32) (g8 : Nat → Int32) (g9 : Int32) (g10 : Int64) (g11 : Int64) (g12 : Int32) (g13 : Int32) (g14 : Int32) (g15 : Int64) (g16 : Int32) (g17 : Int32) (g18 : Int64) (g19 : Int32) (r0 : Int64 × Int32) (h : f_Ref_upper a1 g0 g1 g3 g5 = some r0) : Met l (⟨"OutwardTapeModel", "upper", "(I)J"⟩ : MethodName) (WSm (⟨"OutwardTapeModel", "upper", "(I)J"⟩ : MethodName) prog_12_method_72_code 2 (some .long)) rm_Ref_upper (va_Pc [.ref (a 0), .int a1] (fun U => U.heap.size = sz ∧ va_P D CLS (wR a q g0 g1 g2 g3 g4 g5 g6 g7 g8 g9 g10 g11 g12 g13 g14 g15 g16 g17 g18 g19) U.heap ∧ va_K D CLS (tR q) U)) (va_Ql (fun (r : Int64) (_ : Unit) => r = r0.1) (fun _ t => va_P D CLS (wR a q g0 g1 g2 g3 g4 r0.2 g6 g7 g8 g9 g10 g11 g12 g13 g14 g15 g16 g17 g18 g19) t.heap) (va_A (dR a) sz)) 0 0 (va_A (dR a) sz) := by
  refine Met.ofW (cc := prog_12_method_72_code) (maxL := 2) (ret := (some .long)) (by decide) rfl ?_
  intro p e s m args below meth c s₁ B hml hv
  obtain ⟨rfl, hsz, hP, hK⟩ := hv
  subst hsz
  have hC := CX.of B hml rfl
  have hl := lv_entry [.ref (a 0), .int a1] (n := 2) (Nat.le_of_ble_eq_true rfl)
  rw [lg_entry_eq]
  generalize (lg_sl [.ref (a 0), .int a1] ++ List.replicate (2 - (lg_sl [.ref (a 0), .int a1]).length) Slot.unset).toArray = ls at hl ⊢
  have hl : lv_has ls 2 [(0, .ref (a 0)), (1, .int a1)] := hl
  exact k_Ref_upper_0 hC (fun x h => Or.inr h) hK a1 g5 s.heap [] ls hP (dD hd.self rfl) va_S.rf (lv_sub hl [0, 1] rfl) h
abbrev rm_Ref_holds : Room := { frames := 3, cells := 0, slots := 0, locals := 65 }
set_option maxRecDepth 100000 in
set_option maxHeartbeats 4000000 in
theorem k_Ref_holds_243 {p : Program} {l : Launch} {e : Env} {s : State} {m : MethodId} {args : Array Value} {below : List Frame} {meth : Method} {c : Code} {D : va_G} {a : Nat → Nat} {q : Nat → ClassId} {A : Nat → Prop} (hC : CX p s m args meth c prog_12_method_74_code 12 "OutwardTapeModel" (some .boolean)) (hA : ∀ x, s.heap.size ≤ x → A x) (hK : va_K D CLS (tR q) s) {g0 : Int32} {g1 : Nat → Int32} {g2 : Nat → Int64} {g3 : Nat → Int64} {g4 : Nat → Int32} {g5 : Int32} {g6 : Nat → Int32} {g7 : Int32} {g8 : Nat → Int32} {g9 : Int32} {g10 : Int64} {g11 : Int64} {g12 : Int32} {g13 : Int32} {g14 : Int32} {g15 : Int64} {g16 : Int32} {g17 : Int32} {g18 : Int64} {g19 : Int32} {r0 : Int32} : ∀ (s0 : Int32)  (H : Heap) (locs : List Loc) (ls : Array Slot), va_P D CLS (wR a q g0 g1 g2 g3 g4 g5 g6 g7 g8 g9 g10 g11 g12 g13 g14 g15 g16 g17 g18 g19) H → va_D A (wR a q g0 g1 g2 g3 g4 g5 g6 g7 g8 g9 g10 g11 g12 g13 g14 g15 g16 g17 g18 g19) → va_S A s.heap H locs → lv_has ls 12 [] → f_Ref_holds_243  s0 g2 g3 = some r0 → W p l e rm_Ref_holds s m args below meth c H locs 0 0 (MQ below (va_Qi (fun (r : Int32) (_ : Unit) => r = r0) (fun _ t => va_P D CLS (wR a q g0 g1 g2 g3 g4 g5 g6 g7 g8 g9 g10 g11 g12 g13 g14 g15 g16 g17 g18 g19) t.heap) A) args s 0 0 A) (F0 m 243 ls [.int s0]) := by
  obtain ⟨hx, hb, hml, hown, hts, hr, hlocks⟩ := id hC
  intro s0 H locs ls hP hD hS hl h
  rw [f_Ref_holds_243] at h
  obtain ⟨hz, h⟩ := og_of h
  obtain rfl := os_of h
  exact W.zret (v := s0) (ty := .boolean) hx hb hr (j_z_nar hz) (fun t ht hW => ⟨⟨_, (), rfl, rfl, (hPt hP ht)⟩, hS.F ht⟩) hS.2.2 (dt_at dt_Ref_holds 109 rfl)
set_option maxRecDepth 100000 in
set_option maxHeartbeats 4000000 in
theorem k_Ref_holds_238 {p : Program} {l : Launch} {e : Env} {s : State} {m : MethodId} {args : Array Value} {below : List Frame} {meth : Method} {c : Code} {D : va_G} {a : Nat → Nat} {q : Nat → ClassId} {A : Nat → Prop} (hC : CX p s m args meth c prog_12_method_74_code 12 "OutwardTapeModel" (some .boolean)) (hA : ∀ x, s.heap.size ≤ x → A x) (hK : va_K D CLS (tR q) s) {g0 : Int32} {g1 : Nat → Int32} {g2 : Nat → Int64} {g3 : Nat → Int64} {g4 : Nat → Int32} {g5 : Int32} {g6 : Nat → Int32} {g7 : Int32} {g8 : Nat → Int32} {g9 : Int32} {g10 : Int64} {g11 : Int64} {g12 : Int32} {g13 : Int32} {g14 : Int32} {g15 : Int64} {g16 : Int32} {g17 : Int32} {g18 : Int64} {g19 : Int32} {r0 : Int32} : ∀   (H : Heap) (locs : List Loc) (ls : Array Slot), va_P D CLS (wR a q g0 g1 g2 g3 g4 g5 g6 g7 g8 g9 g10 g11 g12 g13 g14 g15 g16 g17 g18 g19) H → va_D A (wR a q g0 g1 g2 g3 g4 g5 g6 g7 g8 g9 g10 g11 g12 g13 g14 g15 g16 g17 g18 g19) → va_S A s.heap H locs → lv_has ls 12 [] → f_Ref_holds_238  g2 g3 = some r0 → W p l e rm_Ref_holds s m args below meth c H locs 0 0 (MQ below (va_Qi (fun (r : Int32) (_ : Unit) => r = r0) (fun _ t => va_P D CLS (wR a q g0 g1 g2 g3 g4 g5 g6 g7 g8 g9 g10 g11 g12 g13 g14 g15 g16 g17 g18 g19) t.heap) A) args s 0 0 A) (F0 m 238 ls []) := by
  obtain ⟨hx, hb, hml, hown, hts, hr, hlocks⟩ := id hC
  intro H locs ls hP hD hS hl h
  rw [f_Ref_holds_238] at h
  refine lv_iconst (v := 1) hx hb (dt_at dt_Ref_holds 106 rfl) (by decide) ?_
  refine lv_goto (tgt := 243) hx hb (dt_at dt_Ref_holds 107 rfl) (by decide) ?_
  exact k_Ref_holds_243 hC hA hK   (1 : Int32) H locs ls hP hD hS (lv_sub hl [] rfl) h
set_option maxRecDepth 100000 in
set_option maxHeartbeats 4000000 in
theorem k_Ref_holds_221 {p : Program} {l : Launch} {e : Env} {s : State} {m : MethodId} {args : Array Value} {below : List Frame} {meth : Method} {c : Code} {D : va_G} {a : Nat → Nat} {q : Nat → ClassId} {A : Nat → Prop} (hC : CX p s m args meth c prog_12_method_74_code 12 "OutwardTapeModel" (some .boolean)) (hA : ∀ x, s.heap.size ≤ x → A x) (hK : va_K D CLS (tR q) s) {g0 : Int32} {g1 : Nat → Int32} {g2 : Nat → Int64} {g3 : Nat → Int64} {g4 : Nat → Int32} {g5 : Int32} {g6 : Nat → Int32} {g7 : Int32} {g8 : Nat → Int32} {g9 : Int32} {g10 : Int64} {g11 : Int64} {g12 : Int32} {g13 : Int32} {g14 : Int32} {g15 : Int64} {g16 : Int32} {g17 : Int32} {g18 : Int64} {g19 : Int32} {r0 : Int32} : ∀ (s0 : Int32)  (H : Heap) (locs : List Loc) (ls : Array Slot), va_P D CLS (wR a q g0 g1 g2 g3 g4 g5 g6 g7 g8 g9 g10 g11 g12 g13 g14 g15 g16 g17 g18 g19) H → va_D A (wR a q g0 g1 g2 g3 g4 g5 g6 g7 g8 g9 g10 g11 g12 g13 g14 g15 g16 g17 g18 g19) → va_S A s.heap H locs → lv_has ls 12 [] → f_Ref_holds_221  s0 g2 g3 = some r0 → W p l e rm_Ref_holds s m args below meth c H locs 0 0 (MQ below (va_Qi (fun (r : Int32) (_ : Unit) => r = r0) (fun _ t => va_P D CLS (wR a q g0 g1 g2 g3 g4 g5 g6 g7 g8 g9 g10 g11 g12 g13 g14 g15 g16 g17 g18 g19) t.heap) A) args s 0 0 A) (F0 m 221 ls [.int s0]) := by
  obtain ⟨hx, hb, hml, hown, hts, hr, hlocks⟩ := id hC
  intro s0 H locs ls hP hD hS hl h
  rw [f_Ref_holds_221] at h
  obtain ⟨hz, h⟩ := og_of h
  obtain rfl := os_of h
  exact W.zret (v := s0) (ty := .boolean) hx hb hr (j_z_nar hz) (fun t ht hW => ⟨⟨_, (), rfl, rfl, (hPt hP ht)⟩, hS.F ht⟩) hS.2.2 (dt_at dt_Ref_holds 97 rfl)
set_option maxRecDepth 100000 in
set_option maxHeartbeats 4000000 in
theorem k_Ref_holds_207 {p : Program} {l : Launch} {e : Env} {s : State} {m : MethodId} {args : Array Value} {below : List Frame} {meth : Method} {c : Code} {D : va_G} {a : Nat → Nat} {q : Nat → ClassId} {A : Nat → Prop} (hC : CX p s m args meth c prog_12_method_74_code 12 "OutwardTapeModel" (some .boolean)) (hA : ∀ x, s.heap.size ≤ x → A x) (hK : va_K D CLS (tR q) s) {g0 : Int32} {g1 : Nat → Int32} {g2 : Nat → Int64} {g3 : Nat → Int64} {g4 : Nat → Int32} {g5 : Int32} {g6 : Nat → Int32} {g7 : Int32} {g8 : Nat → Int32} {g9 : Int32} {g10 : Int64} {g11 : Int64} {g12 : Int32} {g13 : Int32} {g14 : Int32} {g15 : Int64} {g16 : Int32} {g17 : Int32} {g18 : Int64} {g19 : Int32} {r0 : Int32} : ∀ (s0 : Int32)  (H : Heap) (locs : List Loc) (ls : Array Slot), va_P D CLS (wR a q g0 g1 g2 g3 g4 g5 g6 g7 g8 g9 g10 g11 g12 g13 g14 g15 g16 g17 g18 g19) H → va_D A (wR a q g0 g1 g2 g3 g4 g5 g6 g7 g8 g9 g10 g11 g12 g13 g14 g15 g16 g17 g18 g19) → va_S A s.heap H locs → lv_has ls 12 [] → f_Ref_holds_207  s0 g2 g3 = some r0 → W p l e rm_Ref_holds s m args below meth c H locs 0 0 (MQ below (va_Qi (fun (r : Int32) (_ : Unit) => r = r0) (fun _ t => va_P D CLS (wR a q g0 g1 g2 g3 g4 g5 g6 g7 g8 g9 g10 g11 g12 g13 g14 g15 g16 g17 g18 g19) t.heap) A) args s 0 0 A) (F0 m 207 ls [.int s0]) := by
  obtain ⟨hx, hb, hml, hown, hts, hr, hlocks⟩ := id hC
  intro s0 H locs ls hP hD hS hl h
  rw [f_Ref_holds_207] at h
  obtain ⟨hz, h⟩ := og_of h
  obtain rfl := os_of h
  exact W.zret (v := s0) (ty := .boolean) hx hb hr (j_z_nar hz) (fun t ht hW => ⟨⟨_, (), rfl, rfl, (hPt hP ht)⟩, hS.F ht⟩) hS.2.2 (dt_at dt_Ref_holds 89 rfl)
set_option maxRecDepth 100000 in
set_option maxHeartbeats 4000000 in
theorem k_Ref_holds_206 {p : Program} {l : Launch} {e : Env} {s : State} {m : MethodId} {args : Array Value} {below : List Frame} {meth : Method} {c : Code} {D : va_G} {a : Nat → Nat} {q : Nat → ClassId} {A : Nat → Prop} (hC : CX p s m args meth c prog_12_method_74_code 12 "OutwardTapeModel" (some .boolean)) (hA : ∀ x, s.heap.size ≤ x → A x) (hK : va_K D CLS (tR q) s) {g0 : Int32} {g1 : Nat → Int32} {g2 : Nat → Int64} {g3 : Nat → Int64} {g4 : Nat → Int32} {g5 : Int32} {g6 : Nat → Int32} {g7 : Int32} {g8 : Nat → Int32} {g9 : Int32} {g10 : Int64} {g11 : Int64} {g12 : Int32} {g13 : Int32} {g14 : Int32} {g15 : Int64} {g16 : Int32} {g17 : Int32} {g18 : Int64} {g19 : Int32} {r0 : Int32} : ∀   (H : Heap) (locs : List Loc) (ls : Array Slot), va_P D CLS (wR a q g0 g1 g2 g3 g4 g5 g6 g7 g8 g9 g10 g11 g12 g13 g14 g15 g16 g17 g18 g19) H → va_D A (wR a q g0 g1 g2 g3 g4 g5 g6 g7 g8 g9 g10 g11 g12 g13 g14 g15 g16 g17 g18 g19) → va_S A s.heap H locs → lv_has ls 12 [] → f_Ref_holds_206  g2 g3 = some r0 → W p l e rm_Ref_holds s m args below meth c H locs 0 0 (MQ below (va_Qi (fun (r : Int32) (_ : Unit) => r = r0) (fun _ t => va_P D CLS (wR a q g0 g1 g2 g3 g4 g5 g6 g7 g8 g9 g10 g11 g12 g13 g14 g15 g16 g17 g18 g19) t.heap) A) args s 0 0 A) (F0 m 206 ls []) := by
  obtain ⟨hx, hb, hml, hown, hts, hr, hlocks⟩ := id hC
  intro H locs ls hP hD hS hl h
  rw [f_Ref_holds_206] at h
  refine lv_iconst (v := 0) hx hb (dt_at dt_Ref_holds 88 rfl) (by decide) ?_
  exact k_Ref_holds_207 hC hA hK   (0 : Int32) H locs ls hP hD hS (lv_sub hl [] rfl) h
set_option maxRecDepth 100000 in
set_option maxHeartbeats 4000000 in
theorem k_Ref_holds_181 {p : Program} {l : Launch} {e : Env} {s : State} {m : MethodId} {args : Array Value} {below : List Frame} {meth : Method} {c : Code} {D : va_G} {a : Nat → Nat} {q : Nat → ClassId} {A : Nat → Prop} (hC : CX p s m args meth c prog_12_method_74_code 12 "OutwardTapeModel" (some .boolean)) (hA : ∀ x, s.heap.size ≤ x → A x) (hK : va_K D CLS (tR q) s) {g0 : Int32} {g1 : Nat → Int32} {g2 : Nat → Int64} {g3 : Nat → Int64} {g4 : Nat → Int32} {g5 : Int32} {g6 : Nat → Int32} {g7 : Int32} {g8 : Nat → Int32} {g9 : Int32} {g10 : Int64} {g11 : Int64} {g12 : Int32} {g13 : Int32} {g14 : Int32} {g15 : Int64} {g16 : Int32} {g17 : Int32} {g18 : Int64} {g19 : Int32} {r0 : Int32} : ∀ (s0 : Int32)  (H : Heap) (locs : List Loc) (ls : Array Slot), va_P D CLS (wR a q g0 g1 g2 g3 g4 g5 g6 g7 g8 g9 g10 g11 g12 g13 g14 g15 g16 g17 g18 g19) H → va_D A (wR a q g0 g1 g2 g3 g4 g5 g6 g7 g8 g9 g10 g11 g12 g13 g14 g15 g16 g17 g18 g19) → va_S A s.heap H locs → lv_has ls 12 [] → f_Ref_holds_181  s0 g2 g3 = some r0 → W p l e rm_Ref_holds s m args below meth c H locs 0 0 (MQ below (va_Qi (fun (r : Int32) (_ : Unit) => r = r0) (fun _ t => va_P D CLS (wR a q g0 g1 g2 g3 g4 g5 g6 g7 g8 g9 g10 g11 g12 g13 g14 g15 g16 g17 g18 g19) t.heap) A) args s 0 0 A) (F0 m 181 ls [.int s0]) := by
  obtain ⟨hx, hb, hml, hown, hts, hr, hlocks⟩ := id hC
  intro s0 H locs ls hP hD hS hl h
  rw [f_Ref_holds_181] at h
  obtain ⟨hz, h⟩ := og_of h
  obtain rfl := os_of h
  exact W.zret (v := s0) (ty := .boolean) hx hb hr (j_z_nar hz) (fun t ht hW => ⟨⟨_, (), rfl, rfl, (hPt hP ht)⟩, hS.F ht⟩) hS.2.2 (dt_at dt_Ref_holds 77 rfl)
set_option maxRecDepth 100000 in
set_option maxHeartbeats 4000000 in
theorem k_Ref_holds_167 {p : Program} {l : Launch} {e : Env} {s : State} {m : MethodId} {args : Array Value} {below : List Frame} {meth : Method} {c : Code} {D : va_G} {a : Nat → Nat} {q : Nat → ClassId} {A : Nat → Prop} (hC : CX p s m args meth c prog_12_method_74_code 12 "OutwardTapeModel" (some .boolean)) (hA : ∀ x, s.heap.size ≤ x → A x) (hK : va_K D CLS (tR q) s) {g0 : Int32} {g1 : Nat → Int32} {g2 : Nat → Int64} {g3 : Nat → Int64} {g4 : Nat → Int32} {g5 : Int32} {g6 : Nat → Int32} {g7 : Int32} {g8 : Nat → Int32} {g9 : Int32} {g10 : Int64} {g11 : Int64} {g12 : Int32} {g13 : Int32} {g14 : Int32} {g15 : Int64} {g16 : Int32} {g17 : Int32} {g18 : Int64} {g19 : Int32} {r0 : Int32} : ∀ (s0 : Int32)  (H : Heap) (locs : List Loc) (ls : Array Slot), va_P D CLS (wR a q g0 g1 g2 g3 g4 g5 g6 g7 g8 g9 g10 g11 g12 g13 g14 g15 g16 g17 g18 g19) H → va_D A (wR a q g0 g1 g2 g3 g4 g5 g6 g7 g8 g9 g10 g11 g12 g13 g14 g15 g16 g17 g18 g19) → va_S A s.heap H locs → lv_has ls 12 [] → f_Ref_holds_167  s0 g2 g3 = some r0 → W p l e rm_Ref_holds s m args below meth c H locs 0 0 (MQ below (va_Qi (fun (r : Int32) (_ : Unit) => r = r0) (fun _ t => va_P D CLS (wR a q g0 g1 g2 g3 g4 g5 g6 g7 g8 g9 g10 g11 g12 g13 g14 g15 g16 g17 g18 g19) t.heap) A) args s 0 0 A) (F0 m 167 ls [.int s0]) := by
  obtain ⟨hx, hb, hml, hown, hts, hr, hlocks⟩ := id hC
  intro s0 H locs ls hP hD hS hl h
  rw [f_Ref_holds_167] at h
  obtain ⟨hz, h⟩ := og_of h
  obtain rfl := os_of h
  exact W.zret (v := s0) (ty := .boolean) hx hb hr (j_z_nar hz) (fun t ht hW => ⟨⟨_, (), rfl, rfl, (hPt hP ht)⟩, hS.F ht⟩) hS.2.2 (dt_at dt_Ref_holds 69 rfl)
set_option maxRecDepth 100000 in
set_option maxHeartbeats 4000000 in
theorem k_Ref_holds_166 {p : Program} {l : Launch} {e : Env} {s : State} {m : MethodId} {args : Array Value} {below : List Frame} {meth : Method} {c : Code} {D : va_G} {a : Nat → Nat} {q : Nat → ClassId} {A : Nat → Prop} (hC : CX p s m args meth c prog_12_method_74_code 12 "OutwardTapeModel" (some .boolean)) (hA : ∀ x, s.heap.size ≤ x → A x) (hK : va_K D CLS (tR q) s) {g0 : Int32} {g1 : Nat → Int32} {g2 : Nat → Int64} {g3 : Nat → Int64} {g4 : Nat → Int32} {g5 : Int32} {g6 : Nat → Int32} {g7 : Int32} {g8 : Nat → Int32} {g9 : Int32} {g10 : Int64} {g11 : Int64} {g12 : Int32} {g13 : Int32} {g14 : Int32} {g15 : Int64} {g16 : Int32} {g17 : Int32} {g18 : Int64} {g19 : Int32} {r0 : Int32} : ∀   (H : Heap) (locs : List Loc) (ls : Array Slot), va_P D CLS (wR a q g0 g1 g2 g3 g4 g5 g6 g7 g8 g9 g10 g11 g12 g13 g14 g15 g16 g17 g18 g19) H → va_D A (wR a q g0 g1 g2 g3 g4 g5 g6 g7 g8 g9 g10 g11 g12 g13 g14 g15 g16 g17 g18 g19) → va_S A s.heap H locs → lv_has ls 12 [] → f_Ref_holds_166  g2 g3 = some r0 → W p l e rm_Ref_holds s m args below meth c H locs 0 0 (MQ below (va_Qi (fun (r : Int32) (_ : Unit) => r = r0) (fun _ t => va_P D CLS (wR a q g0 g1 g2 g3 g4 g5 g6 g7 g8 g9 g10 g11 g12 g13 g14 g15 g16 g17 g18 g19) t.heap) A) args s 0 0 A) (F0 m 166 ls []) := by
  obtain ⟨hx, hb, hml, hown, hts, hr, hlocks⟩ := id hC
  intro H locs ls hP hD hS hl h
  rw [f_Ref_holds_166] at h
  refine lv_iconst (v := 0) hx hb (dt_at dt_Ref_holds 68 rfl) (by decide) ?_
  exact k_Ref_holds_167 hC hA hK   (0 : Int32) H locs ls hP hD hS (lv_sub hl [] rfl) h
set_option maxRecDepth 100000 in
set_option maxHeartbeats 4000000 in
theorem k_Ref_holds_145 {p : Program} {l : Launch} {e : Env} {s : State} {m : MethodId} {args : Array Value} {below : List Frame} {meth : Method} {c : Code} {D : va_G} {a : Nat → Nat} {q : Nat → ClassId} {A : Nat → Prop} (hC : CX p s m args meth c prog_12_method_74_code 12 "OutwardTapeModel" (some .boolean)) (hA : ∀ x, s.heap.size ≤ x → A x) (hK : va_K D CLS (tR q) s) {g0 : Int32} {g1 : Nat → Int32} {g2 : Nat → Int64} {g3 : Nat → Int64} {g4 : Nat → Int32} {g5 : Int32} {g6 : Nat → Int32} {g7 : Int32} {g8 : Nat → Int32} {g9 : Int32} {g10 : Int64} {g11 : Int64} {g12 : Int32} {g13 : Int32} {g14 : Int32} {g15 : Int64} {g16 : Int32} {g17 : Int32} {g18 : Int64} {g19 : Int32} {r0 : Int32} : ∀ (s0 : Int32)  (H : Heap) (locs : List Loc) (ls : Array Slot), va_P D CLS (wR a q g0 g1 g2 g3 g4 g5 g6 g7 g8 g9 g10 g11 g12 g13 g14 g15 g16 g17 g18 g19) H → va_D A (wR a q g0 g1 g2 g3 g4 g5 g6 g7 g8 g9 g10 g11 g12 g13 g14 g15 g16 g17 g18 g19) → va_S A s.heap H locs → lv_has ls 12 [] → f_Ref_holds_145  s0 g2 g3 = some r0 → W p l e rm_Ref_holds s m args below meth c H locs 0 0 (MQ below (va_Qi (fun (r : Int32) (_ : Unit) => r = r0) (fun _ t => va_P D CLS (wR a q g0 g1 g2 g3 g4 g5 g6 g7 g8 g9 g10 g11 g12 g13 g14 g15 g16 g17 g18 g19) t.heap) A) args s 0 0 A) (F0 m 145 ls [.int s0]) := by
  obtain ⟨hx, hb, hml, hown, hts, hr, hlocks⟩ := id hC
  intro s0 H locs ls hP hD hS hl h
  rw [f_Ref_holds_145] at h
  obtain ⟨hz, h⟩ := og_of h
  obtain rfl := os_of h
  exact W.zret (v := s0) (ty := .boolean) hx hb hr (j_z_nar hz) (fun t ht hW => ⟨⟨_, (), rfl, rfl, (hPt hP ht)⟩, hS.F ht⟩) hS.2.2 (dt_at dt_Ref_holds 57 rfl)
set_option maxRecDepth 100000 in
set_option maxHeartbeats 4000000 in
theorem k_Ref_holds_144 {p : Program} {l : Launch} {e : Env} {s : State} {m : MethodId} {args : Array Value} {below : List Frame} {meth : Method} {c : Code} {D : va_G} {a : Nat → Nat} {q : Nat → ClassId} {A : Nat → Prop} (hC : CX p s m args meth c prog_12_method_74_code 12 "OutwardTapeModel" (some .boolean)) (hA : ∀ x, s.heap.size ≤ x → A x) (hK : va_K D CLS (tR q) s) {g0 : Int32} {g1 : Nat → Int32} {g2 : Nat → Int64} {g3 : Nat → Int64} {g4 : Nat → Int32} {g5 : Int32} {g6 : Nat → Int32} {g7 : Int32} {g8 : Nat → Int32} {g9 : Int32} {g10 : Int64} {g11 : Int64} {g12 : Int32} {g13 : Int32} {g14 : Int32} {g15 : Int64} {g16 : Int32} {g17 : Int32} {g18 : Int64} {g19 : Int32} {r0 : Int32} : ∀   (H : Heap) (locs : List Loc) (ls : Array Slot), va_P D CLS (wR a q g0 g1 g2 g3 g4 g5 g6 g7 g8 g9 g10 g11 g12 g13 g14 g15 g16 g17 g18 g19) H → va_D A (wR a q g0 g1 g2 g3 g4 g5 g6 g7 g8 g9 g10 g11 g12 g13 g14 g15 g16 g17 g18 g19) → va_S A s.heap H locs → lv_has ls 12 [] → f_Ref_holds_144  g2 g3 = some r0 → W p l e rm_Ref_holds s m args below meth c H locs 0 0 (MQ below (va_Qi (fun (r : Int32) (_ : Unit) => r = r0) (fun _ t => va_P D CLS (wR a q g0 g1 g2 g3 g4 g5 g6 g7 g8 g9 g10 g11 g12 g13 g14 g15 g16 g17 g18 g19) t.heap) A) args s 0 0 A) (F0 m 144 ls []) := by
  obtain ⟨hx, hb, hml, hown, hts, hr, hlocks⟩ := id hC
  intro H locs ls hP hD hS hl h
  rw [f_Ref_holds_144] at h
  refine lv_iconst (v := 0) hx hb (dt_at dt_Ref_holds 56 rfl) (by decide) ?_
  exact k_Ref_holds_145 hC hA hK   (0 : Int32) H locs ls hP hD hS (lv_sub hl [] rfl) h
set_option maxRecDepth 100000 in
set_option maxHeartbeats 4000000 in
theorem k_Ref_holds_119 {p : Program} {l : Launch} {e : Env} {s : State} {m : MethodId} {args : Array Value} {below : List Frame} {meth : Method} {c : Code} {D : va_G} {a : Nat → Nat} {q : Nat → ClassId} {A : Nat → Prop} (hC : CX p s m args meth c prog_12_method_74_code 12 "OutwardTapeModel" (some .boolean)) (hA : ∀ x, s.heap.size ≤ x → A x) (hK : va_K D CLS (tR q) s) {g0 : Int32} {g1 : Nat → Int32} {g2 : Nat → Int64} {g3 : Nat → Int64} {g4 : Nat → Int32} {g5 : Int32} {g6 : Nat → Int32} {g7 : Int32} {g8 : Nat → Int32} {g9 : Int32} {g10 : Int64} {g11 : Int64} {g12 : Int32} {g13 : Int32} {g14 : Int32} {g15 : Int64} {g16 : Int32} {g17 : Int32} {g18 : Int64} {g19 : Int32} {r0 : Int32} : ∀ (s0 : Int32)  (H : Heap) (locs : List Loc) (ls : Array Slot), va_P D CLS (wR a q g0 g1 g2 g3 g4 g5 g6 g7 g8 g9 g10 g11 g12 g13 g14 g15 g16 g17 g18 g19) H → va_D A (wR a q g0 g1 g2 g3 g4 g5 g6 g7 g8 g9 g10 g11 g12 g13 g14 g15 g16 g17 g18 g19) → va_S A s.heap H locs → lv_has ls 12 [] → f_Ref_holds_119  s0 g2 g3 = some r0 → W p l e rm_Ref_holds s m args below meth c H locs 0 0 (MQ below (va_Qi (fun (r : Int32) (_ : Unit) => r = r0) (fun _ t => va_P D CLS (wR a q g0 g1 g2 g3 g4 g5 g6 g7 g8 g9 g10 g11 g12 g13 g14 g15 g16 g17 g18 g19) t.heap) A) args s 0 0 A) (F0 m 119 ls [.int s0]) := by
  obtain ⟨hx, hb, hml, hown, hts, hr, hlocks⟩ := id hC
  intro s0 H locs ls hP hD hS hl h
  rw [f_Ref_holds_119] at h
  obtain ⟨hz, h⟩ := og_of h
  obtain rfl := os_of h
  exact W.zret (v := s0) (ty := .boolean) hx hb hr (j_z_nar hz) (fun t ht hW => ⟨⟨_, (), rfl, rfl, (hPt hP ht)⟩, hS.F ht⟩) hS.2.2 (dt_at dt_Ref_holds 45 rfl)
set_option maxRecDepth 100000 in
set_option maxHeartbeats 4000000 in
theorem k_Ref_holds_118 {p : Program} {l : Launch} {e : Env} {s : State} {m : MethodId} {args : Array Value} {below : List Frame} {meth : Method} {c : Code} {D : va_G} {a : Nat → Nat} {q : Nat → ClassId} {A : Nat → Prop} (hC : CX p s m args meth c prog_12_method_74_code 12 "OutwardTapeModel" (some .boolean)) (hA : ∀ x, s.heap.size ≤ x → A x) (hK : va_K D CLS (tR q) s) {g0 : Int32} {g1 : Nat → Int32} {g2 : Nat → Int64} {g3 : Nat → Int64} {g4 : Nat → Int32} {g5 : Int32} {g6 : Nat → Int32} {g7 : Int32} {g8 : Nat → Int32} {g9 : Int32} {g10 : Int64} {g11 : Int64} {g12 : Int32} {g13 : Int32} {g14 : Int32} {g15 : Int64} {g16 : Int32} {g17 : Int32} {g18 : Int64} {g19 : Int32} {r0 : Int32} : ∀   (H : Heap) (locs : List Loc) (ls : Array Slot), va_P D CLS (wR a q g0 g1 g2 g3 g4 g5 g6 g7 g8 g9 g10 g11 g12 g13 g14 g15 g16 g17 g18 g19) H → va_D A (wR a q g0 g1 g2 g3 g4 g5 g6 g7 g8 g9 g10 g11 g12 g13 g14 g15 g16 g17 g18 g19) → va_S A s.heap H locs → lv_has ls 12 [] → f_Ref_holds_118  g2 g3 = some r0 → W p l e rm_Ref_holds s m args below meth c H locs 0 0 (MQ below (va_Qi (fun (r : Int32) (_ : Unit) => r = r0) (fun _ t => va_P D CLS (wR a q g0 g1 g2 g3 g4 g5 g6 g7 g8 g9 g10 g11 g12 g13 g14 g15 g16 g17 g18 g19) t.heap) A) args s 0 0 A) (F0 m 118 ls []) := by
  obtain ⟨hx, hb, hml, hown, hts, hr, hlocks⟩ := id hC
  intro H locs ls hP hD hS hl h
  rw [f_Ref_holds_118] at h
  refine lv_iconst (v := 0) hx hb (dt_at dt_Ref_holds 44 rfl) (by decide) ?_
  exact k_Ref_holds_119 hC hA hK   (0 : Int32) H locs ls hP hD hS (lv_sub hl [] rfl) h
set_option maxRecDepth 100000 in
set_option maxHeartbeats 4000000 in
theorem k_Ref_holds_97 {p : Program} {l : Launch} {e : Env} {s : State} {m : MethodId} {args : Array Value} {below : List Frame} {meth : Method} {c : Code} {D : va_G} {a : Nat → Nat} {q : Nat → ClassId} {A : Nat → Prop} (hC : CX p s m args meth c prog_12_method_74_code 12 "OutwardTapeModel" (some .boolean)) (hA : ∀ x, s.heap.size ≤ x → A x) (hK : va_K D CLS (tR q) s) {g0 : Int32} {g1 : Nat → Int32} {g2 : Nat → Int64} {g3 : Nat → Int64} {g4 : Nat → Int32} {g5 : Int32} {g6 : Nat → Int32} {g7 : Int32} {g8 : Nat → Int32} {g9 : Int32} {g10 : Int64} {g11 : Int64} {g12 : Int32} {g13 : Int32} {g14 : Int32} {g15 : Int64} {g16 : Int32} {g17 : Int32} {g18 : Int64} {g19 : Int32} {r0 : Int32} : ∀ (s0 : Int32)  (H : Heap) (locs : List Loc) (ls : Array Slot), va_P D CLS (wR a q g0 g1 g2 g3 g4 g5 g6 g7 g8 g9 g10 g11 g12 g13 g14 g15 g16 g17 g18 g19) H → va_D A (wR a q g0 g1 g2 g3 g4 g5 g6 g7 g8 g9 g10 g11 g12 g13 g14 g15 g16 g17 g18 g19) → va_S A s.heap H locs → lv_has ls 12 [] → f_Ref_holds_97  s0 g2 g3 = some r0 → W p l e rm_Ref_holds s m args below meth c H locs 0 0 (MQ below (va_Qi (fun (r : Int32) (_ : Unit) => r = r0) (fun _ t => va_P D CLS (wR a q g0 g1 g2 g3 g4 g5 g6 g7 g8 g9 g10 g11 g12 g13 g14 g15 g16 g17 g18 g19) t.heap) A) args s 0 0 A) (F0 m 97 ls [.int s0]) := by
  obtain ⟨hx, hb, hml, hown, hts, hr, hlocks⟩ := id hC
  intro s0 H locs ls hP hD hS hl h
  rw [f_Ref_holds_97] at h
  obtain ⟨hz, h⟩ := og_of h
  obtain rfl := os_of h
  exact W.zret (v := s0) (ty := .boolean) hx hb hr (j_z_nar hz) (fun t ht hW => ⟨⟨_, (), rfl, rfl, (hPt hP ht)⟩, hS.F ht⟩) hS.2.2 (dt_at dt_Ref_holds 33 rfl)
set_option maxRecDepth 100000 in
set_option maxHeartbeats 4000000 in
theorem k_Ref_holds_96 {p : Program} {l : Launch} {e : Env} {s : State} {m : MethodId} {args : Array Value} {below : List Frame} {meth : Method} {c : Code} {D : va_G} {a : Nat → Nat} {q : Nat → ClassId} {A : Nat → Prop} (hC : CX p s m args meth c prog_12_method_74_code 12 "OutwardTapeModel" (some .boolean)) (hA : ∀ x, s.heap.size ≤ x → A x) (hK : va_K D CLS (tR q) s) {g0 : Int32} {g1 : Nat → Int32} {g2 : Nat → Int64} {g3 : Nat → Int64} {g4 : Nat → Int32} {g5 : Int32} {g6 : Nat → Int32} {g7 : Int32} {g8 : Nat → Int32} {g9 : Int32} {g10 : Int64} {g11 : Int64} {g12 : Int32} {g13 : Int32} {g14 : Int32} {g15 : Int64} {g16 : Int32} {g17 : Int32} {g18 : Int64} {g19 : Int32} {r0 : Int32} : ∀   (H : Heap) (locs : List Loc) (ls : Array Slot), va_P D CLS (wR a q g0 g1 g2 g3 g4 g5 g6 g7 g8 g9 g10 g11 g12 g13 g14 g15 g16 g17 g18 g19) H → va_D A (wR a q g0 g1 g2 g3 g4 g5 g6 g7 g8 g9 g10 g11 g12 g13 g14 g15 g16 g17 g18 g19) → va_S A s.heap H locs → lv_has ls 12 [] → f_Ref_holds_96  g2 g3 = some r0 → W p l e rm_Ref_holds s m args below meth c H locs 0 0 (MQ below (va_Qi (fun (r : Int32) (_ : Unit) => r = r0) (fun _ t => va_P D CLS (wR a q g0 g1 g2 g3 g4 g5 g6 g7 g8 g9 g10 g11 g12 g13 g14 g15 g16 g17 g18 g19) t.heap) A) args s 0 0 A) (F0 m 96 ls []) := by
  obtain ⟨hx, hb, hml, hown, hts, hr, hlocks⟩ := id hC
  intro H locs ls hP hD hS hl h
  rw [f_Ref_holds_96] at h
  refine lv_iconst (v := 0) hx hb (dt_at dt_Ref_holds 32 rfl) (by decide) ?_
  exact k_Ref_holds_97 hC hA hK   (0 : Int32) H locs ls hP hD hS (lv_sub hl [] rfl) h
set_option maxRecDepth 100000 in
set_option maxHeartbeats 4000000 in
theorem k_Ref_holds_0 {p : Program} {l : Launch} {e : Env} {s : State} {m : MethodId} {args : Array Value} {below : List Frame} {meth : Method} {c : Code} {D : va_G} {a : Nat → Nat} {q : Nat → ClassId} {A : Nat → Prop} (hC : CX p s m args meth c prog_12_method_74_code 12 "OutwardTapeModel" (some .boolean)) (hA : ∀ x, s.heap.size ≤ x → A x) (hK : va_K D CLS (tR q) s) {g0 : Int32} {g1 : Nat → Int32} {g2 : Nat → Int64} {g3 : Nat → Int64} {g4 : Nat → Int32} {g5 : Int32} {g6 : Nat → Int32} {g7 : Int32} {g8 : Nat → Int32} {g9 : Int32} {g10 : Int64} {g11 : Int64} {g12 : Int32} {g13 : Int32} {g14 : Int32} {g15 : Int64} {g16 : Int32} {g17 : Int32} {g18 : Int64} {g19 : Int32} {r0 : Int32} : ∀ (v1 : Int32) (v2 : Int32) (v3 : Int32)  (H : Heap) (locs : List Loc) (ls : Array Slot), va_P D CLS (wR a q g0 g1 g2 g3 g4 g5 g6 g7 g8 g9 g10 g11 g12 g13 g14 g15 g16 g17 g18 g19) H → va_D A (wR a q g0 g1 g2 g3 g4 g5 g6 g7 g8 g9 g10 g11 g12 g13 g14 g15 g16 g17 g18 g19) → va_S A s.heap H locs → lv_has ls 12 [(0, .ref (a 0)), (1, .int v1), (2, .int v2), (3, .int v3)] → f_Ref_holds_0  v1 v2 v3 g2 g3 = some r0 → W p l e rm_Ref_holds s m args below meth c H locs 0 0 (MQ below (va_Qi (fun (r : Int32) (_ : Unit) => r = r0) (fun _ t => va_P D CLS (wR a q g0 g1 g2 g3 g4 g5 g6 g7 g8 g9 g10 g11 g12 g13 g14 g15 g16 g17 g18 g19) t.heap) A) args s 0 0 A) (F0 m 0 ls []) := by
  obtain ⟨hx, hb, hml, hown, hts, hr, hlocks⟩ := id hC
  intro v1 v2 v3 H locs ls hP hD hS hl h
  rw [f_Ref_holds_0] at h
  refine lv_aload_n hx hb (dt_at dt_Ref_holds 0 rfl) rfl (lv_at hl 0 rfl) ?_
  refine va_get (D := D) (ci := 0) (v := .ref (a 2)) (C := "OutwardTapeModel") (T := T_Ref) (N := 20) hx hb hts in_Ref hown hK hP 0 rfl rfl 2 (by decide) (hts (Cond.fieldLink "OutwardTapeModel" 13 "OutwardTapeModel" "low" "[J") (m_4 1 rfl rfl)) (fun _ h9 => h9) rfl (dt_at dt_Ref_holds 1 rfl) ?_
  refine lv_iload_n hx hb (dt_at dt_Ref_holds 2 rfl) rfl (lv_at hl 2 rfl) ?_
  obtain ⟨z1, h⟩ := og_of h
  refine va_lald hx hb hK hP 2 1 rfl rfl z1 (dt_at dt_Ref_holds 3 rfl) ?_
  obtain ⟨t2, e_t2, h⟩ := ol_of h
  refine lv_topl (fun u_t2 q_t2 => ?_)
  obtain rfl : t2 = u_t2 := e_t2.trans q_t2.symm
  refine lv_lstore (lv' := [(4, .long t2), (0, .ref (a 0)), (1, .int v1), (2, .int v2), (3, .int v3)]) hx hb (dt_at dt_Ref_holds 4 rfl) hl (by decide) rfl (fun ls hl => ?_)
  refine lv_aload_n hx hb (dt_at dt_Ref_holds 5 rfl) rfl (lv_at hl 1 rfl) ?_
  refine va_get (D := D) (ci := 0) (v := .ref (a 3)) (C := "OutwardTapeModel") (T := T_Ref) (N := 20) hx hb hts in_Ref hown hK hP 0 rfl rfl 3 (by decide) (hts (Cond.fieldLink "OutwardTapeModel" 17 "OutwardTapeModel" "high" "[J") (m_4 2 rfl rfl)) (fun _ h9 => h9) rfl (dt_at dt_Ref_holds 6 rfl) ?_
  refine lv_iload_n hx hb (dt_at dt_Ref_holds 7 rfl) rfl (lv_at hl 3 rfl) ?_
  obtain ⟨z3, h⟩ := og_of h
  refine va_lald hx hb hK hP 3 2 rfl rfl z3 (dt_at dt_Ref_holds 8 rfl) ?_
  obtain ⟨t4, e_t4, h⟩ := ol_of h
  refine lv_topl (fun u_t4 q_t4 => ?_)
  obtain rfl : t4 = u_t4 := e_t4.trans q_t4.symm
  refine lv_lstore (lv' := [(6, .long t4), (4, .long t2), (0, .ref (a 0)), (1, .int v1), (2, .int v2), (3, .int v3)]) hx hb (dt_at dt_Ref_holds 9 rfl) hl (by decide) rfl (fun ls hl => ?_)
  refine lv_aload_n hx hb (dt_at dt_Ref_holds 10 rfl) rfl (lv_at hl 2 rfl) ?_
  refine va_get (D := D) (ci := 0) (v := .ref (a 2)) (C := "OutwardTapeModel") (T := T_Ref) (N := 20) hx hb hts in_Ref hown hK hP 0 rfl rfl 2 (by decide) (hts (Cond.fieldLink "OutwardTapeModel" 13 "OutwardTapeModel" "low" "[J") (m_4 1 rfl rfl)) (fun _ h9 => h9) rfl (dt_at dt_Ref_holds 11 rfl) ?_
  refine lv_iload_n hx hb (dt_at dt_Ref_holds 12 rfl) rfl (lv_at hl 5 rfl) ?_
  obtain ⟨z5, h⟩ := og_of h
  refine va_lald hx hb hK hP 2 1 rfl rfl z5 (dt_at dt_Ref_holds 13 rfl) ?_
  obtain ⟨t6, e_t6, h⟩ := ol_of h
  refine lv_topl (fun u_t6 q_t6 => ?_)
  obtain rfl : t6 = u_t6 := e_t6.trans q_t6.symm
  refine lv_lstore (lv' := [(8, .long t6), (6, .long t4), (4, .long t2), (0, .ref (a 0)), (1, .int v1), (2, .int v2), (3, .int v3)]) hx hb (dt_at dt_Ref_holds 14 rfl) hl (by decide) rfl (fun ls hl => ?_)
  refine lv_aload_n hx hb (dt_at dt_Ref_holds 15 rfl) rfl (lv_at hl 3 rfl) ?_
  refine va_get (D := D) (ci := 0) (v := .ref (a 3)) (C := "OutwardTapeModel") (T := T_Ref) (N := 20) hx hb hts in_Ref hown hK hP 0 rfl rfl 3 (by decide) (hts (Cond.fieldLink "OutwardTapeModel" 17 "OutwardTapeModel" "high" "[J") (m_4 2 rfl rfl)) (fun _ h9 => h9) rfl (dt_at dt_Ref_holds 16 rfl) ?_
  refine lv_iload_n hx hb (dt_at dt_Ref_holds 17 rfl) rfl (lv_at hl 6 rfl) ?_
  obtain ⟨z7, h⟩ := og_of h
  refine va_lald hx hb hK hP 3 2 rfl rfl z7 (dt_at dt_Ref_holds 18 rfl) ?_
  obtain ⟨t8, e_t8, h⟩ := ol_of h
  refine lv_topl (fun u_t8 q_t8 => ?_)
  obtain rfl : t8 = u_t8 := e_t8.trans q_t8.symm
  refine lv_lstore (lv' := [(10, .long t8), (8, .long t6), (6, .long t4), (4, .long t2), (0, .ref (a 0)), (1, .int v1), (2, .int v2), (3, .int v3)]) hx hb (dt_at dt_Ref_holds 19 rfl) hl (by decide) rfl (fun ls hl => ?_)
  refine lv_iload_n hx hb (dt_at dt_Ref_holds 20 rfl) rfl (lv_at hl 5 rfl) ?_
  by_cases c9 : v1 = (0 : Int32)
  · have h := if_p h c9
    refine lv_tableIn (off := 43) (tgt := 76) hx hb (dt_at dt_Ref_holds 21 rfl) (by rw [c9]; decide) (by rw [c9]; decide) (by rw [c9]; rfl) (by decide) ?_
    refine lv_lload hx hb (dt_at dt_Ref_holds 22 rfl) (lv_at hl 3 rfl) ?_
    refine lv_lload hx hb (dt_at dt_Ref_holds 23 rfl) (lv_at hl 1 rfl) ?_
    refine lc_ne (tgt := 96) hx hb (dt_at dt_Ref_holds 24 rfl) (dt_at dt_Ref_holds 25 rfl) (by decide) (fun c10 => ?_) (fun c10 => ?_)
    · have h := if_n h c10
      exact k_Ref_holds_96 hC hA hK   H locs ls hP hD hS (lv_sub hl [] rfl) h
    · have h := if_p h c10
      refine lv_lload hx hb (dt_at dt_Ref_holds 26 rfl) (lv_at hl 2 rfl) ?_
      refine lv_lload hx hb (dt_at dt_Ref_holds 27 rfl) (lv_at hl 0 rfl) ?_
      refine lc_ne (tgt := 96) hx hb (dt_at dt_Ref_holds 28 rfl) (dt_at dt_Ref_holds 29 rfl) (by decide) (fun c11 => ?_) (fun c11 => ?_)
      · have h := if_n h c11
        exact k_Ref_holds_96 hC hA hK   H locs ls hP hD hS (lv_sub hl [] rfl) h
      · have h := if_p h c11
        refine lv_iconst (v := 1) hx hb (dt_at dt_Ref_holds 30 rfl) (by decide) ?_
        refine lv_goto (tgt := 97) hx hb (dt_at dt_Ref_holds 31 rfl) (by decide) ?_
        exact k_Ref_holds_97 hC hA hK   (1 : Int32) H locs ls hP hD hS (lv_sub hl [] rfl) h
  · have h := if_n h c9
    by_cases c12 : v1 = (1 : Int32)
    · have h := if_p h c12
      refine lv_tableIn (off := 65) (tgt := 98) hx hb (dt_at dt_Ref_holds 21 rfl) (by rw [c12]; decide) (by rw [c12]; decide) (by rw [c12]; rfl) (by decide) ?_
      refine lv_lload hx hb (dt_at dt_Ref_holds 34 rfl) (lv_at hl 1 rfl) ?_
      refine lv_lload hx hb (dt_at dt_Ref_holds 35 rfl) (lv_at hl 3 rfl) ?_
      refine lc_gt (tgt := 118) hx hb (dt_at dt_Ref_holds 36 rfl) (dt_at dt_Ref_holds 37 rfl) (by decide) (fun c13 => ?_) (fun c13 => ?_)
      · have h := if_p h c13
        exact k_Ref_holds_118 hC hA hK   H locs ls hP hD hS (lv_sub hl [] rfl) h
      · have h := if_n h c13
        refine lv_lload hx hb (dt_at dt_Ref_holds 38 rfl) (lv_at hl 2 rfl) ?_
        refine lv_lload hx hb (dt_at dt_Ref_holds 39 rfl) (lv_at hl 0 rfl) ?_
        refine lc_gt (tgt := 118) hx hb (dt_at dt_Ref_holds 40 rfl) (dt_at dt_Ref_holds 41 rfl) (by decide) (fun c14 => ?_) (fun c14 => ?_)
        · have h := if_p h c14
          exact k_Ref_holds_118 hC hA hK   H locs ls hP hD hS (lv_sub hl [] rfl) h
        · have h := if_n h c14
          refine lv_iconst (v := 1) hx hb (dt_at dt_Ref_holds 42 rfl) (by decide) ?_
          refine lv_goto (tgt := 119) hx hb (dt_at dt_Ref_holds 43 rfl) (by decide) ?_
          exact k_Ref_holds_119 hC hA hK   (1 : Int32) H locs ls hP hD hS (lv_sub hl [] rfl) h
    · have h := if_n h c12
      by_cases c15 : v1 = (2 : Int32)
      · have h := if_p h c15
        refine lv_tableIn (off := 87) (tgt := 120) hx hb (dt_at dt_Ref_holds 21 rfl) (by rw [c15]; decide) (by rw [c15]; decide) (by rw [c15]; rfl) (by decide) ?_
        refine lv_lload hx hb (dt_at dt_Ref_holds 46 rfl) (lv_at hl 1 rfl) ?_
        refine lv_lload hx hb (dt_at dt_Ref_holds 47 rfl) (lv_at hl 3 rfl) ?_
        obtain ⟨r16, h_r16, h⟩ := ob_of h
        refine vp_callSi (W.runS (As := [.long t6, .long t2]) (rest := []) ⟨hx, hb, hml, hown, hts⟩ (c_Ref_under l t6 t2 r16 h_r16) (va_cwS 2 hts (gd_S (m_5 118 rfl rfl) (m_5 119 rfl rfl) (m_1 4 rfl rfl) (m_5 120 rfl rfl)) rfl rfl rfl (by decide +kernel) ⟨Nat.le_of_ble_eq_true rfl, Nat.le_of_ble_eq_true rfl⟩) ⟨fun _ _ _ _ q => q, fun U hU hW => ⟨rfl, trivial⟩⟩ rfl rfl hl.1 rfl (lv_room (Nat.le_of_ble_eq_true rfl)) (dt_at dt_Ref_holds 48 rfl) ⟨Nat.le_of_ble_eq_true rfl, Nat.le_of_ble_eq_true rfl⟩) (fun u_r16 q_r16 => ?_)
        obtain rfl : r16 = u_r16 := q_r16.symm
        refine lv_if_eq (tgt := 144) hx hb (dt_at dt_Ref_holds 49 rfl) (by decide) (fun c17 => ?_) (fun c17 => ?_)
        · have h := if_p h c17
          exact k_Ref_holds_144 hC hA hK   H locs ls hP hD hS (lv_sub hl [] rfl) h
        · have h := if_n h c17
          refine lv_lload hx hb (dt_at dt_Ref_holds 50 rfl) (lv_at hl 2 rfl) ?_
          refine lv_lload hx hb (dt_at dt_Ref_holds 51 rfl) (lv_at hl 0 rfl) ?_
          obtain ⟨r18, h_r18, h⟩ := ob_of h
          refine vp_callSi (W.runS (As := [.long t4, .long t8]) (rest := []) ⟨hx, hb, hml, hown, hts⟩ (c_Ref_under l t4 t8 r18 h_r18) (va_cwS 2 hts (gd_S (m_5 118 rfl rfl) (m_5 119 rfl rfl) (m_1 4 rfl rfl) (m_5 120 rfl rfl)) rfl rfl rfl (by decide +kernel) ⟨Nat.le_of_ble_eq_true rfl, Nat.le_of_ble_eq_true rfl⟩) ⟨fun _ _ _ _ q => q, fun U hU hW => ⟨rfl, trivial⟩⟩ rfl rfl hl.1 rfl (lv_room (Nat.le_of_ble_eq_true rfl)) (dt_at dt_Ref_holds 52 rfl) ⟨Nat.le_of_ble_eq_true rfl, Nat.le_of_ble_eq_true rfl⟩) (fun u_r18 q_r18 => ?_)
          obtain rfl : r18 = u_r18 := q_r18.symm
          refine lv_if_eq (tgt := 144) hx hb (dt_at dt_Ref_holds 53 rfl) (by decide) (fun c19 => ?_) (fun c19 => ?_)
          · have h := if_p h c19
            exact k_Ref_holds_144 hC hA hK   H locs ls hP hD hS (lv_sub hl [] rfl) h
          · have h := if_n h c19
            refine lv_iconst (v := 1) hx hb (dt_at dt_Ref_holds 54 rfl) (by decide) ?_
            refine lv_goto (tgt := 145) hx hb (dt_at dt_Ref_holds 55 rfl) (by decide) ?_
            exact k_Ref_holds_145 hC hA hK   (1 : Int32) H locs ls hP hD hS (lv_sub hl [] rfl) h
      · have h := if_n h c15
        by_cases c20 : v1 = (3 : Int32)
        · have h := if_p h c20
          refine lv_tableIn (off := 113) (tgt := 146) hx hb (dt_at dt_Ref_holds 21 rfl) (by rw [c20]; decide) (by rw [c20]; decide) (by rw [c20]; rfl) (by decide) ?_
          refine lv_lload hx hb (dt_at dt_Ref_holds 58 rfl) (lv_at hl 3 rfl) ?_
          refine lv_lload hx hb (dt_at dt_Ref_holds 59 rfl) (lv_at hl 1 rfl) ?_
          refine lc_gt (tgt := 166) hx hb (dt_at dt_Ref_holds 60 rfl) (dt_at dt_Ref_holds 61 rfl) (by decide) (fun c21 => ?_) (fun c21 => ?_)
          · have h := if_p h c21
            exact k_Ref_holds_166 hC hA hK   H locs ls hP hD hS (lv_sub hl [] rfl) h
          · have h := if_n h c21
            refine lv_lload hx hb (dt_at dt_Ref_holds 62 rfl) (lv_at hl 2 rfl) ?_
            refine lv_lload hx hb (dt_at dt_Ref_holds 63 rfl) (lv_at hl 0 rfl) ?_
            refine lc_gt (tgt := 166) hx hb (dt_at dt_Ref_holds 64 rfl) (dt_at dt_Ref_holds 65 rfl) (by decide) (fun c22 => ?_) (fun c22 => ?_)
            · have h := if_p h c22
              exact k_Ref_holds_166 hC hA hK   H locs ls hP hD hS (lv_sub hl [] rfl) h
            · have h := if_n h c22
              refine lv_iconst (v := 1) hx hb (dt_at dt_Ref_holds 66 rfl) (by decide) ?_
              refine lv_goto (tgt := 167) hx hb (dt_at dt_Ref_holds 67 rfl) (by decide) ?_
              exact k_Ref_holds_167 hC hA hK   (1 : Int32) H locs ls hP hD hS (lv_sub hl [] rfl) h
        · have h := if_n h c20
          by_cases c23 : v1 = (4 : Int32)
          · have h := if_p h c23
            refine lv_tableIn (off := 135) (tgt := 168) hx hb (dt_at dt_Ref_holds 21 rfl) (by rw [c23]; decide) (by rw [c23]; decide) (by rw [c23]; rfl) (by decide) ?_
            refine lv_lload hx hb (dt_at dt_Ref_holds 70 rfl) (lv_at hl 2 rfl) ?_
            refine lv_lload hx hb (dt_at dt_Ref_holds 71 rfl) (lv_at hl 1 rfl) ?_
            refine lc_gt (tgt := 180) hx hb (dt_at dt_Ref_holds 72 rfl) (dt_at dt_Ref_holds 73 rfl) (by decide) (fun c24 => ?_) (fun c24 => ?_)
            · have h := if_p h c24
              refine lv_iconst (v := 0) hx hb (dt_at dt_Ref_holds 76 rfl) (by decide) ?_
              exact k_Ref_holds_181 hC hA hK   (0 : Int32) H locs ls hP hD hS (lv_sub hl [] rfl) h
            · have h := if_n h c24
              refine lv_iconst (v := 1) hx hb (dt_at dt_Ref_holds 74 rfl) (by decide) ?_
              refine lv_goto (tgt := 181) hx hb (dt_at dt_Ref_holds 75 rfl) (by decide) ?_
              exact k_Ref_holds_181 hC hA hK   (1 : Int32) H locs ls hP hD hS (lv_sub hl [] rfl) h
          · have h := if_n h c23
            by_cases c25 : v1 = (5 : Int32)
            · have h := if_p h c25
              refine lv_tableIn (off := 149) (tgt := 182) hx hb (dt_at dt_Ref_holds 21 rfl) (by rw [c25]; decide) (by rw [c25]; decide) (by rw [c25]; rfl) (by decide) ?_
              refine lv_lload hx hb (dt_at dt_Ref_holds 78 rfl) (lv_at hl 3 rfl) ?_
              refine lv_lload hx hb (dt_at dt_Ref_holds 79 rfl) (lv_at hl 1 rfl) ?_
              obtain ⟨r26, h_r26, h⟩ := ob_of h
              refine vp_callSi (W.runS (As := [.long t2, .long t6]) (rest := []) ⟨hx, hb, hml, hown, hts⟩ (c_Ref_under l t2 t6 r26 h_r26) (va_cwS 2 hts (gd_S (m_5 118 rfl rfl) (m_5 119 rfl rfl) (m_1 4 rfl rfl) (m_5 120 rfl rfl)) rfl rfl rfl (by decide +kernel) ⟨Nat.le_of_ble_eq_true rfl, Nat.le_of_ble_eq_true rfl⟩) ⟨fun _ _ _ _ q => q, fun U hU hW => ⟨rfl, trivial⟩⟩ rfl rfl hl.1 rfl (lv_room (Nat.le_of_ble_eq_true rfl)) (dt_at dt_Ref_holds 80 rfl) ⟨Nat.le_of_ble_eq_true rfl, Nat.le_of_ble_eq_true rfl⟩) (fun u_r26 q_r26 => ?_)
              obtain rfl : r26 = u_r26 := q_r26.symm
              refine lv_if_eq (tgt := 206) hx hb (dt_at dt_Ref_holds 81 rfl) (by decide) (fun c27 => ?_) (fun c27 => ?_)
              · have h := if_p h c27
                exact k_Ref_holds_206 hC hA hK   H locs ls hP hD hS (lv_sub hl [] rfl) h
              · have h := if_n h c27
                refine lv_lload hx hb (dt_at dt_Ref_holds 82 rfl) (lv_at hl 2 rfl) ?_
                refine lv_lload hx hb (dt_at dt_Ref_holds 83 rfl) (lv_at hl 0 rfl) ?_
                obtain ⟨r28, h_r28, h⟩ := ob_of h
                refine vp_callSi (W.runS (As := [.long t4, .long t8]) (rest := []) ⟨hx, hb, hml, hown, hts⟩ (c_Ref_under l t4 t8 r28 h_r28) (va_cwS 2 hts (gd_S (m_5 118 rfl rfl) (m_5 119 rfl rfl) (m_1 4 rfl rfl) (m_5 120 rfl rfl)) rfl rfl rfl (by decide +kernel) ⟨Nat.le_of_ble_eq_true rfl, Nat.le_of_ble_eq_true rfl⟩) ⟨fun _ _ _ _ q => q, fun U hU hW => ⟨rfl, trivial⟩⟩ rfl rfl hl.1 rfl (lv_room (Nat.le_of_ble_eq_true rfl)) (dt_at dt_Ref_holds 84 rfl) ⟨Nat.le_of_ble_eq_true rfl, Nat.le_of_ble_eq_true rfl⟩) (fun u_r28 q_r28 => ?_)
                obtain rfl : r28 = u_r28 := q_r28.symm
                refine lv_if_eq (tgt := 206) hx hb (dt_at dt_Ref_holds 85 rfl) (by decide) (fun c29 => ?_) (fun c29 => ?_)
                · have h := if_p h c29
                  exact k_Ref_holds_206 hC hA hK   H locs ls hP hD hS (lv_sub hl [] rfl) h
                · have h := if_n h c29
                  refine lv_iconst (v := 1) hx hb (dt_at dt_Ref_holds 86 rfl) (by decide) ?_
                  refine lv_goto (tgt := 207) hx hb (dt_at dt_Ref_holds 87 rfl) (by decide) ?_
                  exact k_Ref_holds_207 hC hA hK   (1 : Int32) H locs ls hP hD hS (lv_sub hl [] rfl) h
            · have h := if_n h c25
              by_cases c30 : v1 = (6 : Int32)
              · have h := if_p h c30
                refine lv_tableIn (off := 175) (tgt := 208) hx hb (dt_at dt_Ref_holds 21 rfl) (by rw [c30]; decide) (by rw [c30]; decide) (by rw [c30]; rfl) (by decide) ?_
                refine lv_lload hx hb (dt_at dt_Ref_holds 90 rfl) (lv_at hl 2 rfl) ?_
                refine lv_lload hx hb (dt_at dt_Ref_holds 91 rfl) (lv_at hl 1 rfl) ?_
                refine lc_ge (tgt := 220) hx hb (dt_at dt_Ref_holds 92 rfl) (dt_at dt_Ref_holds 93 rfl) (by decide) (fun c31 => ?_) (fun c31 => ?_)
                · have h := if_p h c31
                  refine lv_iconst (v := 0) hx hb (dt_at dt_Ref_holds 96 rfl) (by decide) ?_
                  exact k_Ref_holds_221 hC hA hK   (0 : Int32) H locs ls hP hD hS (lv_sub hl [] rfl) h
                · have h := if_n h c31
                  refine lv_iconst (v := 1) hx hb (dt_at dt_Ref_holds 94 rfl) (by decide) ?_
                  refine lv_goto (tgt := 221) hx hb (dt_at dt_Ref_holds 95 rfl) (by decide) ?_
                  exact k_Ref_holds_221 hC hA hK   (1 : Int32) H locs ls hP hD hS (lv_sub hl [] rfl) h
              · have h := if_n h c30
                have ho : (v1 : Int32).toInt < 0 ∨ 6 < (v1 : Int32).toInt := by
                  have n_c9 := ne_i c9 (show (0 : Int32).toInt = 0 by decide)
                  have n_c12 := ne_i c12 (show (1 : Int32).toInt = 1 by decide)
                  have n_c15 := ne_i c15 (show (2 : Int32).toInt = 2 by decide)
                  have n_c20 := ne_i c20 (show (3 : Int32).toInt = 3 by decide)
                  have n_c23 := ne_i c23 (show (4 : Int32).toInt = 4 by decide)
                  have n_c25 := ne_i c25 (show (5 : Int32).toInt = 5 by decide)
                  have n_c30 := ne_i c30 (show (6 : Int32).toInt = 6 by decide)
                  omega
                refine lv_tableOut (tgt := 222) hx hb (dt_at dt_Ref_holds 21 rfl) ho (by decide) ?_
                refine lv_lload hx hb (dt_at dt_Ref_holds 98 rfl) (lv_at hl 2 rfl) ?_
                refine lv_lload hx hb (dt_at dt_Ref_holds 99 rfl) (lv_at hl 1 rfl) ?_
                refine lc_lt (tgt := 238) hx hb (dt_at dt_Ref_holds 100 rfl) (dt_at dt_Ref_holds 101 rfl) (by decide) (fun c32 => ?_) (fun c32 => ?_)
                · have h := if_p h c32
                  exact k_Ref_holds_238 hC hA hK   H locs ls hP hD hS (lv_sub hl [] rfl) h
                · have h := if_n h c32
                  refine lv_lload hx hb (dt_at dt_Ref_holds 102 rfl) (lv_at hl 0 rfl) ?_
                  refine lv_lload hx hb (dt_at dt_Ref_holds 103 rfl) (lv_at hl 3 rfl) ?_
                  refine lc_ge (tgt := 242) hx hb (dt_at dt_Ref_holds 104 rfl) (dt_at dt_Ref_holds 105 rfl) (by decide) (fun c33 => ?_) (fun c33 => ?_)
                  · have h := if_p h c33
                    refine lv_iconst (v := 0) hx hb (dt_at dt_Ref_holds 108 rfl) (by decide) ?_
                    exact k_Ref_holds_243 hC hA hK   (0 : Int32) H locs ls hP hD hS (lv_sub hl [] rfl) h
                  · have h := if_n h c33
                    exact k_Ref_holds_238 hC hA hK   H locs ls hP hD hS (lv_sub hl [] rfl) h
set_option maxRecDepth 100000 in
set_option maxHeartbeats 4000000 in
theorem c_Ref_holds (l : Launch) (D : va_G) (a : Nat → Nat) (q : Nat → ClassId) (hd : va_D (fun _ => True) (dR a)) (sz : Nat) (a1 : Int32) (a2 : Int32) (a3 : Int32) (g0 : Int32) (g1 : Nat → Int32) (g2 : Nat → Int64) (g3 : Nat → Int64) (g4 : Nat → Int32) (g5 : Int32) (g6 : Nat → Int32) (g7 : Int32) (g8 : Nat → Int32) (g9 : Int32) (g10 : Int64) (g11 : Int64) (g12 : Int32) (g13 : Int32) (g14 : Int32) (g15 : Int64) (g16 : Int32) (g17 : Int32) (g18 : Int64) (g19 : Int32) (r0 : Int32) (h : f_Ref_holds a1 a2 a3 g2 g3 = some r0) : Met l (⟨"OutwardTapeModel", "holds", "(III)Z"⟩ : MethodName) (WSm (⟨"OutwardTapeModel", "holds", "(III)Z"⟩ : MethodName) prog_12_method_74_code 12 (some .boolean)) rm_Ref_holds (va_Pc [.ref (a 0), .int a1, .int a2, .int a3] (fun U => U.heap.size = sz ∧ va_P D CLS (wR a q g0 g1 g2 g3 g4 g5 g6 g7 g8 g9 g10 g11 g12 g13 g14 g15 g16 g17 g18 g19) U.heap ∧ va_K D CLS (tR q) U)) (va_Qi (fun (r : Int32) (_ : Unit) => r = r0) (fun _ t => va_P D CLS (wR a q g0 g1 g2 g3 g4 g5 g6 g7 g8 g9 g10 g11 g12 g13 g14 g15 g16 g17 g18 g19) t.heap) (va_A (dR a) sz)) 0 0 (va_A (dR a) sz) := by
  refine Met.ofW (cc := prog_12_method_74_code) (maxL := 12) (ret := (some .boolean)) (by decide) rfl ?_
  intro p e s m args below meth c s₁ B hml hv
  obtain ⟨rfl, hsz, hP, hK⟩ := hv
  subst hsz
  have hC := CX.of B hml rfl
  have hl := lv_entry [.ref (a 0), .int a1, .int a2, .int a3] (n := 12) (Nat.le_of_ble_eq_true rfl)
  rw [lg_entry_eq]
  generalize (lg_sl [.ref (a 0), .int a1, .int a2, .int a3] ++ List.replicate (12 - (lg_sl [.ref (a 0), .int a1, .int a2, .int a3]).length) Slot.unset).toArray = ls at hl ⊢
  have hl : lv_has ls 12 [(0, .ref (a 0)), (1, .int a1), (2, .int a2), (3, .int a3)] := hl
  exact k_Ref_holds_0 hC (fun x h => Or.inr h) hK a1 a2 a3  s.heap [] ls hP (dD hd.self rfl) va_S.rf (lv_sub hl [0, 1, 2, 3] rfl) h
abbrev rm_Ref_relation : Room := { frames := 4, cells := 0, slots := 0, locals := 96 }
set_option maxRecDepth 100000 in
set_option maxHeartbeats 4000000 in
theorem k_Ref_relation_158 {p : Program} {l : Launch} {e : Env} {s : State} {m : MethodId} {args : Array Value} {below : List Frame} {meth : Method} {c : Code} {D : va_G} {a : Nat → Nat} {q : Nat → ClassId} {A : Nat → Prop} (hC : CX p s m args meth c prog_12_method_75_code 6 "OutwardTapeModel" (some .boolean)) (hA : ∀ x, s.heap.size ≤ x → A x) (hK : va_K D CLS (tR q) s) {g0 : Int32} {g1 : Nat → Int32} {g2 : Nat → Int64} {g3 : Nat → Int64} {g4 : Nat → Int32} {g6 : Nat → Int32} {g7 : Int32} {g8 : Nat → Int32} {g9 : Int32} {g10 : Int64} {g11 : Int64} {g12 : Int32} {g13 : Int32} {g14 : Int32} {g15 : Int64} {g16 : Int32} {g17 : Int32} {g18 : Int64} {g19 : Int32} {r0 : Int32 × Int32} : ∀ (s0 : Int32) (g5 : Int32) (H : Heap) (locs : List Loc) (ls : Array Slot), va_P D CLS (wR a q g0 g1 g2 g3 g4 g5 g6 g7 g8 g9 g10 g11 g12 g13 g14 g15 g16 g17 g18 g19) H → va_D A (wR a q g0 g1 g2 g3 g4 g5 g6 g7 g8 g9 g10 g11 g12 g13 g14 g15 g16 g17 g18 g19) → va_S A s.heap H locs → lv_has ls 6 [] → f_Ref_relation_158  s0 g0 g1 g2 g3 g5 = some r0 → W p l e rm_Ref_relation s m args below meth c H locs 0 0 (MQ below (va_Qi (fun (r : Int32) (_ : Unit) => r = r0.1) (fun _ t => va_P D CLS (wR a q g0 g1 g2 g3 g4 r0.2 g6 g7 g8 g9 g10 g11 g12 g13 g14 g15 g16 g17 g18 g19) t.heap) A) args s 0 0 A) (F0 m 158 ls [.int s0]) := by
  obtain ⟨hx, hb, hml, hown, hts, hr, hlocks⟩ := id hC
  intro s0 g5 H locs ls hP hD hS hl h
  rw [f_Ref_relation_158] at h
  obtain ⟨hz, h⟩ := og_of h
  obtain rfl := os_of h
  exact W.zret (v := s0) (ty := .boolean) hx hb hr (j_z_nar hz) (fun t ht hW => ⟨⟨_, (), rfl, rfl, (hPt hP ht)⟩, hS.F ht⟩) hS.2.2 (dt_at dt_Ref_relation 91 rfl)
set_option maxRecDepth 100000 in
set_option maxHeartbeats 4000000 in
theorem k_Ref_relation_153 {p : Program} {l : Launch} {e : Env} {s : State} {m : MethodId} {args : Array Value} {below : List Frame} {meth : Method} {c : Code} {D : va_G} {a : Nat → Nat} {q : Nat → ClassId} {A : Nat → Prop} (hC : CX p s m args meth c prog_12_method_75_code 6 "OutwardTapeModel" (some .boolean)) (hA : ∀ x, s.heap.size ≤ x → A x) (hK : va_K D CLS (tR q) s) {g0 : Int32} {g1 : Nat → Int32} {g2 : Nat → Int64} {g3 : Nat → Int64} {g4 : Nat → Int32} {g6 : Nat → Int32} {g7 : Int32} {g8 : Nat → Int32} {g9 : Int32} {g10 : Int64} {g11 : Int64} {g12 : Int32} {g13 : Int32} {g14 : Int32} {g15 : Int64} {g16 : Int32} {g17 : Int32} {g18 : Int64} {g19 : Int32} {r0 : Int32 × Int32} : ∀  (g5 : Int32) (H : Heap) (locs : List Loc) (ls : Array Slot), va_P D CLS (wR a q g0 g1 g2 g3 g4 g5 g6 g7 g8 g9 g10 g11 g12 g13 g14 g15 g16 g17 g18 g19) H → va_D A (wR a q g0 g1 g2 g3 g4 g5 g6 g7 g8 g9 g10 g11 g12 g13 g14 g15 g16 g17 g18 g19) → va_S A s.heap H locs → lv_has ls 6 [] → f_Ref_relation_153  g0 g1 g2 g3 g5 = some r0 → W p l e rm_Ref_relation s m args below meth c H locs 0 0 (MQ below (va_Qi (fun (r : Int32) (_ : Unit) => r = r0.1) (fun _ t => va_P D CLS (wR a q g0 g1 g2 g3 g4 r0.2 g6 g7 g8 g9 g10 g11 g12 g13 g14 g15 g16 g17 g18 g19) t.heap) A) args s 0 0 A) (F0 m 153 ls []) := by
  obtain ⟨hx, hb, hml, hown, hts, hr, hlocks⟩ := id hC
  intro g5 H locs ls hP hD hS hl h
  rw [f_Ref_relation_153] at h
  refine lv_iconst (v := 1) hx hb (dt_at dt_Ref_relation 88 rfl) (by decide) ?_
  refine lv_goto (tgt := 158) hx hb (dt_at dt_Ref_relation 89 rfl) (by decide) ?_
  exact k_Ref_relation_158 hC hA hK   (1 : Int32) g5 H locs ls hP hD hS (lv_sub hl [] rfl) h
set_option maxRecDepth 100000 in
set_option maxHeartbeats 4000000 in
theorem k_Ref_relation_133 {p : Program} {l : Launch} {e : Env} {s : State} {m : MethodId} {args : Array Value} {below : List Frame} {meth : Method} {c : Code} {D : va_G} {a : Nat → Nat} {q : Nat → ClassId} {A : Nat → Prop} (hC : CX p s m args meth c prog_12_method_75_code 6 "OutwardTapeModel" (some .boolean)) (hA : ∀ x, s.heap.size ≤ x → A x) (hK : va_K D CLS (tR q) s) {g0 : Int32} {g1 : Nat → Int32} {g2 : Nat → Int64} {g3 : Nat → Int64} {g4 : Nat → Int32} {g6 : Nat → Int32} {g7 : Int32} {g8 : Nat → Int32} {g9 : Int32} {g10 : Int64} {g11 : Int64} {g12 : Int32} {g13 : Int32} {g14 : Int32} {g15 : Int64} {g16 : Int32} {g17 : Int32} {g18 : Int64} {g19 : Int32} {r0 : Int32 × Int32} : ∀ (v5 : Int32) (g5 : Int32) (H : Heap) (locs : List Loc) (ls : Array Slot), va_P D CLS (wR a q g0 g1 g2 g3 g4 g5 g6 g7 g8 g9 g10 g11 g12 g13 g14 g15 g16 g17 g18 g19) H → va_D A (wR a q g0 g1 g2 g3 g4 g5 g6 g7 g8 g9 g10 g11 g12 g13 g14 g15 g16 g17 g18 g19) → va_S A s.heap H locs → lv_has ls 6 [(5, .int v5)] → f_Ref_relation_133  v5 g0 g1 g2 g3 g5 = some r0 → W p l e rm_Ref_relation s m args below meth c H locs 0 0 (MQ below (va_Qi (fun (r : Int32) (_ : Unit) => r = r0.1) (fun _ t => va_P D CLS (wR a q g0 g1 g2 g3 g4 r0.2 g6 g7 g8 g9 g10 g11 g12 g13 g14 g15 g16 g17 g18 g19) t.heap) A) args s 0 0 A) (F0 m 133 ls []) := by
  obtain ⟨hx, hb, hml, hown, hts, hr, hlocks⟩ := id hC
  intro v5 g5 H locs ls hP hD hS hl h
  rw [f_Ref_relation_133] at h
  refine lv_iload hx hb (dt_at dt_Ref_relation 78 rfl) (lv_at hl 0 rfl) ?_
  refine lv_goto (tgt := 158) hx hb (dt_at dt_Ref_relation 79 rfl) (by decide) ?_
  exact k_Ref_relation_158 hC hA hK   v5 g5 H locs ls hP hD hS (lv_sub hl [] rfl) h
set_option maxRecDepth 100000 in
set_option maxHeartbeats 4000000 in
theorem k_Ref_relation_121 {p : Program} {l : Launch} {e : Env} {s : State} {m : MethodId} {args : Array Value} {below : List Frame} {meth : Method} {c : Code} {D : va_G} {a : Nat → Nat} {q : Nat → ClassId} {A : Nat → Prop} (hC : CX p s m args meth c prog_12_method_75_code 6 "OutwardTapeModel" (some .boolean)) (hA : ∀ x, s.heap.size ≤ x → A x) (hK : va_K D CLS (tR q) s) {g0 : Int32} {g1 : Nat → Int32} {g2 : Nat → Int64} {g3 : Nat → Int64} {g4 : Nat → Int32} {g6 : Nat → Int32} {g7 : Int32} {g8 : Nat → Int32} {g9 : Int32} {g10 : Int64} {g11 : Int64} {g12 : Int32} {g13 : Int32} {g14 : Int32} {g15 : Int64} {g16 : Int32} {g17 : Int32} {g18 : Int64} {g19 : Int32} {r0 : Int32 × Int32} : ∀ (s0 : Int32) (v1 : Int32) (v4 : Int32) (g5 : Int32) (H : Heap) (locs : List Loc) (ls : Array Slot), va_P D CLS (wR a q g0 g1 g2 g3 g4 g5 g6 g7 g8 g9 g10 g11 g12 g13 g14 g15 g16 g17 g18 g19) H → va_D A (wR a q g0 g1 g2 g3 g4 g5 g6 g7 g8 g9 g10 g11 g12 g13 g14 g15 g16 g17 g18 g19) → va_S A s.heap H locs → lv_has ls 6 [(1, .int v1), (4, .int v4)] → f_Ref_relation_121  s0 v1 v4 g0 g1 g2 g3 g5 = some r0 → W p l e rm_Ref_relation s m args below meth c H locs 0 0 (MQ below (va_Qi (fun (r : Int32) (_ : Unit) => r = r0.1) (fun _ t => va_P D CLS (wR a q g0 g1 g2 g3 g4 r0.2 g6 g7 g8 g9 g10 g11 g12 g13 g14 g15 g16 g17 g18 g19) t.heap) A) args s 0 0 A) (F0 m 121 ls [.int s0]) := by
  obtain ⟨hx, hb, hml, hown, hts, hr, hlocks⟩ := id hC
  intro s0 v1 v4 g5 H locs ls hP hD hS hl h
  rw [f_Ref_relation_121] at h
  refine lv_istore (lv' := [(5, .int s0), (1, .int v1), (4, .int v4)]) hx hb (dt_at dt_Ref_relation 71 rfl) hl (by decide) rfl (fun ls hl => ?_)
  refine lv_iload_n hx hb (dt_at dt_Ref_relation 72 rfl) rfl (lv_at hl 1 rfl) ?_
  refine lv_iconst (v := 1) hx hb (dt_at dt_Ref_relation 73 rfl) (by decide) ?_
  refine lv_icmp_eq (tgt := 133) hx hb (dt_at dt_Ref_relation 74 rfl) (by decide) (fun c1 => ?_) (fun c1 => ?_)
  · have h := if_p h c1
    exact k_Ref_relation_133 hC hA hK   s0 g5 H locs ls hP hD hS (lv_sub hl [0] rfl) h
  · have h := if_n h c1
    refine lv_iload_n hx hb (dt_at dt_Ref_relation 75 rfl) rfl (lv_at hl 1 rfl) ?_
    refine lv_iconst (v := 2) hx hb (dt_at dt_Ref_relation 76 rfl) (by decide) ?_
    refine lv_icmp_ne (tgt := 138) hx hb (dt_at dt_Ref_relation 77 rfl) (by decide) (fun c2 => ?_) (fun c2 => ?_)
    · have h := if_n h c2
      refine lv_iload_n hx hb (dt_at dt_Ref_relation 80 rfl) rfl (lv_at hl 1 rfl) ?_
      refine lv_iconst (v := 4) hx hb (dt_at dt_Ref_relation 81 rfl) (by decide) ?_
      refine lv_icmp_eq (tgt := 153) hx hb (dt_at dt_Ref_relation 82 rfl) (by decide) (fun c3 => ?_) (fun c3 => ?_)
      · have h := if_p h c3
        exact k_Ref_relation_153 hC hA hK   g5 H locs ls hP hD hS (lv_sub hl [] rfl) h
      · have h := if_n h c3
        refine lv_iload_n hx hb (dt_at dt_Ref_relation 83 rfl) rfl (lv_at hl 1 rfl) ?_
        refine lv_iconst (v := 5) hx hb (dt_at dt_Ref_relation 84 rfl) (by decide) ?_
        refine lv_icmp_gt (tgt := 153) hx hb (dt_at dt_Ref_relation 85 rfl) (by decide) (fun c4 => ?_) (fun c4 => ?_)
        · have h := if_p h c4
          exact k_Ref_relation_153 hC hA hK   g5 H locs ls hP hD hS (lv_sub hl [] rfl) h
        · have h := if_n h c4
          refine lv_iload hx hb (dt_at dt_Ref_relation 86 rfl) (lv_at hl 2 rfl) ?_
          refine lv_if_eq (tgt := 157) hx hb (dt_at dt_Ref_relation 87 rfl) (by decide) (fun c5 => ?_) (fun c5 => ?_)
          · have h := if_p h c5
            refine lv_iconst (v := 0) hx hb (dt_at dt_Ref_relation 90 rfl) (by decide) ?_
            exact k_Ref_relation_158 hC hA hK   (0 : Int32) g5 H locs ls hP hD hS (lv_sub hl [] rfl) h
          · have h := if_n h c5
            exact k_Ref_relation_153 hC hA hK   g5 H locs ls hP hD hS (lv_sub hl [] rfl) h
    · have h := if_p h c2
      exact k_Ref_relation_133 hC hA hK   s0 g5 H locs ls hP hD hS (lv_sub hl [0] rfl) h
set_option maxRecDepth 100000 in
set_option maxHeartbeats 4000000 in
theorem k_Ref_relation_104 {p : Program} {l : Launch} {e : Env} {s : State} {m : MethodId} {args : Array Value} {below : List Frame} {meth : Method} {c : Code} {D : va_G} {a : Nat → Nat} {q : Nat → ClassId} {A : Nat → Prop} (hC : CX p s m args meth c prog_12_method_75_code 6 "OutwardTapeModel" (some .boolean)) (hA : ∀ x, s.heap.size ≤ x → A x) (hK : va_K D CLS (tR q) s) {g0 : Int32} {g1 : Nat → Int32} {g2 : Nat → Int64} {g3 : Nat → Int64} {g4 : Nat → Int32} {g6 : Nat → Int32} {g7 : Int32} {g8 : Nat → Int32} {g9 : Int32} {g10 : Int64} {g11 : Int64} {g12 : Int32} {g13 : Int32} {g14 : Int32} {g15 : Int64} {g16 : Int32} {g17 : Int32} {g18 : Int64} {g19 : Int32} {r0 : Int32 × Int32} : ∀ (s0 : Int32) (v1 : Int32) (v2 : Int32) (g5 : Int32) (H : Heap) (locs : List Loc) (ls : Array Slot), va_P D CLS (wR a q g0 g1 g2 g3 g4 g5 g6 g7 g8 g9 g10 g11 g12 g13 g14 g15 g16 g17 g18 g19) H → va_D A (wR a q g0 g1 g2 g3 g4 g5 g6 g7 g8 g9 g10 g11 g12 g13 g14 g15 g16 g17 g18 g19) → va_S A s.heap H locs → lv_has ls 6 [(0, .ref (a 0)), (1, .int v1), (2, .int v2)] → f_Ref_relation_104  s0 v1 v2 g0 g1 g2 g3 g5 = some r0 → W p l e rm_Ref_relation s m args below meth c H locs 0 0 (MQ below (va_Qi (fun (r : Int32) (_ : Unit) => r = r0.1) (fun _ t => va_P D CLS (wR a q g0 g1 g2 g3 g4 r0.2 g6 g7 g8 g9 g10 g11 g12 g13 g14 g15 g16 g17 g18 g19) t.heap) A) args s 0 0 A) (F0 m 104 ls [.int s0]) := by
  obtain ⟨hx, hb, hml, hown, hts, hr, hlocks⟩ := id hC
  intro s0 v1 v2 g5 H locs ls hP hD hS hl h
  rw [f_Ref_relation_104] at h
  refine lv_istore (lv' := [(4, .int s0), (0, .ref (a 0)), (1, .int v1), (2, .int v2)]) hx hb (dt_at dt_Ref_relation 61 rfl) hl (by decide) rfl (fun ls hl => ?_)
  refine lv_aload_n hx hb (dt_at dt_Ref_relation 62 rfl) rfl (lv_at hl 1 rfl) ?_
  refine va_get (D := D) (ci := 0) (v := .ref (a 1)) (C := "OutwardTapeModel") (T := T_Ref) (N := 20) hx hb hts in_Ref hown hK hP 0 rfl rfl 1 (by decide) (hts (Cond.fieldLink "OutwardTapeModel" 7 "OutwardTapeModel" "kind" "[I") (m_4 0 rfl rfl)) (fun _ h9 => h9) rfl (dt_at dt_Ref_relation 63 rfl) ?_
  refine lv_iload_n hx hb (dt_at dt_Ref_relation 64 rfl) rfl (lv_at hl 3 rfl) ?_
  obtain ⟨z1, h⟩ := og_of h
  refine va_iald hx hb hK hP 1 0 rfl rfl z1 (dt_at dt_Ref_relation 65 rfl) ?_
  refine lv_iconst (v := 1) hx hb (dt_at dt_Ref_relation 66 rfl) (by decide) ?_
  refine lv_icmp_ne (tgt := 120) hx hb (dt_at dt_Ref_relation 67 rfl) (by decide) (fun c2 => ?_) (fun c2 => ?_)
  · have h := if_n h c2
    refine lv_iconst (v := 0) hx hb (dt_at dt_Ref_relation 70 rfl) (by decide) ?_
    exact k_Ref_relation_121 hC hA hK   (0 : Int32) v1 s0 g5 H locs ls hP hD hS (lv_sub hl [2, 0] rfl) h
  · have h := if_p h c2
    refine lv_iconst (v := 1) hx hb (dt_at dt_Ref_relation 68 rfl) (by decide) ?_
    refine lv_goto (tgt := 121) hx hb (dt_at dt_Ref_relation 69 rfl) (by decide) ?_
    exact k_Ref_relation_121 hC hA hK   (1 : Int32) v1 s0 g5 H locs ls hP hD hS (lv_sub hl [2, 0] rfl) h
set_option maxRecDepth 100000 in
set_option maxHeartbeats 4000000 in
theorem k_Ref_relation_103 {p : Program} {l : Launch} {e : Env} {s : State} {m : MethodId} {args : Array Value} {below : List Frame} {meth : Method} {c : Code} {D : va_G} {a : Nat → Nat} {q : Nat → ClassId} {A : Nat → Prop} (hC : CX p s m args meth c prog_12_method_75_code 6 "OutwardTapeModel" (some .boolean)) (hA : ∀ x, s.heap.size ≤ x → A x) (hK : va_K D CLS (tR q) s) {g0 : Int32} {g1 : Nat → Int32} {g2 : Nat → Int64} {g3 : Nat → Int64} {g4 : Nat → Int32} {g6 : Nat → Int32} {g7 : Int32} {g8 : Nat → Int32} {g9 : Int32} {g10 : Int64} {g11 : Int64} {g12 : Int32} {g13 : Int32} {g14 : Int32} {g15 : Int64} {g16 : Int32} {g17 : Int32} {g18 : Int64} {g19 : Int32} {r0 : Int32 × Int32} : ∀ (v1 : Int32) (v2 : Int32) (g5 : Int32) (H : Heap) (locs : List Loc) (ls : Array Slot), va_P D CLS (wR a q g0 g1 g2 g3 g4 g5 g6 g7 g8 g9 g10 g11 g12 g13 g14 g15 g16 g17 g18 g19) H → va_D A (wR a q g0 g1 g2 g3 g4 g5 g6 g7 g8 g9 g10 g11 g12 g13 g14 g15 g16 g17 g18 g19) → va_S A s.heap H locs → lv_has ls 6 [(0, .ref (a 0)), (1, .int v1), (2, .int v2)] → f_Ref_relation_103  v1 v2 g0 g1 g2 g3 g5 = some r0 → W p l e rm_Ref_relation s m args below meth c H locs 0 0 (MQ below (va_Qi (fun (r : Int32) (_ : Unit) => r = r0.1) (fun _ t => va_P D CLS (wR a q g0 g1 g2 g3 g4 r0.2 g6 g7 g8 g9 g10 g11 g12 g13 g14 g15 g16 g17 g18 g19) t.heap) A) args s 0 0 A) (F0 m 103 ls []) := by
  obtain ⟨hx, hb, hml, hown, hts, hr, hlocks⟩ := id hC
  intro v1 v2 g5 H locs ls hP hD hS hl h
  rw [f_Ref_relation_103] at h
  refine lv_iconst (v := 0) hx hb (dt_at dt_Ref_relation 60 rfl) (by decide) ?_
  exact k_Ref_relation_104 hC hA hK   (0 : Int32) v1 v2 g5 H locs ls hP hD hS (lv_sub hl [0, 1, 2] rfl) h
set_option maxRecDepth 100000 in
set_option maxHeartbeats 4000000 in
theorem k_Ref_relation_79 {p : Program} {l : Launch} {e : Env} {s : State} {m : MethodId} {args : Array Value} {below : List Frame} {meth : Method} {c : Code} {D : va_G} {a : Nat → Nat} {q : Nat → ClassId} {A : Nat → Prop} (hC : CX p s m args meth c prog_12_method_75_code 6 "OutwardTapeModel" (some .boolean)) (hA : ∀ x, s.heap.size ≤ x → A x) (hK : va_K D CLS (tR q) s) {g0 : Int32} {g1 : Nat → Int32} {g2 : Nat → Int64} {g3 : Nat → Int64} {g4 : Nat → Int32} {g6 : Nat → Int32} {g7 : Int32} {g8 : Nat → Int32} {g9 : Int32} {g10 : Int64} {g11 : Int64} {g12 : Int32} {g13 : Int32} {g14 : Int32} {g15 : Int64} {g16 : Int32} {g17 : Int32} {g18 : Int64} {g19 : Int32} {r0 : Int32 × Int32} : ∀ (v1 : Int32) (v2 : Int32) (v3 : Int32) (g5 : Int32) (H : Heap) (locs : List Loc) (ls : Array Slot), va_P D CLS (wR a q g0 g1 g2 g3 g4 g5 g6 g7 g8 g9 g10 g11 g12 g13 g14 g15 g16 g17 g18 g19) H → va_D A (wR a q g0 g1 g2 g3 g4 g5 g6 g7 g8 g9 g10 g11 g12 g13 g14 g15 g16 g17 g18 g19) → va_S A s.heap H locs → lv_has ls 6 [(0, .ref (a 0)), (1, .int v1), (2, .int v2), (3, .int v3)] → f_Ref_relation_79  v1 v2 v3 g0 g1 g2 g3 g5 = some r0 → W p l e rm_Ref_relation s m args below meth c H locs 0 0 (MQ below (va_Qi (fun (r : Int32) (_ : Unit) => r = r0.1) (fun _ t => va_P D CLS (wR a q g0 g1 g2 g3 g4 r0.2 g6 g7 g8 g9 g10 g11 g12 g13 g14 g15 g16 g17 g18 g19) t.heap) A) args s 0 0 A) (F0 m 79 ls []) := by
  obtain ⟨hx, hb, hml, hown, hts, hr, hlocks⟩ := id hC
  intro v1 v2 v3 g5 H locs ls hP hD hS hl h
  rw [f_Ref_relation_79] at h
  refine lv_aload_n hx hb (dt_at dt_Ref_relation 46 rfl) rfl (lv_at hl 0 rfl) ?_
  refine va_get (D := D) (ci := 0) (v := .ref (a 1)) (C := "OutwardTapeModel") (T := T_Ref) (N := 20) hx hb hts in_Ref hown hK hP 0 rfl rfl 1 (by decide) (hts (Cond.fieldLink "OutwardTapeModel" 7 "OutwardTapeModel" "kind" "[I") (m_4 0 rfl rfl)) (fun _ h9 => h9) rfl (dt_at dt_Ref_relation 47 rfl) ?_
  refine lv_iload_n hx hb (dt_at dt_Ref_relation 48 rfl) rfl (lv_at hl 2 rfl) ?_
  obtain ⟨z1, h⟩ := og_of h
  refine va_iald hx hb hK hP 1 0 rfl rfl z1 (dt_at dt_Ref_relation 49 rfl) ?_
  refine lv_iconst (v := 1) hx hb (dt_at dt_Ref_relation 50 rfl) (by decide) ?_
  refine lv_icmp_ne (tgt := 103) hx hb (dt_at dt_Ref_relation 51 rfl) (by decide) (fun c2 => ?_) (fun c2 => ?_)
  · have h := if_n h c2
    exact k_Ref_relation_103 hC hA hK   v1 v2 g5 H locs ls hP hD hS (lv_sub hl [0, 1, 2] rfl) h
  · have h := if_p h c2
    refine lv_aload_n hx hb (dt_at dt_Ref_relation 52 rfl) rfl (lv_at hl 0 rfl) ?_
    refine va_get (D := D) (ci := 0) (v := .ref (a 1)) (C := "OutwardTapeModel") (T := T_Ref) (N := 20) hx hb hts in_Ref hown hK hP 0 rfl rfl 1 (by decide) (hts (Cond.fieldLink "OutwardTapeModel" 7 "OutwardTapeModel" "kind" "[I") (m_4 0 rfl rfl)) (fun _ h9 => h9) rfl (dt_at dt_Ref_relation 53 rfl) ?_
    refine lv_iload_n hx hb (dt_at dt_Ref_relation 54 rfl) rfl (lv_at hl 3 rfl) ?_
    obtain ⟨z3, h⟩ := og_of h
    refine va_iald hx hb hK hP 1 0 rfl rfl z3 (dt_at dt_Ref_relation 55 rfl) ?_
    refine lv_iconst (v := 1) hx hb (dt_at dt_Ref_relation 56 rfl) (by decide) ?_
    refine lv_icmp_ne (tgt := 103) hx hb (dt_at dt_Ref_relation 57 rfl) (by decide) (fun c4 => ?_) (fun c4 => ?_)
    · have h := if_n h c4
      exact k_Ref_relation_103 hC hA hK   v1 v2 g5 H locs ls hP hD hS (lv_sub hl [0, 1, 2] rfl) h
    · have h := if_p h c4
      refine lv_iconst (v := 1) hx hb (dt_at dt_Ref_relation 58 rfl) (by decide) ?_
      refine lv_goto (tgt := 104) hx hb (dt_at dt_Ref_relation 59 rfl) (by decide) ?_
      exact k_Ref_relation_104 hC hA hK   (1 : Int32) v1 v2 g5 H locs ls hP hD hS (lv_sub hl [0, 1, 2] rfl) h
set_option maxRecDepth 100000 in
set_option maxHeartbeats 4000000 in
theorem k_Ref_relation_49 {p : Program} {l : Launch} {e : Env} {s : State} {m : MethodId} {args : Array Value} {below : List Frame} {meth : Method} {c : Code} {D : va_G} {a : Nat → Nat} {q : Nat → ClassId} {A : Nat → Prop} (hC : CX p s m args meth c prog_12_method_75_code 6 "OutwardTapeModel" (some .boolean)) (hA : ∀ x, s.heap.size ≤ x → A x) (hK : va_K D CLS (tR q) s) {g0 : Int32} {g1 : Nat → Int32} {g2 : Nat → Int64} {g3 : Nat → Int64} {g4 : Nat → Int32} {g6 : Nat → Int32} {g7 : Int32} {g8 : Nat → Int32} {g9 : Int32} {g10 : Int64} {g11 : Int64} {g12 : Int32} {g13 : Int32} {g14 : Int32} {g15 : Int64} {g16 : Int32} {g17 : Int32} {g18 : Int64} {g19 : Int32} {r0 : Int32 × Int32} : ∀  (g5 : Int32) (H : Heap) (locs : List Loc) (ls : Array Slot), va_P D CLS (wR a q g0 g1 g2 g3 g4 g5 g6 g7 g8 g9 g10 g11 g12 g13 g14 g15 g16 g17 g18 g19) H → va_D A (wR a q g0 g1 g2 g3 g4 g5 g6 g7 g8 g9 g10 g11 g12 g13 g14 g15 g16 g17 g18 g19) → va_S A s.heap H locs → lv_has ls 6 [] → f_Ref_relation_49  g0 g1 g2 g3 g5 = some r0 → W p l e rm_Ref_relation s m args below meth c H locs 0 0 (MQ below (va_Qi (fun (r : Int32) (_ : Unit) => r = r0.1) (fun _ t => va_P D CLS (wR a q g0 g1 g2 g3 g4 r0.2 g6 g7 g8 g9 g10 g11 g12 g13 g14 g15 g16 g17 g18 g19) t.heap) A) args s 0 0 A) (F0 m 49 ls []) := by
  obtain ⟨hx, hb, hml, hown, hts, hr, hlocks⟩ := id hC
  intro g5 H locs ls hP hD hS hl h
  rw [f_Ref_relation_49] at h
  refine lv_iconst (v := 0) hx hb (dt_at dt_Ref_relation 26 rfl) (by decide) ?_
  obtain rfl := os_of h
  exact W.zret (v := (0 : Int32)) (ty := .boolean) hx hb hr (by decide) (fun t ht hW => ⟨⟨_, (), rfl, rfl, (hPt hP ht)⟩, hS.F ht⟩) hS.2.2 (dt_at dt_Ref_relation 27 rfl)
set_option maxRecDepth 100000 in
set_option maxHeartbeats 4000000 in
theorem k_Ref_relation_0 {p : Program} {l : Launch} {e : Env} {s : State} {m : MethodId} {args : Array Value} {below : List Frame} {meth : Method} {c : Code} {D : va_G} {a : Nat → Nat} {q : Nat → ClassId} {A : Nat → Prop} (hC : CX p s m args meth c prog_12_method_75_code 6 "OutwardTapeModel" (some .boolean)) (hA : ∀ x, s.heap.size ≤ x → A x) (hK : va_K D CLS (tR q) s) {g0 : Int32} {g1 : Nat → Int32} {g2 : Nat → Int64} {g3 : Nat → Int64} {g4 : Nat → Int32} {g6 : Nat → Int32} {g7 : Int32} {g8 : Nat → Int32} {g9 : Int32} {g10 : Int64} {g11 : Int64} {g12 : Int32} {g13 : Int32} {g14 : Int32} {g15 : Int64} {g16 : Int32} {g17 : Int32} {g18 : Int64} {g19 : Int32} {r0 : Int32 × Int32} : ∀ (v1 : Int32) (v2 : Int32) (v3 : Int32) (g5 : Int32) (H : Heap) (locs : List Loc) (ls : Array Slot), va_P D CLS (wR a q g0 g1 g2 g3 g4 g5 g6 g7 g8 g9 g10 g11 g12 g13 g14 g15 g16 g17 g18 g19) H → va_D A (wR a q g0 g1 g2 g3 g4 g5 g6 g7 g8 g9 g10 g11 g12 g13 g14 g15 g16 g17 g18 g19) → va_S A s.heap H locs → lv_has ls 6 [(0, .ref (a 0)), (1, .int v1), (2, .int v2), (3, .int v3)] → f_Ref_relation_0  v1 v2 v3 g0 g1 g2 g3 g5 = some r0 → W p l e rm_Ref_relation s m args below meth c H locs 0 0 (MQ below (va_Qi (fun (r : Int32) (_ : Unit) => r = r0.1) (fun _ t => va_P D CLS (wR a q g0 g1 g2 g3 g4 r0.2 g6 g7 g8 g9 g10 g11 g12 g13 g14 g15 g16 g17 g18 g19) t.heap) A) args s 0 0 A) (F0 m 0 ls []) := by
  obtain ⟨hx, hb, hml, hown, hts, hr, hlocks⟩ := id hC
  intro v1 v2 v3 g5 H locs ls hP hD hS hl h
  rw [f_Ref_relation_0] at h
  refine lv_aload_n hx hb (dt_at dt_Ref_relation 0 rfl) rfl (lv_at hl 0 rfl) ?_
  refine lv_iconst (v := 0) hx hb (dt_at dt_Ref_relation 1 rfl) (by decide) ?_
  refine va_put (D := D) (ci := 0) (v := .int (0 : Int32)) (ty := .int) (C := "OutwardTapeModel") (T := T_Ref) (N := 20) hx hb hts in_Ref ty_Ref tk_Ref nm_Ref hown hK hP hD hS 0 rfl rfl 5 (by decide) (hts (Cond.fieldLink "OutwardTapeModel" 29 "OutwardTapeModel" "code" "I") (m_4 4 rfl rfl)) (fun _ h9 => h9) rfl (by decide +kernel) rfl rfl (Nat.le_of_ble_eq_true rfl) (dt_at dt_Ref_relation 2 rfl) (fun H locs hP hD hS => ?_)
  have hP : va_P D CLS (wR a q g0 g1 g2 g3 g4 (0 : Int32) g6 g7 g8 g9 g10 g11 g12 g13 g14 g15 g16 g17 g18 g19) H := hP
  have hD : va_D A (wR a q g0 g1 g2 g3 g4 (0 : Int32) g6 g7 g8 g9 g10 g11 g12 g13 g14 g15 g16 g17 g18 g19) := hD
  refine lv_iload_n hx hb (dt_at dt_Ref_relation 3 rfl) rfl (lv_at hl 1 rfl) ?_
  refine lv_if_lt (tgt := 49) hx hb (dt_at dt_Ref_relation 4 rfl) (by decide) (fun c1 => ?_) (fun c1 => ?_)
  · have h := if_p h c1
    exact k_Ref_relation_49 hC hA hK   (0 : Int32) H locs ls hP hD hS (lv_sub hl [] rfl) h
  · have h := if_n h c1
    refine lv_iload_n hx hb (dt_at dt_Ref_relation 5 rfl) rfl (lv_at hl 1 rfl) ?_
    refine lv_bipush (v := 7) hx hb (dt_at dt_Ref_relation 6 rfl) (by decide) ?_
    refine lv_icmp_gt (tgt := 49) hx hb (dt_at dt_Ref_relation 7 rfl) (by decide) (fun c2 => ?_) (fun c2 => ?_)
    · have h := if_p h c2
      exact k_Ref_relation_49 hC hA hK   (0 : Int32) H locs ls hP hD hS (lv_sub hl [] rfl) h
    · have h := if_n h c2
      refine lv_aload_n hx hb (dt_at dt_Ref_relation 8 rfl) rfl (lv_at hl 0 rfl) ?_
      refine lv_iload_n hx hb (dt_at dt_Ref_relation 9 rfl) rfl (lv_at hl 2 rfl) ?_
      obtain ⟨r3, h_r3, h⟩ := ob_of h
      have hF := va_free (wc := dR a) (dD (ws' := dR a) hD rfl) hS hA [0, 1, 2, 3, 4, 5, 6] rfl
      have hd : va_D (fun _ => True) (dR a) := (dD (ws' := dR a) hD rfl).weaken (fun _ _ _ _ => trivial)
      refine va_calli (va_runV (As := [.int v2]) (rest := []) ⟨hx, hb, hml, hown, hts⟩ (c_Ref_there l D a q hd H.size v2 g0 g1 g2 g3 g4 (0 : Int32) g6 g7 g8 g9 g10 g11 g12 g13 g14 g15 g16 g17 g18 g19 r3 h_r3) (cwV 1 hts (gd_V (m_4 96 rfl rfl) (m_4 98 rfl rfl) (m_s 24 rfl rfl) (m_1 4 rfl rfl) (m_4 99 rfl rfl)) rfl rfl rfl (by decide +kernel) ⟨Nat.le_of_ble_eq_true rfl, Nat.le_of_ble_eq_true rfl⟩) ⟨fun a U g mk q => ⟨q.1, q.2.1, q.2.2.1, va_K.moved (u := U) (U := U.calling g mk a) (Vm.Alike.refl U.vm) q.2.2.2⟩, va_recv hK hP (ci := 0) (q0 := 0) rfl rfl, fun U hU hW => ⟨rfl, by rw [hU], by rw [hU]; exact hP, va_K.moved hW.alike hK⟩⟩ rfl rfl hl.1 rfl (lv_room (Nat.le_of_ble_eq_true rfl)) (dt_at dt_Ref_relation 10 rfl) ⟨Nat.le_of_ble_eq_true rfl, Nat.le_of_ble_eq_true rfl⟩) hS (fun x _ h9 => hF x h9) hF (fun u_r3 uu t H locs ht hvm hw hB hz1 hk1 hS => ?_)
      rw [ht] at hB
      obtain rfl : r3 = u_r3 := hw.symm
      have hP : va_P D CLS (wR a q g0 g1 g2 g3 g4 (0 : Int32) g6 g7 g8 g9 g10 g11 g12 g13 g14 g15 g16 g17 g18 g19) H := hB
      have hD : va_D A (wR a q g0 g1 g2 g3 g4 (0 : Int32) g6 g7 g8 g9 g10 g11 g12 g13 g14 g15 g16 g17 g18 g19) := dD hD rfl
      refine lv_if_eq (tgt := 49) hx hb (dt_at dt_Ref_relation 11 rfl) (by decide) (fun c4 => ?_) (fun c4 => ?_)
      · have h := if_p h c4
        exact k_Ref_relation_49 hC hA hK   (0 : Int32) H locs ls hP hD hS (lv_sub hl [] rfl) h
      · have h := if_n h c4
        refine lv_aload_n hx hb (dt_at dt_Ref_relation 12 rfl) rfl (lv_at hl 0 rfl) ?_
        refine lv_iload_n hx hb (dt_at dt_Ref_relation 13 rfl) rfl (lv_at hl 3 rfl) ?_
        obtain ⟨r5, h_r5, h⟩ := ob_of h
        have hF := va_free (wc := dR a) (dD (ws' := dR a) hD rfl) hS hA [0, 1, 2, 3, 4, 5, 6] rfl
        have hd : va_D (fun _ => True) (dR a) := (dD (ws' := dR a) hD rfl).weaken (fun _ _ _ _ => trivial)
        refine va_calli (va_runV (As := [.int v3]) (rest := []) ⟨hx, hb, hml, hown, hts⟩ (c_Ref_there l D a q hd H.size v3 g0 g1 g2 g3 g4 (0 : Int32) g6 g7 g8 g9 g10 g11 g12 g13 g14 g15 g16 g17 g18 g19 r5 h_r5) (cwV 1 hts (gd_V (m_4 96 rfl rfl) (m_4 98 rfl rfl) (m_s 24 rfl rfl) (m_1 4 rfl rfl) (m_4 99 rfl rfl)) rfl rfl rfl (by decide +kernel) ⟨Nat.le_of_ble_eq_true rfl, Nat.le_of_ble_eq_true rfl⟩) ⟨fun a U g mk q => ⟨q.1, q.2.1, q.2.2.1, va_K.moved (u := U) (U := U.calling g mk a) (Vm.Alike.refl U.vm) q.2.2.2⟩, va_recv hK hP (ci := 0) (q0 := 0) rfl rfl, fun U hU hW => ⟨rfl, by rw [hU], by rw [hU]; exact hP, va_K.moved hW.alike hK⟩⟩ rfl rfl hl.1 rfl (lv_room (Nat.le_of_ble_eq_true rfl)) (dt_at dt_Ref_relation 14 rfl) ⟨Nat.le_of_ble_eq_true rfl, Nat.le_of_ble_eq_true rfl⟩) hS (fun x _ h9 => hF x h9) hF (fun u_r5 uu t H locs ht hvm hw hB hz1 hk1 hS => ?_)
        rw [ht] at hB
        obtain rfl : r5 = u_r5 := hw.symm
        have hP : va_P D CLS (wR a q g0 g1 g2 g3 g4 (0 : Int32) g6 g7 g8 g9 g10 g11 g12 g13 g14 g15 g16 g17 g18 g19) H := hB
        have hD : va_D A (wR a q g0 g1 g2 g3 g4 (0 : Int32) g6 g7 g8 g9 g10 g11 g12 g13 g14 g15 g16 g17 g18 g19) := dD hD rfl
        refine lv_if_eq (tgt := 49) hx hb (dt_at dt_Ref_relation 15 rfl) (by decide) (fun c6 => ?_) (fun c6 => ?_)
        · have h := if_p h c6
          exact k_Ref_relation_49 hC hA hK   (0 : Int32) H locs ls hP hD hS (lv_sub hl [] rfl) h
        · have h := if_n h c6
          refine lv_aload_n hx hb (dt_at dt_Ref_relation 16 rfl) rfl (lv_at hl 0 rfl) ?_
          refine va_get (D := D) (ci := 0) (v := .ref (a 1)) (C := "OutwardTapeModel") (T := T_Ref) (N := 20) hx hb hts in_Ref hown hK hP 0 rfl rfl 1 (by decide) (hts (Cond.fieldLink "OutwardTapeModel" 7 "OutwardTapeModel" "kind" "[I") (m_4 0 rfl rfl)) (fun _ h9 => h9) rfl (dt_at dt_Ref_relation 17 rfl) ?_
          refine lv_iload_n hx hb (dt_at dt_Ref_relation 18 rfl) rfl (lv_at hl 2 rfl) ?_
          obtain ⟨z7, h⟩ := og_of h
          refine va_iald hx hb hK hP 1 0 rfl rfl z7 (dt_at dt_Ref_relation 19 rfl) ?_
          refine lv_if_eq (tgt := 49) hx hb (dt_at dt_Ref_relation 20 rfl) (by decide) (fun c8 => ?_) (fun c8 => ?_)
          · have h := if_p h c8
            exact k_Ref_relation_49 hC hA hK   (0 : Int32) H locs ls hP hD hS (lv_sub hl [] rfl) h
          · have h := if_n h c8
            refine lv_aload_n hx hb (dt_at dt_Ref_relation 21 rfl) rfl (lv_at hl 0 rfl) ?_
            refine va_get (D := D) (ci := 0) (v := .ref (a 1)) (C := "OutwardTapeModel") (T := T_Ref) (N := 20) hx hb hts in_Ref hown hK hP 0 rfl rfl 1 (by decide) (hts (Cond.fieldLink "OutwardTapeModel" 7 "OutwardTapeModel" "kind" "[I") (m_4 0 rfl rfl)) (fun _ h9 => h9) rfl (dt_at dt_Ref_relation 22 rfl) ?_
            refine lv_iload_n hx hb (dt_at dt_Ref_relation 23 rfl) rfl (lv_at hl 3 rfl) ?_
            obtain ⟨z9, h⟩ := og_of h
            refine va_iald hx hb hK hP 1 0 rfl rfl z9 (dt_at dt_Ref_relation 24 rfl) ?_
            refine lv_if_ne (tgt := 51) hx hb (dt_at dt_Ref_relation 25 rfl) (by decide) (fun c10 => ?_) (fun c10 => ?_)
            · have h := if_n h c10
              refine lv_aload_n hx hb (dt_at dt_Ref_relation 28 rfl) rfl (lv_at hl 0 rfl) ?_
              refine va_get (D := D) (ci := 0) (v := .ref (a 1)) (C := "OutwardTapeModel") (T := T_Ref) (N := 20) hx hb hts in_Ref hown hK hP 0 rfl rfl 1 (by decide) (hts (Cond.fieldLink "OutwardTapeModel" 7 "OutwardTapeModel" "kind" "[I") (m_4 0 rfl rfl)) (fun _ h9 => h9) rfl (dt_at dt_Ref_relation 29 rfl) ?_
              refine lv_iload_n hx hb (dt_at dt_Ref_relation 30 rfl) rfl (lv_at hl 2 rfl) ?_
              obtain ⟨z11, h⟩ := og_of h
              refine va_iald hx hb hK hP 1 0 rfl rfl z11 (dt_at dt_Ref_relation 31 rfl) ?_
              refine lv_iconst (v := 2) hx hb (dt_at dt_Ref_relation 32 rfl) (by decide) ?_
              refine lv_icmp_ne (tgt := 79) hx hb (dt_at dt_Ref_relation 33 rfl) (by decide) (fun c12 => ?_) (fun c12 => ?_)
              · have h := if_n h c12
                exact k_Ref_relation_79 hC hA hK   v1 v2 v3 (0 : Int32) H locs ls hP hD hS (lv_sub hl [0, 1, 2, 3] rfl) h
              · have h := if_p h c12
                refine lv_aload_n hx hb (dt_at dt_Ref_relation 34 rfl) rfl (lv_at hl 0 rfl) ?_
                refine va_get (D := D) (ci := 0) (v := .ref (a 1)) (C := "OutwardTapeModel") (T := T_Ref) (N := 20) hx hb hts in_Ref hown hK hP 0 rfl rfl 1 (by decide) (hts (Cond.fieldLink "OutwardTapeModel" 7 "OutwardTapeModel" "kind" "[I") (m_4 0 rfl rfl)) (fun _ h9 => h9) rfl (dt_at dt_Ref_relation 35 rfl) ?_
                refine lv_iload_n hx hb (dt_at dt_Ref_relation 36 rfl) rfl (lv_at hl 3 rfl) ?_
                obtain ⟨z13, h⟩ := og_of h
                refine va_iald hx hb hK hP 1 0 rfl rfl z13 (dt_at dt_Ref_relation 37 rfl) ?_
                refine lv_iconst (v := 2) hx hb (dt_at dt_Ref_relation 38 rfl) (by decide) ?_
                refine lv_icmp_ne (tgt := 79) hx hb (dt_at dt_Ref_relation 39 rfl) (by decide) (fun c14 => ?_) (fun c14 => ?_)
                · have h := if_n h c14
                  exact k_Ref_relation_79 hC hA hK   v1 v2 v3 (0 : Int32) H locs ls hP hD hS (lv_sub hl [0, 1, 2, 3] rfl) h
                · have h := if_p h c14
                  refine lv_aload_n hx hb (dt_at dt_Ref_relation 40 rfl) rfl (lv_at hl 0 rfl) ?_
                  refine lv_iload_n hx hb (dt_at dt_Ref_relation 41 rfl) rfl (lv_at hl 1 rfl) ?_
                  refine lv_iload_n hx hb (dt_at dt_Ref_relation 42 rfl) rfl (lv_at hl 2 rfl) ?_
                  refine lv_iload_n hx hb (dt_at dt_Ref_relation 43 rfl) rfl (lv_at hl 3 rfl) ?_
                  obtain ⟨r15, h_r15, h⟩ := ob_of h
                  have hF := va_free (wc := dR a) (dD (ws' := dR a) hD rfl) hS hA [0, 1, 2, 3, 4, 5, 6] rfl
                  have hd : va_D (fun _ => True) (dR a) := (dD (ws' := dR a) hD rfl).weaken (fun _ _ _ _ => trivial)
                  refine va_calli (va_runV (As := [.int v1, .int v2, .int v3]) (rest := []) ⟨hx, hb, hml, hown, hts⟩ (c_Ref_holds l D a q hd H.size v1 v2 v3 g0 g1 g2 g3 g4 (0 : Int32) g6 g7 g8 g9 g10 g11 g12 g13 g14 g15 g16 g17 g18 g19 r15 h_r15) (cwV 3 hts (gd_V (m_5 114 rfl rfl) (m_5 116 rfl rfl) (m_s 65 rfl rfl) (m_1 4 rfl rfl) (m_5 117 rfl rfl)) rfl rfl rfl (by decide +kernel) ⟨Nat.le_of_ble_eq_true rfl, Nat.le_of_ble_eq_true rfl⟩) ⟨fun a U g mk q => ⟨q.1, q.2.1, q.2.2.1, va_K.moved (u := U) (U := U.calling g mk a) (Vm.Alike.refl U.vm) q.2.2.2⟩, va_recv hK hP (ci := 0) (q0 := 0) rfl rfl, fun U hU hW => ⟨rfl, by rw [hU], by rw [hU]; exact hP, va_K.moved hW.alike hK⟩⟩ rfl rfl hl.1 rfl (lv_room (Nat.le_of_ble_eq_true rfl)) (dt_at dt_Ref_relation 44 rfl) ⟨Nat.le_of_ble_eq_true rfl, Nat.le_of_ble_eq_true rfl⟩) hS (fun x _ h9 => hF x h9) hF (fun u_r15 uu t H locs ht hvm hw hB hz1 hk1 hS => ?_)
                  rw [ht] at hB
                  obtain rfl : r15 = u_r15 := hw.symm
                  have hP : va_P D CLS (wR a q g0 g1 g2 g3 g4 (0 : Int32) g6 g7 g8 g9 g10 g11 g12 g13 g14 g15 g16 g17 g18 g19) H := hB
                  have hD : va_D A (wR a q g0 g1 g2 g3 g4 (0 : Int32) g6 g7 g8 g9 g10 g11 g12 g13 g14 g15 g16 g17 g18 g19) := dD hD rfl
                  obtain ⟨hz, h⟩ := og_of h
                  obtain rfl := os_of h
                  exact W.zret (v := r15) (ty := .boolean) hx hb hr (j_z_nar hz) (fun t ht hW => ⟨⟨_, (), rfl, rfl, (hPt hP ht)⟩, hS.F ht⟩) hS.2.2 (dt_at dt_Ref_relation 45 rfl)
            · have h := if_p h c10
              exact k_Ref_relation_49 hC hA hK   (0 : Int32) H locs ls hP hD hS (lv_sub hl [] rfl) h
set_option maxRecDepth 100000 in
set_option maxHeartbeats 4000000 in
theorem c_Ref_relation (l : Launch) (D : va_G) (a : Nat → Nat) (q : Nat → ClassId) (hd : va_D (fun _ => True) (dR a)) (sz : Nat) (a1 : Int32) (a2 : Int32) (a3 : Int32) (g0 : Int32) (g1 : Nat → Int32) (g2 : Nat → Int64) (g3 : Nat → Int64) (g4 : Nat → Int32) (g5 : Int32) (g6 : Nat → Int32) (g7 : Int32) (g8 : Nat → Int32) (g9 : Int32) (g10 : Int64) (g11 : Int64) (g12 : Int32) (g13 : Int32) (g14 : Int32) (g15 : Int64) (g16 : Int32) (g17 : Int32) (g18 : Int64) (g19 : Int32) (r0 : Int32 × Int32) (h : f_Ref_relation a1 a2 a3 g0 g1 g2 g3 g5 = some r0) : Met l (⟨"OutwardTapeModel", "relation", "(III)Z"⟩ : MethodName) (WSm (⟨"OutwardTapeModel", "relation", "(III)Z"⟩ : MethodName) prog_12_method_75_code 6 (some .boolean)) rm_Ref_relation (va_Pc [.ref (a 0), .int a1, .int a2, .int a3] (fun U => U.heap.size = sz ∧ va_P D CLS (wR a q g0 g1 g2 g3 g4 g5 g6 g7 g8 g9 g10 g11 g12 g13 g14 g15 g16 g17 g18 g19) U.heap ∧ va_K D CLS (tR q) U)) (va_Qi (fun (r : Int32) (_ : Unit) => r = r0.1) (fun _ t => va_P D CLS (wR a q g0 g1 g2 g3 g4 r0.2 g6 g7 g8 g9 g10 g11 g12 g13 g14 g15 g16 g17 g18 g19) t.heap) (va_A (dR a) sz)) 0 0 (va_A (dR a) sz) := by
  refine Met.ofW (cc := prog_12_method_75_code) (maxL := 6) (ret := (some .boolean)) (by decide) rfl ?_
  intro p e s m args below meth c s₁ B hml hv
  obtain ⟨rfl, hsz, hP, hK⟩ := hv
  subst hsz
  have hC := CX.of B hml rfl
  have hl := lv_entry [.ref (a 0), .int a1, .int a2, .int a3] (n := 6) (Nat.le_of_ble_eq_true rfl)
  rw [lg_entry_eq]
  generalize (lg_sl [.ref (a 0), .int a1, .int a2, .int a3] ++ List.replicate (6 - (lg_sl [.ref (a 0), .int a1, .int a2, .int a3]).length) Slot.unset).toArray = ls at hl ⊢
  have hl : lv_has ls 6 [(0, .ref (a 0)), (1, .int a1), (2, .int a2), (3, .int a3)] := hl
  exact k_Ref_relation_0 hC (fun x h => Or.inr h) hK a1 a2 a3 g5 s.heap [] ls hP (dD hd.self rfl) va_S.rf (lv_sub hl [0, 1, 2, 3] rfl) h
abbrev rm_Ref_number : Room := { frames := 4, cells := 0, slots := 0, locals := 106 }
set_option maxRecDepth 100000 in
set_option maxHeartbeats 4000000 in
theorem k_Ref_number_173 {p : Program} {l : Launch} {e : Env} {s : State} {m : MethodId} {args : Array Value} {below : List Frame} {meth : Method} {c : Code} {D : va_G} {a : Nat → Nat} {q : Nat → ClassId} {A : Nat → Prop} (hC : CX p s m args meth c prog_12_method_76_code 7 "OutwardTapeModel" (some .long)) (hA : ∀ x, s.heap.size ≤ x → A x) (hK : va_K D CLS (tR q) s) {g0 : Int32} {g1 : Nat → Int32} {g2 : Nat → Int64} {g3 : Nat → Int64} {g4 : Nat → Int32} {g6 : Nat → Int32} {g7 : Int32} {g10 : Int64} {g11 : Int64} {g12 : Int32} {g13 : Int32} {g14 : Int32} {g15 : Int64} {g16 : Int32} {g17 : Int32} {g18 : Int64} {g19 : Int32} {r0 : Int64 × Int32 × (Nat → Int32) × Int32} : ∀ (s0 : Int64) (g5 : Int32) (g8 : Nat → Int32) (g9 : Int32) (H : Heap) (locs : List Loc) (ls : Array Slot), va_P D CLS (wR a q g0 g1 g2 g3 g4 g5 g6 g7 g8 g9 g10 g11 g12 g13 g14 g15 g16 g17 g18 g19) H → va_D A (wR a q g0 g1 g2 g3 g4 g5 g6 g7 g8 g9 g10 g11 g12 g13 g14 g15 g16 g17 g18 g19) → va_S A s.heap H locs → lv_has ls 7 [] → f_Ref_number_173  s0 g0 g1 g2 g3 g5 g8 g9 = some r0 → W p l e rm_Ref_number s m args below meth c H locs 0 0 (MQ below (va_Ql (fun (r : Int64) (_ : Unit) => r = r0.1) (fun _ t => va_P D CLS (wR a q g0 g1 g2 g3 g4 r0.2.1 g6 g7 r0.2.2.1 r0.2.2.2 g10 g11 g12 g13 g14 g15 g16 g17 g18 g19) t.heap) A) args s 0 0 A) (F0 m 173 ls [.long s0]) := by
  obtain ⟨hx, hb, hml, hown, hts, hr, hlocks⟩ := id hC
  intro s0 g5 g8 g9 H locs ls hP hD hS hl h
  rw [f_Ref_number_173] at h
  obtain rfl := os_of h
  exact W.lret (v := s0) hx hb hr (fun t ht hW => ⟨⟨_, (), rfl, rfl, (hPt hP ht)⟩, hS.F ht⟩) hS.2.2 (dt_at dt_Ref_number 90 rfl)
set_option maxRecDepth 100000 in
set_option maxHeartbeats 4000000 in
theorem k_Ref_number_153 {p : Program} {l : Launch} {e : Env} {s : State} {m : MethodId} {args : Array Value} {below : List Frame} {meth : Method} {c : Code} {D : va_G} {a : Nat → Nat} {q : Nat → ClassId} {A : Nat → Prop} (hC : CX p s m args meth c prog_12_method_76_code 7 "OutwardTapeModel" (some .long)) (hA : ∀ x, s.heap.size ≤ x → A x) (hK : va_K D CLS (tR q) s) {g0 : Int32} {g1 : Nat → Int32} {g2 : Nat → Int64} {g3 : Nat → Int64} {g4 : Nat → Int32} {g6 : Nat → Int32} {g7 : Int32} {g10 : Int64} {g11 : Int64} {g12 : Int32} {g13 : Int32} {g14 : Int32} {g15 : Int64} {g16 : Int32} {g17 : Int32} {g18 : Int64} {g19 : Int32} {r0 : Int64 × Int32 × (Nat → Int32) × Int32} : ∀ (v5 : Int64) (g5 : Int32) (g8 : Nat → Int32) (g9 : Int32) (H : Heap) (locs : List Loc) (ls : Array Slot), va_P D CLS (wR a q g0 g1 g2 g3 g4 g5 g6 g7 g8 g9 g10 g11 g12 g13 g14 g15 g16 g17 g18 g19) H → va_D A (wR a q g0 g1 g2 g3 g4 g5 g6 g7 g8 g9 g10 g11 g12 g13 g14 g15 g16 g17 g18 g19) → va_S A s.heap H locs → lv_has ls 7 [(5, .long v5)] → f_Ref_number_153  v5 g0 g1 g2 g3 g5 g8 g9 = some r0 → W p l e rm_Ref_number s m args below meth c H locs 0 0 (MQ below (va_Ql (fun (r : Int64) (_ : Unit) => r = r0.1) (fun _ t => va_P D CLS (wR a q g0 g1 g2 g3 g4 r0.2.1 g6 g7 r0.2.2.1 r0.2.2.2 g10 g11 g12 g13 g14 g15 g16 g17 g18 g19) t.heap) A) args s 0 0 A) (F0 m 153 ls []) := by
  obtain ⟨hx, hb, hml, hown, hts, hr, hlocks⟩ := id hC
  intro v5 g5 g8 g9 H locs ls hP hD hS hl h
  rw [f_Ref_number_153] at h
  refine lv_lload hx hb (dt_at dt_Ref_number 83 rfl) (lv_at hl 0 rfl) ?_
  obtain ⟨r1, h_r1, h⟩ := ob_of h
  refine vp_callSi (W.runS (As := [.long v5]) (rest := []) ⟨hx, hb, hml, hown, hts⟩ (c_Ref_infinite l v5 r1 h_r1) (va_cwS 1 hts (gd_S (m_4 78 rfl rfl) (m_4 79 rfl rfl) (m_1 4 rfl rfl) (m_4 80 rfl rfl)) rfl rfl rfl (by decide +kernel) ⟨Nat.le_of_ble_eq_true rfl, Nat.le_of_ble_eq_true rfl⟩) ⟨fun _ _ _ _ q => q, fun U hU hW => ⟨rfl, trivial⟩⟩ rfl rfl hl.1 rfl (lv_room (Nat.le_of_ble_eq_true rfl)) (dt_at dt_Ref_number 84 rfl) ⟨Nat.le_of_ble_eq_true rfl, Nat.le_of_ble_eq_true rfl⟩) (fun u_r1 q_r1 => ?_)
  obtain rfl : r1 = u_r1 := q_r1.symm
  refine lv_if_eq (tgt := 167) hx hb (dt_at dt_Ref_number 85 rfl) (by decide) (fun c2 => ?_) (fun c2 => ?_)
  · have h := if_p h c2
    refine lv_ldc2 (v := -9218868437227405311) hx hb hown (hts (Cond.constantLong "OutwardTapeModel" 323 (-9218868437227405311)) (m_5 125 rfl rfl)) (dt_at dt_Ref_number 88 rfl) ?_
    obtain ⟨r3, h_r3, h⟩ := ob_of h
    refine vp_callSl (W.runS (As := [.long (-9218868437227405311 : Int64)]) (rest := []) ⟨hx, hb, hml, hown, hts⟩ (c_Ref_bits l (-9218868437227405311 : Int64) r3 h_r3) (va_cwS 1 hts (gd_S (m_5 103 rfl rfl) (m_5 104 rfl rfl) (m_1 4 rfl rfl) (m_5 105 rfl rfl)) rfl rfl rfl (by decide +kernel) ⟨Nat.le_of_ble_eq_true rfl, Nat.le_of_ble_eq_true rfl⟩) ⟨fun _ _ _ _ q => q, fun U hU hW => ⟨rfl, trivial⟩⟩ rfl rfl hl.1 rfl (lv_room (Nat.le_of_ble_eq_true rfl)) (dt_at dt_Ref_number 89 rfl) ⟨Nat.le_of_ble_eq_true rfl, Nat.le_of_ble_eq_true rfl⟩) (fun u_r3 q_r3 => ?_)
    obtain rfl : r3 = u_r3 := q_r3.symm
    exact k_Ref_number_173 hC hA hK   r3 g5 g8 g9 H locs ls hP hD hS (lv_sub hl [] rfl) h
  · have h := if_n h c2
    refine lv_ldc2 (v := 9218868437227405311) hx hb hown (hts (Cond.constantLong "OutwardTapeModel" 71 (9218868437227405311)) (m_4 154 rfl rfl)) (dt_at dt_Ref_number 86 rfl) ?_
    refine lv_goto (tgt := 173) hx hb (dt_at dt_Ref_number 87 rfl) (by decide) ?_
    exact k_Ref_number_173 hC hA hK   (9218868437227405311 : Int64) g5 g8 g9 H locs ls hP hD hS (lv_sub hl [] rfl) h
set_option maxRecDepth 100000 in
set_option maxHeartbeats 4000000 in
theorem k_Ref_number_111 {p : Program} {l : Launch} {e : Env} {s : State} {m : MethodId} {args : Array Value} {below : List Frame} {meth : Method} {c : Code} {D : va_G} {a : Nat → Nat} {q : Nat → ClassId} {A : Nat → Prop} (hC : CX p s m args meth c prog_12_method_76_code 7 "OutwardTapeModel" (some .long)) (hA : ∀ x, s.heap.size ≤ x → A x) (hK : va_K D CLS (tR q) s) {g0 : Int32} {g1 : Nat → Int32} {g2 : Nat → Int64} {g3 : Nat → Int64} {g4 : Nat → Int32} {g6 : Nat → Int32} {g7 : Int32} {g10 : Int64} {g11 : Int64} {g12 : Int32} {g13 : Int32} {g14 : Int32} {g15 : Int64} {g16 : Int32} {g17 : Int32} {g18 : Int64} {g19 : Int32} {r0 : Int64 × Int32 × (Nat → Int32) × Int32} : ∀ (s0 : Int64) (g5 : Int32) (g8 : Nat → Int32) (g9 : Int32) (H : Heap) (locs : List Loc) (ls : Array Slot), va_P D CLS (wR a q g0 g1 g2 g3 g4 g5 g6 g7 g8 g9 g10 g11 g12 g13 g14 g15 g16 g17 g18 g19) H → va_D A (wR a q g0 g1 g2 g3 g4 g5 g6 g7 g8 g9 g10 g11 g12 g13 g14 g15 g16 g17 g18 g19) → va_S A s.heap H locs → lv_has ls 7 [] → f_Ref_number_111  s0 g0 g1 g2 g3 g5 g8 g9 = some r0 → W p l e rm_Ref_number s m args below meth c H locs 0 0 (MQ below (va_Ql (fun (r : Int64) (_ : Unit) => r = r0.1) (fun _ t => va_P D CLS (wR a q g0 g1 g2 g3 g4 r0.2.1 g6 g7 r0.2.2.1 r0.2.2.2 g10 g11 g12 g13 g14 g15 g16 g17 g18 g19) t.heap) A) args s 0 0 A) (F0 m 111 ls [.long s0]) := by
  obtain ⟨hx, hb, hml, hown, hts, hr, hlocks⟩ := id hC
  intro s0 g5 g8 g9 H locs ls hP hD hS hl h
  rw [f_Ref_number_111] at h
  obtain rfl := os_of h
  exact W.lret (v := s0) hx hb hr (fun t ht hW => ⟨⟨_, (), rfl, rfl, (hPt hP ht)⟩, hS.F ht⟩) hS.2.2 (dt_at dt_Ref_number 62 rfl)
set_option maxRecDepth 100000 in
set_option maxHeartbeats 4000000 in
theorem k_Ref_number_81 {p : Program} {l : Launch} {e : Env} {s : State} {m : MethodId} {args : Array Value} {below : List Frame} {meth : Method} {c : Code} {D : va_G} {a : Nat → Nat} {q : Nat → ClassId} {A : Nat → Prop} (hC : CX p s m args meth c prog_12_method_76_code 7 "OutwardTapeModel" (some .long)) (hA : ∀ x, s.heap.size ≤ x → A x) (hK : va_K D CLS (tR q) s) {g0 : Int32} {g1 : Nat → Int32} {g2 : Nat → Int64} {g3 : Nat → Int64} {g4 : Nat → Int32} {g6 : Nat → Int32} {g7 : Int32} {g10 : Int64} {g11 : Int64} {g12 : Int32} {g13 : Int32} {g14 : Int32} {g15 : Int64} {g16 : Int32} {g17 : Int32} {g18 : Int64} {g19 : Int32} {r0 : Int64 × Int32 × (Nat → Int32) × Int32} : ∀ (s0 : Int64) (g5 : Int32) (g8 : Nat → Int32) (g9 : Int32) (H : Heap) (locs : List Loc) (ls : Array Slot), va_P D CLS (wR a q g0 g1 g2 g3 g4 g5 g6 g7 g8 g9 g10 g11 g12 g13 g14 g15 g16 g17 g18 g19) H → va_D A (wR a q g0 g1 g2 g3 g4 g5 g6 g7 g8 g9 g10 g11 g12 g13 g14 g15 g16 g17 g18 g19) → va_S A s.heap H locs → lv_has ls 7 [] → f_Ref_number_81  s0 g0 g1 g2 g3 g5 g8 g9 = some r0 → W p l e rm_Ref_number s m args below meth c H locs 0 0 (MQ below (va_Ql (fun (r : Int64) (_ : Unit) => r = r0.1) (fun _ t => va_P D CLS (wR a q g0 g1 g2 g3 g4 r0.2.1 g6 g7 r0.2.2.1 r0.2.2.2 g10 g11 g12 g13 g14 g15 g16 g17 g18 g19) t.heap) A) args s 0 0 A) (F0 m 81 ls [.long s0]) := by
  obtain ⟨hx, hb, hml, hown, hts, hr, hlocks⟩ := id hC
  intro s0 g5 g8 g9 H locs ls hP hD hS hl h
  rw [f_Ref_number_81] at h
  obtain rfl := os_of h
  exact W.lret (v := s0) hx hb hr (fun t ht hW => ⟨⟨_, (), rfl, rfl, (hPt hP ht)⟩, hS.F ht⟩) hS.2.2 (dt_at dt_Ref_number 46 rfl)
set_option maxRecDepth 100000 in
set_option maxHeartbeats 4000000 in
theorem k_Ref_number_61 {p : Program} {l : Launch} {e : Env} {s : State} {m : MethodId} {args : Array Value} {below : List Frame} {meth : Method} {c : Code} {D : va_G} {a : Nat → Nat} {q : Nat → ClassId} {A : Nat → Prop} (hC : CX p s m args meth c prog_12_method_76_code 7 "OutwardTapeModel" (some .long)) (hA : ∀ x, s.heap.size ≤ x → A x) (hK : va_K D CLS (tR q) s) {g0 : Int32} {g1 : Nat → Int32} {g2 : Nat → Int64} {g3 : Nat → Int64} {g4 : Nat → Int32} {g6 : Nat → Int32} {g7 : Int32} {g10 : Int64} {g11 : Int64} {g12 : Int32} {g13 : Int32} {g14 : Int32} {g15 : Int64} {g16 : Int32} {g17 : Int32} {g18 : Int64} {g19 : Int32} {r0 : Int64 × Int32 × (Nat → Int32) × Int32} : ∀ (v1 : Int32) (v3 : Int64) (v5 : Int64) (g5 : Int32) (g8 : Nat → Int32) (g9 : Int32) (H : Heap) (locs : List Loc) (ls : Array Slot), va_P D CLS (wR a q g0 g1 g2 g3 g4 g5 g6 g7 g8 g9 g10 g11 g12 g13 g14 g15 g16 g17 g18 g19) H → va_D A (wR a q g0 g1 g2 g3 g4 g5 g6 g7 g8 g9 g10 g11 g12 g13 g14 g15 g16 g17 g18 g19) → va_S A s.heap H locs → lv_has ls 7 [(1, .int v1), (3, .long v3), (5, .long v5)] → f_Ref_number_61  v1 v3 v5 g0 g1 g2 g3 g5 g8 g9 = some r0 → W p l e rm_Ref_number s m args below meth c H locs 0 0 (MQ below (va_Ql (fun (r : Int64) (_ : Unit) => r = r0.1) (fun _ t => va_P D CLS (wR a q g0 g1 g2 g3 g4 r0.2.1 g6 g7 r0.2.2.1 r0.2.2.2 g10 g11 g12 g13 g14 g15 g16 g17 g18 g19) t.heap) A) args s 0 0 A) (F0 m 61 ls []) := by
  obtain ⟨hx, hb, hml, hown, hts, hr, hlocks⟩ := id hC
  intro v1 v3 v5 g5 g8 g9 H locs ls hP hD hS hl h
  rw [f_Ref_number_61] at h
  refine lv_iload_n hx hb (dt_at dt_Ref_number 36 rfl) rfl (lv_at hl 0 rfl) ?_
  refine lv_iconst (v := 1) hx hb (dt_at dt_Ref_number 37 rfl) (by decide) ?_
  refine lv_icmp_ne (tgt := 75) hx hb (dt_at dt_Ref_number 38 rfl) (by decide) (fun c1 => ?_) (fun c1 => ?_)
  · have h := if_n h c1
    refine lv_lload_n hx hb (dt_at dt_Ref_number 43 rfl) rfl (lv_at hl 1 rfl) ?_
    refine lv_lload hx hb (dt_at dt_Ref_number 44 rfl) (lv_at hl 2 rfl) ?_
    obtain ⟨r2, h_r2, h⟩ := ob_of h
    refine vp_callSl (W.runS (As := [.long v3, .long v5]) (rest := []) ⟨hx, hb, hml, hown, hts⟩ (c_Ref_mignitude l v3 v5 r2 h_r2) (va_cwS 2 hts (gd_S (m_4 108 rfl rfl) (m_4 109 rfl rfl) (m_1 4 rfl rfl) (m_4 110 rfl rfl)) rfl rfl rfl (by decide +kernel) ⟨Nat.le_of_ble_eq_true rfl, Nat.le_of_ble_eq_true rfl⟩) ⟨fun _ _ _ _ q => q, fun U hU hW => ⟨rfl, trivial⟩⟩ rfl rfl hl.1 rfl (lv_room (Nat.le_of_ble_eq_true rfl)) (dt_at dt_Ref_number 45 rfl) ⟨Nat.le_of_ble_eq_true rfl, Nat.le_of_ble_eq_true rfl⟩) (fun u_r2 q_r2 => ?_)
    obtain rfl : r2 = u_r2 := q_r2.symm
    exact k_Ref_number_81 hC hA hK   r2 g5 g8 g9 H locs ls hP hD hS (lv_sub hl [] rfl) h
  · have h := if_p h c1
    refine lv_lload_n hx hb (dt_at dt_Ref_number 39 rfl) rfl (lv_at hl 1 rfl) ?_
    refine lv_lload hx hb (dt_at dt_Ref_number 40 rfl) (lv_at hl 2 rfl) ?_
    obtain ⟨r3, h_r3, h⟩ := ob_of h
    refine vp_callSl (W.runS (As := [.long v3, .long v5]) (rest := []) ⟨hx, hb, hml, hown, hts⟩ (c_Ref_magnitude l v3 v5 r3 h_r3) (va_cwS 2 hts (gd_S (m_4 114 rfl rfl) (m_4 115 rfl rfl) (m_1 4 rfl rfl) (m_4 116 rfl rfl)) rfl rfl rfl (by decide +kernel) ⟨Nat.le_of_ble_eq_true rfl, Nat.le_of_ble_eq_true rfl⟩) ⟨fun _ _ _ _ q => q, fun U hU hW => ⟨rfl, trivial⟩⟩ rfl rfl hl.1 rfl (lv_room (Nat.le_of_ble_eq_true rfl)) (dt_at dt_Ref_number 41 rfl) ⟨Nat.le_of_ble_eq_true rfl, Nat.le_of_ble_eq_true rfl⟩) (fun u_r3 q_r3 => ?_)
    obtain rfl : r3 = u_r3 := q_r3.symm
    refine lv_goto (tgt := 81) hx hb (dt_at dt_Ref_number 42 rfl) (by decide) ?_
    exact k_Ref_number_81 hC hA hK   r3 g5 g8 g9 H locs ls hP hD hS (lv_sub hl [] rfl) h
set_option maxRecDepth 100000 in
set_option maxHeartbeats 4000000 in
theorem k_Ref_number_32 {p : Program} {l : Launch} {e : Env} {s : State} {m : MethodId} {args : Array Value} {below : List Frame} {meth : Method} {c : Code} {D : va_G} {a : Nat → Nat} {q : Nat → ClassId} {A : Nat → Prop} (hC : CX p s m args meth c prog_12_method_76_code 7 "OutwardTapeModel" (some .long)) (hA : ∀ x, s.heap.size ≤ x → A x) (hK : va_K D CLS (tR q) s) {g0 : Int32} {g1 : Nat → Int32} {g2 : Nat → Int64} {g3 : Nat → Int64} {g4 : Nat → Int32} {g6 : Nat → Int32} {g7 : Int32} {g10 : Int64} {g11 : Int64} {g12 : Int32} {g13 : Int32} {g14 : Int32} {g15 : Int64} {g16 : Int32} {g17 : Int32} {g18 : Int64} {g19 : Int32} {r0 : Int64 × Int32 × (Nat → Int32) × Int32} : ∀  (g5 : Int32) (g8 : Nat → Int32) (g9 : Int32) (H : Heap) (locs : List Loc) (ls : Array Slot), va_P D CLS (wR a q g0 g1 g2 g3 g4 g5 g6 g7 g8 g9 g10 g11 g12 g13 g14 g15 g16 g17 g18 g19) H → va_D A (wR a q g0 g1 g2 g3 g4 g5 g6 g7 g8 g9 g10 g11 g12 g13 g14 g15 g16 g17 g18 g19) → va_S A s.heap H locs → lv_has ls 7 [] → f_Ref_number_32  g0 g1 g2 g3 g5 g8 g9 = some r0 → W p l e rm_Ref_number s m args below meth c H locs 0 0 (MQ below (va_Ql (fun (r : Int64) (_ : Unit) => r = r0.1) (fun _ t => va_P D CLS (wR a q g0 g1 g2 g3 g4 r0.2.1 g6 g7 r0.2.2.1 r0.2.2.2 g10 g11 g12 g13 g14 g15 g16 g17 g18 g19) t.heap) A) args s 0 0 A) (F0 m 32 ls []) := by
  obtain ⟨hx, hb, hml, hown, hts, hr, hlocks⟩ := id hC
  intro g5 g8 g9 H locs ls hP hD hS hl h
  rw [f_Ref_number_32] at h
  refine lv_ldc2 (v := 9221120237041090560) hx hb hown (hts (Cond.constantLong "OutwardTapeModel" 311 (9221120237041090560)) (m_5 101 rfl rfl)) (dt_at dt_Ref_number 18 rfl) ?_
  obtain rfl := os_of h
  exact W.lret (v := (9221120237041090560 : Int64)) hx hb hr (fun t ht hW => ⟨⟨_, (), rfl, rfl, (hPt hP ht)⟩, hS.F ht⟩) hS.2.2 (dt_at dt_Ref_number 19 rfl)
set_option maxRecDepth 100000 in
set_option maxHeartbeats 4000000 in
theorem k_Ref_number_0 {p : Program} {l : Launch} {e : Env} {s : State} {m : MethodId} {args : Array Value} {below : List Frame} {meth : Method} {c : Code} {D : va_G} {a : Nat → Nat} {q : Nat → ClassId} {A : Nat → Prop} (hC : CX p s m args meth c prog_12_method_76_code 7 "OutwardTapeModel" (some .long)) (hA : ∀ x, s.heap.size ≤ x → A x) (hK : va_K D CLS (tR q) s) {g0 : Int32} {g1 : Nat → Int32} {g2 : Nat → Int64} {g3 : Nat → Int64} {g4 : Nat → Int32} {g6 : Nat → Int32} {g7 : Int32} {g10 : Int64} {g11 : Int64} {g12 : Int32} {g13 : Int32} {g14 : Int32} {g15 : Int64} {g16 : Int32} {g17 : Int32} {g18 : Int64} {g19 : Int32} {r0 : Int64 × Int32 × (Nat → Int32) × Int32} : ∀ (v1 : Int32) (v2 : Int32) (g5 : Int32) (g8 : Nat → Int32) (g9 : Int32) (H : Heap) (locs : List Loc) (ls : Array Slot), va_P D CLS (wR a q g0 g1 g2 g3 g4 g5 g6 g7 g8 g9 g10 g11 g12 g13 g14 g15 g16 g17 g18 g19) H → va_D A (wR a q g0 g1 g2 g3 g4 g5 g6 g7 g8 g9 g10 g11 g12 g13 g14 g15 g16 g17 g18 g19) → va_S A s.heap H locs → lv_has ls 7 [(0, .ref (a 0)), (1, .int v1), (2, .int v2)] → f_Ref_number_0  v1 v2 g0 g1 g2 g3 g5 g8 g9 = some r0 → W p l e rm_Ref_number s m args below meth c H locs 0 0 (MQ below (va_Ql (fun (r : Int64) (_ : Unit) => r = r0.1) (fun _ t => va_P D CLS (wR a q g0 g1 g2 g3 g4 r0.2.1 g6 g7 r0.2.2.1 r0.2.2.2 g10 g11 g12 g13 g14 g15 g16 g17 g18 g19) t.heap) A) args s 0 0 A) (F0 m 0 ls []) := by
  obtain ⟨hx, hb, hml, hown, hts, hr, hlocks⟩ := id hC
  intro v1 v2 g5 g8 g9 H locs ls hP hD hS hl h
  rw [f_Ref_number_0] at h
  refine lv_aload_n hx hb (dt_at dt_Ref_number 0 rfl) rfl (lv_at hl 0 rfl) ?_
  refine lv_iconst (v := 0) hx hb (dt_at dt_Ref_number 1 rfl) (by decide) ?_
  refine va_put (D := D) (ci := 0) (v := .int (0 : Int32)) (ty := .int) (C := "OutwardTapeModel") (T := T_Ref) (N := 20) hx hb hts in_Ref ty_Ref tk_Ref nm_Ref hown hK hP hD hS 0 rfl rfl 5 (by decide) (hts (Cond.fieldLink "OutwardTapeModel" 29 "OutwardTapeModel" "code" "I") (m_4 4 rfl rfl)) (fun _ h9 => h9) rfl (by decide +kernel) rfl rfl (Nat.le_of_ble_eq_true rfl) (dt_at dt_Ref_number 2 rfl) (fun H locs hP hD hS => ?_)
  have hP : va_P D CLS (wR a q g0 g1 g2 g3 g4 (0 : Int32) g6 g7 g8 g9 g10 g11 g12 g13 g14 g15 g16 g17 g18 g19) H := hP
  have hD : va_D A (wR a q g0 g1 g2 g3 g4 (0 : Int32) g6 g7 g8 g9 g10 g11 g12 g13 g14 g15 g16 g17 g18 g19) := hD
  refine lv_iload_n hx hb (dt_at dt_Ref_number 3 rfl) rfl (lv_at hl 1 rfl) ?_
  refine lv_if_lt (tgt := 32) hx hb (dt_at dt_Ref_number 4 rfl) (by decide) (fun c1 => ?_) (fun c1 => ?_)
  · have h := if_p h c1
    exact k_Ref_number_32 hC hA hK   (0 : Int32) g8 g9 H locs ls hP hD hS (lv_sub hl [] rfl) h
  · have h := if_n h c1
    refine lv_iload_n hx hb (dt_at dt_Ref_number 5 rfl) rfl (lv_at hl 1 rfl) ?_
    refine lv_iconst (v := 3) hx hb (dt_at dt_Ref_number 6 rfl) (by decide) ?_
    refine lv_icmp_gt (tgt := 32) hx hb (dt_at dt_Ref_number 7 rfl) (by decide) (fun c2 => ?_) (fun c2 => ?_)
    · have h := if_p h c2
      exact k_Ref_number_32 hC hA hK   (0 : Int32) g8 g9 H locs ls hP hD hS (lv_sub hl [] rfl) h
    · have h := if_n h c2
      refine lv_aload_n hx hb (dt_at dt_Ref_number 8 rfl) rfl (lv_at hl 0 rfl) ?_
      refine lv_iload_n hx hb (dt_at dt_Ref_number 9 rfl) rfl (lv_at hl 2 rfl) ?_
      obtain ⟨r3, h_r3, h⟩ := ob_of h
      have hF := va_free (wc := dR a) (dD (ws' := dR a) hD rfl) hS hA [0, 1, 2, 3, 4, 5, 6] rfl
      have hd : va_D (fun _ => True) (dR a) := (dD (ws' := dR a) hD rfl).weaken (fun _ _ _ _ => trivial)
      refine va_calli (va_runV (As := [.int v2]) (rest := []) ⟨hx, hb, hml, hown, hts⟩ (c_Ref_there l D a q hd H.size v2 g0 g1 g2 g3 g4 (0 : Int32) g6 g7 g8 g9 g10 g11 g12 g13 g14 g15 g16 g17 g18 g19 r3 h_r3) (cwV 1 hts (gd_V (m_4 96 rfl rfl) (m_4 98 rfl rfl) (m_s 24 rfl rfl) (m_1 4 rfl rfl) (m_4 99 rfl rfl)) rfl rfl rfl (by decide +kernel) ⟨Nat.le_of_ble_eq_true rfl, Nat.le_of_ble_eq_true rfl⟩) ⟨fun a U g mk q => ⟨q.1, q.2.1, q.2.2.1, va_K.moved (u := U) (U := U.calling g mk a) (Vm.Alike.refl U.vm) q.2.2.2⟩, va_recv hK hP (ci := 0) (q0 := 0) rfl rfl, fun U hU hW => ⟨rfl, by rw [hU], by rw [hU]; exact hP, va_K.moved hW.alike hK⟩⟩ rfl rfl hl.1 rfl (lv_room (Nat.le_of_ble_eq_true rfl)) (dt_at dt_Ref_number 10 rfl) ⟨Nat.le_of_ble_eq_true rfl, Nat.le_of_ble_eq_true rfl⟩) hS (fun x _ h9 => hF x h9) hF (fun u_r3 uu t H locs ht hvm hw hB hz1 hk1 hS => ?_)
      rw [ht] at hB
      obtain rfl : r3 = u_r3 := hw.symm
      have hP : va_P D CLS (wR a q g0 g1 g2 g3 g4 (0 : Int32) g6 g7 g8 g9 g10 g11 g12 g13 g14 g15 g16 g17 g18 g19) H := hB
      have hD : va_D A (wR a q g0 g1 g2 g3 g4 (0 : Int32) g6 g7 g8 g9 g10 g11 g12 g13 g14 g15 g16 g17 g18 g19) := dD hD rfl
      refine lv_if_eq (tgt := 32) hx hb (dt_at dt_Ref_number 11 rfl) (by decide) (fun c4 => ?_) (fun c4 => ?_)
      · have h := if_p h c4
        exact k_Ref_number_32 hC hA hK   (0 : Int32) g8 g9 H locs ls hP hD hS (lv_sub hl [] rfl) h
      · have h := if_n h c4
        refine lv_aload_n hx hb (dt_at dt_Ref_number 12 rfl) rfl (lv_at hl 0 rfl) ?_
        refine va_get (D := D) (ci := 0) (v := .ref (a 1)) (C := "OutwardTapeModel") (T := T_Ref) (N := 20) hx hb hts in_Ref hown hK hP 0 rfl rfl 1 (by decide) (hts (Cond.fieldLink "OutwardTapeModel" 7 "OutwardTapeModel" "kind" "[I") (m_4 0 rfl rfl)) (fun _ h9 => h9) rfl (dt_at dt_Ref_number 13 rfl) ?_
        refine lv_iload_n hx hb (dt_at dt_Ref_number 14 rfl) rfl (lv_at hl 2 rfl) ?_
        obtain ⟨z5, h⟩ := og_of h
        refine va_iald hx hb hK hP 1 0 rfl rfl z5 (dt_at dt_Ref_number 15 rfl) ?_
        refine lv_iconst (v := 2) hx hb (dt_at dt_Ref_number 16 rfl) (by decide) ?_
        refine lv_icmp_eq (tgt := 36) hx hb (dt_at dt_Ref_number 17 rfl) (by decide) (fun c6 => ?_) (fun c6 => ?_)
        · have h := if_p h c6
          refine lv_aload_n hx hb (dt_at dt_Ref_number 20 rfl) rfl (lv_at hl 0 rfl) ?_
          refine va_get (D := D) (ci := 0) (v := .ref (a 2)) (C := "OutwardTapeModel") (T := T_Ref) (N := 20) hx hb hts in_Ref hown hK hP 0 rfl rfl 2 (by decide) (hts (Cond.fieldLink "OutwardTapeModel" 13 "OutwardTapeModel" "low" "[J") (m_4 1 rfl rfl)) (fun _ h9 => h9) rfl (dt_at dt_Ref_number 21 rfl) ?_
          refine lv_iload_n hx hb (dt_at dt_Ref_number 22 rfl) rfl (lv_at hl 2 rfl) ?_
          obtain ⟨z7, h⟩ := og_of h
          refine va_lald hx hb hK hP 2 1 rfl rfl z7 (dt_at dt_Ref_number 23 rfl) ?_
          obtain ⟨t8, e_t8, h⟩ := ol_of h
          refine lv_topl (fun u_t8 q_t8 => ?_)
          obtain rfl : t8 = u_t8 := e_t8.trans q_t8.symm
          refine lv_lstore_n (lv' := [(3, .long t8), (0, .ref (a 0)), (1, .int v1), (2, .int v2)]) hx hb (dt_at dt_Ref_number 24 rfl) rfl hl (by decide) rfl (fun ls hl => ?_)
          refine lv_aload_n hx hb (dt_at dt_Ref_number 25 rfl) rfl (lv_at hl 1 rfl) ?_
          refine va_get (D := D) (ci := 0) (v := .ref (a 3)) (C := "OutwardTapeModel") (T := T_Ref) (N := 20) hx hb hts in_Ref hown hK hP 0 rfl rfl 3 (by decide) (hts (Cond.fieldLink "OutwardTapeModel" 17 "OutwardTapeModel" "high" "[J") (m_4 2 rfl rfl)) (fun _ h9 => h9) rfl (dt_at dt_Ref_number 26 rfl) ?_
          refine lv_iload_n hx hb (dt_at dt_Ref_number 27 rfl) rfl (lv_at hl 3 rfl) ?_
          obtain ⟨z9, h⟩ := og_of h
          refine va_lald hx hb hK hP 3 2 rfl rfl z9 (dt_at dt_Ref_number 28 rfl) ?_
          obtain ⟨t10, e_t10, h⟩ := ol_of h
          refine lv_topl (fun u_t10 q_t10 => ?_)
          obtain rfl : t10 = u_t10 := e_t10.trans q_t10.symm
          refine lv_lstore (lv' := [(5, .long t10), (3, .long t8), (0, .ref (a 0)), (1, .int v1), (2, .int v2)]) hx hb (dt_at dt_Ref_number 29 rfl) hl (by decide) rfl (fun ls hl => ?_)
          refine lv_iload_n hx hb (dt_at dt_Ref_number 30 rfl) rfl (lv_at hl 3 rfl) ?_
          refine lv_iconst (v := 1) hx hb (dt_at dt_Ref_number 31 rfl) (by decide) ?_
          refine lv_icmp_eq (tgt := 61) hx hb (dt_at dt_Ref_number 32 rfl) (by decide) (fun c11 => ?_) (fun c11 => ?_)
          · have h := if_p h c11
            exact k_Ref_number_61 hC hA hK   v1 t8 t10 (0 : Int32) g8 g9 H locs ls hP hD hS (lv_sub hl [3, 1, 0] rfl) h
          · have h := if_n h c11
            refine lv_iload_n hx hb (dt_at dt_Ref_number 33 rfl) rfl (lv_at hl 3 rfl) ?_
            refine lv_iconst (v := 2) hx hb (dt_at dt_Ref_number 34 rfl) (by decide) ?_
            refine lv_icmp_ne (tgt := 82) hx hb (dt_at dt_Ref_number 35 rfl) (by decide) (fun c12 => ?_) (fun c12 => ?_)
            · have h := if_n h c12
              refine lv_iload_n hx hb (dt_at dt_Ref_number 47 rfl) rfl (lv_at hl 3 rfl) ?_
              refine lv_if_ne (tgt := 112) hx hb (dt_at dt_Ref_number 48 rfl) (by decide) (fun c13 => ?_) (fun c13 => ?_)
              · have h := if_n h c13
                refine lv_lload_n hx hb (dt_at dt_Ref_number 63 rfl) rfl (lv_at hl 1 rfl) ?_
                refine lv_lload hx hb (dt_at dt_Ref_number 64 rfl) (lv_at hl 0 rfl) ?_
                obtain ⟨r14, h_r14, h⟩ := ob_of h
                refine vp_callSi (W.runS (As := [.long t8, .long t10]) (rest := []) ⟨hx, hb, hml, hown, hts⟩ (c_Ref_bounded l t8 t10 r14 h_r14) (va_cwS 2 hts (gd_S (m_4 75 rfl rfl) (m_4 76 rfl rfl) (m_1 4 rfl rfl) (m_4 77 rfl rfl)) rfl rfl rfl (by decide +kernel) ⟨Nat.le_of_ble_eq_true rfl, Nat.le_of_ble_eq_true rfl⟩) ⟨fun _ _ _ _ q => q, fun U hU hW => ⟨rfl, trivial⟩⟩ rfl rfl hl.1 rfl (lv_room (Nat.le_of_ble_eq_true rfl)) (dt_at dt_Ref_number 65 rfl) ⟨Nat.le_of_ble_eq_true rfl, Nat.le_of_ble_eq_true rfl⟩) (fun u_r14 q_r14 => ?_)
                obtain rfl : r14 = u_r14 := q_r14.symm
                refine lv_if_eq (tgt := 134) hx hb (dt_at dt_Ref_number 66 rfl) (by decide) (fun c15 => ?_) (fun c15 => ?_)
                · have h := if_p h c15
                  refine lv_lload_n hx hb (dt_at dt_Ref_number 75 rfl) rfl (lv_at hl 1 rfl) ?_
                  obtain ⟨r16, h_r16, h⟩ := ob_of h
                  refine vp_callSi (W.runS (As := [.long t8]) (rest := []) ⟨hx, hb, hml, hown, hts⟩ (c_Ref_infinite l t8 r16 h_r16) (va_cwS 1 hts (gd_S (m_4 78 rfl rfl) (m_4 79 rfl rfl) (m_1 4 rfl rfl) (m_4 80 rfl rfl)) rfl rfl rfl (by decide +kernel) ⟨Nat.le_of_ble_eq_true rfl, Nat.le_of_ble_eq_true rfl⟩) ⟨fun _ _ _ _ q => q, fun U hU hW => ⟨rfl, trivial⟩⟩ rfl rfl hl.1 rfl (lv_room (Nat.le_of_ble_eq_true rfl)) (dt_at dt_Ref_number 76 rfl) ⟨Nat.le_of_ble_eq_true rfl, Nat.le_of_ble_eq_true rfl⟩) (fun u_r16 q_r16 => ?_)
                  obtain rfl : r16 = u_r16 := q_r16.symm
                  refine lv_if_eq (tgt := 153) hx hb (dt_at dt_Ref_number 77 rfl) (by decide) (fun c17 => ?_) (fun c17 => ?_)
                  · have h := if_p h c17
                    exact k_Ref_number_153 hC hA hK   t10 (0 : Int32) g8 g9 H locs ls hP hD hS (lv_sub hl [0] rfl) h
                  · have h := if_n h c17
                    refine lv_lload hx hb (dt_at dt_Ref_number 78 rfl) (lv_at hl 0 rfl) ?_
                    obtain ⟨r18, h_r18, h⟩ := ob_of h
                    refine vp_callSi (W.runS (As := [.long t10]) (rest := []) ⟨hx, hb, hml, hown, hts⟩ (c_Ref_infinite l t10 r18 h_r18) (va_cwS 1 hts (gd_S (m_4 78 rfl rfl) (m_4 79 rfl rfl) (m_1 4 rfl rfl) (m_4 80 rfl rfl)) rfl rfl rfl (by decide +kernel) ⟨Nat.le_of_ble_eq_true rfl, Nat.le_of_ble_eq_true rfl⟩) ⟨fun _ _ _ _ q => q, fun U hU hW => ⟨rfl, trivial⟩⟩ rfl rfl hl.1 rfl (lv_room (Nat.le_of_ble_eq_true rfl)) (dt_at dt_Ref_number 79 rfl) ⟨Nat.le_of_ble_eq_true rfl, Nat.le_of_ble_eq_true rfl⟩) (fun u_r18 q_r18 => ?_)
                    obtain rfl : r18 = u_r18 := q_r18.symm
                    refine lv_if_eq (tgt := 153) hx hb (dt_at dt_Ref_number 80 rfl) (by decide) (fun c19 => ?_) (fun c19 => ?_)
                    · have h := if_p h c19
                      exact k_Ref_number_153 hC hA hK   t10 (0 : Int32) g8 g9 H locs ls hP hD hS (lv_sub hl [0] rfl) h
                    · have h := if_n h c19
                      refine lv_lconst (v := 0) hx hb (dt_at dt_Ref_number 81 rfl) (by decide) ?_
                      refine lv_goto (tgt := 173) hx hb (dt_at dt_Ref_number 82 rfl) (by decide) ?_
                      exact k_Ref_number_173 hC hA hK   (0 : Int64) (0 : Int32) g8 g9 H locs ls hP hD hS (lv_sub hl [] rfl) h
                · have h := if_n h c15
                  refine lv_aload_n hx hb (dt_at dt_Ref_number 67 rfl) rfl (lv_at hl 2 rfl) ?_
                  refine lv_lload_n hx hb (dt_at dt_Ref_number 68 rfl) rfl (lv_at hl 1 rfl) ?_
                  refine lv_lload hx hb (dt_at dt_Ref_number 69 rfl) (lv_at hl 0 rfl) ?_
                  refine lv_iconst (v := -1) hx hb (dt_at dt_Ref_number 70 rfl) (by decide) ?_
                  refine lv_iconst (v := 2) hx hb (dt_at dt_Ref_number 71 rfl) (by decide) ?_
                  obtain ⟨r20, h_r20, h⟩ := ob_of h
                  have hF := va_free (wc := dR a) (dD (ws' := dR a) hD rfl) hS hA [0, 1, 2, 3, 4, 5, 6] rfl
                  have hd : va_D (fun _ => True) (dR a) := (dD (ws' := dR a) hD rfl).weaken (fun _ _ _ _ => trivial)
                  refine va_calll (va_runV (As := [.long t8, .long t10, .int (-1 : Int32), .int (2 : Int32)]) (rest := []) ⟨hx, hb, hml, hown, hts⟩ (c_Ref_sum l D a q hd H.size t8 t10 (-1 : Int32) (2 : Int32) g0 g1 g2 g3 g4 (0 : Int32) g6 g7 g8 g9 g10 g11 g12 g13 g14 g15 g16 g17 g18 g19 r20 h_r20) (cwV 4 hts (gd_V (m_4 201 rfl rfl) (m_4 203 rfl rfl) (m_s 44 rfl rfl) (m_1 4 rfl rfl) (m_4 204 rfl rfl)) rfl rfl rfl (by decide +kernel) ⟨Nat.le_of_ble_eq_true rfl, Nat.le_of_ble_eq_true rfl⟩) ⟨fun a U g mk q => ⟨q.1, q.2.1, q.2.2.1, va_K.moved (u := U) (U := U.calling g mk a) (Vm.Alike.refl U.vm) q.2.2.2⟩, va_recv hK hP (ci := 0) (q0 := 0) rfl rfl, fun U hU hW => ⟨rfl, by rw [hU], by rw [hU]; exact hP, va_K.moved hW.alike hK⟩⟩ rfl rfl hl.1 rfl (lv_room (Nat.le_of_ble_eq_true rfl)) (dt_at dt_Ref_number 72 rfl) ⟨Nat.le_of_ble_eq_true rfl, Nat.le_of_ble_eq_true rfl⟩) hS (fun x _ h9 => hF x h9) hF (fun u_r20 uu t H locs ht hvm hw hB hz1 hk1 hS => ?_)
                  rw [ht] at hB
                  subst hw
                  have hP : va_P D CLS (wR a q g0 g1 g2 g3 g4 (0 : Int32) g6 g7 r20.2.1 r20.2.2 g10 g11 g12 g13 g14 g15 g16 g17 g18 g19) H := hB
                  have hD : va_D A (wR a q g0 g1 g2 g3 g4 (0 : Int32) g6 g7 r20.2.1 r20.2.2 g10 g11 g12 g13 g14 g15 g16 g17 g18 g19) := dD hD rfl
                  obtain ⟨r21, h_r21, h⟩ := ob_of h
                  refine vp_callSl (W.runS (As := [.long r20.1]) (rest := []) ⟨hx, hb, hml, hown, hts⟩ (c_Ref_bits l r20.1 r21 h_r21) (va_cwS 1 hts (gd_S (m_5 103 rfl rfl) (m_5 104 rfl rfl) (m_1 4 rfl rfl) (m_5 105 rfl rfl)) rfl rfl rfl (by decide +kernel) ⟨Nat.le_of_ble_eq_true rfl, Nat.le_of_ble_eq_true rfl⟩) ⟨fun _ _ _ _ q => q, fun U hU hW => ⟨rfl, trivial⟩⟩ rfl rfl hl.1 rfl (lv_room (Nat.le_of_ble_eq_true rfl)) (dt_at dt_Ref_number 73 rfl) ⟨Nat.le_of_ble_eq_true rfl, Nat.le_of_ble_eq_true rfl⟩) (fun u_r21 q_r21 => ?_)
                  obtain rfl : r21 = u_r21 := q_r21.symm
                  obtain rfl := os_of h
                  exact W.lret (v := r21) hx hb hr (fun t ht hW => ⟨⟨_, (), rfl, rfl, (hPt hP ht)⟩, hS.F ht⟩) hS.2.2 (dt_at dt_Ref_number 74 rfl)
              · have h := if_p h c13
                refine lv_lload_n hx hb (dt_at dt_Ref_number 49 rfl) rfl (lv_at hl 1 rfl) ?_
                refine lv_lload hx hb (dt_at dt_Ref_number 50 rfl) (lv_at hl 0 rfl) ?_
                obtain ⟨r22, h_r22, h⟩ := ob_of h
                refine vp_callSi (W.runS (As := [.long t8, .long t10]) (rest := []) ⟨hx, hb, hml, hown, hts⟩ (c_Ref_bounded l t8 t10 r22 h_r22) (va_cwS 2 hts (gd_S (m_4 75 rfl rfl) (m_4 76 rfl rfl) (m_1 4 rfl rfl) (m_4 77 rfl rfl)) rfl rfl rfl (by decide +kernel) ⟨Nat.le_of_ble_eq_true rfl, Nat.le_of_ble_eq_true rfl⟩) ⟨fun _ _ _ _ q => q, fun U hU hW => ⟨rfl, trivial⟩⟩ rfl rfl hl.1 rfl (lv_room (Nat.le_of_ble_eq_true rfl)) (dt_at dt_Ref_number 51 rfl) ⟨Nat.le_of_ble_eq_true rfl, Nat.le_of_ble_eq_true rfl⟩) (fun u_r22 q_r22 => ?_)
                obtain rfl : r22 = u_r22 := q_r22.symm
                refine lv_if_eq (tgt := 108) hx hb (dt_at dt_Ref_number 52 rfl) (by decide) (fun c23 => ?_) (fun c23 => ?_)
                · have h := if_p h c23
                  refine lv_ldc2 (v := 9218868437227405312) hx hb hown (hts (Cond.constantLong "OutwardTapeModel" 69 (9218868437227405312)) (m_4 70 rfl rfl)) (dt_at dt_Ref_number 61 rfl) ?_
                  exact k_Ref_number_111 hC hA hK   (9218868437227405312 : Int64) (0 : Int32) g8 g9 H locs ls hP hD hS (lv_sub hl [] rfl) h
                · have h := if_n h c23
                  refine lv_aload_n hx hb (dt_at dt_Ref_number 53 rfl) rfl (lv_at hl 2 rfl) ?_
                  refine lv_lload hx hb (dt_at dt_Ref_number 54 rfl) (lv_at hl 0 rfl) ?_
                  refine lv_lload_n hx hb (dt_at dt_Ref_number 55 rfl) rfl (lv_at hl 1 rfl) ?_
                  refine lv_lneg hx hb (dt_at dt_Ref_number 56 rfl) ?_
                  refine lv_iconst (v := 0) hx hb (dt_at dt_Ref_number 57 rfl) (by decide) ?_
                  refine lv_iconst (v := 1) hx hb (dt_at dt_Ref_number 58 rfl) (by decide) ?_
                  obtain ⟨r24, h_r24, h⟩ := ob_of h
                  have hF := va_free (wc := dR a) (dD (ws' := dR a) hD rfl) hS hA [0, 1, 2, 3, 4, 5, 6] rfl
                  have hd : va_D (fun _ => True) (dR a) := (dD (ws' := dR a) hD rfl).weaken (fun _ _ _ _ => trivial)
                  refine va_calll (va_runV (As := [.long t10, .long (-t8), .int (0 : Int32), .int (1 : Int32)]) (rest := []) ⟨hx, hb, hml, hown, hts⟩ (c_Ref_sum l D a q hd H.size t10 (-t8) (0 : Int32) (1 : Int32) g0 g1 g2 g3 g4 (0 : Int32) g6 g7 g8 g9 g10 g11 g12 g13 g14 g15 g16 g17 g18 g19 r24 h_r24) (cwV 4 hts (gd_V (m_4 201 rfl rfl) (m_4 203 rfl rfl) (m_s 44 rfl rfl) (m_1 4 rfl rfl) (m_4 204 rfl rfl)) rfl rfl rfl (by decide +kernel) ⟨Nat.le_of_ble_eq_true rfl, Nat.le_of_ble_eq_true rfl⟩) ⟨fun a U g mk q => ⟨q.1, q.2.1, q.2.2.1, va_K.moved (u := U) (U := U.calling g mk a) (Vm.Alike.refl U.vm) q.2.2.2⟩, va_recv hK hP (ci := 0) (q0 := 0) rfl rfl, fun U hU hW => ⟨rfl, by rw [hU], by rw [hU]; exact hP, va_K.moved hW.alike hK⟩⟩ rfl rfl hl.1 rfl (lv_room (Nat.le_of_ble_eq_true rfl)) (dt_at dt_Ref_number 59 rfl) ⟨Nat.le_of_ble_eq_true rfl, Nat.le_of_ble_eq_true rfl⟩) hS (fun x _ h9 => hF x h9) hF (fun u_r24 uu t H locs ht hvm hw hB hz1 hk1 hS => ?_)
                  rw [ht] at hB
                  subst hw
                  have hP : va_P D CLS (wR a q g0 g1 g2 g3 g4 (0 : Int32) g6 g7 r24.2.1 r24.2.2 g10 g11 g12 g13 g14 g15 g16 g17 g18 g19) H := hB
                  have hD : va_D A (wR a q g0 g1 g2 g3 g4 (0 : Int32) g6 g7 r24.2.1 r24.2.2 g10 g11 g12 g13 g14 g15 g16 g17 g18 g19) := dD hD rfl
                  refine lv_goto (tgt := 111) hx hb (dt_at dt_Ref_number 60 rfl) (by decide) ?_
                  exact k_Ref_number_111 hC hA hK   r24.1 (0 : Int32) r24.2.1 r24.2.2 H locs ls hP hD hS (lv_sub hl [] rfl) h
            · have h := if_p h c12
              exact k_Ref_number_61 hC hA hK   v1 t8 t10 (0 : Int32) g8 g9 H locs ls hP hD hS (lv_sub hl [3, 1, 0] rfl) h
        · have h := if_n h c6
          exact k_Ref_number_32 hC hA hK   (0 : Int32) g8 g9 H locs ls hP hD hS (lv_sub hl [] rfl) h
set_option maxRecDepth 100000 in
set_option maxHeartbeats 4000000 in
theorem c_Ref_number (l : Launch) (D : va_G) (a : Nat → Nat) (q : Nat → ClassId) (hd : va_D (fun _ => True) (dR a)) (sz : Nat) (a1 : Int32) (a2 : Int32) (g0 : Int32) (g1 : Nat → Int32) (g2 : Nat → Int64) (g3 : Nat → Int64) (g4 : Nat → Int32) (g5 : Int32) (g6 : Nat → Int32) (g7 : Int32) (g8 : Nat → Int32) (g9 : Int32) (g10 : Int64) (g11 : Int64) (g12 : Int32) (g13 : Int32) (g14 : Int32) (g15 : Int64) (g16 : Int32) (g17 : Int32) (g18 : Int64) (g19 : Int32) (r0 : Int64 × Int32 × (Nat → Int32) × Int32) (h : f_Ref_number a1 a2 g0 g1 g2 g3 g5 g8 g9 = some r0) : Met l (⟨"OutwardTapeModel", "number", "(II)J"⟩ : MethodName) (WSm (⟨"OutwardTapeModel", "number", "(II)J"⟩ : MethodName) prog_12_method_76_code 7 (some .long)) rm_Ref_number (va_Pc [.ref (a 0), .int a1, .int a2] (fun U => U.heap.size = sz ∧ va_P D CLS (wR a q g0 g1 g2 g3 g4 g5 g6 g7 g8 g9 g10 g11 g12 g13 g14 g15 g16 g17 g18 g19) U.heap ∧ va_K D CLS (tR q) U)) (va_Ql (fun (r : Int64) (_ : Unit) => r = r0.1) (fun _ t => va_P D CLS (wR a q g0 g1 g2 g3 g4 r0.2.1 g6 g7 r0.2.2.1 r0.2.2.2 g10 g11 g12 g13 g14 g15 g16 g17 g18 g19) t.heap) (va_A (dR a) sz)) 0 0 (va_A (dR a) sz) := by
  refine Met.ofW (cc := prog_12_method_76_code) (maxL := 7) (ret := (some .long)) (by decide) rfl ?_
  intro p e s m args below meth c s₁ B hml hv
  obtain ⟨rfl, hsz, hP, hK⟩ := hv
  subst hsz
  have hC := CX.of B hml rfl
  have hl := lv_entry [.ref (a 0), .int a1, .int a2] (n := 7) (Nat.le_of_ble_eq_true rfl)
  rw [lg_entry_eq]
  generalize (lg_sl [.ref (a 0), .int a1, .int a2] ++ List.replicate (7 - (lg_sl [.ref (a 0), .int a1, .int a2]).length) Slot.unset).toArray = ls at hl ⊢
  have hl : lv_has ls 7 [(0, .ref (a 0)), (1, .int a1), (2, .int a2)] := hl
  exact k_Ref_number_0 hC (fun x h => Or.inr h) hK a1 a2 g5 g8 g9 s.heap [] ls hP (dD hd.self rfl) va_S.rf (lv_sub hl [0, 1, 2] rfl) h
abbrev rm_Ref_clamp : Room := { frames := 1, cells := 0, slots := 0, locals := 21 }
set_option maxRecDepth 100000 in
set_option maxHeartbeats 4000000 in
theorem k_Ref_clamp_89 {p : Program} {l : Launch} {e : Env} {s : State} {m : MethodId} {args : Array Value} {below : List Frame} {meth : Method} {c : Code} {D : va_G} {a : Nat → Nat} {q : Nat → ClassId} {A : Nat → Prop} (hC : CX p s m args meth c prog_12_method_77_code 6 "OutwardTapeModel" (some .long)) (hA : ∀ x, s.heap.size ≤ x → A x) (hK : va_K D CLS (tR q) s) {g0 : Int32} {g1 : Nat → Int32} {g2 : Nat → Int64} {g3 : Nat → Int64} {g4 : Nat → Int32} {g6 : Nat → Int32} {g7 : Int32} {g8 : Nat → Int32} {g9 : Int32} {g10 : Int64} {g11 : Int64} {g12 : Int32} {g13 : Int32} {g14 : Int32} {g15 : Int64} {g16 : Int32} {g17 : Int32} {g18 : Int64} {g19 : Int32} {r0 : Int64 × Int32} : ∀ (s0 : Int64) (g5 : Int32) (H : Heap) (locs : List Loc) (ls : Array Slot), va_P D CLS (wR a q g0 g1 g2 g3 g4 g5 g6 g7 g8 g9 g10 g11 g12 g13 g14 g15 g16 g17 g18 g19) H → va_D A (wR a q g0 g1 g2 g3 g4 g5 g6 g7 g8 g9 g10 g11 g12 g13 g14 g15 g16 g17 g18 g19) → va_S A s.heap H locs → lv_has ls 6 [] → f_Ref_clamp_89  s0 g0 g1 g2 g3 g5 = some r0 → W p l e rm_Ref_clamp s m args below meth c H locs 0 0 (MQ below (va_Ql (fun (r : Int64) (_ : Unit) => r = r0.1) (fun _ t => va_P D CLS (wR a q g0 g1 g2 g3 g4 r0.2 g6 g7 g8 g9 g10 g11 g12 g13 g14 g15 g16 g17 g18 g19) t.heap) A) args s 0 0 A) (F0 m 89 ls [.long s0]) := by
  obtain ⟨hx, hb, hml, hown, hts, hr, hlocks⟩ := id hC
  intro s0 g5 H locs ls hP hD hS hl h
  rw [f_Ref_clamp_89] at h
  obtain ⟨r1, h_r1, h⟩ := ob_of h
  refine vp_callSl (W.runS (As := [.long s0]) (rest := []) ⟨hx, hb, hml, hown, hts⟩ (c_Ref_bits l s0 r1 h_r1) (va_cwS 1 hts (gd_S (m_5 103 rfl rfl) (m_5 104 rfl rfl) (m_1 4 rfl rfl) (m_5 105 rfl rfl)) rfl rfl rfl (by decide +kernel) ⟨Nat.le_of_ble_eq_true rfl, Nat.le_of_ble_eq_true rfl⟩) ⟨fun _ _ _ _ q => q, fun U hU hW => ⟨rfl, trivial⟩⟩ rfl rfl hl.1 rfl (lv_room (Nat.le_of_ble_eq_true rfl)) (dt_at dt_Ref_clamp 49 rfl) ⟨Nat.le_of_ble_eq_true rfl, Nat.le_of_ble_eq_true rfl⟩) (fun u_r1 q_r1 => ?_)
  obtain rfl : r1 = u_r1 := q_r1.symm
  obtain rfl := os_of h
  exact W.lret (v := r1) hx hb hr (fun t ht hW => ⟨⟨_, (), rfl, rfl, (hPt hP ht)⟩, hS.F ht⟩) hS.2.2 (dt_at dt_Ref_clamp 50 rfl)
set_option maxRecDepth 100000 in
set_option maxHeartbeats 4000000 in
theorem k_Ref_clamp_35 {p : Program} {l : Launch} {e : Env} {s : State} {m : MethodId} {args : Array Value} {below : List Frame} {meth : Method} {c : Code} {D : va_G} {a : Nat → Nat} {q : Nat → ClassId} {A : Nat → Prop} (hC : CX p s m args meth c prog_12_method_77_code 6 "OutwardTapeModel" (some .long)) (hA : ∀ x, s.heap.size ≤ x → A x) (hK : va_K D CLS (tR q) s) {g0 : Int32} {g1 : Nat → Int32} {g2 : Nat → Int64} {g3 : Nat → Int64} {g4 : Nat → Int32} {g6 : Nat → Int32} {g7 : Int32} {g8 : Nat → Int32} {g9 : Int32} {g10 : Int64} {g11 : Int64} {g12 : Int32} {g13 : Int32} {g14 : Int32} {g15 : Int64} {g16 : Int32} {g17 : Int32} {g18 : Int64} {g19 : Int32} {r0 : Int64 × Int32} : ∀  (g5 : Int32) (H : Heap) (locs : List Loc) (ls : Array Slot), va_P D CLS (wR a q g0 g1 g2 g3 g4 g5 g6 g7 g8 g9 g10 g11 g12 g13 g14 g15 g16 g17 g18 g19) H → va_D A (wR a q g0 g1 g2 g3 g4 g5 g6 g7 g8 g9 g10 g11 g12 g13 g14 g15 g16 g17 g18 g19) → va_S A s.heap H locs → lv_has ls 6 [] → f_Ref_clamp_35  g0 g1 g2 g3 g5 = some r0 → W p l e rm_Ref_clamp s m args below meth c H locs 0 0 (MQ below (va_Ql (fun (r : Int64) (_ : Unit) => r = r0.1) (fun _ t => va_P D CLS (wR a q g0 g1 g2 g3 g4 r0.2 g6 g7 g8 g9 g10 g11 g12 g13 g14 g15 g16 g17 g18 g19) t.heap) A) args s 0 0 A) (F0 m 35 ls []) := by
  obtain ⟨hx, hb, hml, hown, hts, hr, hlocks⟩ := id hC
  intro g5 H locs ls hP hD hS hl h
  rw [f_Ref_clamp_35] at h
  refine lv_ldc2 (v := 9221120237041090560) hx hb hown (hts (Cond.constantLong "OutwardTapeModel" 311 (9221120237041090560)) (m_5 101 rfl rfl)) (dt_at dt_Ref_clamp 19 rfl) ?_
  obtain rfl := os_of h
  exact W.lret (v := (9221120237041090560 : Int64)) hx hb hr (fun t ht hW => ⟨⟨_, (), rfl, rfl, (hPt hP ht)⟩, hS.F ht⟩) hS.2.2 (dt_at dt_Ref_clamp 20 rfl)
set_option maxRecDepth 100000 in
set_option maxHeartbeats 4000000 in
theorem k_Ref_clamp_0 {p : Program} {l : Launch} {e : Env} {s : State} {m : MethodId} {args : Array Value} {below : List Frame} {meth : Method} {c : Code} {D : va_G} {a : Nat → Nat} {q : Nat → ClassId} {A : Nat → Prop} (hC : CX p s m args meth c prog_12_method_77_code 6 "OutwardTapeModel" (some .long)) (hA : ∀ x, s.heap.size ≤ x → A x) (hK : va_K D CLS (tR q) s) {g0 : Int32} {g1 : Nat → Int32} {g2 : Nat → Int64} {g3 : Nat → Int64} {g4 : Nat → Int32} {g6 : Nat → Int32} {g7 : Int32} {g8 : Nat → Int32} {g9 : Int32} {g10 : Int64} {g11 : Int64} {g12 : Int32} {g13 : Int32} {g14 : Int32} {g15 : Int64} {g16 : Int32} {g17 : Int32} {g18 : Int64} {g19 : Int32} {r0 : Int64 × Int32} : ∀ (v1 : Int32) (v2 : Int64) (g5 : Int32) (H : Heap) (locs : List Loc) (ls : Array Slot), va_P D CLS (wR a q g0 g1 g2 g3 g4 g5 g6 g7 g8 g9 g10 g11 g12 g13 g14 g15 g16 g17 g18 g19) H → va_D A (wR a q g0 g1 g2 g3 g4 g5 g6 g7 g8 g9 g10 g11 g12 g13 g14 g15 g16 g17 g18 g19) → va_S A s.heap H locs → lv_has ls 6 [(0, .ref (a 0)), (1, .int v1), (2, .long v2)] → f_Ref_clamp_0  v1 v2 g0 g1 g2 g3 g5 = some r0 → W p l e rm_Ref_clamp s m args below meth c H locs 0 0 (MQ below (va_Ql (fun (r : Int64) (_ : Unit) => r = r0.1) (fun _ t => va_P D CLS (wR a q g0 g1 g2 g3 g4 r0.2 g6 g7 g8 g9 g10 g11 g12 g13 g14 g15 g16 g17 g18 g19) t.heap) A) args s 0 0 A) (F0 m 0 ls []) := by
  obtain ⟨hx, hb, hml, hown, hts, hr, hlocks⟩ := id hC
  intro v1 v2 g5 H locs ls hP hD hS hl h
  rw [f_Ref_clamp_0] at h
  refine lv_aload_n hx hb (dt_at dt_Ref_clamp 0 rfl) rfl (lv_at hl 0 rfl) ?_
  refine lv_iconst (v := 0) hx hb (dt_at dt_Ref_clamp 1 rfl) (by decide) ?_
  refine va_put (D := D) (ci := 0) (v := .int (0 : Int32)) (ty := .int) (C := "OutwardTapeModel") (T := T_Ref) (N := 20) hx hb hts in_Ref ty_Ref tk_Ref nm_Ref hown hK hP hD hS 0 rfl rfl 5 (by decide) (hts (Cond.fieldLink "OutwardTapeModel" 29 "OutwardTapeModel" "code" "I") (m_4 4 rfl rfl)) (fun _ h9 => h9) rfl (by decide +kernel) rfl rfl (Nat.le_of_ble_eq_true rfl) (dt_at dt_Ref_clamp 2 rfl) (fun H locs hP hD hS => ?_)
  have hP : va_P D CLS (wR a q g0 g1 g2 g3 g4 (0 : Int32) g6 g7 g8 g9 g10 g11 g12 g13 g14 g15 g16 g17 g18 g19) H := hP
  have hD : va_D A (wR a q g0 g1 g2 g3 g4 (0 : Int32) g6 g7 g8 g9 g10 g11 g12 g13 g14 g15 g16 g17 g18 g19) := hD
  refine lv_aload_n hx hb (dt_at dt_Ref_clamp 3 rfl) rfl (lv_at hl 0 rfl) ?_
  refine lv_iload_n hx hb (dt_at dt_Ref_clamp 4 rfl) rfl (lv_at hl 1 rfl) ?_
  obtain ⟨r1, h_r1, h⟩ := ob_of h
  have hF := va_free (wc := dR a) (dD (ws' := dR a) hD rfl) hS hA [0, 1, 2, 3, 4, 5, 6] rfl
  have hd : va_D (fun _ => True) (dR a) := (dD (ws' := dR a) hD rfl).weaken (fun _ _ _ _ => trivial)
  refine va_calli (va_runV (As := [.int v1]) (rest := []) ⟨hx, hb, hml, hown, hts⟩ (c_Ref_there l D a q hd H.size v1 g0 g1 g2 g3 g4 (0 : Int32) g6 g7 g8 g9 g10 g11 g12 g13 g14 g15 g16 g17 g18 g19 r1 h_r1) (cwV 1 hts (gd_V (m_4 96 rfl rfl) (m_4 98 rfl rfl) (m_s 24 rfl rfl) (m_1 4 rfl rfl) (m_4 99 rfl rfl)) rfl rfl rfl (by decide +kernel) ⟨Nat.le_of_ble_eq_true rfl, Nat.le_of_ble_eq_true rfl⟩) ⟨fun a U g mk q => ⟨q.1, q.2.1, q.2.2.1, va_K.moved (u := U) (U := U.calling g mk a) (Vm.Alike.refl U.vm) q.2.2.2⟩, va_recv hK hP (ci := 0) (q0 := 0) rfl rfl, fun U hU hW => ⟨rfl, by rw [hU], by rw [hU]; exact hP, va_K.moved hW.alike hK⟩⟩ rfl rfl hl.1 rfl (lv_room (Nat.le_of_ble_eq_true rfl)) (dt_at dt_Ref_clamp 5 rfl) ⟨Nat.le_of_ble_eq_true rfl, Nat.le_of_ble_eq_true rfl⟩) hS (fun x _ h9 => hF x h9) hF (fun u_r1 uu t H locs ht hvm hw hB hz1 hk1 hS => ?_)
  rw [ht] at hB
  obtain rfl : r1 = u_r1 := hw.symm
  have hP : va_P D CLS (wR a q g0 g1 g2 g3 g4 (0 : Int32) g6 g7 g8 g9 g10 g11 g12 g13 g14 g15 g16 g17 g18 g19) H := hB
  have hD : va_D A (wR a q g0 g1 g2 g3 g4 (0 : Int32) g6 g7 g8 g9 g10 g11 g12 g13 g14 g15 g16 g17 g18 g19) := dD hD rfl
  refine lv_if_eq (tgt := 35) hx hb (dt_at dt_Ref_clamp 6 rfl) (by decide) (fun c2 => ?_) (fun c2 => ?_)
  · have h := if_p h c2
    exact k_Ref_clamp_35 hC hA hK   (0 : Int32) H locs ls hP hD hS (lv_sub hl [] rfl) h
  · have h := if_n h c2
    refine lv_aload_n hx hb (dt_at dt_Ref_clamp 7 rfl) rfl (lv_at hl 0 rfl) ?_
    refine va_get (D := D) (ci := 0) (v := .ref (a 1)) (C := "OutwardTapeModel") (T := T_Ref) (N := 20) hx hb hts in_Ref hown hK hP 0 rfl rfl 1 (by decide) (hts (Cond.fieldLink "OutwardTapeModel" 7 "OutwardTapeModel" "kind" "[I") (m_4 0 rfl rfl)) (fun _ h9 => h9) rfl (dt_at dt_Ref_clamp 8 rfl) ?_
    refine lv_iload_n hx hb (dt_at dt_Ref_clamp 9 rfl) rfl (lv_at hl 1 rfl) ?_
    obtain ⟨z3, h⟩ := og_of h
    refine va_iald hx hb hK hP 1 0 rfl rfl z3 (dt_at dt_Ref_clamp 10 rfl) ?_
    refine lv_iconst (v := 2) hx hb (dt_at dt_Ref_clamp 11 rfl) (by decide) ?_
    refine lv_icmp_ne (tgt := 35) hx hb (dt_at dt_Ref_clamp 12 rfl) (by decide) (fun c4 => ?_) (fun c4 => ?_)
    · have h := if_n h c4
      exact k_Ref_clamp_35 hC hA hK   (0 : Int32) H locs ls hP hD hS (lv_sub hl [] rfl) h
    · have h := if_p h c4
      refine lv_lload_n hx hb (dt_at dt_Ref_clamp 13 rfl) rfl (lv_at hl 2 rfl) ?_
      refine lv_ldc2 (v := 9223372036854775807) hx hb hown (hts (Cond.constantLong "OutwardTapeModel" 180 (9223372036854775807)) (m_4 69 rfl rfl)) (dt_at dt_Ref_clamp 14 rfl) ?_
      refine lv_land hx hb (dt_at dt_Ref_clamp 15 rfl) ?_
      refine lv_ldc2 (v := 9218868437227405312) hx hb hown (hts (Cond.constantLong "OutwardTapeModel" 69 (9218868437227405312)) (m_4 70 rfl rfl)) (dt_at dt_Ref_clamp 16 rfl) ?_
      refine lc_le (tgt := 39) hx hb (dt_at dt_Ref_clamp 17 rfl) (dt_at dt_Ref_clamp 18 rfl) (by decide) (fun c5 => ?_) (fun c5 => ?_)
      · have h := if_p h c5
        refine lv_lload_n hx hb (dt_at dt_Ref_clamp 21 rfl) rfl (lv_at hl 2 rfl) ?_
        obtain ⟨r6, h_r6, h⟩ := ob_of h
        refine vp_callSl (W.runS (As := [.long v2]) (rest := []) ⟨hx, hb, hml, hown, hts⟩ (c_Ref_order l v2 r6 h_r6) (va_cwS 1 hts (gd_S (m_4 71 rfl rfl) (m_4 72 rfl rfl) (m_1 4 rfl rfl) (m_4 73 rfl rfl)) rfl rfl rfl (by decide +kernel) ⟨Nat.le_of_ble_eq_true rfl, Nat.le_of_ble_eq_true rfl⟩) ⟨fun _ _ _ _ q => q, fun U hU hW => ⟨rfl, trivial⟩⟩ rfl rfl hl.1 rfl (lv_room (Nat.le_of_ble_eq_true rfl)) (dt_at dt_Ref_clamp 22 rfl) ⟨Nat.le_of_ble_eq_true rfl, Nat.le_of_ble_eq_true rfl⟩) (fun u_r6 q_r6 => ?_)
        obtain rfl : r6 = u_r6 := q_r6.symm
        refine lv_lstore (lv' := [(4, .long r6), (0, .ref (a 0)), (1, .int v1), (2, .long v2)]) hx hb (dt_at dt_Ref_clamp 23 rfl) hl (by decide) rfl (fun ls hl => ?_)
        refine lv_lload hx hb (dt_at dt_Ref_clamp 24 rfl) (lv_at hl 0 rfl) ?_
        refine lv_aload_n hx hb (dt_at dt_Ref_clamp 25 rfl) rfl (lv_at hl 1 rfl) ?_
        refine va_get (D := D) (ci := 0) (v := .ref (a 2)) (C := "OutwardTapeModel") (T := T_Ref) (N := 20) hx hb hts in_Ref hown hK hP 0 rfl rfl 2 (by decide) (hts (Cond.fieldLink "OutwardTapeModel" 13 "OutwardTapeModel" "low" "[J") (m_4 1 rfl rfl)) (fun _ h9 => h9) rfl (dt_at dt_Ref_clamp 26 rfl) ?_
        refine lv_iload_n hx hb (dt_at dt_Ref_clamp 27 rfl) rfl (lv_at hl 2 rfl) ?_
        obtain ⟨z7, h⟩ := og_of h
        refine va_lald hx hb hK hP 2 1 rfl rfl z7 (dt_at dt_Ref_clamp 28 rfl) ?_
        refine lc_ge (tgt := 66) hx hb (dt_at dt_Ref_clamp 29 rfl) (dt_at dt_Ref_clamp 30 rfl) (by decide) (fun c8 => ?_) (fun c8 => ?_)
        · have h := if_p h c8
          refine lv_lload hx hb (dt_at dt_Ref_clamp 36 rfl) (lv_at hl 0 rfl) ?_
          refine lv_aload_n hx hb (dt_at dt_Ref_clamp 37 rfl) rfl (lv_at hl 1 rfl) ?_
          refine va_get (D := D) (ci := 0) (v := .ref (a 3)) (C := "OutwardTapeModel") (T := T_Ref) (N := 20) hx hb hts in_Ref hown hK hP 0 rfl rfl 3 (by decide) (hts (Cond.fieldLink "OutwardTapeModel" 17 "OutwardTapeModel" "high" "[J") (m_4 2 rfl rfl)) (fun _ h9 => h9) rfl (dt_at dt_Ref_clamp 38 rfl) ?_
          refine lv_iload_n hx hb (dt_at dt_Ref_clamp 39 rfl) rfl (lv_at hl 2 rfl) ?_
          obtain ⟨z9, h⟩ := og_of h
          refine va_lald hx hb hK hP 3 2 rfl rfl z9 (dt_at dt_Ref_clamp 40 rfl) ?_
          refine lc_le (tgt := 87) hx hb (dt_at dt_Ref_clamp 41 rfl) (dt_at dt_Ref_clamp 42 rfl) (by decide) (fun c10 => ?_) (fun c10 => ?_)
          · have h := if_p h c10
            refine lv_lload hx hb (dt_at dt_Ref_clamp 48 rfl) (lv_at hl 0 rfl) ?_
            exact k_Ref_clamp_89 hC hA hK   r6 (0 : Int32) H locs ls hP hD hS (lv_sub hl [] rfl) h
          · have h := if_n h c10
            refine lv_aload_n hx hb (dt_at dt_Ref_clamp 43 rfl) rfl (lv_at hl 1 rfl) ?_
            refine va_get (D := D) (ci := 0) (v := .ref (a 3)) (C := "OutwardTapeModel") (T := T_Ref) (N := 20) hx hb hts in_Ref hown hK hP 0 rfl rfl 3 (by decide) (hts (Cond.fieldLink "OutwardTapeModel" 17 "OutwardTapeModel" "high" "[J") (m_4 2 rfl rfl)) (fun _ h9 => h9) rfl (dt_at dt_Ref_clamp 44 rfl) ?_
            refine lv_iload_n hx hb (dt_at dt_Ref_clamp 45 rfl) rfl (lv_at hl 2 rfl) ?_
            obtain ⟨z11, h⟩ := og_of h
            refine va_lald hx hb hK hP 3 2 rfl rfl z11 (dt_at dt_Ref_clamp 46 rfl) ?_
            refine lv_goto (tgt := 89) hx hb (dt_at dt_Ref_clamp 47 rfl) (by decide) ?_
            exact k_Ref_clamp_89 hC hA hK   (g3 v1.toNatClampNeg) (0 : Int32) H locs ls hP hD hS (lv_sub hl [] rfl) h
        · have h := if_n h c8
          refine lv_aload_n hx hb (dt_at dt_Ref_clamp 31 rfl) rfl (lv_at hl 1 rfl) ?_
          refine va_get (D := D) (ci := 0) (v := .ref (a 2)) (C := "OutwardTapeModel") (T := T_Ref) (N := 20) hx hb hts in_Ref hown hK hP 0 rfl rfl 2 (by decide) (hts (Cond.fieldLink "OutwardTapeModel" 13 "OutwardTapeModel" "low" "[J") (m_4 1 rfl rfl)) (fun _ h9 => h9) rfl (dt_at dt_Ref_clamp 32 rfl) ?_
          refine lv_iload_n hx hb (dt_at dt_Ref_clamp 33 rfl) rfl (lv_at hl 2 rfl) ?_
          obtain ⟨z12, h⟩ := og_of h
          refine va_lald hx hb hK hP 2 1 rfl rfl z12 (dt_at dt_Ref_clamp 34 rfl) ?_
          refine lv_goto (tgt := 89) hx hb (dt_at dt_Ref_clamp 35 rfl) (by decide) ?_
          exact k_Ref_clamp_89 hC hA hK   (g2 v1.toNatClampNeg) (0 : Int32) H locs ls hP hD hS (lv_sub hl [] rfl) h
      · have h := if_n h c5
        exact k_Ref_clamp_35 hC hA hK   (0 : Int32) H locs ls hP hD hS (lv_sub hl [] rfl) h
set_option maxRecDepth 100000 in
set_option maxHeartbeats 4000000 in
theorem c_Ref_clamp (l : Launch) (D : va_G) (a : Nat → Nat) (q : Nat → ClassId) (hd : va_D (fun _ => True) (dR a)) (sz : Nat) (a1 : Int32) (a2 : Int64) (g0 : Int32) (g1 : Nat → Int32) (g2 : Nat → Int64) (g3 : Nat → Int64) (g4 : Nat → Int32) (g5 : Int32) (g6 : Nat → Int32) (g7 : Int32) (g8 : Nat → Int32) (g9 : Int32) (g10 : Int64) (g11 : Int64) (g12 : Int32) (g13 : Int32) (g14 : Int32) (g15 : Int64) (g16 : Int32) (g17 : Int32) (g18 : Int64) (g19 : Int32) (r0 : Int64 × Int32) (h : f_Ref_clamp a1 a2 g0 g1 g2 g3 g5 = some r0) : Met l (⟨"OutwardTapeModel", "clamp", "(IJ)J"⟩ : MethodName) (WSm (⟨"OutwardTapeModel", "clamp", "(IJ)J"⟩ : MethodName) prog_12_method_77_code 6 (some .long)) rm_Ref_clamp (va_Pc [.ref (a 0), .int a1, .long a2] (fun U => U.heap.size = sz ∧ va_P D CLS (wR a q g0 g1 g2 g3 g4 g5 g6 g7 g8 g9 g10 g11 g12 g13 g14 g15 g16 g17 g18 g19) U.heap ∧ va_K D CLS (tR q) U)) (va_Ql (fun (r : Int64) (_ : Unit) => r = r0.1) (fun _ t => va_P D CLS (wR a q g0 g1 g2 g3 g4 r0.2 g6 g7 g8 g9 g10 g11 g12 g13 g14 g15 g16 g17 g18 g19) t.heap) (va_A (dR a) sz)) 0 0 (va_A (dR a) sz) := by
  refine Met.ofW (cc := prog_12_method_77_code) (maxL := 6) (ret := (some .long)) (by decide) rfl ?_
  intro p e s m args below meth c s₁ B hml hv
  obtain ⟨rfl, hsz, hP, hK⟩ := hv
  subst hsz
  have hC := CX.of B hml rfl
  have hl := lv_entry [.ref (a 0), .int a1, .long a2] (n := 6) (Nat.le_of_ble_eq_true rfl)
  rw [lg_entry_eq]
  generalize (lg_sl [.ref (a 0), .int a1, .long a2] ++ List.replicate (6 - (lg_sl [.ref (a 0), .int a1, .long a2]).length) Slot.unset).toArray = ls at hl ⊢
  have hl : lv_has ls 6 [(0, .ref (a 0)), (1, .int a1), (2, .long a2)] := hl
  exact k_Ref_clamp_0 hC (fun x h => Or.inr h) hK a1 a2 g5 s.heap [] ls hP (dD hd.self rfl) va_S.rf (lv_sub hl [0, 1, 2] rfl) h
abbrev rm_Ref_clear : Room := { frames := 0, cells := 0, slots := 0, locals := 0 }
set_option maxRecDepth 100000 in
set_option maxHeartbeats 4000000 in
theorem k_Ref_clear_0 {p : Program} {l : Launch} {e : Env} {s : State} {m : MethodId} {args : Array Value} {below : List Frame} {meth : Method} {c : Code} {D : va_G} {a : Nat → Nat} {q : Nat → ClassId} {A : Nat → Prop} (hC : CX p s m args meth c prog_12_method_78_code 1 "OutwardTapeModel" none) (hA : ∀ x, s.heap.size ≤ x → A x) (hK : va_K D CLS (tR q) s) {g1 : Nat → Int32} {g2 : Nat → Int64} {g3 : Nat → Int64} {g4 : Nat → Int32} {g6 : Nat → Int32} {g7 : Int32} {g8 : Nat → Int32} {g9 : Int32} {g10 : Int64} {g11 : Int64} {g12 : Int32} {g13 : Int32} {g14 : Int32} {g15 : Int64} {g16 : Int32} {g17 : Int32} {g18 : Int64} {g19 : Int32} {r0 : Int32 × Int32} : ∀  (g0 : Int32) (g5 : Int32) (H : Heap) (locs : List Loc) (ls : Array Slot), va_P D CLS (wR a q g0 g1 g2 g3 g4 g5 g6 g7 g8 g9 g10 g11 g12 g13 g14 g15 g16 g17 g18 g19) H → va_D A (wR a q g0 g1 g2 g3 g4 g5 g6 g7 g8 g9 g10 g11 g12 g13 g14 g15 g16 g17 g18 g19) → va_S A s.heap H locs → lv_has ls 1 [(0, .ref (a 0))] → f_Ref_clear_0  g0 g5 = some r0 → W p l e rm_Ref_clear s m args below meth c H locs 0 0 (MQ below (va_Qv (fun _ : Unit => True) (fun _ t => va_P D CLS (wR a q r0.1 g1 g2 g3 g4 r0.2 g6 g7 g8 g9 g10 g11 g12 g13 g14 g15 g16 g17 g18 g19) t.heap) A) args s 0 0 A) (F0 m 0 ls []) := by
  obtain ⟨hx, hb, hml, hown, hts, hr, hlocks⟩ := id hC
  intro g0 g5 H locs ls hP hD hS hl h
  rw [f_Ref_clear_0] at h
  refine lv_aload_n hx hb (dt_at dt_Ref_clear 0 rfl) rfl (lv_at hl 0 rfl) ?_
  refine lv_iconst (v := 0) hx hb (dt_at dt_Ref_clear 1 rfl) (by decide) ?_
  refine va_put (D := D) (ci := 0) (v := .int (0 : Int32)) (ty := .int) (C := "OutwardTapeModel") (T := T_Ref) (N := 20) hx hb hts in_Ref ty_Ref tk_Ref nm_Ref hown hK hP hD hS 0 rfl rfl 5 (by decide) (hts (Cond.fieldLink "OutwardTapeModel" 29 "OutwardTapeModel" "code" "I") (m_4 4 rfl rfl)) (fun _ h9 => h9) rfl (by decide +kernel) rfl rfl (Nat.le_of_ble_eq_true rfl) (dt_at dt_Ref_clear 2 rfl) (fun H locs hP hD hS => ?_)
  have hP : va_P D CLS (wR a q g0 g1 g2 g3 g4 (0 : Int32) g6 g7 g8 g9 g10 g11 g12 g13 g14 g15 g16 g17 g18 g19) H := hP
  have hD : va_D A (wR a q g0 g1 g2 g3 g4 (0 : Int32) g6 g7 g8 g9 g10 g11 g12 g13 g14 g15 g16 g17 g18 g19) := hD
  refine lv_aload_n hx hb (dt_at dt_Ref_clear 3 rfl) rfl (lv_at hl 0 rfl) ?_
  refine lv_iconst (v := 0) hx hb (dt_at dt_Ref_clear 4 rfl) (by decide) ?_
  refine va_put (D := D) (ci := 0) (v := .int (0 : Int32)) (ty := .int) (C := "OutwardTapeModel") (T := T_Ref) (N := 20) hx hb hts in_Ref ty_Ref tk_Ref nm_Ref hown hK hP hD hS 0 rfl rfl 0 (by decide) (hts (Cond.fieldLink "OutwardTapeModel" 173 "OutwardTapeModel" "count" "I") (m_3 239 rfl rfl)) (fun _ h9 => h9) rfl (by decide +kernel) rfl rfl (Nat.le_of_ble_eq_true rfl) (dt_at dt_Ref_clear 5 rfl) (fun H locs hP hD hS => ?_)
  have hP : va_P D CLS (wR a q (0 : Int32) g1 g2 g3 g4 (0 : Int32) g6 g7 g8 g9 g10 g11 g12 g13 g14 g15 g16 g17 g18 g19) H := hP
  have hD : va_D A (wR a q (0 : Int32) g1 g2 g3 g4 (0 : Int32) g6 g7 g8 g9 g10 g11 g12 g13 g14 g15 g16 g17 g18 g19) := hD
  obtain rfl := os_of h
  exact W.vret hx hb hr (fun t ht hW => ⟨⟨(), rfl, trivial, (hPt hP ht)⟩, hS.F ht⟩) hS.2.2 (dt_at dt_Ref_clear 6 rfl)
set_option maxRecDepth 100000 in
set_option maxHeartbeats 4000000 in
theorem c_Ref_clear (l : Launch) (D : va_G) (a : Nat → Nat) (q : Nat → ClassId) (hd : va_D (fun _ => True) (dR a)) (sz : Nat)  (g0 : Int32) (g1 : Nat → Int32) (g2 : Nat → Int64) (g3 : Nat → Int64) (g4 : Nat → Int32) (g5 : Int32) (g6 : Nat → Int32) (g7 : Int32) (g8 : Nat → Int32) (g9 : Int32) (g10 : Int64) (g11 : Int64) (g12 : Int32) (g13 : Int32) (g14 : Int32) (g15 : Int64) (g16 : Int32) (g17 : Int32) (g18 : Int64) (g19 : Int32) (r0 : Int32 × Int32) (h : f_Ref_clear g0 g5 = some r0) : Met l (⟨"OutwardTapeModel", "clear", "()V"⟩ : MethodName) (WSm (⟨"OutwardTapeModel", "clear", "()V"⟩ : MethodName) prog_12_method_78_code 1 none) rm_Ref_clear (va_Pc [.ref (a 0)] (fun U => U.heap.size = sz ∧ va_P D CLS (wR a q g0 g1 g2 g3 g4 g5 g6 g7 g8 g9 g10 g11 g12 g13 g14 g15 g16 g17 g18 g19) U.heap ∧ va_K D CLS (tR q) U)) (va_Qv (fun _ : Unit => True) (fun _ t => va_P D CLS (wR a q r0.1 g1 g2 g3 g4 r0.2 g6 g7 g8 g9 g10 g11 g12 g13 g14 g15 g16 g17 g18 g19) t.heap) (va_A (dR a) sz)) 0 0 (va_A (dR a) sz) := by
  refine Met.ofW (cc := prog_12_method_78_code) (maxL := 1) (ret := none) (by decide) rfl ?_
  intro p e s m args below meth c s₁ B hml hv
  obtain ⟨rfl, hsz, hP, hK⟩ := hv
  subst hsz
  have hC := CX.of B hml rfl
  have hl := lv_entry [.ref (a 0)] (n := 1) (Nat.le_of_ble_eq_true rfl)
  rw [lg_entry_eq]
  generalize (lg_sl [.ref (a 0)] ++ List.replicate (1 - (lg_sl [.ref (a 0)]).length) Slot.unset).toArray = ls at hl ⊢
  have hl : lv_has ls 1 [(0, .ref (a 0))] := hl
  exact k_Ref_clear_0 hC (fun x h => Or.inr h) hK  g0 g5 s.heap [] ls hP (dD hd.self rfl) va_S.rf (lv_sub hl [0] rfl) h
