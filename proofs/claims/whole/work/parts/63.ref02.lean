-- written by wip/gen/ref.py: walks of the reference's methods
abbrev rm_Ref_ofTwo : Room := { frames := 6, cells := 0, slots := 0, locals := 165 }
set_option maxRecDepth 100000 in
set_option maxHeartbeats 4000000 in
theorem k_Ref_ofTwo_217 {p : Program} {l : Launch} {e : Env} {s : State} {m : MethodId} {args : Array Value} {below : List Frame} {meth : Method} {c : Code} {D : va_G} {a : Nat → Nat} {q : Nat → ClassId} {A : Nat → Prop} (hC : CX p s m args meth c prog_12_method_36_code 10 "OutwardTapeModel" (some .int)) (hA : ∀ x, s.heap.size ≤ x → A x) (hK : va_K D CLS (tR q) s) {g0 : Int32} {g1 : Nat → Int32} {g2 : Nat → Int64} {g3 : Nat → Int64} {g4 : Nat → Int32} {g5 : Int32} {g6 : Nat → Int32} {g7 : Int32} {g13 : Int32} {g14 : Int32} {g15 : Int64} {g16 : Int32} {g17 : Int32} {g18 : Int64} {g19 : Int32} {r0 : Int32 × (Nat → Int32) × Int32 × Int64 × Int64 × Int32} : ∀ (s0 : Int32) (g8 : Nat → Int32) (g9 : Int32) (g10 : Int64) (g11 : Int64) (g12 : Int32) (H : Heap) (locs : List Loc) (ls : Array Slot), va_P D CLS (wR a q g0 g1 g2 g3 g4 g5 g6 g7 g8 g9 g10 g11 g12 g13 g14 g15 g16 g17 g18 g19) H → va_D A (wR a q g0 g1 g2 g3 g4 g5 g6 g7 g8 g9 g10 g11 g12 g13 g14 g15 g16 g17 g18 g19) → va_S A s.heap H locs → lv_has ls 10 [] → f_Ref_ofTwo_217  s0 g8 g9 g10 g11 g12 = some r0 → W p l e rm_Ref_ofTwo s m args below meth c H locs 0 0 (MQ below (va_Qi (fun (r : Int32) (_ : Unit) => r = r0.1) (fun _ t => va_P D CLS (wR a q g0 g1 g2 g3 g4 g5 g6 g7 r0.2.1 r0.2.2.1 r0.2.2.2.1 r0.2.2.2.2.1 r0.2.2.2.2.2 g13 g14 g15 g16 g17 g18 g19) t.heap) A) args s 0 0 A) (F0 m 217 ls [.int s0]) := by
  obtain ⟨hx, hb, hml, hown, hts, hr, hlocks⟩ := id hC
  intro s0 g8 g9 g10 g11 g12 H locs ls hP hD hS hl h
  rw [f_Ref_ofTwo_217] at h
  obtain rfl := os_of h
  exact W.iret (v := s0) hx hb hr (fun t ht hW => ⟨⟨_, (), rfl, rfl, (hPt hP ht)⟩, hS.F ht⟩) hS.2.2 (dt_at dt_Ref_ofTwo 93 rfl)
set_option maxRecDepth 100000 in
set_option maxHeartbeats 4000000 in
theorem k_Ref_ofTwo_216 {p : Program} {l : Launch} {e : Env} {s : State} {m : MethodId} {args : Array Value} {below : List Frame} {meth : Method} {c : Code} {D : va_G} {a : Nat → Nat} {q : Nat → ClassId} {A : Nat → Prop} (hC : CX p s m args meth c prog_12_method_36_code 10 "OutwardTapeModel" (some .int)) (hA : ∀ x, s.heap.size ≤ x → A x) (hK : va_K D CLS (tR q) s) {g0 : Int32} {g1 : Nat → Int32} {g2 : Nat → Int64} {g3 : Nat → Int64} {g4 : Nat → Int32} {g5 : Int32} {g6 : Nat → Int32} {g7 : Int32} {g13 : Int32} {g14 : Int32} {g15 : Int64} {g16 : Int32} {g17 : Int32} {g18 : Int64} {g19 : Int32} {r0 : Int32 × (Nat → Int32) × Int32 × Int64 × Int64 × Int32} : ∀  (g8 : Nat → Int32) (g9 : Int32) (g10 : Int64) (g11 : Int64) (g12 : Int32) (H : Heap) (locs : List Loc) (ls : Array Slot), va_P D CLS (wR a q g0 g1 g2 g3 g4 g5 g6 g7 g8 g9 g10 g11 g12 g13 g14 g15 g16 g17 g18 g19) H → va_D A (wR a q g0 g1 g2 g3 g4 g5 g6 g7 g8 g9 g10 g11 g12 g13 g14 g15 g16 g17 g18 g19) → va_S A s.heap H locs → lv_has ls 10 [] → f_Ref_ofTwo_216  g8 g9 g10 g11 g12 = some r0 → W p l e rm_Ref_ofTwo s m args below meth c H locs 0 0 (MQ below (va_Qi (fun (r : Int32) (_ : Unit) => r = r0.1) (fun _ t => va_P D CLS (wR a q g0 g1 g2 g3 g4 g5 g6 g7 r0.2.1 r0.2.2.1 r0.2.2.2.1 r0.2.2.2.2.1 r0.2.2.2.2.2 g13 g14 g15 g16 g17 g18 g19) t.heap) A) args s 0 0 A) (F0 m 216 ls []) := by
  obtain ⟨hx, hb, hml, hown, hts, hr, hlocks⟩ := id hC
  intro g8 g9 g10 g11 g12 H locs ls hP hD hS hl h
  rw [f_Ref_ofTwo_216] at h
  refine lv_iconst (v := 3) hx hb (dt_at dt_Ref_ofTwo 92 rfl) (by decide) ?_
  exact k_Ref_ofTwo_217 hC hA hK   (3 : Int32) g8 g9 g10 g11 g12 H locs ls hP hD hS (lv_sub hl [] rfl) h
set_option maxRecDepth 100000 in
set_option maxHeartbeats 4000000 in
theorem k_Ref_ofTwo_169 {p : Program} {l : Launch} {e : Env} {s : State} {m : MethodId} {args : Array Value} {below : List Frame} {meth : Method} {c : Code} {D : va_G} {a : Nat → Nat} {q : Nat → ClassId} {A : Nat → Prop} (hC : CX p s m args meth c prog_12_method_36_code 10 "OutwardTapeModel" (some .int)) (hA : ∀ x, s.heap.size ≤ x → A x) (hK : va_K D CLS (tR q) s) {g0 : Int32} {g1 : Nat → Int32} {g2 : Nat → Int64} {g3 : Nat → Int64} {g4 : Nat → Int32} {g5 : Int32} {g6 : Nat → Int32} {g7 : Int32} {g13 : Int32} {g14 : Int32} {g15 : Int64} {g16 : Int32} {g17 : Int32} {g18 : Int64} {g19 : Int32} {r0 : Int32 × (Nat → Int32) × Int32 × Int64 × Int64 × Int32} : ∀ (s0 : Int64) (s1 : Int64) (g8 : Nat → Int32) (g9 : Int32) (g10 : Int64) (g11 : Int64) (g12 : Int32) (H : Heap) (locs : List Loc) (ls : Array Slot), va_P D CLS (wR a q g0 g1 g2 g3 g4 g5 g6 g7 g8 g9 g10 g11 g12 g13 g14 g15 g16 g17 g18 g19) H → va_D A (wR a q g0 g1 g2 g3 g4 g5 g6 g7 g8 g9 g10 g11 g12 g13 g14 g15 g16 g17 g18 g19) → va_S A s.heap H locs → lv_has ls 10 [] → f_Ref_ofTwo_169  s0 s1 g8 g9 g10 g11 g12 = some r0 → W p l e rm_Ref_ofTwo s m args below meth c H locs 0 0 (MQ below (va_Qi (fun (r : Int32) (_ : Unit) => r = r0.1) (fun _ t => va_P D CLS (wR a q g0 g1 g2 g3 g4 g5 g6 g7 r0.2.1 r0.2.2.1 r0.2.2.2.1 r0.2.2.2.2.1 r0.2.2.2.2.2 g13 g14 g15 g16 g17 g18 g19) t.heap) A) args s 0 0 A) (F0 m 169 ls [.long s0, .long s1, .ref (a 0)]) := by
  obtain ⟨hx, hb, hml, hown, hts, hr, hlocks⟩ := id hC
  intro s0 s1 g8 g9 g10 g11 g12 H locs ls hP hD hS hl h
  rw [f_Ref_ofTwo_169] at h
  obtain ⟨r1, h_r1, h⟩ := ob_of h
  have hF := va_free (wc := dR a) (dD (ws' := dR a) hD rfl) hS hA [0, 1, 2, 3, 4, 5, 6] rfl
  have hd : va_D (fun _ => True) (dR a) := (dD (ws' := dR a) hD rfl).weaken (fun _ _ _ _ => trivial)
  refine va_callv (va_runV (As := [.long s1, .long s0]) (rest := []) ⟨hx, hb, hml, hown, hts⟩ (c_Ref_result l D a q hd H.size s1 s0 g0 g1 g2 g3 g4 g5 g6 g7 g8 g9 g10 g11 g12 g13 g14 g15 g16 g17 g18 g19 r1 h_r1) (cwV 2 hts (gd_V (m_4 104 rfl rfl) (m_4 106 rfl rfl) (m_s 26 rfl rfl) (m_1 4 rfl rfl) (m_4 107 rfl rfl)) rfl rfl rfl (by decide +kernel) ⟨Nat.le_of_ble_eq_true rfl, Nat.le_of_ble_eq_true rfl⟩) ⟨fun a U g mk q => ⟨q.1, q.2.1, q.2.2.1, va_K.moved (u := U) (U := U.calling g mk a) (Vm.Alike.refl U.vm) q.2.2.2⟩, va_recv hK hP (ci := 0) (q0 := 0) rfl rfl, fun U hU hW => ⟨rfl, by rw [hU], by rw [hU]; exact hP, va_K.moved hW.alike hK⟩⟩ rfl rfl hl.1 rfl (lv_room (Nat.le_of_ble_eq_true rfl)) (dt_at dt_Ref_ofTwo 65 rfl) ⟨Nat.le_of_ble_eq_true rfl, Nat.le_of_ble_eq_true rfl⟩) hS (fun x _ h9 => hF x h9) hF (fun uu t H locs ht hvm hw hB hz1 hk1 hS => ?_)
  rw [ht] at hB
  have hP : va_P D CLS (wR a q g0 g1 g2 g3 g4 g5 g6 g7 g8 g9 r1.1 r1.2 g12 g13 g14 g15 g16 g17 g18 g19) H := hB
  have hD : va_D A (wR a q g0 g1 g2 g3 g4 g5 g6 g7 g8 g9 r1.1 r1.2 g12 g13 g14 g15 g16 g17 g18 g19) := dD hD rfl
  refine lv_iconst (v := 3) hx hb (dt_at dt_Ref_ofTwo 66 rfl) (by decide) ?_
  obtain rfl := os_of h
  exact W.iret (v := (3 : Int32)) hx hb hr (fun t ht hW => ⟨⟨_, (), rfl, rfl, (hPt hP ht)⟩, hS.F ht⟩) hS.2.2 (dt_at dt_Ref_ofTwo 67 rfl)
set_option maxRecDepth 100000 in
set_option maxHeartbeats 4000000 in
theorem k_Ref_ofTwo_152 {p : Program} {l : Launch} {e : Env} {s : State} {m : MethodId} {args : Array Value} {below : List Frame} {meth : Method} {c : Code} {D : va_G} {a : Nat → Nat} {q : Nat → ClassId} {A : Nat → Prop} (hC : CX p s m args meth c prog_12_method_36_code 10 "OutwardTapeModel" (some .int)) (hA : ∀ x, s.heap.size ≤ x → A x) (hK : va_K D CLS (tR q) s) {g0 : Int32} {g1 : Nat → Int32} {g2 : Nat → Int64} {g3 : Nat → Int64} {g4 : Nat → Int32} {g5 : Int32} {g6 : Nat → Int32} {g7 : Int32} {g13 : Int32} {g14 : Int32} {g15 : Int64} {g16 : Int32} {g17 : Int32} {g18 : Int64} {g19 : Int32} {r0 : Int32 × (Nat → Int32) × Int32 × Int64 × Int64 × Int32} : ∀ (s0 : Int64) (g8 : Nat → Int32) (g9 : Int32) (g10 : Int64) (g11 : Int64) (g12 : Int32) (H : Heap) (locs : List Loc) (ls : Array Slot), va_P D CLS (wR a q g0 g1 g2 g3 g4 g5 g6 g7 g8 g9 g10 g11 g12 g13 g14 g15 g16 g17 g18 g19) H → va_D A (wR a q g0 g1 g2 g3 g4 g5 g6 g7 g8 g9 g10 g11 g12 g13 g14 g15 g16 g17 g18 g19) → va_S A s.heap H locs → lv_has ls 10 [] → f_Ref_ofTwo_152  s0 g8 g9 g10 g11 g12 = some r0 → W p l e rm_Ref_ofTwo s m args below meth c H locs 0 0 (MQ below (va_Qi (fun (r : Int32) (_ : Unit) => r = r0.1) (fun _ t => va_P D CLS (wR a q g0 g1 g2 g3 g4 g5 g6 g7 r0.2.1 r0.2.2.1 r0.2.2.2.1 r0.2.2.2.2.1 r0.2.2.2.2.2 g13 g14 g15 g16 g17 g18 g19) t.heap) A) args s 0 0 A) (F0 m 152 ls [.long s0, .ref (a 0)]) := by
  obtain ⟨hx, hb, hml, hown, hts, hr, hlocks⟩ := id hC
  intro s0 g8 g9 g10 g11 g12 H locs ls hP hD hS hl h
  rw [f_Ref_ofTwo_152] at h
  refine lv_ldc2 (v := 9218868437227405312) hx hb hown (hts (Cond.constantLong "OutwardTapeModel" 69 (9218868437227405312)) (m_4 70 rfl rfl)) (dt_at dt_Ref_ofTwo 56 rfl) ?_
  refine lv_goto (tgt := 169) hx hb (dt_at dt_Ref_ofTwo 57 rfl) (by decide) ?_
  exact k_Ref_ofTwo_169 hC hA hK   (9218868437227405312 : Int64) s0 g8 g9 g10 g11 g12 H locs ls hP hD hS (lv_sub hl [] rfl) h
set_option maxRecDepth 100000 in
set_option maxHeartbeats 4000000 in
theorem k_Ref_ofTwo_136 {p : Program} {l : Launch} {e : Env} {s : State} {m : MethodId} {args : Array Value} {below : List Frame} {meth : Method} {c : Code} {D : va_G} {a : Nat → Nat} {q : Nat → ClassId} {A : Nat → Prop} (hC : CX p s m args meth c prog_12_method_36_code 10 "OutwardTapeModel" (some .int)) (hA : ∀ x, s.heap.size ≤ x → A x) (hK : va_K D CLS (tR q) s) {g0 : Int32} {g1 : Nat → Int32} {g2 : Nat → Int64} {g3 : Nat → Int64} {g4 : Nat → Int32} {g5 : Int32} {g6 : Nat → Int32} {g7 : Int32} {g13 : Int32} {g14 : Int32} {g15 : Int64} {g16 : Int32} {g17 : Int32} {g18 : Int64} {g19 : Int32} {r0 : Int32 × (Nat → Int32) × Int32 × Int64 × Int64 × Int32} : ∀ (s0 : Int64) (v4 : Int64) (v6 : Int64) (g8 : Nat → Int32) (g9 : Int32) (g10 : Int64) (g11 : Int64) (g12 : Int32) (H : Heap) (locs : List Loc) (ls : Array Slot), va_P D CLS (wR a q g0 g1 g2 g3 g4 g5 g6 g7 g8 g9 g10 g11 g12 g13 g14 g15 g16 g17 g18 g19) H → va_D A (wR a q g0 g1 g2 g3 g4 g5 g6 g7 g8 g9 g10 g11 g12 g13 g14 g15 g16 g17 g18 g19) → va_S A s.heap H locs → lv_has ls 10 [(0, .ref (a 0)), (4, .long v4), (6, .long v6)] → f_Ref_ofTwo_136  s0 v4 v6 g8 g9 g10 g11 g12 = some r0 → W p l e rm_Ref_ofTwo s m args below meth c H locs 0 0 (MQ below (va_Qi (fun (r : Int32) (_ : Unit) => r = r0.1) (fun _ t => va_P D CLS (wR a q g0 g1 g2 g3 g4 g5 g6 g7 r0.2.1 r0.2.2.1 r0.2.2.2.1 r0.2.2.2.2.1 r0.2.2.2.2.2 g13 g14 g15 g16 g17 g18 g19) t.heap) A) args s 0 0 A) (F0 m 136 ls [.long s0, .ref (a 0)]) := by
  obtain ⟨hx, hb, hml, hown, hts, hr, hlocks⟩ := id hC
  intro s0 v4 v6 g8 g9 g10 g11 g12 H locs ls hP hD hS hl h
  rw [f_Ref_ofTwo_136] at h
  refine lv_lload hx hb (dt_at dt_Ref_ofTwo 50 rfl) (lv_at hl 1 rfl) ?_
  obtain ⟨r1, h_r1, h⟩ := ob_of h
  refine vp_callSi (W.runS (As := [.long v4]) (rest := [.long s0, .ref (a 0)]) ⟨hx, hb, hml, hown, hts⟩ (c_Ref_infinite l v4 r1 h_r1) (va_cwS 1 hts (gd_S (m_4 78 rfl rfl) (m_4 79 rfl rfl) (m_1 4 rfl rfl) (m_4 80 rfl rfl)) rfl rfl rfl (by decide +kernel) ⟨Nat.le_of_ble_eq_true rfl, Nat.le_of_ble_eq_true rfl⟩) ⟨fun _ _ _ _ q => q, fun U hU hW => ⟨rfl, trivial⟩⟩ rfl rfl hl.1 rfl (lv_room (Nat.le_of_ble_eq_true rfl)) (dt_at dt_Ref_ofTwo 51 rfl) ⟨Nat.le_of_ble_eq_true rfl, Nat.le_of_ble_eq_true rfl⟩) (fun u_r1 q_r1 => ?_)
  obtain rfl : r1 = u_r1 := q_r1.symm
  refine lv_if_ne (tgt := 152) hx hb (dt_at dt_Ref_ofTwo 52 rfl) (by decide) (fun c2 => ?_) (fun c2 => ?_)
  · have h := if_n h c2
    exact k_Ref_ofTwo_152 hC hA hK   s0 g8 g9 g10 g11 g12 H locs ls hP hD hS (lv_sub hl [] rfl) h
  · have h := if_p h c2
    refine lv_lload hx hb (dt_at dt_Ref_ofTwo 53 rfl) (lv_at hl 2 rfl) ?_
    obtain ⟨r3, h_r3, h⟩ := ob_of h
    refine vp_callSi (W.runS (As := [.long v6]) (rest := [.long s0, .ref (a 0)]) ⟨hx, hb, hml, hown, hts⟩ (c_Ref_infinite l v6 r3 h_r3) (va_cwS 1 hts (gd_S (m_4 78 rfl rfl) (m_4 79 rfl rfl) (m_1 4 rfl rfl) (m_4 80 rfl rfl)) rfl rfl rfl (by decide +kernel) ⟨Nat.le_of_ble_eq_true rfl, Nat.le_of_ble_eq_true rfl⟩) ⟨fun _ _ _ _ q => q, fun U hU hW => ⟨rfl, trivial⟩⟩ rfl rfl hl.1 rfl (lv_room (Nat.le_of_ble_eq_true rfl)) (dt_at dt_Ref_ofTwo 54 rfl) ⟨Nat.le_of_ble_eq_true rfl, Nat.le_of_ble_eq_true rfl⟩) (fun u_r3 q_r3 => ?_)
    obtain rfl : r3 = u_r3 := q_r3.symm
    refine lv_if_eq (tgt := 158) hx hb (dt_at dt_Ref_ofTwo 55 rfl) (by decide) (fun c4 => ?_) (fun c4 => ?_)
    · have h := if_p h c4
      refine lv_aload_n hx hb (dt_at dt_Ref_ofTwo 58 rfl) rfl (lv_at hl 0 rfl) ?_
      refine lv_lload hx hb (dt_at dt_Ref_ofTwo 59 rfl) (lv_at hl 1 rfl) ?_
      refine lv_lload hx hb (dt_at dt_Ref_ofTwo 60 rfl) (lv_at hl 2 rfl) ?_
      refine lv_lneg hx hb (dt_at dt_Ref_ofTwo 61 rfl) ?_
      refine lv_iconst (v := 0) hx hb (dt_at dt_Ref_ofTwo 62 rfl) (by decide) ?_
      refine lv_iconst (v := 1) hx hb (dt_at dt_Ref_ofTwo 63 rfl) (by decide) ?_
      obtain ⟨r5, h_r5, h⟩ := ob_of h
      have hF := va_free (wc := dR a) (dD (ws' := dR a) hD rfl) hS hA [0, 1, 2, 3, 4, 5, 6] rfl
      have hd : va_D (fun _ => True) (dR a) := (dD (ws' := dR a) hD rfl).weaken (fun _ _ _ _ => trivial)
      refine va_calll (va_runV (As := [.long v4, .long (-v6), .int (0 : Int32), .int (1 : Int32)]) (rest := [.long s0, .ref (a 0)]) ⟨hx, hb, hml, hown, hts⟩ (c_Ref_sum l D a q hd H.size v4 (-v6) (0 : Int32) (1 : Int32) g0 g1 g2 g3 g4 g5 g6 g7 g8 g9 g10 g11 g12 g13 g14 g15 g16 g17 g18 g19 r5 h_r5) (cwV 4 hts (gd_V (m_4 201 rfl rfl) (m_4 203 rfl rfl) (m_s 44 rfl rfl) (m_1 4 rfl rfl) (m_4 204 rfl rfl)) rfl rfl rfl (by decide +kernel) ⟨Nat.le_of_ble_eq_true rfl, Nat.le_of_ble_eq_true rfl⟩) ⟨fun a U g mk q => ⟨q.1, q.2.1, q.2.2.1, va_K.moved (u := U) (U := U.calling g mk a) (Vm.Alike.refl U.vm) q.2.2.2⟩, va_recv hK hP (ci := 0) (q0 := 0) rfl rfl, fun U hU hW => ⟨rfl, by rw [hU], by rw [hU]; exact hP, va_K.moved hW.alike hK⟩⟩ rfl rfl hl.1 rfl (lv_room (Nat.le_of_ble_eq_true rfl)) (dt_at dt_Ref_ofTwo 64 rfl) ⟨Nat.le_of_ble_eq_true rfl, Nat.le_of_ble_eq_true rfl⟩) hS (fun x _ h9 => hF x h9) hF (fun u_r5 uu t H locs ht hvm hw hB hz1 hk1 hS => ?_)
      rw [ht] at hB
      subst hw
      have hP : va_P D CLS (wR a q g0 g1 g2 g3 g4 g5 g6 g7 r5.2.1 r5.2.2 g10 g11 g12 g13 g14 g15 g16 g17 g18 g19) H := hB
      have hD : va_D A (wR a q g0 g1 g2 g3 g4 g5 g6 g7 r5.2.1 r5.2.2 g10 g11 g12 g13 g14 g15 g16 g17 g18 g19) := dD hD rfl
      exact k_Ref_ofTwo_169 hC hA hK   r5.1 s0 r5.2.1 r5.2.2 g10 g11 g12 H locs ls hP hD hS (lv_sub hl [] rfl) h
    · have h := if_n h c4
      exact k_Ref_ofTwo_152 hC hA hK   s0 g8 g9 g10 g11 g12 H locs ls hP hD hS (lv_sub hl [] rfl) h
set_option maxRecDepth 100000 in
set_option maxHeartbeats 4000000 in
theorem k_Ref_ofTwo_120 {p : Program} {l : Launch} {e : Env} {s : State} {m : MethodId} {args : Array Value} {below : List Frame} {meth : Method} {c : Code} {D : va_G} {a : Nat → Nat} {q : Nat → ClassId} {A : Nat → Prop} (hC : CX p s m args meth c prog_12_method_36_code 10 "OutwardTapeModel" (some .int)) (hA : ∀ x, s.heap.size ≤ x → A x) (hK : va_K D CLS (tR q) s) {g0 : Int32} {g1 : Nat → Int32} {g2 : Nat → Int64} {g3 : Nat → Int64} {g4 : Nat → Int32} {g5 : Int32} {g6 : Nat → Int32} {g7 : Int32} {g13 : Int32} {g14 : Int32} {g15 : Int64} {g16 : Int32} {g17 : Int32} {g18 : Int64} {g19 : Int32} {r0 : Int32 × (Nat → Int32) × Int32 × Int64 × Int64 × Int32} : ∀ (v4 : Int64) (v6 : Int64) (g8 : Nat → Int32) (g9 : Int32) (g10 : Int64) (g11 : Int64) (g12 : Int32) (H : Heap) (locs : List Loc) (ls : Array Slot), va_P D CLS (wR a q g0 g1 g2 g3 g4 g5 g6 g7 g8 g9 g10 g11 g12 g13 g14 g15 g16 g17 g18 g19) H → va_D A (wR a q g0 g1 g2 g3 g4 g5 g6 g7 g8 g9 g10 g11 g12 g13 g14 g15 g16 g17 g18 g19) → va_S A s.heap H locs → lv_has ls 10 [(0, .ref (a 0)), (4, .long v4), (6, .long v6)] → f_Ref_ofTwo_120  v4 v6 g8 g9 g10 g11 g12 = some r0 → W p l e rm_Ref_ofTwo s m args below meth c H locs 0 0 (MQ below (va_Qi (fun (r : Int32) (_ : Unit) => r = r0.1) (fun _ t => va_P D CLS (wR a q g0 g1 g2 g3 g4 g5 g6 g7 r0.2.1 r0.2.2.1 r0.2.2.2.1 r0.2.2.2.2.1 r0.2.2.2.2.2 g13 g14 g15 g16 g17 g18 g19) t.heap) A) args s 0 0 A) (F0 m 120 ls [.ref (a 0)]) := by
  obtain ⟨hx, hb, hml, hown, hts, hr, hlocks⟩ := id hC
  intro v4 v6 g8 g9 g10 g11 g12 H locs ls hP hD hS hl h
  rw [f_Ref_ofTwo_120] at h
  refine lv_ldc2 (v := -9218868437227405312) hx hb hown (hts (Cond.constantLong "OutwardTapeModel" 95 (-9218868437227405312)) (m_4 74 rfl rfl)) (dt_at dt_Ref_ofTwo 41 rfl) ?_
  refine lv_goto (tgt := 136) hx hb (dt_at dt_Ref_ofTwo 42 rfl) (by decide) ?_
  exact k_Ref_ofTwo_136 hC hA hK   (-9218868437227405312 : Int64) v4 v6 g8 g9 g10 g11 g12 H locs ls hP hD hS (lv_sub hl [0, 1, 2] rfl) h
set_option maxRecDepth 100000 in
set_option maxHeartbeats 4000000 in
theorem k_Ref_ofTwo_99 {p : Program} {l : Launch} {e : Env} {s : State} {m : MethodId} {args : Array Value} {below : List Frame} {meth : Method} {c : Code} {D : va_G} {a : Nat → Nat} {q : Nat → ClassId} {A : Nat → Prop} (hC : CX p s m args meth c prog_12_method_36_code 10 "OutwardTapeModel" (some .int)) (hA : ∀ x, s.heap.size ≤ x → A x) (hK : va_K D CLS (tR q) s) {g0 : Int32} {g1 : Nat → Int32} {g2 : Nat → Int64} {g3 : Nat → Int64} {g4 : Nat → Int32} {g5 : Int32} {g6 : Nat → Int32} {g7 : Int32} {g13 : Int32} {g14 : Int32} {g15 : Int64} {g16 : Int32} {g17 : Int32} {g18 : Int64} {g19 : Int32} {r0 : Int32 × (Nat → Int32) × Int32 × Int64 × Int64 × Int32} : ∀ (s0 : Int64) (s1 : Int64) (g8 : Nat → Int32) (g9 : Int32) (g10 : Int64) (g11 : Int64) (g12 : Int32) (H : Heap) (locs : List Loc) (ls : Array Slot), va_P D CLS (wR a q g0 g1 g2 g3 g4 g5 g6 g7 g8 g9 g10 g11 g12 g13 g14 g15 g16 g17 g18 g19) H → va_D A (wR a q g0 g1 g2 g3 g4 g5 g6 g7 g8 g9 g10 g11 g12 g13 g14 g15 g16 g17 g18 g19) → va_S A s.heap H locs → lv_has ls 10 [] → f_Ref_ofTwo_99  s0 s1 g8 g9 g10 g11 g12 = some r0 → W p l e rm_Ref_ofTwo s m args below meth c H locs 0 0 (MQ below (va_Qi (fun (r : Int32) (_ : Unit) => r = r0.1) (fun _ t => va_P D CLS (wR a q g0 g1 g2 g3 g4 g5 g6 g7 r0.2.1 r0.2.2.1 r0.2.2.2.1 r0.2.2.2.2.1 r0.2.2.2.2.2 g13 g14 g15 g16 g17 g18 g19) t.heap) A) args s 0 0 A) (F0 m 99 ls [.long s0, .long s1, .ref (a 0)]) := by
  obtain ⟨hx, hb, hml, hown, hts, hr, hlocks⟩ := id hC
  intro s0 s1 g8 g9 g10 g11 g12 H locs ls hP hD hS hl h
  rw [f_Ref_ofTwo_99] at h
  obtain ⟨r1, h_r1, h⟩ := ob_of h
  have hF := va_free (wc := dR a) (dD (ws' := dR a) hD rfl) hS hA [0, 1, 2, 3, 4, 5, 6] rfl
  have hd : va_D (fun _ => True) (dR a) := (dD (ws' := dR a) hD rfl).weaken (fun _ _ _ _ => trivial)
  refine va_callv (va_runV (As := [.long s1, .long s0]) (rest := []) ⟨hx, hb, hml, hown, hts⟩ (c_Ref_result l D a q hd H.size s1 s0 g0 g1 g2 g3 g4 g5 g6 g7 g8 g9 g10 g11 g12 g13 g14 g15 g16 g17 g18 g19 r1 h_r1) (cwV 2 hts (gd_V (m_4 104 rfl rfl) (m_4 106 rfl rfl) (m_s 26 rfl rfl) (m_1 4 rfl rfl) (m_4 107 rfl rfl)) rfl rfl rfl (by decide +kernel) ⟨Nat.le_of_ble_eq_true rfl, Nat.le_of_ble_eq_true rfl⟩) ⟨fun a U g mk q => ⟨q.1, q.2.1, q.2.2.1, va_K.moved (u := U) (U := U.calling g mk a) (Vm.Alike.refl U.vm) q.2.2.2⟩, va_recv hK hP (ci := 0) (q0 := 0) rfl rfl, fun U hU hW => ⟨rfl, by rw [hU], by rw [hU]; exact hP, va_K.moved hW.alike hK⟩⟩ rfl rfl hl.1 rfl (lv_room (Nat.le_of_ble_eq_true rfl)) (dt_at dt_Ref_ofTwo 31 rfl) ⟨Nat.le_of_ble_eq_true rfl, Nat.le_of_ble_eq_true rfl⟩) hS (fun x _ h9 => hF x h9) hF (fun uu t H locs ht hvm hw hB hz1 hk1 hS => ?_)
  rw [ht] at hB
  have hP : va_P D CLS (wR a q g0 g1 g2 g3 g4 g5 g6 g7 g8 g9 r1.1 r1.2 g12 g13 g14 g15 g16 g17 g18 g19) H := hB
  have hD : va_D A (wR a q g0 g1 g2 g3 g4 g5 g6 g7 g8 g9 r1.1 r1.2 g12 g13 g14 g15 g16 g17 g18 g19) := dD hD rfl
  refine lv_iconst (v := 3) hx hb (dt_at dt_Ref_ofTwo 32 rfl) (by decide) ?_
  obtain rfl := os_of h
  exact W.iret (v := (3 : Int32)) hx hb hr (fun t ht hW => ⟨⟨_, (), rfl, rfl, (hPt hP ht)⟩, hS.F ht⟩) hS.2.2 (dt_at dt_Ref_ofTwo 33 rfl)
set_option maxRecDepth 100000 in
set_option maxHeartbeats 4000000 in
theorem k_Ref_ofTwo_83 {p : Program} {l : Launch} {e : Env} {s : State} {m : MethodId} {args : Array Value} {below : List Frame} {meth : Method} {c : Code} {D : va_G} {a : Nat → Nat} {q : Nat → ClassId} {A : Nat → Prop} (hC : CX p s m args meth c prog_12_method_36_code 10 "OutwardTapeModel" (some .int)) (hA : ∀ x, s.heap.size ≤ x → A x) (hK : va_K D CLS (tR q) s) {g0 : Int32} {g1 : Nat → Int32} {g2 : Nat → Int64} {g3 : Nat → Int64} {g4 : Nat → Int32} {g5 : Int32} {g6 : Nat → Int32} {g7 : Int32} {g13 : Int32} {g14 : Int32} {g15 : Int64} {g16 : Int32} {g17 : Int32} {g18 : Int64} {g19 : Int32} {r0 : Int32 × (Nat → Int32) × Int32 × Int64 × Int64 × Int32} : ∀ (s0 : Int64) (g8 : Nat → Int32) (g9 : Int32) (g10 : Int64) (g11 : Int64) (g12 : Int32) (H : Heap) (locs : List Loc) (ls : Array Slot), va_P D CLS (wR a q g0 g1 g2 g3 g4 g5 g6 g7 g8 g9 g10 g11 g12 g13 g14 g15 g16 g17 g18 g19) H → va_D A (wR a q g0 g1 g2 g3 g4 g5 g6 g7 g8 g9 g10 g11 g12 g13 g14 g15 g16 g17 g18 g19) → va_S A s.heap H locs → lv_has ls 10 [] → f_Ref_ofTwo_83  s0 g8 g9 g10 g11 g12 = some r0 → W p l e rm_Ref_ofTwo s m args below meth c H locs 0 0 (MQ below (va_Qi (fun (r : Int32) (_ : Unit) => r = r0.1) (fun _ t => va_P D CLS (wR a q g0 g1 g2 g3 g4 g5 g6 g7 r0.2.1 r0.2.2.1 r0.2.2.2.1 r0.2.2.2.2.1 r0.2.2.2.2.2 g13 g14 g15 g16 g17 g18 g19) t.heap) A) args s 0 0 A) (F0 m 83 ls [.long s0, .ref (a 0)]) := by
  obtain ⟨hx, hb, hml, hown, hts, hr, hlocks⟩ := id hC
  intro s0 g8 g9 g10 g11 g12 H locs ls hP hD hS hl h
  rw [f_Ref_ofTwo_83] at h
  refine lv_ldc2 (v := 9218868437227405312) hx hb hown (hts (Cond.constantLong "OutwardTapeModel" 69 (9218868437227405312)) (m_4 70 rfl rfl)) (dt_at dt_Ref_ofTwo 23 rfl) ?_
  refine lv_goto (tgt := 99) hx hb (dt_at dt_Ref_ofTwo 24 rfl) (by decide) ?_
  exact k_Ref_ofTwo_99 hC hA hK   (9218868437227405312 : Int64) s0 g8 g9 g10 g11 g12 H locs ls hP hD hS (lv_sub hl [] rfl) h
set_option maxRecDepth 100000 in
set_option maxHeartbeats 4000000 in
theorem k_Ref_ofTwo_67 {p : Program} {l : Launch} {e : Env} {s : State} {m : MethodId} {args : Array Value} {below : List Frame} {meth : Method} {c : Code} {D : va_G} {a : Nat → Nat} {q : Nat → ClassId} {A : Nat → Prop} (hC : CX p s m args meth c prog_12_method_36_code 10 "OutwardTapeModel" (some .int)) (hA : ∀ x, s.heap.size ≤ x → A x) (hK : va_K D CLS (tR q) s) {g0 : Int32} {g1 : Nat → Int32} {g2 : Nat → Int64} {g3 : Nat → Int64} {g4 : Nat → Int32} {g5 : Int32} {g6 : Nat → Int32} {g7 : Int32} {g13 : Int32} {g14 : Int32} {g15 : Int64} {g16 : Int32} {g17 : Int32} {g18 : Int64} {g19 : Int32} {r0 : Int32 × (Nat → Int32) × Int32 × Int64 × Int64 × Int32} : ∀ (s0 : Int64) (v4 : Int64) (v8 : Int64) (g8 : Nat → Int32) (g9 : Int32) (g10 : Int64) (g11 : Int64) (g12 : Int32) (H : Heap) (locs : List Loc) (ls : Array Slot), va_P D CLS (wR a q g0 g1 g2 g3 g4 g5 g6 g7 g8 g9 g10 g11 g12 g13 g14 g15 g16 g17 g18 g19) H → va_D A (wR a q g0 g1 g2 g3 g4 g5 g6 g7 g8 g9 g10 g11 g12 g13 g14 g15 g16 g17 g18 g19) → va_S A s.heap H locs → lv_has ls 10 [(0, .ref (a 0)), (4, .long v4), (8, .long v8)] → f_Ref_ofTwo_67  s0 v4 v8 g8 g9 g10 g11 g12 = some r0 → W p l e rm_Ref_ofTwo s m args below meth c H locs 0 0 (MQ below (va_Qi (fun (r : Int32) (_ : Unit) => r = r0.1) (fun _ t => va_P D CLS (wR a q g0 g1 g2 g3 g4 g5 g6 g7 r0.2.1 r0.2.2.1 r0.2.2.2.1 r0.2.2.2.2.1 r0.2.2.2.2.2 g13 g14 g15 g16 g17 g18 g19) t.heap) A) args s 0 0 A) (F0 m 67 ls [.long s0, .ref (a 0)]) := by
  obtain ⟨hx, hb, hml, hown, hts, hr, hlocks⟩ := id hC
  intro s0 v4 v8 g8 g9 g10 g11 g12 H locs ls hP hD hS hl h
  rw [f_Ref_ofTwo_67] at h
  refine lv_lload hx hb (dt_at dt_Ref_ofTwo 17 rfl) (lv_at hl 1 rfl) ?_
  obtain ⟨r1, h_r1, h⟩ := ob_of h
  refine vp_callSi (W.runS (As := [.long v4]) (rest := [.long s0, .ref (a 0)]) ⟨hx, hb, hml, hown, hts⟩ (c_Ref_infinite l v4 r1 h_r1) (va_cwS 1 hts (gd_S (m_4 78 rfl rfl) (m_4 79 rfl rfl) (m_1 4 rfl rfl) (m_4 80 rfl rfl)) rfl rfl rfl (by decide +kernel) ⟨Nat.le_of_ble_eq_true rfl, Nat.le_of_ble_eq_true rfl⟩) ⟨fun _ _ _ _ q => q, fun U hU hW => ⟨rfl, trivial⟩⟩ rfl rfl hl.1 rfl (lv_room (Nat.le_of_ble_eq_true rfl)) (dt_at dt_Ref_ofTwo 18 rfl) ⟨Nat.le_of_ble_eq_true rfl, Nat.le_of_ble_eq_true rfl⟩) (fun u_r1 q_r1 => ?_)
  obtain rfl : r1 = u_r1 := q_r1.symm
  refine lv_if_ne (tgt := 83) hx hb (dt_at dt_Ref_ofTwo 19 rfl) (by decide) (fun c2 => ?_) (fun c2 => ?_)
  · have h := if_n h c2
    exact k_Ref_ofTwo_83 hC hA hK   s0 g8 g9 g10 g11 g12 H locs ls hP hD hS (lv_sub hl [] rfl) h
  · have h := if_p h c2
    refine lv_lload hx hb (dt_at dt_Ref_ofTwo 20 rfl) (lv_at hl 2 rfl) ?_
    obtain ⟨r3, h_r3, h⟩ := ob_of h
    refine vp_callSi (W.runS (As := [.long v8]) (rest := [.long s0, .ref (a 0)]) ⟨hx, hb, hml, hown, hts⟩ (c_Ref_infinite l v8 r3 h_r3) (va_cwS 1 hts (gd_S (m_4 78 rfl rfl) (m_4 79 rfl rfl) (m_1 4 rfl rfl) (m_4 80 rfl rfl)) rfl rfl rfl (by decide +kernel) ⟨Nat.le_of_ble_eq_true rfl, Nat.le_of_ble_eq_true rfl⟩) ⟨fun _ _ _ _ q => q, fun U hU hW => ⟨rfl, trivial⟩⟩ rfl rfl hl.1 rfl (lv_room (Nat.le_of_ble_eq_true rfl)) (dt_at dt_Ref_ofTwo 21 rfl) ⟨Nat.le_of_ble_eq_true rfl, Nat.le_of_ble_eq_true rfl⟩) (fun u_r3 q_r3 => ?_)
    obtain rfl : r3 = u_r3 := q_r3.symm
    refine lv_if_eq (tgt := 89) hx hb (dt_at dt_Ref_ofTwo 22 rfl) (by decide) (fun c4 => ?_) (fun c4 => ?_)
    · have h := if_p h c4
      refine lv_aload_n hx hb (dt_at dt_Ref_ofTwo 25 rfl) rfl (lv_at hl 0 rfl) ?_
      refine lv_lload hx hb (dt_at dt_Ref_ofTwo 26 rfl) (lv_at hl 1 rfl) ?_
      refine lv_lload hx hb (dt_at dt_Ref_ofTwo 27 rfl) (lv_at hl 2 rfl) ?_
      refine lv_iconst (v := 0) hx hb (dt_at dt_Ref_ofTwo 28 rfl) (by decide) ?_
      refine lv_iconst (v := 1) hx hb (dt_at dt_Ref_ofTwo 29 rfl) (by decide) ?_
      obtain ⟨r5, h_r5, h⟩ := ob_of h
      have hF := va_free (wc := dR a) (dD (ws' := dR a) hD rfl) hS hA [0, 1, 2, 3, 4, 5, 6] rfl
      have hd : va_D (fun _ => True) (dR a) := (dD (ws' := dR a) hD rfl).weaken (fun _ _ _ _ => trivial)
      refine va_calll (va_runV (As := [.long v4, .long v8, .int (0 : Int32), .int (1 : Int32)]) (rest := [.long s0, .ref (a 0)]) ⟨hx, hb, hml, hown, hts⟩ (c_Ref_sum l D a q hd H.size v4 v8 (0 : Int32) (1 : Int32) g0 g1 g2 g3 g4 g5 g6 g7 g8 g9 g10 g11 g12 g13 g14 g15 g16 g17 g18 g19 r5 h_r5) (cwV 4 hts (gd_V (m_4 201 rfl rfl) (m_4 203 rfl rfl) (m_s 44 rfl rfl) (m_1 4 rfl rfl) (m_4 204 rfl rfl)) rfl rfl rfl (by decide +kernel) ⟨Nat.le_of_ble_eq_true rfl, Nat.le_of_ble_eq_true rfl⟩) ⟨fun a U g mk q => ⟨q.1, q.2.1, q.2.2.1, va_K.moved (u := U) (U := U.calling g mk a) (Vm.Alike.refl U.vm) q.2.2.2⟩, va_recv hK hP (ci := 0) (q0 := 0) rfl rfl, fun U hU hW => ⟨rfl, by rw [hU], by rw [hU]; exact hP, va_K.moved hW.alike hK⟩⟩ rfl rfl hl.1 rfl (lv_room (Nat.le_of_ble_eq_true rfl)) (dt_at dt_Ref_ofTwo 30 rfl) ⟨Nat.le_of_ble_eq_true rfl, Nat.le_of_ble_eq_true rfl⟩) hS (fun x _ h9 => hF x h9) hF (fun u_r5 uu t H locs ht hvm hw hB hz1 hk1 hS => ?_)
      rw [ht] at hB
      subst hw
      have hP : va_P D CLS (wR a q g0 g1 g2 g3 g4 g5 g6 g7 r5.2.1 r5.2.2 g10 g11 g12 g13 g14 g15 g16 g17 g18 g19) H := hB
      have hD : va_D A (wR a q g0 g1 g2 g3 g4 g5 g6 g7 r5.2.1 r5.2.2 g10 g11 g12 g13 g14 g15 g16 g17 g18 g19) := dD hD rfl
      exact k_Ref_ofTwo_99 hC hA hK   r5.1 s0 r5.2.1 r5.2.2 g10 g11 g12 H locs ls hP hD hS (lv_sub hl [] rfl) h
    · have h := if_n h c4
      exact k_Ref_ofTwo_83 hC hA hK   s0 g8 g9 g10 g11 g12 H locs ls hP hD hS (lv_sub hl [] rfl) h
set_option maxRecDepth 100000 in
set_option maxHeartbeats 4000000 in
theorem k_Ref_ofTwo_52 {p : Program} {l : Launch} {e : Env} {s : State} {m : MethodId} {args : Array Value} {below : List Frame} {meth : Method} {c : Code} {D : va_G} {a : Nat → Nat} {q : Nat → ClassId} {A : Nat → Prop} (hC : CX p s m args meth c prog_12_method_36_code 10 "OutwardTapeModel" (some .int)) (hA : ∀ x, s.heap.size ≤ x → A x) (hK : va_K D CLS (tR q) s) {g0 : Int32} {g1 : Nat → Int32} {g2 : Nat → Int64} {g3 : Nat → Int64} {g4 : Nat → Int32} {g5 : Int32} {g6 : Nat → Int32} {g7 : Int32} {g13 : Int32} {g14 : Int32} {g15 : Int64} {g16 : Int32} {g17 : Int32} {g18 : Int64} {g19 : Int32} {r0 : Int32 × (Nat → Int32) × Int32 × Int64 × Int64 × Int32} : ∀ (v4 : Int64) (v8 : Int64) (g8 : Nat → Int32) (g9 : Int32) (g10 : Int64) (g11 : Int64) (g12 : Int32) (H : Heap) (locs : List Loc) (ls : Array Slot), va_P D CLS (wR a q g0 g1 g2 g3 g4 g5 g6 g7 g8 g9 g10 g11 g12 g13 g14 g15 g16 g17 g18 g19) H → va_D A (wR a q g0 g1 g2 g3 g4 g5 g6 g7 g8 g9 g10 g11 g12 g13 g14 g15 g16 g17 g18 g19) → va_S A s.heap H locs → lv_has ls 10 [(0, .ref (a 0)), (4, .long v4), (8, .long v8)] → f_Ref_ofTwo_52  v4 v8 g8 g9 g10 g11 g12 = some r0 → W p l e rm_Ref_ofTwo s m args below meth c H locs 0 0 (MQ below (va_Qi (fun (r : Int32) (_ : Unit) => r = r0.1) (fun _ t => va_P D CLS (wR a q g0 g1 g2 g3 g4 g5 g6 g7 r0.2.1 r0.2.2.1 r0.2.2.2.1 r0.2.2.2.2.1 r0.2.2.2.2.2 g13 g14 g15 g16 g17 g18 g19) t.heap) A) args s 0 0 A) (F0 m 52 ls [.ref (a 0)]) := by
  obtain ⟨hx, hb, hml, hown, hts, hr, hlocks⟩ := id hC
  intro v4 v8 g8 g9 g10 g11 g12 H locs ls hP hD hS hl h
  rw [f_Ref_ofTwo_52] at h
  refine lv_ldc2 (v := -9218868437227405312) hx hb hown (hts (Cond.constantLong "OutwardTapeModel" 95 (-9218868437227405312)) (m_4 74 rfl rfl)) (dt_at dt_Ref_ofTwo 9 rfl) ?_
  refine lv_goto (tgt := 67) hx hb (dt_at dt_Ref_ofTwo 10 rfl) (by decide) ?_
  exact k_Ref_ofTwo_67 hC hA hK   (-9218868437227405312 : Int64) v4 v8 g8 g9 g10 g11 g12 H locs ls hP hD hS (lv_sub hl [0, 1, 2] rfl) h
set_option maxRecDepth 100000 in
set_option maxHeartbeats 4000000 in
theorem k_Ref_ofTwo_0 {p : Program} {l : Launch} {e : Env} {s : State} {m : MethodId} {args : Array Value} {below : List Frame} {meth : Method} {c : Code} {D : va_G} {a : Nat → Nat} {q : Nat → ClassId} {A : Nat → Prop} (hC : CX p s m args meth c prog_12_method_36_code 10 "OutwardTapeModel" (some .int)) (hA : ∀ x, s.heap.size ≤ x → A x) (hK : va_K D CLS (tR q) s) {g0 : Int32} {g1 : Nat → Int32} {g2 : Nat → Int64} {g3 : Nat → Int64} {g4 : Nat → Int32} {g5 : Int32} {g6 : Nat → Int32} {g7 : Int32} {g13 : Int32} {g14 : Int32} {g15 : Int64} {g16 : Int32} {g17 : Int32} {g18 : Int64} {g19 : Int32} {r0 : Int32 × (Nat → Int32) × Int32 × Int64 × Int64 × Int32} : ∀ (v1 : Int32) (v2 : Int64) (v4 : Int64) (v6 : Int64) (v8 : Int64) (g8 : Nat → Int32) (g9 : Int32) (g10 : Int64) (g11 : Int64) (g12 : Int32) (H : Heap) (locs : List Loc) (ls : Array Slot), va_P D CLS (wR a q g0 g1 g2 g3 g4 g5 g6 g7 g8 g9 g10 g11 g12 g13 g14 g15 g16 g17 g18 g19) H → va_D A (wR a q g0 g1 g2 g3 g4 g5 g6 g7 g8 g9 g10 g11 g12 g13 g14 g15 g16 g17 g18 g19) → va_S A s.heap H locs → lv_has ls 10 [(0, .ref (a 0)), (1, .int v1), (2, .long v2), (4, .long v4), (6, .long v6), (8, .long v8)] → f_Ref_ofTwo_0  v1 v2 v4 v6 v8 g8 g9 g10 g11 g12 = some r0 → W p l e rm_Ref_ofTwo s m args below meth c H locs 0 0 (MQ below (va_Qi (fun (r : Int32) (_ : Unit) => r = r0.1) (fun _ t => va_P D CLS (wR a q g0 g1 g2 g3 g4 g5 g6 g7 r0.2.1 r0.2.2.1 r0.2.2.2.1 r0.2.2.2.2.1 r0.2.2.2.2.2 g13 g14 g15 g16 g17 g18 g19) t.heap) A) args s 0 0 A) (F0 m 0 ls []) := by
  obtain ⟨hx, hb, hml, hown, hts, hr, hlocks⟩ := id hC
  intro v1 v2 v4 v6 v8 g8 g9 g10 g11 g12 H locs ls hP hD hS hl h
  rw [f_Ref_ofTwo_0] at h
  refine lv_iload_n hx hb (dt_at dt_Ref_ofTwo 0 rfl) rfl (lv_at hl 1 rfl) ?_
  by_cases c1 : v1 = (0 : Int32)
  · have h := if_p h c1
    refine lv_tableIn (off := 35) (tgt := 36) hx hb (dt_at dt_Ref_ofTwo 1 rfl) (by rw [c1]; decide) (by rw [c1]; decide) (by rw [c1]; rfl) (by decide) ?_
    refine lv_aload_n hx hb (dt_at dt_Ref_ofTwo 2 rfl) rfl (lv_at hl 0 rfl) ?_
    refine lv_lload_n hx hb (dt_at dt_Ref_ofTwo 3 rfl) rfl (lv_at hl 2 rfl) ?_
    obtain ⟨r2, h_r2, h⟩ := ob_of h
    refine vp_callSi (W.runS (As := [.long v2]) (rest := [.ref (a 0)]) ⟨hx, hb, hml, hown, hts⟩ (c_Ref_infinite l v2 r2 h_r2) (va_cwS 1 hts (gd_S (m_4 78 rfl rfl) (m_4 79 rfl rfl) (m_1 4 rfl rfl) (m_4 80 rfl rfl)) rfl rfl rfl (by decide +kernel) ⟨Nat.le_of_ble_eq_true rfl, Nat.le_of_ble_eq_true rfl⟩) ⟨fun _ _ _ _ q => q, fun U hU hW => ⟨rfl, trivial⟩⟩ rfl rfl hl.1 rfl (lv_room (Nat.le_of_ble_eq_true rfl)) (dt_at dt_Ref_ofTwo 4 rfl) ⟨Nat.le_of_ble_eq_true rfl, Nat.le_of_ble_eq_true rfl⟩) (fun u_r2 q_r2 => ?_)
    obtain rfl : r2 = u_r2 := q_r2.symm
    refine lv_if_ne (tgt := 52) hx hb (dt_at dt_Ref_ofTwo 5 rfl) (by decide) (fun c3 => ?_) (fun c3 => ?_)
    · have h := if_n h c3
      exact k_Ref_ofTwo_52 hC hA hK   v4 v8 g8 g9 g10 g11 g12 H locs ls hP hD hS (lv_sub hl [0, 3, 5] rfl) h
    · have h := if_p h c3
      refine lv_lload hx hb (dt_at dt_Ref_ofTwo 6 rfl) (lv_at hl 4 rfl) ?_
      obtain ⟨r4, h_r4, h⟩ := ob_of h
      refine vp_callSi (W.runS (As := [.long v6]) (rest := [.ref (a 0)]) ⟨hx, hb, hml, hown, hts⟩ (c_Ref_infinite l v6 r4 h_r4) (va_cwS 1 hts (gd_S (m_4 78 rfl rfl) (m_4 79 rfl rfl) (m_1 4 rfl rfl) (m_4 80 rfl rfl)) rfl rfl rfl (by decide +kernel) ⟨Nat.le_of_ble_eq_true rfl, Nat.le_of_ble_eq_true rfl⟩) ⟨fun _ _ _ _ q => q, fun U hU hW => ⟨rfl, trivial⟩⟩ rfl rfl hl.1 rfl (lv_room (Nat.le_of_ble_eq_true rfl)) (dt_at dt_Ref_ofTwo 7 rfl) ⟨Nat.le_of_ble_eq_true rfl, Nat.le_of_ble_eq_true rfl⟩) (fun u_r4 q_r4 => ?_)
      obtain rfl : r4 = u_r4 := q_r4.symm
      refine lv_if_eq (tgt := 58) hx hb (dt_at dt_Ref_ofTwo 8 rfl) (by decide) (fun c5 => ?_) (fun c5 => ?_)
      · have h := if_p h c5
        refine lv_aload_n hx hb (dt_at dt_Ref_ofTwo 11 rfl) rfl (lv_at hl 0 rfl) ?_
        refine lv_lload_n hx hb (dt_at dt_Ref_ofTwo 12 rfl) rfl (lv_at hl 2 rfl) ?_
        refine lv_lload hx hb (dt_at dt_Ref_ofTwo 13 rfl) (lv_at hl 4 rfl) ?_
        refine lv_iconst (v := 0) hx hb (dt_at dt_Ref_ofTwo 14 rfl) (by decide) ?_
        refine lv_iconst (v := 0) hx hb (dt_at dt_Ref_ofTwo 15 rfl) (by decide) ?_
        obtain ⟨r6, h_r6, h⟩ := ob_of h
        have hF := va_free (wc := dR a) (dD (ws' := dR a) hD rfl) hS hA [0, 1, 2, 3, 4, 5, 6] rfl
        have hd : va_D (fun _ => True) (dR a) := (dD (ws' := dR a) hD rfl).weaken (fun _ _ _ _ => trivial)
        refine va_calll (va_runV (As := [.long v2, .long v6, .int (0 : Int32), .int (0 : Int32)]) (rest := [.ref (a 0)]) ⟨hx, hb, hml, hown, hts⟩ (c_Ref_sum l D a q hd H.size v2 v6 (0 : Int32) (0 : Int32) g0 g1 g2 g3 g4 g5 g6 g7 g8 g9 g10 g11 g12 g13 g14 g15 g16 g17 g18 g19 r6 h_r6) (cwV 4 hts (gd_V (m_4 201 rfl rfl) (m_4 203 rfl rfl) (m_s 44 rfl rfl) (m_1 4 rfl rfl) (m_4 204 rfl rfl)) rfl rfl rfl (by decide +kernel) ⟨Nat.le_of_ble_eq_true rfl, Nat.le_of_ble_eq_true rfl⟩) ⟨fun a U g mk q => ⟨q.1, q.2.1, q.2.2.1, va_K.moved (u := U) (U := U.calling g mk a) (Vm.Alike.refl U.vm) q.2.2.2⟩, va_recv hK hP (ci := 0) (q0 := 0) rfl rfl, fun U hU hW => ⟨rfl, by rw [hU], by rw [hU]; exact hP, va_K.moved hW.alike hK⟩⟩ rfl rfl hl.1 rfl (lv_room (Nat.le_of_ble_eq_true rfl)) (dt_at dt_Ref_ofTwo 16 rfl) ⟨Nat.le_of_ble_eq_true rfl, Nat.le_of_ble_eq_true rfl⟩) hS (fun x _ h9 => hF x h9) hF (fun u_r6 uu t H locs ht hvm hw hB hz1 hk1 hS => ?_)
        rw [ht] at hB
        subst hw
        have hP : va_P D CLS (wR a q g0 g1 g2 g3 g4 g5 g6 g7 r6.2.1 r6.2.2 g10 g11 g12 g13 g14 g15 g16 g17 g18 g19) H := hB
        have hD : va_D A (wR a q g0 g1 g2 g3 g4 g5 g6 g7 r6.2.1 r6.2.2 g10 g11 g12 g13 g14 g15 g16 g17 g18 g19) := dD hD rfl
        exact k_Ref_ofTwo_67 hC hA hK   r6.1 v4 v8 r6.2.1 r6.2.2 g10 g11 g12 H locs ls hP hD hS (lv_sub hl [0, 3, 5] rfl) h
      · have h := if_n h c5
        exact k_Ref_ofTwo_52 hC hA hK   v4 v8 g8 g9 g10 g11 g12 H locs ls hP hD hS (lv_sub hl [0, 3, 5] rfl) h
  · have h := if_n h c1
    by_cases c7 : v1 = (1 : Int32)
    · have h := if_p h c7
      refine lv_tableIn (off := 103) (tgt := 104) hx hb (dt_at dt_Ref_ofTwo 1 rfl) (by rw [c7]; decide) (by rw [c7]; decide) (by rw [c7]; rfl) (by decide) ?_
      refine lv_aload_n hx hb (dt_at dt_Ref_ofTwo 34 rfl) rfl (lv_at hl 0 rfl) ?_
      refine lv_lload_n hx hb (dt_at dt_Ref_ofTwo 35 rfl) rfl (lv_at hl 2 rfl) ?_
      obtain ⟨r8, h_r8, h⟩ := ob_of h
      refine vp_callSi (W.runS (As := [.long v2]) (rest := [.ref (a 0)]) ⟨hx, hb, hml, hown, hts⟩ (c_Ref_infinite l v2 r8 h_r8) (va_cwS 1 hts (gd_S (m_4 78 rfl rfl) (m_4 79 rfl rfl) (m_1 4 rfl rfl) (m_4 80 rfl rfl)) rfl rfl rfl (by decide +kernel) ⟨Nat.le_of_ble_eq_true rfl, Nat.le_of_ble_eq_true rfl⟩) ⟨fun _ _ _ _ q => q, fun U hU hW => ⟨rfl, trivial⟩⟩ rfl rfl hl.1 rfl (lv_room (Nat.le_of_ble_eq_true rfl)) (dt_at dt_Ref_ofTwo 36 rfl) ⟨Nat.le_of_ble_eq_true rfl, Nat.le_of_ble_eq_true rfl⟩) (fun u_r8 q_r8 => ?_)
      obtain rfl : r8 = u_r8 := q_r8.symm
      refine lv_if_ne (tgt := 120) hx hb (dt_at dt_Ref_ofTwo 37 rfl) (by decide) (fun c9 => ?_) (fun c9 => ?_)
      · have h := if_n h c9
        exact k_Ref_ofTwo_120 hC hA hK   v4 v6 g8 g9 g10 g11 g12 H locs ls hP hD hS (lv_sub hl [0, 3, 4] rfl) h
      · have h := if_p h c9
        refine lv_lload hx hb (dt_at dt_Ref_ofTwo 38 rfl) (lv_at hl 5 rfl) ?_
        obtain ⟨r10, h_r10, h⟩ := ob_of h
        refine vp_callSi (W.runS (As := [.long v8]) (rest := [.ref (a 0)]) ⟨hx, hb, hml, hown, hts⟩ (c_Ref_infinite l v8 r10 h_r10) (va_cwS 1 hts (gd_S (m_4 78 rfl rfl) (m_4 79 rfl rfl) (m_1 4 rfl rfl) (m_4 80 rfl rfl)) rfl rfl rfl (by decide +kernel) ⟨Nat.le_of_ble_eq_true rfl, Nat.le_of_ble_eq_true rfl⟩) ⟨fun _ _ _ _ q => q, fun U hU hW => ⟨rfl, trivial⟩⟩ rfl rfl hl.1 rfl (lv_room (Nat.le_of_ble_eq_true rfl)) (dt_at dt_Ref_ofTwo 39 rfl) ⟨Nat.le_of_ble_eq_true rfl, Nat.le_of_ble_eq_true rfl⟩) (fun u_r10 q_r10 => ?_)
        obtain rfl : r10 = u_r10 := q_r10.symm
        refine lv_if_eq (tgt := 126) hx hb (dt_at dt_Ref_ofTwo 40 rfl) (by decide) (fun c11 => ?_) (fun c11 => ?_)
        · have h := if_p h c11
          refine lv_aload_n hx hb (dt_at dt_Ref_ofTwo 43 rfl) rfl (lv_at hl 0 rfl) ?_
          refine lv_lload_n hx hb (dt_at dt_Ref_ofTwo 44 rfl) rfl (lv_at hl 2 rfl) ?_
          refine lv_lload hx hb (dt_at dt_Ref_ofTwo 45 rfl) (lv_at hl 5 rfl) ?_
          refine lv_lneg hx hb (dt_at dt_Ref_ofTwo 46 rfl) ?_
          refine lv_iconst (v := 0) hx hb (dt_at dt_Ref_ofTwo 47 rfl) (by decide) ?_
          refine lv_iconst (v := 0) hx hb (dt_at dt_Ref_ofTwo 48 rfl) (by decide) ?_
          obtain ⟨r12, h_r12, h⟩ := ob_of h
          have hF := va_free (wc := dR a) (dD (ws' := dR a) hD rfl) hS hA [0, 1, 2, 3, 4, 5, 6] rfl
          have hd : va_D (fun _ => True) (dR a) := (dD (ws' := dR a) hD rfl).weaken (fun _ _ _ _ => trivial)
          refine va_calll (va_runV (As := [.long v2, .long (-v8), .int (0 : Int32), .int (0 : Int32)]) (rest := [.ref (a 0)]) ⟨hx, hb, hml, hown, hts⟩ (c_Ref_sum l D a q hd H.size v2 (-v8) (0 : Int32) (0 : Int32) g0 g1 g2 g3 g4 g5 g6 g7 g8 g9 g10 g11 g12 g13 g14 g15 g16 g17 g18 g19 r12 h_r12) (cwV 4 hts (gd_V (m_4 201 rfl rfl) (m_4 203 rfl rfl) (m_s 44 rfl rfl) (m_1 4 rfl rfl) (m_4 204 rfl rfl)) rfl rfl rfl (by decide +kernel) ⟨Nat.le_of_ble_eq_true rfl, Nat.le_of_ble_eq_true rfl⟩) ⟨fun a U g mk q => ⟨q.1, q.2.1, q.2.2.1, va_K.moved (u := U) (U := U.calling g mk a) (Vm.Alike.refl U.vm) q.2.2.2⟩, va_recv hK hP (ci := 0) (q0 := 0) rfl rfl, fun U hU hW => ⟨rfl, by rw [hU], by rw [hU]; exact hP, va_K.moved hW.alike hK⟩⟩ rfl rfl hl.1 rfl (lv_room (Nat.le_of_ble_eq_true rfl)) (dt_at dt_Ref_ofTwo 49 rfl) ⟨Nat.le_of_ble_eq_true rfl, Nat.le_of_ble_eq_true rfl⟩) hS (fun x _ h9 => hF x h9) hF (fun u_r12 uu t H locs ht hvm hw hB hz1 hk1 hS => ?_)
          rw [ht] at hB
          subst hw
          have hP : va_P D CLS (wR a q g0 g1 g2 g3 g4 g5 g6 g7 r12.2.1 r12.2.2 g10 g11 g12 g13 g14 g15 g16 g17 g18 g19) H := hB
          have hD : va_D A (wR a q g0 g1 g2 g3 g4 g5 g6 g7 r12.2.1 r12.2.2 g10 g11 g12 g13 g14 g15 g16 g17 g18 g19) := dD hD rfl
          exact k_Ref_ofTwo_136 hC hA hK   r12.1 v4 v6 r12.2.1 r12.2.2 g10 g11 g12 H locs ls hP hD hS (lv_sub hl [0, 3, 4] rfl) h
        · have h := if_n h c11
          exact k_Ref_ofTwo_120 hC hA hK   v4 v6 g8 g9 g10 g11 g12 H locs ls hP hD hS (lv_sub hl [0, 3, 4] rfl) h
    · have h := if_n h c7
      by_cases c13 : v1 = (2 : Int32)
      · have h := if_p h c13
        refine lv_tableIn (off := 173) (tgt := 174) hx hb (dt_at dt_Ref_ofTwo 1 rfl) (by rw [c13]; decide) (by rw [c13]; decide) (by rw [c13]; rfl) (by decide) ?_
        refine lv_aload_n hx hb (dt_at dt_Ref_ofTwo 68 rfl) rfl (lv_at hl 0 rfl) ?_
        refine lv_lload_n hx hb (dt_at dt_Ref_ofTwo 69 rfl) rfl (lv_at hl 2 rfl) ?_
        refine lv_lload hx hb (dt_at dt_Ref_ofTwo 70 rfl) (lv_at hl 3 rfl) ?_
        refine lv_lload hx hb (dt_at dt_Ref_ofTwo 71 rfl) (lv_at hl 4 rfl) ?_
        refine lv_lload hx hb (dt_at dt_Ref_ofTwo 72 rfl) (lv_at hl 5 rfl) ?_
        obtain ⟨r14, h_r14, h⟩ := ob_of h
        have hF := va_free (wc := dR a) (dD (ws' := dR a) hD rfl) hS hA [0, 1, 2, 3, 4, 5, 6] rfl
        have hd : va_D (fun _ => True) (dR a) := (dD (ws' := dR a) hD rfl).weaken (fun _ _ _ _ => trivial)
        refine va_callv (va_runV (As := [.long v2, .long v4, .long v6, .long v8]) (rest := []) ⟨hx, hb, hml, hown, hts⟩ (c_Ref_products l D a q hd H.size v2 v4 v6 v8 g0 g1 g2 g3 g4 g5 g6 g7 g8 g9 g10 g11 g12 g13 g14 g15 g16 g17 g18 g19 r14 h_r14) (cwV 4 hts (gd_V (m_4 231 rfl rfl) (m_4 233 rfl rfl) (m_s 49 rfl rfl) (m_1 4 rfl rfl) (m_4 234 rfl rfl)) rfl rfl rfl (by decide +kernel) ⟨Nat.le_of_ble_eq_true rfl, Nat.le_of_ble_eq_true rfl⟩) ⟨fun a U g mk q => ⟨q.1, q.2.1, q.2.2.1, va_K.moved (u := U) (U := U.calling g mk a) (Vm.Alike.refl U.vm) q.2.2.2⟩, va_recv hK hP (ci := 0) (q0 := 0) rfl rfl, fun U hU hW => ⟨rfl, by rw [hU], by rw [hU]; exact hP, va_K.moved hW.alike hK⟩⟩ rfl rfl hl.1 rfl (lv_room (Nat.le_of_ble_eq_true rfl)) (dt_at dt_Ref_ofTwo 73 rfl) ⟨Nat.le_of_ble_eq_true rfl, Nat.le_of_ble_eq_true rfl⟩) hS (fun x _ h9 => hF x h9) hF (fun uu t H locs ht hvm hw hB hz1 hk1 hS => ?_)
        rw [ht] at hB
        have hP : va_P D CLS (wR a q g0 g1 g2 g3 g4 g5 g6 g7 r14.1 r14.2.1 r14.2.2.1 r14.2.2.2 g12 g13 g14 g15 g16 g17 g18 g19) H := hB
        have hD : va_D A (wR a q g0 g1 g2 g3 g4 g5 g6 g7 r14.1 r14.2.1 r14.2.2.1 r14.2.2.2 g12 g13 g14 g15 g16 g17 g18 g19) := dD hD rfl
        refine lv_iconst (v := 3) hx hb (dt_at dt_Ref_ofTwo 74 rfl) (by decide) ?_
        obtain rfl := os_of h
        exact W.iret (v := (3 : Int32)) hx hb hr (fun t ht hW => ⟨⟨_, (), rfl, rfl, (hPt hP ht)⟩, hS.F ht⟩) hS.2.2 (dt_at dt_Ref_ofTwo 75 rfl)
      · have h := if_n h c13
        by_cases c15 : v1 = (3 : Int32)
        · have h := if_p h c15
          refine lv_tableIn (off := 186) (tgt := 187) hx hb (dt_at dt_Ref_ofTwo 1 rfl) (by rw [c15]; decide) (by rw [c15]; decide) (by rw [c15]; rfl) (by decide) ?_
          refine lv_aload_n hx hb (dt_at dt_Ref_ofTwo 76 rfl) rfl (lv_at hl 0 rfl) ?_
          refine lv_lload_n hx hb (dt_at dt_Ref_ofTwo 77 rfl) rfl (lv_at hl 2 rfl) ?_
          refine lv_lload hx hb (dt_at dt_Ref_ofTwo 78 rfl) (lv_at hl 3 rfl) ?_
          refine lv_lload hx hb (dt_at dt_Ref_ofTwo 79 rfl) (lv_at hl 4 rfl) ?_
          refine lv_lload hx hb (dt_at dt_Ref_ofTwo 80 rfl) (lv_at hl 5 rfl) ?_
          obtain ⟨r16, h_r16, h⟩ := ob_of h
          have hF := va_free (wc := dR a) (dD (ws' := dR a) hD rfl) hS hA [0, 1, 2, 3, 4, 5, 6] rfl
          have hd : va_D (fun _ => True) (dR a) := (dD (ws' := dR a) hD rfl).weaken (fun _ _ _ _ => trivial)
          refine va_callv (va_runV (As := [.long v2, .long v4, .long v6, .long v8]) (rest := []) ⟨hx, hb, hml, hown, hts⟩ (c_Ref_quotients l D a q hd H.size v2 v4 v6 v8 g0 g1 g2 g3 g4 g5 g6 g7 g8 g9 g10 g11 g12 g13 g14 g15 g16 g17 g18 g19 r16 h_r16) (cwV 4 hts (gd_V (m_4 173 rfl rfl) (m_4 175 rfl rfl) (m_s 37 rfl rfl) (m_1 4 rfl rfl) (m_4 176 rfl rfl)) rfl rfl rfl (by decide +kernel) ⟨Nat.le_of_ble_eq_true rfl, Nat.le_of_ble_eq_true rfl⟩) ⟨fun a U g mk q => ⟨q.1, q.2.1, q.2.2.1, va_K.moved (u := U) (U := U.calling g mk a) (Vm.Alike.refl U.vm) q.2.2.2⟩, va_recv hK hP (ci := 0) (q0 := 0) rfl rfl, fun U hU hW => ⟨rfl, by rw [hU], by rw [hU]; exact hP, va_K.moved hW.alike hK⟩⟩ rfl rfl hl.1 rfl (lv_room (Nat.le_of_ble_eq_true rfl)) (dt_at dt_Ref_ofTwo 81 rfl) ⟨Nat.le_of_ble_eq_true rfl, Nat.le_of_ble_eq_true rfl⟩) hS (fun x _ h9 => hF x h9) hF (fun uu t H locs ht hvm hw hB hz1 hk1 hS => ?_)
          rw [ht] at hB
          have hP : va_P D CLS (wR a q g0 g1 g2 g3 g4 g5 g6 g7 r16.1 r16.2.1 r16.2.2.1 r16.2.2.2.1 r16.2.2.2.2 g13 g14 g15 g16 g17 g18 g19) H := hB
          have hD : va_D A (wR a q g0 g1 g2 g3 g4 g5 g6 g7 r16.1 r16.2.1 r16.2.2.1 r16.2.2.2.1 r16.2.2.2.2 g13 g14 g15 g16 g17 g18 g19) := dD hD rfl
          refine lv_lload hx hb (dt_at dt_Ref_ofTwo 82 rfl) (lv_at hl 4 rfl) ?_
          refine lv_lconst (v := 0) hx hb (dt_at dt_Ref_ofTwo 83 rfl) (by decide) ?_
          refine lc_gt (tgt := 216) hx hb (dt_at dt_Ref_ofTwo 84 rfl) (dt_at dt_Ref_ofTwo 85 rfl) (by decide) (fun c17 => ?_) (fun c17 => ?_)
          · have h := if_p h c17
            exact k_Ref_ofTwo_216 hC hA hK   r16.1 r16.2.1 r16.2.2.1 r16.2.2.2.1 r16.2.2.2.2 H locs ls hP hD hS (lv_sub hl [] rfl) h
          · have h := if_n h c17
            refine lv_lload hx hb (dt_at dt_Ref_ofTwo 86 rfl) (lv_at hl 5 rfl) ?_
            refine lv_lconst (v := 0) hx hb (dt_at dt_Ref_ofTwo 87 rfl) (by decide) ?_
            refine lc_lt (tgt := 216) hx hb (dt_at dt_Ref_ofTwo 88 rfl) (dt_at dt_Ref_ofTwo 89 rfl) (by decide) (fun c18 => ?_) (fun c18 => ?_)
            · have h := if_p h c18
              exact k_Ref_ofTwo_216 hC hA hK   r16.1 r16.2.1 r16.2.2.1 r16.2.2.2.1 r16.2.2.2.2 H locs ls hP hD hS (lv_sub hl [] rfl) h
            · have h := if_n h c18
              refine lv_iconst (v := 1) hx hb (dt_at dt_Ref_ofTwo 90 rfl) (by decide) ?_
              refine lv_goto (tgt := 217) hx hb (dt_at dt_Ref_ofTwo 91 rfl) (by decide) ?_
              exact k_Ref_ofTwo_217 hC hA hK   (1 : Int32) r16.1 r16.2.1 r16.2.2.1 r16.2.2.2.1 r16.2.2.2.2 H locs ls hP hD hS (lv_sub hl [] rfl) h
        · have h := if_n h c15
          by_cases c19 : v1 = (4 : Int32)
          · have h := if_p h c19
            refine lv_tableIn (off := 217) (tgt := 218) hx hb (dt_at dt_Ref_ofTwo 1 rfl) (by rw [c19]; decide) (by rw [c19]; decide) (by rw [c19]; rfl) (by decide) ?_
            refine lv_aload_n hx hb (dt_at dt_Ref_ofTwo 94 rfl) rfl (lv_at hl 0 rfl) ?_
            refine lv_lload_n hx hb (dt_at dt_Ref_ofTwo 95 rfl) rfl (lv_at hl 2 rfl) ?_
            refine lv_lload hx hb (dt_at dt_Ref_ofTwo 96 rfl) (lv_at hl 4 rfl) ?_
            obtain ⟨r20, h_r20, h⟩ := ob_of h
            refine vp_callSl (W.runS (As := [.long v2, .long v6]) (rest := [.ref (a 0)]) ⟨hx, hb, hml, hown, hts⟩ (c_Ref_less l v2 v6 r20 h_r20) (va_cwS 2 hts (gd_S (m_4 111 rfl rfl) (m_4 112 rfl rfl) (m_1 4 rfl rfl) (m_4 113 rfl rfl)) rfl rfl rfl (by decide +kernel) ⟨Nat.le_of_ble_eq_true rfl, Nat.le_of_ble_eq_true rfl⟩) ⟨fun _ _ _ _ q => q, fun U hU hW => ⟨rfl, trivial⟩⟩ rfl rfl hl.1 rfl (lv_room (Nat.le_of_ble_eq_true rfl)) (dt_at dt_Ref_ofTwo 97 rfl) ⟨Nat.le_of_ble_eq_true rfl, Nat.le_of_ble_eq_true rfl⟩) (fun u_r20 q_r20 => ?_)
            obtain rfl : r20 = u_r20 := q_r20.symm
            refine lv_lload hx hb (dt_at dt_Ref_ofTwo 98 rfl) (lv_at hl 3 rfl) ?_
            refine lv_lload hx hb (dt_at dt_Ref_ofTwo 99 rfl) (lv_at hl 5 rfl) ?_
            obtain ⟨r21, h_r21, h⟩ := ob_of h
            refine vp_callSl (W.runS (As := [.long v4, .long v8]) (rest := [.long r20, .ref (a 0)]) ⟨hx, hb, hml, hown, hts⟩ (c_Ref_less l v4 v8 r21 h_r21) (va_cwS 2 hts (gd_S (m_4 111 rfl rfl) (m_4 112 rfl rfl) (m_1 4 rfl rfl) (m_4 113 rfl rfl)) rfl rfl rfl (by decide +kernel) ⟨Nat.le_of_ble_eq_true rfl, Nat.le_of_ble_eq_true rfl⟩) ⟨fun _ _ _ _ q => q, fun U hU hW => ⟨rfl, trivial⟩⟩ rfl rfl hl.1 rfl (lv_room (Nat.le_of_ble_eq_true rfl)) (dt_at dt_Ref_ofTwo 100 rfl) ⟨Nat.le_of_ble_eq_true rfl, Nat.le_of_ble_eq_true rfl⟩) (fun u_r21 q_r21 => ?_)
            obtain rfl : r21 = u_r21 := q_r21.symm
            obtain ⟨r22, h_r22, h⟩ := ob_of h
            have hF := va_free (wc := dR a) (dD (ws' := dR a) hD rfl) hS hA [0, 1, 2, 3, 4, 5, 6] rfl
            have hd : va_D (fun _ => True) (dR a) := (dD (ws' := dR a) hD rfl).weaken (fun _ _ _ _ => trivial)
            refine va_callv (va_runV (As := [.long r20, .long r21]) (rest := []) ⟨hx, hb, hml, hown, hts⟩ (c_Ref_result l D a q hd H.size r20 r21 g0 g1 g2 g3 g4 g5 g6 g7 g8 g9 g10 g11 g12 g13 g14 g15 g16 g17 g18 g19 r22 h_r22) (cwV 2 hts (gd_V (m_4 104 rfl rfl) (m_4 106 rfl rfl) (m_s 26 rfl rfl) (m_1 4 rfl rfl) (m_4 107 rfl rfl)) rfl rfl rfl (by decide +kernel) ⟨Nat.le_of_ble_eq_true rfl, Nat.le_of_ble_eq_true rfl⟩) ⟨fun a U g mk q => ⟨q.1, q.2.1, q.2.2.1, va_K.moved (u := U) (U := U.calling g mk a) (Vm.Alike.refl U.vm) q.2.2.2⟩, va_recv hK hP (ci := 0) (q0 := 0) rfl rfl, fun U hU hW => ⟨rfl, by rw [hU], by rw [hU]; exact hP, va_K.moved hW.alike hK⟩⟩ rfl rfl hl.1 rfl (lv_room (Nat.le_of_ble_eq_true rfl)) (dt_at dt_Ref_ofTwo 101 rfl) ⟨Nat.le_of_ble_eq_true rfl, Nat.le_of_ble_eq_true rfl⟩) hS (fun x _ h9 => hF x h9) hF (fun uu t H locs ht hvm hw hB hz1 hk1 hS => ?_)
            rw [ht] at hB
            have hP : va_P D CLS (wR a q g0 g1 g2 g3 g4 g5 g6 g7 g8 g9 r22.1 r22.2 g12 g13 g14 g15 g16 g17 g18 g19) H := hB
            have hD : va_D A (wR a q g0 g1 g2 g3 g4 g5 g6 g7 g8 g9 r22.1 r22.2 g12 g13 g14 g15 g16 g17 g18 g19) := dD hD rfl
            refine lv_iconst (v := 3) hx hb (dt_at dt_Ref_ofTwo 102 rfl) (by decide) ?_
            obtain rfl := os_of h
            exact W.iret (v := (3 : Int32)) hx hb hr (fun t ht hW => ⟨⟨_, (), rfl, rfl, (hPt hP ht)⟩, hS.F ht⟩) hS.2.2 (dt_at dt_Ref_ofTwo 103 rfl)
          · have h := if_n h c19
            have ho : (v1 : Int32).toInt < 0 ∨ 4 < (v1 : Int32).toInt := by
              have n_c1 := ne_i c1 (show (0 : Int32).toInt = 0 by decide)
              have n_c7 := ne_i c7 (show (1 : Int32).toInt = 1 by decide)
              have n_c13 := ne_i c13 (show (2 : Int32).toInt = 2 by decide)
              have n_c15 := ne_i c15 (show (3 : Int32).toInt = 3 by decide)
              have n_c19 := ne_i c19 (show (4 : Int32).toInt = 4 by decide)
              omega
            refine lv_tableOut (tgt := 237) hx hb (dt_at dt_Ref_ofTwo 1 rfl) ho (by decide) ?_
            refine lv_aload_n hx hb (dt_at dt_Ref_ofTwo 104 rfl) rfl (lv_at hl 0 rfl) ?_
            refine lv_lload_n hx hb (dt_at dt_Ref_ofTwo 105 rfl) rfl (lv_at hl 2 rfl) ?_
            refine lv_lload hx hb (dt_at dt_Ref_ofTwo 106 rfl) (lv_at hl 4 rfl) ?_
            obtain ⟨r23, h_r23, h⟩ := ob_of h
            refine vp_callSl (W.runS (As := [.long v2, .long v6]) (rest := [.ref (a 0)]) ⟨hx, hb, hml, hown, hts⟩ (c_Ref_greater l v2 v6 r23 h_r23) (va_cwS 2 hts (gd_S (m_4 117 rfl rfl) (m_4 118 rfl rfl) (m_1 4 rfl rfl) (m_4 119 rfl rfl)) rfl rfl rfl (by decide +kernel) ⟨Nat.le_of_ble_eq_true rfl, Nat.le_of_ble_eq_true rfl⟩) ⟨fun _ _ _ _ q => q, fun U hU hW => ⟨rfl, trivial⟩⟩ rfl rfl hl.1 rfl (lv_room (Nat.le_of_ble_eq_true rfl)) (dt_at dt_Ref_ofTwo 107 rfl) ⟨Nat.le_of_ble_eq_true rfl, Nat.le_of_ble_eq_true rfl⟩) (fun u_r23 q_r23 => ?_)
            obtain rfl : r23 = u_r23 := q_r23.symm
            refine lv_lload hx hb (dt_at dt_Ref_ofTwo 108 rfl) (lv_at hl 3 rfl) ?_
            refine lv_lload hx hb (dt_at dt_Ref_ofTwo 109 rfl) (lv_at hl 5 rfl) ?_
            obtain ⟨r24, h_r24, h⟩ := ob_of h
            refine vp_callSl (W.runS (As := [.long v4, .long v8]) (rest := [.long r23, .ref (a 0)]) ⟨hx, hb, hml, hown, hts⟩ (c_Ref_greater l v4 v8 r24 h_r24) (va_cwS 2 hts (gd_S (m_4 117 rfl rfl) (m_4 118 rfl rfl) (m_1 4 rfl rfl) (m_4 119 rfl rfl)) rfl rfl rfl (by decide +kernel) ⟨Nat.le_of_ble_eq_true rfl, Nat.le_of_ble_eq_true rfl⟩) ⟨fun _ _ _ _ q => q, fun U hU hW => ⟨rfl, trivial⟩⟩ rfl rfl hl.1 rfl (lv_room (Nat.le_of_ble_eq_true rfl)) (dt_at dt_Ref_ofTwo 110 rfl) ⟨Nat.le_of_ble_eq_true rfl, Nat.le_of_ble_eq_true rfl⟩) (fun u_r24 q_r24 => ?_)
            obtain rfl : r24 = u_r24 := q_r24.symm
            obtain ⟨r25, h_r25, h⟩ := ob_of h
            have hF := va_free (wc := dR a) (dD (ws' := dR a) hD rfl) hS hA [0, 1, 2, 3, 4, 5, 6] rfl
            have hd : va_D (fun _ => True) (dR a) := (dD (ws' := dR a) hD rfl).weaken (fun _ _ _ _ => trivial)
            refine va_callv (va_runV (As := [.long r23, .long r24]) (rest := []) ⟨hx, hb, hml, hown, hts⟩ (c_Ref_result l D a q hd H.size r23 r24 g0 g1 g2 g3 g4 g5 g6 g7 g8 g9 g10 g11 g12 g13 g14 g15 g16 g17 g18 g19 r25 h_r25) (cwV 2 hts (gd_V (m_4 104 rfl rfl) (m_4 106 rfl rfl) (m_s 26 rfl rfl) (m_1 4 rfl rfl) (m_4 107 rfl rfl)) rfl rfl rfl (by decide +kernel) ⟨Nat.le_of_ble_eq_true rfl, Nat.le_of_ble_eq_true rfl⟩) ⟨fun a U g mk q => ⟨q.1, q.2.1, q.2.2.1, va_K.moved (u := U) (U := U.calling g mk a) (Vm.Alike.refl U.vm) q.2.2.2⟩, va_recv hK hP (ci := 0) (q0 := 0) rfl rfl, fun U hU hW => ⟨rfl, by rw [hU], by rw [hU]; exact hP, va_K.moved hW.alike hK⟩⟩ rfl rfl hl.1 rfl (lv_room (Nat.le_of_ble_eq_true rfl)) (dt_at dt_Ref_ofTwo 111 rfl) ⟨Nat.le_of_ble_eq_true rfl, Nat.le_of_ble_eq_true rfl⟩) hS (fun x _ h9 => hF x h9) hF (fun uu t H locs ht hvm hw hB hz1 hk1 hS => ?_)
            rw [ht] at hB
            have hP : va_P D CLS (wR a q g0 g1 g2 g3 g4 g5 g6 g7 g8 g9 r25.1 r25.2 g12 g13 g14 g15 g16 g17 g18 g19) H := hB
            have hD : va_D A (wR a q g0 g1 g2 g3 g4 g5 g6 g7 g8 g9 r25.1 r25.2 g12 g13 g14 g15 g16 g17 g18 g19) := dD hD rfl
            refine lv_iconst (v := 3) hx hb (dt_at dt_Ref_ofTwo 112 rfl) (by decide) ?_
            obtain rfl := os_of h
            exact W.iret (v := (3 : Int32)) hx hb hr (fun t ht hW => ⟨⟨_, (), rfl, rfl, (hPt hP ht)⟩, hS.F ht⟩) hS.2.2 (dt_at dt_Ref_ofTwo 113 rfl)
set_option maxRecDepth 100000 in
set_option maxHeartbeats 4000000 in
theorem c_Ref_ofTwo (l : Launch) (D : va_G) (a : Nat → Nat) (q : Nat → ClassId) (hd : va_D (fun _ => True) (dR a)) (sz : Nat) (a1 : Int32) (a2 : Int64) (a4 : Int64) (a6 : Int64) (a8 : Int64) (g0 : Int32) (g1 : Nat → Int32) (g2 : Nat → Int64) (g3 : Nat → Int64) (g4 : Nat → Int32) (g5 : Int32) (g6 : Nat → Int32) (g7 : Int32) (g8 : Nat → Int32) (g9 : Int32) (g10 : Int64) (g11 : Int64) (g12 : Int32) (g13 : Int32) (g14 : Int32) (g15 : Int64) (g16 : Int32) (g17 : Int32) (g18 : Int64) (g19 : Int32) (r0 : Int32 × (Nat → Int32) × Int32 × Int64 × Int64 × Int32) (h : f_Ref_ofTwo a1 a2 a4 a6 a8 g8 g9 g10 g11 g12 = some r0) : Met l (⟨"OutwardTapeModel", "ofTwo", "(IJJJJ)I"⟩ : MethodName) (WSm (⟨"OutwardTapeModel", "ofTwo", "(IJJJJ)I"⟩ : MethodName) prog_12_method_36_code 10 (some .int)) rm_Ref_ofTwo (va_Pc [.ref (a 0), .int a1, .long a2, .long a4, .long a6, .long a8] (fun U => U.heap.size = sz ∧ va_P D CLS (wR a q g0 g1 g2 g3 g4 g5 g6 g7 g8 g9 g10 g11 g12 g13 g14 g15 g16 g17 g18 g19) U.heap ∧ va_K D CLS (tR q) U)) (va_Qi (fun (r : Int32) (_ : Unit) => r = r0.1) (fun _ t => va_P D CLS (wR a q g0 g1 g2 g3 g4 g5 g6 g7 r0.2.1 r0.2.2.1 r0.2.2.2.1 r0.2.2.2.2.1 r0.2.2.2.2.2 g13 g14 g15 g16 g17 g18 g19) t.heap) (va_A (dR a) sz)) 0 0 (va_A (dR a) sz) := by
  refine Met.ofW (cc := prog_12_method_36_code) (maxL := 10) (ret := (some .int)) (by decide) rfl ?_
  intro p e s m args below meth c s₁ B hml hv
  obtain ⟨rfl, hsz, hP, hK⟩ := hv
  subst hsz
  have hC := CX.of B hml rfl
  have hl := lv_entry [.ref (a 0), .int a1, .long a2, .long a4, .long a6, .long a8] (n := 10) (Nat.le_of_ble_eq_true rfl)
  rw [lg_entry_eq]
  generalize (lg_sl [.ref (a 0), .int a1, .long a2, .long a4, .long a6, .long a8] ++ List.replicate (10 - (lg_sl [.ref (a 0), .int a1, .long a2, .long a4, .long a6, .long a8]).length) Slot.unset).toArray = ls at hl ⊢
  have hl : lv_has ls 10 [(0, .ref (a 0)), (1, .int a1), (2, .long a2), (4, .long a4), (6, .long a6), (8, .long a8)] := hl
  exact k_Ref_ofTwo_0 hC (fun x h => Or.inr h) hK a1 a2 a4 a6 a8 g8 g9 g10 g11 g12 s.heap [] ls hP (dD hd.self rfl) va_S.rf (lv_sub hl [0, 1, 2, 3, 4, 5] rfl) h
abbrev rm_Ref_cell : Room := { frames := 0, cells := 0, slots := 0, locals := 0 }
set_option maxRecDepth 100000 in
set_option maxHeartbeats 4000000 in
theorem k_Ref_cell_0 {p : Program} {l : Launch} {e : Env} {s : State} {m : MethodId} {args : Array Value} {below : List Frame} {meth : Method} {c : Code} {D : va_G} {a : Nat → Nat} {q : Nat → ClassId} {A : Nat → Prop} (hC : CX p s m args meth c prog_12_method_38_code 7 "OutwardTapeModel" (some .int)) (hA : ∀ x, s.heap.size ≤ x → A x) (hK : va_K D CLS (tR q) s) {g5 : Int32} {g6 : Nat → Int32} {g7 : Int32} {g8 : Nat → Int32} {g9 : Int32} {g10 : Int64} {g11 : Int64} {g12 : Int32} {g13 : Int32} {g14 : Int32} {g15 : Int64} {g16 : Int32} {g17 : Int32} {g18 : Int64} {g19 : Int32} {r0 : Int32 × Int32 × (Nat → Int32) × (Nat → Int64) × (Nat → Int64) × (Nat → Int32)} : ∀ (v1 : Int32) (v2 : Int64) (v4 : Int64) (v6 : Int32) (g0 : Int32) (g1 : Nat → Int32) (g2 : Nat → Int64) (g3 : Nat → Int64) (g4 : Nat → Int32) (H : Heap) (locs : List Loc) (ls : Array Slot), va_P D CLS (wR a q g0 g1 g2 g3 g4 g5 g6 g7 g8 g9 g10 g11 g12 g13 g14 g15 g16 g17 g18 g19) H → va_D A (wR a q g0 g1 g2 g3 g4 g5 g6 g7 g8 g9 g10 g11 g12 g13 g14 g15 g16 g17 g18 g19) → va_S A s.heap H locs → lv_has ls 7 [(0, .ref (a 0)), (1, .int v1), (2, .long v2), (4, .long v4), (6, .int v6)] → f_Ref_cell_0  v1 v2 v4 v6 g0 g1 g2 g3 g4 = some r0 → W p l e rm_Ref_cell s m args below meth c H locs 0 0 (MQ below (va_Qi (fun (r : Int32) (_ : Unit) => r = r0.1) (fun _ t => va_P D CLS (wR a q r0.2.1 r0.2.2.1 r0.2.2.2.1 r0.2.2.2.2.1 r0.2.2.2.2.2 g5 g6 g7 g8 g9 g10 g11 g12 g13 g14 g15 g16 g17 g18 g19) t.heap) A) args s 0 0 A) (F0 m 0 ls []) := by
  obtain ⟨hx, hb, hml, hown, hts, hr, hlocks⟩ := id hC
  intro v1 v2 v4 v6 g0 g1 g2 g3 g4 H locs ls hP hD hS hl h
  rw [f_Ref_cell_0] at h
  refine lv_aload_n hx hb (dt_at dt_Ref_cell 0 rfl) rfl (lv_at hl 0 rfl) ?_
  refine va_get (D := D) (ci := 0) (v := .ref (a 1)) (C := "OutwardTapeModel") (T := T_Ref) (N := 20) hx hb hts in_Ref hown hK hP 0 rfl rfl 1 (by decide) (hts (Cond.fieldLink "OutwardTapeModel" 7 "OutwardTapeModel" "kind" "[I") (m_4 0 rfl rfl)) (fun _ h9 => h9) rfl (dt_at dt_Ref_cell 1 rfl) ?_
  refine lv_aload_n hx hb (dt_at dt_Ref_cell 2 rfl) rfl (lv_at hl 0 rfl) ?_
  refine va_get (D := D) (ci := 0) (v := .int g0) (C := "OutwardTapeModel") (T := T_Ref) (N := 20) hx hb hts in_Ref hown hK hP 0 rfl rfl 0 (by decide) (hts (Cond.fieldLink "OutwardTapeModel" 173 "OutwardTapeModel" "count" "I") (m_3 239 rfl rfl)) (fun _ h9 => h9) rfl (dt_at dt_Ref_cell 3 rfl) ?_
  refine lv_iload_n hx hb (dt_at dt_Ref_cell 4 rfl) rfl (lv_at hl 1 rfl) ?_
  obtain ⟨z1, h⟩ := og_of h
  obtain ⟨t2, e_t2, h⟩ := ol_of h
  refine va_iast hx hb hK hP hD hS 1 0 rfl rfl z1 (dt_at dt_Ref_cell 5 rfl) (fun H locs hP hD hS => ?_)
  have hP : va_P D CLS (wR a q g0 t2 g2 g3 g4 g5 g6 g7 g8 g9 g10 g11 g12 g13 g14 g15 g16 g17 g18 g19) H := by rw [e_t2]; exact hP
  have hD : va_D A (wR a q g0 t2 g2 g3 g4 g5 g6 g7 g8 g9 g10 g11 g12 g13 g14 g15 g16 g17 g18 g19) := dD hD rfl
  refine lv_aload_n hx hb (dt_at dt_Ref_cell 6 rfl) rfl (lv_at hl 0 rfl) ?_
  refine va_get (D := D) (ci := 0) (v := .ref (a 2)) (C := "OutwardTapeModel") (T := T_Ref) (N := 20) hx hb hts in_Ref hown hK hP 0 rfl rfl 2 (by decide) (hts (Cond.fieldLink "OutwardTapeModel" 13 "OutwardTapeModel" "low" "[J") (m_4 1 rfl rfl)) (fun _ h9 => h9) rfl (dt_at dt_Ref_cell 7 rfl) ?_
  refine lv_aload_n hx hb (dt_at dt_Ref_cell 8 rfl) rfl (lv_at hl 0 rfl) ?_
  refine va_get (D := D) (ci := 0) (v := .int g0) (C := "OutwardTapeModel") (T := T_Ref) (N := 20) hx hb hts in_Ref hown hK hP 0 rfl rfl 0 (by decide) (hts (Cond.fieldLink "OutwardTapeModel" 173 "OutwardTapeModel" "count" "I") (m_3 239 rfl rfl)) (fun _ h9 => h9) rfl (dt_at dt_Ref_cell 9 rfl) ?_
  refine lv_lload_n hx hb (dt_at dt_Ref_cell 10 rfl) rfl (lv_at hl 2 rfl) ?_
  obtain ⟨z3, h⟩ := og_of h
  obtain ⟨t4, e_t4, h⟩ := ol_of h
  refine va_last hx hb hK hP hD hS 2 1 rfl rfl z3 (dt_at dt_Ref_cell 11 rfl) (fun H locs hP hD hS => ?_)
  have hP : va_P D CLS (wR a q g0 t2 t4 g3 g4 g5 g6 g7 g8 g9 g10 g11 g12 g13 g14 g15 g16 g17 g18 g19) H := by rw [e_t4]; exact hP
  have hD : va_D A (wR a q g0 t2 t4 g3 g4 g5 g6 g7 g8 g9 g10 g11 g12 g13 g14 g15 g16 g17 g18 g19) := dD hD rfl
  refine lv_aload_n hx hb (dt_at dt_Ref_cell 12 rfl) rfl (lv_at hl 0 rfl) ?_
  refine va_get (D := D) (ci := 0) (v := .ref (a 3)) (C := "OutwardTapeModel") (T := T_Ref) (N := 20) hx hb hts in_Ref hown hK hP 0 rfl rfl 3 (by decide) (hts (Cond.fieldLink "OutwardTapeModel" 17 "OutwardTapeModel" "high" "[J") (m_4 2 rfl rfl)) (fun _ h9 => h9) rfl (dt_at dt_Ref_cell 13 rfl) ?_
  refine lv_aload_n hx hb (dt_at dt_Ref_cell 14 rfl) rfl (lv_at hl 0 rfl) ?_
  refine va_get (D := D) (ci := 0) (v := .int g0) (C := "OutwardTapeModel") (T := T_Ref) (N := 20) hx hb hts in_Ref hown hK hP 0 rfl rfl 0 (by decide) (hts (Cond.fieldLink "OutwardTapeModel" 173 "OutwardTapeModel" "count" "I") (m_3 239 rfl rfl)) (fun _ h9 => h9) rfl (dt_at dt_Ref_cell 15 rfl) ?_
  refine lv_lload hx hb (dt_at dt_Ref_cell 16 rfl) (lv_at hl 3 rfl) ?_
  obtain ⟨z5, h⟩ := og_of h
  obtain ⟨t6, e_t6, h⟩ := ol_of h
  refine va_last hx hb hK hP hD hS 3 2 rfl rfl z5 (dt_at dt_Ref_cell 17 rfl) (fun H locs hP hD hS => ?_)
  have hP : va_P D CLS (wR a q g0 t2 t4 t6 g4 g5 g6 g7 g8 g9 g10 g11 g12 g13 g14 g15 g16 g17 g18 g19) H := by rw [e_t6]; exact hP
  have hD : va_D A (wR a q g0 t2 t4 t6 g4 g5 g6 g7 g8 g9 g10 g11 g12 g13 g14 g15 g16 g17 g18 g19) := dD hD rfl
  refine lv_aload_n hx hb (dt_at dt_Ref_cell 18 rfl) rfl (lv_at hl 0 rfl) ?_
  refine va_get (D := D) (ci := 0) (v := .ref (a 4)) (C := "OutwardTapeModel") (T := T_Ref) (N := 20) hx hb hts in_Ref hown hK hP 0 rfl rfl 4 (by decide) (hts (Cond.fieldLink "OutwardTapeModel" 20 "OutwardTapeModel" "mark" "[I") (m_4 3 rfl rfl)) (fun _ h9 => h9) rfl (dt_at dt_Ref_cell 19 rfl) ?_
  refine lv_aload_n hx hb (dt_at dt_Ref_cell 20 rfl) rfl (lv_at hl 0 rfl) ?_
  refine va_get (D := D) (ci := 0) (v := .int g0) (C := "OutwardTapeModel") (T := T_Ref) (N := 20) hx hb hts in_Ref hown hK hP 0 rfl rfl 0 (by decide) (hts (Cond.fieldLink "OutwardTapeModel" 173 "OutwardTapeModel" "count" "I") (m_3 239 rfl rfl)) (fun _ h9 => h9) rfl (dt_at dt_Ref_cell 21 rfl) ?_
  refine lv_iload hx hb (dt_at dt_Ref_cell 22 rfl) (lv_at hl 4 rfl) ?_
  obtain ⟨z7, h⟩ := og_of h
  obtain ⟨t8, e_t8, h⟩ := ol_of h
  refine va_iast hx hb hK hP hD hS 4 3 rfl rfl z7 (dt_at dt_Ref_cell 23 rfl) (fun H locs hP hD hS => ?_)
  have hP : va_P D CLS (wR a q g0 t2 t4 t6 t8 g5 g6 g7 g8 g9 g10 g11 g12 g13 g14 g15 g16 g17 g18 g19) H := by rw [e_t8]; exact hP
  have hD : va_D A (wR a q g0 t2 t4 t6 t8 g5 g6 g7 g8 g9 g10 g11 g12 g13 g14 g15 g16 g17 g18 g19) := dD hD rfl
  refine lv_aload_n hx hb (dt_at dt_Ref_cell 24 rfl) rfl (lv_at hl 0 rfl) ?_
  refine lv_dup hx hb (dt_at dt_Ref_cell 25 rfl) rfl ?_
  refine va_get (D := D) (ci := 0) (v := .int g0) (C := "OutwardTapeModel") (T := T_Ref) (N := 20) hx hb hts in_Ref hown hK hP 0 rfl rfl 0 (by decide) (hts (Cond.fieldLink "OutwardTapeModel" 173 "OutwardTapeModel" "count" "I") (m_3 239 rfl rfl)) (fun _ h9 => h9) rfl (dt_at dt_Ref_cell 26 rfl) ?_
  refine lv_iconst (v := 1) hx hb (dt_at dt_Ref_cell 27 rfl) (by decide) ?_
  refine lv_iadd hx hb (dt_at dt_Ref_cell 28 rfl) ?_
  obtain ⟨t9, e_t9, h⟩ := ol_of h
  refine lv_topi (fun u_t9 q_t9 => ?_)
  obtain rfl : t9 = u_t9 := e_t9.trans q_t9.symm
  refine va_put (D := D) (ci := 0) (v := .int t9) (ty := .int) (C := "OutwardTapeModel") (T := T_Ref) (N := 20) hx hb hts in_Ref ty_Ref tk_Ref nm_Ref hown hK hP hD hS 0 rfl rfl 0 (by decide) (hts (Cond.fieldLink "OutwardTapeModel" 173 "OutwardTapeModel" "count" "I") (m_3 239 rfl rfl)) (fun _ h9 => h9) rfl (by decide +kernel) rfl rfl (Nat.le_of_ble_eq_true rfl) (dt_at dt_Ref_cell 29 rfl) (fun H locs hP hD hS => ?_)
  have hP : va_P D CLS (wR a q t9 t2 t4 t6 t8 g5 g6 g7 g8 g9 g10 g11 g12 g13 g14 g15 g16 g17 g18 g19) H := hP
  have hD : va_D A (wR a q t9 t2 t4 t6 t8 g5 g6 g7 g8 g9 g10 g11 g12 g13 g14 g15 g16 g17 g18 g19) := hD
  refine lv_aload_n hx hb (dt_at dt_Ref_cell 30 rfl) rfl (lv_at hl 0 rfl) ?_
  refine va_get (D := D) (ci := 0) (v := .int t9) (C := "OutwardTapeModel") (T := T_Ref) (N := 20) hx hb hts in_Ref hown hK hP 0 rfl rfl 0 (by decide) (hts (Cond.fieldLink "OutwardTapeModel" 173 "OutwardTapeModel" "count" "I") (m_3 239 rfl rfl)) (fun _ h9 => h9) rfl (dt_at dt_Ref_cell 31 rfl) ?_
  refine lv_iconst (v := 1) hx hb (dt_at dt_Ref_cell 32 rfl) (by decide) ?_
  refine lv_isub hx hb (dt_at dt_Ref_cell 33 rfl) ?_
  obtain rfl := os_of h
  exact W.iret (v := (t9 - (1 : Int32))) hx hb hr (fun t ht hW => ⟨⟨_, (), rfl, rfl, (hPt hP ht)⟩, hS.F ht⟩) hS.2.2 (dt_at dt_Ref_cell 34 rfl)
set_option maxRecDepth 100000 in
set_option maxHeartbeats 4000000 in
theorem c_Ref_cell (l : Launch) (D : va_G) (a : Nat → Nat) (q : Nat → ClassId) (hd : va_D (fun _ => True) (dR a)) (sz : Nat) (a1 : Int32) (a2 : Int64) (a4 : Int64) (a6 : Int32) (g0 : Int32) (g1 : Nat → Int32) (g2 : Nat → Int64) (g3 : Nat → Int64) (g4 : Nat → Int32) (g5 : Int32) (g6 : Nat → Int32) (g7 : Int32) (g8 : Nat → Int32) (g9 : Int32) (g10 : Int64) (g11 : Int64) (g12 : Int32) (g13 : Int32) (g14 : Int32) (g15 : Int64) (g16 : Int32) (g17 : Int32) (g18 : Int64) (g19 : Int32) (r0 : Int32 × Int32 × (Nat → Int32) × (Nat → Int64) × (Nat → Int64) × (Nat → Int32)) (h : f_Ref_cell a1 a2 a4 a6 g0 g1 g2 g3 g4 = some r0) : Met l (⟨"OutwardTapeModel", "cell", "(IJJI)I"⟩ : MethodName) (WSm (⟨"OutwardTapeModel", "cell", "(IJJI)I"⟩ : MethodName) prog_12_method_38_code 7 (some .int)) rm_Ref_cell (va_Pc [.ref (a 0), .int a1, .long a2, .long a4, .int a6] (fun U => U.heap.size = sz ∧ va_P D CLS (wR a q g0 g1 g2 g3 g4 g5 g6 g7 g8 g9 g10 g11 g12 g13 g14 g15 g16 g17 g18 g19) U.heap ∧ va_K D CLS (tR q) U)) (va_Qi (fun (r : Int32) (_ : Unit) => r = r0.1) (fun _ t => va_P D CLS (wR a q r0.2.1 r0.2.2.1 r0.2.2.2.1 r0.2.2.2.2.1 r0.2.2.2.2.2 g5 g6 g7 g8 g9 g10 g11 g12 g13 g14 g15 g16 g17 g18 g19) t.heap) (va_A (dR a) sz)) 0 0 (va_A (dR a) sz) := by
  refine Met.ofW (cc := prog_12_method_38_code) (maxL := 7) (ret := (some .int)) (by decide) rfl ?_
  intro p e s m args below meth c s₁ B hml hv
  obtain ⟨rfl, hsz, hP, hK⟩ := hv
  subst hsz
  have hC := CX.of B hml rfl
  have hl := lv_entry [.ref (a 0), .int a1, .long a2, .long a4, .int a6] (n := 7) (Nat.le_of_ble_eq_true rfl)
  rw [lg_entry_eq]
  generalize (lg_sl [.ref (a 0), .int a1, .long a2, .long a4, .int a6] ++ List.replicate (7 - (lg_sl [.ref (a 0), .int a1, .long a2, .long a4, .int a6]).length) Slot.unset).toArray = ls at hl ⊢
  have hl : lv_has ls 7 [(0, .ref (a 0)), (1, .int a1), (2, .long a2), (4, .long a4), (6, .int a6)] := hl
  exact k_Ref_cell_0 hC (fun x h => Or.inr h) hK a1 a2 a4 a6 g0 g1 g2 g3 g4 s.heap [] ls hP (dD hd.self rfl) va_S.rf (lv_sub hl [0, 1, 2, 3, 4] rfl) h
abbrev rm_Ref_there : Room := { frames := 0, cells := 0, slots := 0, locals := 0 }
set_option maxRecDepth 100000 in
set_option maxHeartbeats 4000000 in
theorem k_Ref_there_17 {p : Program} {l : Launch} {e : Env} {s : State} {m : MethodId} {args : Array Value} {below : List Frame} {meth : Method} {c : Code} {D : va_G} {a : Nat → Nat} {q : Nat → ClassId} {A : Nat → Prop} (hC : CX p s m args meth c prog_12_method_39_code 2 "OutwardTapeModel" (some .boolean)) (hA : ∀ x, s.heap.size ≤ x → A x) (hK : va_K D CLS (tR q) s) {g0 : Int32} {g1 : Nat → Int32} {g2 : Nat → Int64} {g3 : Nat → Int64} {g4 : Nat → Int32} {g5 : Int32} {g6 : Nat → Int32} {g7 : Int32} {g8 : Nat → Int32} {g9 : Int32} {g10 : Int64} {g11 : Int64} {g12 : Int32} {g13 : Int32} {g14 : Int32} {g15 : Int64} {g16 : Int32} {g17 : Int32} {g18 : Int64} {g19 : Int32} {r0 : Int32} : ∀ (s0 : Int32)  (H : Heap) (locs : List Loc) (ls : Array Slot), va_P D CLS (wR a q g0 g1 g2 g3 g4 g5 g6 g7 g8 g9 g10 g11 g12 g13 g14 g15 g16 g17 g18 g19) H → va_D A (wR a q g0 g1 g2 g3 g4 g5 g6 g7 g8 g9 g10 g11 g12 g13 g14 g15 g16 g17 g18 g19) → va_S A s.heap H locs → lv_has ls 2 [] → f_Ref_there_17  s0 g0 = some r0 → W p l e rm_Ref_there s m args below meth c H locs 0 0 (MQ below (va_Qi (fun (r : Int32) (_ : Unit) => r = r0) (fun _ t => va_P D CLS (wR a q g0 g1 g2 g3 g4 g5 g6 g7 g8 g9 g10 g11 g12 g13 g14 g15 g16 g17 g18 g19) t.heap) A) args s 0 0 A) (F0 m 17 ls [.int s0]) := by
  obtain ⟨hx, hb, hml, hown, hts, hr, hlocks⟩ := id hC
  intro s0 H locs ls hP hD hS hl h
  rw [f_Ref_there_17] at h
  obtain ⟨hz, h⟩ := og_of h
  obtain rfl := os_of h
  exact W.zret (v := s0) (ty := .boolean) hx hb hr (j_z_nar hz) (fun t ht hW => ⟨⟨_, (), rfl, rfl, (hPt hP ht)⟩, hS.F ht⟩) hS.2.2 (dt_at dt_Ref_there 9 rfl)
set_option maxRecDepth 100000 in
set_option maxHeartbeats 4000000 in
theorem k_Ref_there_16 {p : Program} {l : Launch} {e : Env} {s : State} {m : MethodId} {args : Array Value} {below : List Frame} {meth : Method} {c : Code} {D : va_G} {a : Nat → Nat} {q : Nat → ClassId} {A : Nat → Prop} (hC : CX p s m args meth c prog_12_method_39_code 2 "OutwardTapeModel" (some .boolean)) (hA : ∀ x, s.heap.size ≤ x → A x) (hK : va_K D CLS (tR q) s) {g0 : Int32} {g1 : Nat → Int32} {g2 : Nat → Int64} {g3 : Nat → Int64} {g4 : Nat → Int32} {g5 : Int32} {g6 : Nat → Int32} {g7 : Int32} {g8 : Nat → Int32} {g9 : Int32} {g10 : Int64} {g11 : Int64} {g12 : Int32} {g13 : Int32} {g14 : Int32} {g15 : Int64} {g16 : Int32} {g17 : Int32} {g18 : Int64} {g19 : Int32} {r0 : Int32} : ∀   (H : Heap) (locs : List Loc) (ls : Array Slot), va_P D CLS (wR a q g0 g1 g2 g3 g4 g5 g6 g7 g8 g9 g10 g11 g12 g13 g14 g15 g16 g17 g18 g19) H → va_D A (wR a q g0 g1 g2 g3 g4 g5 g6 g7 g8 g9 g10 g11 g12 g13 g14 g15 g16 g17 g18 g19) → va_S A s.heap H locs → lv_has ls 2 [] → f_Ref_there_16  g0 = some r0 → W p l e rm_Ref_there s m args below meth c H locs 0 0 (MQ below (va_Qi (fun (r : Int32) (_ : Unit) => r = r0) (fun _ t => va_P D CLS (wR a q g0 g1 g2 g3 g4 g5 g6 g7 g8 g9 g10 g11 g12 g13 g14 g15 g16 g17 g18 g19) t.heap) A) args s 0 0 A) (F0 m 16 ls []) := by
  obtain ⟨hx, hb, hml, hown, hts, hr, hlocks⟩ := id hC
  intro H locs ls hP hD hS hl h
  rw [f_Ref_there_16] at h
  refine lv_iconst (v := 0) hx hb (dt_at dt_Ref_there 8 rfl) (by decide) ?_
  exact k_Ref_there_17 hC hA hK   (0 : Int32) H locs ls hP hD hS (lv_sub hl [] rfl) h
set_option maxRecDepth 100000 in
set_option maxHeartbeats 4000000 in
theorem k_Ref_there_0 {p : Program} {l : Launch} {e : Env} {s : State} {m : MethodId} {args : Array Value} {below : List Frame} {meth : Method} {c : Code} {D : va_G} {a : Nat → Nat} {q : Nat → ClassId} {A : Nat → Prop} (hC : CX p s m args meth c prog_12_method_39_code 2 "OutwardTapeModel" (some .boolean)) (hA : ∀ x, s.heap.size ≤ x → A x) (hK : va_K D CLS (tR q) s) {g0 : Int32} {g1 : Nat → Int32} {g2 : Nat → Int64} {g3 : Nat → Int64} {g4 : Nat → Int32} {g5 : Int32} {g6 : Nat → Int32} {g7 : Int32} {g8 : Nat → Int32} {g9 : Int32} {g10 : Int64} {g11 : Int64} {g12 : Int32} {g13 : Int32} {g14 : Int32} {g15 : Int64} {g16 : Int32} {g17 : Int32} {g18 : Int64} {g19 : Int32} {r0 : Int32} : ∀ (v1 : Int32)  (H : Heap) (locs : List Loc) (ls : Array Slot), va_P D CLS (wR a q g0 g1 g2 g3 g4 g5 g6 g7 g8 g9 g10 g11 g12 g13 g14 g15 g16 g17 g18 g19) H → va_D A (wR a q g0 g1 g2 g3 g4 g5 g6 g7 g8 g9 g10 g11 g12 g13 g14 g15 g16 g17 g18 g19) → va_S A s.heap H locs → lv_has ls 2 [(0, .ref (a 0)), (1, .int v1)] → f_Ref_there_0  v1 g0 = some r0 → W p l e rm_Ref_there s m args below meth c H locs 0 0 (MQ below (va_Qi (fun (r : Int32) (_ : Unit) => r = r0) (fun _ t => va_P D CLS (wR a q g0 g1 g2 g3 g4 g5 g6 g7 g8 g9 g10 g11 g12 g13 g14 g15 g16 g17 g18 g19) t.heap) A) args s 0 0 A) (F0 m 0 ls []) := by
  obtain ⟨hx, hb, hml, hown, hts, hr, hlocks⟩ := id hC
  intro v1 H locs ls hP hD hS hl h
  rw [f_Ref_there_0] at h
  refine lv_iload_n hx hb (dt_at dt_Ref_there 0 rfl) rfl (lv_at hl 1 rfl) ?_
  refine lv_if_lt (tgt := 16) hx hb (dt_at dt_Ref_there 1 rfl) (by decide) (fun c1 => ?_) (fun c1 => ?_)
  · have h := if_p h c1
    exact k_Ref_there_16 hC hA hK   H locs ls hP hD hS (lv_sub hl [] rfl) h
  · have h := if_n h c1
    refine lv_iload_n hx hb (dt_at dt_Ref_there 2 rfl) rfl (lv_at hl 1 rfl) ?_
    refine lv_aload_n hx hb (dt_at dt_Ref_there 3 rfl) rfl (lv_at hl 0 rfl) ?_
    refine va_get (D := D) (ci := 0) (v := .int g0) (C := "OutwardTapeModel") (T := T_Ref) (N := 20) hx hb hts in_Ref hown hK hP 0 rfl rfl 0 (by decide) (hts (Cond.fieldLink "OutwardTapeModel" 173 "OutwardTapeModel" "count" "I") (m_3 239 rfl rfl)) (fun _ h9 => h9) rfl (dt_at dt_Ref_there 4 rfl) ?_
    refine lv_icmp_ge (tgt := 16) hx hb (dt_at dt_Ref_there 5 rfl) (by decide) (fun c2 => ?_) (fun c2 => ?_)
    · have h := if_p h c2
      exact k_Ref_there_16 hC hA hK   H locs ls hP hD hS (lv_sub hl [] rfl) h
    · have h := if_n h c2
      refine lv_iconst (v := 1) hx hb (dt_at dt_Ref_there 6 rfl) (by decide) ?_
      refine lv_goto (tgt := 17) hx hb (dt_at dt_Ref_there 7 rfl) (by decide) ?_
      exact k_Ref_there_17 hC hA hK   (1 : Int32) H locs ls hP hD hS (lv_sub hl [] rfl) h
set_option maxRecDepth 100000 in
set_option maxHeartbeats 4000000 in
theorem c_Ref_there (l : Launch) (D : va_G) (a : Nat → Nat) (q : Nat → ClassId) (hd : va_D (fun _ => True) (dR a)) (sz : Nat) (a1 : Int32) (g0 : Int32) (g1 : Nat → Int32) (g2 : Nat → Int64) (g3 : Nat → Int64) (g4 : Nat → Int32) (g5 : Int32) (g6 : Nat → Int32) (g7 : Int32) (g8 : Nat → Int32) (g9 : Int32) (g10 : Int64) (g11 : Int64) (g12 : Int32) (g13 : Int32) (g14 : Int32) (g15 : Int64) (g16 : Int32) (g17 : Int32) (g18 : Int64) (g19 : Int32) (r0 : Int32) (h : f_Ref_there a1 g0 = some r0) : Met l (⟨"OutwardTapeModel", "there", "(I)Z"⟩ : MethodName) (WSm (⟨"OutwardTapeModel", "there", "(I)Z"⟩ : MethodName) prog_12_method_39_code 2 (some .boolean)) rm_Ref_there (va_Pc [.ref (a 0), .int a1] (fun U => U.heap.size = sz ∧ va_P D CLS (wR a q g0 g1 g2 g3 g4 g5 g6 g7 g8 g9 g10 g11 g12 g13 g14 g15 g16 g17 g18 g19) U.heap ∧ va_K D CLS (tR q) U)) (va_Qi (fun (r : Int32) (_ : Unit) => r = r0) (fun _ t => va_P D CLS (wR a q g0 g1 g2 g3 g4 g5 g6 g7 g8 g9 g10 g11 g12 g13 g14 g15 g16 g17 g18 g19) t.heap) (va_A (dR a) sz)) 0 0 (va_A (dR a) sz) := by
  refine Met.ofW (cc := prog_12_method_39_code) (maxL := 2) (ret := (some .boolean)) (by decide) rfl ?_
  intro p e s m args below meth c s₁ B hml hv
  obtain ⟨rfl, hsz, hP, hK⟩ := hv
  subst hsz
  have hC := CX.of B hml rfl
  have hl := lv_entry [.ref (a 0), .int a1] (n := 2) (Nat.le_of_ble_eq_true rfl)
  rw [lg_entry_eq]
  generalize (lg_sl [.ref (a 0), .int a1] ++ List.replicate (2 - (lg_sl [.ref (a 0), .int a1]).length) Slot.unset).toArray = ls at hl ⊢
  have hl : lv_has ls 2 [(0, .ref (a 0)), (1, .int a1)] := hl
  exact k_Ref_there_0 hC (fun x h => Or.inr h) hK a1  s.heap [] ls hP (dD hd.self rfl) va_S.rf (lv_sub hl [0, 1] rfl) h
abbrev rm_Ref_ill : Room := { frames := 1, cells := 0, slots := 0, locals := 26 }
set_option maxRecDepth 100000 in
set_option maxHeartbeats 4000000 in
theorem k_Ref_ill_0 {p : Program} {l : Launch} {e : Env} {s : State} {m : MethodId} {args : Array Value} {below : List Frame} {meth : Method} {c : Code} {D : va_G} {a : Nat → Nat} {q : Nat → ClassId} {A : Nat → Prop} (hC : CX p s m args meth c prog_12_method_40_code 1 "OutwardTapeModel" (some .int)) (hA : ∀ x, s.heap.size ≤ x → A x) (hK : va_K D CLS (tR q) s) {g5 : Int32} {g6 : Nat → Int32} {g7 : Int32} {g8 : Nat → Int32} {g9 : Int32} {g10 : Int64} {g11 : Int64} {g12 : Int32} {g13 : Int32} {g14 : Int32} {g15 : Int64} {g16 : Int32} {g17 : Int32} {g18 : Int64} {g19 : Int32} {r0 : Int32 × Int32 × (Nat → Int32) × (Nat → Int64) × (Nat → Int64) × (Nat → Int32)} : ∀  (g0 : Int32) (g1 : Nat → Int32) (g2 : Nat → Int64) (g3 : Nat → Int64) (g4 : Nat → Int32) (H : Heap) (locs : List Loc) (ls : Array Slot), va_P D CLS (wR a q g0 g1 g2 g3 g4 g5 g6 g7 g8 g9 g10 g11 g12 g13 g14 g15 g16 g17 g18 g19) H → va_D A (wR a q g0 g1 g2 g3 g4 g5 g6 g7 g8 g9 g10 g11 g12 g13 g14 g15 g16 g17 g18 g19) → va_S A s.heap H locs → lv_has ls 1 [(0, .ref (a 0))] → f_Ref_ill_0  g0 g1 g2 g3 g4 = some r0 → W p l e rm_Ref_ill s m args below meth c H locs 0 0 (MQ below (va_Qi (fun (r : Int32) (_ : Unit) => r = r0.1) (fun _ t => va_P D CLS (wR a q r0.2.1 r0.2.2.1 r0.2.2.2.1 r0.2.2.2.2.1 r0.2.2.2.2.2 g5 g6 g7 g8 g9 g10 g11 g12 g13 g14 g15 g16 g17 g18 g19) t.heap) A) args s 0 0 A) (F0 m 0 ls []) := by
  obtain ⟨hx, hb, hml, hown, hts, hr, hlocks⟩ := id hC
  intro g0 g1 g2 g3 g4 H locs ls hP hD hS hl h
  rw [f_Ref_ill_0] at h
  refine lv_aload_n hx hb (dt_at dt_Ref_ill 0 rfl) rfl (lv_at hl 0 rfl) ?_
  refine lv_iconst (v := 0) hx hb (dt_at dt_Ref_ill 1 rfl) (by decide) ?_
  refine lv_lconst (v := 0) hx hb (dt_at dt_Ref_ill 2 rfl) (by decide) ?_
  refine lv_lconst (v := 0) hx hb (dt_at dt_Ref_ill 3 rfl) (by decide) ?_
  refine lv_iconst (v := 0) hx hb (dt_at dt_Ref_ill 4 rfl) (by decide) ?_
  obtain ⟨r1, h_r1, h⟩ := ob_of h
  have hF := va_free (wc := dR a) (dD (ws' := dR a) hD rfl) hS hA [0, 1, 2, 3, 4, 5, 6] rfl
  have hd : va_D (fun _ => True) (dR a) := (dD (ws' := dR a) hD rfl).weaken (fun _ _ _ _ => trivial)
  refine va_calli (va_runV (As := [.int (0 : Int32), .long (0 : Int64), .long (0 : Int64), .int (0 : Int32)]) (rest := []) ⟨hx, hb, hml, hown, hts⟩ (c_Ref_cell l D a q hd H.size (0 : Int32) (0 : Int64) (0 : Int64) (0 : Int32) g0 g1 g2 g3 g4 g5 g6 g7 g8 g9 g10 g11 g12 g13 g14 g15 g16 g17 g18 g19 r1 h_r1) (cwV 4 hts (gd_V (m_4 88 rfl rfl) (m_4 90 rfl rfl) (m_s 23 rfl rfl) (m_1 4 rfl rfl) (m_4 91 rfl rfl)) rfl rfl rfl (by decide +kernel) ⟨Nat.le_of_ble_eq_true rfl, Nat.le_of_ble_eq_true rfl⟩) ⟨fun a U g mk q => ⟨q.1, q.2.1, q.2.2.1, va_K.moved (u := U) (U := U.calling g mk a) (Vm.Alike.refl U.vm) q.2.2.2⟩, va_recv hK hP (ci := 0) (q0 := 0) rfl rfl, fun U hU hW => ⟨rfl, by rw [hU], by rw [hU]; exact hP, va_K.moved hW.alike hK⟩⟩ rfl rfl hl.1 rfl (lv_room (Nat.le_of_ble_eq_true rfl)) (dt_at dt_Ref_ill 5 rfl) ⟨Nat.le_of_ble_eq_true rfl, Nat.le_of_ble_eq_true rfl⟩) hS (fun x _ h9 => hF x h9) hF (fun u_r1 uu t H locs ht hvm hw hB hz1 hk1 hS => ?_)
  rw [ht] at hB
  subst hw
  have hP : va_P D CLS (wR a q r1.2.1 r1.2.2.1 r1.2.2.2.1 r1.2.2.2.2.1 r1.2.2.2.2.2 g5 g6 g7 g8 g9 g10 g11 g12 g13 g14 g15 g16 g17 g18 g19) H := hB
  have hD : va_D A (wR a q r1.2.1 r1.2.2.1 r1.2.2.2.1 r1.2.2.2.2.1 r1.2.2.2.2.2 g5 g6 g7 g8 g9 g10 g11 g12 g13 g14 g15 g16 g17 g18 g19) := dD hD rfl
  obtain rfl := os_of h
  exact W.iret (v := r1.1) hx hb hr (fun t ht hW => ⟨⟨_, (), rfl, rfl, (hPt hP ht)⟩, hS.F ht⟩) hS.2.2 (dt_at dt_Ref_ill 6 rfl)
set_option maxRecDepth 100000 in
set_option maxHeartbeats 4000000 in
theorem c_Ref_ill (l : Launch) (D : va_G) (a : Nat → Nat) (q : Nat → ClassId) (hd : va_D (fun _ => True) (dR a)) (sz : Nat)  (g0 : Int32) (g1 : Nat → Int32) (g2 : Nat → Int64) (g3 : Nat → Int64) (g4 : Nat → Int32) (g5 : Int32) (g6 : Nat → Int32) (g7 : Int32) (g8 : Nat → Int32) (g9 : Int32) (g10 : Int64) (g11 : Int64) (g12 : Int32) (g13 : Int32) (g14 : Int32) (g15 : Int64) (g16 : Int32) (g17 : Int32) (g18 : Int64) (g19 : Int32) (r0 : Int32 × Int32 × (Nat → Int32) × (Nat → Int64) × (Nat → Int64) × (Nat → Int32)) (h : f_Ref_ill g0 g1 g2 g3 g4 = some r0) : Met l (⟨"OutwardTapeModel", "ill", "()I"⟩ : MethodName) (WSm (⟨"OutwardTapeModel", "ill", "()I"⟩ : MethodName) prog_12_method_40_code 1 (some .int)) rm_Ref_ill (va_Pc [.ref (a 0)] (fun U => U.heap.size = sz ∧ va_P D CLS (wR a q g0 g1 g2 g3 g4 g5 g6 g7 g8 g9 g10 g11 g12 g13 g14 g15 g16 g17 g18 g19) U.heap ∧ va_K D CLS (tR q) U)) (va_Qi (fun (r : Int32) (_ : Unit) => r = r0.1) (fun _ t => va_P D CLS (wR a q r0.2.1 r0.2.2.1 r0.2.2.2.1 r0.2.2.2.2.1 r0.2.2.2.2.2 g5 g6 g7 g8 g9 g10 g11 g12 g13 g14 g15 g16 g17 g18 g19) t.heap) (va_A (dR a) sz)) 0 0 (va_A (dR a) sz) := by
  refine Met.ofW (cc := prog_12_method_40_code) (maxL := 1) (ret := (some .int)) (by decide) rfl ?_
  intro p e s m args below meth c s₁ B hml hv
  obtain ⟨rfl, hsz, hP, hK⟩ := hv
  subst hsz
  have hC := CX.of B hml rfl
  have hl := lv_entry [.ref (a 0)] (n := 1) (Nat.le_of_ble_eq_true rfl)
  rw [lg_entry_eq]
  generalize (lg_sl [.ref (a 0)] ++ List.replicate (1 - (lg_sl [.ref (a 0)]).length) Slot.unset).toArray = ls at hl ⊢
  have hl : lv_has ls 1 [(0, .ref (a 0))] := hl
  exact k_Ref_ill_0 hC (fun x h => Or.inr h) hK  g0 g1 g2 g3 g4 s.heap [] ls hP (dD hd.self rfl) va_S.rf (lv_sub hl [0] rfl) h
abbrev rm_Ref_bounds : Room := { frames := 3, cells := 0, slots := 0, locals := 65 }
set_option maxRecDepth 100000 in
set_option maxHeartbeats 4000000 in
theorem k_Ref_bounds_138 {p : Program} {l : Launch} {e : Env} {s : State} {m : MethodId} {args : Array Value} {below : List Frame} {meth : Method} {c : Code} {D : va_G} {a : Nat → Nat} {q : Nat → ClassId} {A : Nat → Prop} (hC : CX p s m args meth c prog_12_method_41_code 11 "OutwardTapeModel" (some .int)) (hA : ∀ x, s.heap.size ≤ x → A x) (hK : va_K D CLS (tR q) s) {g6 : Nat → Int32} {g7 : Int32} {g8 : Nat → Int32} {g9 : Int32} {g10 : Int64} {g11 : Int64} {g12 : Int32} {g13 : Int32} {g14 : Int32} {g15 : Int64} {g16 : Int32} {g17 : Int32} {g18 : Int64} {g19 : Int32} {r0 : Int32 × Int32 × (Nat → Int32) × (Nat → Int64) × (Nat → Int64) × (Nat → Int32) × Int32} : ∀ (v5 : Int32) (v7 : Int64) (v9 : Int64) (g0 : Int32) (g1 : Nat → Int32) (g2 : Nat → Int64) (g3 : Nat → Int64) (g4 : Nat → Int32) (g5 : Int32) (H : Heap) (locs : List Loc) (ls : Array Slot), va_P D CLS (wR a q g0 g1 g2 g3 g4 g5 g6 g7 g8 g9 g10 g11 g12 g13 g14 g15 g16 g17 g18 g19) H → va_D A (wR a q g0 g1 g2 g3 g4 g5 g6 g7 g8 g9 g10 g11 g12 g13 g14 g15 g16 g17 g18 g19) → va_S A s.heap H locs → lv_has ls 11 [(0, .ref (a 0)), (5, .int v5), (7, .long v7), (9, .long v9)] → f_Ref_bounds_138  v5 v7 v9 g0 g1 g2 g3 g4 g5 = some r0 → W p l e rm_Ref_bounds s m args below meth c H locs 0 0 (MQ below (va_Qi (fun (r : Int32) (_ : Unit) => r = r0.1) (fun _ t => va_P D CLS (wR a q r0.2.1 r0.2.2.1 r0.2.2.2.1 r0.2.2.2.2.1 r0.2.2.2.2.2.1 r0.2.2.2.2.2.2 g6 g7 g8 g9 g10 g11 g12 g13 g14 g15 g16 g17 g18 g19) t.heap) A) args s 0 0 A) (F0 m 138 ls []) := by
  obtain ⟨hx, hb, hml, hown, hts, hr, hlocks⟩ := id hC
  intro v5 v7 v9 g0 g1 g2 g3 g4 g5 H locs ls hP hD hS hl h
  rw [f_Ref_bounds_138] at h
  refine lv_aload_n hx hb (dt_at dt_Ref_bounds 68 rfl) rfl (lv_at hl 0 rfl) ?_
  refine lv_iconst (v := 2) hx hb (dt_at dt_Ref_bounds 69 rfl) (by decide) ?_
  refine lv_lload hx hb (dt_at dt_Ref_bounds 70 rfl) (lv_at hl 2 rfl) ?_
  refine lv_lload hx hb (dt_at dt_Ref_bounds 71 rfl) (lv_at hl 3 rfl) ?_
  refine lv_iload hx hb (dt_at dt_Ref_bounds 72 rfl) (lv_at hl 1 rfl) ?_
  obtain ⟨r1, h_r1, h⟩ := ob_of h
  have hF := va_free (wc := dR a) (dD (ws' := dR a) hD rfl) hS hA [0, 1, 2, 3, 4, 5, 6] rfl
  have hd : va_D (fun _ => True) (dR a) := (dD (ws' := dR a) hD rfl).weaken (fun _ _ _ _ => trivial)
  refine va_calli (va_runV (As := [.int (2 : Int32), .long v7, .long v9, .int v5]) (rest := []) ⟨hx, hb, hml, hown, hts⟩ (c_Ref_cell l D a q hd H.size (2 : Int32) v7 v9 v5 g0 g1 g2 g3 g4 g5 g6 g7 g8 g9 g10 g11 g12 g13 g14 g15 g16 g17 g18 g19 r1 h_r1) (cwV 4 hts (gd_V (m_4 88 rfl rfl) (m_4 90 rfl rfl) (m_s 23 rfl rfl) (m_1 4 rfl rfl) (m_4 91 rfl rfl)) rfl rfl rfl (by decide +kernel) ⟨Nat.le_of_ble_eq_true rfl, Nat.le_of_ble_eq_true rfl⟩) ⟨fun a U g mk q => ⟨q.1, q.2.1, q.2.2.1, va_K.moved (u := U) (U := U.calling g mk a) (Vm.Alike.refl U.vm) q.2.2.2⟩, va_recv hK hP (ci := 0) (q0 := 0) rfl rfl, fun U hU hW => ⟨rfl, by rw [hU], by rw [hU]; exact hP, va_K.moved hW.alike hK⟩⟩ rfl rfl hl.1 rfl (lv_room (Nat.le_of_ble_eq_true rfl)) (dt_at dt_Ref_bounds 73 rfl) ⟨Nat.le_of_ble_eq_true rfl, Nat.le_of_ble_eq_true rfl⟩) hS (fun x _ h9 => hF x h9) hF (fun u_r1 uu t H locs ht hvm hw hB hz1 hk1 hS => ?_)
  rw [ht] at hB
  subst hw
  have hP : va_P D CLS (wR a q r1.2.1 r1.2.2.1 r1.2.2.2.1 r1.2.2.2.2.1 r1.2.2.2.2.2 g5 g6 g7 g8 g9 g10 g11 g12 g13 g14 g15 g16 g17 g18 g19) H := hB
  have hD : va_D A (wR a q r1.2.1 r1.2.2.1 r1.2.2.2.1 r1.2.2.2.2.1 r1.2.2.2.2.2 g5 g6 g7 g8 g9 g10 g11 g12 g13 g14 g15 g16 g17 g18 g19) := dD hD rfl
  obtain rfl := os_of h
  exact W.iret (v := r1.1) hx hb hr (fun t ht hW => ⟨⟨_, (), rfl, rfl, (hPt hP ht)⟩, hS.F ht⟩) hS.2.2 (dt_at dt_Ref_bounds 74 rfl)
set_option maxRecDepth 100000 in
set_option maxHeartbeats 4000000 in
theorem k_Ref_bounds_133 {p : Program} {l : Launch} {e : Env} {s : State} {m : MethodId} {args : Array Value} {below : List Frame} {meth : Method} {c : Code} {D : va_G} {a : Nat → Nat} {q : Nat → ClassId} {A : Nat → Prop} (hC : CX p s m args meth c prog_12_method_41_code 11 "OutwardTapeModel" (some .int)) (hA : ∀ x, s.heap.size ≤ x → A x) (hK : va_K D CLS (tR q) s) {g6 : Nat → Int32} {g7 : Int32} {g8 : Nat → Int32} {g9 : Int32} {g10 : Int64} {g11 : Int64} {g12 : Int32} {g13 : Int32} {g14 : Int32} {g15 : Int64} {g16 : Int32} {g17 : Int32} {g18 : Int64} {g19 : Int32} {r0 : Int32 × Int32 × (Nat → Int32) × (Nat → Int64) × (Nat → Int64) × (Nat → Int32) × Int32} : ∀  (g0 : Int32) (g1 : Nat → Int32) (g2 : Nat → Int64) (g3 : Nat → Int64) (g4 : Nat → Int32) (g5 : Int32) (H : Heap) (locs : List Loc) (ls : Array Slot), va_P D CLS (wR a q g0 g1 g2 g3 g4 g5 g6 g7 g8 g9 g10 g11 g12 g13 g14 g15 g16 g17 g18 g19) H → va_D A (wR a q g0 g1 g2 g3 g4 g5 g6 g7 g8 g9 g10 g11 g12 g13 g14 g15 g16 g17 g18 g19) → va_S A s.heap H locs → lv_has ls 11 [(0, .ref (a 0))] → f_Ref_bounds_133  g0 g1 g2 g3 g4 g5 = some r0 → W p l e rm_Ref_bounds s m args below meth c H locs 0 0 (MQ below (va_Qi (fun (r : Int32) (_ : Unit) => r = r0.1) (fun _ t => va_P D CLS (wR a q r0.2.1 r0.2.2.1 r0.2.2.2.1 r0.2.2.2.2.1 r0.2.2.2.2.2.1 r0.2.2.2.2.2.2 g6 g7 g8 g9 g10 g11 g12 g13 g14 g15 g16 g17 g18 g19) t.heap) A) args s 0 0 A) (F0 m 133 ls []) := by
  obtain ⟨hx, hb, hml, hown, hts, hr, hlocks⟩ := id hC
  intro g0 g1 g2 g3 g4 g5 H locs ls hP hD hS hl h
  rw [f_Ref_bounds_133] at h
  refine lv_aload_n hx hb (dt_at dt_Ref_bounds 65 rfl) rfl (lv_at hl 0 rfl) ?_
  obtain ⟨r1, h_r1, h⟩ := ob_of h
  have hF := va_free (wc := dR a) (dD (ws' := dR a) hD rfl) hS hA [0, 1, 2, 3, 4, 5, 6] rfl
  have hd : va_D (fun _ => True) (dR a) := (dD (ws' := dR a) hD rfl).weaken (fun _ _ _ _ => trivial)
  refine va_calli (va_runV (As := []) (rest := []) ⟨hx, hb, hml, hown, hts⟩ (c_Ref_ill l D a q hd H.size  g0 g1 g2 g3 g4 g5 g6 g7 g8 g9 g10 g11 g12 g13 g14 g15 g16 g17 g18 g19 r1 h_r1) (cwV 0 hts (gd_V (m_4 84 rfl rfl) (m_4 86 rfl rfl) (m_s 22 rfl rfl) (m_1 4 rfl rfl) (m_4 87 rfl rfl)) rfl rfl rfl (by decide +kernel) ⟨Nat.le_of_ble_eq_true rfl, Nat.le_of_ble_eq_true rfl⟩) ⟨fun a U g mk q => ⟨q.1, q.2.1, q.2.2.1, va_K.moved (u := U) (U := U.calling g mk a) (Vm.Alike.refl U.vm) q.2.2.2⟩, va_recv hK hP (ci := 0) (q0 := 0) rfl rfl, fun U hU hW => ⟨rfl, by rw [hU], by rw [hU]; exact hP, va_K.moved hW.alike hK⟩⟩ rfl rfl hl.1 rfl (lv_room (Nat.le_of_ble_eq_true rfl)) (dt_at dt_Ref_bounds 66 rfl) ⟨Nat.le_of_ble_eq_true rfl, Nat.le_of_ble_eq_true rfl⟩) hS (fun x _ h9 => hF x h9) hF (fun u_r1 uu t H locs ht hvm hw hB hz1 hk1 hS => ?_)
  rw [ht] at hB
  subst hw
  have hP : va_P D CLS (wR a q r1.2.1 r1.2.2.1 r1.2.2.2.1 r1.2.2.2.2.1 r1.2.2.2.2.2 g5 g6 g7 g8 g9 g10 g11 g12 g13 g14 g15 g16 g17 g18 g19) H := hB
  have hD : va_D A (wR a q r1.2.1 r1.2.2.1 r1.2.2.2.1 r1.2.2.2.2.1 r1.2.2.2.2.2 g5 g6 g7 g8 g9 g10 g11 g12 g13 g14 g15 g16 g17 g18 g19) := dD hD rfl
  obtain rfl := os_of h
  exact W.iret (v := r1.1) hx hb hr (fun t ht hW => ⟨⟨_, (), rfl, rfl, (hPt hP ht)⟩, hS.F ht⟩) hS.2.2 (dt_at dt_Ref_bounds 67 rfl)
set_option maxRecDepth 100000 in
set_option maxHeartbeats 4000000 in
theorem k_Ref_bounds_72 {p : Program} {l : Launch} {e : Env} {s : State} {m : MethodId} {args : Array Value} {below : List Frame} {meth : Method} {c : Code} {D : va_G} {a : Nat → Nat} {q : Nat → ClassId} {A : Nat → Prop} (hC : CX p s m args meth c prog_12_method_41_code 11 "OutwardTapeModel" (some .int)) (hA : ∀ x, s.heap.size ≤ x → A x) (hK : va_K D CLS (tR q) s) {g6 : Nat → Int32} {g7 : Int32} {g8 : Nat → Int32} {g9 : Int32} {g10 : Int64} {g11 : Int64} {g12 : Int32} {g13 : Int32} {g14 : Int32} {g15 : Int64} {g16 : Int32} {g17 : Int32} {g18 : Int64} {g19 : Int32} {r0 : Int32 × Int32 × (Nat → Int32) × (Nat → Int64) × (Nat → Int64) × (Nat → Int32) × Int32} : ∀ (s0 : Int32) (v1 : Int64) (v3 : Int64) (v5 : Int32) (g0 : Int32) (g1 : Nat → Int32) (g2 : Nat → Int64) (g3 : Nat → Int64) (g4 : Nat → Int32) (g5 : Int32) (H : Heap) (locs : List Loc) (ls : Array Slot), va_P D CLS (wR a q g0 g1 g2 g3 g4 g5 g6 g7 g8 g9 g10 g11 g12 g13 g14 g15 g16 g17 g18 g19) H → va_D A (wR a q g0 g1 g2 g3 g4 g5 g6 g7 g8 g9 g10 g11 g12 g13 g14 g15 g16 g17 g18 g19) → va_S A s.heap H locs → lv_has ls 11 [(0, .ref (a 0)), (1, .long v1), (3, .long v3), (5, .int v5)] → f_Ref_bounds_72  s0 v1 v3 v5 g0 g1 g2 g3 g4 g5 = some r0 → W p l e rm_Ref_bounds s m args below meth c H locs 0 0 (MQ below (va_Qi (fun (r : Int32) (_ : Unit) => r = r0.1) (fun _ t => va_P D CLS (wR a q r0.2.1 r0.2.2.1 r0.2.2.2.1 r0.2.2.2.2.1 r0.2.2.2.2.2.1 r0.2.2.2.2.2.2 g6 g7 g8 g9 g10 g11 g12 g13 g14 g15 g16 g17 g18 g19) t.heap) A) args s 0 0 A) (F0 m 72 ls [.int s0]) := by
  obtain ⟨hx, hb, hml, hown, hts, hr, hlocks⟩ := id hC
  intro s0 v1 v3 v5 g0 g1 g2 g3 g4 g5 H locs ls hP hD hS hl h
  rw [f_Ref_bounds_72] at h
  refine lv_istore (lv' := [(6, .int s0), (0, .ref (a 0)), (1, .long v1), (3, .long v3), (5, .int v5)]) hx hb (dt_at dt_Ref_bounds 37 rfl) hl (by decide) rfl (fun ls hl => ?_)
  refine lv_lload_n hx hb (dt_at dt_Ref_bounds 38 rfl) rfl (lv_at hl 2 rfl) ?_
  obtain ⟨r1, h_r1, h⟩ := ob_of h
  refine vp_callSl (W.runS (As := [.long v1]) (rest := []) ⟨hx, hb, hml, hown, hts⟩ (c_Ref_order l v1 r1 h_r1) (va_cwS 1 hts (gd_S (m_4 71 rfl rfl) (m_4 72 rfl rfl) (m_1 4 rfl rfl) (m_4 73 rfl rfl)) rfl rfl rfl (by decide +kernel) ⟨Nat.le_of_ble_eq_true rfl, Nat.le_of_ble_eq_true rfl⟩) ⟨fun _ _ _ _ q => q, fun U hU hW => ⟨rfl, trivial⟩⟩ rfl rfl hl.1 rfl (lv_room (Nat.le_of_ble_eq_true rfl)) (dt_at dt_Ref_bounds 39 rfl) ⟨Nat.le_of_ble_eq_true rfl, Nat.le_of_ble_eq_true rfl⟩) (fun u_r1 q_r1 => ?_)
  obtain rfl : r1 = u_r1 := q_r1.symm
  refine lv_lstore (lv' := [(7, .long r1), (6, .int s0), (0, .ref (a 0)), (1, .long v1), (3, .long v3), (5, .int v5)]) hx hb (dt_at dt_Ref_bounds 40 rfl) hl (by decide) rfl (fun ls hl => ?_)
  refine lv_lload_n hx hb (dt_at dt_Ref_bounds 41 rfl) rfl (lv_at hl 4 rfl) ?_
  obtain ⟨r2, h_r2, h⟩ := ob_of h
  refine vp_callSl (W.runS (As := [.long v3]) (rest := []) ⟨hx, hb, hml, hown, hts⟩ (c_Ref_order l v3 r2 h_r2) (va_cwS 1 hts (gd_S (m_4 71 rfl rfl) (m_4 72 rfl rfl) (m_1 4 rfl rfl) (m_4 73 rfl rfl)) rfl rfl rfl (by decide +kernel) ⟨Nat.le_of_ble_eq_true rfl, Nat.le_of_ble_eq_true rfl⟩) ⟨fun _ _ _ _ q => q, fun U hU hW => ⟨rfl, trivial⟩⟩ rfl rfl hl.1 rfl (lv_room (Nat.le_of_ble_eq_true rfl)) (dt_at dt_Ref_bounds 42 rfl) ⟨Nat.le_of_ble_eq_true rfl, Nat.le_of_ble_eq_true rfl⟩) (fun u_r2 q_r2 => ?_)
  obtain rfl : r2 = u_r2 := q_r2.symm
  refine lv_lstore (lv' := [(9, .long r2), (7, .long r1), (6, .int s0), (0, .ref (a 0)), (1, .long v1), (3, .long v3), (5, .int v5)]) hx hb (dt_at dt_Ref_bounds 43 rfl) hl (by decide) rfl (fun ls hl => ?_)
  refine lv_iload hx hb (dt_at dt_Ref_bounds 44 rfl) (lv_at hl 2 rfl) ?_
  refine lv_if_eq (tgt := 133) hx hb (dt_at dt_Ref_bounds 45 rfl) (by decide) (fun c3 => ?_) (fun c3 => ?_)
  · have h := if_p h c3
    exact k_Ref_bounds_133 hC hA hK   g0 g1 g2 g3 g4 g5 H locs ls hP hD hS (lv_sub hl [3] rfl) h
  · have h := if_n h c3
    refine lv_lload hx hb (dt_at dt_Ref_bounds 46 rfl) (lv_at hl 1 rfl) ?_
    refine lv_ldc2 (v := 9218868437227405312) hx hb hown (hts (Cond.constantLong "OutwardTapeModel" 69 (9218868437227405312)) (m_4 70 rfl rfl)) (dt_at dt_Ref_bounds 47 rfl) ?_
    refine lc_eq (tgt := 133) hx hb (dt_at dt_Ref_bounds 48 rfl) (dt_at dt_Ref_bounds 49 rfl) (by decide) (fun c4 => ?_) (fun c4 => ?_)
    · have h := if_p h c4
      exact k_Ref_bounds_133 hC hA hK   g0 g1 g2 g3 g4 g5 H locs ls hP hD hS (lv_sub hl [3] rfl) h
    · have h := if_n h c4
      refine lv_lload hx hb (dt_at dt_Ref_bounds 50 rfl) (lv_at hl 0 rfl) ?_
      refine lv_ldc2 (v := -9218868437227405312) hx hb hown (hts (Cond.constantLong "OutwardTapeModel" 95 (-9218868437227405312)) (m_4 74 rfl rfl)) (dt_at dt_Ref_bounds 51 rfl) ?_
      refine lc_eq (tgt := 133) hx hb (dt_at dt_Ref_bounds 52 rfl) (dt_at dt_Ref_bounds 53 rfl) (by decide) (fun c5 => ?_) (fun c5 => ?_)
      · have h := if_p h c5
        exact k_Ref_bounds_133 hC hA hK   g0 g1 g2 g3 g4 g5 H locs ls hP hD hS (lv_sub hl [3] rfl) h
      · have h := if_n h c5
        refine lv_lload hx hb (dt_at dt_Ref_bounds 54 rfl) (lv_at hl 1 rfl) ?_
        refine lv_lload hx hb (dt_at dt_Ref_bounds 55 rfl) (lv_at hl 0 rfl) ?_
        refine lc_gt (tgt := 133) hx hb (dt_at dt_Ref_bounds 56 rfl) (dt_at dt_Ref_bounds 57 rfl) (by decide) (fun c6 => ?_) (fun c6 => ?_)
        · have h := if_p h c6
          exact k_Ref_bounds_133 hC hA hK   g0 g1 g2 g3 g4 g5 H locs ls hP hD hS (lv_sub hl [3] rfl) h
        · have h := if_n h c6
          refine lv_iload hx hb (dt_at dt_Ref_bounds 58 rfl) (lv_at hl 6 rfl) ?_
          refine lv_iconst (v := 4) hx hb (dt_at dt_Ref_bounds 59 rfl) (by decide) ?_
          refine lv_icmp_ne (tgt := 138) hx hb (dt_at dt_Ref_bounds 60 rfl) (by decide) (fun c7 => ?_) (fun c7 => ?_)
          · have h := if_n h c7
            exact k_Ref_bounds_138 hC hA hK   v5 r1 r2 g0 g1 g2 g3 g4 g5 H locs ls hP hD hS (lv_sub hl [3, 6, 1, 0] rfl) h
          · have h := if_p h c7
            refine lv_lload hx hb (dt_at dt_Ref_bounds 61 rfl) (lv_at hl 1 rfl) ?_
            refine lv_lload hx hb (dt_at dt_Ref_bounds 62 rfl) (lv_at hl 0 rfl) ?_
            obtain ⟨r8, h_r8, h⟩ := ob_of h
            refine vp_callSi (W.runS (As := [.long r1, .long r2]) (rest := []) ⟨hx, hb, hml, hown, hts⟩ (c_Ref_bounded l r1 r2 r8 h_r8) (va_cwS 2 hts (gd_S (m_4 75 rfl rfl) (m_4 76 rfl rfl) (m_1 4 rfl rfl) (m_4 77 rfl rfl)) rfl rfl rfl (by decide +kernel) ⟨Nat.le_of_ble_eq_true rfl, Nat.le_of_ble_eq_true rfl⟩) ⟨fun _ _ _ _ q => q, fun U hU hW => ⟨rfl, trivial⟩⟩ rfl rfl hl.1 rfl (lv_room (Nat.le_of_ble_eq_true rfl)) (dt_at dt_Ref_bounds 63 rfl) ⟨Nat.le_of_ble_eq_true rfl, Nat.le_of_ble_eq_true rfl⟩) (fun u_r8 q_r8 => ?_)
            obtain rfl : r8 = u_r8 := q_r8.symm
            refine lv_if_ne (tgt := 138) hx hb (dt_at dt_Ref_bounds 64 rfl) (by decide) (fun c9 => ?_) (fun c9 => ?_)
            · have h := if_n h c9
              exact k_Ref_bounds_138 hC hA hK   v5 r1 r2 g0 g1 g2 g3 g4 g5 H locs ls hP hD hS (lv_sub hl [3, 6, 1, 0] rfl) h
            · have h := if_p h c9
              exact k_Ref_bounds_133 hC hA hK   g0 g1 g2 g3 g4 g5 H locs ls hP hD hS (lv_sub hl [3] rfl) h
set_option maxRecDepth 100000 in
set_option maxHeartbeats 4000000 in
theorem k_Ref_bounds_71 {p : Program} {l : Launch} {e : Env} {s : State} {m : MethodId} {args : Array Value} {below : List Frame} {meth : Method} {c : Code} {D : va_G} {a : Nat → Nat} {q : Nat → ClassId} {A : Nat → Prop} (hC : CX p s m args meth c prog_12_method_41_code 11 "OutwardTapeModel" (some .int)) (hA : ∀ x, s.heap.size ≤ x → A x) (hK : va_K D CLS (tR q) s) {g6 : Nat → Int32} {g7 : Int32} {g8 : Nat → Int32} {g9 : Int32} {g10 : Int64} {g11 : Int64} {g12 : Int32} {g13 : Int32} {g14 : Int32} {g15 : Int64} {g16 : Int32} {g17 : Int32} {g18 : Int64} {g19 : Int32} {r0 : Int32 × Int32 × (Nat → Int32) × (Nat → Int64) × (Nat → Int64) × (Nat → Int32) × Int32} : ∀ (v1 : Int64) (v3 : Int64) (v5 : Int32) (g0 : Int32) (g1 : Nat → Int32) (g2 : Nat → Int64) (g3 : Nat → Int64) (g4 : Nat → Int32) (g5 : Int32) (H : Heap) (locs : List Loc) (ls : Array Slot), va_P D CLS (wR a q g0 g1 g2 g3 g4 g5 g6 g7 g8 g9 g10 g11 g12 g13 g14 g15 g16 g17 g18 g19) H → va_D A (wR a q g0 g1 g2 g3 g4 g5 g6 g7 g8 g9 g10 g11 g12 g13 g14 g15 g16 g17 g18 g19) → va_S A s.heap H locs → lv_has ls 11 [(0, .ref (a 0)), (1, .long v1), (3, .long v3), (5, .int v5)] → f_Ref_bounds_71  v1 v3 v5 g0 g1 g2 g3 g4 g5 = some r0 → W p l e rm_Ref_bounds s m args below meth c H locs 0 0 (MQ below (va_Qi (fun (r : Int32) (_ : Unit) => r = r0.1) (fun _ t => va_P D CLS (wR a q r0.2.1 r0.2.2.1 r0.2.2.2.1 r0.2.2.2.2.1 r0.2.2.2.2.2.1 r0.2.2.2.2.2.2 g6 g7 g8 g9 g10 g11 g12 g13 g14 g15 g16 g17 g18 g19) t.heap) A) args s 0 0 A) (F0 m 71 ls []) := by
  obtain ⟨hx, hb, hml, hown, hts, hr, hlocks⟩ := id hC
  intro v1 v3 v5 g0 g1 g2 g3 g4 g5 H locs ls hP hD hS hl h
  rw [f_Ref_bounds_71] at h
  refine lv_iconst (v := 0) hx hb (dt_at dt_Ref_bounds 36 rfl) (by decide) ?_
  exact k_Ref_bounds_72 hC hA hK   (0 : Int32) v1 v3 v5 g0 g1 g2 g3 g4 g5 H locs ls hP hD hS (lv_sub hl [0, 1, 2, 3] rfl) h
set_option maxRecDepth 100000 in
set_option maxHeartbeats 4000000 in
theorem k_Ref_bounds_31 {p : Program} {l : Launch} {e : Env} {s : State} {m : MethodId} {args : Array Value} {below : List Frame} {meth : Method} {c : Code} {D : va_G} {a : Nat → Nat} {q : Nat → ClassId} {A : Nat → Prop} (hC : CX p s m args meth c prog_12_method_41_code 11 "OutwardTapeModel" (some .int)) (hA : ∀ x, s.heap.size ≤ x → A x) (hK : va_K D CLS (tR q) s) {g6 : Nat → Int32} {g7 : Int32} {g8 : Nat → Int32} {g9 : Int32} {g10 : Int64} {g11 : Int64} {g12 : Int32} {g13 : Int32} {g14 : Int32} {g15 : Int64} {g16 : Int32} {g17 : Int32} {g18 : Int64} {g19 : Int32} {r0 : Int32 × Int32 × (Nat → Int32) × (Nat → Int64) × (Nat → Int64) × (Nat → Int32) × Int32} : ∀ (s0 : Int32) (v1 : Int64) (v3 : Int64) (v5 : Int32) (g0 : Int32) (g1 : Nat → Int32) (g2 : Nat → Int64) (g3 : Nat → Int64) (g4 : Nat → Int32) (g5 : Int32) (H : Heap) (locs : List Loc) (ls : Array Slot), va_P D CLS (wR a q g0 g1 g2 g3 g4 g5 g6 g7 g8 g9 g10 g11 g12 g13 g14 g15 g16 g17 g18 g19) H → va_D A (wR a q g0 g1 g2 g3 g4 g5 g6 g7 g8 g9 g10 g11 g12 g13 g14 g15 g16 g17 g18 g19) → va_S A s.heap H locs → lv_has ls 11 [(0, .ref (a 0)), (1, .long v1), (3, .long v3), (5, .int v5)] → f_Ref_bounds_31  s0 v1 v3 v5 g0 g1 g2 g3 g4 g5 = some r0 → W p l e rm_Ref_bounds s m args below meth c H locs 0 0 (MQ below (va_Qi (fun (r : Int32) (_ : Unit) => r = r0.1) (fun _ t => va_P D CLS (wR a q r0.2.1 r0.2.2.1 r0.2.2.2.1 r0.2.2.2.2.1 r0.2.2.2.2.2.1 r0.2.2.2.2.2.2 g6 g7 g8 g9 g10 g11 g12 g13 g14 g15 g16 g17 g18 g19) t.heap) A) args s 0 0 A) (F0 m 31 ls [.int s0, .ref (a 0)]) := by
  obtain ⟨hx, hb, hml, hown, hts, hr, hlocks⟩ := id hC
  intro s0 v1 v3 v5 g0 g1 g2 g3 g4 g5 H locs ls hP hD hS hl h
  rw [f_Ref_bounds_31] at h
  refine va_put (D := D) (ci := 0) (v := .int s0) (ty := .int) (C := "OutwardTapeModel") (T := T_Ref) (N := 20) hx hb hts in_Ref ty_Ref tk_Ref nm_Ref hown hK hP hD hS 0 rfl rfl 5 (by decide) (hts (Cond.fieldLink "OutwardTapeModel" 29 "OutwardTapeModel" "code" "I") (m_4 4 rfl rfl)) (fun _ h9 => h9) rfl (by decide +kernel) rfl rfl (Nat.le_of_ble_eq_true rfl) (dt_at dt_Ref_bounds 16 rfl) (fun H locs hP hD hS => ?_)
  have hP : va_P D CLS (wR a q g0 g1 g2 g3 g4 s0 g6 g7 g8 g9 g10 g11 g12 g13 g14 g15 g16 g17 g18 g19) H := hP
  have hD : va_D A (wR a q g0 g1 g2 g3 g4 s0 g6 g7 g8 g9 g10 g11 g12 g13 g14 g15 g16 g17 g18 g19) := hD
  refine lv_aload_n hx hb (dt_at dt_Ref_bounds 17 rfl) rfl (lv_at hl 0 rfl) ?_
  refine va_get (D := D) (ci := 0) (v := .int s0) (C := "OutwardTapeModel") (T := T_Ref) (N := 20) hx hb hts in_Ref hown hK hP 0 rfl rfl 5 (by decide) (hts (Cond.fieldLink "OutwardTapeModel" 29 "OutwardTapeModel" "code" "I") (m_4 4 rfl rfl)) (fun _ h9 => h9) rfl (dt_at dt_Ref_bounds 18 rfl) ?_
  refine lv_if_le (tgt := 43) hx hb (dt_at dt_Ref_bounds 19 rfl) (by decide) (fun c1 => ?_) (fun c1 => ?_)
  · have h := if_p h c1
    refine lv_lload_n hx hb (dt_at dt_Ref_bounds 22 rfl) rfl (lv_at hl 1 rfl) ?_
    refine lv_ldc2 (v := 9223372036854775807) hx hb hown (hts (Cond.constantLong "OutwardTapeModel" 180 (9223372036854775807)) (m_4 69 rfl rfl)) (dt_at dt_Ref_bounds 23 rfl) ?_
    refine lv_land hx hb (dt_at dt_Ref_bounds 24 rfl) ?_
    refine lv_ldc2 (v := 9218868437227405312) hx hb hown (hts (Cond.constantLong "OutwardTapeModel" 69 (9218868437227405312)) (m_4 70 rfl rfl)) (dt_at dt_Ref_bounds 25 rfl) ?_
    refine lc_gt (tgt := 71) hx hb (dt_at dt_Ref_bounds 26 rfl) (dt_at dt_Ref_bounds 27 rfl) (by decide) (fun c2 => ?_) (fun c2 => ?_)
    · have h := if_p h c2
      exact k_Ref_bounds_71 hC hA hK   v1 v3 v5 g0 g1 g2 g3 g4 s0 H locs ls hP hD hS (lv_sub hl [0, 1, 2, 3] rfl) h
    · have h := if_n h c2
      refine lv_lload_n hx hb (dt_at dt_Ref_bounds 28 rfl) rfl (lv_at hl 2 rfl) ?_
      refine lv_ldc2 (v := 9223372036854775807) hx hb hown (hts (Cond.constantLong "OutwardTapeModel" 180 (9223372036854775807)) (m_4 69 rfl rfl)) (dt_at dt_Ref_bounds 29 rfl) ?_
      refine lv_land hx hb (dt_at dt_Ref_bounds 30 rfl) ?_
      refine lv_ldc2 (v := 9218868437227405312) hx hb hown (hts (Cond.constantLong "OutwardTapeModel" 69 (9218868437227405312)) (m_4 70 rfl rfl)) (dt_at dt_Ref_bounds 31 rfl) ?_
      refine lc_gt (tgt := 71) hx hb (dt_at dt_Ref_bounds 32 rfl) (dt_at dt_Ref_bounds 33 rfl) (by decide) (fun c3 => ?_) (fun c3 => ?_)
      · have h := if_p h c3
        exact k_Ref_bounds_71 hC hA hK   v1 v3 v5 g0 g1 g2 g3 g4 s0 H locs ls hP hD hS (lv_sub hl [0, 1, 2, 3] rfl) h
      · have h := if_n h c3
        refine lv_iconst (v := 1) hx hb (dt_at dt_Ref_bounds 34 rfl) (by decide) ?_
        refine lv_goto (tgt := 72) hx hb (dt_at dt_Ref_bounds 35 rfl) (by decide) ?_
        exact k_Ref_bounds_72 hC hA hK   (1 : Int32) v1 v3 v5 g0 g1 g2 g3 g4 s0 H locs ls hP hD hS (lv_sub hl [0, 1, 2, 3] rfl) h
  · have h := if_n h c1
    refine lv_iconst (v := 0) hx hb (dt_at dt_Ref_bounds 20 rfl) (by decide) ?_
    obtain rfl := os_of h
    exact W.iret (v := (0 : Int32)) hx hb hr (fun t ht hW => ⟨⟨_, (), rfl, rfl, (hPt hP ht)⟩, hS.F ht⟩) hS.2.2 (dt_at dt_Ref_bounds 21 rfl)
set_option maxRecDepth 100000 in
set_option maxHeartbeats 4000000 in
theorem k_Ref_bounds_13 {p : Program} {l : Launch} {e : Env} {s : State} {m : MethodId} {args : Array Value} {below : List Frame} {meth : Method} {c : Code} {D : va_G} {a : Nat → Nat} {q : Nat → ClassId} {A : Nat → Prop} (hC : CX p s m args meth c prog_12_method_41_code 11 "OutwardTapeModel" (some .int)) (hA : ∀ x, s.heap.size ≤ x → A x) (hK : va_K D CLS (tR q) s) {g6 : Nat → Int32} {g7 : Int32} {g8 : Nat → Int32} {g9 : Int32} {g10 : Int64} {g11 : Int64} {g12 : Int32} {g13 : Int32} {g14 : Int32} {g15 : Int64} {g16 : Int32} {g17 : Int32} {g18 : Int64} {g19 : Int32} {r0 : Int32 × Int32 × (Nat → Int32) × (Nat → Int64) × (Nat → Int64) × (Nat → Int32) × Int32} : ∀ (v1 : Int64) (v3 : Int64) (v5 : Int32) (g0 : Int32) (g1 : Nat → Int32) (g2 : Nat → Int64) (g3 : Nat → Int64) (g4 : Nat → Int32) (g5 : Int32) (H : Heap) (locs : List Loc) (ls : Array Slot), va_P D CLS (wR a q g0 g1 g2 g3 g4 g5 g6 g7 g8 g9 g10 g11 g12 g13 g14 g15 g16 g17 g18 g19) H → va_D A (wR a q g0 g1 g2 g3 g4 g5 g6 g7 g8 g9 g10 g11 g12 g13 g14 g15 g16 g17 g18 g19) → va_S A s.heap H locs → lv_has ls 11 [(0, .ref (a 0)), (1, .long v1), (3, .long v3), (5, .int v5)] → f_Ref_bounds_13  v1 v3 v5 g0 g1 g2 g3 g4 g5 = some r0 → W p l e rm_Ref_bounds s m args below meth c H locs 0 0 (MQ below (va_Qi (fun (r : Int32) (_ : Unit) => r = r0.1) (fun _ t => va_P D CLS (wR a q r0.2.1 r0.2.2.1 r0.2.2.2.1 r0.2.2.2.2.1 r0.2.2.2.2.2.1 r0.2.2.2.2.2.2 g6 g7 g8 g9 g10 g11 g12 g13 g14 g15 g16 g17 g18 g19) t.heap) A) args s 0 0 A) (F0 m 13 ls [.ref (a 0)]) := by
  obtain ⟨hx, hb, hml, hown, hts, hr, hlocks⟩ := id hC
  intro v1 v3 v5 g0 g1 g2 g3 g4 g5 H locs ls hP hD hS hl h
  rw [f_Ref_bounds_13] at h
  refine lv_iconst (v := 1) hx hb (dt_at dt_Ref_bounds 7 rfl) (by decide) ?_
  refine lv_goto (tgt := 31) hx hb (dt_at dt_Ref_bounds 8 rfl) (by decide) ?_
  exact k_Ref_bounds_31 hC hA hK   (1 : Int32) v1 v3 v5 g0 g1 g2 g3 g4 g5 H locs ls hP hD hS (lv_sub hl [0, 1, 2, 3] rfl) h
set_option maxRecDepth 100000 in
set_option maxHeartbeats 4000000 in
theorem k_Ref_bounds_0 {p : Program} {l : Launch} {e : Env} {s : State} {m : MethodId} {args : Array Value} {below : List Frame} {meth : Method} {c : Code} {D : va_G} {a : Nat → Nat} {q : Nat → ClassId} {A : Nat → Prop} (hC : CX p s m args meth c prog_12_method_41_code 11 "OutwardTapeModel" (some .int)) (hA : ∀ x, s.heap.size ≤ x → A x) (hK : va_K D CLS (tR q) s) {g6 : Nat → Int32} {g7 : Int32} {g8 : Nat → Int32} {g9 : Int32} {g10 : Int64} {g11 : Int64} {g12 : Int32} {g13 : Int32} {g14 : Int32} {g15 : Int64} {g16 : Int32} {g17 : Int32} {g18 : Int64} {g19 : Int32} {r0 : Int32 × Int32 × (Nat → Int32) × (Nat → Int64) × (Nat → Int64) × (Nat → Int32) × Int32} : ∀ (v1 : Int64) (v3 : Int64) (v5 : Int32) (g0 : Int32) (g1 : Nat → Int32) (g2 : Nat → Int64) (g3 : Nat → Int64) (g4 : Nat → Int32) (g5 : Int32) (H : Heap) (locs : List Loc) (ls : Array Slot), va_P D CLS (wR a q g0 g1 g2 g3 g4 g5 g6 g7 g8 g9 g10 g11 g12 g13 g14 g15 g16 g17 g18 g19) H → va_D A (wR a q g0 g1 g2 g3 g4 g5 g6 g7 g8 g9 g10 g11 g12 g13 g14 g15 g16 g17 g18 g19) → va_S A s.heap H locs → lv_has ls 11 [(0, .ref (a 0)), (1, .long v1), (3, .long v3), (5, .int v5)] → f_Ref_bounds_0  v1 v3 v5 g0 g1 g2 g3 g4 g5 = some r0 → W p l e rm_Ref_bounds s m args below meth c H locs 0 0 (MQ below (va_Qi (fun (r : Int32) (_ : Unit) => r = r0.1) (fun _ t => va_P D CLS (wR a q r0.2.1 r0.2.2.1 r0.2.2.2.1 r0.2.2.2.2.1 r0.2.2.2.2.2.1 r0.2.2.2.2.2.2 g6 g7 g8 g9 g10 g11 g12 g13 g14 g15 g16 g17 g18 g19) t.heap) A) args s 0 0 A) (F0 m 0 ls []) := by
  obtain ⟨hx, hb, hml, hown, hts, hr, hlocks⟩ := id hC
  intro v1 v3 v5 g0 g1 g2 g3 g4 g5 H locs ls hP hD hS hl h
  rw [f_Ref_bounds_0] at h
  refine lv_aload_n hx hb (dt_at dt_Ref_bounds 0 rfl) rfl (lv_at hl 0 rfl) ?_
  refine lv_iload hx hb (dt_at dt_Ref_bounds 1 rfl) (lv_at hl 3 rfl) ?_
  refine lv_iconst (v := 1) hx hb (dt_at dt_Ref_bounds 2 rfl) (by decide) ?_
  refine lv_icmp_lt (tgt := 13) hx hb (dt_at dt_Ref_bounds 3 rfl) (by decide) (fun c1 => ?_) (fun c1 => ?_)
  · have h := if_p h c1
    exact k_Ref_bounds_13 hC hA hK   v1 v3 v5 g0 g1 g2 g3 g4 g5 H locs ls hP hD hS (lv_sub hl [0, 1, 2, 3] rfl) h
  · have h := if_n h c1
    refine lv_iload hx hb (dt_at dt_Ref_bounds 4 rfl) (lv_at hl 3 rfl) ?_
    refine lv_iconst (v := 4) hx hb (dt_at dt_Ref_bounds 5 rfl) (by decide) ?_
    refine lv_icmp_le (tgt := 17) hx hb (dt_at dt_Ref_bounds 6 rfl) (by decide) (fun c2 => ?_) (fun c2 => ?_)
    · have h := if_p h c2
      refine lv_aload_n hx hb (dt_at dt_Ref_bounds 9 rfl) rfl (lv_at hl 0 rfl) ?_
      refine va_get (D := D) (ci := 0) (v := .int g0) (C := "OutwardTapeModel") (T := T_Ref) (N := 20) hx hb hts in_Ref hown hK hP 0 rfl rfl 0 (by decide) (hts (Cond.fieldLink "OutwardTapeModel" 173 "OutwardTapeModel" "count" "I") (m_3 239 rfl rfl)) (fun _ h9 => h9) rfl (dt_at dt_Ref_bounds 10 rfl) ?_
      refine lv_bipush (v := 40) hx hb (dt_at dt_Ref_bounds 11 rfl) (by decide) ?_
      refine lv_icmp_ne (tgt := 30) hx hb (dt_at dt_Ref_bounds 12 rfl) (by decide) (fun c3 => ?_) (fun c3 => ?_)
      · have h := if_n h c3
        refine lv_iconst (v := 0) hx hb (dt_at dt_Ref_bounds 15 rfl) (by decide) ?_
        exact k_Ref_bounds_31 hC hA hK   (0 : Int32) v1 v3 v5 g0 g1 g2 g3 g4 g5 H locs ls hP hD hS (lv_sub hl [0, 1, 2, 3] rfl) h
      · have h := if_p h c3
        refine lv_iconst (v := 2) hx hb (dt_at dt_Ref_bounds 13 rfl) (by decide) ?_
        refine lv_goto (tgt := 31) hx hb (dt_at dt_Ref_bounds 14 rfl) (by decide) ?_
        exact k_Ref_bounds_31 hC hA hK   (2 : Int32) v1 v3 v5 g0 g1 g2 g3 g4 g5 H locs ls hP hD hS (lv_sub hl [0, 1, 2, 3] rfl) h
    · have h := if_n h c2
      exact k_Ref_bounds_13 hC hA hK   v1 v3 v5 g0 g1 g2 g3 g4 g5 H locs ls hP hD hS (lv_sub hl [0, 1, 2, 3] rfl) h
set_option maxRecDepth 100000 in
set_option maxHeartbeats 4000000 in
theorem c_Ref_bounds (l : Launch) (D : va_G) (a : Nat → Nat) (q : Nat → ClassId) (hd : va_D (fun _ => True) (dR a)) (sz : Nat) (a1 : Int64) (a3 : Int64) (a5 : Int32) (g0 : Int32) (g1 : Nat → Int32) (g2 : Nat → Int64) (g3 : Nat → Int64) (g4 : Nat → Int32) (g5 : Int32) (g6 : Nat → Int32) (g7 : Int32) (g8 : Nat → Int32) (g9 : Int32) (g10 : Int64) (g11 : Int64) (g12 : Int32) (g13 : Int32) (g14 : Int32) (g15 : Int64) (g16 : Int32) (g17 : Int32) (g18 : Int64) (g19 : Int32) (r0 : Int32 × Int32 × (Nat → Int32) × (Nat → Int64) × (Nat → Int64) × (Nat → Int32) × Int32) (h : f_Ref_bounds a1 a3 a5 g0 g1 g2 g3 g4 g5 = some r0) : Met l (⟨"OutwardTapeModel", "bounds", "(JJI)I"⟩ : MethodName) (WSm (⟨"OutwardTapeModel", "bounds", "(JJI)I"⟩ : MethodName) prog_12_method_41_code 11 (some .int)) rm_Ref_bounds (va_Pc [.ref (a 0), .long a1, .long a3, .int a5] (fun U => U.heap.size = sz ∧ va_P D CLS (wR a q g0 g1 g2 g3 g4 g5 g6 g7 g8 g9 g10 g11 g12 g13 g14 g15 g16 g17 g18 g19) U.heap ∧ va_K D CLS (tR q) U)) (va_Qi (fun (r : Int32) (_ : Unit) => r = r0.1) (fun _ t => va_P D CLS (wR a q r0.2.1 r0.2.2.1 r0.2.2.2.1 r0.2.2.2.2.1 r0.2.2.2.2.2.1 r0.2.2.2.2.2.2 g6 g7 g8 g9 g10 g11 g12 g13 g14 g15 g16 g17 g18 g19) t.heap) (va_A (dR a) sz)) 0 0 (va_A (dR a) sz) := by
  refine Met.ofW (cc := prog_12_method_41_code) (maxL := 11) (ret := (some .int)) (by decide) rfl ?_
  intro p e s m args below meth c s₁ B hml hv
  obtain ⟨rfl, hsz, hP, hK⟩ := hv
  subst hsz
  have hC := CX.of B hml rfl
  have hl := lv_entry [.ref (a 0), .long a1, .long a3, .int a5] (n := 11) (Nat.le_of_ble_eq_true rfl)
  rw [lg_entry_eq]
  generalize (lg_sl [.ref (a 0), .long a1, .long a3, .int a5] ++ List.replicate (11 - (lg_sl [.ref (a 0), .long a1, .long a3, .int a5]).length) Slot.unset).toArray = ls at hl ⊢
  have hl : lv_has ls 11 [(0, .ref (a 0)), (1, .long a1), (3, .long a3), (5, .int a5)] := hl
  exact k_Ref_bounds_0 hC (fun x h => Or.inr h) hK a1 a3 a5 g0 g1 g2 g3 g4 g5 s.heap [] ls hP (dD hd.self rfl) va_S.rf (lv_sub hl [0, 1, 2, 3] rfl) h
abbrev rm_Ref_keep : Room := { frames := 3, cells := 0, slots := 0, locals := 65 }
set_option maxRecDepth 100000 in
set_option maxHeartbeats 4000000 in
theorem k_Ref_keep_44 {p : Program} {l : Launch} {e : Env} {s : State} {m : MethodId} {args : Array Value} {below : List Frame} {meth : Method} {c : Code} {D : va_G} {a : Nat → Nat} {q : Nat → ClassId} {A : Nat → Prop} (hC : CX p s m args meth c prog_12_method_44_code 5 "OutwardTapeModel" (some .int)) (hA : ∀ x, s.heap.size ≤ x → A x) (hK : va_K D CLS (tR q) s) {g5 : Int32} {g6 : Nat → Int32} {g7 : Int32} {g8 : Nat → Int32} {g9 : Int32} {g10 : Int64} {g11 : Int64} {g12 : Int32} {g13 : Int32} {g14 : Int32} {g15 : Int64} {g16 : Int32} {g17 : Int32} {g18 : Int64} {g19 : Int32} {r0 : Int32 × Int32 × (Nat → Int32) × (Nat → Int64) × (Nat → Int64) × (Nat → Int32)} : ∀ (s0 : Int32) (v3 : Int32) (g0 : Int32) (g1 : Nat → Int32) (g2 : Nat → Int64) (g3 : Nat → Int64) (g4 : Nat → Int32) (H : Heap) (locs : List Loc) (ls : Array Slot), va_P D CLS (wR a q g0 g1 g2 g3 g4 g5 g6 g7 g8 g9 g10 g11 g12 g13 g14 g15 g16 g17 g18 g19) H → va_D A (wR a q g0 g1 g2 g3 g4 g5 g6 g7 g8 g9 g10 g11 g12 g13 g14 g15 g16 g17 g18 g19) → va_S A s.heap H locs → lv_has ls 5 [(0, .ref (a 0)), (3, .int v3)] → f_Ref_keep_44  s0 v3 g0 g1 g2 g3 g4 g10 g11 g12 = some r0 → W p l e rm_Ref_keep s m args below meth c H locs 0 0 (MQ below (va_Qi (fun (r : Int32) (_ : Unit) => r = r0.1) (fun _ t => va_P D CLS (wR a q r0.2.1 r0.2.2.1 r0.2.2.2.1 r0.2.2.2.2.1 r0.2.2.2.2.2 g5 g6 g7 g8 g9 g10 g11 g12 g13 g14 g15 g16 g17 g18 g19) t.heap) A) args s 0 0 A) (F0 m 44 ls [.int s0]) := by
  obtain ⟨hx, hb, hml, hown, hts, hr, hlocks⟩ := id hC
  intro s0 v3 g0 g1 g2 g3 g4 H locs ls hP hD hS hl h
  rw [f_Ref_keep_44] at h
  refine lv_istore (lv' := [(4, .int s0), (0, .ref (a 0)), (3, .int v3)]) hx hb (dt_at dt_Ref_keep 24 rfl) hl (by decide) rfl (fun ls hl => ?_)
  refine lv_aload_n hx hb (dt_at dt_Ref_keep 25 rfl) rfl (lv_at hl 1 rfl) ?_
  refine lv_iconst (v := 2) hx hb (dt_at dt_Ref_keep 26 rfl) (by decide) ?_
  refine lv_aload_n hx hb (dt_at dt_Ref_keep 27 rfl) rfl (lv_at hl 1 rfl) ?_
  refine va_get (D := D) (ci := 0) (v := .long g10) (C := "OutwardTapeModel") (T := T_Ref) (N := 20) hx hb hts in_Ref hown hK hP 0 rfl rfl 10 (by decide) (hts (Cond.fieldLink "OutwardTapeModel" 126 "OutwardTapeModel" "resultLow" "J") (m_4 9 rfl rfl)) (fun _ h9 => h9) rfl (dt_at dt_Ref_keep 28 rfl) ?_
  refine lv_aload_n hx hb (dt_at dt_Ref_keep 29 rfl) rfl (lv_at hl 1 rfl) ?_
  refine va_get (D := D) (ci := 0) (v := .long g11) (C := "OutwardTapeModel") (T := T_Ref) (N := 20) hx hb hts in_Ref hown hK hP 0 rfl rfl 11 (by decide) (hts (Cond.fieldLink "OutwardTapeModel" 130 "OutwardTapeModel" "resultHigh" "J") (m_4 10 rfl rfl)) (fun _ h9 => h9) rfl (dt_at dt_Ref_keep 30 rfl) ?_
  refine lv_iload hx hb (dt_at dt_Ref_keep 31 rfl) (lv_at hl 0 rfl) ?_
  refine lv_iload_n hx hb (dt_at dt_Ref_keep 32 rfl) rfl (lv_at hl 2 rfl) ?_
  obtain ⟨r1, h_r1, h⟩ := ob_of h
  refine vp_callSi (W.runS (As := [.int s0, .int v3]) (rest := [.long g11, .long g10, .int (2 : Int32), .ref (a 0)]) ⟨hx, hb, hml, hown, hts⟩ (c_Ref_least l s0 v3 r1 h_r1) (va_cwS 2 hts (gd_S (m_4 212 rfl rfl) (m_4 213 rfl rfl) (m_1 4 rfl rfl) (m_4 214 rfl rfl)) rfl rfl rfl (by decide +kernel) ⟨Nat.le_of_ble_eq_true rfl, Nat.le_of_ble_eq_true rfl⟩) ⟨fun _ _ _ _ q => q, fun U hU hW => ⟨rfl, trivial⟩⟩ rfl rfl hl.1 rfl (lv_room (Nat.le_of_ble_eq_true rfl)) (dt_at dt_Ref_keep 33 rfl) ⟨Nat.le_of_ble_eq_true rfl, Nat.le_of_ble_eq_true rfl⟩) (fun u_r1 q_r1 => ?_)
  obtain rfl : r1 = u_r1 := q_r1.symm
  obtain ⟨r2, h_r2, h⟩ := ob_of h
  have hF := va_free (wc := dR a) (dD (ws' := dR a) hD rfl) hS hA [0, 1, 2, 3, 4, 5, 6] rfl
  have hd : va_D (fun _ => True) (dR a) := (dD (ws' := dR a) hD rfl).weaken (fun _ _ _ _ => trivial)
  refine va_calli (va_runV (As := [.int (2 : Int32), .long g10, .long g11, .int r1]) (rest := []) ⟨hx, hb, hml, hown, hts⟩ (c_Ref_cell l D a q hd H.size (2 : Int32) g10 g11 r1 g0 g1 g2 g3 g4 g5 g6 g7 g8 g9 g10 g11 g12 g13 g14 g15 g16 g17 g18 g19 r2 h_r2) (cwV 4 hts (gd_V (m_4 88 rfl rfl) (m_4 90 rfl rfl) (m_s 23 rfl rfl) (m_1 4 rfl rfl) (m_4 91 rfl rfl)) rfl rfl rfl (by decide +kernel) ⟨Nat.le_of_ble_eq_true rfl, Nat.le_of_ble_eq_true rfl⟩) ⟨fun a U g mk q => ⟨q.1, q.2.1, q.2.2.1, va_K.moved (u := U) (U := U.calling g mk a) (Vm.Alike.refl U.vm) q.2.2.2⟩, va_recv hK hP (ci := 0) (q0 := 0) rfl rfl, fun U hU hW => ⟨rfl, by rw [hU], by rw [hU]; exact hP, va_K.moved hW.alike hK⟩⟩ rfl rfl hl.1 rfl (lv_room (Nat.le_of_ble_eq_true rfl)) (dt_at dt_Ref_keep 34 rfl) ⟨Nat.le_of_ble_eq_true rfl, Nat.le_of_ble_eq_true rfl⟩) hS (fun x _ h9 => hF x h9) hF (fun u_r2 uu t H locs ht hvm hw hB hz1 hk1 hS => ?_)
  rw [ht] at hB
  subst hw
  have hP : va_P D CLS (wR a q r2.2.1 r2.2.2.1 r2.2.2.2.1 r2.2.2.2.2.1 r2.2.2.2.2.2 g5 g6 g7 g8 g9 g10 g11 g12 g13 g14 g15 g16 g17 g18 g19) H := hB
  have hD : va_D A (wR a q r2.2.1 r2.2.2.1 r2.2.2.2.1 r2.2.2.2.2.1 r2.2.2.2.2.2 g5 g6 g7 g8 g9 g10 g11 g12 g13 g14 g15 g16 g17 g18 g19) := dD hD rfl
  obtain rfl := os_of h
  exact W.iret (v := r2.1) hx hb hr (fun t ht hW => ⟨⟨_, (), rfl, rfl, (hPt hP ht)⟩, hS.F ht⟩) hS.2.2 (dt_at dt_Ref_keep 35 rfl)
set_option maxRecDepth 100000 in
set_option maxHeartbeats 4000000 in
theorem k_Ref_keep_43 {p : Program} {l : Launch} {e : Env} {s : State} {m : MethodId} {args : Array Value} {below : List Frame} {meth : Method} {c : Code} {D : va_G} {a : Nat → Nat} {q : Nat → ClassId} {A : Nat → Prop} (hC : CX p s m args meth c prog_12_method_44_code 5 "OutwardTapeModel" (some .int)) (hA : ∀ x, s.heap.size ≤ x → A x) (hK : va_K D CLS (tR q) s) {g5 : Int32} {g6 : Nat → Int32} {g7 : Int32} {g8 : Nat → Int32} {g9 : Int32} {g10 : Int64} {g11 : Int64} {g12 : Int32} {g13 : Int32} {g14 : Int32} {g15 : Int64} {g16 : Int32} {g17 : Int32} {g18 : Int64} {g19 : Int32} {r0 : Int32 × Int32 × (Nat → Int32) × (Nat → Int64) × (Nat → Int64) × (Nat → Int32)} : ∀ (v1 : Int32) (v3 : Int32) (g0 : Int32) (g1 : Nat → Int32) (g2 : Nat → Int64) (g3 : Nat → Int64) (g4 : Nat → Int32) (H : Heap) (locs : List Loc) (ls : Array Slot), va_P D CLS (wR a q g0 g1 g2 g3 g4 g5 g6 g7 g8 g9 g10 g11 g12 g13 g14 g15 g16 g17 g18 g19) H → va_D A (wR a q g0 g1 g2 g3 g4 g5 g6 g7 g8 g9 g10 g11 g12 g13 g14 g15 g16 g17 g18 g19) → va_S A s.heap H locs → lv_has ls 5 [(0, .ref (a 0)), (1, .int v1), (3, .int v3)] → f_Ref_keep_43  v1 v3 g0 g1 g2 g3 g4 g10 g11 g12 = some r0 → W p l e rm_Ref_keep s m args below meth c H locs 0 0 (MQ below (va_Qi (fun (r : Int32) (_ : Unit) => r = r0.1) (fun _ t => va_P D CLS (wR a q r0.2.1 r0.2.2.1 r0.2.2.2.1 r0.2.2.2.2.1 r0.2.2.2.2.2 g5 g6 g7 g8 g9 g10 g11 g12 g13 g14 g15 g16 g17 g18 g19) t.heap) A) args s 0 0 A) (F0 m 43 ls []) := by
  obtain ⟨hx, hb, hml, hown, hts, hr, hlocks⟩ := id hC
  intro v1 v3 g0 g1 g2 g3 g4 H locs ls hP hD hS hl h
  rw [f_Ref_keep_43] at h
  refine lv_iload_n hx hb (dt_at dt_Ref_keep 23 rfl) rfl (lv_at hl 1 rfl) ?_
  exact k_Ref_keep_44 hC hA hK   v1 v3 g0 g1 g2 g3 g4 H locs ls hP hD hS (lv_sub hl [0, 2] rfl) h
set_option maxRecDepth 100000 in
set_option maxHeartbeats 4000000 in
theorem k_Ref_keep_0 {p : Program} {l : Launch} {e : Env} {s : State} {m : MethodId} {args : Array Value} {below : List Frame} {meth : Method} {c : Code} {D : va_G} {a : Nat → Nat} {q : Nat → ClassId} {A : Nat → Prop} (hC : CX p s m args meth c prog_12_method_44_code 5 "OutwardTapeModel" (some .int)) (hA : ∀ x, s.heap.size ≤ x → A x) (hK : va_K D CLS (tR q) s) {g5 : Int32} {g6 : Nat → Int32} {g7 : Int32} {g8 : Nat → Int32} {g9 : Int32} {g10 : Int64} {g11 : Int64} {g12 : Int32} {g13 : Int32} {g14 : Int32} {g15 : Int64} {g16 : Int32} {g17 : Int32} {g18 : Int64} {g19 : Int32} {r0 : Int32 × Int32 × (Nat → Int32) × (Nat → Int64) × (Nat → Int64) × (Nat → Int32)} : ∀ (v1 : Int32) (v2 : Int32) (v3 : Int32) (g0 : Int32) (g1 : Nat → Int32) (g2 : Nat → Int64) (g3 : Nat → Int64) (g4 : Nat → Int32) (H : Heap) (locs : List Loc) (ls : Array Slot), va_P D CLS (wR a q g0 g1 g2 g3 g4 g5 g6 g7 g8 g9 g10 g11 g12 g13 g14 g15 g16 g17 g18 g19) H → va_D A (wR a q g0 g1 g2 g3 g4 g5 g6 g7 g8 g9 g10 g11 g12 g13 g14 g15 g16 g17 g18 g19) → va_S A s.heap H locs → lv_has ls 5 [(0, .ref (a 0)), (1, .int v1), (2, .int v2), (3, .int v3)] → f_Ref_keep_0  v1 v2 v3 g0 g1 g2 g3 g4 g10 g11 g12 = some r0 → W p l e rm_Ref_keep s m args below meth c H locs 0 0 (MQ below (va_Qi (fun (r : Int32) (_ : Unit) => r = r0.1) (fun _ t => va_P D CLS (wR a q r0.2.1 r0.2.2.1 r0.2.2.2.1 r0.2.2.2.2.1 r0.2.2.2.2.2 g5 g6 g7 g8 g9 g10 g11 g12 g13 g14 g15 g16 g17 g18 g19) t.heap) A) args s 0 0 A) (F0 m 0 ls []) := by
  obtain ⟨hx, hb, hml, hown, hts, hr, hlocks⟩ := id hC
  intro v1 v2 v3 g0 g1 g2 g3 g4 H locs ls hP hD hS hl h
  rw [f_Ref_keep_0] at h
  refine lv_aload_n hx hb (dt_at dt_Ref_keep 0 rfl) rfl (lv_at hl 0 rfl) ?_
  refine va_get (D := D) (ci := 0) (v := .int g12) (C := "OutwardTapeModel") (T := T_Ref) (N := 20) hx hb hts in_Ref hown hK hP 0 rfl rfl 12 (by decide) (hts (Cond.fieldLink "OutwardTapeModel" 144 "OutwardTapeModel" "none" "Z") (m_4 11 rfl rfl)) (fun _ h9 => h9) rfl (dt_at dt_Ref_keep 1 rfl) ?_
  refine lv_if_eq (tgt := 16) hx hb (dt_at dt_Ref_keep 2 rfl) (by decide) (fun c1 => ?_) (fun c1 => ?_)
  · have h := if_p h c1
    refine lv_iload_n hx hb (dt_at dt_Ref_keep 10 rfl) rfl (lv_at hl 1 rfl) ?_
    refine lv_iconst (v := 3) hx hb (dt_at dt_Ref_keep 11 rfl) (by decide) ?_
    refine lv_icmp_ne (tgt := 43) hx hb (dt_at dt_Ref_keep 12 rfl) (by decide) (fun c2 => ?_) (fun c2 => ?_)
    · have h := if_n h c2
      exact k_Ref_keep_43 hC hA hK   v1 v3 g0 g1 g2 g3 g4 H locs ls hP hD hS (lv_sub hl [0, 1, 3] rfl) h
    · have h := if_p h c2
      refine lv_iload_n hx hb (dt_at dt_Ref_keep 13 rfl) rfl (lv_at hl 2 rfl) ?_
      refine lv_if_eq (tgt := 43) hx hb (dt_at dt_Ref_keep 14 rfl) (by decide) (fun c3 => ?_) (fun c3 => ?_)
      · have h := if_p h c3
        exact k_Ref_keep_43 hC hA hK   v1 v3 g0 g1 g2 g3 g4 H locs ls hP hD hS (lv_sub hl [0, 1, 3] rfl) h
      · have h := if_n h c3
        refine lv_aload_n hx hb (dt_at dt_Ref_keep 15 rfl) rfl (lv_at hl 0 rfl) ?_
        refine va_get (D := D) (ci := 0) (v := .long g10) (C := "OutwardTapeModel") (T := T_Ref) (N := 20) hx hb hts in_Ref hown hK hP 0 rfl rfl 10 (by decide) (hts (Cond.fieldLink "OutwardTapeModel" 126 "OutwardTapeModel" "resultLow" "J") (m_4 9 rfl rfl)) (fun _ h9 => h9) rfl (dt_at dt_Ref_keep 16 rfl) ?_
        refine lv_aload_n hx hb (dt_at dt_Ref_keep 17 rfl) rfl (lv_at hl 0 rfl) ?_
        refine va_get (D := D) (ci := 0) (v := .long g11) (C := "OutwardTapeModel") (T := T_Ref) (N := 20) hx hb hts in_Ref hown hK hP 0 rfl rfl 11 (by decide) (hts (Cond.fieldLink "OutwardTapeModel" 130 "OutwardTapeModel" "resultHigh" "J") (m_4 10 rfl rfl)) (fun _ h9 => h9) rfl (dt_at dt_Ref_keep 18 rfl) ?_
        obtain ⟨r4, h_r4, h⟩ := ob_of h
        refine vp_callSi (W.runS (As := [.long g10, .long g11]) (rest := []) ⟨hx, hb, hml, hown, hts⟩ (c_Ref_bounded l g10 g11 r4 h_r4) (va_cwS 2 hts (gd_S (m_4 75 rfl rfl) (m_4 76 rfl rfl) (m_1 4 rfl rfl) (m_4 77 rfl rfl)) rfl rfl rfl (by decide +kernel) ⟨Nat.le_of_ble_eq_true rfl, Nat.le_of_ble_eq_true rfl⟩) ⟨fun _ _ _ _ q => q, fun U hU hW => ⟨rfl, trivial⟩⟩ rfl rfl hl.1 rfl (lv_room (Nat.le_of_ble_eq_true rfl)) (dt_at dt_Ref_keep 19 rfl) ⟨Nat.le_of_ble_eq_true rfl, Nat.le_of_ble_eq_true rfl⟩) (fun u_r4 q_r4 => ?_)
        obtain rfl : r4 = u_r4 := q_r4.symm
        refine lv_if_eq (tgt := 43) hx hb (dt_at dt_Ref_keep 20 rfl) (by decide) (fun c5 => ?_) (fun c5 => ?_)
        · have h := if_p h c5
          exact k_Ref_keep_43 hC hA hK   v1 v3 g0 g1 g2 g3 g4 H locs ls hP hD hS (lv_sub hl [0, 1, 3] rfl) h
        · have h := if_n h c5
          refine lv_iconst (v := 4) hx hb (dt_at dt_Ref_keep 21 rfl) (by decide) ?_
          refine lv_goto (tgt := 44) hx hb (dt_at dt_Ref_keep 22 rfl) (by decide) ?_
          exact k_Ref_keep_44 hC hA hK   (4 : Int32) v3 g0 g1 g2 g3 g4 H locs ls hP hD hS (lv_sub hl [0, 3] rfl) h
  · have h := if_n h c1
    refine lv_aload_n hx hb (dt_at dt_Ref_keep 3 rfl) rfl (lv_at hl 0 rfl) ?_
    refine lv_iconst (v := 1) hx hb (dt_at dt_Ref_keep 4 rfl) (by decide) ?_
    refine lv_lconst (v := 0) hx hb (dt_at dt_Ref_keep 5 rfl) (by decide) ?_
    refine lv_lconst (v := 0) hx hb (dt_at dt_Ref_keep 6 rfl) (by decide) ?_
    refine lv_iconst (v := 1) hx hb (dt_at dt_Ref_keep 7 rfl) (by decide) ?_
    obtain ⟨r6, h_r6, h⟩ := ob_of h
    have hF := va_free (wc := dR a) (dD (ws' := dR a) hD rfl) hS hA [0, 1, 2, 3, 4, 5, 6] rfl
    have hd : va_D (fun _ => True) (dR a) := (dD (ws' := dR a) hD rfl).weaken (fun _ _ _ _ => trivial)
    refine va_calli (va_runV (As := [.int (1 : Int32), .long (0 : Int64), .long (0 : Int64), .int (1 : Int32)]) (rest := []) ⟨hx, hb, hml, hown, hts⟩ (c_Ref_cell l D a q hd H.size (1 : Int32) (0 : Int64) (0 : Int64) (1 : Int32) g0 g1 g2 g3 g4 g5 g6 g7 g8 g9 g10 g11 g12 g13 g14 g15 g16 g17 g18 g19 r6 h_r6) (cwV 4 hts (gd_V (m_4 88 rfl rfl) (m_4 90 rfl rfl) (m_s 23 rfl rfl) (m_1 4 rfl rfl) (m_4 91 rfl rfl)) rfl rfl rfl (by decide +kernel) ⟨Nat.le_of_ble_eq_true rfl, Nat.le_of_ble_eq_true rfl⟩) ⟨fun a U g mk q => ⟨q.1, q.2.1, q.2.2.1, va_K.moved (u := U) (U := U.calling g mk a) (Vm.Alike.refl U.vm) q.2.2.2⟩, va_recv hK hP (ci := 0) (q0 := 0) rfl rfl, fun U hU hW => ⟨rfl, by rw [hU], by rw [hU]; exact hP, va_K.moved hW.alike hK⟩⟩ rfl rfl hl.1 rfl (lv_room (Nat.le_of_ble_eq_true rfl)) (dt_at dt_Ref_keep 8 rfl) ⟨Nat.le_of_ble_eq_true rfl, Nat.le_of_ble_eq_true rfl⟩) hS (fun x _ h9 => hF x h9) hF (fun u_r6 uu t H locs ht hvm hw hB hz1 hk1 hS => ?_)
    rw [ht] at hB
    subst hw
    have hP : va_P D CLS (wR a q r6.2.1 r6.2.2.1 r6.2.2.2.1 r6.2.2.2.2.1 r6.2.2.2.2.2 g5 g6 g7 g8 g9 g10 g11 g12 g13 g14 g15 g16 g17 g18 g19) H := hB
    have hD : va_D A (wR a q r6.2.1 r6.2.2.1 r6.2.2.2.1 r6.2.2.2.2.1 r6.2.2.2.2.2 g5 g6 g7 g8 g9 g10 g11 g12 g13 g14 g15 g16 g17 g18 g19) := dD hD rfl
    obtain rfl := os_of h
    exact W.iret (v := r6.1) hx hb hr (fun t ht hW => ⟨⟨_, (), rfl, rfl, (hPt hP ht)⟩, hS.F ht⟩) hS.2.2 (dt_at dt_Ref_keep 9 rfl)
set_option maxRecDepth 100000 in
set_option maxHeartbeats 4000000 in
theorem c_Ref_keep (l : Launch) (D : va_G) (a : Nat → Nat) (q : Nat → ClassId) (hd : va_D (fun _ => True) (dR a)) (sz : Nat) (a1 : Int32) (a2 : Int32) (a3 : Int32) (g0 : Int32) (g1 : Nat → Int32) (g2 : Nat → Int64) (g3 : Nat → Int64) (g4 : Nat → Int32) (g5 : Int32) (g6 : Nat → Int32) (g7 : Int32) (g8 : Nat → Int32) (g9 : Int32) (g10 : Int64) (g11 : Int64) (g12 : Int32) (g13 : Int32) (g14 : Int32) (g15 : Int64) (g16 : Int32) (g17 : Int32) (g18 : Int64) (g19 : Int32) (r0 : Int32 × Int32 × (Nat → Int32) × (Nat → Int64) × (Nat → Int64) × (Nat → Int32)) (h : f_Ref_keep a1 a2 a3 g0 g1 g2 g3 g4 g10 g11 g12 = some r0) : Met l (⟨"OutwardTapeModel", "keep", "(IZI)I"⟩ : MethodName) (WSm (⟨"OutwardTapeModel", "keep", "(IZI)I"⟩ : MethodName) prog_12_method_44_code 5 (some .int)) rm_Ref_keep (va_Pc [.ref (a 0), .int a1, .int a2, .int a3] (fun U => U.heap.size = sz ∧ va_P D CLS (wR a q g0 g1 g2 g3 g4 g5 g6 g7 g8 g9 g10 g11 g12 g13 g14 g15 g16 g17 g18 g19) U.heap ∧ va_K D CLS (tR q) U)) (va_Qi (fun (r : Int32) (_ : Unit) => r = r0.1) (fun _ t => va_P D CLS (wR a q r0.2.1 r0.2.2.1 r0.2.2.2.1 r0.2.2.2.2.1 r0.2.2.2.2.2 g5 g6 g7 g8 g9 g10 g11 g12 g13 g14 g15 g16 g17 g18 g19) t.heap) (va_A (dR a) sz)) 0 0 (va_A (dR a) sz) := by
  refine Met.ofW (cc := prog_12_method_44_code) (maxL := 5) (ret := (some .int)) (by decide) rfl ?_
  intro p e s m args below meth c s₁ B hml hv
  obtain ⟨rfl, hsz, hP, hK⟩ := hv
  subst hsz
  have hC := CX.of B hml rfl
  have hl := lv_entry [.ref (a 0), .int a1, .int a2, .int a3] (n := 5) (Nat.le_of_ble_eq_true rfl)
  rw [lg_entry_eq]
  generalize (lg_sl [.ref (a 0), .int a1, .int a2, .int a3] ++ List.replicate (5 - (lg_sl [.ref (a 0), .int a1, .int a2, .int a3]).length) Slot.unset).toArray = ls at hl ⊢
  have hl : lv_has ls 5 [(0, .ref (a 0)), (1, .int a1), (2, .int a2), (3, .int a3)] := hl
  exact k_Ref_keep_0 hC (fun x h => Or.inr h) hK a1 a2 a3 g0 g1 g2 g3 g4 s.heap [] ls hP (dD hd.self rfl) va_S.rf (lv_sub hl [0, 1, 2, 3] rfl) h
abbrev rm_Ref_unary : Room := { frames := 7, cells := 0, slots := 0, locals := 194 }
set_option maxRecDepth 100000 in
set_option maxHeartbeats 4000000 in
theorem k_Ref_unary_87 {p : Program} {l : Launch} {e : Env} {s : State} {m : MethodId} {args : Array Value} {below : List Frame} {meth : Method} {c : Code} {D : va_G} {a : Nat → Nat} {q : Nat → ClassId} {A : Nat → Prop} (hC : CX p s m args meth c prog_12_method_45_code 4 "OutwardTapeModel" (some .int)) (hA : ∀ x, s.heap.size ≤ x → A x) (hK : va_K D CLS (tR q) s) {g6 : Nat → Int32} {g7 : Int32} {g13 : Int32} {g14 : Int32} {g15 : Int64} {g16 : Int32} {g17 : Int32} {g18 : Int64} {g19 : Int32} {r0 : Int32 × Int32 × (Nat → Int32) × (Nat → Int64) × (Nat → Int64) × (Nat → Int32) × Int32 × (Nat → Int32) × Int32 × Int64 × Int64 × Int32} : ∀ (s0 : Int32) (g0 : Int32) (g1 : Nat → Int32) (g2 : Nat → Int64) (g3 : Nat → Int64) (g4 : Nat → Int32) (g5 : Int32) (g8 : Nat → Int32) (g9 : Int32) (g10 : Int64) (g11 : Int64) (g12 : Int32) (H : Heap) (locs : List Loc) (ls : Array Slot), va_P D CLS (wR a q g0 g1 g2 g3 g4 g5 g6 g7 g8 g9 g10 g11 g12 g13 g14 g15 g16 g17 g18 g19) H → va_D A (wR a q g0 g1 g2 g3 g4 g5 g6 g7 g8 g9 g10 g11 g12 g13 g14 g15 g16 g17 g18 g19) → va_S A s.heap H locs → lv_has ls 4 [] → f_Ref_unary_87  s0 g0 g1 g2 g3 g4 g5 g8 g9 g10 g11 g12 = some r0 → W p l e rm_Ref_unary s m args below meth c H locs 0 0 (MQ below (va_Qi (fun (r : Int32) (_ : Unit) => r = r0.1) (fun _ t => va_P D CLS (wR a q r0.2.1 r0.2.2.1 r0.2.2.2.1 r0.2.2.2.2.1 r0.2.2.2.2.2.1 r0.2.2.2.2.2.2.1 g6 g7 r0.2.2.2.2.2.2.2.1 r0.2.2.2.2.2.2.2.2.1 r0.2.2.2.2.2.2.2.2.2.1 r0.2.2.2.2.2.2.2.2.2.2.1 r0.2.2.2.2.2.2.2.2.2.2.2 g13 g14 g15 g16 g17 g18 g19) t.heap) A) args s 0 0 A) (F0 m 87 ls [.int s0]) := by
  obtain ⟨hx, hb, hml, hown, hts, hr, hlocks⟩ := id hC
  intro s0 g0 g1 g2 g3 g4 g5 g8 g9 g10 g11 g12 H locs ls hP hD hS hl h
  rw [f_Ref_unary_87] at h
  obtain rfl := os_of h
  exact W.iret (v := s0) hx hb hr (fun t ht hW => ⟨⟨_, (), rfl, rfl, (hPt hP ht)⟩, hS.F ht⟩) hS.2.2 (dt_at dt_Ref_unary 47 rfl)
set_option maxRecDepth 100000 in
set_option maxHeartbeats 4000000 in
theorem k_Ref_unary_41 {p : Program} {l : Launch} {e : Env} {s : State} {m : MethodId} {args : Array Value} {below : List Frame} {meth : Method} {c : Code} {D : va_G} {a : Nat → Nat} {q : Nat → ClassId} {A : Nat → Prop} (hC : CX p s m args meth c prog_12_method_45_code 4 "OutwardTapeModel" (some .int)) (hA : ∀ x, s.heap.size ≤ x → A x) (hK : va_K D CLS (tR q) s) {g6 : Nat → Int32} {g7 : Int32} {g13 : Int32} {g14 : Int32} {g15 : Int64} {g16 : Int32} {g17 : Int32} {g18 : Int64} {g19 : Int32} {r0 : Int32 × Int32 × (Nat → Int32) × (Nat → Int64) × (Nat → Int64) × (Nat → Int32) × Int32 × (Nat → Int32) × Int32 × Int64 × Int64 × Int32} : ∀ (s0 : Int32) (v1 : Int32) (v2 : Int32) (g0 : Int32) (g1 : Nat → Int32) (g2 : Nat → Int64) (g3 : Nat → Int64) (g4 : Nat → Int32) (g5 : Int32) (g8 : Nat → Int32) (g9 : Int32) (g10 : Int64) (g11 : Int64) (g12 : Int32) (H : Heap) (locs : List Loc) (ls : Array Slot), va_P D CLS (wR a q g0 g1 g2 g3 g4 g5 g6 g7 g8 g9 g10 g11 g12 g13 g14 g15 g16 g17 g18 g19) H → va_D A (wR a q g0 g1 g2 g3 g4 g5 g6 g7 g8 g9 g10 g11 g12 g13 g14 g15 g16 g17 g18 g19) → va_S A s.heap H locs → lv_has ls 4 [(0, .ref (a 0)), (1, .int v1), (2, .int v2)] → f_Ref_unary_41  s0 v1 v2 g0 g1 g2 g3 g4 g5 g8 g9 g10 g11 g12 = some r0 → W p l e rm_Ref_unary s m args below meth c H locs 0 0 (MQ below (va_Qi (fun (r : Int32) (_ : Unit) => r = r0.1) (fun _ t => va_P D CLS (wR a q r0.2.1 r0.2.2.1 r0.2.2.2.1 r0.2.2.2.2.1 r0.2.2.2.2.2.1 r0.2.2.2.2.2.2.1 g6 g7 r0.2.2.2.2.2.2.2.1 r0.2.2.2.2.2.2.2.2.1 r0.2.2.2.2.2.2.2.2.2.1 r0.2.2.2.2.2.2.2.2.2.2.1 r0.2.2.2.2.2.2.2.2.2.2.2 g13 g14 g15 g16 g17 g18 g19) t.heap) A) args s 0 0 A) (F0 m 41 ls [.int s0, .ref (a 0)]) := by
  obtain ⟨hx, hb, hml, hown, hts, hr, hlocks⟩ := id hC
  intro s0 v1 v2 g0 g1 g2 g3 g4 g5 g8 g9 g10 g11 g12 H locs ls hP hD hS hl h
  rw [f_Ref_unary_41] at h
  refine va_put (D := D) (ci := 0) (v := .int s0) (ty := .int) (C := "OutwardTapeModel") (T := T_Ref) (N := 20) hx hb hts in_Ref ty_Ref tk_Ref nm_Ref hown hK hP hD hS 0 rfl rfl 5 (by decide) (hts (Cond.fieldLink "OutwardTapeModel" 29 "OutwardTapeModel" "code" "I") (m_4 4 rfl rfl)) (fun _ h9 => h9) rfl (by decide +kernel) rfl rfl (Nat.le_of_ble_eq_true rfl) (dt_at dt_Ref_unary 21 rfl) (fun H locs hP hD hS => ?_)
  have hP : va_P D CLS (wR a q g0 g1 g2 g3 g4 s0 g6 g7 g8 g9 g10 g11 g12 g13 g14 g15 g16 g17 g18 g19) H := hP
  have hD : va_D A (wR a q g0 g1 g2 g3 g4 s0 g6 g7 g8 g9 g10 g11 g12 g13 g14 g15 g16 g17 g18 g19) := hD
  refine lv_aload_n hx hb (dt_at dt_Ref_unary 22 rfl) rfl (lv_at hl 0 rfl) ?_
  refine va_get (D := D) (ci := 0) (v := .int s0) (C := "OutwardTapeModel") (T := T_Ref) (N := 20) hx hb hts in_Ref hown hK hP 0 rfl rfl 5 (by decide) (hts (Cond.fieldLink "OutwardTapeModel" 29 "OutwardTapeModel" "code" "I") (m_4 4 rfl rfl)) (fun _ h9 => h9) rfl (dt_at dt_Ref_unary 23 rfl) ?_
  refine lv_if_le (tgt := 53) hx hb (dt_at dt_Ref_unary 24 rfl) (by decide) (fun c1 => ?_) (fun c1 => ?_)
  · have h := if_p h c1
    refine lv_aload_n hx hb (dt_at dt_Ref_unary 27 rfl) rfl (lv_at hl 0 rfl) ?_
    refine va_get (D := D) (ci := 0) (v := .ref (a 1)) (C := "OutwardTapeModel") (T := T_Ref) (N := 20) hx hb hts in_Ref hown hK hP 0 rfl rfl 1 (by decide) (hts (Cond.fieldLink "OutwardTapeModel" 7 "OutwardTapeModel" "kind" "[I") (m_4 0 rfl rfl)) (fun _ h9 => h9) rfl (dt_at dt_Ref_unary 28 rfl) ?_
    refine lv_iload_n hx hb (dt_at dt_Ref_unary 29 rfl) rfl (lv_at hl 2 rfl) ?_
    obtain ⟨z2, h⟩ := og_of h
    refine va_iald hx hb hK hP 1 0 rfl rfl z2 (dt_at dt_Ref_unary 30 rfl) ?_
    refine lv_iconst (v := 2) hx hb (dt_at dt_Ref_unary 31 rfl) (by decide) ?_
    refine lv_icmp_eq (tgt := 88) hx hb (dt_at dt_Ref_unary 32 rfl) (by decide) (fun c3 => ?_) (fun c3 => ?_)
    · have h := if_p h c3
      refine lv_aload_n hx hb (dt_at dt_Ref_unary 48 rfl) rfl (lv_at hl 0 rfl) ?_
      refine lv_iconst (v := 0) hx hb (dt_at dt_Ref_unary 49 rfl) (by decide) ?_
      refine va_put (D := D) (ci := 0) (v := .int (0 : Int32)) (ty := .boolean) (C := "OutwardTapeModel") (T := T_Ref) (N := 20) hx hb hts in_Ref ty_Ref tk_Ref nm_Ref hown hK hP hD hS 0 rfl rfl 12 (by decide) (hts (Cond.fieldLink "OutwardTapeModel" 144 "OutwardTapeModel" "none" "Z") (m_4 11 rfl rfl)) (fun _ h9 => h9) rfl (by decide +kernel) (by decide) (by decide) (Nat.le_of_ble_eq_true rfl) (dt_at dt_Ref_unary 50 rfl) (fun H locs hP hD hS => ?_)
      have hP : va_P D CLS (wR a q g0 g1 g2 g3 g4 s0 g6 g7 g8 g9 g10 g11 (0 : Int32) g13 g14 g15 g16 g17 g18 g19) H := hP
      have hD : va_D A (wR a q g0 g1 g2 g3 g4 s0 g6 g7 g8 g9 g10 g11 (0 : Int32) g13 g14 g15 g16 g17 g18 g19) := hD
      refine lv_aload_n hx hb (dt_at dt_Ref_unary 51 rfl) rfl (lv_at hl 0 rfl) ?_
      refine lv_iload_n hx hb (dt_at dt_Ref_unary 52 rfl) rfl (lv_at hl 1 rfl) ?_
      refine lv_aload_n hx hb (dt_at dt_Ref_unary 53 rfl) rfl (lv_at hl 0 rfl) ?_
      refine va_get (D := D) (ci := 0) (v := .ref (a 2)) (C := "OutwardTapeModel") (T := T_Ref) (N := 20) hx hb hts in_Ref hown hK hP 0 rfl rfl 2 (by decide) (hts (Cond.fieldLink "OutwardTapeModel" 13 "OutwardTapeModel" "low" "[J") (m_4 1 rfl rfl)) (fun _ h9 => h9) rfl (dt_at dt_Ref_unary 54 rfl) ?_
      refine lv_iload_n hx hb (dt_at dt_Ref_unary 55 rfl) rfl (lv_at hl 2 rfl) ?_
      obtain ⟨z4, h⟩ := og_of h
      refine va_lald hx hb hK hP 2 1 rfl rfl z4 (dt_at dt_Ref_unary 56 rfl) ?_
      refine lv_aload_n hx hb (dt_at dt_Ref_unary 57 rfl) rfl (lv_at hl 0 rfl) ?_
      refine va_get (D := D) (ci := 0) (v := .ref (a 3)) (C := "OutwardTapeModel") (T := T_Ref) (N := 20) hx hb hts in_Ref hown hK hP 0 rfl rfl 3 (by decide) (hts (Cond.fieldLink "OutwardTapeModel" 17 "OutwardTapeModel" "high" "[J") (m_4 2 rfl rfl)) (fun _ h9 => h9) rfl (dt_at dt_Ref_unary 58 rfl) ?_
      refine lv_iload_n hx hb (dt_at dt_Ref_unary 59 rfl) rfl (lv_at hl 2 rfl) ?_
      obtain ⟨z5, h⟩ := og_of h
      refine va_lald hx hb hK hP 3 2 rfl rfl z5 (dt_at dt_Ref_unary 60 rfl) ?_
      obtain ⟨r6, h_r6, h⟩ := ob_of h
      have hF := va_free (wc := dR a) (dD (ws' := dR a) hD rfl) hS hA [0, 1, 2, 3, 4, 5, 6] rfl
      have hd : va_D (fun _ => True) (dR a) := (dD (ws' := dR a) hD rfl).weaken (fun _ _ _ _ => trivial)
      refine va_calli (va_runV (As := [.int v1, .long (g2 v2.toNatClampNeg), .long (g3 v2.toNatClampNeg)]) (rest := []) ⟨hx, hb, hml, hown, hts⟩ (c_Ref_ofOne l D a q hd H.size v1 (g2 v2.toNatClampNeg) (g3 v2.toNatClampNeg) g0 g1 g2 g3 g4 s0 g6 g7 g8 g9 g10 g11 (0 : Int32) g13 g14 g15 g16 g17 g18 g19 r6 h_r6) (cwV 3 hts (gd_V (m_4 100 rfl rfl) (m_4 102 rfl rfl) (m_s 25 rfl rfl) (m_1 4 rfl rfl) (m_4 103 rfl rfl)) rfl rfl rfl (by decide +kernel) ⟨Nat.le_of_ble_eq_true rfl, Nat.le_of_ble_eq_true rfl⟩) ⟨fun a U g mk q => ⟨q.1, q.2.1, q.2.2.1, va_K.moved (u := U) (U := U.calling g mk a) (Vm.Alike.refl U.vm) q.2.2.2⟩, va_recv hK hP (ci := 0) (q0 := 0) rfl rfl, fun U hU hW => ⟨rfl, by rw [hU], by rw [hU]; exact hP, va_K.moved hW.alike hK⟩⟩ rfl rfl hl.1 rfl (lv_room (Nat.le_of_ble_eq_true rfl)) (dt_at dt_Ref_unary 61 rfl) ⟨Nat.le_of_ble_eq_true rfl, Nat.le_of_ble_eq_true rfl⟩) hS (fun x _ h9 => hF x h9) hF (fun u_r6 uu t H locs ht hvm hw hB hz1 hk1 hS => ?_)
      rw [ht] at hB
      subst hw
      have hP : va_P D CLS (wR a q g0 g1 g2 g3 g4 s0 g6 g7 r6.2.1 r6.2.2.1 r6.2.2.2.1 r6.2.2.2.2.1 r6.2.2.2.2.2 g13 g14 g15 g16 g17 g18 g19) H := hB
      have hD : va_D A (wR a q g0 g1 g2 g3 g4 s0 g6 g7 r6.2.1 r6.2.2.1 r6.2.2.2.1 r6.2.2.2.2.1 r6.2.2.2.2.2 g13 g14 g15 g16 g17 g18 g19) := dD hD rfl
      obtain ⟨t7, e_t7, h⟩ := ol_of h
      refine lv_topi (fun u_t7 q_t7 => ?_)
      obtain rfl : t7 = u_t7 := e_t7.trans q_t7.symm
      refine lv_istore_n (lv' := [(3, .int t7), (0, .ref (a 0)), (1, .int v1), (2, .int v2)]) hx hb (dt_at dt_Ref_unary 62 rfl) rfl hl (by decide) rfl (fun ls hl => ?_)
      refine lv_aload_n hx hb (dt_at dt_Ref_unary 63 rfl) rfl (lv_at hl 1 rfl) ?_
      refine lv_iload_n hx hb (dt_at dt_Ref_unary 64 rfl) rfl (lv_at hl 0 rfl) ?_
      refine lv_aload_n hx hb (dt_at dt_Ref_unary 65 rfl) rfl (lv_at hl 1 rfl) ?_
      refine va_get (D := D) (ci := 0) (v := .ref (a 2)) (C := "OutwardTapeModel") (T := T_Ref) (N := 20) hx hb hts in_Ref hown hK hP 0 rfl rfl 2 (by decide) (hts (Cond.fieldLink "OutwardTapeModel" 13 "OutwardTapeModel" "low" "[J") (m_4 1 rfl rfl)) (fun _ h9 => h9) rfl (dt_at dt_Ref_unary 66 rfl) ?_
      refine lv_iload_n hx hb (dt_at dt_Ref_unary 67 rfl) rfl (lv_at hl 3 rfl) ?_
      obtain ⟨z8, h⟩ := og_of h
      refine va_lald hx hb hK hP 2 1 rfl rfl z8 (dt_at dt_Ref_unary 68 rfl) ?_
      refine lv_aload_n hx hb (dt_at dt_Ref_unary 69 rfl) rfl (lv_at hl 1 rfl) ?_
      refine va_get (D := D) (ci := 0) (v := .ref (a 3)) (C := "OutwardTapeModel") (T := T_Ref) (N := 20) hx hb hts in_Ref hown hK hP 0 rfl rfl 3 (by decide) (hts (Cond.fieldLink "OutwardTapeModel" 17 "OutwardTapeModel" "high" "[J") (m_4 2 rfl rfl)) (fun _ h9 => h9) rfl (dt_at dt_Ref_unary 70 rfl) ?_
      refine lv_iload_n hx hb (dt_at dt_Ref_unary 71 rfl) rfl (lv_at hl 3 rfl) ?_
      obtain ⟨z9, h⟩ := og_of h
      refine va_lald hx hb hK hP 3 2 rfl rfl z9 (dt_at dt_Ref_unary 72 rfl) ?_
      obtain ⟨r10, h_r10, h⟩ := ob_of h
      refine vp_callSi (W.runS (As := [.long (g2 v2.toNatClampNeg), .long (g3 v2.toNatClampNeg)]) (rest := [.int t7, .ref (a 0)]) ⟨hx, hb, hml, hown, hts⟩ (c_Ref_bounded l (g2 v2.toNatClampNeg) (g3 v2.toNatClampNeg) r10 h_r10) (va_cwS 2 hts (gd_S (m_4 75 rfl rfl) (m_4 76 rfl rfl) (m_1 4 rfl rfl) (m_4 77 rfl rfl)) rfl rfl rfl (by decide +kernel) ⟨Nat.le_of_ble_eq_true rfl, Nat.le_of_ble_eq_true rfl⟩) ⟨fun _ _ _ _ q => q, fun U hU hW => ⟨rfl, trivial⟩⟩ rfl rfl hl.1 rfl (lv_room (Nat.le_of_ble_eq_true rfl)) (dt_at dt_Ref_unary 73 rfl) ⟨Nat.le_of_ble_eq_true rfl, Nat.le_of_ble_eq_true rfl⟩) (fun u_r10 q_r10 => ?_)
      obtain rfl : r10 = u_r10 := q_r10.symm
      refine lv_aload_n hx hb (dt_at dt_Ref_unary 74 rfl) rfl (lv_at hl 1 rfl) ?_
      refine va_get (D := D) (ci := 0) (v := .ref (a 4)) (C := "OutwardTapeModel") (T := T_Ref) (N := 20) hx hb hts in_Ref hown hK hP 0 rfl rfl 4 (by decide) (hts (Cond.fieldLink "OutwardTapeModel" 20 "OutwardTapeModel" "mark" "[I") (m_4 3 rfl rfl)) (fun _ h9 => h9) rfl (dt_at dt_Ref_unary 75 rfl) ?_
      refine lv_iload_n hx hb (dt_at dt_Ref_unary 76 rfl) rfl (lv_at hl 3 rfl) ?_
      obtain ⟨z11, h⟩ := og_of h
      refine va_iald hx hb hK hP 4 3 rfl rfl z11 (dt_at dt_Ref_unary 77 rfl) ?_
      obtain ⟨r12, h_r12, h⟩ := ob_of h
      have hF := va_free (wc := dR a) (dD (ws' := dR a) hD rfl) hS hA [0, 1, 2, 3, 4, 5, 6] rfl
      have hd : va_D (fun _ => True) (dR a) := (dD (ws' := dR a) hD rfl).weaken (fun _ _ _ _ => trivial)
      refine va_calli (va_runV (As := [.int t7, .int r10, .int (g4 v2.toNatClampNeg)]) (rest := []) ⟨hx, hb, hml, hown, hts⟩ (c_Ref_keep l D a q hd H.size t7 r10 (g4 v2.toNatClampNeg) g0 g1 g2 g3 g4 s0 g6 g7 r6.2.1 r6.2.2.1 r6.2.2.2.1 r6.2.2.2.2.1 r6.2.2.2.2.2 g13 g14 g15 g16 g17 g18 g19 r12 h_r12) (cwV 3 hts (gd_V (m_4 208 rfl rfl) (m_4 210 rfl rfl) (m_s 45 rfl rfl) (m_1 4 rfl rfl) (m_4 211 rfl rfl)) rfl rfl rfl (by decide +kernel) ⟨Nat.le_of_ble_eq_true rfl, Nat.le_of_ble_eq_true rfl⟩) ⟨fun a U g mk q => ⟨q.1, q.2.1, q.2.2.1, va_K.moved (u := U) (U := U.calling g mk a) (Vm.Alike.refl U.vm) q.2.2.2⟩, va_recv hK hP (ci := 0) (q0 := 0) rfl rfl, fun U hU hW => ⟨rfl, by rw [hU], by rw [hU]; exact hP, va_K.moved hW.alike hK⟩⟩ rfl rfl hl.1 rfl (lv_room (Nat.le_of_ble_eq_true rfl)) (dt_at dt_Ref_unary 78 rfl) ⟨Nat.le_of_ble_eq_true rfl, Nat.le_of_ble_eq_true rfl⟩) hS (fun x _ h9 => hF x h9) hF (fun u_r12 uu t H locs ht hvm hw hB hz1 hk1 hS => ?_)
      rw [ht] at hB
      subst hw
      have hP : va_P D CLS (wR a q r12.2.1 r12.2.2.1 r12.2.2.2.1 r12.2.2.2.2.1 r12.2.2.2.2.2 s0 g6 g7 r6.2.1 r6.2.2.1 r6.2.2.2.1 r6.2.2.2.2.1 r6.2.2.2.2.2 g13 g14 g15 g16 g17 g18 g19) H := hB
      have hD : va_D A (wR a q r12.2.1 r12.2.2.1 r12.2.2.2.1 r12.2.2.2.2.1 r12.2.2.2.2.2 s0 g6 g7 r6.2.1 r6.2.2.1 r6.2.2.2.1 r6.2.2.2.2.1 r6.2.2.2.2.2 g13 g14 g15 g16 g17 g18 g19) := dD hD rfl
      obtain rfl := os_of h
      exact W.iret (v := r12.1) hx hb hr (fun t ht hW => ⟨⟨_, (), rfl, rfl, (hPt hP ht)⟩, hS.F ht⟩) hS.2.2 (dt_at dt_Ref_unary 79 rfl)
    · have h := if_n h c3
      refine lv_aload_n hx hb (dt_at dt_Ref_unary 33 rfl) rfl (lv_at hl 0 rfl) ?_
      refine va_get (D := D) (ci := 0) (v := .ref (a 1)) (C := "OutwardTapeModel") (T := T_Ref) (N := 20) hx hb hts in_Ref hown hK hP 0 rfl rfl 1 (by decide) (hts (Cond.fieldLink "OutwardTapeModel" 7 "OutwardTapeModel" "kind" "[I") (m_4 0 rfl rfl)) (fun _ h9 => h9) rfl (dt_at dt_Ref_unary 34 rfl) ?_
      refine lv_iload_n hx hb (dt_at dt_Ref_unary 35 rfl) rfl (lv_at hl 2 rfl) ?_
      obtain ⟨z13, h⟩ := og_of h
      refine va_iald hx hb hK hP 1 0 rfl rfl z13 (dt_at dt_Ref_unary 36 rfl) ?_
      refine lv_if_ne (tgt := 79) hx hb (dt_at dt_Ref_unary 37 rfl) (by decide) (fun c14 => ?_) (fun c14 => ?_)
      · have h := if_n h c14
        refine lv_aload_n hx hb (dt_at dt_Ref_unary 41 rfl) rfl (lv_at hl 0 rfl) ?_
        refine lv_iconst (v := 1) hx hb (dt_at dt_Ref_unary 42 rfl) (by decide) ?_
        refine lv_lconst (v := 0) hx hb (dt_at dt_Ref_unary 43 rfl) (by decide) ?_
        refine lv_lconst (v := 0) hx hb (dt_at dt_Ref_unary 44 rfl) (by decide) ?_
        refine lv_iconst (v := 1) hx hb (dt_at dt_Ref_unary 45 rfl) (by decide) ?_
        obtain ⟨r15, h_r15, h⟩ := ob_of h
        have hF := va_free (wc := dR a) (dD (ws' := dR a) hD rfl) hS hA [0, 1, 2, 3, 4, 5, 6] rfl
        have hd : va_D (fun _ => True) (dR a) := (dD (ws' := dR a) hD rfl).weaken (fun _ _ _ _ => trivial)
        refine va_calli (va_runV (As := [.int (1 : Int32), .long (0 : Int64), .long (0 : Int64), .int (1 : Int32)]) (rest := []) ⟨hx, hb, hml, hown, hts⟩ (c_Ref_cell l D a q hd H.size (1 : Int32) (0 : Int64) (0 : Int64) (1 : Int32) g0 g1 g2 g3 g4 s0 g6 g7 g8 g9 g10 g11 g12 g13 g14 g15 g16 g17 g18 g19 r15 h_r15) (cwV 4 hts (gd_V (m_4 88 rfl rfl) (m_4 90 rfl rfl) (m_s 23 rfl rfl) (m_1 4 rfl rfl) (m_4 91 rfl rfl)) rfl rfl rfl (by decide +kernel) ⟨Nat.le_of_ble_eq_true rfl, Nat.le_of_ble_eq_true rfl⟩) ⟨fun a U g mk q => ⟨q.1, q.2.1, q.2.2.1, va_K.moved (u := U) (U := U.calling g mk a) (Vm.Alike.refl U.vm) q.2.2.2⟩, va_recv hK hP (ci := 0) (q0 := 0) rfl rfl, fun U hU hW => ⟨rfl, by rw [hU], by rw [hU]; exact hP, va_K.moved hW.alike hK⟩⟩ rfl rfl hl.1 rfl (lv_room (Nat.le_of_ble_eq_true rfl)) (dt_at dt_Ref_unary 46 rfl) ⟨Nat.le_of_ble_eq_true rfl, Nat.le_of_ble_eq_true rfl⟩) hS (fun x _ h9 => hF x h9) hF (fun u_r15 uu t H locs ht hvm hw hB hz1 hk1 hS => ?_)
        rw [ht] at hB
        subst hw
        have hP : va_P D CLS (wR a q r15.2.1 r15.2.2.1 r15.2.2.2.1 r15.2.2.2.2.1 r15.2.2.2.2.2 s0 g6 g7 g8 g9 g10 g11 g12 g13 g14 g15 g16 g17 g18 g19) H := hB
        have hD : va_D A (wR a q r15.2.1 r15.2.2.1 r15.2.2.2.1 r15.2.2.2.2.1 r15.2.2.2.2.2 s0 g6 g7 g8 g9 g10 g11 g12 g13 g14 g15 g16 g17 g18 g19) := dD hD rfl
        exact k_Ref_unary_87 hC hA hK   r15.1 r15.2.1 r15.2.2.1 r15.2.2.2.1 r15.2.2.2.2.1 r15.2.2.2.2.2 s0 g8 g9 g10 g11 g12 H locs ls hP hD hS (lv_sub hl [] rfl) h
      · have h := if_p h c14
        refine lv_aload_n hx hb (dt_at dt_Ref_unary 38 rfl) rfl (lv_at hl 0 rfl) ?_
        obtain ⟨r16, h_r16, h⟩ := ob_of h
        have hF := va_free (wc := dR a) (dD (ws' := dR a) hD rfl) hS hA [0, 1, 2, 3, 4, 5, 6] rfl
        have hd : va_D (fun _ => True) (dR a) := (dD (ws' := dR a) hD rfl).weaken (fun _ _ _ _ => trivial)
        refine va_calli (va_runV (As := []) (rest := []) ⟨hx, hb, hml, hown, hts⟩ (c_Ref_ill l D a q hd H.size  g0 g1 g2 g3 g4 s0 g6 g7 g8 g9 g10 g11 g12 g13 g14 g15 g16 g17 g18 g19 r16 h_r16) (cwV 0 hts (gd_V (m_4 84 rfl rfl) (m_4 86 rfl rfl) (m_s 22 rfl rfl) (m_1 4 rfl rfl) (m_4 87 rfl rfl)) rfl rfl rfl (by decide +kernel) ⟨Nat.le_of_ble_eq_true rfl, Nat.le_of_ble_eq_true rfl⟩) ⟨fun a U g mk q => ⟨q.1, q.2.1, q.2.2.1, va_K.moved (u := U) (U := U.calling g mk a) (Vm.Alike.refl U.vm) q.2.2.2⟩, va_recv hK hP (ci := 0) (q0 := 0) rfl rfl, fun U hU hW => ⟨rfl, by rw [hU], by rw [hU]; exact hP, va_K.moved hW.alike hK⟩⟩ rfl rfl hl.1 rfl (lv_room (Nat.le_of_ble_eq_true rfl)) (dt_at dt_Ref_unary 39 rfl) ⟨Nat.le_of_ble_eq_true rfl, Nat.le_of_ble_eq_true rfl⟩) hS (fun x _ h9 => hF x h9) hF (fun u_r16 uu t H locs ht hvm hw hB hz1 hk1 hS => ?_)
        rw [ht] at hB
        subst hw
        have hP : va_P D CLS (wR a q r16.2.1 r16.2.2.1 r16.2.2.2.1 r16.2.2.2.2.1 r16.2.2.2.2.2 s0 g6 g7 g8 g9 g10 g11 g12 g13 g14 g15 g16 g17 g18 g19) H := hB
        have hD : va_D A (wR a q r16.2.1 r16.2.2.1 r16.2.2.2.1 r16.2.2.2.2.1 r16.2.2.2.2.2 s0 g6 g7 g8 g9 g10 g11 g12 g13 g14 g15 g16 g17 g18 g19) := dD hD rfl
        refine lv_goto (tgt := 87) hx hb (dt_at dt_Ref_unary 40 rfl) (by decide) ?_
        exact k_Ref_unary_87 hC hA hK   r16.1 r16.2.1 r16.2.2.1 r16.2.2.2.1 r16.2.2.2.2.1 r16.2.2.2.2.2 s0 g8 g9 g10 g11 g12 H locs ls hP hD hS (lv_sub hl [] rfl) h
  · have h := if_n h c1
    refine lv_iconst (v := 0) hx hb (dt_at dt_Ref_unary 25 rfl) (by decide) ?_
    obtain rfl := os_of h
    exact W.iret (v := (0 : Int32)) hx hb hr (fun t ht hW => ⟨⟨_, (), rfl, rfl, (hPt hP ht)⟩, hS.F ht⟩) hS.2.2 (dt_at dt_Ref_unary 26 rfl)
set_option maxRecDepth 100000 in
set_option maxHeartbeats 4000000 in
theorem k_Ref_unary_11 {p : Program} {l : Launch} {e : Env} {s : State} {m : MethodId} {args : Array Value} {below : List Frame} {meth : Method} {c : Code} {D : va_G} {a : Nat → Nat} {q : Nat → ClassId} {A : Nat → Prop} (hC : CX p s m args meth c prog_12_method_45_code 4 "OutwardTapeModel" (some .int)) (hA : ∀ x, s.heap.size ≤ x → A x) (hK : va_K D CLS (tR q) s) {g6 : Nat → Int32} {g7 : Int32} {g13 : Int32} {g14 : Int32} {g15 : Int64} {g16 : Int32} {g17 : Int32} {g18 : Int64} {g19 : Int32} {r0 : Int32 × Int32 × (Nat → Int32) × (Nat → Int64) × (Nat → Int64) × (Nat → Int32) × Int32 × (Nat → Int32) × Int32 × Int64 × Int64 × Int32} : ∀ (v1 : Int32) (v2 : Int32) (g0 : Int32) (g1 : Nat → Int32) (g2 : Nat → Int64) (g3 : Nat → Int64) (g4 : Nat → Int32) (g5 : Int32) (g8 : Nat → Int32) (g9 : Int32) (g10 : Int64) (g11 : Int64) (g12 : Int32) (H : Heap) (locs : List Loc) (ls : Array Slot), va_P D CLS (wR a q g0 g1 g2 g3 g4 g5 g6 g7 g8 g9 g10 g11 g12 g13 g14 g15 g16 g17 g18 g19) H → va_D A (wR a q g0 g1 g2 g3 g4 g5 g6 g7 g8 g9 g10 g11 g12 g13 g14 g15 g16 g17 g18 g19) → va_S A s.heap H locs → lv_has ls 4 [(0, .ref (a 0)), (1, .int v1), (2, .int v2)] → f_Ref_unary_11  v1 v2 g0 g1 g2 g3 g4 g5 g8 g9 g10 g11 g12 = some r0 → W p l e rm_Ref_unary s m args below meth c H locs 0 0 (MQ below (va_Qi (fun (r : Int32) (_ : Unit) => r = r0.1) (fun _ t => va_P D CLS (wR a q r0.2.1 r0.2.2.1 r0.2.2.2.1 r0.2.2.2.2.1 r0.2.2.2.2.2.1 r0.2.2.2.2.2.2.1 g6 g7 r0.2.2.2.2.2.2.2.1 r0.2.2.2.2.2.2.2.2.1 r0.2.2.2.2.2.2.2.2.2.1 r0.2.2.2.2.2.2.2.2.2.2.1 r0.2.2.2.2.2.2.2.2.2.2.2 g13 g14 g15 g16 g17 g18 g19) t.heap) A) args s 0 0 A) (F0 m 11 ls [.ref (a 0)]) := by
  obtain ⟨hx, hb, hml, hown, hts, hr, hlocks⟩ := id hC
  intro v1 v2 g0 g1 g2 g3 g4 g5 g8 g9 g10 g11 g12 H locs ls hP hD hS hl h
  rw [f_Ref_unary_11] at h
  refine lv_iconst (v := 1) hx hb (dt_at dt_Ref_unary 6 rfl) (by decide) ?_
  refine lv_goto (tgt := 41) hx hb (dt_at dt_Ref_unary 7 rfl) (by decide) ?_
  exact k_Ref_unary_41 hC hA hK   (1 : Int32) v1 v2 g0 g1 g2 g3 g4 g5 g8 g9 g10 g11 g12 H locs ls hP hD hS (lv_sub hl [0, 1, 2] rfl) h
set_option maxRecDepth 100000 in
set_option maxHeartbeats 4000000 in
theorem k_Ref_unary_0 {p : Program} {l : Launch} {e : Env} {s : State} {m : MethodId} {args : Array Value} {below : List Frame} {meth : Method} {c : Code} {D : va_G} {a : Nat → Nat} {q : Nat → ClassId} {A : Nat → Prop} (hC : CX p s m args meth c prog_12_method_45_code 4 "OutwardTapeModel" (some .int)) (hA : ∀ x, s.heap.size ≤ x → A x) (hK : va_K D CLS (tR q) s) {g6 : Nat → Int32} {g7 : Int32} {g13 : Int32} {g14 : Int32} {g15 : Int64} {g16 : Int32} {g17 : Int32} {g18 : Int64} {g19 : Int32} {r0 : Int32 × Int32 × (Nat → Int32) × (Nat → Int64) × (Nat → Int64) × (Nat → Int32) × Int32 × (Nat → Int32) × Int32 × Int64 × Int64 × Int32} : ∀ (v1 : Int32) (v2 : Int32) (g0 : Int32) (g1 : Nat → Int32) (g2 : Nat → Int64) (g3 : Nat → Int64) (g4 : Nat → Int32) (g5 : Int32) (g8 : Nat → Int32) (g9 : Int32) (g10 : Int64) (g11 : Int64) (g12 : Int32) (H : Heap) (locs : List Loc) (ls : Array Slot), va_P D CLS (wR a q g0 g1 g2 g3 g4 g5 g6 g7 g8 g9 g10 g11 g12 g13 g14 g15 g16 g17 g18 g19) H → va_D A (wR a q g0 g1 g2 g3 g4 g5 g6 g7 g8 g9 g10 g11 g12 g13 g14 g15 g16 g17 g18 g19) → va_S A s.heap H locs → lv_has ls 4 [(0, .ref (a 0)), (1, .int v1), (2, .int v2)] → f_Ref_unary_0  v1 v2 g0 g1 g2 g3 g4 g5 g8 g9 g10 g11 g12 = some r0 → W p l e rm_Ref_unary s m args below meth c H locs 0 0 (MQ below (va_Qi (fun (r : Int32) (_ : Unit) => r = r0.1) (fun _ t => va_P D CLS (wR a q r0.2.1 r0.2.2.1 r0.2.2.2.1 r0.2.2.2.2.1 r0.2.2.2.2.2.1 r0.2.2.2.2.2.2.1 g6 g7 r0.2.2.2.2.2.2.2.1 r0.2.2.2.2.2.2.2.2.1 r0.2.2.2.2.2.2.2.2.2.1 r0.2.2.2.2.2.2.2.2.2.2.1 r0.2.2.2.2.2.2.2.2.2.2.2 g13 g14 g15 g16 g17 g18 g19) t.heap) A) args s 0 0 A) (F0 m 0 ls []) := by
  obtain ⟨hx, hb, hml, hown, hts, hr, hlocks⟩ := id hC
  intro v1 v2 g0 g1 g2 g3 g4 g5 g8 g9 g10 g11 g12 H locs ls hP hD hS hl h
  rw [f_Ref_unary_0] at h
  refine lv_aload_n hx hb (dt_at dt_Ref_unary 0 rfl) rfl (lv_at hl 0 rfl) ?_
  refine lv_iload_n hx hb (dt_at dt_Ref_unary 1 rfl) rfl (lv_at hl 1 rfl) ?_
  refine lv_if_lt (tgt := 11) hx hb (dt_at dt_Ref_unary 2 rfl) (by decide) (fun c1 => ?_) (fun c1 => ?_)
  · have h := if_p h c1
    exact k_Ref_unary_11 hC hA hK   v1 v2 g0 g1 g2 g3 g4 g5 g8 g9 g10 g11 g12 H locs ls hP hD hS (lv_sub hl [0, 1, 2] rfl) h
  · have h := if_n h c1
    refine lv_iload_n hx hb (dt_at dt_Ref_unary 3 rfl) rfl (lv_at hl 1 rfl) ?_
    refine lv_bipush (v := 8) hx hb (dt_at dt_Ref_unary 4 rfl) (by decide) ?_
    refine lv_icmp_le (tgt := 15) hx hb (dt_at dt_Ref_unary 5 rfl) (by decide) (fun c2 => ?_) (fun c2 => ?_)
    · have h := if_p h c2
      refine lv_aload_n hx hb (dt_at dt_Ref_unary 8 rfl) rfl (lv_at hl 0 rfl) ?_
      refine lv_iload_n hx hb (dt_at dt_Ref_unary 9 rfl) rfl (lv_at hl 2 rfl) ?_
      obtain ⟨r3, h_r3, h⟩ := ob_of h
      have hF := va_free (wc := dR a) (dD (ws' := dR a) hD rfl) hS hA [0, 1, 2, 3, 4, 5, 6] rfl
      have hd : va_D (fun _ => True) (dR a) := (dD (ws' := dR a) hD rfl).weaken (fun _ _ _ _ => trivial)
      refine va_calli (va_runV (As := [.int v2]) (rest := [.ref (a 0)]) ⟨hx, hb, hml, hown, hts⟩ (c_Ref_there l D a q hd H.size v2 g0 g1 g2 g3 g4 g5 g6 g7 g8 g9 g10 g11 g12 g13 g14 g15 g16 g17 g18 g19 r3 h_r3) (cwV 1 hts (gd_V (m_4 96 rfl rfl) (m_4 98 rfl rfl) (m_s 24 rfl rfl) (m_1 4 rfl rfl) (m_4 99 rfl rfl)) rfl rfl rfl (by decide +kernel) ⟨Nat.le_of_ble_eq_true rfl, Nat.le_of_ble_eq_true rfl⟩) ⟨fun a U g mk q => ⟨q.1, q.2.1, q.2.2.1, va_K.moved (u := U) (U := U.calling g mk a) (Vm.Alike.refl U.vm) q.2.2.2⟩, va_recv hK hP (ci := 0) (q0 := 0) rfl rfl, fun U hU hW => ⟨rfl, by rw [hU], by rw [hU]; exact hP, va_K.moved hW.alike hK⟩⟩ rfl rfl hl.1 rfl (lv_room (Nat.le_of_ble_eq_true rfl)) (dt_at dt_Ref_unary 10 rfl) ⟨Nat.le_of_ble_eq_true rfl, Nat.le_of_ble_eq_true rfl⟩) hS (fun x _ h9 => hF x h9) hF (fun u_r3 uu t H locs ht hvm hw hB hz1 hk1 hS => ?_)
      rw [ht] at hB
      obtain rfl : r3 = u_r3 := hw.symm
      have hP : va_P D CLS (wR a q g0 g1 g2 g3 g4 g5 g6 g7 g8 g9 g10 g11 g12 g13 g14 g15 g16 g17 g18 g19) H := hB
      have hD : va_D A (wR a q g0 g1 g2 g3 g4 g5 g6 g7 g8 g9 g10 g11 g12 g13 g14 g15 g16 g17 g18 g19) := dD hD rfl
      refine lv_if_ne (tgt := 27) hx hb (dt_at dt_Ref_unary 11 rfl) (by decide) (fun c4 => ?_) (fun c4 => ?_)
      · have h := if_n h c4
        refine lv_aload_n hx hb (dt_at dt_Ref_unary 14 rfl) rfl (lv_at hl 0 rfl) ?_
        refine va_get (D := D) (ci := 0) (v := .int g0) (C := "OutwardTapeModel") (T := T_Ref) (N := 20) hx hb hts in_Ref hown hK hP 0 rfl rfl 0 (by decide) (hts (Cond.fieldLink "OutwardTapeModel" 173 "OutwardTapeModel" "count" "I") (m_3 239 rfl rfl)) (fun _ h9 => h9) rfl (dt_at dt_Ref_unary 15 rfl) ?_
        refine lv_bipush (v := 40) hx hb (dt_at dt_Ref_unary 16 rfl) (by decide) ?_
        refine lv_icmp_ne (tgt := 40) hx hb (dt_at dt_Ref_unary 17 rfl) (by decide) (fun c5 => ?_) (fun c5 => ?_)
        · have h := if_n h c5
          refine lv_iconst (v := 0) hx hb (dt_at dt_Ref_unary 20 rfl) (by decide) ?_
          exact k_Ref_unary_41 hC hA hK   (0 : Int32) v1 v2 g0 g1 g2 g3 g4 g5 g8 g9 g10 g11 g12 H locs ls hP hD hS (lv_sub hl [0, 1, 2] rfl) h
        · have h := if_p h c5
          refine lv_iconst (v := 3) hx hb (dt_at dt_Ref_unary 18 rfl) (by decide) ?_
          refine lv_goto (tgt := 41) hx hb (dt_at dt_Ref_unary 19 rfl) (by decide) ?_
          exact k_Ref_unary_41 hC hA hK   (3 : Int32) v1 v2 g0 g1 g2 g3 g4 g5 g8 g9 g10 g11 g12 H locs ls hP hD hS (lv_sub hl [0, 1, 2] rfl) h
      · have h := if_p h c4
        refine lv_iconst (v := 2) hx hb (dt_at dt_Ref_unary 12 rfl) (by decide) ?_
        refine lv_goto (tgt := 41) hx hb (dt_at dt_Ref_unary 13 rfl) (by decide) ?_
        exact k_Ref_unary_41 hC hA hK   (2 : Int32) v1 v2 g0 g1 g2 g3 g4 g5 g8 g9 g10 g11 g12 H locs ls hP hD hS (lv_sub hl [0, 1, 2] rfl) h
    · have h := if_n h c2
      exact k_Ref_unary_11 hC hA hK   v1 v2 g0 g1 g2 g3 g4 g5 g8 g9 g10 g11 g12 H locs ls hP hD hS (lv_sub hl [0, 1, 2] rfl) h
set_option maxRecDepth 100000 in
set_option maxHeartbeats 4000000 in
theorem c_Ref_unary (l : Launch) (D : va_G) (a : Nat → Nat) (q : Nat → ClassId) (hd : va_D (fun _ => True) (dR a)) (sz : Nat) (a1 : Int32) (a2 : Int32) (g0 : Int32) (g1 : Nat → Int32) (g2 : Nat → Int64) (g3 : Nat → Int64) (g4 : Nat → Int32) (g5 : Int32) (g6 : Nat → Int32) (g7 : Int32) (g8 : Nat → Int32) (g9 : Int32) (g10 : Int64) (g11 : Int64) (g12 : Int32) (g13 : Int32) (g14 : Int32) (g15 : Int64) (g16 : Int32) (g17 : Int32) (g18 : Int64) (g19 : Int32) (r0 : Int32 × Int32 × (Nat → Int32) × (Nat → Int64) × (Nat → Int64) × (Nat → Int32) × Int32 × (Nat → Int32) × Int32 × Int64 × Int64 × Int32) (h : f_Ref_unary a1 a2 g0 g1 g2 g3 g4 g5 g8 g9 g10 g11 g12 = some r0) : Met l (⟨"OutwardTapeModel", "unary", "(II)I"⟩ : MethodName) (WSm (⟨"OutwardTapeModel", "unary", "(II)I"⟩ : MethodName) prog_12_method_45_code 4 (some .int)) rm_Ref_unary (va_Pc [.ref (a 0), .int a1, .int a2] (fun U => U.heap.size = sz ∧ va_P D CLS (wR a q g0 g1 g2 g3 g4 g5 g6 g7 g8 g9 g10 g11 g12 g13 g14 g15 g16 g17 g18 g19) U.heap ∧ va_K D CLS (tR q) U)) (va_Qi (fun (r : Int32) (_ : Unit) => r = r0.1) (fun _ t => va_P D CLS (wR a q r0.2.1 r0.2.2.1 r0.2.2.2.1 r0.2.2.2.2.1 r0.2.2.2.2.2.1 r0.2.2.2.2.2.2.1 g6 g7 r0.2.2.2.2.2.2.2.1 r0.2.2.2.2.2.2.2.2.1 r0.2.2.2.2.2.2.2.2.2.1 r0.2.2.2.2.2.2.2.2.2.2.1 r0.2.2.2.2.2.2.2.2.2.2.2 g13 g14 g15 g16 g17 g18 g19) t.heap) (va_A (dR a) sz)) 0 0 (va_A (dR a) sz) := by
  refine Met.ofW (cc := prog_12_method_45_code) (maxL := 4) (ret := (some .int)) (by decide) rfl ?_
  intro p e s m args below meth c s₁ B hml hv
  obtain ⟨rfl, hsz, hP, hK⟩ := hv
  subst hsz
  have hC := CX.of B hml rfl
  have hl := lv_entry [.ref (a 0), .int a1, .int a2] (n := 4) (Nat.le_of_ble_eq_true rfl)
  rw [lg_entry_eq]
  generalize (lg_sl [.ref (a 0), .int a1, .int a2] ++ List.replicate (4 - (lg_sl [.ref (a 0), .int a1, .int a2]).length) Slot.unset).toArray = ls at hl ⊢
  have hl : lv_has ls 4 [(0, .ref (a 0)), (1, .int a1), (2, .int a2)] := hl
  exact k_Ref_unary_0 hC (fun x h => Or.inr h) hK a1 a2 g0 g1 g2 g3 g4 g5 g8 g9 g10 g11 g12 s.heap [] ls hP (dD hd.self rfl) va_S.rf (lv_sub hl [0, 1, 2] rfl) h
abbrev rm_Ref_meet : Room := { frames := 1, cells := 0, slots := 0, locals := 26 }
set_option maxRecDepth 100000 in
set_option maxHeartbeats 4000000 in
theorem k_Ref_meet_92 {p : Program} {l : Launch} {e : Env} {s : State} {m : MethodId} {args : Array Value} {below : List Frame} {meth : Method} {c : Code} {D : va_G} {a : Nat → Nat} {q : Nat → ClassId} {A : Nat → Prop} (hC : CX p s m args meth c prog_12_method_46_code 8 "OutwardTapeModel" (some .int)) (hA : ∀ x, s.heap.size ≤ x → A x) (hK : va_K D CLS (tR q) s) {g5 : Int32} {g6 : Nat → Int32} {g7 : Int32} {g8 : Nat → Int32} {g9 : Int32} {g10 : Int64} {g11 : Int64} {g12 : Int32} {g13 : Int32} {g14 : Int32} {g15 : Int64} {g16 : Int32} {g17 : Int32} {g18 : Int64} {g19 : Int32} {r0 : Int32 × Int32 × (Nat → Int32) × (Nat → Int64) × (Nat → Int64) × (Nat → Int32)} : ∀ (s0 : Int32) (g0 : Int32) (g1 : Nat → Int32) (g2 : Nat → Int64) (g3 : Nat → Int64) (g4 : Nat → Int32) (H : Heap) (locs : List Loc) (ls : Array Slot), va_P D CLS (wR a q g0 g1 g2 g3 g4 g5 g6 g7 g8 g9 g10 g11 g12 g13 g14 g15 g16 g17 g18 g19) H → va_D A (wR a q g0 g1 g2 g3 g4 g5 g6 g7 g8 g9 g10 g11 g12 g13 g14 g15 g16 g17 g18 g19) → va_S A s.heap H locs → lv_has ls 8 [] → f_Ref_meet_92  s0 g0 g1 g2 g3 g4 = some r0 → W p l e rm_Ref_meet s m args below meth c H locs 0 0 (MQ below (va_Qi (fun (r : Int32) (_ : Unit) => r = r0.1) (fun _ t => va_P D CLS (wR a q r0.2.1 r0.2.2.1 r0.2.2.2.1 r0.2.2.2.2.1 r0.2.2.2.2.2 g5 g6 g7 g8 g9 g10 g11 g12 g13 g14 g15 g16 g17 g18 g19) t.heap) A) args s 0 0 A) (F0 m 92 ls [.int s0]) := by
  obtain ⟨hx, hb, hml, hown, hts, hr, hlocks⟩ := id hC
  intro s0 g0 g1 g2 g3 g4 H locs ls hP hD hS hl h
  rw [f_Ref_meet_92] at h
  obtain rfl := os_of h
  exact W.iret (v := s0) hx hb hr (fun t ht hW => ⟨⟨_, (), rfl, rfl, (hPt hP ht)⟩, hS.F ht⟩) hS.2.2 (dt_at dt_Ref_meet 55 rfl)
set_option maxRecDepth 100000 in
set_option maxHeartbeats 4000000 in
theorem k_Ref_meet_65 {p : Program} {l : Launch} {e : Env} {s : State} {m : MethodId} {args : Array Value} {below : List Frame} {meth : Method} {c : Code} {D : va_G} {a : Nat → Nat} {q : Nat → ClassId} {A : Nat → Prop} (hC : CX p s m args meth c prog_12_method_46_code 8 "OutwardTapeModel" (some .int)) (hA : ∀ x, s.heap.size ≤ x → A x) (hK : va_K D CLS (tR q) s) {g5 : Int32} {g6 : Nat → Int32} {g7 : Int32} {g8 : Nat → Int32} {g9 : Int32} {g10 : Int64} {g11 : Int64} {g12 : Int32} {g13 : Int32} {g14 : Int32} {g15 : Int64} {g16 : Int32} {g17 : Int32} {g18 : Int64} {g19 : Int32} {r0 : Int32 × Int32 × (Nat → Int32) × (Nat → Int64) × (Nat → Int64) × (Nat → Int32)} : ∀ (s0 : Int32) (v3 : Int64) (v5 : Int64) (g0 : Int32) (g1 : Nat → Int32) (g2 : Nat → Int64) (g3 : Nat → Int64) (g4 : Nat → Int32) (H : Heap) (locs : List Loc) (ls : Array Slot), va_P D CLS (wR a q g0 g1 g2 g3 g4 g5 g6 g7 g8 g9 g10 g11 g12 g13 g14 g15 g16 g17 g18 g19) H → va_D A (wR a q g0 g1 g2 g3 g4 g5 g6 g7 g8 g9 g10 g11 g12 g13 g14 g15 g16 g17 g18 g19) → va_S A s.heap H locs → lv_has ls 8 [(0, .ref (a 0)), (3, .long v3), (5, .long v5)] → f_Ref_meet_65  s0 v3 v5 g0 g1 g2 g3 g4 = some r0 → W p l e rm_Ref_meet s m args below meth c H locs 0 0 (MQ below (va_Qi (fun (r : Int32) (_ : Unit) => r = r0.1) (fun _ t => va_P D CLS (wR a q r0.2.1 r0.2.2.1 r0.2.2.2.1 r0.2.2.2.2.1 r0.2.2.2.2.2 g5 g6 g7 g8 g9 g10 g11 g12 g13 g14 g15 g16 g17 g18 g19) t.heap) A) args s 0 0 A) (F0 m 65 ls [.int s0]) := by
  obtain ⟨hx, hb, hml, hown, hts, hr, hlocks⟩ := id hC
  intro s0 v3 v5 g0 g1 g2 g3 g4 H locs ls hP hD hS hl h
  rw [f_Ref_meet_65] at h
  refine lv_istore (lv' := [(7, .int s0), (0, .ref (a 0)), (3, .long v3), (5, .long v5)]) hx hb (dt_at dt_Ref_meet 39 rfl) hl (by decide) rfl (fun ls hl => ?_)
  refine lv_iload hx hb (dt_at dt_Ref_meet 40 rfl) (lv_at hl 0 rfl) ?_
  refine lv_if_eq (tgt := 84) hx hb (dt_at dt_Ref_meet 41 rfl) (by decide) (fun c1 => ?_) (fun c1 => ?_)
  · have h := if_p h c1
    refine lv_aload_n hx hb (dt_at dt_Ref_meet 49 rfl) rfl (lv_at hl 1 rfl) ?_
    refine lv_iconst (v := 1) hx hb (dt_at dt_Ref_meet 50 rfl) (by decide) ?_
    refine lv_lconst (v := 0) hx hb (dt_at dt_Ref_meet 51 rfl) (by decide) ?_
    refine lv_lconst (v := 0) hx hb (dt_at dt_Ref_meet 52 rfl) (by decide) ?_
    refine lv_iconst (v := 1) hx hb (dt_at dt_Ref_meet 53 rfl) (by decide) ?_
    obtain ⟨r2, h_r2, h⟩ := ob_of h
    have hF := va_free (wc := dR a) (dD (ws' := dR a) hD rfl) hS hA [0, 1, 2, 3, 4, 5, 6] rfl
    have hd : va_D (fun _ => True) (dR a) := (dD (ws' := dR a) hD rfl).weaken (fun _ _ _ _ => trivial)
    refine va_calli (va_runV (As := [.int (1 : Int32), .long (0 : Int64), .long (0 : Int64), .int (1 : Int32)]) (rest := []) ⟨hx, hb, hml, hown, hts⟩ (c_Ref_cell l D a q hd H.size (1 : Int32) (0 : Int64) (0 : Int64) (1 : Int32) g0 g1 g2 g3 g4 g5 g6 g7 g8 g9 g10 g11 g12 g13 g14 g15 g16 g17 g18 g19 r2 h_r2) (cwV 4 hts (gd_V (m_4 88 rfl rfl) (m_4 90 rfl rfl) (m_s 23 rfl rfl) (m_1 4 rfl rfl) (m_4 91 rfl rfl)) rfl rfl rfl (by decide +kernel) ⟨Nat.le_of_ble_eq_true rfl, Nat.le_of_ble_eq_true rfl⟩) ⟨fun a U g mk q => ⟨q.1, q.2.1, q.2.2.1, va_K.moved (u := U) (U := U.calling g mk a) (Vm.Alike.refl U.vm) q.2.2.2⟩, va_recv hK hP (ci := 0) (q0 := 0) rfl rfl, fun U hU hW => ⟨rfl, by rw [hU], by rw [hU]; exact hP, va_K.moved hW.alike hK⟩⟩ rfl rfl hl.1 rfl (lv_room (Nat.le_of_ble_eq_true rfl)) (dt_at dt_Ref_meet 54 rfl) ⟨Nat.le_of_ble_eq_true rfl, Nat.le_of_ble_eq_true rfl⟩) hS (fun x _ h9 => hF x h9) hF (fun u_r2 uu t H locs ht hvm hw hB hz1 hk1 hS => ?_)
    rw [ht] at hB
    subst hw
    have hP : va_P D CLS (wR a q r2.2.1 r2.2.2.1 r2.2.2.2.1 r2.2.2.2.2.1 r2.2.2.2.2.2 g5 g6 g7 g8 g9 g10 g11 g12 g13 g14 g15 g16 g17 g18 g19) H := hB
    have hD : va_D A (wR a q r2.2.1 r2.2.2.1 r2.2.2.2.1 r2.2.2.2.2.1 r2.2.2.2.2.2 g5 g6 g7 g8 g9 g10 g11 g12 g13 g14 g15 g16 g17 g18 g19) := dD hD rfl
    exact k_Ref_meet_92 hC hA hK   r2.1 r2.2.1 r2.2.2.1 r2.2.2.2.1 r2.2.2.2.2.1 r2.2.2.2.2.2 H locs ls hP hD hS (lv_sub hl [] rfl) h
  · have h := if_n h c1
    refine lv_aload_n hx hb (dt_at dt_Ref_meet 42 rfl) rfl (lv_at hl 1 rfl) ?_
    refine lv_iconst (v := 2) hx hb (dt_at dt_Ref_meet 43 rfl) (by decide) ?_
    refine lv_lload_n hx hb (dt_at dt_Ref_meet 44 rfl) rfl (lv_at hl 2 rfl) ?_
    refine lv_lload hx hb (dt_at dt_Ref_meet 45 rfl) (lv_at hl 3 rfl) ?_
    refine lv_iconst (v := 1) hx hb (dt_at dt_Ref_meet 46 rfl) (by decide) ?_
    obtain ⟨r3, h_r3, h⟩ := ob_of h
    have hF := va_free (wc := dR a) (dD (ws' := dR a) hD rfl) hS hA [0, 1, 2, 3, 4, 5, 6] rfl
    have hd : va_D (fun _ => True) (dR a) := (dD (ws' := dR a) hD rfl).weaken (fun _ _ _ _ => trivial)
    refine va_calli (va_runV (As := [.int (2 : Int32), .long v3, .long v5, .int (1 : Int32)]) (rest := []) ⟨hx, hb, hml, hown, hts⟩ (c_Ref_cell l D a q hd H.size (2 : Int32) v3 v5 (1 : Int32) g0 g1 g2 g3 g4 g5 g6 g7 g8 g9 g10 g11 g12 g13 g14 g15 g16 g17 g18 g19 r3 h_r3) (cwV 4 hts (gd_V (m_4 88 rfl rfl) (m_4 90 rfl rfl) (m_s 23 rfl rfl) (m_1 4 rfl rfl) (m_4 91 rfl rfl)) rfl rfl rfl (by decide +kernel) ⟨Nat.le_of_ble_eq_true rfl, Nat.le_of_ble_eq_true rfl⟩) ⟨fun a U g mk q => ⟨q.1, q.2.1, q.2.2.1, va_K.moved (u := U) (U := U.calling g mk a) (Vm.Alike.refl U.vm) q.2.2.2⟩, va_recv hK hP (ci := 0) (q0 := 0) rfl rfl, fun U hU hW => ⟨rfl, by rw [hU], by rw [hU]; exact hP, va_K.moved hW.alike hK⟩⟩ rfl rfl hl.1 rfl (lv_room (Nat.le_of_ble_eq_true rfl)) (dt_at dt_Ref_meet 47 rfl) ⟨Nat.le_of_ble_eq_true rfl, Nat.le_of_ble_eq_true rfl⟩) hS (fun x _ h9 => hF x h9) hF (fun u_r3 uu t H locs ht hvm hw hB hz1 hk1 hS => ?_)
    rw [ht] at hB
    subst hw
    have hP : va_P D CLS (wR a q r3.2.1 r3.2.2.1 r3.2.2.2.1 r3.2.2.2.2.1 r3.2.2.2.2.2 g5 g6 g7 g8 g9 g10 g11 g12 g13 g14 g15 g16 g17 g18 g19) H := hB
    have hD : va_D A (wR a q r3.2.1 r3.2.2.1 r3.2.2.2.1 r3.2.2.2.2.1 r3.2.2.2.2.2 g5 g6 g7 g8 g9 g10 g11 g12 g13 g14 g15 g16 g17 g18 g19) := dD hD rfl
    refine lv_goto (tgt := 92) hx hb (dt_at dt_Ref_meet 48 rfl) (by decide) ?_
    exact k_Ref_meet_92 hC hA hK   r3.1 r3.2.1 r3.2.2.1 r3.2.2.2.1 r3.2.2.2.2.1 r3.2.2.2.2.2 H locs ls hP hD hS (lv_sub hl [] rfl) h
set_option maxRecDepth 100000 in
set_option maxHeartbeats 4000000 in
theorem k_Ref_meet_64 {p : Program} {l : Launch} {e : Env} {s : State} {m : MethodId} {args : Array Value} {below : List Frame} {meth : Method} {c : Code} {D : va_G} {a : Nat → Nat} {q : Nat → ClassId} {A : Nat → Prop} (hC : CX p s m args meth c prog_12_method_46_code 8 "OutwardTapeModel" (some .int)) (hA : ∀ x, s.heap.size ≤ x → A x) (hK : va_K D CLS (tR q) s) {g5 : Int32} {g6 : Nat → Int32} {g7 : Int32} {g8 : Nat → Int32} {g9 : Int32} {g10 : Int64} {g11 : Int64} {g12 : Int32} {g13 : Int32} {g14 : Int32} {g15 : Int64} {g16 : Int32} {g17 : Int32} {g18 : Int64} {g19 : Int32} {r0 : Int32 × Int32 × (Nat → Int32) × (Nat → Int64) × (Nat → Int64) × (Nat → Int32)} : ∀ (v3 : Int64) (v5 : Int64) (g0 : Int32) (g1 : Nat → Int32) (g2 : Nat → Int64) (g3 : Nat → Int64) (g4 : Nat → Int32) (H : Heap) (locs : List Loc) (ls : Array Slot), va_P D CLS (wR a q g0 g1 g2 g3 g4 g5 g6 g7 g8 g9 g10 g11 g12 g13 g14 g15 g16 g17 g18 g19) H → va_D A (wR a q g0 g1 g2 g3 g4 g5 g6 g7 g8 g9 g10 g11 g12 g13 g14 g15 g16 g17 g18 g19) → va_S A s.heap H locs → lv_has ls 8 [(0, .ref (a 0)), (3, .long v3), (5, .long v5)] → f_Ref_meet_64  v3 v5 g0 g1 g2 g3 g4 = some r0 → W p l e rm_Ref_meet s m args below meth c H locs 0 0 (MQ below (va_Qi (fun (r : Int32) (_ : Unit) => r = r0.1) (fun _ t => va_P D CLS (wR a q r0.2.1 r0.2.2.1 r0.2.2.2.1 r0.2.2.2.2.1 r0.2.2.2.2.2 g5 g6 g7 g8 g9 g10 g11 g12 g13 g14 g15 g16 g17 g18 g19) t.heap) A) args s 0 0 A) (F0 m 64 ls []) := by
  obtain ⟨hx, hb, hml, hown, hts, hr, hlocks⟩ := id hC
  intro v3 v5 g0 g1 g2 g3 g4 H locs ls hP hD hS hl h
  rw [f_Ref_meet_64] at h
  refine lv_iconst (v := 0) hx hb (dt_at dt_Ref_meet 38 rfl) (by decide) ?_
  exact k_Ref_meet_65 hC hA hK   (0 : Int32) v3 v5 g0 g1 g2 g3 g4 H locs ls hP hD hS (lv_sub hl [0, 1, 2] rfl) h
set_option maxRecDepth 100000 in
set_option maxHeartbeats 4000000 in
theorem k_Ref_meet_0 {p : Program} {l : Launch} {e : Env} {s : State} {m : MethodId} {args : Array Value} {below : List Frame} {meth : Method} {c : Code} {D : va_G} {a : Nat → Nat} {q : Nat → ClassId} {A : Nat → Prop} (hC : CX p s m args meth c prog_12_method_46_code 8 "OutwardTapeModel" (some .int)) (hA : ∀ x, s.heap.size ≤ x → A x) (hK : va_K D CLS (tR q) s) {g5 : Int32} {g6 : Nat → Int32} {g7 : Int32} {g8 : Nat → Int32} {g9 : Int32} {g10 : Int64} {g11 : Int64} {g12 : Int32} {g13 : Int32} {g14 : Int32} {g15 : Int64} {g16 : Int32} {g17 : Int32} {g18 : Int64} {g19 : Int32} {r0 : Int32 × Int32 × (Nat → Int32) × (Nat → Int64) × (Nat → Int64) × (Nat → Int32)} : ∀ (v1 : Int32) (v2 : Int32) (g0 : Int32) (g1 : Nat → Int32) (g2 : Nat → Int64) (g3 : Nat → Int64) (g4 : Nat → Int32) (H : Heap) (locs : List Loc) (ls : Array Slot), va_P D CLS (wR a q g0 g1 g2 g3 g4 g5 g6 g7 g8 g9 g10 g11 g12 g13 g14 g15 g16 g17 g18 g19) H → va_D A (wR a q g0 g1 g2 g3 g4 g5 g6 g7 g8 g9 g10 g11 g12 g13 g14 g15 g16 g17 g18 g19) → va_S A s.heap H locs → lv_has ls 8 [(0, .ref (a 0)), (1, .int v1), (2, .int v2)] → f_Ref_meet_0  v1 v2 g0 g1 g2 g3 g4 = some r0 → W p l e rm_Ref_meet s m args below meth c H locs 0 0 (MQ below (va_Qi (fun (r : Int32) (_ : Unit) => r = r0.1) (fun _ t => va_P D CLS (wR a q r0.2.1 r0.2.2.1 r0.2.2.2.1 r0.2.2.2.2.1 r0.2.2.2.2.2 g5 g6 g7 g8 g9 g10 g11 g12 g13 g14 g15 g16 g17 g18 g19) t.heap) A) args s 0 0 A) (F0 m 0 ls []) := by
  obtain ⟨hx, hb, hml, hown, hts, hr, hlocks⟩ := id hC
  intro v1 v2 g0 g1 g2 g3 g4 H locs ls hP hD hS hl h
  rw [f_Ref_meet_0] at h
  refine lv_aload_n hx hb (dt_at dt_Ref_meet 0 rfl) rfl (lv_at hl 0 rfl) ?_
  refine va_get (D := D) (ci := 0) (v := .ref (a 2)) (C := "OutwardTapeModel") (T := T_Ref) (N := 20) hx hb hts in_Ref hown hK hP 0 rfl rfl 2 (by decide) (hts (Cond.fieldLink "OutwardTapeModel" 13 "OutwardTapeModel" "low" "[J") (m_4 1 rfl rfl)) (fun _ h9 => h9) rfl (dt_at dt_Ref_meet 1 rfl) ?_
  refine lv_iload_n hx hb (dt_at dt_Ref_meet 2 rfl) rfl (lv_at hl 1 rfl) ?_
  obtain ⟨z1, h⟩ := og_of h
  refine va_lald hx hb hK hP 2 1 rfl rfl z1 (dt_at dt_Ref_meet 3 rfl) ?_
  refine lv_aload_n hx hb (dt_at dt_Ref_meet 4 rfl) rfl (lv_at hl 0 rfl) ?_
  refine va_get (D := D) (ci := 0) (v := .ref (a 2)) (C := "OutwardTapeModel") (T := T_Ref) (N := 20) hx hb hts in_Ref hown hK hP 0 rfl rfl 2 (by decide) (hts (Cond.fieldLink "OutwardTapeModel" 13 "OutwardTapeModel" "low" "[J") (m_4 1 rfl rfl)) (fun _ h9 => h9) rfl (dt_at dt_Ref_meet 5 rfl) ?_
  refine lv_iload_n hx hb (dt_at dt_Ref_meet 6 rfl) rfl (lv_at hl 2 rfl) ?_
  obtain ⟨z2, h⟩ := og_of h
  refine va_lald hx hb hK hP 2 1 rfl rfl z2 (dt_at dt_Ref_meet 7 rfl) ?_
  obtain ⟨r3, h_r3, h⟩ := ob_of h
  refine vp_callSl (W.runS (As := [.long (g2 v1.toNatClampNeg), .long (g2 v2.toNatClampNeg)]) (rest := []) ⟨hx, hb, hml, hown, hts⟩ (c_Ref_greater l (g2 v1.toNatClampNeg) (g2 v2.toNatClampNeg) r3 h_r3) (va_cwS 2 hts (gd_S (m_4 117 rfl rfl) (m_4 118 rfl rfl) (m_1 4 rfl rfl) (m_4 119 rfl rfl)) rfl rfl rfl (by decide +kernel) ⟨Nat.le_of_ble_eq_true rfl, Nat.le_of_ble_eq_true rfl⟩) ⟨fun _ _ _ _ q => q, fun U hU hW => ⟨rfl, trivial⟩⟩ rfl rfl hl.1 rfl (lv_room (Nat.le_of_ble_eq_true rfl)) (dt_at dt_Ref_meet 8 rfl) ⟨Nat.le_of_ble_eq_true rfl, Nat.le_of_ble_eq_true rfl⟩) (fun u_r3 q_r3 => ?_)
  obtain rfl : r3 = u_r3 := q_r3.symm
  refine lv_lstore_n (lv' := [(3, .long r3), (0, .ref (a 0)), (1, .int v1), (2, .int v2)]) hx hb (dt_at dt_Ref_meet 9 rfl) rfl hl (by decide) rfl (fun ls hl => ?_)
  refine lv_aload_n hx hb (dt_at dt_Ref_meet 10 rfl) rfl (lv_at hl 1 rfl) ?_
  refine va_get (D := D) (ci := 0) (v := .ref (a 3)) (C := "OutwardTapeModel") (T := T_Ref) (N := 20) hx hb hts in_Ref hown hK hP 0 rfl rfl 3 (by decide) (hts (Cond.fieldLink "OutwardTapeModel" 17 "OutwardTapeModel" "high" "[J") (m_4 2 rfl rfl)) (fun _ h9 => h9) rfl (dt_at dt_Ref_meet 11 rfl) ?_
  refine lv_iload_n hx hb (dt_at dt_Ref_meet 12 rfl) rfl (lv_at hl 2 rfl) ?_
  obtain ⟨z4, h⟩ := og_of h
  refine va_lald hx hb hK hP 3 2 rfl rfl z4 (dt_at dt_Ref_meet 13 rfl) ?_
  refine lv_aload_n hx hb (dt_at dt_Ref_meet 14 rfl) rfl (lv_at hl 1 rfl) ?_
  refine va_get (D := D) (ci := 0) (v := .ref (a 3)) (C := "OutwardTapeModel") (T := T_Ref) (N := 20) hx hb hts in_Ref hown hK hP 0 rfl rfl 3 (by decide) (hts (Cond.fieldLink "OutwardTapeModel" 17 "OutwardTapeModel" "high" "[J") (m_4 2 rfl rfl)) (fun _ h9 => h9) rfl (dt_at dt_Ref_meet 15 rfl) ?_
  refine lv_iload_n hx hb (dt_at dt_Ref_meet 16 rfl) rfl (lv_at hl 3 rfl) ?_
  obtain ⟨z5, h⟩ := og_of h
  refine va_lald hx hb hK hP 3 2 rfl rfl z5 (dt_at dt_Ref_meet 17 rfl) ?_
  obtain ⟨r6, h_r6, h⟩ := ob_of h
  refine vp_callSl (W.runS (As := [.long (g3 v1.toNatClampNeg), .long (g3 v2.toNatClampNeg)]) (rest := []) ⟨hx, hb, hml, hown, hts⟩ (c_Ref_less l (g3 v1.toNatClampNeg) (g3 v2.toNatClampNeg) r6 h_r6) (va_cwS 2 hts (gd_S (m_4 111 rfl rfl) (m_4 112 rfl rfl) (m_1 4 rfl rfl) (m_4 113 rfl rfl)) rfl rfl rfl (by decide +kernel) ⟨Nat.le_of_ble_eq_true rfl, Nat.le_of_ble_eq_true rfl⟩) ⟨fun _ _ _ _ q => q, fun U hU hW => ⟨rfl, trivial⟩⟩ rfl rfl hl.1 rfl (lv_room (Nat.le_of_ble_eq_true rfl)) (dt_at dt_Ref_meet 18 rfl) ⟨Nat.le_of_ble_eq_true rfl, Nat.le_of_ble_eq_true rfl⟩) (fun u_r6 q_r6 => ?_)
  obtain rfl : r6 = u_r6 := q_r6.symm
  refine lv_lstore (lv' := [(5, .long r6), (3, .long r3), (0, .ref (a 0)), (1, .int v1), (2, .int v2)]) hx hb (dt_at dt_Ref_meet 19 rfl) hl (by decide) rfl (fun ls hl => ?_)
  refine lv_aload_n hx hb (dt_at dt_Ref_meet 20 rfl) rfl (lv_at hl 2 rfl) ?_
  refine va_get (D := D) (ci := 0) (v := .ref (a 1)) (C := "OutwardTapeModel") (T := T_Ref) (N := 20) hx hb hts in_Ref hown hK hP 0 rfl rfl 1 (by decide) (hts (Cond.fieldLink "OutwardTapeModel" 7 "OutwardTapeModel" "kind" "[I") (m_4 0 rfl rfl)) (fun _ h9 => h9) rfl (dt_at dt_Ref_meet 21 rfl) ?_
  refine lv_iload_n hx hb (dt_at dt_Ref_meet 22 rfl) rfl (lv_at hl 3 rfl) ?_
  obtain ⟨z7, h⟩ := og_of h
  refine va_iald hx hb hK hP 1 0 rfl rfl z7 (dt_at dt_Ref_meet 23 rfl) ?_
  refine lv_iconst (v := 2) hx hb (dt_at dt_Ref_meet 24 rfl) (by decide) ?_
  refine lv_icmp_ne (tgt := 64) hx hb (dt_at dt_Ref_meet 25 rfl) (by decide) (fun c8 => ?_) (fun c8 => ?_)
  · have h := if_n h c8
    exact k_Ref_meet_64 hC hA hK   r3 r6 g0 g1 g2 g3 g4 H locs ls hP hD hS (lv_sub hl [2, 1, 0] rfl) h
  · have h := if_p h c8
    refine lv_aload_n hx hb (dt_at dt_Ref_meet 26 rfl) rfl (lv_at hl 2 rfl) ?_
    refine va_get (D := D) (ci := 0) (v := .ref (a 1)) (C := "OutwardTapeModel") (T := T_Ref) (N := 20) hx hb hts in_Ref hown hK hP 0 rfl rfl 1 (by decide) (hts (Cond.fieldLink "OutwardTapeModel" 7 "OutwardTapeModel" "kind" "[I") (m_4 0 rfl rfl)) (fun _ h9 => h9) rfl (dt_at dt_Ref_meet 27 rfl) ?_
    refine lv_iload_n hx hb (dt_at dt_Ref_meet 28 rfl) rfl (lv_at hl 4 rfl) ?_
    obtain ⟨z9, h⟩ := og_of h
    refine va_iald hx hb hK hP 1 0 rfl rfl z9 (dt_at dt_Ref_meet 29 rfl) ?_
    refine lv_iconst (v := 2) hx hb (dt_at dt_Ref_meet 30 rfl) (by decide) ?_
    refine lv_icmp_ne (tgt := 64) hx hb (dt_at dt_Ref_meet 31 rfl) (by decide) (fun c10 => ?_) (fun c10 => ?_)
    · have h := if_n h c10
      exact k_Ref_meet_64 hC hA hK   r3 r6 g0 g1 g2 g3 g4 H locs ls hP hD hS (lv_sub hl [2, 1, 0] rfl) h
    · have h := if_p h c10
      refine lv_lload_n hx hb (dt_at dt_Ref_meet 32 rfl) rfl (lv_at hl 1 rfl) ?_
      refine lv_lload hx hb (dt_at dt_Ref_meet 33 rfl) (lv_at hl 0 rfl) ?_
      refine lc_gt (tgt := 64) hx hb (dt_at dt_Ref_meet 34 rfl) (dt_at dt_Ref_meet 35 rfl) (by decide) (fun c11 => ?_) (fun c11 => ?_)
      · have h := if_p h c11
        exact k_Ref_meet_64 hC hA hK   r3 r6 g0 g1 g2 g3 g4 H locs ls hP hD hS (lv_sub hl [2, 1, 0] rfl) h
      · have h := if_n h c11
        refine lv_iconst (v := 1) hx hb (dt_at dt_Ref_meet 36 rfl) (by decide) ?_
        refine lv_goto (tgt := 65) hx hb (dt_at dt_Ref_meet 37 rfl) (by decide) ?_
        exact k_Ref_meet_65 hC hA hK   (1 : Int32) r3 r6 g0 g1 g2 g3 g4 H locs ls hP hD hS (lv_sub hl [2, 1, 0] rfl) h
set_option maxRecDepth 100000 in
set_option maxHeartbeats 4000000 in
theorem c_Ref_meet (l : Launch) (D : va_G) (a : Nat → Nat) (q : Nat → ClassId) (hd : va_D (fun _ => True) (dR a)) (sz : Nat) (a1 : Int32) (a2 : Int32) (g0 : Int32) (g1 : Nat → Int32) (g2 : Nat → Int64) (g3 : Nat → Int64) (g4 : Nat → Int32) (g5 : Int32) (g6 : Nat → Int32) (g7 : Int32) (g8 : Nat → Int32) (g9 : Int32) (g10 : Int64) (g11 : Int64) (g12 : Int32) (g13 : Int32) (g14 : Int32) (g15 : Int64) (g16 : Int32) (g17 : Int32) (g18 : Int64) (g19 : Int32) (r0 : Int32 × Int32 × (Nat → Int32) × (Nat → Int64) × (Nat → Int64) × (Nat → Int32)) (h : f_Ref_meet a1 a2 g0 g1 g2 g3 g4 = some r0) : Met l (⟨"OutwardTapeModel", "meet", "(II)I"⟩ : MethodName) (WSm (⟨"OutwardTapeModel", "meet", "(II)I"⟩ : MethodName) prog_12_method_46_code 8 (some .int)) rm_Ref_meet (va_Pc [.ref (a 0), .int a1, .int a2] (fun U => U.heap.size = sz ∧ va_P D CLS (wR a q g0 g1 g2 g3 g4 g5 g6 g7 g8 g9 g10 g11 g12 g13 g14 g15 g16 g17 g18 g19) U.heap ∧ va_K D CLS (tR q) U)) (va_Qi (fun (r : Int32) (_ : Unit) => r = r0.1) (fun _ t => va_P D CLS (wR a q r0.2.1 r0.2.2.1 r0.2.2.2.1 r0.2.2.2.2.1 r0.2.2.2.2.2 g5 g6 g7 g8 g9 g10 g11 g12 g13 g14 g15 g16 g17 g18 g19) t.heap) (va_A (dR a) sz)) 0 0 (va_A (dR a) sz) := by
  refine Met.ofW (cc := prog_12_method_46_code) (maxL := 8) (ret := (some .int)) (by decide) rfl ?_
  intro p e s m args below meth c s₁ B hml hv
  obtain ⟨rfl, hsz, hP, hK⟩ := hv
  subst hsz
  have hC := CX.of B hml rfl
  have hl := lv_entry [.ref (a 0), .int a1, .int a2] (n := 8) (Nat.le_of_ble_eq_true rfl)
  rw [lg_entry_eq]
  generalize (lg_sl [.ref (a 0), .int a1, .int a2] ++ List.replicate (8 - (lg_sl [.ref (a 0), .int a1, .int a2]).length) Slot.unset).toArray = ls at hl ⊢
  have hl : lv_has ls 8 [(0, .ref (a 0)), (1, .int a1), (2, .int a2)] := hl
  exact k_Ref_meet_0 hC (fun x h => Or.inr h) hK a1 a2 g0 g1 g2 g3 g4 s.heap [] ls hP (dD hd.self rfl) va_S.rf (lv_sub hl [0, 1, 2] rfl) h
abbrev rm_Ref_hull : Room := { frames := 1, cells := 0, slots := 0, locals := 26 }
set_option maxRecDepth 100000 in
set_option maxHeartbeats 4000000 in
theorem k_Ref_hull_35 {p : Program} {l : Launch} {e : Env} {s : State} {m : MethodId} {args : Array Value} {below : List Frame} {meth : Method} {c : Code} {D : va_G} {a : Nat → Nat} {q : Nat → ClassId} {A : Nat → Prop} (hC : CX p s m args meth c prog_12_method_47_code 4 "OutwardTapeModel" (some .int)) (hA : ∀ x, s.heap.size ≤ x → A x) (hK : va_K D CLS (tR q) s) {g5 : Int32} {g6 : Nat → Int32} {g7 : Int32} {g8 : Nat → Int32} {g9 : Int32} {g10 : Int64} {g11 : Int64} {g12 : Int32} {g13 : Int32} {g14 : Int32} {g15 : Int64} {g16 : Int32} {g17 : Int32} {g18 : Int64} {g19 : Int32} {r0 : Int32 × Int32 × (Nat → Int32) × (Nat → Int64) × (Nat → Int64) × (Nat → Int32)} : ∀ (s0 : Int32) (g0 : Int32) (g1 : Nat → Int32) (g2 : Nat → Int64) (g3 : Nat → Int64) (g4 : Nat → Int32) (H : Heap) (locs : List Loc) (ls : Array Slot), va_P D CLS (wR a q g0 g1 g2 g3 g4 g5 g6 g7 g8 g9 g10 g11 g12 g13 g14 g15 g16 g17 g18 g19) H → va_D A (wR a q g0 g1 g2 g3 g4 g5 g6 g7 g8 g9 g10 g11 g12 g13 g14 g15 g16 g17 g18 g19) → va_S A s.heap H locs → lv_has ls 4 [(0, .ref (a 0))] → f_Ref_hull_35  s0 g0 g1 g2 g3 g4 = some r0 → W p l e rm_Ref_hull s m args below meth c H locs 0 0 (MQ below (va_Qi (fun (r : Int32) (_ : Unit) => r = r0.1) (fun _ t => va_P D CLS (wR a q r0.2.1 r0.2.2.1 r0.2.2.2.1 r0.2.2.2.2.1 r0.2.2.2.2.2 g5 g6 g7 g8 g9 g10 g11 g12 g13 g14 g15 g16 g17 g18 g19) t.heap) A) args s 0 0 A) (F0 m 35 ls [.int s0]) := by
  obtain ⟨hx, hb, hml, hown, hts, hr, hlocks⟩ := id hC
  intro s0 g0 g1 g2 g3 g4 H locs ls hP hD hS hl h
  rw [f_Ref_hull_35] at h
  refine lv_istore_n (lv' := [(3, .int s0), (0, .ref (a 0))]) hx hb (dt_at dt_Ref_hull 21 rfl) rfl hl (by decide) rfl (fun ls hl => ?_)
  refine lv_aload_n hx hb (dt_at dt_Ref_hull 22 rfl) rfl (lv_at hl 1 rfl) ?_
  refine lv_aload_n hx hb (dt_at dt_Ref_hull 23 rfl) rfl (lv_at hl 1 rfl) ?_
  refine va_get (D := D) (ci := 0) (v := .ref (a 1)) (C := "OutwardTapeModel") (T := T_Ref) (N := 20) hx hb hts in_Ref hown hK hP 0 rfl rfl 1 (by decide) (hts (Cond.fieldLink "OutwardTapeModel" 7 "OutwardTapeModel" "kind" "[I") (m_4 0 rfl rfl)) (fun _ h9 => h9) rfl (dt_at dt_Ref_hull 24 rfl) ?_
  refine lv_iload_n hx hb (dt_at dt_Ref_hull 25 rfl) rfl (lv_at hl 0 rfl) ?_
  obtain ⟨z1, h⟩ := og_of h
  refine va_iald hx hb hK hP 1 0 rfl rfl z1 (dt_at dt_Ref_hull 26 rfl) ?_
  refine lv_aload_n hx hb (dt_at dt_Ref_hull 27 rfl) rfl (lv_at hl 1 rfl) ?_
  refine va_get (D := D) (ci := 0) (v := .ref (a 2)) (C := "OutwardTapeModel") (T := T_Ref) (N := 20) hx hb hts in_Ref hown hK hP 0 rfl rfl 2 (by decide) (hts (Cond.fieldLink "OutwardTapeModel" 13 "OutwardTapeModel" "low" "[J") (m_4 1 rfl rfl)) (fun _ h9 => h9) rfl (dt_at dt_Ref_hull 28 rfl) ?_
  refine lv_iload_n hx hb (dt_at dt_Ref_hull 29 rfl) rfl (lv_at hl 0 rfl) ?_
  obtain ⟨z2, h⟩ := og_of h
  refine va_lald hx hb hK hP 2 1 rfl rfl z2 (dt_at dt_Ref_hull 30 rfl) ?_
  refine lv_aload_n hx hb (dt_at dt_Ref_hull 31 rfl) rfl (lv_at hl 1 rfl) ?_
  refine va_get (D := D) (ci := 0) (v := .ref (a 3)) (C := "OutwardTapeModel") (T := T_Ref) (N := 20) hx hb hts in_Ref hown hK hP 0 rfl rfl 3 (by decide) (hts (Cond.fieldLink "OutwardTapeModel" 17 "OutwardTapeModel" "high" "[J") (m_4 2 rfl rfl)) (fun _ h9 => h9) rfl (dt_at dt_Ref_hull 32 rfl) ?_
  refine lv_iload_n hx hb (dt_at dt_Ref_hull 33 rfl) rfl (lv_at hl 0 rfl) ?_
  obtain ⟨z3, h⟩ := og_of h
  refine va_lald hx hb hK hP 3 2 rfl rfl z3 (dt_at dt_Ref_hull 34 rfl) ?_
  refine lv_iconst (v := 1) hx hb (dt_at dt_Ref_hull 35 rfl) (by decide) ?_
  obtain ⟨r4, h_r4, h⟩ := ob_of h
  have hF := va_free (wc := dR a) (dD (ws' := dR a) hD rfl) hS hA [0, 1, 2, 3, 4, 5, 6] rfl
  have hd : va_D (fun _ => True) (dR a) := (dD (ws' := dR a) hD rfl).weaken (fun _ _ _ _ => trivial)
  refine va_calli (va_runV (As := [.int (g1 s0.toNatClampNeg), .long (g2 s0.toNatClampNeg), .long (g3 s0.toNatClampNeg), .int (1 : Int32)]) (rest := []) ⟨hx, hb, hml, hown, hts⟩ (c_Ref_cell l D a q hd H.size (g1 s0.toNatClampNeg) (g2 s0.toNatClampNeg) (g3 s0.toNatClampNeg) (1 : Int32) g0 g1 g2 g3 g4 g5 g6 g7 g8 g9 g10 g11 g12 g13 g14 g15 g16 g17 g18 g19 r4 h_r4) (cwV 4 hts (gd_V (m_4 88 rfl rfl) (m_4 90 rfl rfl) (m_s 23 rfl rfl) (m_1 4 rfl rfl) (m_4 91 rfl rfl)) rfl rfl rfl (by decide +kernel) ⟨Nat.le_of_ble_eq_true rfl, Nat.le_of_ble_eq_true rfl⟩) ⟨fun a U g mk q => ⟨q.1, q.2.1, q.2.2.1, va_K.moved (u := U) (U := U.calling g mk a) (Vm.Alike.refl U.vm) q.2.2.2⟩, va_recv hK hP (ci := 0) (q0 := 0) rfl rfl, fun U hU hW => ⟨rfl, by rw [hU], by rw [hU]; exact hP, va_K.moved hW.alike hK⟩⟩ rfl rfl hl.1 rfl (lv_room (Nat.le_of_ble_eq_true rfl)) (dt_at dt_Ref_hull 36 rfl) ⟨Nat.le_of_ble_eq_true rfl, Nat.le_of_ble_eq_true rfl⟩) hS (fun x _ h9 => hF x h9) hF (fun u_r4 uu t H locs ht hvm hw hB hz1 hk1 hS => ?_)
  rw [ht] at hB
  subst hw
  have hP : va_P D CLS (wR a q r4.2.1 r4.2.2.1 r4.2.2.2.1 r4.2.2.2.2.1 r4.2.2.2.2.2 g5 g6 g7 g8 g9 g10 g11 g12 g13 g14 g15 g16 g17 g18 g19) H := hB
  have hD : va_D A (wR a q r4.2.1 r4.2.2.1 r4.2.2.2.1 r4.2.2.2.2.1 r4.2.2.2.2.2 g5 g6 g7 g8 g9 g10 g11 g12 g13 g14 g15 g16 g17 g18 g19) := dD hD rfl
  obtain rfl := os_of h
  exact W.iret (v := r4.1) hx hb hr (fun t ht hW => ⟨⟨_, (), rfl, rfl, (hPt hP ht)⟩, hS.F ht⟩) hS.2.2 (dt_at dt_Ref_hull 37 rfl)
set_option maxRecDepth 100000 in
set_option maxHeartbeats 4000000 in
theorem k_Ref_hull_20 {p : Program} {l : Launch} {e : Env} {s : State} {m : MethodId} {args : Array Value} {below : List Frame} {meth : Method} {c : Code} {D : va_G} {a : Nat → Nat} {q : Nat → ClassId} {A : Nat → Prop} (hC : CX p s m args meth c prog_12_method_47_code 4 "OutwardTapeModel" (some .int)) (hA : ∀ x, s.heap.size ≤ x → A x) (hK : va_K D CLS (tR q) s) {g5 : Int32} {g6 : Nat → Int32} {g7 : Int32} {g8 : Nat → Int32} {g9 : Int32} {g10 : Int64} {g11 : Int64} {g12 : Int32} {g13 : Int32} {g14 : Int32} {g15 : Int64} {g16 : Int32} {g17 : Int32} {g18 : Int64} {g19 : Int32} {r0 : Int32 × Int32 × (Nat → Int32) × (Nat → Int64) × (Nat → Int64) × (Nat → Int32)} : ∀ (v1 : Int32) (v2 : Int32) (g0 : Int32) (g1 : Nat → Int32) (g2 : Nat → Int64) (g3 : Nat → Int64) (g4 : Nat → Int32) (H : Heap) (locs : List Loc) (ls : Array Slot), va_P D CLS (wR a q g0 g1 g2 g3 g4 g5 g6 g7 g8 g9 g10 g11 g12 g13 g14 g15 g16 g17 g18 g19) H → va_D A (wR a q g0 g1 g2 g3 g4 g5 g6 g7 g8 g9 g10 g11 g12 g13 g14 g15 g16 g17 g18 g19) → va_S A s.heap H locs → lv_has ls 4 [(0, .ref (a 0)), (1, .int v1), (2, .int v2)] → f_Ref_hull_20  v1 v2 g0 g1 g2 g3 g4 = some r0 → W p l e rm_Ref_hull s m args below meth c H locs 0 0 (MQ below (va_Qi (fun (r : Int32) (_ : Unit) => r = r0.1) (fun _ t => va_P D CLS (wR a q r0.2.1 r0.2.2.1 r0.2.2.2.1 r0.2.2.2.2.1 r0.2.2.2.2.2 g5 g6 g7 g8 g9 g10 g11 g12 g13 g14 g15 g16 g17 g18 g19) t.heap) A) args s 0 0 A) (F0 m 20 ls []) := by
  obtain ⟨hx, hb, hml, hown, hts, hr, hlocks⟩ := id hC
  intro v1 v2 g0 g1 g2 g3 g4 H locs ls hP hD hS hl h
  rw [f_Ref_hull_20] at h
  refine lv_aload_n hx hb (dt_at dt_Ref_hull 12 rfl) rfl (lv_at hl 0 rfl) ?_
  refine va_get (D := D) (ci := 0) (v := .ref (a 1)) (C := "OutwardTapeModel") (T := T_Ref) (N := 20) hx hb hts in_Ref hown hK hP 0 rfl rfl 1 (by decide) (hts (Cond.fieldLink "OutwardTapeModel" 7 "OutwardTapeModel" "kind" "[I") (m_4 0 rfl rfl)) (fun _ h9 => h9) rfl (dt_at dt_Ref_hull 13 rfl) ?_
  refine lv_iload_n hx hb (dt_at dt_Ref_hull 14 rfl) rfl (lv_at hl 1 rfl) ?_
  obtain ⟨z1, h⟩ := og_of h
  refine va_iald hx hb hK hP 1 0 rfl rfl z1 (dt_at dt_Ref_hull 15 rfl) ?_
  refine lv_iconst (v := 1) hx hb (dt_at dt_Ref_hull 16 rfl) (by decide) ?_
  refine lv_icmp_ne (tgt := 34) hx hb (dt_at dt_Ref_hull 17 rfl) (by decide) (fun c2 => ?_) (fun c2 => ?_)
  · have h := if_n h c2
    refine lv_iload_n hx hb (dt_at dt_Ref_hull 20 rfl) rfl (lv_at hl 1 rfl) ?_
    exact k_Ref_hull_35 hC hA hK   v1 g0 g1 g2 g3 g4 H locs ls hP hD hS (lv_sub hl [0] rfl) h
  · have h := if_p h c2
    refine lv_iload_n hx hb (dt_at dt_Ref_hull 18 rfl) rfl (lv_at hl 2 rfl) ?_
    refine lv_goto (tgt := 35) hx hb (dt_at dt_Ref_hull 19 rfl) (by decide) ?_
    exact k_Ref_hull_35 hC hA hK   v2 g0 g1 g2 g3 g4 H locs ls hP hD hS (lv_sub hl [0] rfl) h
set_option maxRecDepth 100000 in
set_option maxHeartbeats 4000000 in
theorem k_Ref_hull_0 {p : Program} {l : Launch} {e : Env} {s : State} {m : MethodId} {args : Array Value} {below : List Frame} {meth : Method} {c : Code} {D : va_G} {a : Nat → Nat} {q : Nat → ClassId} {A : Nat → Prop} (hC : CX p s m args meth c prog_12_method_47_code 4 "OutwardTapeModel" (some .int)) (hA : ∀ x, s.heap.size ≤ x → A x) (hK : va_K D CLS (tR q) s) {g5 : Int32} {g6 : Nat → Int32} {g7 : Int32} {g8 : Nat → Int32} {g9 : Int32} {g10 : Int64} {g11 : Int64} {g12 : Int32} {g13 : Int32} {g14 : Int32} {g15 : Int64} {g16 : Int32} {g17 : Int32} {g18 : Int64} {g19 : Int32} {r0 : Int32 × Int32 × (Nat → Int32) × (Nat → Int64) × (Nat → Int64) × (Nat → Int32)} : ∀ (v1 : Int32) (v2 : Int32) (g0 : Int32) (g1 : Nat → Int32) (g2 : Nat → Int64) (g3 : Nat → Int64) (g4 : Nat → Int32) (H : Heap) (locs : List Loc) (ls : Array Slot), va_P D CLS (wR a q g0 g1 g2 g3 g4 g5 g6 g7 g8 g9 g10 g11 g12 g13 g14 g15 g16 g17 g18 g19) H → va_D A (wR a q g0 g1 g2 g3 g4 g5 g6 g7 g8 g9 g10 g11 g12 g13 g14 g15 g16 g17 g18 g19) → va_S A s.heap H locs → lv_has ls 4 [(0, .ref (a 0)), (1, .int v1), (2, .int v2)] → f_Ref_hull_0  v1 v2 g0 g1 g2 g3 g4 = some r0 → W p l e rm_Ref_hull s m args below meth c H locs 0 0 (MQ below (va_Qi (fun (r : Int32) (_ : Unit) => r = r0.1) (fun _ t => va_P D CLS (wR a q r0.2.1 r0.2.2.1 r0.2.2.2.1 r0.2.2.2.2.1 r0.2.2.2.2.2 g5 g6 g7 g8 g9 g10 g11 g12 g13 g14 g15 g16 g17 g18 g19) t.heap) A) args s 0 0 A) (F0 m 0 ls []) := by
  obtain ⟨hx, hb, hml, hown, hts, hr, hlocks⟩ := id hC
  intro v1 v2 g0 g1 g2 g3 g4 H locs ls hP hD hS hl h
  rw [f_Ref_hull_0] at h
  refine lv_aload_n hx hb (dt_at dt_Ref_hull 0 rfl) rfl (lv_at hl 0 rfl) ?_
  refine va_get (D := D) (ci := 0) (v := .ref (a 1)) (C := "OutwardTapeModel") (T := T_Ref) (N := 20) hx hb hts in_Ref hown hK hP 0 rfl rfl 1 (by decide) (hts (Cond.fieldLink "OutwardTapeModel" 7 "OutwardTapeModel" "kind" "[I") (m_4 0 rfl rfl)) (fun _ h9 => h9) rfl (dt_at dt_Ref_hull 1 rfl) ?_
  refine lv_iload_n hx hb (dt_at dt_Ref_hull 2 rfl) rfl (lv_at hl 1 rfl) ?_
  obtain ⟨z1, h⟩ := og_of h
  refine va_iald hx hb hK hP 1 0 rfl rfl z1 (dt_at dt_Ref_hull 3 rfl) ?_
  refine lv_iconst (v := 1) hx hb (dt_at dt_Ref_hull 4 rfl) (by decide) ?_
  refine lv_icmp_eq (tgt := 20) hx hb (dt_at dt_Ref_hull 5 rfl) (by decide) (fun c2 => ?_) (fun c2 => ?_)
  · have h := if_p h c2
    exact k_Ref_hull_20 hC hA hK   v1 v2 g0 g1 g2 g3 g4 H locs ls hP hD hS (lv_sub hl [0, 1, 2] rfl) h
  · have h := if_n h c2
    refine lv_aload_n hx hb (dt_at dt_Ref_hull 6 rfl) rfl (lv_at hl 0 rfl) ?_
    refine va_get (D := D) (ci := 0) (v := .ref (a 1)) (C := "OutwardTapeModel") (T := T_Ref) (N := 20) hx hb hts in_Ref hown hK hP 0 rfl rfl 1 (by decide) (hts (Cond.fieldLink "OutwardTapeModel" 7 "OutwardTapeModel" "kind" "[I") (m_4 0 rfl rfl)) (fun _ h9 => h9) rfl (dt_at dt_Ref_hull 7 rfl) ?_
    refine lv_iload_n hx hb (dt_at dt_Ref_hull 8 rfl) rfl (lv_at hl 2 rfl) ?_
    obtain ⟨z3, h⟩ := og_of h
    refine va_iald hx hb hK hP 1 0 rfl rfl z3 (dt_at dt_Ref_hull 9 rfl) ?_
    refine lv_iconst (v := 1) hx hb (dt_at dt_Ref_hull 10 rfl) (by decide) ?_
    refine lv_icmp_ne (tgt := 60) hx hb (dt_at dt_Ref_hull 11 rfl) (by decide) (fun c4 => ?_) (fun c4 => ?_)
    · have h := if_n h c4
      refine lv_aload_n hx hb (dt_at dt_Ref_hull 38 rfl) rfl (lv_at hl 0 rfl) ?_
      refine lv_iconst (v := 2) hx hb (dt_at dt_Ref_hull 39 rfl) (by decide) ?_
      refine lv_aload_n hx hb (dt_at dt_Ref_hull 40 rfl) rfl (lv_at hl 0 rfl) ?_
      refine va_get (D := D) (ci := 0) (v := .ref (a 2)) (C := "OutwardTapeModel") (T := T_Ref) (N := 20) hx hb hts in_Ref hown hK hP 0 rfl rfl 2 (by decide) (hts (Cond.fieldLink "OutwardTapeModel" 13 "OutwardTapeModel" "low" "[J") (m_4 1 rfl rfl)) (fun _ h9 => h9) rfl (dt_at dt_Ref_hull 41 rfl) ?_
      refine lv_iload_n hx hb (dt_at dt_Ref_hull 42 rfl) rfl (lv_at hl 1 rfl) ?_
      obtain ⟨z5, h⟩ := og_of h
      refine va_lald hx hb hK hP 2 1 rfl rfl z5 (dt_at dt_Ref_hull 43 rfl) ?_
      refine lv_aload_n hx hb (dt_at dt_Ref_hull 44 rfl) rfl (lv_at hl 0 rfl) ?_
      refine va_get (D := D) (ci := 0) (v := .ref (a 2)) (C := "OutwardTapeModel") (T := T_Ref) (N := 20) hx hb hts in_Ref hown hK hP 0 rfl rfl 2 (by decide) (hts (Cond.fieldLink "OutwardTapeModel" 13 "OutwardTapeModel" "low" "[J") (m_4 1 rfl rfl)) (fun _ h9 => h9) rfl (dt_at dt_Ref_hull 45 rfl) ?_
      refine lv_iload_n hx hb (dt_at dt_Ref_hull 46 rfl) rfl (lv_at hl 2 rfl) ?_
      obtain ⟨z6, h⟩ := og_of h
      refine va_lald hx hb hK hP 2 1 rfl rfl z6 (dt_at dt_Ref_hull 47 rfl) ?_
      obtain ⟨r7, h_r7, h⟩ := ob_of h
      refine vp_callSl (W.runS (As := [.long (g2 v1.toNatClampNeg), .long (g2 v2.toNatClampNeg)]) (rest := [.int (2 : Int32), .ref (a 0)]) ⟨hx, hb, hml, hown, hts⟩ (c_Ref_less l (g2 v1.toNatClampNeg) (g2 v2.toNatClampNeg) r7 h_r7) (va_cwS 2 hts (gd_S (m_4 111 rfl rfl) (m_4 112 rfl rfl) (m_1 4 rfl rfl) (m_4 113 rfl rfl)) rfl rfl rfl (by decide +kernel) ⟨Nat.le_of_ble_eq_true rfl, Nat.le_of_ble_eq_true rfl⟩) ⟨fun _ _ _ _ q => q, fun U hU hW => ⟨rfl, trivial⟩⟩ rfl rfl hl.1 rfl (lv_room (Nat.le_of_ble_eq_true rfl)) (dt_at dt_Ref_hull 48 rfl) ⟨Nat.le_of_ble_eq_true rfl, Nat.le_of_ble_eq_true rfl⟩) (fun u_r7 q_r7 => ?_)
      obtain rfl : r7 = u_r7 := q_r7.symm
      refine lv_aload_n hx hb (dt_at dt_Ref_hull 49 rfl) rfl (lv_at hl 0 rfl) ?_
      refine va_get (D := D) (ci := 0) (v := .ref (a 3)) (C := "OutwardTapeModel") (T := T_Ref) (N := 20) hx hb hts in_Ref hown hK hP 0 rfl rfl 3 (by decide) (hts (Cond.fieldLink "OutwardTapeModel" 17 "OutwardTapeModel" "high" "[J") (m_4 2 rfl rfl)) (fun _ h9 => h9) rfl (dt_at dt_Ref_hull 50 rfl) ?_
      refine lv_iload_n hx hb (dt_at dt_Ref_hull 51 rfl) rfl (lv_at hl 1 rfl) ?_
      obtain ⟨z8, h⟩ := og_of h
      refine va_lald hx hb hK hP 3 2 rfl rfl z8 (dt_at dt_Ref_hull 52 rfl) ?_
      refine lv_aload_n hx hb (dt_at dt_Ref_hull 53 rfl) rfl (lv_at hl 0 rfl) ?_
      refine va_get (D := D) (ci := 0) (v := .ref (a 3)) (C := "OutwardTapeModel") (T := T_Ref) (N := 20) hx hb hts in_Ref hown hK hP 0 rfl rfl 3 (by decide) (hts (Cond.fieldLink "OutwardTapeModel" 17 "OutwardTapeModel" "high" "[J") (m_4 2 rfl rfl)) (fun _ h9 => h9) rfl (dt_at dt_Ref_hull 54 rfl) ?_
      refine lv_iload_n hx hb (dt_at dt_Ref_hull 55 rfl) rfl (lv_at hl 2 rfl) ?_
      obtain ⟨z9, h⟩ := og_of h
      refine va_lald hx hb hK hP 3 2 rfl rfl z9 (dt_at dt_Ref_hull 56 rfl) ?_
      obtain ⟨r10, h_r10, h⟩ := ob_of h
      refine vp_callSl (W.runS (As := [.long (g3 v1.toNatClampNeg), .long (g3 v2.toNatClampNeg)]) (rest := [.long r7, .int (2 : Int32), .ref (a 0)]) ⟨hx, hb, hml, hown, hts⟩ (c_Ref_greater l (g3 v1.toNatClampNeg) (g3 v2.toNatClampNeg) r10 h_r10) (va_cwS 2 hts (gd_S (m_4 117 rfl rfl) (m_4 118 rfl rfl) (m_1 4 rfl rfl) (m_4 119 rfl rfl)) rfl rfl rfl (by decide +kernel) ⟨Nat.le_of_ble_eq_true rfl, Nat.le_of_ble_eq_true rfl⟩) ⟨fun _ _ _ _ q => q, fun U hU hW => ⟨rfl, trivial⟩⟩ rfl rfl hl.1 rfl (lv_room (Nat.le_of_ble_eq_true rfl)) (dt_at dt_Ref_hull 57 rfl) ⟨Nat.le_of_ble_eq_true rfl, Nat.le_of_ble_eq_true rfl⟩) (fun u_r10 q_r10 => ?_)
      obtain rfl : r10 = u_r10 := q_r10.symm
      refine lv_iconst (v := 1) hx hb (dt_at dt_Ref_hull 58 rfl) (by decide) ?_
      obtain ⟨r11, h_r11, h⟩ := ob_of h
      have hF := va_free (wc := dR a) (dD (ws' := dR a) hD rfl) hS hA [0, 1, 2, 3, 4, 5, 6] rfl
      have hd : va_D (fun _ => True) (dR a) := (dD (ws' := dR a) hD rfl).weaken (fun _ _ _ _ => trivial)
      refine va_calli (va_runV (As := [.int (2 : Int32), .long r7, .long r10, .int (1 : Int32)]) (rest := []) ⟨hx, hb, hml, hown, hts⟩ (c_Ref_cell l D a q hd H.size (2 : Int32) r7 r10 (1 : Int32) g0 g1 g2 g3 g4 g5 g6 g7 g8 g9 g10 g11 g12 g13 g14 g15 g16 g17 g18 g19 r11 h_r11) (cwV 4 hts (gd_V (m_4 88 rfl rfl) (m_4 90 rfl rfl) (m_s 23 rfl rfl) (m_1 4 rfl rfl) (m_4 91 rfl rfl)) rfl rfl rfl (by decide +kernel) ⟨Nat.le_of_ble_eq_true rfl, Nat.le_of_ble_eq_true rfl⟩) ⟨fun a U g mk q => ⟨q.1, q.2.1, q.2.2.1, va_K.moved (u := U) (U := U.calling g mk a) (Vm.Alike.refl U.vm) q.2.2.2⟩, va_recv hK hP (ci := 0) (q0 := 0) rfl rfl, fun U hU hW => ⟨rfl, by rw [hU], by rw [hU]; exact hP, va_K.moved hW.alike hK⟩⟩ rfl rfl hl.1 rfl (lv_room (Nat.le_of_ble_eq_true rfl)) (dt_at dt_Ref_hull 59 rfl) ⟨Nat.le_of_ble_eq_true rfl, Nat.le_of_ble_eq_true rfl⟩) hS (fun x _ h9 => hF x h9) hF (fun u_r11 uu t H locs ht hvm hw hB hz1 hk1 hS => ?_)
      rw [ht] at hB
      subst hw
      have hP : va_P D CLS (wR a q r11.2.1 r11.2.2.1 r11.2.2.2.1 r11.2.2.2.2.1 r11.2.2.2.2.2 g5 g6 g7 g8 g9 g10 g11 g12 g13 g14 g15 g16 g17 g18 g19) H := hB
      have hD : va_D A (wR a q r11.2.1 r11.2.2.1 r11.2.2.2.1 r11.2.2.2.2.1 r11.2.2.2.2.2 g5 g6 g7 g8 g9 g10 g11 g12 g13 g14 g15 g16 g17 g18 g19) := dD hD rfl
      obtain rfl := os_of h
      exact W.iret (v := r11.1) hx hb hr (fun t ht hW => ⟨⟨_, (), rfl, rfl, (hPt hP ht)⟩, hS.F ht⟩) hS.2.2 (dt_at dt_Ref_hull 60 rfl)
    · have h := if_p h c4
      exact k_Ref_hull_20 hC hA hK   v1 v2 g0 g1 g2 g3 g4 H locs ls hP hD hS (lv_sub hl [0, 1, 2] rfl) h
set_option maxRecDepth 100000 in
set_option maxHeartbeats 4000000 in
theorem c_Ref_hull (l : Launch) (D : va_G) (a : Nat → Nat) (q : Nat → ClassId) (hd : va_D (fun _ => True) (dR a)) (sz : Nat) (a1 : Int32) (a2 : Int32) (g0 : Int32) (g1 : Nat → Int32) (g2 : Nat → Int64) (g3 : Nat → Int64) (g4 : Nat → Int32) (g5 : Int32) (g6 : Nat → Int32) (g7 : Int32) (g8 : Nat → Int32) (g9 : Int32) (g10 : Int64) (g11 : Int64) (g12 : Int32) (g13 : Int32) (g14 : Int32) (g15 : Int64) (g16 : Int32) (g17 : Int32) (g18 : Int64) (g19 : Int32) (r0 : Int32 × Int32 × (Nat → Int32) × (Nat → Int64) × (Nat → Int64) × (Nat → Int32)) (h : f_Ref_hull a1 a2 g0 g1 g2 g3 g4 = some r0) : Met l (⟨"OutwardTapeModel", "hull", "(II)I"⟩ : MethodName) (WSm (⟨"OutwardTapeModel", "hull", "(II)I"⟩ : MethodName) prog_12_method_47_code 4 (some .int)) rm_Ref_hull (va_Pc [.ref (a 0), .int a1, .int a2] (fun U => U.heap.size = sz ∧ va_P D CLS (wR a q g0 g1 g2 g3 g4 g5 g6 g7 g8 g9 g10 g11 g12 g13 g14 g15 g16 g17 g18 g19) U.heap ∧ va_K D CLS (tR q) U)) (va_Qi (fun (r : Int32) (_ : Unit) => r = r0.1) (fun _ t => va_P D CLS (wR a q r0.2.1 r0.2.2.1 r0.2.2.2.1 r0.2.2.2.2.1 r0.2.2.2.2.2 g5 g6 g7 g8 g9 g10 g11 g12 g13 g14 g15 g16 g17 g18 g19) t.heap) (va_A (dR a) sz)) 0 0 (va_A (dR a) sz) := by
  refine Met.ofW (cc := prog_12_method_47_code) (maxL := 4) (ret := (some .int)) (by decide) rfl ?_
  intro p e s m args below meth c s₁ B hml hv
  obtain ⟨rfl, hsz, hP, hK⟩ := hv
  subst hsz
  have hC := CX.of B hml rfl
  have hl := lv_entry [.ref (a 0), .int a1, .int a2] (n := 4) (Nat.le_of_ble_eq_true rfl)
  rw [lg_entry_eq]
  generalize (lg_sl [.ref (a 0), .int a1, .int a2] ++ List.replicate (4 - (lg_sl [.ref (a 0), .int a1, .int a2]).length) Slot.unset).toArray = ls at hl ⊢
  have hl : lv_has ls 4 [(0, .ref (a 0)), (1, .int a1), (2, .int a2)] := hl
  exact k_Ref_hull_0 hC (fun x h => Or.inr h) hK a1 a2 g0 g1 g2 g3 g4 s.heap [] ls hP (dD hd.self rfl) va_S.rf (lv_sub hl [0, 1, 2] rfl) h
abbrev rm_Ref_binary : Room := { frames := 7, cells := 0, slots := 0, locals := 194 }
set_option maxRecDepth 100000 in
set_option maxHeartbeats 4000000 in
theorem k_Ref_binary_220 {p : Program} {l : Launch} {e : Env} {s : State} {m : MethodId} {args : Array Value} {below : List Frame} {meth : Method} {c : Code} {D : va_G} {a : Nat → Nat} {q : Nat → ClassId} {A : Nat → Prop} (hC : CX p s m args meth c prog_12_method_48_code 5 "OutwardTapeModel" (some .int)) (hA : ∀ x, s.heap.size ≤ x → A x) (hK : va_K D CLS (tR q) s) {g6 : Nat → Int32} {g7 : Int32} {g13 : Int32} {g14 : Int32} {g15 : Int64} {g16 : Int32} {g17 : Int32} {g18 : Int64} {g19 : Int32} {r0 : Int32 × Int32 × (Nat → Int32) × (Nat → Int64) × (Nat → Int64) × (Nat → Int32) × Int32 × (Nat → Int32) × Int32 × Int64 × Int64 × Int32} : ∀ (s0 : Int32) (s1 : Int32) (v2 : Int32) (v3 : Int32) (g0 : Int32) (g1 : Nat → Int32) (g2 : Nat → Int64) (g3 : Nat → Int64) (g4 : Nat → Int32) (g5 : Int32) (g8 : Nat → Int32) (g9 : Int32) (g10 : Int64) (g11 : Int64) (g12 : Int32) (H : Heap) (locs : List Loc) (ls : Array Slot), va_P D CLS (wR a q g0 g1 g2 g3 g4 g5 g6 g7 g8 g9 g10 g11 g12 g13 g14 g15 g16 g17 g18 g19) H → va_D A (wR a q g0 g1 g2 g3 g4 g5 g6 g7 g8 g9 g10 g11 g12 g13 g14 g15 g16 g17 g18 g19) → va_S A s.heap H locs → lv_has ls 5 [(0, .ref (a 0)), (2, .int v2), (3, .int v3)] → f_Ref_binary_220  s0 s1 v2 v3 g0 g1 g2 g3 g4 g5 g8 g9 g10 g11 g12 = some r0 → W p l e rm_Ref_binary s m args below meth c H locs 0 0 (MQ below (va_Qi (fun (r : Int32) (_ : Unit) => r = r0.1) (fun _ t => va_P D CLS (wR a q r0.2.1 r0.2.2.1 r0.2.2.2.1 r0.2.2.2.2.1 r0.2.2.2.2.2.1 r0.2.2.2.2.2.2.1 g6 g7 r0.2.2.2.2.2.2.2.1 r0.2.2.2.2.2.2.2.2.1 r0.2.2.2.2.2.2.2.2.2.1 r0.2.2.2.2.2.2.2.2.2.2.1 r0.2.2.2.2.2.2.2.2.2.2.2 g13 g14 g15 g16 g17 g18 g19) t.heap) A) args s 0 0 A) (F0 m 220 ls [.int s0, .int s1, .ref (a 0)]) := by
  obtain ⟨hx, hb, hml, hown, hts, hr, hlocks⟩ := id hC
  intro s0 s1 v2 v3 g0 g1 g2 g3 g4 g5 g8 g9 g10 g11 g12 H locs ls hP hD hS hl h
  rw [f_Ref_binary_220] at h
  refine lv_aload_n hx hb (dt_at dt_Ref_binary 127 rfl) rfl (lv_at hl 0 rfl) ?_
  refine va_get (D := D) (ci := 0) (v := .ref (a 4)) (C := "OutwardTapeModel") (T := T_Ref) (N := 20) hx hb hts in_Ref hown hK hP 0 rfl rfl 4 (by decide) (hts (Cond.fieldLink "OutwardTapeModel" 20 "OutwardTapeModel" "mark" "[I") (m_4 3 rfl rfl)) (fun _ h9 => h9) rfl (dt_at dt_Ref_binary 128 rfl) ?_
  refine lv_iload_n hx hb (dt_at dt_Ref_binary 129 rfl) rfl (lv_at hl 1 rfl) ?_
  obtain ⟨z1, h⟩ := og_of h
  refine va_iald hx hb hK hP 4 3 rfl rfl z1 (dt_at dt_Ref_binary 130 rfl) ?_
  refine lv_aload_n hx hb (dt_at dt_Ref_binary 131 rfl) rfl (lv_at hl 0 rfl) ?_
  refine va_get (D := D) (ci := 0) (v := .ref (a 4)) (C := "OutwardTapeModel") (T := T_Ref) (N := 20) hx hb hts in_Ref hown hK hP 0 rfl rfl 4 (by decide) (hts (Cond.fieldLink "OutwardTapeModel" 20 "OutwardTapeModel" "mark" "[I") (m_4 3 rfl rfl)) (fun _ h9 => h9) rfl (dt_at dt_Ref_binary 132 rfl) ?_
  refine lv_iload_n hx hb (dt_at dt_Ref_binary 133 rfl) rfl (lv_at hl 2 rfl) ?_
  obtain ⟨z2, h⟩ := og_of h
  refine va_iald hx hb hK hP 4 3 rfl rfl z2 (dt_at dt_Ref_binary 134 rfl) ?_
  obtain ⟨r3, h_r3, h⟩ := ob_of h
  refine vp_callSi (W.runS (As := [.int (g4 v2.toNatClampNeg), .int (g4 v3.toNatClampNeg)]) (rest := [.int s0, .int s1, .ref (a 0)]) ⟨hx, hb, hml, hown, hts⟩ (c_Ref_least l (g4 v2.toNatClampNeg) (g4 v3.toNatClampNeg) r3 h_r3) (va_cwS 2 hts (gd_S (m_4 212 rfl rfl) (m_4 213 rfl rfl) (m_1 4 rfl rfl) (m_4 214 rfl rfl)) rfl rfl rfl (by decide +kernel) ⟨Nat.le_of_ble_eq_true rfl, Nat.le_of_ble_eq_true rfl⟩) ⟨fun _ _ _ _ q => q, fun U hU hW => ⟨rfl, trivial⟩⟩ rfl rfl hl.1 rfl (lv_room (Nat.le_of_ble_eq_true rfl)) (dt_at dt_Ref_binary 135 rfl) ⟨Nat.le_of_ble_eq_true rfl, Nat.le_of_ble_eq_true rfl⟩) (fun u_r3 q_r3 => ?_)
  obtain rfl : r3 = u_r3 := q_r3.symm
  obtain ⟨r4, h_r4, h⟩ := ob_of h
  have hF := va_free (wc := dR a) (dD (ws' := dR a) hD rfl) hS hA [0, 1, 2, 3, 4, 5, 6] rfl
  have hd : va_D (fun _ => True) (dR a) := (dD (ws' := dR a) hD rfl).weaken (fun _ _ _ _ => trivial)
  refine va_calli (va_runV (As := [.int s1, .int s0, .int r3]) (rest := []) ⟨hx, hb, hml, hown, hts⟩ (c_Ref_keep l D a q hd H.size s1 s0 r3 g0 g1 g2 g3 g4 g5 g6 g7 g8 g9 g10 g11 g12 g13 g14 g15 g16 g17 g18 g19 r4 h_r4) (cwV 3 hts (gd_V (m_4 208 rfl rfl) (m_4 210 rfl rfl) (m_s 45 rfl rfl) (m_1 4 rfl rfl) (m_4 211 rfl rfl)) rfl rfl rfl (by decide +kernel) ⟨Nat.le_of_ble_eq_true rfl, Nat.le_of_ble_eq_true rfl⟩) ⟨fun a U g mk q => ⟨q.1, q.2.1, q.2.2.1, va_K.moved (u := U) (U := U.calling g mk a) (Vm.Alike.refl U.vm) q.2.2.2⟩, va_recv hK hP (ci := 0) (q0 := 0) rfl rfl, fun U hU hW => ⟨rfl, by rw [hU], by rw [hU]; exact hP, va_K.moved hW.alike hK⟩⟩ rfl rfl hl.1 rfl (lv_room (Nat.le_of_ble_eq_true rfl)) (dt_at dt_Ref_binary 136 rfl) ⟨Nat.le_of_ble_eq_true rfl, Nat.le_of_ble_eq_true rfl⟩) hS (fun x _ h9 => hF x h9) hF (fun u_r4 uu t H locs ht hvm hw hB hz1 hk1 hS => ?_)
  rw [ht] at hB
  subst hw
  have hP : va_P D CLS (wR a q r4.2.1 r4.2.2.1 r4.2.2.2.1 r4.2.2.2.2.1 r4.2.2.2.2.2 g5 g6 g7 g8 g9 g10 g11 g12 g13 g14 g15 g16 g17 g18 g19) H := hB
  have hD : va_D A (wR a q r4.2.1 r4.2.2.1 r4.2.2.2.1 r4.2.2.2.2.1 r4.2.2.2.2.2 g5 g6 g7 g8 g9 g10 g11 g12 g13 g14 g15 g16 g17 g18 g19) := dD hD rfl
  obtain rfl := os_of h
  exact W.iret (v := r4.1) hx hb hr (fun t ht hW => ⟨⟨_, (), rfl, rfl, (hPt hP ht)⟩, hS.F ht⟩) hS.2.2 (dt_at dt_Ref_binary 137 rfl)
set_option maxRecDepth 100000 in
set_option maxHeartbeats 4000000 in
theorem k_Ref_binary_219 {p : Program} {l : Launch} {e : Env} {s : State} {m : MethodId} {args : Array Value} {below : List Frame} {meth : Method} {c : Code} {D : va_G} {a : Nat → Nat} {q : Nat → ClassId} {A : Nat → Prop} (hC : CX p s m args meth c prog_12_method_48_code 5 "OutwardTapeModel" (some .int)) (hA : ∀ x, s.heap.size ≤ x → A x) (hK : va_K D CLS (tR q) s) {g6 : Nat → Int32} {g7 : Int32} {g13 : Int32} {g14 : Int32} {g15 : Int64} {g16 : Int32} {g17 : Int32} {g18 : Int64} {g19 : Int32} {r0 : Int32 × Int32 × (Nat → Int32) × (Nat → Int64) × (Nat → Int64) × (Nat → Int32) × Int32 × (Nat → Int32) × Int32 × Int64 × Int64 × Int32} : ∀ (s0 : Int32) (v2 : Int32) (v3 : Int32) (g0 : Int32) (g1 : Nat → Int32) (g2 : Nat → Int64) (g3 : Nat → Int64) (g4 : Nat → Int32) (g5 : Int32) (g8 : Nat → Int32) (g9 : Int32) (g10 : Int64) (g11 : Int64) (g12 : Int32) (H : Heap) (locs : List Loc) (ls : Array Slot), va_P D CLS (wR a q g0 g1 g2 g3 g4 g5 g6 g7 g8 g9 g10 g11 g12 g13 g14 g15 g16 g17 g18 g19) H → va_D A (wR a q g0 g1 g2 g3 g4 g5 g6 g7 g8 g9 g10 g11 g12 g13 g14 g15 g16 g17 g18 g19) → va_S A s.heap H locs → lv_has ls 5 [(0, .ref (a 0)), (2, .int v2), (3, .int v3)] → f_Ref_binary_219  s0 v2 v3 g0 g1 g2 g3 g4 g5 g8 g9 g10 g11 g12 = some r0 → W p l e rm_Ref_binary s m args below meth c H locs 0 0 (MQ below (va_Qi (fun (r : Int32) (_ : Unit) => r = r0.1) (fun _ t => va_P D CLS (wR a q r0.2.1 r0.2.2.1 r0.2.2.2.1 r0.2.2.2.2.1 r0.2.2.2.2.2.1 r0.2.2.2.2.2.2.1 g6 g7 r0.2.2.2.2.2.2.2.1 r0.2.2.2.2.2.2.2.2.1 r0.2.2.2.2.2.2.2.2.2.1 r0.2.2.2.2.2.2.2.2.2.2.1 r0.2.2.2.2.2.2.2.2.2.2.2 g13 g14 g15 g16 g17 g18 g19) t.heap) A) args s 0 0 A) (F0 m 219 ls [.int s0, .ref (a 0)]) := by
  obtain ⟨hx, hb, hml, hown, hts, hr, hlocks⟩ := id hC
  intro s0 v2 v3 g0 g1 g2 g3 g4 g5 g8 g9 g10 g11 g12 H locs ls hP hD hS hl h
  rw [f_Ref_binary_219] at h
  refine lv_iconst (v := 0) hx hb (dt_at dt_Ref_binary 126 rfl) (by decide) ?_
  exact k_Ref_binary_220 hC hA hK   (0 : Int32) s0 v2 v3 g0 g1 g2 g3 g4 g5 g8 g9 g10 g11 g12 H locs ls hP hD hS (lv_sub hl [0, 1, 2] rfl) h
set_option maxRecDepth 100000 in
set_option maxHeartbeats 4000000 in
theorem k_Ref_binary_131 {p : Program} {l : Launch} {e : Env} {s : State} {m : MethodId} {args : Array Value} {below : List Frame} {meth : Method} {c : Code} {D : va_G} {a : Nat → Nat} {q : Nat → ClassId} {A : Nat → Prop} (hC : CX p s m args meth c prog_12_method_48_code 5 "OutwardTapeModel" (some .int)) (hA : ∀ x, s.heap.size ≤ x → A x) (hK : va_K D CLS (tR q) s) {g6 : Nat → Int32} {g7 : Int32} {g13 : Int32} {g14 : Int32} {g15 : Int64} {g16 : Int32} {g17 : Int32} {g18 : Int64} {g19 : Int32} {r0 : Int32 × Int32 × (Nat → Int32) × (Nat → Int64) × (Nat → Int64) × (Nat → Int32) × Int32 × (Nat → Int32) × Int32 × Int64 × Int64 × Int32} : ∀  (g0 : Int32) (g1 : Nat → Int32) (g2 : Nat → Int64) (g3 : Nat → Int64) (g4 : Nat → Int32) (g5 : Int32) (g8 : Nat → Int32) (g9 : Int32) (g10 : Int64) (g11 : Int64) (g12 : Int32) (H : Heap) (locs : List Loc) (ls : Array Slot), va_P D CLS (wR a q g0 g1 g2 g3 g4 g5 g6 g7 g8 g9 g10 g11 g12 g13 g14 g15 g16 g17 g18 g19) H → va_D A (wR a q g0 g1 g2 g3 g4 g5 g6 g7 g8 g9 g10 g11 g12 g13 g14 g15 g16 g17 g18 g19) → va_S A s.heap H locs → lv_has ls 5 [(0, .ref (a 0))] → f_Ref_binary_131  g0 g1 g2 g3 g4 g5 g8 g9 g10 g11 g12 = some r0 → W p l e rm_Ref_binary s m args below meth c H locs 0 0 (MQ below (va_Qi (fun (r : Int32) (_ : Unit) => r = r0.1) (fun _ t => va_P D CLS (wR a q r0.2.1 r0.2.2.1 r0.2.2.2.1 r0.2.2.2.2.1 r0.2.2.2.2.2.1 r0.2.2.2.2.2.2.1 g6 g7 r0.2.2.2.2.2.2.2.1 r0.2.2.2.2.2.2.2.2.1 r0.2.2.2.2.2.2.2.2.2.1 r0.2.2.2.2.2.2.2.2.2.2.1 r0.2.2.2.2.2.2.2.2.2.2.2 g13 g14 g15 g16 g17 g18 g19) t.heap) A) args s 0 0 A) (F0 m 131 ls []) := by
  obtain ⟨hx, hb, hml, hown, hts, hr, hlocks⟩ := id hC
  intro g0 g1 g2 g3 g4 g5 g8 g9 g10 g11 g12 H locs ls hP hD hS hl h
  rw [f_Ref_binary_131] at h
  refine lv_aload_n hx hb (dt_at dt_Ref_binary 72 rfl) rfl (lv_at hl 0 rfl) ?_
  refine lv_iconst (v := 1) hx hb (dt_at dt_Ref_binary 73 rfl) (by decide) ?_
  refine lv_lconst (v := 0) hx hb (dt_at dt_Ref_binary 74 rfl) (by decide) ?_
  refine lv_lconst (v := 0) hx hb (dt_at dt_Ref_binary 75 rfl) (by decide) ?_
  refine lv_iconst (v := 1) hx hb (dt_at dt_Ref_binary 76 rfl) (by decide) ?_
  obtain ⟨r1, h_r1, h⟩ := ob_of h
  have hF := va_free (wc := dR a) (dD (ws' := dR a) hD rfl) hS hA [0, 1, 2, 3, 4, 5, 6] rfl
  have hd : va_D (fun _ => True) (dR a) := (dD (ws' := dR a) hD rfl).weaken (fun _ _ _ _ => trivial)
  refine va_calli (va_runV (As := [.int (1 : Int32), .long (0 : Int64), .long (0 : Int64), .int (1 : Int32)]) (rest := []) ⟨hx, hb, hml, hown, hts⟩ (c_Ref_cell l D a q hd H.size (1 : Int32) (0 : Int64) (0 : Int64) (1 : Int32) g0 g1 g2 g3 g4 g5 g6 g7 g8 g9 g10 g11 g12 g13 g14 g15 g16 g17 g18 g19 r1 h_r1) (cwV 4 hts (gd_V (m_4 88 rfl rfl) (m_4 90 rfl rfl) (m_s 23 rfl rfl) (m_1 4 rfl rfl) (m_4 91 rfl rfl)) rfl rfl rfl (by decide +kernel) ⟨Nat.le_of_ble_eq_true rfl, Nat.le_of_ble_eq_true rfl⟩) ⟨fun a U g mk q => ⟨q.1, q.2.1, q.2.2.1, va_K.moved (u := U) (U := U.calling g mk a) (Vm.Alike.refl U.vm) q.2.2.2⟩, va_recv hK hP (ci := 0) (q0 := 0) rfl rfl, fun U hU hW => ⟨rfl, by rw [hU], by rw [hU]; exact hP, va_K.moved hW.alike hK⟩⟩ rfl rfl hl.1 rfl (lv_room (Nat.le_of_ble_eq_true rfl)) (dt_at dt_Ref_binary 77 rfl) ⟨Nat.le_of_ble_eq_true rfl, Nat.le_of_ble_eq_true rfl⟩) hS (fun x _ h9 => hF x h9) hF (fun u_r1 uu t H locs ht hvm hw hB hz1 hk1 hS => ?_)
  rw [ht] at hB
  subst hw
  have hP : va_P D CLS (wR a q r1.2.1 r1.2.2.1 r1.2.2.2.1 r1.2.2.2.2.1 r1.2.2.2.2.2 g5 g6 g7 g8 g9 g10 g11 g12 g13 g14 g15 g16 g17 g18 g19) H := hB
  have hD : va_D A (wR a q r1.2.1 r1.2.2.1 r1.2.2.2.1 r1.2.2.2.2.1 r1.2.2.2.2.2 g5 g6 g7 g8 g9 g10 g11 g12 g13 g14 g15 g16 g17 g18 g19) := dD hD rfl
  obtain rfl := os_of h
  exact W.iret (v := r1.1) hx hb hr (fun t ht hW => ⟨⟨_, (), rfl, rfl, (hPt hP ht)⟩, hS.F ht⟩) hS.2.2 (dt_at dt_Ref_binary 78 rfl)
set_option maxRecDepth 100000 in
set_option maxHeartbeats 4000000 in
theorem k_Ref_binary_110 {p : Program} {l : Launch} {e : Env} {s : State} {m : MethodId} {args : Array Value} {below : List Frame} {meth : Method} {c : Code} {D : va_G} {a : Nat → Nat} {q : Nat → ClassId} {A : Nat → Prop} (hC : CX p s m args meth c prog_12_method_48_code 5 "OutwardTapeModel" (some .int)) (hA : ∀ x, s.heap.size ≤ x → A x) (hK : va_K D CLS (tR q) s) {g6 : Nat → Int32} {g7 : Int32} {g13 : Int32} {g14 : Int32} {g15 : Int64} {g16 : Int32} {g17 : Int32} {g18 : Int64} {g19 : Int32} {r0 : Int32 × Int32 × (Nat → Int32) × (Nat → Int64) × (Nat → Int64) × (Nat → Int32) × Int32 × (Nat → Int32) × Int32 × Int64 × Int64 × Int32} : ∀ (s0 : Int32) (g0 : Int32) (g1 : Nat → Int32) (g2 : Nat → Int64) (g3 : Nat → Int64) (g4 : Nat → Int32) (g5 : Int32) (g8 : Nat → Int32) (g9 : Int32) (g10 : Int64) (g11 : Int64) (g12 : Int32) (H : Heap) (locs : List Loc) (ls : Array Slot), va_P D CLS (wR a q g0 g1 g2 g3 g4 g5 g6 g7 g8 g9 g10 g11 g12 g13 g14 g15 g16 g17 g18 g19) H → va_D A (wR a q g0 g1 g2 g3 g4 g5 g6 g7 g8 g9 g10 g11 g12 g13 g14 g15 g16 g17 g18 g19) → va_S A s.heap H locs → lv_has ls 5 [] → f_Ref_binary_110  s0 g0 g1 g2 g3 g4 g5 g8 g9 g10 g11 g12 = some r0 → W p l e rm_Ref_binary s m args below meth c H locs 0 0 (MQ below (va_Qi (fun (r : Int32) (_ : Unit) => r = r0.1) (fun _ t => va_P D CLS (wR a q r0.2.1 r0.2.2.1 r0.2.2.2.1 r0.2.2.2.2.1 r0.2.2.2.2.2.1 r0.2.2.2.2.2.2.1 g6 g7 r0.2.2.2.2.2.2.2.1 r0.2.2.2.2.2.2.2.2.1 r0.2.2.2.2.2.2.2.2.2.1 r0.2.2.2.2.2.2.2.2.2.2.1 r0.2.2.2.2.2.2.2.2.2.2.2 g13 g14 g15 g16 g17 g18 g19) t.heap) A) args s 0 0 A) (F0 m 110 ls [.int s0]) := by
  obtain ⟨hx, hb, hml, hown, hts, hr, hlocks⟩ := id hC
  intro s0 g0 g1 g2 g3 g4 g5 g8 g9 g10 g11 g12 H locs ls hP hD hS hl h
  rw [f_Ref_binary_110] at h
  obtain rfl := os_of h
  exact W.iret (v := s0) hx hb hr (fun t ht hW => ⟨⟨_, (), rfl, rfl, (hPt hP ht)⟩, hS.F ht⟩) hS.2.2 (dt_at dt_Ref_binary 59 rfl)
set_option maxRecDepth 100000 in
set_option maxHeartbeats 4000000 in
theorem k_Ref_binary_79 {p : Program} {l : Launch} {e : Env} {s : State} {m : MethodId} {args : Array Value} {below : List Frame} {meth : Method} {c : Code} {D : va_G} {a : Nat → Nat} {q : Nat → ClassId} {A : Nat → Prop} (hC : CX p s m args meth c prog_12_method_48_code 5 "OutwardTapeModel" (some .int)) (hA : ∀ x, s.heap.size ≤ x → A x) (hK : va_K D CLS (tR q) s) {g6 : Nat → Int32} {g7 : Int32} {g13 : Int32} {g14 : Int32} {g15 : Int64} {g16 : Int32} {g17 : Int32} {g18 : Int64} {g19 : Int32} {r0 : Int32 × Int32 × (Nat → Int32) × (Nat → Int64) × (Nat → Int64) × (Nat → Int32) × Int32 × (Nat → Int32) × Int32 × Int64 × Int64 × Int32} : ∀  (g0 : Int32) (g1 : Nat → Int32) (g2 : Nat → Int64) (g3 : Nat → Int64) (g4 : Nat → Int32) (g5 : Int32) (g8 : Nat → Int32) (g9 : Int32) (g10 : Int64) (g11 : Int64) (g12 : Int32) (H : Heap) (locs : List Loc) (ls : Array Slot), va_P D CLS (wR a q g0 g1 g2 g3 g4 g5 g6 g7 g8 g9 g10 g11 g12 g13 g14 g15 g16 g17 g18 g19) H → va_D A (wR a q g0 g1 g2 g3 g4 g5 g6 g7 g8 g9 g10 g11 g12 g13 g14 g15 g16 g17 g18 g19) → va_S A s.heap H locs → lv_has ls 5 [(0, .ref (a 0))] → f_Ref_binary_79  g0 g1 g2 g3 g4 g5 g8 g9 g10 g11 g12 = some r0 → W p l e rm_Ref_binary s m args below meth c H locs 0 0 (MQ below (va_Qi (fun (r : Int32) (_ : Unit) => r = r0.1) (fun _ t => va_P D CLS (wR a q r0.2.1 r0.2.2.1 r0.2.2.2.1 r0.2.2.2.2.1 r0.2.2.2.2.2.1 r0.2.2.2.2.2.2.1 g6 g7 r0.2.2.2.2.2.2.2.1 r0.2.2.2.2.2.2.2.2.1 r0.2.2.2.2.2.2.2.2.2.1 r0.2.2.2.2.2.2.2.2.2.2.1 r0.2.2.2.2.2.2.2.2.2.2.2 g13 g14 g15 g16 g17 g18 g19) t.heap) A) args s 0 0 A) (F0 m 79 ls []) := by
  obtain ⟨hx, hb, hml, hown, hts, hr, hlocks⟩ := id hC
  intro g0 g1 g2 g3 g4 g5 g8 g9 g10 g11 g12 H locs ls hP hD hS hl h
  rw [f_Ref_binary_79] at h
  refine lv_aload_n hx hb (dt_at dt_Ref_binary 41 rfl) rfl (lv_at hl 0 rfl) ?_
  obtain ⟨r1, h_r1, h⟩ := ob_of h
  have hF := va_free (wc := dR a) (dD (ws' := dR a) hD rfl) hS hA [0, 1, 2, 3, 4, 5, 6] rfl
  have hd : va_D (fun _ => True) (dR a) := (dD (ws' := dR a) hD rfl).weaken (fun _ _ _ _ => trivial)
  refine va_calli (va_runV (As := []) (rest := []) ⟨hx, hb, hml, hown, hts⟩ (c_Ref_ill l D a q hd H.size  g0 g1 g2 g3 g4 g5 g6 g7 g8 g9 g10 g11 g12 g13 g14 g15 g16 g17 g18 g19 r1 h_r1) (cwV 0 hts (gd_V (m_4 84 rfl rfl) (m_4 86 rfl rfl) (m_s 22 rfl rfl) (m_1 4 rfl rfl) (m_4 87 rfl rfl)) rfl rfl rfl (by decide +kernel) ⟨Nat.le_of_ble_eq_true rfl, Nat.le_of_ble_eq_true rfl⟩) ⟨fun a U g mk q => ⟨q.1, q.2.1, q.2.2.1, va_K.moved (u := U) (U := U.calling g mk a) (Vm.Alike.refl U.vm) q.2.2.2⟩, va_recv hK hP (ci := 0) (q0 := 0) rfl rfl, fun U hU hW => ⟨rfl, by rw [hU], by rw [hU]; exact hP, va_K.moved hW.alike hK⟩⟩ rfl rfl hl.1 rfl (lv_room (Nat.le_of_ble_eq_true rfl)) (dt_at dt_Ref_binary 42 rfl) ⟨Nat.le_of_ble_eq_true rfl, Nat.le_of_ble_eq_true rfl⟩) hS (fun x _ h9 => hF x h9) hF (fun u_r1 uu t H locs ht hvm hw hB hz1 hk1 hS => ?_)
  rw [ht] at hB
  subst hw
  have hP : va_P D CLS (wR a q r1.2.1 r1.2.2.1 r1.2.2.2.1 r1.2.2.2.2.1 r1.2.2.2.2.2 g5 g6 g7 g8 g9 g10 g11 g12 g13 g14 g15 g16 g17 g18 g19) H := hB
  have hD : va_D A (wR a q r1.2.1 r1.2.2.1 r1.2.2.2.1 r1.2.2.2.2.1 r1.2.2.2.2.2 g5 g6 g7 g8 g9 g10 g11 g12 g13 g14 g15 g16 g17 g18 g19) := dD hD rfl
  obtain rfl := os_of h
  exact W.iret (v := r1.1) hx hb hr (fun t ht hW => ⟨⟨_, (), rfl, rfl, (hPt hP ht)⟩, hS.F ht⟩) hS.2.2 (dt_at dt_Ref_binary 43 rfl)
set_option maxRecDepth 100000 in
set_option maxHeartbeats 4000000 in
theorem k_Ref_binary_49 {p : Program} {l : Launch} {e : Env} {s : State} {m : MethodId} {args : Array Value} {below : List Frame} {meth : Method} {c : Code} {D : va_G} {a : Nat → Nat} {q : Nat → ClassId} {A : Nat → Prop} (hC : CX p s m args meth c prog_12_method_48_code 5 "OutwardTapeModel" (some .int)) (hA : ∀ x, s.heap.size ≤ x → A x) (hK : va_K D CLS (tR q) s) {g6 : Nat → Int32} {g7 : Int32} {g13 : Int32} {g14 : Int32} {g15 : Int64} {g16 : Int32} {g17 : Int32} {g18 : Int64} {g19 : Int32} {r0 : Int32 × Int32 × (Nat → Int32) × (Nat → Int64) × (Nat → Int64) × (Nat → Int32) × Int32 × (Nat → Int32) × Int32 × Int64 × Int64 × Int32} : ∀ (s0 : Int32) (v1 : Int32) (v2 : Int32) (v3 : Int32) (g0 : Int32) (g1 : Nat → Int32) (g2 : Nat → Int64) (g3 : Nat → Int64) (g4 : Nat → Int32) (g5 : Int32) (g8 : Nat → Int32) (g9 : Int32) (g10 : Int64) (g11 : Int64) (g12 : Int32) (H : Heap) (locs : List Loc) (ls : Array Slot), va_P D CLS (wR a q g0 g1 g2 g3 g4 g5 g6 g7 g8 g9 g10 g11 g12 g13 g14 g15 g16 g17 g18 g19) H → va_D A (wR a q g0 g1 g2 g3 g4 g5 g6 g7 g8 g9 g10 g11 g12 g13 g14 g15 g16 g17 g18 g19) → va_S A s.heap H locs → lv_has ls 5 [(0, .ref (a 0)), (1, .int v1), (2, .int v2), (3, .int v3)] → f_Ref_binary_49  s0 v1 v2 v3 g0 g1 g2 g3 g4 g5 g8 g9 g10 g11 g12 = some r0 → W p l e rm_Ref_binary s m args below meth c H locs 0 0 (MQ below (va_Qi (fun (r : Int32) (_ : Unit) => r = r0.1) (fun _ t => va_P D CLS (wR a q r0.2.1 r0.2.2.1 r0.2.2.2.1 r0.2.2.2.2.1 r0.2.2.2.2.2.1 r0.2.2.2.2.2.2.1 g6 g7 r0.2.2.2.2.2.2.2.1 r0.2.2.2.2.2.2.2.2.1 r0.2.2.2.2.2.2.2.2.2.1 r0.2.2.2.2.2.2.2.2.2.2.1 r0.2.2.2.2.2.2.2.2.2.2.2 g13 g14 g15 g16 g17 g18 g19) t.heap) A) args s 0 0 A) (F0 m 49 ls [.int s0, .ref (a 0)]) := by
  obtain ⟨hx, hb, hml, hown, hts, hr, hlocks⟩ := id hC
  intro s0 v1 v2 v3 g0 g1 g2 g3 g4 g5 g8 g9 g10 g11 g12 H locs ls hP hD hS hl h
  rw [f_Ref_binary_49] at h
  refine va_put (D := D) (ci := 0) (v := .int s0) (ty := .int) (C := "OutwardTapeModel") (T := T_Ref) (N := 20) hx hb hts in_Ref ty_Ref tk_Ref nm_Ref hown hK hP hD hS 0 rfl rfl 5 (by decide) (hts (Cond.fieldLink "OutwardTapeModel" 29 "OutwardTapeModel" "code" "I") (m_4 4 rfl rfl)) (fun _ h9 => h9) rfl (by decide +kernel) rfl rfl (Nat.le_of_ble_eq_true rfl) (dt_at dt_Ref_binary 25 rfl) (fun H locs hP hD hS => ?_)
  have hP : va_P D CLS (wR a q g0 g1 g2 g3 g4 s0 g6 g7 g8 g9 g10 g11 g12 g13 g14 g15 g16 g17 g18 g19) H := hP
  have hD : va_D A (wR a q g0 g1 g2 g3 g4 s0 g6 g7 g8 g9 g10 g11 g12 g13 g14 g15 g16 g17 g18 g19) := hD
  refine lv_aload_n hx hb (dt_at dt_Ref_binary 26 rfl) rfl (lv_at hl 0 rfl) ?_
  refine va_get (D := D) (ci := 0) (v := .int s0) (C := "OutwardTapeModel") (T := T_Ref) (N := 20) hx hb hts in_Ref hown hK hP 0 rfl rfl 5 (by decide) (hts (Cond.fieldLink "OutwardTapeModel" 29 "OutwardTapeModel" "code" "I") (m_4 4 rfl rfl)) (fun _ h9 => h9) rfl (dt_at dt_Ref_binary 27 rfl) ?_
  refine lv_if_le (tgt := 61) hx hb (dt_at dt_Ref_binary 28 rfl) (by decide) (fun c1 => ?_) (fun c1 => ?_)
  · have h := if_p h c1
    refine lv_aload_n hx hb (dt_at dt_Ref_binary 31 rfl) rfl (lv_at hl 0 rfl) ?_
    refine va_get (D := D) (ci := 0) (v := .ref (a 1)) (C := "OutwardTapeModel") (T := T_Ref) (N := 20) hx hb hts in_Ref hown hK hP 0 rfl rfl 1 (by decide) (hts (Cond.fieldLink "OutwardTapeModel" 7 "OutwardTapeModel" "kind" "[I") (m_4 0 rfl rfl)) (fun _ h9 => h9) rfl (dt_at dt_Ref_binary 32 rfl) ?_
    refine lv_iload_n hx hb (dt_at dt_Ref_binary 33 rfl) rfl (lv_at hl 2 rfl) ?_
    obtain ⟨z2, h⟩ := og_of h
    refine va_iald hx hb hK hP 1 0 rfl rfl z2 (dt_at dt_Ref_binary 34 rfl) ?_
    refine lv_if_eq (tgt := 79) hx hb (dt_at dt_Ref_binary 35 rfl) (by decide) (fun c3 => ?_) (fun c3 => ?_)
    · have h := if_p h c3
      exact k_Ref_binary_79 hC hA hK   g0 g1 g2 g3 g4 s0 g8 g9 g10 g11 g12 H locs ls hP hD hS (lv_sub hl [0] rfl) h
    · have h := if_n h c3
      refine lv_aload_n hx hb (dt_at dt_Ref_binary 36 rfl) rfl (lv_at hl 0 rfl) ?_
      refine va_get (D := D) (ci := 0) (v := .ref (a 1)) (C := "OutwardTapeModel") (T := T_Ref) (N := 20) hx hb hts in_Ref hown hK hP 0 rfl rfl 1 (by decide) (hts (Cond.fieldLink "OutwardTapeModel" 7 "OutwardTapeModel" "kind" "[I") (m_4 0 rfl rfl)) (fun _ h9 => h9) rfl (dt_at dt_Ref_binary 37 rfl) ?_
      refine lv_iload_n hx hb (dt_at dt_Ref_binary 38 rfl) rfl (lv_at hl 3 rfl) ?_
      obtain ⟨z4, h⟩ := og_of h
      refine va_iald hx hb hK hP 1 0 rfl rfl z4 (dt_at dt_Ref_binary 39 rfl) ?_
      refine lv_if_ne (tgt := 84) hx hb (dt_at dt_Ref_binary 40 rfl) (by decide) (fun c5 => ?_) (fun c5 => ?_)
      · have h := if_n h c5
        refine lv_iload_n hx hb (dt_at dt_Ref_binary 44 rfl) rfl (lv_at hl 1 rfl) ?_
        refine lv_iconst (v := 5) hx hb (dt_at dt_Ref_binary 45 rfl) (by decide) ?_
        refine lv_icmp_le (tgt := 111) hx hb (dt_at dt_Ref_binary 46 rfl) (by decide) (fun c6 => ?_) (fun c6 => ?_)
        · have h := if_p h c6
          refine lv_aload_n hx hb (dt_at dt_Ref_binary 60 rfl) rfl (lv_at hl 0 rfl) ?_
          refine va_get (D := D) (ci := 0) (v := .ref (a 1)) (C := "OutwardTapeModel") (T := T_Ref) (N := 20) hx hb hts in_Ref hown hK hP 0 rfl rfl 1 (by decide) (hts (Cond.fieldLink "OutwardTapeModel" 7 "OutwardTapeModel" "kind" "[I") (m_4 0 rfl rfl)) (fun _ h9 => h9) rfl (dt_at dt_Ref_binary 61 rfl) ?_
          refine lv_iload_n hx hb (dt_at dt_Ref_binary 62 rfl) rfl (lv_at hl 2 rfl) ?_
          obtain ⟨z7, h⟩ := og_of h
          refine va_iald hx hb hK hP 1 0 rfl rfl z7 (dt_at dt_Ref_binary 63 rfl) ?_
          refine lv_iconst (v := 1) hx hb (dt_at dt_Ref_binary 64 rfl) (by decide) ?_
          refine lv_icmp_eq (tgt := 131) hx hb (dt_at dt_Ref_binary 65 rfl) (by decide) (fun c8 => ?_) (fun c8 => ?_)
          · have h := if_p h c8
            exact k_Ref_binary_131 hC hA hK   g0 g1 g2 g3 g4 s0 g8 g9 g10 g11 g12 H locs ls hP hD hS (lv_sub hl [0] rfl) h
          · have h := if_n h c8
            refine lv_aload_n hx hb (dt_at dt_Ref_binary 66 rfl) rfl (lv_at hl 0 rfl) ?_
            refine va_get (D := D) (ci := 0) (v := .ref (a 1)) (C := "OutwardTapeModel") (T := T_Ref) (N := 20) hx hb hts in_Ref hown hK hP 0 rfl rfl 1 (by decide) (hts (Cond.fieldLink "OutwardTapeModel" 7 "OutwardTapeModel" "kind" "[I") (m_4 0 rfl rfl)) (fun _ h9 => h9) rfl (dt_at dt_Ref_binary 67 rfl) ?_
            refine lv_iload_n hx hb (dt_at dt_Ref_binary 68 rfl) rfl (lv_at hl 3 rfl) ?_
            obtain ⟨z9, h⟩ := og_of h
            refine va_iald hx hb hK hP 1 0 rfl rfl z9 (dt_at dt_Ref_binary 69 rfl) ?_
            refine lv_iconst (v := 1) hx hb (dt_at dt_Ref_binary 70 rfl) (by decide) ?_
            refine lv_icmp_ne (tgt := 140) hx hb (dt_at dt_Ref_binary 71 rfl) (by decide) (fun c10 => ?_) (fun c10 => ?_)
            · have h := if_n h c10
              refine lv_aload_n hx hb (dt_at dt_Ref_binary 79 rfl) rfl (lv_at hl 0 rfl) ?_
              refine lv_iconst (v := 0) hx hb (dt_at dt_Ref_binary 80 rfl) (by decide) ?_
              refine va_put (D := D) (ci := 0) (v := .int (0 : Int32)) (ty := .boolean) (C := "OutwardTapeModel") (T := T_Ref) (N := 20) hx hb hts in_Ref ty_Ref tk_Ref nm_Ref hown hK hP hD hS 0 rfl rfl 12 (by decide) (hts (Cond.fieldLink "OutwardTapeModel" 144 "OutwardTapeModel" "none" "Z") (m_4 11 rfl rfl)) (fun _ h9 => h9) rfl (by decide +kernel) (by decide) (by decide) (Nat.le_of_ble_eq_true rfl) (dt_at dt_Ref_binary 81 rfl) (fun H locs hP hD hS => ?_)
              have hP : va_P D CLS (wR a q g0 g1 g2 g3 g4 s0 g6 g7 g8 g9 g10 g11 (0 : Int32) g13 g14 g15 g16 g17 g18 g19) H := hP
              have hD : va_D A (wR a q g0 g1 g2 g3 g4 s0 g6 g7 g8 g9 g10 g11 (0 : Int32) g13 g14 g15 g16 g17 g18 g19) := hD
              refine lv_aload_n hx hb (dt_at dt_Ref_binary 82 rfl) rfl (lv_at hl 0 rfl) ?_
              refine lv_iload_n hx hb (dt_at dt_Ref_binary 83 rfl) rfl (lv_at hl 1 rfl) ?_
              refine lv_aload_n hx hb (dt_at dt_Ref_binary 84 rfl) rfl (lv_at hl 0 rfl) ?_
              refine va_get (D := D) (ci := 0) (v := .ref (a 2)) (C := "OutwardTapeModel") (T := T_Ref) (N := 20) hx hb hts in_Ref hown hK hP 0 rfl rfl 2 (by decide) (hts (Cond.fieldLink "OutwardTapeModel" 13 "OutwardTapeModel" "low" "[J") (m_4 1 rfl rfl)) (fun _ h9 => h9) rfl (dt_at dt_Ref_binary 85 rfl) ?_
              refine lv_iload_n hx hb (dt_at dt_Ref_binary 86 rfl) rfl (lv_at hl 2 rfl) ?_
              obtain ⟨z11, h⟩ := og_of h
              refine va_lald hx hb hK hP 2 1 rfl rfl z11 (dt_at dt_Ref_binary 87 rfl) ?_
              refine lv_aload_n hx hb (dt_at dt_Ref_binary 88 rfl) rfl (lv_at hl 0 rfl) ?_
              refine va_get (D := D) (ci := 0) (v := .ref (a 3)) (C := "OutwardTapeModel") (T := T_Ref) (N := 20) hx hb hts in_Ref hown hK hP 0 rfl rfl 3 (by decide) (hts (Cond.fieldLink "OutwardTapeModel" 17 "OutwardTapeModel" "high" "[J") (m_4 2 rfl rfl)) (fun _ h9 => h9) rfl (dt_at dt_Ref_binary 89 rfl) ?_
              refine lv_iload_n hx hb (dt_at dt_Ref_binary 90 rfl) rfl (lv_at hl 2 rfl) ?_
              obtain ⟨z12, h⟩ := og_of h
              refine va_lald hx hb hK hP 3 2 rfl rfl z12 (dt_at dt_Ref_binary 91 rfl) ?_
              refine lv_aload_n hx hb (dt_at dt_Ref_binary 92 rfl) rfl (lv_at hl 0 rfl) ?_
              refine va_get (D := D) (ci := 0) (v := .ref (a 2)) (C := "OutwardTapeModel") (T := T_Ref) (N := 20) hx hb hts in_Ref hown hK hP 0 rfl rfl 2 (by decide) (hts (Cond.fieldLink "OutwardTapeModel" 13 "OutwardTapeModel" "low" "[J") (m_4 1 rfl rfl)) (fun _ h9 => h9) rfl (dt_at dt_Ref_binary 93 rfl) ?_
              refine lv_iload_n hx hb (dt_at dt_Ref_binary 94 rfl) rfl (lv_at hl 3 rfl) ?_
              obtain ⟨z13, h⟩ := og_of h
              refine va_lald hx hb hK hP 2 1 rfl rfl z13 (dt_at dt_Ref_binary 95 rfl) ?_
              refine lv_aload_n hx hb (dt_at dt_Ref_binary 96 rfl) rfl (lv_at hl 0 rfl) ?_
              refine va_get (D := D) (ci := 0) (v := .ref (a 3)) (C := "OutwardTapeModel") (T := T_Ref) (N := 20) hx hb hts in_Ref hown hK hP 0 rfl rfl 3 (by decide) (hts (Cond.fieldLink "OutwardTapeModel" 17 "OutwardTapeModel" "high" "[J") (m_4 2 rfl rfl)) (fun _ h9 => h9) rfl (dt_at dt_Ref_binary 97 rfl) ?_
              refine lv_iload_n hx hb (dt_at dt_Ref_binary 98 rfl) rfl (lv_at hl 3 rfl) ?_
              obtain ⟨z14, h⟩ := og_of h
              refine va_lald hx hb hK hP 3 2 rfl rfl z14 (dt_at dt_Ref_binary 99 rfl) ?_
              obtain ⟨r15, h_r15, h⟩ := ob_of h
              have hF := va_free (wc := dR a) (dD (ws' := dR a) hD rfl) hS hA [0, 1, 2, 3, 4, 5, 6] rfl
              have hd : va_D (fun _ => True) (dR a) := (dD (ws' := dR a) hD rfl).weaken (fun _ _ _ _ => trivial)
              refine va_calli (va_runV (As := [.int v1, .long (g2 v2.toNatClampNeg), .long (g3 v2.toNatClampNeg), .long (g2 v3.toNatClampNeg), .long (g3 v3.toNatClampNeg)]) (rest := []) ⟨hx, hb, hml, hown, hts⟩ (c_Ref_ofTwo l D a q hd H.size v1 (g2 v2.toNatClampNeg) (g3 v2.toNatClampNeg) (g2 v3.toNatClampNeg) (g3 v3.toNatClampNeg) g0 g1 g2 g3 g4 s0 g6 g7 g8 g9 g10 g11 (0 : Int32) g13 g14 g15 g16 g17 g18 g19 r15 h_r15) (cwV 5 hts (gd_V (m_4 227 rfl rfl) (m_4 229 rfl rfl) (m_s 48 rfl rfl) (m_1 4 rfl rfl) (m_4 230 rfl rfl)) rfl rfl rfl (by decide +kernel) ⟨Nat.le_of_ble_eq_true rfl, Nat.le_of_ble_eq_true rfl⟩) ⟨fun a U g mk q => ⟨q.1, q.2.1, q.2.2.1, va_K.moved (u := U) (U := U.calling g mk a) (Vm.Alike.refl U.vm) q.2.2.2⟩, va_recv hK hP (ci := 0) (q0 := 0) rfl rfl, fun U hU hW => ⟨rfl, by rw [hU], by rw [hU]; exact hP, va_K.moved hW.alike hK⟩⟩ rfl rfl hl.1 rfl (lv_room (Nat.le_of_ble_eq_true rfl)) (dt_at dt_Ref_binary 100 rfl) ⟨Nat.le_of_ble_eq_true rfl, Nat.le_of_ble_eq_true rfl⟩) hS (fun x _ h9 => hF x h9) hF (fun u_r15 uu t H locs ht hvm hw hB hz1 hk1 hS => ?_)
              rw [ht] at hB
              subst hw
              have hP : va_P D CLS (wR a q g0 g1 g2 g3 g4 s0 g6 g7 r15.2.1 r15.2.2.1 r15.2.2.2.1 r15.2.2.2.2.1 r15.2.2.2.2.2 g13 g14 g15 g16 g17 g18 g19) H := hB
              have hD : va_D A (wR a q g0 g1 g2 g3 g4 s0 g6 g7 r15.2.1 r15.2.2.1 r15.2.2.2.1 r15.2.2.2.2.1 r15.2.2.2.2.2 g13 g14 g15 g16 g17 g18 g19) := dD hD rfl
              obtain ⟨t16, e_t16, h⟩ := ol_of h
              refine lv_topi (fun u_t16 q_t16 => ?_)
              obtain rfl : t16 = u_t16 := e_t16.trans q_t16.symm
              refine lv_istore (lv' := [(4, .int t16), (0, .ref (a 0)), (1, .int v1), (2, .int v2), (3, .int v3)]) hx hb (dt_at dt_Ref_binary 101 rfl) hl (by decide) rfl (fun ls hl => ?_)
              refine lv_aload_n hx hb (dt_at dt_Ref_binary 102 rfl) rfl (lv_at hl 1 rfl) ?_
              refine lv_iload hx hb (dt_at dt_Ref_binary 103 rfl) (lv_at hl 0 rfl) ?_
              refine lv_aload_n hx hb (dt_at dt_Ref_binary 104 rfl) rfl (lv_at hl 1 rfl) ?_
              refine va_get (D := D) (ci := 0) (v := .ref (a 2)) (C := "OutwardTapeModel") (T := T_Ref) (N := 20) hx hb hts in_Ref hown hK hP 0 rfl rfl 2 (by decide) (hts (Cond.fieldLink "OutwardTapeModel" 13 "OutwardTapeModel" "low" "[J") (m_4 1 rfl rfl)) (fun _ h9 => h9) rfl (dt_at dt_Ref_binary 105 rfl) ?_
              refine lv_iload_n hx hb (dt_at dt_Ref_binary 106 rfl) rfl (lv_at hl 3 rfl) ?_
              obtain ⟨z17, h⟩ := og_of h
              refine va_lald hx hb hK hP 2 1 rfl rfl z17 (dt_at dt_Ref_binary 107 rfl) ?_
              refine lv_aload_n hx hb (dt_at dt_Ref_binary 108 rfl) rfl (lv_at hl 1 rfl) ?_
              refine va_get (D := D) (ci := 0) (v := .ref (a 3)) (C := "OutwardTapeModel") (T := T_Ref) (N := 20) hx hb hts in_Ref hown hK hP 0 rfl rfl 3 (by decide) (hts (Cond.fieldLink "OutwardTapeModel" 17 "OutwardTapeModel" "high" "[J") (m_4 2 rfl rfl)) (fun _ h9 => h9) rfl (dt_at dt_Ref_binary 109 rfl) ?_
              refine lv_iload_n hx hb (dt_at dt_Ref_binary 110 rfl) rfl (lv_at hl 3 rfl) ?_
              obtain ⟨z18, h⟩ := og_of h
              refine va_lald hx hb hK hP 3 2 rfl rfl z18 (dt_at dt_Ref_binary 111 rfl) ?_
              obtain ⟨r19, h_r19, h⟩ := ob_of h
              refine vp_callSi (W.runS (As := [.long (g2 v2.toNatClampNeg), .long (g3 v2.toNatClampNeg)]) (rest := [.int t16, .ref (a 0)]) ⟨hx, hb, hml, hown, hts⟩ (c_Ref_bounded l (g2 v2.toNatClampNeg) (g3 v2.toNatClampNeg) r19 h_r19) (va_cwS 2 hts (gd_S (m_4 75 rfl rfl) (m_4 76 rfl rfl) (m_1 4 rfl rfl) (m_4 77 rfl rfl)) rfl rfl rfl (by decide +kernel) ⟨Nat.le_of_ble_eq_true rfl, Nat.le_of_ble_eq_true rfl⟩) ⟨fun _ _ _ _ q => q, fun U hU hW => ⟨rfl, trivial⟩⟩ rfl rfl hl.1 rfl (lv_room (Nat.le_of_ble_eq_true rfl)) (dt_at dt_Ref_binary 112 rfl) ⟨Nat.le_of_ble_eq_true rfl, Nat.le_of_ble_eq_true rfl⟩) (fun u_r19 q_r19 => ?_)
              obtain rfl : r19 = u_r19 := q_r19.symm
              refine lv_if_eq (tgt := 219) hx hb (dt_at dt_Ref_binary 113 rfl) (by decide) (fun c20 => ?_) (fun c20 => ?_)
              · have h := if_p h c20
                exact k_Ref_binary_219 hC hA hK   t16 v2 v3 g0 g1 g2 g3 g4 s0 r15.2.1 r15.2.2.1 r15.2.2.2.1 r15.2.2.2.2.1 r15.2.2.2.2.2 H locs ls hP hD hS (lv_sub hl [1, 3, 4] rfl) h
              · have h := if_n h c20
                refine lv_aload_n hx hb (dt_at dt_Ref_binary 114 rfl) rfl (lv_at hl 1 rfl) ?_
                refine va_get (D := D) (ci := 0) (v := .ref (a 2)) (C := "OutwardTapeModel") (T := T_Ref) (N := 20) hx hb hts in_Ref hown hK hP 0 rfl rfl 2 (by decide) (hts (Cond.fieldLink "OutwardTapeModel" 13 "OutwardTapeModel" "low" "[J") (m_4 1 rfl rfl)) (fun _ h9 => h9) rfl (dt_at dt_Ref_binary 115 rfl) ?_
                refine lv_iload_n hx hb (dt_at dt_Ref_binary 116 rfl) rfl (lv_at hl 4 rfl) ?_
                obtain ⟨z21, h⟩ := og_of h
                refine va_lald hx hb hK hP 2 1 rfl rfl z21 (dt_at dt_Ref_binary 117 rfl) ?_
                refine lv_aload_n hx hb (dt_at dt_Ref_binary 118 rfl) rfl (lv_at hl 1 rfl) ?_
                refine va_get (D := D) (ci := 0) (v := .ref (a 3)) (C := "OutwardTapeModel") (T := T_Ref) (N := 20) hx hb hts in_Ref hown hK hP 0 rfl rfl 3 (by decide) (hts (Cond.fieldLink "OutwardTapeModel" 17 "OutwardTapeModel" "high" "[J") (m_4 2 rfl rfl)) (fun _ h9 => h9) rfl (dt_at dt_Ref_binary 119 rfl) ?_
                refine lv_iload_n hx hb (dt_at dt_Ref_binary 120 rfl) rfl (lv_at hl 4 rfl) ?_
                obtain ⟨z22, h⟩ := og_of h
                refine va_lald hx hb hK hP 3 2 rfl rfl z22 (dt_at dt_Ref_binary 121 rfl) ?_
                obtain ⟨r23, h_r23, h⟩ := ob_of h
                refine vp_callSi (W.runS (As := [.long (g2 v3.toNatClampNeg), .long (g3 v3.toNatClampNeg)]) (rest := [.int t16, .ref (a 0)]) ⟨hx, hb, hml, hown, hts⟩ (c_Ref_bounded l (g2 v3.toNatClampNeg) (g3 v3.toNatClampNeg) r23 h_r23) (va_cwS 2 hts (gd_S (m_4 75 rfl rfl) (m_4 76 rfl rfl) (m_1 4 rfl rfl) (m_4 77 rfl rfl)) rfl rfl rfl (by decide +kernel) ⟨Nat.le_of_ble_eq_true rfl, Nat.le_of_ble_eq_true rfl⟩) ⟨fun _ _ _ _ q => q, fun U hU hW => ⟨rfl, trivial⟩⟩ rfl rfl hl.1 rfl (lv_room (Nat.le_of_ble_eq_true rfl)) (dt_at dt_Ref_binary 122 rfl) ⟨Nat.le_of_ble_eq_true rfl, Nat.le_of_ble_eq_true rfl⟩) (fun u_r23 q_r23 => ?_)
                obtain rfl : r23 = u_r23 := q_r23.symm
                refine lv_if_eq (tgt := 219) hx hb (dt_at dt_Ref_binary 123 rfl) (by decide) (fun c24 => ?_) (fun c24 => ?_)
                · have h := if_p h c24
                  exact k_Ref_binary_219 hC hA hK   t16 v2 v3 g0 g1 g2 g3 g4 s0 r15.2.1 r15.2.2.1 r15.2.2.2.1 r15.2.2.2.2.1 r15.2.2.2.2.2 H locs ls hP hD hS (lv_sub hl [1, 3, 4] rfl) h
                · have h := if_n h c24
                  refine lv_iconst (v := 1) hx hb (dt_at dt_Ref_binary 124 rfl) (by decide) ?_
                  refine lv_goto (tgt := 220) hx hb (dt_at dt_Ref_binary 125 rfl) (by decide) ?_
                  exact k_Ref_binary_220 hC hA hK   (1 : Int32) t16 v2 v3 g0 g1 g2 g3 g4 s0 r15.2.1 r15.2.2.1 r15.2.2.2.1 r15.2.2.2.2.1 r15.2.2.2.2.2 H locs ls hP hD hS (lv_sub hl [1, 3, 4] rfl) h
            · have h := if_p h c10
              exact k_Ref_binary_131 hC hA hK   g0 g1 g2 g3 g4 s0 g8 g9 g10 g11 g12 H locs ls hP hD hS (lv_sub hl [0] rfl) h
        · have h := if_n h c6
          refine lv_iload_n hx hb (dt_at dt_Ref_binary 47 rfl) rfl (lv_at hl 1 rfl) ?_
          refine lv_bipush (v := 6) hx hb (dt_at dt_Ref_binary 48 rfl) (by decide) ?_
          refine lv_icmp_ne (tgt := 104) hx hb (dt_at dt_Ref_binary 49 rfl) (by decide) (fun c25 => ?_) (fun c25 => ?_)
          · have h := if_n h c25
            refine lv_aload_n hx hb (dt_at dt_Ref_binary 55 rfl) rfl (lv_at hl 0 rfl) ?_
            refine lv_iload_n hx hb (dt_at dt_Ref_binary 56 rfl) rfl (lv_at hl 2 rfl) ?_
            refine lv_iload_n hx hb (dt_at dt_Ref_binary 57 rfl) rfl (lv_at hl 3 rfl) ?_
            obtain ⟨r26, h_r26, h⟩ := ob_of h
            have hF := va_free (wc := dR a) (dD (ws' := dR a) hD rfl) hS hA [0, 1, 2, 3, 4, 5, 6] rfl
            have hd : va_D (fun _ => True) (dR a) := (dD (ws' := dR a) hD rfl).weaken (fun _ _ _ _ => trivial)
            refine va_calli (va_runV (As := [.int v2, .int v3]) (rest := []) ⟨hx, hb, hml, hown, hts⟩ (c_Ref_hull l D a q hd H.size v2 v3 g0 g1 g2 g3 g4 s0 g6 g7 g8 g9 g10 g11 g12 g13 g14 g15 g16 g17 g18 g19 r26 h_r26) (cwV 2 hts (gd_V (m_4 223 rfl rfl) (m_4 225 rfl rfl) (m_s 47 rfl rfl) (m_1 4 rfl rfl) (m_4 226 rfl rfl)) rfl rfl rfl (by decide +kernel) ⟨Nat.le_of_ble_eq_true rfl, Nat.le_of_ble_eq_true rfl⟩) ⟨fun a U g mk q => ⟨q.1, q.2.1, q.2.2.1, va_K.moved (u := U) (U := U.calling g mk a) (Vm.Alike.refl U.vm) q.2.2.2⟩, va_recv hK hP (ci := 0) (q0 := 0) rfl rfl, fun U hU hW => ⟨rfl, by rw [hU], by rw [hU]; exact hP, va_K.moved hW.alike hK⟩⟩ rfl rfl hl.1 rfl (lv_room (Nat.le_of_ble_eq_true rfl)) (dt_at dt_Ref_binary 58 rfl) ⟨Nat.le_of_ble_eq_true rfl, Nat.le_of_ble_eq_true rfl⟩) hS (fun x _ h9 => hF x h9) hF (fun u_r26 uu t H locs ht hvm hw hB hz1 hk1 hS => ?_)
            rw [ht] at hB
            subst hw
            have hP : va_P D CLS (wR a q r26.2.1 r26.2.2.1 r26.2.2.2.1 r26.2.2.2.2.1 r26.2.2.2.2.2 s0 g6 g7 g8 g9 g10 g11 g12 g13 g14 g15 g16 g17 g18 g19) H := hB
            have hD : va_D A (wR a q r26.2.1 r26.2.2.1 r26.2.2.2.1 r26.2.2.2.2.1 r26.2.2.2.2.2 s0 g6 g7 g8 g9 g10 g11 g12 g13 g14 g15 g16 g17 g18 g19) := dD hD rfl
            exact k_Ref_binary_110 hC hA hK   r26.1 r26.2.1 r26.2.2.1 r26.2.2.2.1 r26.2.2.2.2.1 r26.2.2.2.2.2 s0 g8 g9 g10 g11 g12 H locs ls hP hD hS (lv_sub hl [] rfl) h
          · have h := if_p h c25
            refine lv_aload_n hx hb (dt_at dt_Ref_binary 50 rfl) rfl (lv_at hl 0 rfl) ?_
            refine lv_iload_n hx hb (dt_at dt_Ref_binary 51 rfl) rfl (lv_at hl 2 rfl) ?_
            refine lv_iload_n hx hb (dt_at dt_Ref_binary 52 rfl) rfl (lv_at hl 3 rfl) ?_
            obtain ⟨r27, h_r27, h⟩ := ob_of h
            have hF := va_free (wc := dR a) (dD (ws' := dR a) hD rfl) hS hA [0, 1, 2, 3, 4, 5, 6] rfl
            have hd : va_D (fun _ => True) (dR a) := (dD (ws' := dR a) hD rfl).weaken (fun _ _ _ _ => trivial)
            refine va_calli (va_runV (As := [.int v2, .int v3]) (rest := []) ⟨hx, hb, hml, hown, hts⟩ (c_Ref_meet l D a q hd H.size v2 v3 g0 g1 g2 g3 g4 s0 g6 g7 g8 g9 g10 g11 g12 g13 g14 g15 g16 g17 g18 g19 r27 h_r27) (cwV 2 hts (gd_V (m_4 219 rfl rfl) (m_4 221 rfl rfl) (m_s 46 rfl rfl) (m_1 4 rfl rfl) (m_4 222 rfl rfl)) rfl rfl rfl (by decide +kernel) ⟨Nat.le_of_ble_eq_true rfl, Nat.le_of_ble_eq_true rfl⟩) ⟨fun a U g mk q => ⟨q.1, q.2.1, q.2.2.1, va_K.moved (u := U) (U := U.calling g mk a) (Vm.Alike.refl U.vm) q.2.2.2⟩, va_recv hK hP (ci := 0) (q0 := 0) rfl rfl, fun U hU hW => ⟨rfl, by rw [hU], by rw [hU]; exact hP, va_K.moved hW.alike hK⟩⟩ rfl rfl hl.1 rfl (lv_room (Nat.le_of_ble_eq_true rfl)) (dt_at dt_Ref_binary 53 rfl) ⟨Nat.le_of_ble_eq_true rfl, Nat.le_of_ble_eq_true rfl⟩) hS (fun x _ h9 => hF x h9) hF (fun u_r27 uu t H locs ht hvm hw hB hz1 hk1 hS => ?_)
            rw [ht] at hB
            subst hw
            have hP : va_P D CLS (wR a q r27.2.1 r27.2.2.1 r27.2.2.2.1 r27.2.2.2.2.1 r27.2.2.2.2.2 s0 g6 g7 g8 g9 g10 g11 g12 g13 g14 g15 g16 g17 g18 g19) H := hB
            have hD : va_D A (wR a q r27.2.1 r27.2.2.1 r27.2.2.2.1 r27.2.2.2.2.1 r27.2.2.2.2.2 s0 g6 g7 g8 g9 g10 g11 g12 g13 g14 g15 g16 g17 g18 g19) := dD hD rfl
            refine lv_goto (tgt := 110) hx hb (dt_at dt_Ref_binary 54 rfl) (by decide) ?_
            exact k_Ref_binary_110 hC hA hK   r27.1 r27.2.1 r27.2.2.1 r27.2.2.2.1 r27.2.2.2.2.1 r27.2.2.2.2.2 s0 g8 g9 g10 g11 g12 H locs ls hP hD hS (lv_sub hl [] rfl) h
      · have h := if_p h c5
        exact k_Ref_binary_79 hC hA hK   g0 g1 g2 g3 g4 s0 g8 g9 g10 g11 g12 H locs ls hP hD hS (lv_sub hl [0] rfl) h
  · have h := if_n h c1
    refine lv_iconst (v := 0) hx hb (dt_at dt_Ref_binary 29 rfl) (by decide) ?_
    obtain rfl := os_of h
    exact W.iret (v := (0 : Int32)) hx hb hr (fun t ht hW => ⟨⟨_, (), rfl, rfl, (hPt hP ht)⟩, hS.F ht⟩) hS.2.2 (dt_at dt_Ref_binary 30 rfl)
set_option maxRecDepth 100000 in
set_option maxHeartbeats 4000000 in
theorem k_Ref_binary_31 {p : Program} {l : Launch} {e : Env} {s : State} {m : MethodId} {args : Array Value} {below : List Frame} {meth : Method} {c : Code} {D : va_G} {a : Nat → Nat} {q : Nat → ClassId} {A : Nat → Prop} (hC : CX p s m args meth c prog_12_method_48_code 5 "OutwardTapeModel" (some .int)) (hA : ∀ x, s.heap.size ≤ x → A x) (hK : va_K D CLS (tR q) s) {g6 : Nat → Int32} {g7 : Int32} {g13 : Int32} {g14 : Int32} {g15 : Int64} {g16 : Int32} {g17 : Int32} {g18 : Int64} {g19 : Int32} {r0 : Int32 × Int32 × (Nat → Int32) × (Nat → Int64) × (Nat → Int64) × (Nat → Int32) × Int32 × (Nat → Int32) × Int32 × Int64 × Int64 × Int32} : ∀ (v1 : Int32) (v2 : Int32) (v3 : Int32) (g0 : Int32) (g1 : Nat → Int32) (g2 : Nat → Int64) (g3 : Nat → Int64) (g4 : Nat → Int32) (g5 : Int32) (g8 : Nat → Int32) (g9 : Int32) (g10 : Int64) (g11 : Int64) (g12 : Int32) (H : Heap) (locs : List Loc) (ls : Array Slot), va_P D CLS (wR a q g0 g1 g2 g3 g4 g5 g6 g7 g8 g9 g10 g11 g12 g13 g14 g15 g16 g17 g18 g19) H → va_D A (wR a q g0 g1 g2 g3 g4 g5 g6 g7 g8 g9 g10 g11 g12 g13 g14 g15 g16 g17 g18 g19) → va_S A s.heap H locs → lv_has ls 5 [(0, .ref (a 0)), (1, .int v1), (2, .int v2), (3, .int v3)] → f_Ref_binary_31  v1 v2 v3 g0 g1 g2 g3 g4 g5 g8 g9 g10 g11 g12 = some r0 → W p l e rm_Ref_binary s m args below meth c H locs 0 0 (MQ below (va_Qi (fun (r : Int32) (_ : Unit) => r = r0.1) (fun _ t => va_P D CLS (wR a q r0.2.1 r0.2.2.1 r0.2.2.2.1 r0.2.2.2.2.1 r0.2.2.2.2.2.1 r0.2.2.2.2.2.2.1 g6 g7 r0.2.2.2.2.2.2.2.1 r0.2.2.2.2.2.2.2.2.1 r0.2.2.2.2.2.2.2.2.2.1 r0.2.2.2.2.2.2.2.2.2.2.1 r0.2.2.2.2.2.2.2.2.2.2.2 g13 g14 g15 g16 g17 g18 g19) t.heap) A) args s 0 0 A) (F0 m 31 ls [.ref (a 0)]) := by
  obtain ⟨hx, hb, hml, hown, hts, hr, hlocks⟩ := id hC
  intro v1 v2 v3 g0 g1 g2 g3 g4 g5 g8 g9 g10 g11 g12 H locs ls hP hD hS hl h
  rw [f_Ref_binary_31] at h
  refine lv_iconst (v := 2) hx hb (dt_at dt_Ref_binary 16 rfl) (by decide) ?_
  refine lv_goto (tgt := 49) hx hb (dt_at dt_Ref_binary 17 rfl) (by decide) ?_
  exact k_Ref_binary_49 hC hA hK   (2 : Int32) v1 v2 v3 g0 g1 g2 g3 g4 g5 g8 g9 g10 g11 g12 H locs ls hP hD hS (lv_sub hl [0, 1, 2, 3] rfl) h
set_option maxRecDepth 100000 in
set_option maxHeartbeats 4000000 in
theorem k_Ref_binary_11 {p : Program} {l : Launch} {e : Env} {s : State} {m : MethodId} {args : Array Value} {below : List Frame} {meth : Method} {c : Code} {D : va_G} {a : Nat → Nat} {q : Nat → ClassId} {A : Nat → Prop} (hC : CX p s m args meth c prog_12_method_48_code 5 "OutwardTapeModel" (some .int)) (hA : ∀ x, s.heap.size ≤ x → A x) (hK : va_K D CLS (tR q) s) {g6 : Nat → Int32} {g7 : Int32} {g13 : Int32} {g14 : Int32} {g15 : Int64} {g16 : Int32} {g17 : Int32} {g18 : Int64} {g19 : Int32} {r0 : Int32 × Int32 × (Nat → Int32) × (Nat → Int64) × (Nat → Int64) × (Nat → Int32) × Int32 × (Nat → Int32) × Int32 × Int64 × Int64 × Int32} : ∀ (v1 : Int32) (v2 : Int32) (v3 : Int32) (g0 : Int32) (g1 : Nat → Int32) (g2 : Nat → Int64) (g3 : Nat → Int64) (g4 : Nat → Int32) (g5 : Int32) (g8 : Nat → Int32) (g9 : Int32) (g10 : Int64) (g11 : Int64) (g12 : Int32) (H : Heap) (locs : List Loc) (ls : Array Slot), va_P D CLS (wR a q g0 g1 g2 g3 g4 g5 g6 g7 g8 g9 g10 g11 g12 g13 g14 g15 g16 g17 g18 g19) H → va_D A (wR a q g0 g1 g2 g3 g4 g5 g6 g7 g8 g9 g10 g11 g12 g13 g14 g15 g16 g17 g18 g19) → va_S A s.heap H locs → lv_has ls 5 [(0, .ref (a 0)), (1, .int v1), (2, .int v2), (3, .int v3)] → f_Ref_binary_11  v1 v2 v3 g0 g1 g2 g3 g4 g5 g8 g9 g10 g11 g12 = some r0 → W p l e rm_Ref_binary s m args below meth c H locs 0 0 (MQ below (va_Qi (fun (r : Int32) (_ : Unit) => r = r0.1) (fun _ t => va_P D CLS (wR a q r0.2.1 r0.2.2.1 r0.2.2.2.1 r0.2.2.2.2.1 r0.2.2.2.2.2.1 r0.2.2.2.2.2.2.1 g6 g7 r0.2.2.2.2.2.2.2.1 r0.2.2.2.2.2.2.2.2.1 r0.2.2.2.2.2.2.2.2.2.1 r0.2.2.2.2.2.2.2.2.2.2.1 r0.2.2.2.2.2.2.2.2.2.2.2 g13 g14 g15 g16 g17 g18 g19) t.heap) A) args s 0 0 A) (F0 m 11 ls [.ref (a 0)]) := by
  obtain ⟨hx, hb, hml, hown, hts, hr, hlocks⟩ := id hC
  intro v1 v2 v3 g0 g1 g2 g3 g4 g5 g8 g9 g10 g11 g12 H locs ls hP hD hS hl h
  rw [f_Ref_binary_11] at h
  refine lv_iconst (v := 1) hx hb (dt_at dt_Ref_binary 6 rfl) (by decide) ?_
  refine lv_goto (tgt := 49) hx hb (dt_at dt_Ref_binary 7 rfl) (by decide) ?_
  exact k_Ref_binary_49 hC hA hK   (1 : Int32) v1 v2 v3 g0 g1 g2 g3 g4 g5 g8 g9 g10 g11 g12 H locs ls hP hD hS (lv_sub hl [0, 1, 2, 3] rfl) h
set_option maxRecDepth 100000 in
set_option maxHeartbeats 4000000 in
theorem k_Ref_binary_0 {p : Program} {l : Launch} {e : Env} {s : State} {m : MethodId} {args : Array Value} {below : List Frame} {meth : Method} {c : Code} {D : va_G} {a : Nat → Nat} {q : Nat → ClassId} {A : Nat → Prop} (hC : CX p s m args meth c prog_12_method_48_code 5 "OutwardTapeModel" (some .int)) (hA : ∀ x, s.heap.size ≤ x → A x) (hK : va_K D CLS (tR q) s) {g6 : Nat → Int32} {g7 : Int32} {g13 : Int32} {g14 : Int32} {g15 : Int64} {g16 : Int32} {g17 : Int32} {g18 : Int64} {g19 : Int32} {r0 : Int32 × Int32 × (Nat → Int32) × (Nat → Int64) × (Nat → Int64) × (Nat → Int32) × Int32 × (Nat → Int32) × Int32 × Int64 × Int64 × Int32} : ∀ (v1 : Int32) (v2 : Int32) (v3 : Int32) (g0 : Int32) (g1 : Nat → Int32) (g2 : Nat → Int64) (g3 : Nat → Int64) (g4 : Nat → Int32) (g5 : Int32) (g8 : Nat → Int32) (g9 : Int32) (g10 : Int64) (g11 : Int64) (g12 : Int32) (H : Heap) (locs : List Loc) (ls : Array Slot), va_P D CLS (wR a q g0 g1 g2 g3 g4 g5 g6 g7 g8 g9 g10 g11 g12 g13 g14 g15 g16 g17 g18 g19) H → va_D A (wR a q g0 g1 g2 g3 g4 g5 g6 g7 g8 g9 g10 g11 g12 g13 g14 g15 g16 g17 g18 g19) → va_S A s.heap H locs → lv_has ls 5 [(0, .ref (a 0)), (1, .int v1), (2, .int v2), (3, .int v3)] → f_Ref_binary_0  v1 v2 v3 g0 g1 g2 g3 g4 g5 g8 g9 g10 g11 g12 = some r0 → W p l e rm_Ref_binary s m args below meth c H locs 0 0 (MQ below (va_Qi (fun (r : Int32) (_ : Unit) => r = r0.1) (fun _ t => va_P D CLS (wR a q r0.2.1 r0.2.2.1 r0.2.2.2.1 r0.2.2.2.2.1 r0.2.2.2.2.2.1 r0.2.2.2.2.2.2.1 g6 g7 r0.2.2.2.2.2.2.2.1 r0.2.2.2.2.2.2.2.2.1 r0.2.2.2.2.2.2.2.2.2.1 r0.2.2.2.2.2.2.2.2.2.2.1 r0.2.2.2.2.2.2.2.2.2.2.2 g13 g14 g15 g16 g17 g18 g19) t.heap) A) args s 0 0 A) (F0 m 0 ls []) := by
  obtain ⟨hx, hb, hml, hown, hts, hr, hlocks⟩ := id hC
  intro v1 v2 v3 g0 g1 g2 g3 g4 g5 g8 g9 g10 g11 g12 H locs ls hP hD hS hl h
  rw [f_Ref_binary_0] at h
  refine lv_aload_n hx hb (dt_at dt_Ref_binary 0 rfl) rfl (lv_at hl 0 rfl) ?_
  refine lv_iload_n hx hb (dt_at dt_Ref_binary 1 rfl) rfl (lv_at hl 1 rfl) ?_
  refine lv_if_lt (tgt := 11) hx hb (dt_at dt_Ref_binary 2 rfl) (by decide) (fun c1 => ?_) (fun c1 => ?_)
  · have h := if_p h c1
    exact k_Ref_binary_11 hC hA hK   v1 v2 v3 g0 g1 g2 g3 g4 g5 g8 g9 g10 g11 g12 H locs ls hP hD hS (lv_sub hl [0, 1, 2, 3] rfl) h
  · have h := if_n h c1
    refine lv_iload_n hx hb (dt_at dt_Ref_binary 3 rfl) rfl (lv_at hl 1 rfl) ?_
    refine lv_bipush (v := 7) hx hb (dt_at dt_Ref_binary 4 rfl) (by decide) ?_
    refine lv_icmp_le (tgt := 15) hx hb (dt_at dt_Ref_binary 5 rfl) (by decide) (fun c2 => ?_) (fun c2 => ?_)
    · have h := if_p h c2
      refine lv_aload_n hx hb (dt_at dt_Ref_binary 8 rfl) rfl (lv_at hl 0 rfl) ?_
      refine lv_iload_n hx hb (dt_at dt_Ref_binary 9 rfl) rfl (lv_at hl 2 rfl) ?_
      obtain ⟨r3, h_r3, h⟩ := ob_of h
      have hF := va_free (wc := dR a) (dD (ws' := dR a) hD rfl) hS hA [0, 1, 2, 3, 4, 5, 6] rfl
      have hd : va_D (fun _ => True) (dR a) := (dD (ws' := dR a) hD rfl).weaken (fun _ _ _ _ => trivial)
      refine va_calli (va_runV (As := [.int v2]) (rest := [.ref (a 0)]) ⟨hx, hb, hml, hown, hts⟩ (c_Ref_there l D a q hd H.size v2 g0 g1 g2 g3 g4 g5 g6 g7 g8 g9 g10 g11 g12 g13 g14 g15 g16 g17 g18 g19 r3 h_r3) (cwV 1 hts (gd_V (m_4 96 rfl rfl) (m_4 98 rfl rfl) (m_s 24 rfl rfl) (m_1 4 rfl rfl) (m_4 99 rfl rfl)) rfl rfl rfl (by decide +kernel) ⟨Nat.le_of_ble_eq_true rfl, Nat.le_of_ble_eq_true rfl⟩) ⟨fun a U g mk q => ⟨q.1, q.2.1, q.2.2.1, va_K.moved (u := U) (U := U.calling g mk a) (Vm.Alike.refl U.vm) q.2.2.2⟩, va_recv hK hP (ci := 0) (q0 := 0) rfl rfl, fun U hU hW => ⟨rfl, by rw [hU], by rw [hU]; exact hP, va_K.moved hW.alike hK⟩⟩ rfl rfl hl.1 rfl (lv_room (Nat.le_of_ble_eq_true rfl)) (dt_at dt_Ref_binary 10 rfl) ⟨Nat.le_of_ble_eq_true rfl, Nat.le_of_ble_eq_true rfl⟩) hS (fun x _ h9 => hF x h9) hF (fun u_r3 uu t H locs ht hvm hw hB hz1 hk1 hS => ?_)
      rw [ht] at hB
      obtain rfl : r3 = u_r3 := hw.symm
      have hP : va_P D CLS (wR a q g0 g1 g2 g3 g4 g5 g6 g7 g8 g9 g10 g11 g12 g13 g14 g15 g16 g17 g18 g19) H := hB
      have hD : va_D A (wR a q g0 g1 g2 g3 g4 g5 g6 g7 g8 g9 g10 g11 g12 g13 g14 g15 g16 g17 g18 g19) := dD hD rfl
      refine lv_if_eq (tgt := 31) hx hb (dt_at dt_Ref_binary 11 rfl) (by decide) (fun c4 => ?_) (fun c4 => ?_)
      · have h := if_p h c4
        exact k_Ref_binary_31 hC hA hK   v1 v2 v3 g0 g1 g2 g3 g4 g5 g8 g9 g10 g11 g12 H locs ls hP hD hS (lv_sub hl [0, 1, 2, 3] rfl) h
      · have h := if_n h c4
        refine lv_aload_n hx hb (dt_at dt_Ref_binary 12 rfl) rfl (lv_at hl 0 rfl) ?_
        refine lv_iload_n hx hb (dt_at dt_Ref_binary 13 rfl) rfl (lv_at hl 3 rfl) ?_
        obtain ⟨r5, h_r5, h⟩ := ob_of h
        have hF := va_free (wc := dR a) (dD (ws' := dR a) hD rfl) hS hA [0, 1, 2, 3, 4, 5, 6] rfl
        have hd : va_D (fun _ => True) (dR a) := (dD (ws' := dR a) hD rfl).weaken (fun _ _ _ _ => trivial)
        refine va_calli (va_runV (As := [.int v3]) (rest := [.ref (a 0)]) ⟨hx, hb, hml, hown, hts⟩ (c_Ref_there l D a q hd H.size v3 g0 g1 g2 g3 g4 g5 g6 g7 g8 g9 g10 g11 g12 g13 g14 g15 g16 g17 g18 g19 r5 h_r5) (cwV 1 hts (gd_V (m_4 96 rfl rfl) (m_4 98 rfl rfl) (m_s 24 rfl rfl) (m_1 4 rfl rfl) (m_4 99 rfl rfl)) rfl rfl rfl (by decide +kernel) ⟨Nat.le_of_ble_eq_true rfl, Nat.le_of_ble_eq_true rfl⟩) ⟨fun a U g mk q => ⟨q.1, q.2.1, q.2.2.1, va_K.moved (u := U) (U := U.calling g mk a) (Vm.Alike.refl U.vm) q.2.2.2⟩, va_recv hK hP (ci := 0) (q0 := 0) rfl rfl, fun U hU hW => ⟨rfl, by rw [hU], by rw [hU]; exact hP, va_K.moved hW.alike hK⟩⟩ rfl rfl hl.1 rfl (lv_room (Nat.le_of_ble_eq_true rfl)) (dt_at dt_Ref_binary 14 rfl) ⟨Nat.le_of_ble_eq_true rfl, Nat.le_of_ble_eq_true rfl⟩) hS (fun x _ h9 => hF x h9) hF (fun u_r5 uu t H locs ht hvm hw hB hz1 hk1 hS => ?_)
        rw [ht] at hB
        obtain rfl : r5 = u_r5 := hw.symm
        have hP : va_P D CLS (wR a q g0 g1 g2 g3 g4 g5 g6 g7 g8 g9 g10 g11 g12 g13 g14 g15 g16 g17 g18 g19) H := hB
        have hD : va_D A (wR a q g0 g1 g2 g3 g4 g5 g6 g7 g8 g9 g10 g11 g12 g13 g14 g15 g16 g17 g18 g19) := dD hD rfl
        refine lv_if_ne (tgt := 35) hx hb (dt_at dt_Ref_binary 15 rfl) (by decide) (fun c6 => ?_) (fun c6 => ?_)
        · have h := if_n h c6
          refine lv_aload_n hx hb (dt_at dt_Ref_binary 18 rfl) rfl (lv_at hl 0 rfl) ?_
          refine va_get (D := D) (ci := 0) (v := .int g0) (C := "OutwardTapeModel") (T := T_Ref) (N := 20) hx hb hts in_Ref hown hK hP 0 rfl rfl 0 (by decide) (hts (Cond.fieldLink "OutwardTapeModel" 173 "OutwardTapeModel" "count" "I") (m_3 239 rfl rfl)) (fun _ h9 => h9) rfl (dt_at dt_Ref_binary 19 rfl) ?_
          refine lv_bipush (v := 40) hx hb (dt_at dt_Ref_binary 20 rfl) (by decide) ?_
          refine lv_icmp_ne (tgt := 48) hx hb (dt_at dt_Ref_binary 21 rfl) (by decide) (fun c7 => ?_) (fun c7 => ?_)
          · have h := if_n h c7
            refine lv_iconst (v := 0) hx hb (dt_at dt_Ref_binary 24 rfl) (by decide) ?_
            exact k_Ref_binary_49 hC hA hK   (0 : Int32) v1 v2 v3 g0 g1 g2 g3 g4 g5 g8 g9 g10 g11 g12 H locs ls hP hD hS (lv_sub hl [0, 1, 2, 3] rfl) h
          · have h := if_p h c7
            refine lv_iconst (v := 3) hx hb (dt_at dt_Ref_binary 22 rfl) (by decide) ?_
            refine lv_goto (tgt := 49) hx hb (dt_at dt_Ref_binary 23 rfl) (by decide) ?_
            exact k_Ref_binary_49 hC hA hK   (3 : Int32) v1 v2 v3 g0 g1 g2 g3 g4 g5 g8 g9 g10 g11 g12 H locs ls hP hD hS (lv_sub hl [0, 1, 2, 3] rfl) h
        · have h := if_p h c6
          exact k_Ref_binary_31 hC hA hK   v1 v2 v3 g0 g1 g2 g3 g4 g5 g8 g9 g10 g11 g12 H locs ls hP hD hS (lv_sub hl [0, 1, 2, 3] rfl) h
    · have h := if_n h c2
      exact k_Ref_binary_11 hC hA hK   v1 v2 v3 g0 g1 g2 g3 g4 g5 g8 g9 g10 g11 g12 H locs ls hP hD hS (lv_sub hl [0, 1, 2, 3] rfl) h
set_option maxRecDepth 100000 in
set_option maxHeartbeats 4000000 in
theorem c_Ref_binary (l : Launch) (D : va_G) (a : Nat → Nat) (q : Nat → ClassId) (hd : va_D (fun _ => True) (dR a)) (sz : Nat) (a1 : Int32) (a2 : Int32) (a3 : Int32) (g0 : Int32) (g1 : Nat → Int32) (g2 : Nat → Int64) (g3 : Nat → Int64) (g4 : Nat → Int32) (g5 : Int32) (g6 : Nat → Int32) (g7 : Int32) (g8 : Nat → Int32) (g9 : Int32) (g10 : Int64) (g11 : Int64) (g12 : Int32) (g13 : Int32) (g14 : Int32) (g15 : Int64) (g16 : Int32) (g17 : Int32) (g18 : Int64) (g19 : Int32) (r0 : Int32 × Int32 × (Nat → Int32) × (Nat → Int64) × (Nat → Int64) × (Nat → Int32) × Int32 × (Nat → Int32) × Int32 × Int64 × Int64 × Int32) (h : f_Ref_binary a1 a2 a3 g0 g1 g2 g3 g4 g5 g8 g9 g10 g11 g12 = some r0) : Met l (⟨"OutwardTapeModel", "binary", "(III)I"⟩ : MethodName) (WSm (⟨"OutwardTapeModel", "binary", "(III)I"⟩ : MethodName) prog_12_method_48_code 5 (some .int)) rm_Ref_binary (va_Pc [.ref (a 0), .int a1, .int a2, .int a3] (fun U => U.heap.size = sz ∧ va_P D CLS (wR a q g0 g1 g2 g3 g4 g5 g6 g7 g8 g9 g10 g11 g12 g13 g14 g15 g16 g17 g18 g19) U.heap ∧ va_K D CLS (tR q) U)) (va_Qi (fun (r : Int32) (_ : Unit) => r = r0.1) (fun _ t => va_P D CLS (wR a q r0.2.1 r0.2.2.1 r0.2.2.2.1 r0.2.2.2.2.1 r0.2.2.2.2.2.1 r0.2.2.2.2.2.2.1 g6 g7 r0.2.2.2.2.2.2.2.1 r0.2.2.2.2.2.2.2.2.1 r0.2.2.2.2.2.2.2.2.2.1 r0.2.2.2.2.2.2.2.2.2.2.1 r0.2.2.2.2.2.2.2.2.2.2.2 g13 g14 g15 g16 g17 g18 g19) t.heap) (va_A (dR a) sz)) 0 0 (va_A (dR a) sz) := by
  refine Met.ofW (cc := prog_12_method_48_code) (maxL := 5) (ret := (some .int)) (by decide) rfl ?_
  intro p e s m args below meth c s₁ B hml hv
  obtain ⟨rfl, hsz, hP, hK⟩ := hv
  subst hsz
  have hC := CX.of B hml rfl
  have hl := lv_entry [.ref (a 0), .int a1, .int a2, .int a3] (n := 5) (Nat.le_of_ble_eq_true rfl)
  rw [lg_entry_eq]
  generalize (lg_sl [.ref (a 0), .int a1, .int a2, .int a3] ++ List.replicate (5 - (lg_sl [.ref (a 0), .int a1, .int a2, .int a3]).length) Slot.unset).toArray = ls at hl ⊢
  have hl : lv_has ls 5 [(0, .ref (a 0)), (1, .int a1), (2, .int a2), (3, .int a3)] := hl
  exact k_Ref_binary_0 hC (fun x h => Or.inr h) hK a1 a2 a3 g0 g1 g2 g3 g4 g5 g8 g9 g10 g11 g12 s.heap [] ls hP (dD hd.self rfl) va_S.rf (lv_sub hl [0, 1, 2, 3] rfl) h
abbrev rm_Ref_type : Room := { frames := 0, cells := 0, slots := 0, locals := 0 }
set_option maxRecDepth 100000 in
set_option maxHeartbeats 4000000 in
theorem k_Ref_type_118 {p : Program} {l : Launch} {e : Env} {s : State} {m : MethodId} {args : Array Value} {below : List Frame} {meth : Method} {c : Code} {D : va_G} {a : Nat → Nat} {q : Nat → ClassId} {A : Nat → Prop} (hC : CX p s m args meth c prog_12_method_49_code 5 "OutwardTapeModel" (some .boolean)) (hA : ∀ x, s.heap.size ≤ x → A x) (hK : va_K D CLS (tR q) s) {g0 : Int32} {g1 : Nat → Int32} {g2 : Nat → Int64} {g3 : Nat → Int64} {g4 : Nat → Int32} {g8 : Nat → Int32} {g9 : Int32} {g10 : Int64} {g11 : Int64} {g12 : Int32} {g13 : Int32} {g14 : Int32} {g15 : Int64} {g16 : Int32} {g17 : Int32} {g18 : Int64} {g19 : Int32} {r0 : Int32 × Int32 × (Nat → Int32) × Int32} (k79 : Int32 → Int32 → Int32 → (Nat → Int32) → Int32 → Option (Int32 × Int32 × (Nat → Int32) × Int32)) (hk79 : ∀ (v1 : Int32) (v3 : Int32) (g5 : Int32) (g6 : Nat → Int32) (g7 : Int32) (H : Heap) (locs : List Loc) (ls : Array Slot), va_P D CLS (wR a q g0 g1 g2 g3 g4 g5 g6 g7 g8 g9 g10 g11 g12 g13 g14 g15 g16 g17 g18 g19) H → va_D A (wR a q g0 g1 g2 g3 g4 g5 g6 g7 g8 g9 g10 g11 g12 g13 g14 g15 g16 g17 g18 g19) → va_S A s.heap H locs → lv_has ls 5 [(0, .ref (a 0)), (1, .int v1), (3, .int v3)] → k79 v1 v3 g5 g6 g7 = some r0 → W p l e rm_Ref_type s m args below meth c H locs 0 0 (MQ below (va_Qi (fun (r : Int32) (_ : Unit) => r = r0.1) (fun _ t => va_P D CLS (wR a q g0 g1 g2 g3 g4 r0.2.1 r0.2.2.1 r0.2.2.2 g8 g9 g10 g11 g12 g13 g14 g15 g16 g17 g18 g19) t.heap) A) args s 0 0 A) (F0 m 79 ls [])) : ∀ (v1 : Int32) (v3 : Int32) (g5 : Int32) (g6 : Nat → Int32) (g7 : Int32) (H : Heap) (locs : List Loc) (ls : Array Slot), va_P D CLS (wR a q g0 g1 g2 g3 g4 g5 g6 g7 g8 g9 g10 g11 g12 g13 g14 g15 g16 g17 g18 g19) H → va_D A (wR a q g0 g1 g2 g3 g4 g5 g6 g7 g8 g9 g10 g11 g12 g13 g14 g15 g16 g17 g18 g19) → va_S A s.heap H locs → lv_has ls 5 [(0, .ref (a 0)), (1, .int v1), (3, .int v3)] → f_Ref_type_118 k79 v1 v3 g5 g6 g7 = some r0 → W p l e rm_Ref_type s m args below meth c H locs 0 0 (MQ below (va_Qi (fun (r : Int32) (_ : Unit) => r = r0.1) (fun _ t => va_P D CLS (wR a q g0 g1 g2 g3 g4 r0.2.1 r0.2.2.1 r0.2.2.2 g8 g9 g10 g11 g12 g13 g14 g15 g16 g17 g18 g19) t.heap) A) args s 0 0 A) (F0 m 118 ls []) := by
  obtain ⟨hx, hb, hml, hown, hts, hr, hlocks⟩ := id hC
  intro v1 v3 g5 g6 g7 H locs ls hP hD hS hl h
  rw [f_Ref_type_118] at h
  obtain ⟨t1, e_t1, h⟩ := ol_of h
  refine lv_iinc (v := t1) (lv' := [(3, .int t1), (0, .ref (a 0)), (1, .int v1)]) hx hb (dt_at dt_Ref_type 67 rfl) hl (k := 2) rfl (by rw [e_t1]; rfl) (by decide) rfl (fun ls hl => ?_)
  refine lv_goto (tgt := 79) hx hb (dt_at dt_Ref_type 68 rfl) (by decide) ?_
  exact hk79 v1 t1 g5 g6 g7 H locs ls hP hD hS (lv_sub hl [1, 2, 0] rfl) h
set_option maxRecDepth 100000 in
set_option maxHeartbeats 4000000 in
theorem k_Ref_type_79 {p : Program} {l : Launch} {e : Env} {s : State} {m : MethodId} {args : Array Value} {below : List Frame} {meth : Method} {c : Code} {D : va_G} {a : Nat → Nat} {q : Nat → ClassId} {A : Nat → Prop} (hC : CX p s m args meth c prog_12_method_49_code 5 "OutwardTapeModel" (some .boolean)) (hA : ∀ x, s.heap.size ≤ x → A x) (hK : va_K D CLS (tR q) s) {g0 : Int32} {g1 : Nat → Int32} {g2 : Nat → Int64} {g3 : Nat → Int64} {g4 : Nat → Int32} {g8 : Nat → Int32} {g9 : Int32} {g10 : Int64} {g11 : Int64} {g12 : Int32} {g13 : Int32} {g14 : Int32} {g15 : Int64} {g16 : Int32} {g17 : Int32} {g18 : Int64} {g19 : Int32} {r0 : Int32 × Int32 × (Nat → Int32) × Int32} : ∀ n : Nat, ∀ (v1 : Int32) (v3 : Int32) (g5 : Int32) (g6 : Nat → Int32) (g7 : Int32) (H : Heap) (locs : List Loc) (ls : Array Slot), va_P D CLS (wR a q g0 g1 g2 g3 g4 g5 g6 g7 g8 g9 g10 g11 g12 g13 g14 g15 g16 g17 g18 g19) H → va_D A (wR a q g0 g1 g2 g3 g4 g5 g6 g7 g8 g9 g10 g11 g12 g13 g14 g15 g16 g17 g18 g19) → va_S A s.heap H locs → lv_has ls 5 [(0, .ref (a 0)), (1, .int v1), (3, .int v3)] → f_Ref_type_79  n v1 v3 g5 g6 g7 = some r0 → W p l e rm_Ref_type s m args below meth c H locs 0 0 (MQ below (va_Qi (fun (r : Int32) (_ : Unit) => r = r0.1) (fun _ t => va_P D CLS (wR a q g0 g1 g2 g3 g4 r0.2.1 r0.2.2.1 r0.2.2.2 g8 g9 g10 g11 g12 g13 g14 g15 g16 g17 g18 g19) t.heap) A) args s 0 0 A) (F0 m 79 ls []) := by
  obtain ⟨hx, hb, hml, hown, hts, hr, hlocks⟩ := id hC
  intro n
  induction n with
  | zero => intro v1 v3 g5 g6 g7 H locs ls hP hD hS hl h; cases h
  | succ n ih =>
    intro v1 v3 g5 g6 g7 H locs ls hP hD hS hl h
    rw [f_Ref_type_79] at h
    refine lv_iload_n hx hb (dt_at dt_Ref_type 45 rfl) rfl (lv_at hl 2 rfl) ?_
    refine lv_if_lt (tgt := 124) hx hb (dt_at dt_Ref_type 46 rfl) (by decide) (fun c1 => ?_) (fun c1 => ?_)
    · have h := if_p h c1
      refine lv_iconst (v := 1) hx hb (dt_at dt_Ref_type 69 rfl) (by decide) ?_
      obtain rfl := os_of h
      exact W.zret (v := (1 : Int32)) (ty := .boolean) hx hb hr (by decide) (fun t ht hW => ⟨⟨_, (), rfl, rfl, (hPt hP ht)⟩, hS.F ht⟩) hS.2.2 (dt_at dt_Ref_type 70 rfl)
    · have h := if_n h c1
      refine lv_iload_n hx hb (dt_at dt_Ref_type 47 rfl) rfl (lv_at hl 1 rfl) ?_
      refine lv_iload_n hx hb (dt_at dt_Ref_type 48 rfl) rfl (lv_at hl 2 rfl) ?_
      refine lv_ishr hx hb (dt_at dt_Ref_type 49 rfl) ?_
      refine lv_sipush (v := 255) hx hb (dt_at dt_Ref_type 50 rfl) (by decide) ?_
      refine lv_iand hx hb (dt_at dt_Ref_type 51 rfl) ?_
      obtain ⟨t2, e_t2, h⟩ := ol_of h
      refine lv_topi (fun u_t2 q_t2 => ?_)
      obtain rfl : t2 = u_t2 := e_t2.trans q_t2.symm
      refine lv_istore (lv' := [(4, .int t2), (0, .ref (a 0)), (1, .int v1), (3, .int v3)]) hx hb (dt_at dt_Ref_type 52 rfl) hl (by decide) rfl (fun ls hl => ?_)
      refine lv_iload hx hb (dt_at dt_Ref_type 53 rfl) (lv_at hl 0 rfl) ?_
      refine lv_if_eq (tgt := 118) hx hb (dt_at dt_Ref_type 54 rfl) (by decide) (fun c3 => ?_) (fun c3 => ?_)
      · have h := if_p h c3
        exact k_Ref_type_118 hC hA hK (f_Ref_type_79  n) ih  v1 v3 g5 g6 g7 H locs ls hP hD hS (lv_sub hl [1, 2, 3] rfl) h
      · have h := if_n h c3
        refine lv_aload_n hx hb (dt_at dt_Ref_type 55 rfl) rfl (lv_at hl 1 rfl) ?_
        refine va_get (D := D) (ci := 0) (v := .ref (a 5)) (C := "OutwardTapeModel") (T := T_Ref) (N := 20) hx hb hts in_Ref hown hK hP 0 rfl rfl 6 (by decide) (hts (Cond.fieldLink "OutwardTapeModel" 23 "OutwardTapeModel" "text" "[I") (m_4 5 rfl rfl)) (fun _ h9 => h9) rfl (dt_at dt_Ref_type 56 rfl) ?_
        refine lv_aload_n hx hb (dt_at dt_Ref_type 57 rfl) rfl (lv_at hl 1 rfl) ?_
        refine va_get (D := D) (ci := 0) (v := .int g7) (C := "OutwardTapeModel") (T := T_Ref) (N := 20) hx hb hts in_Ref hown hK hP 0 rfl rfl 7 (by decide) (hts (Cond.fieldLink "OutwardTapeModel" 218 "OutwardTapeModel" "size" "I") (m_4 6 rfl rfl)) (fun _ h9 => h9) rfl (dt_at dt_Ref_type 58 rfl) ?_
        refine lv_iload hx hb (dt_at dt_Ref_type 59 rfl) (lv_at hl 0 rfl) ?_
        obtain ⟨z4, h⟩ := og_of h
        obtain ⟨t5, e_t5, h⟩ := ol_of h
        refine va_iast hx hb hK hP hD hS 5 4 rfl rfl z4 (dt_at dt_Ref_type 60 rfl) (fun H locs hP hD hS => ?_)
        have hP : va_P D CLS (wR a q g0 g1 g2 g3 g4 g5 t5 g7 g8 g9 g10 g11 g12 g13 g14 g15 g16 g17 g18 g19) H := by rw [e_t5]; exact hP
        have hD : va_D A (wR a q g0 g1 g2 g3 g4 g5 t5 g7 g8 g9 g10 g11 g12 g13 g14 g15 g16 g17 g18 g19) := dD hD rfl
        refine lv_aload_n hx hb (dt_at dt_Ref_type 61 rfl) rfl (lv_at hl 1 rfl) ?_
        refine lv_dup hx hb (dt_at dt_Ref_type 62 rfl) rfl ?_
        refine va_get (D := D) (ci := 0) (v := .int g7) (C := "OutwardTapeModel") (T := T_Ref) (N := 20) hx hb hts in_Ref hown hK hP 0 rfl rfl 7 (by decide) (hts (Cond.fieldLink "OutwardTapeModel" 218 "OutwardTapeModel" "size" "I") (m_4 6 rfl rfl)) (fun _ h9 => h9) rfl (dt_at dt_Ref_type 63 rfl) ?_
        refine lv_iconst (v := 1) hx hb (dt_at dt_Ref_type 64 rfl) (by decide) ?_
        refine lv_iadd hx hb (dt_at dt_Ref_type 65 rfl) ?_
        obtain ⟨t6, e_t6, h⟩ := ol_of h
        refine lv_topi (fun u_t6 q_t6 => ?_)
        obtain rfl : t6 = u_t6 := e_t6.trans q_t6.symm
        refine va_put (D := D) (ci := 0) (v := .int t6) (ty := .int) (C := "OutwardTapeModel") (T := T_Ref) (N := 20) hx hb hts in_Ref ty_Ref tk_Ref nm_Ref hown hK hP hD hS 0 rfl rfl 7 (by decide) (hts (Cond.fieldLink "OutwardTapeModel" 218 "OutwardTapeModel" "size" "I") (m_4 6 rfl rfl)) (fun _ h9 => h9) rfl (by decide +kernel) rfl rfl (Nat.le_of_ble_eq_true rfl) (dt_at dt_Ref_type 66 rfl) (fun H locs hP hD hS => ?_)
        have hP : va_P D CLS (wR a q g0 g1 g2 g3 g4 g5 t5 t6 g8 g9 g10 g11 g12 g13 g14 g15 g16 g17 g18 g19) H := hP
        have hD : va_D A (wR a q g0 g1 g2 g3 g4 g5 t5 t6 g8 g9 g10 g11 g12 g13 g14 g15 g16 g17 g18 g19) := hD
        exact k_Ref_type_118 hC hA hK (f_Ref_type_79  n) ih  v1 v3 g5 t5 t6 H locs ls hP hD hS (lv_sub hl [1, 2, 3] rfl) h
set_option maxRecDepth 100000 in
set_option maxHeartbeats 4000000 in
theorem k_Ref_type_56 {p : Program} {l : Launch} {e : Env} {s : State} {m : MethodId} {args : Array Value} {below : List Frame} {meth : Method} {c : Code} {D : va_G} {a : Nat → Nat} {q : Nat → ClassId} {A : Nat → Prop} (hC : CX p s m args meth c prog_12_method_49_code 5 "OutwardTapeModel" (some .boolean)) (hA : ∀ x, s.heap.size ≤ x → A x) (hK : va_K D CLS (tR q) s) {g0 : Int32} {g1 : Nat → Int32} {g2 : Nat → Int64} {g3 : Nat → Int64} {g4 : Nat → Int32} {g8 : Nat → Int32} {g9 : Int32} {g10 : Int64} {g11 : Int64} {g12 : Int32} {g13 : Int32} {g14 : Int32} {g15 : Int64} {g16 : Int32} {g17 : Int32} {g18 : Int64} {g19 : Int32} {r0 : Int32 × Int32 × (Nat → Int32) × Int32} (k10 : Int32 → Int32 → Int32 → Int32 → (Nat → Int32) → Int32 → Option (Int32 × Int32 × (Nat → Int32) × Int32)) (hk10 : ∀ (v1 : Int32) (v2 : Int32) (v3 : Int32) (g5 : Int32) (g6 : Nat → Int32) (g7 : Int32) (H : Heap) (locs : List Loc) (ls : Array Slot), va_P D CLS (wR a q g0 g1 g2 g3 g4 g5 g6 g7 g8 g9 g10 g11 g12 g13 g14 g15 g16 g17 g18 g19) H → va_D A (wR a q g0 g1 g2 g3 g4 g5 g6 g7 g8 g9 g10 g11 g12 g13 g14 g15 g16 g17 g18 g19) → va_S A s.heap H locs → lv_has ls 5 [(0, .ref (a 0)), (1, .int v1), (2, .int v2), (3, .int v3)] → k10 v1 v2 v3 g5 g6 g7 = some r0 → W p l e rm_Ref_type s m args below meth c H locs 0 0 (MQ below (va_Qi (fun (r : Int32) (_ : Unit) => r = r0.1) (fun _ t => va_P D CLS (wR a q g0 g1 g2 g3 g4 r0.2.1 r0.2.2.1 r0.2.2.2 g8 g9 g10 g11 g12 g13 g14 g15 g16 g17 g18 g19) t.heap) A) args s 0 0 A) (F0 m 10 ls [])) : ∀ (s0 : Int32) (v1 : Int32) (v3 : Int32) (g5 : Int32) (g6 : Nat → Int32) (g7 : Int32) (H : Heap) (locs : List Loc) (ls : Array Slot), va_P D CLS (wR a q g0 g1 g2 g3 g4 g5 g6 g7 g8 g9 g10 g11 g12 g13 g14 g15 g16 g17 g18 g19) H → va_D A (wR a q g0 g1 g2 g3 g4 g5 g6 g7 g8 g9 g10 g11 g12 g13 g14 g15 g16 g17 g18 g19) → va_S A s.heap H locs → lv_has ls 5 [(0, .ref (a 0)), (1, .int v1), (3, .int v3)] → f_Ref_type_56 k10 s0 v1 v3 g5 g6 g7 = some r0 → W p l e rm_Ref_type s m args below meth c H locs 0 0 (MQ below (va_Qi (fun (r : Int32) (_ : Unit) => r = r0.1) (fun _ t => va_P D CLS (wR a q g0 g1 g2 g3 g4 r0.2.1 r0.2.2.1 r0.2.2.2 g8 g9 g10 g11 g12 g13 g14 g15 g16 g17 g18 g19) t.heap) A) args s 0 0 A) (F0 m 56 ls [.int s0]) := by
  obtain ⟨hx, hb, hml, hown, hts, hr, hlocks⟩ := id hC
  intro s0 v1 v3 g5 g6 g7 H locs ls hP hD hS hl h
  rw [f_Ref_type_56] at h
  refine lv_istore_n (lv' := [(2, .int s0), (0, .ref (a 0)), (1, .int v1), (3, .int v3)]) hx hb (dt_at dt_Ref_type 32 rfl) rfl hl (by decide) rfl (fun ls hl => ?_)
  obtain ⟨t1, e_t1, h⟩ := ol_of h
  refine lv_iinc (v := t1) (lv' := [(3, .int t1), (2, .int s0), (0, .ref (a 0)), (1, .int v1)]) hx hb (dt_at dt_Ref_type 33 rfl) hl (k := 3) rfl (by rw [e_t1]; rfl) (by decide) rfl (fun ls hl => ?_)
  refine lv_goto (tgt := 10) hx hb (dt_at dt_Ref_type 34 rfl) (by decide) ?_
  exact hk10 v1 s0 t1 g5 g6 g7 H locs ls hP hD hS (lv_sub hl [2, 3, 1, 0] rfl) h
set_option maxRecDepth 100000 in
set_option maxHeartbeats 4000000 in
theorem k_Ref_type_44 {p : Program} {l : Launch} {e : Env} {s : State} {m : MethodId} {args : Array Value} {below : List Frame} {meth : Method} {c : Code} {D : va_G} {a : Nat → Nat} {q : Nat → ClassId} {A : Nat → Prop} (hC : CX p s m args meth c prog_12_method_49_code 5 "OutwardTapeModel" (some .boolean)) (hA : ∀ x, s.heap.size ≤ x → A x) (hK : va_K D CLS (tR q) s) {g0 : Int32} {g1 : Nat → Int32} {g2 : Nat → Int64} {g3 : Nat → Int64} {g4 : Nat → Int32} {g8 : Nat → Int32} {g9 : Int32} {g10 : Int64} {g11 : Int64} {g12 : Int32} {g13 : Int32} {g14 : Int32} {g15 : Int64} {g16 : Int32} {g17 : Int32} {g18 : Int64} {g19 : Int32} {r0 : Int32 × Int32 × (Nat → Int32) × Int32} (k10 : Int32 → Int32 → Int32 → Int32 → (Nat → Int32) → Int32 → Option (Int32 × Int32 × (Nat → Int32) × Int32)) (hk10 : ∀ (v1 : Int32) (v2 : Int32) (v3 : Int32) (g5 : Int32) (g6 : Nat → Int32) (g7 : Int32) (H : Heap) (locs : List Loc) (ls : Array Slot), va_P D CLS (wR a q g0 g1 g2 g3 g4 g5 g6 g7 g8 g9 g10 g11 g12 g13 g14 g15 g16 g17 g18 g19) H → va_D A (wR a q g0 g1 g2 g3 g4 g5 g6 g7 g8 g9 g10 g11 g12 g13 g14 g15 g16 g17 g18 g19) → va_S A s.heap H locs → lv_has ls 5 [(0, .ref (a 0)), (1, .int v1), (2, .int v2), (3, .int v3)] → k10 v1 v2 v3 g5 g6 g7 = some r0 → W p l e rm_Ref_type s m args below meth c H locs 0 0 (MQ below (va_Qi (fun (r : Int32) (_ : Unit) => r = r0.1) (fun _ t => va_P D CLS (wR a q g0 g1 g2 g3 g4 r0.2.1 r0.2.2.1 r0.2.2.2 g8 g9 g10 g11 g12 g13 g14 g15 g16 g17 g18 g19) t.heap) A) args s 0 0 A) (F0 m 10 ls [])) : ∀ (v1 : Int32) (v2 : Int32) (v3 : Int32) (v4 : Int32) (g5 : Int32) (g6 : Nat → Int32) (g7 : Int32) (H : Heap) (locs : List Loc) (ls : Array Slot), va_P D CLS (wR a q g0 g1 g2 g3 g4 g5 g6 g7 g8 g9 g10 g11 g12 g13 g14 g15 g16 g17 g18 g19) H → va_D A (wR a q g0 g1 g2 g3 g4 g5 g6 g7 g8 g9 g10 g11 g12 g13 g14 g15 g16 g17 g18 g19) → va_S A s.heap H locs → lv_has ls 5 [(0, .ref (a 0)), (1, .int v1), (2, .int v2), (3, .int v3), (4, .int v4)] → f_Ref_type_44 k10 v1 v2 v3 v4 g5 g6 g7 = some r0 → W p l e rm_Ref_type s m args below meth c H locs 0 0 (MQ below (va_Qi (fun (r : Int32) (_ : Unit) => r = r0.1) (fun _ t => va_P D CLS (wR a q g0 g1 g2 g3 g4 r0.2.1 r0.2.2.1 r0.2.2.2 g8 g9 g10 g11 g12 g13 g14 g15 g16 g17 g18 g19) t.heap) A) args s 0 0 A) (F0 m 44 ls []) := by
  obtain ⟨hx, hb, hml, hown, hts, hr, hlocks⟩ := id hC
  intro v1 v2 v3 v4 g5 g6 g7 H locs ls hP hD hS hl h
  rw [f_Ref_type_44] at h
  refine lv_iload hx hb (dt_at dt_Ref_type 25 rfl) (lv_at hl 4 rfl) ?_
  refine lv_if_eq (tgt := 55) hx hb (dt_at dt_Ref_type 26 rfl) (by decide) (fun c1 => ?_) (fun c1 => ?_)
  · have h := if_p h c1
    refine lv_iload_n hx hb (dt_at dt_Ref_type 31 rfl) rfl (lv_at hl 2 rfl) ?_
    exact k_Ref_type_56 hC hA hK k10 hk10  v2 v1 v3 g5 g6 g7 H locs ls hP hD hS (lv_sub hl [0, 1, 3] rfl) h
  · have h := if_n h c1
    refine lv_iload_n hx hb (dt_at dt_Ref_type 27 rfl) rfl (lv_at hl 2 rfl) ?_
    refine lv_iconst (v := 1) hx hb (dt_at dt_Ref_type 28 rfl) (by decide) ?_
    refine lv_iadd hx hb (dt_at dt_Ref_type 29 rfl) ?_
    refine lv_goto (tgt := 56) hx hb (dt_at dt_Ref_type 30 rfl) (by decide) ?_
    exact k_Ref_type_56 hC hA hK k10 hk10  (v2 + (1 : Int32)) v1 v3 g5 g6 g7 H locs ls hP hD hS (lv_sub hl [0, 1, 3] rfl) h
set_option maxRecDepth 100000 in
set_option maxHeartbeats 4000000 in
theorem k_Ref_type_42 {p : Program} {l : Launch} {e : Env} {s : State} {m : MethodId} {args : Array Value} {below : List Frame} {meth : Method} {c : Code} {D : va_G} {a : Nat → Nat} {q : Nat → ClassId} {A : Nat → Prop} (hC : CX p s m args meth c prog_12_method_49_code 5 "OutwardTapeModel" (some .boolean)) (hA : ∀ x, s.heap.size ≤ x → A x) (hK : va_K D CLS (tR q) s) {g0 : Int32} {g1 : Nat → Int32} {g2 : Nat → Int64} {g3 : Nat → Int64} {g4 : Nat → Int32} {g8 : Nat → Int32} {g9 : Int32} {g10 : Int64} {g11 : Int64} {g12 : Int32} {g13 : Int32} {g14 : Int32} {g15 : Int64} {g16 : Int32} {g17 : Int32} {g18 : Int64} {g19 : Int32} {r0 : Int32 × Int32 × (Nat → Int32) × Int32} : ∀  (g5 : Int32) (g6 : Nat → Int32) (g7 : Int32) (H : Heap) (locs : List Loc) (ls : Array Slot), va_P D CLS (wR a q g0 g1 g2 g3 g4 g5 g6 g7 g8 g9 g10 g11 g12 g13 g14 g15 g16 g17 g18 g19) H → va_D A (wR a q g0 g1 g2 g3 g4 g5 g6 g7 g8 g9 g10 g11 g12 g13 g14 g15 g16 g17 g18 g19) → va_S A s.heap H locs → lv_has ls 5 [] → f_Ref_type_42  g5 g6 g7 = some r0 → W p l e rm_Ref_type s m args below meth c H locs 0 0 (MQ below (va_Qi (fun (r : Int32) (_ : Unit) => r = r0.1) (fun _ t => va_P D CLS (wR a q g0 g1 g2 g3 g4 r0.2.1 r0.2.2.1 r0.2.2.2 g8 g9 g10 g11 g12 g13 g14 g15 g16 g17 g18 g19) t.heap) A) args s 0 0 A) (F0 m 42 ls []) := by
  obtain ⟨hx, hb, hml, hown, hts, hr, hlocks⟩ := id hC
  intro g5 g6 g7 H locs ls hP hD hS hl h
  rw [f_Ref_type_42] at h
  refine lv_iconst (v := 0) hx hb (dt_at dt_Ref_type 23 rfl) (by decide) ?_
  obtain rfl := os_of h
  exact W.zret (v := (0 : Int32)) (ty := .boolean) hx hb hr (by decide) (fun t ht hW => ⟨⟨_, (), rfl, rfl, (hPt hP ht)⟩, hS.F ht⟩) hS.2.2 (dt_at dt_Ref_type 24 rfl)
set_option maxRecDepth 100000 in
set_option maxHeartbeats 4000000 in
theorem k_Ref_type_10 {p : Program} {l : Launch} {e : Env} {s : State} {m : MethodId} {args : Array Value} {below : List Frame} {meth : Method} {c : Code} {D : va_G} {a : Nat → Nat} {q : Nat → ClassId} {A : Nat → Prop} (hC : CX p s m args meth c prog_12_method_49_code 5 "OutwardTapeModel" (some .boolean)) (hA : ∀ x, s.heap.size ≤ x → A x) (hK : va_K D CLS (tR q) s) {g0 : Int32} {g1 : Nat → Int32} {g2 : Nat → Int64} {g3 : Nat → Int64} {g4 : Nat → Int32} {g8 : Nat → Int32} {g9 : Int32} {g10 : Int64} {g11 : Int64} {g12 : Int32} {g13 : Int32} {g14 : Int32} {g15 : Int64} {g16 : Int32} {g17 : Int32} {g18 : Int64} {g19 : Int32} {r0 : Int32 × Int32 × (Nat → Int32) × Int32} : ∀ n : Nat, ∀ (v1 : Int32) (v2 : Int32) (v3 : Int32) (g5 : Int32) (g6 : Nat → Int32) (g7 : Int32) (H : Heap) (locs : List Loc) (ls : Array Slot), va_P D CLS (wR a q g0 g1 g2 g3 g4 g5 g6 g7 g8 g9 g10 g11 g12 g13 g14 g15 g16 g17 g18 g19) H → va_D A (wR a q g0 g1 g2 g3 g4 g5 g6 g7 g8 g9 g10 g11 g12 g13 g14 g15 g16 g17 g18 g19) → va_S A s.heap H locs → lv_has ls 5 [(0, .ref (a 0)), (1, .int v1), (2, .int v2), (3, .int v3)] → f_Ref_type_10  n v1 v2 v3 g5 g6 g7 = some r0 → W p l e rm_Ref_type s m args below meth c H locs 0 0 (MQ below (va_Qi (fun (r : Int32) (_ : Unit) => r = r0.1) (fun _ t => va_P D CLS (wR a q g0 g1 g2 g3 g4 r0.2.1 r0.2.2.1 r0.2.2.2 g8 g9 g10 g11 g12 g13 g14 g15 g16 g17 g18 g19) t.heap) A) args s 0 0 A) (F0 m 10 ls []) := by
  obtain ⟨hx, hb, hml, hown, hts, hr, hlocks⟩ := id hC
  intro n
  induction n with
  | zero => intro v1 v2 v3 g5 g6 g7 H locs ls hP hD hS hl h; cases h
  | succ n ih =>
    intro v1 v2 v3 g5 g6 g7 H locs ls hP hD hS hl h
    rw [f_Ref_type_10] at h
    refine lv_iload_n hx hb (dt_at dt_Ref_type 7 rfl) rfl (lv_at hl 3 rfl) ?_
    refine lv_if_lt (tgt := 63) hx hb (dt_at dt_Ref_type 8 rfl) (by decide) (fun c1 => ?_) (fun c1 => ?_)
    · have h := if_p h c1
      refine lv_aload_n hx hb (dt_at dt_Ref_type 35 rfl) rfl (lv_at hl 0 rfl) ?_
      refine va_get (D := D) (ci := 0) (v := .int g7) (C := "OutwardTapeModel") (T := T_Ref) (N := 20) hx hb hts in_Ref hown hK hP 0 rfl rfl 7 (by decide) (hts (Cond.fieldLink "OutwardTapeModel" 218 "OutwardTapeModel" "size" "I") (m_4 6 rfl rfl)) (fun _ h9 => h9) rfl (dt_at dt_Ref_type 36 rfl) ?_
      refine lv_iload_n hx hb (dt_at dt_Ref_type 37 rfl) rfl (lv_at hl 2 rfl) ?_
      refine lv_iadd hx hb (dt_at dt_Ref_type 38 rfl) ?_
      refine lv_bipush (v := 60) hx hb (dt_at dt_Ref_type 39 rfl) (by decide) ?_
      refine lv_icmp_le (tgt := 76) hx hb (dt_at dt_Ref_type 40 rfl) (by decide) (fun c2 => ?_) (fun c2 => ?_)
      · have h := if_p h c2
        refine lv_bipush (v := 24) hx hb (dt_at dt_Ref_type 43 rfl) (by decide) ?_
        refine lv_istore_n (lv' := [(3, .int (24 : Int32)), (0, .ref (a 0)), (1, .int v1), (2, .int v2)]) hx hb (dt_at dt_Ref_type 44 rfl) rfl hl (by decide) rfl (fun ls hl => ?_)
        exact k_Ref_type_79 hC hA hK  5000 v1 (24 : Int32) g5 g6 g7 H locs ls hP hD hS (lv_sub hl [1, 2, 0] rfl) h
      · have h := if_n h c2
        refine lv_iconst (v := 0) hx hb (dt_at dt_Ref_type 41 rfl) (by decide) ?_
        obtain rfl := os_of h
        exact W.zret (v := (0 : Int32)) (ty := .boolean) hx hb hr (by decide) (fun t ht hW => ⟨⟨_, (), rfl, rfl, (hPt hP ht)⟩, hS.F ht⟩) hS.2.2 (dt_at dt_Ref_type 42 rfl)
    · have h := if_n h c1
      refine lv_iload_n hx hb (dt_at dt_Ref_type 9 rfl) rfl (lv_at hl 1 rfl) ?_
      refine lv_iload_n hx hb (dt_at dt_Ref_type 10 rfl) rfl (lv_at hl 3 rfl) ?_
      refine lv_ishr hx hb (dt_at dt_Ref_type 11 rfl) ?_
      refine lv_sipush (v := 255) hx hb (dt_at dt_Ref_type 12 rfl) (by decide) ?_
      refine lv_iand hx hb (dt_at dt_Ref_type 13 rfl) ?_
      obtain ⟨t3, e_t3, h⟩ := ol_of h
      refine lv_topi (fun u_t3 q_t3 => ?_)
      obtain rfl : t3 = u_t3 := e_t3.trans q_t3.symm
      refine lv_istore (lv' := [(4, .int t3), (0, .ref (a 0)), (1, .int v1), (2, .int v2), (3, .int v3)]) hx hb (dt_at dt_Ref_type 14 rfl) hl (by decide) rfl (fun ls hl => ?_)
      refine lv_iload hx hb (dt_at dt_Ref_type 15 rfl) (lv_at hl 0 rfl) ?_
      refine lv_if_eq (tgt := 44) hx hb (dt_at dt_Ref_type 16 rfl) (by decide) (fun c4 => ?_) (fun c4 => ?_)
      · have h := if_p h c4
        exact k_Ref_type_44 hC hA hK (f_Ref_type_10  n) ih  v1 v2 v3 t3 g5 g6 g7 H locs ls hP hD hS (lv_sub hl [1, 2, 3, 4, 0] rfl) h
      · have h := if_n h c4
        refine lv_iload hx hb (dt_at dt_Ref_type 17 rfl) (lv_at hl 0 rfl) ?_
        refine lv_bipush (v := 32) hx hb (dt_at dt_Ref_type 18 rfl) (by decide) ?_
        refine lv_icmp_lt (tgt := 42) hx hb (dt_at dt_Ref_type 19 rfl) (by decide) (fun c5 => ?_) (fun c5 => ?_)
        · have h := if_p h c5
          exact k_Ref_type_42 hC hA hK   g5 g6 g7 H locs ls hP hD hS (lv_sub hl [] rfl) h
        · have h := if_n h c5
          refine lv_iload hx hb (dt_at dt_Ref_type 20 rfl) (lv_at hl 0 rfl) ?_
          refine lv_bipush (v := 126) hx hb (dt_at dt_Ref_type 21 rfl) (by decide) ?_
          refine lv_icmp_le (tgt := 44) hx hb (dt_at dt_Ref_type 22 rfl) (by decide) (fun c6 => ?_) (fun c6 => ?_)
          · have h := if_p h c6
            exact k_Ref_type_44 hC hA hK (f_Ref_type_10  n) ih  v1 v2 v3 t3 g5 g6 g7 H locs ls hP hD hS (lv_sub hl [1, 2, 3, 4, 0] rfl) h
          · have h := if_n h c6
            exact k_Ref_type_42 hC hA hK   g5 g6 g7 H locs ls hP hD hS (lv_sub hl [] rfl) h
set_option maxRecDepth 100000 in
set_option maxHeartbeats 4000000 in
theorem k_Ref_type_0 {p : Program} {l : Launch} {e : Env} {s : State} {m : MethodId} {args : Array Value} {below : List Frame} {meth : Method} {c : Code} {D : va_G} {a : Nat → Nat} {q : Nat → ClassId} {A : Nat → Prop} (hC : CX p s m args meth c prog_12_method_49_code 5 "OutwardTapeModel" (some .boolean)) (hA : ∀ x, s.heap.size ≤ x → A x) (hK : va_K D CLS (tR q) s) {g0 : Int32} {g1 : Nat → Int32} {g2 : Nat → Int64} {g3 : Nat → Int64} {g4 : Nat → Int32} {g8 : Nat → Int32} {g9 : Int32} {g10 : Int64} {g11 : Int64} {g12 : Int32} {g13 : Int32} {g14 : Int32} {g15 : Int64} {g16 : Int32} {g17 : Int32} {g18 : Int64} {g19 : Int32} {r0 : Int32 × Int32 × (Nat → Int32) × Int32} : ∀ (v1 : Int32) (g5 : Int32) (g6 : Nat → Int32) (g7 : Int32) (H : Heap) (locs : List Loc) (ls : Array Slot), va_P D CLS (wR a q g0 g1 g2 g3 g4 g5 g6 g7 g8 g9 g10 g11 g12 g13 g14 g15 g16 g17 g18 g19) H → va_D A (wR a q g0 g1 g2 g3 g4 g5 g6 g7 g8 g9 g10 g11 g12 g13 g14 g15 g16 g17 g18 g19) → va_S A s.heap H locs → lv_has ls 5 [(0, .ref (a 0)), (1, .int v1)] → f_Ref_type_0  v1 g5 g6 g7 = some r0 → W p l e rm_Ref_type s m args below meth c H locs 0 0 (MQ below (va_Qi (fun (r : Int32) (_ : Unit) => r = r0.1) (fun _ t => va_P D CLS (wR a q g0 g1 g2 g3 g4 r0.2.1 r0.2.2.1 r0.2.2.2 g8 g9 g10 g11 g12 g13 g14 g15 g16 g17 g18 g19) t.heap) A) args s 0 0 A) (F0 m 0 ls []) := by
  obtain ⟨hx, hb, hml, hown, hts, hr, hlocks⟩ := id hC
  intro v1 g5 g6 g7 H locs ls hP hD hS hl h
  rw [f_Ref_type_0] at h
  refine lv_aload_n hx hb (dt_at dt_Ref_type 0 rfl) rfl (lv_at hl 0 rfl) ?_
  refine lv_iconst (v := 0) hx hb (dt_at dt_Ref_type 1 rfl) (by decide) ?_
  refine va_put (D := D) (ci := 0) (v := .int (0 : Int32)) (ty := .int) (C := "OutwardTapeModel") (T := T_Ref) (N := 20) hx hb hts in_Ref ty_Ref tk_Ref nm_Ref hown hK hP hD hS 0 rfl rfl 5 (by decide) (hts (Cond.fieldLink "OutwardTapeModel" 29 "OutwardTapeModel" "code" "I") (m_4 4 rfl rfl)) (fun _ h9 => h9) rfl (by decide +kernel) rfl rfl (Nat.le_of_ble_eq_true rfl) (dt_at dt_Ref_type 2 rfl) (fun H locs hP hD hS => ?_)
  have hP : va_P D CLS (wR a q g0 g1 g2 g3 g4 (0 : Int32) g6 g7 g8 g9 g10 g11 g12 g13 g14 g15 g16 g17 g18 g19) H := hP
  have hD : va_D A (wR a q g0 g1 g2 g3 g4 (0 : Int32) g6 g7 g8 g9 g10 g11 g12 g13 g14 g15 g16 g17 g18 g19) := hD
  refine lv_iconst (v := 0) hx hb (dt_at dt_Ref_type 3 rfl) (by decide) ?_
  refine lv_istore_n (lv' := [(2, .int (0 : Int32)), (0, .ref (a 0)), (1, .int v1)]) hx hb (dt_at dt_Ref_type 4 rfl) rfl hl (by decide) rfl (fun ls hl => ?_)
  refine lv_bipush (v := 24) hx hb (dt_at dt_Ref_type 5 rfl) (by decide) ?_
  refine lv_istore_n (lv' := [(3, .int (24 : Int32)), (2, .int (0 : Int32)), (0, .ref (a 0)), (1, .int v1)]) hx hb (dt_at dt_Ref_type 6 rfl) rfl hl (by decide) rfl (fun ls hl => ?_)
  exact k_Ref_type_10 hC hA hK  5000 v1 (0 : Int32) (24 : Int32) (0 : Int32) g6 g7 H locs ls hP hD hS (lv_sub hl [2, 3, 1, 0] rfl) h
set_option maxRecDepth 100000 in
set_option maxHeartbeats 4000000 in
theorem c_Ref_type (l : Launch) (D : va_G) (a : Nat → Nat) (q : Nat → ClassId) (hd : va_D (fun _ => True) (dR a)) (sz : Nat) (a1 : Int32) (g0 : Int32) (g1 : Nat → Int32) (g2 : Nat → Int64) (g3 : Nat → Int64) (g4 : Nat → Int32) (g5 : Int32) (g6 : Nat → Int32) (g7 : Int32) (g8 : Nat → Int32) (g9 : Int32) (g10 : Int64) (g11 : Int64) (g12 : Int32) (g13 : Int32) (g14 : Int32) (g15 : Int64) (g16 : Int32) (g17 : Int32) (g18 : Int64) (g19 : Int32) (r0 : Int32 × Int32 × (Nat → Int32) × Int32) (h : f_Ref_type a1 g5 g6 g7 = some r0) : Met l (⟨"OutwardTapeModel", "type", "(I)Z"⟩ : MethodName) (WSm (⟨"OutwardTapeModel", "type", "(I)Z"⟩ : MethodName) prog_12_method_49_code 5 (some .boolean)) rm_Ref_type (va_Pc [.ref (a 0), .int a1] (fun U => U.heap.size = sz ∧ va_P D CLS (wR a q g0 g1 g2 g3 g4 g5 g6 g7 g8 g9 g10 g11 g12 g13 g14 g15 g16 g17 g18 g19) U.heap ∧ va_K D CLS (tR q) U)) (va_Qi (fun (r : Int32) (_ : Unit) => r = r0.1) (fun _ t => va_P D CLS (wR a q g0 g1 g2 g3 g4 r0.2.1 r0.2.2.1 r0.2.2.2 g8 g9 g10 g11 g12 g13 g14 g15 g16 g17 g18 g19) t.heap) (va_A (dR a) sz)) 0 0 (va_A (dR a) sz) := by
  refine Met.ofW (cc := prog_12_method_49_code) (maxL := 5) (ret := (some .boolean)) (by decide) rfl ?_
  intro p e s m args below meth c s₁ B hml hv
  obtain ⟨rfl, hsz, hP, hK⟩ := hv
  subst hsz
  have hC := CX.of B hml rfl
  have hl := lv_entry [.ref (a 0), .int a1] (n := 5) (Nat.le_of_ble_eq_true rfl)
  rw [lg_entry_eq]
  generalize (lg_sl [.ref (a 0), .int a1] ++ List.replicate (5 - (lg_sl [.ref (a 0), .int a1]).length) Slot.unset).toArray = ls at hl ⊢
  have hl : lv_has ls 5 [(0, .ref (a 0)), (1, .int a1)] := hl
  exact k_Ref_type_0 hC (fun x h => Or.inr h) hK a1 g5 g6 g7 s.heap [] ls hP (dD hd.self rfl) va_S.rf (lv_sub hl [0, 1] rfl) h
abbrev rm_Ref_wipe : Room := { frames := 0, cells := 0, slots := 0, locals := 0 }
set_option maxRecDepth 100000 in
set_option maxHeartbeats 4000000 in
theorem k_Ref_wipe_0 {p : Program} {l : Launch} {e : Env} {s : State} {m : MethodId} {args : Array Value} {below : List Frame} {meth : Method} {c : Code} {D : va_G} {a : Nat → Nat} {q : Nat → ClassId} {A : Nat → Prop} (hC : CX p s m args meth c prog_12_method_50_code 1 "OutwardTapeModel" none) (hA : ∀ x, s.heap.size ≤ x → A x) (hK : va_K D CLS (tR q) s) {g0 : Int32} {g1 : Nat → Int32} {g2 : Nat → Int64} {g3 : Nat → Int64} {g4 : Nat → Int32} {g6 : Nat → Int32} {g8 : Nat → Int32} {g9 : Int32} {g10 : Int64} {g11 : Int64} {g12 : Int32} {g13 : Int32} {g14 : Int32} {g15 : Int64} {g16 : Int32} {g17 : Int32} {g18 : Int64} {g19 : Int32} {r0 : Int32 × Int32} : ∀  (g5 : Int32) (g7 : Int32) (H : Heap) (locs : List Loc) (ls : Array Slot), va_P D CLS (wR a q g0 g1 g2 g3 g4 g5 g6 g7 g8 g9 g10 g11 g12 g13 g14 g15 g16 g17 g18 g19) H → va_D A (wR a q g0 g1 g2 g3 g4 g5 g6 g7 g8 g9 g10 g11 g12 g13 g14 g15 g16 g17 g18 g19) → va_S A s.heap H locs → lv_has ls 1 [(0, .ref (a 0))] → f_Ref_wipe_0  g5 g7 = some r0 → W p l e rm_Ref_wipe s m args below meth c H locs 0 0 (MQ below (va_Qv (fun _ : Unit => True) (fun _ t => va_P D CLS (wR a q g0 g1 g2 g3 g4 r0.1 g6 r0.2 g8 g9 g10 g11 g12 g13 g14 g15 g16 g17 g18 g19) t.heap) A) args s 0 0 A) (F0 m 0 ls []) := by
  obtain ⟨hx, hb, hml, hown, hts, hr, hlocks⟩ := id hC
  intro g5 g7 H locs ls hP hD hS hl h
  rw [f_Ref_wipe_0] at h
  refine lv_aload_n hx hb (dt_at dt_Ref_wipe 0 rfl) rfl (lv_at hl 0 rfl) ?_
  refine lv_iconst (v := 0) hx hb (dt_at dt_Ref_wipe 1 rfl) (by decide) ?_
  refine va_put (D := D) (ci := 0) (v := .int (0 : Int32)) (ty := .int) (C := "OutwardTapeModel") (T := T_Ref) (N := 20) hx hb hts in_Ref ty_Ref tk_Ref nm_Ref hown hK hP hD hS 0 rfl rfl 5 (by decide) (hts (Cond.fieldLink "OutwardTapeModel" 29 "OutwardTapeModel" "code" "I") (m_4 4 rfl rfl)) (fun _ h9 => h9) rfl (by decide +kernel) rfl rfl (Nat.le_of_ble_eq_true rfl) (dt_at dt_Ref_wipe 2 rfl) (fun H locs hP hD hS => ?_)
  have hP : va_P D CLS (wR a q g0 g1 g2 g3 g4 (0 : Int32) g6 g7 g8 g9 g10 g11 g12 g13 g14 g15 g16 g17 g18 g19) H := hP
  have hD : va_D A (wR a q g0 g1 g2 g3 g4 (0 : Int32) g6 g7 g8 g9 g10 g11 g12 g13 g14 g15 g16 g17 g18 g19) := hD
  refine lv_aload_n hx hb (dt_at dt_Ref_wipe 3 rfl) rfl (lv_at hl 0 rfl) ?_
  refine lv_iconst (v := 0) hx hb (dt_at dt_Ref_wipe 4 rfl) (by decide) ?_
  refine va_put (D := D) (ci := 0) (v := .int (0 : Int32)) (ty := .int) (C := "OutwardTapeModel") (T := T_Ref) (N := 20) hx hb hts in_Ref ty_Ref tk_Ref nm_Ref hown hK hP hD hS 0 rfl rfl 7 (by decide) (hts (Cond.fieldLink "OutwardTapeModel" 218 "OutwardTapeModel" "size" "I") (m_4 6 rfl rfl)) (fun _ h9 => h9) rfl (by decide +kernel) rfl rfl (Nat.le_of_ble_eq_true rfl) (dt_at dt_Ref_wipe 5 rfl) (fun H locs hP hD hS => ?_)
  have hP : va_P D CLS (wR a q g0 g1 g2 g3 g4 (0 : Int32) g6 (0 : Int32) g8 g9 g10 g11 g12 g13 g14 g15 g16 g17 g18 g19) H := hP
  have hD : va_D A (wR a q g0 g1 g2 g3 g4 (0 : Int32) g6 (0 : Int32) g8 g9 g10 g11 g12 g13 g14 g15 g16 g17 g18 g19) := hD
  obtain rfl := os_of h
  exact W.vret hx hb hr (fun t ht hW => ⟨⟨(), rfl, trivial, (hPt hP ht)⟩, hS.F ht⟩) hS.2.2 (dt_at dt_Ref_wipe 6 rfl)
set_option maxRecDepth 100000 in
set_option maxHeartbeats 4000000 in
theorem c_Ref_wipe (l : Launch) (D : va_G) (a : Nat → Nat) (q : Nat → ClassId) (hd : va_D (fun _ => True) (dR a)) (sz : Nat)  (g0 : Int32) (g1 : Nat → Int32) (g2 : Nat → Int64) (g3 : Nat → Int64) (g4 : Nat → Int32) (g5 : Int32) (g6 : Nat → Int32) (g7 : Int32) (g8 : Nat → Int32) (g9 : Int32) (g10 : Int64) (g11 : Int64) (g12 : Int32) (g13 : Int32) (g14 : Int32) (g15 : Int64) (g16 : Int32) (g17 : Int32) (g18 : Int64) (g19 : Int32) (r0 : Int32 × Int32) (h : f_Ref_wipe g5 g7 = some r0) : Met l (⟨"OutwardTapeModel", "wipe", "()V"⟩ : MethodName) (WSm (⟨"OutwardTapeModel", "wipe", "()V"⟩ : MethodName) prog_12_method_50_code 1 none) rm_Ref_wipe (va_Pc [.ref (a 0)] (fun U => U.heap.size = sz ∧ va_P D CLS (wR a q g0 g1 g2 g3 g4 g5 g6 g7 g8 g9 g10 g11 g12 g13 g14 g15 g16 g17 g18 g19) U.heap ∧ va_K D CLS (tR q) U)) (va_Qv (fun _ : Unit => True) (fun _ t => va_P D CLS (wR a q g0 g1 g2 g3 g4 r0.1 g6 r0.2 g8 g9 g10 g11 g12 g13 g14 g15 g16 g17 g18 g19) t.heap) (va_A (dR a) sz)) 0 0 (va_A (dR a) sz) := by
  refine Met.ofW (cc := prog_12_method_50_code) (maxL := 1) (ret := none) (by decide) rfl ?_
  intro p e s m args below meth c s₁ B hml hv
  obtain ⟨rfl, hsz, hP, hK⟩ := hv
  subst hsz
  have hC := CX.of B hml rfl
  have hl := lv_entry [.ref (a 0)] (n := 1) (Nat.le_of_ble_eq_true rfl)
  rw [lg_entry_eq]
  generalize (lg_sl [.ref (a 0)] ++ List.replicate (1 - (lg_sl [.ref (a 0)]).length) Slot.unset).toArray = ls at hl ⊢
  have hl : lv_has ls 1 [(0, .ref (a 0))] := hl
  exact k_Ref_wipe_0 hC (fun x h => Or.inr h) hK  g5 g7 s.heap [] ls hP (dD hd.self rfl) va_S.rf (lv_sub hl [0] rfl) h
abbrev rm_Ref_length : Room := { frames := 0, cells := 0, slots := 0, locals := 0 }
set_option maxRecDepth 100000 in
set_option maxHeartbeats 4000000 in
theorem k_Ref_length_0 {p : Program} {l : Launch} {e : Env} {s : State} {m : MethodId} {args : Array Value} {below : List Frame} {meth : Method} {c : Code} {D : va_G} {a : Nat → Nat} {q : Nat → ClassId} {A : Nat → Prop} (hC : CX p s m args meth c prog_12_method_51_code 1 "OutwardTapeModel" (some .int)) (hA : ∀ x, s.heap.size ≤ x → A x) (hK : va_K D CLS (tR q) s) {g0 : Int32} {g1 : Nat → Int32} {g2 : Nat → Int64} {g3 : Nat → Int64} {g4 : Nat → Int32} {g6 : Nat → Int32} {g7 : Int32} {g8 : Nat → Int32} {g9 : Int32} {g10 : Int64} {g11 : Int64} {g12 : Int32} {g13 : Int32} {g14 : Int32} {g15 : Int64} {g16 : Int32} {g17 : Int32} {g18 : Int64} {g19 : Int32} {r0 : Int32 × Int32} : ∀  (g5 : Int32) (H : Heap) (locs : List Loc) (ls : Array Slot), va_P D CLS (wR a q g0 g1 g2 g3 g4 g5 g6 g7 g8 g9 g10 g11 g12 g13 g14 g15 g16 g17 g18 g19) H → va_D A (wR a q g0 g1 g2 g3 g4 g5 g6 g7 g8 g9 g10 g11 g12 g13 g14 g15 g16 g17 g18 g19) → va_S A s.heap H locs → lv_has ls 1 [(0, .ref (a 0))] → f_Ref_length_0  g5 g7 = some r0 → W p l e rm_Ref_length s m args below meth c H locs 0 0 (MQ below (va_Qi (fun (r : Int32) (_ : Unit) => r = r0.1) (fun _ t => va_P D CLS (wR a q g0 g1 g2 g3 g4 r0.2 g6 g7 g8 g9 g10 g11 g12 g13 g14 g15 g16 g17 g18 g19) t.heap) A) args s 0 0 A) (F0 m 0 ls []) := by
  obtain ⟨hx, hb, hml, hown, hts, hr, hlocks⟩ := id hC
  intro g5 H locs ls hP hD hS hl h
  rw [f_Ref_length_0] at h
  refine lv_aload_n hx hb (dt_at dt_Ref_length 0 rfl) rfl (lv_at hl 0 rfl) ?_
  refine lv_iconst (v := 0) hx hb (dt_at dt_Ref_length 1 rfl) (by decide) ?_
  refine va_put (D := D) (ci := 0) (v := .int (0 : Int32)) (ty := .int) (C := "OutwardTapeModel") (T := T_Ref) (N := 20) hx hb hts in_Ref ty_Ref tk_Ref nm_Ref hown hK hP hD hS 0 rfl rfl 5 (by decide) (hts (Cond.fieldLink "OutwardTapeModel" 29 "OutwardTapeModel" "code" "I") (m_4 4 rfl rfl)) (fun _ h9 => h9) rfl (by decide +kernel) rfl rfl (Nat.le_of_ble_eq_true rfl) (dt_at dt_Ref_length 2 rfl) (fun H locs hP hD hS => ?_)
  have hP : va_P D CLS (wR a q g0 g1 g2 g3 g4 (0 : Int32) g6 g7 g8 g9 g10 g11 g12 g13 g14 g15 g16 g17 g18 g19) H := hP
  have hD : va_D A (wR a q g0 g1 g2 g3 g4 (0 : Int32) g6 g7 g8 g9 g10 g11 g12 g13 g14 g15 g16 g17 g18 g19) := hD
  refine lv_aload_n hx hb (dt_at dt_Ref_length 3 rfl) rfl (lv_at hl 0 rfl) ?_
  refine va_get (D := D) (ci := 0) (v := .int g7) (C := "OutwardTapeModel") (T := T_Ref) (N := 20) hx hb hts in_Ref hown hK hP 0 rfl rfl 7 (by decide) (hts (Cond.fieldLink "OutwardTapeModel" 218 "OutwardTapeModel" "size" "I") (m_4 6 rfl rfl)) (fun _ h9 => h9) rfl (dt_at dt_Ref_length 4 rfl) ?_
  obtain rfl := os_of h
  exact W.iret (v := g7) hx hb hr (fun t ht hW => ⟨⟨_, (), rfl, rfl, (hPt hP ht)⟩, hS.F ht⟩) hS.2.2 (dt_at dt_Ref_length 5 rfl)
set_option maxRecDepth 100000 in
set_option maxHeartbeats 4000000 in
theorem c_Ref_length (l : Launch) (D : va_G) (a : Nat → Nat) (q : Nat → ClassId) (hd : va_D (fun _ => True) (dR a)) (sz : Nat)  (g0 : Int32) (g1 : Nat → Int32) (g2 : Nat → Int64) (g3 : Nat → Int64) (g4 : Nat → Int32) (g5 : Int32) (g6 : Nat → Int32) (g7 : Int32) (g8 : Nat → Int32) (g9 : Int32) (g10 : Int64) (g11 : Int64) (g12 : Int32) (g13 : Int32) (g14 : Int32) (g15 : Int64) (g16 : Int32) (g17 : Int32) (g18 : Int64) (g19 : Int32) (r0 : Int32 × Int32) (h : f_Ref_length g5 g7 = some r0) : Met l (⟨"OutwardTapeModel", "length", "()I"⟩ : MethodName) (WSm (⟨"OutwardTapeModel", "length", "()I"⟩ : MethodName) prog_12_method_51_code 1 (some .int)) rm_Ref_length (va_Pc [.ref (a 0)] (fun U => U.heap.size = sz ∧ va_P D CLS (wR a q g0 g1 g2 g3 g4 g5 g6 g7 g8 g9 g10 g11 g12 g13 g14 g15 g16 g17 g18 g19) U.heap ∧ va_K D CLS (tR q) U)) (va_Qi (fun (r : Int32) (_ : Unit) => r = r0.1) (fun _ t => va_P D CLS (wR a q g0 g1 g2 g3 g4 r0.2 g6 g7 g8 g9 g10 g11 g12 g13 g14 g15 g16 g17 g18 g19) t.heap) (va_A (dR a) sz)) 0 0 (va_A (dR a) sz) := by
  refine Met.ofW (cc := prog_12_method_51_code) (maxL := 1) (ret := (some .int)) (by decide) rfl ?_
  intro p e s m args below meth c s₁ B hml hv
  obtain ⟨rfl, hsz, hP, hK⟩ := hv
  subst hsz
  have hC := CX.of B hml rfl
  have hl := lv_entry [.ref (a 0)] (n := 1) (Nat.le_of_ble_eq_true rfl)
  rw [lg_entry_eq]
  generalize (lg_sl [.ref (a 0)] ++ List.replicate (1 - (lg_sl [.ref (a 0)]).length) Slot.unset).toArray = ls at hl ⊢
  have hl : lv_has ls 1 [(0, .ref (a 0))] := hl
  exact k_Ref_length_0 hC (fun x h => Or.inr h) hK  g5 s.heap [] ls hP (dD hd.self rfl) va_S.rf (lv_sub hl [0] rfl) h
abbrev rm_Ref_seen : Room := { frames := 0, cells := 0, slots := 0, locals := 0 }
set_option maxRecDepth 100000 in
set_option maxHeartbeats 4000000 in
theorem k_Ref_seen_39 {p : Program} {l : Launch} {e : Env} {s : State} {m : MethodId} {args : Array Value} {below : List Frame} {meth : Method} {c : Code} {D : va_G} {a : Nat → Nat} {q : Nat → ClassId} {A : Nat → Prop} (hC : CX p s m args meth c prog_12_method_52_code 3 "OutwardTapeModel" (some .int)) (hA : ∀ x, s.heap.size ≤ x → A x) (hK : va_K D CLS (tR q) s) {g0 : Int32} {g1 : Nat → Int32} {g2 : Nat → Int64} {g3 : Nat → Int64} {g4 : Nat → Int32} {g5 : Int32} {g6 : Nat → Int32} {g7 : Int32} {g8 : Nat → Int32} {g9 : Int32} {g10 : Int64} {g11 : Int64} {g12 : Int32} {g13 : Int32} {g14 : Int32} {g15 : Int64} {g16 : Int32} {g17 : Int32} {g18 : Int64} {g19 : Int32} {r0 : Int32} : ∀ (s0 : Int32)  (H : Heap) (locs : List Loc) (ls : Array Slot), va_P D CLS (wR a q g0 g1 g2 g3 g4 g5 g6 g7 g8 g9 g10 g11 g12 g13 g14 g15 g16 g17 g18 g19) H → va_D A (wR a q g0 g1 g2 g3 g4 g5 g6 g7 g8 g9 g10 g11 g12 g13 g14 g15 g16 g17 g18 g19) → va_S A s.heap H locs → lv_has ls 3 [] → f_Ref_seen_39  s0 g6 g7 = some r0 → W p l e rm_Ref_seen s m args below meth c H locs 0 0 (MQ below (va_Qi (fun (r : Int32) (_ : Unit) => r = r0) (fun _ t => va_P D CLS (wR a q g0 g1 g2 g3 g4 g5 g6 g7 g8 g9 g10 g11 g12 g13 g14 g15 g16 g17 g18 g19) t.heap) A) args s 0 0 A) (F0 m 39 ls [.int s0]) := by
  obtain ⟨hx, hb, hml, hown, hts, hr, hlocks⟩ := id hC
  intro s0 H locs ls hP hD hS hl h
  rw [f_Ref_seen_39] at h
  obtain rfl := os_of h
  exact W.iret (v := s0) hx hb hr (fun t ht hW => ⟨⟨_, (), rfl, rfl, (hPt hP ht)⟩, hS.F ht⟩) hS.2.2 (dt_at dt_Ref_seen 22 rfl)
set_option maxRecDepth 100000 in
set_option maxHeartbeats 4000000 in
theorem k_Ref_seen_38 {p : Program} {l : Launch} {e : Env} {s : State} {m : MethodId} {args : Array Value} {below : List Frame} {meth : Method} {c : Code} {D : va_G} {a : Nat → Nat} {q : Nat → ClassId} {A : Nat → Prop} (hC : CX p s m args meth c prog_12_method_52_code 3 "OutwardTapeModel" (some .int)) (hA : ∀ x, s.heap.size ≤ x → A x) (hK : va_K D CLS (tR q) s) {g0 : Int32} {g1 : Nat → Int32} {g2 : Nat → Int64} {g3 : Nat → Int64} {g4 : Nat → Int32} {g5 : Int32} {g6 : Nat → Int32} {g7 : Int32} {g8 : Nat → Int32} {g9 : Int32} {g10 : Int64} {g11 : Int64} {g12 : Int32} {g13 : Int32} {g14 : Int32} {g15 : Int64} {g16 : Int32} {g17 : Int32} {g18 : Int64} {g19 : Int32} {r0 : Int32} : ∀ (v2 : Int32)  (H : Heap) (locs : List Loc) (ls : Array Slot), va_P D CLS (wR a q g0 g1 g2 g3 g4 g5 g6 g7 g8 g9 g10 g11 g12 g13 g14 g15 g16 g17 g18 g19) H → va_D A (wR a q g0 g1 g2 g3 g4 g5 g6 g7 g8 g9 g10 g11 g12 g13 g14 g15 g16 g17 g18 g19) → va_S A s.heap H locs → lv_has ls 3 [(2, .int v2)] → f_Ref_seen_38  v2 g6 g7 = some r0 → W p l e rm_Ref_seen s m args below meth c H locs 0 0 (MQ below (va_Qi (fun (r : Int32) (_ : Unit) => r = r0) (fun _ t => va_P D CLS (wR a q g0 g1 g2 g3 g4 g5 g6 g7 g8 g9 g10 g11 g12 g13 g14 g15 g16 g17 g18 g19) t.heap) A) args s 0 0 A) (F0 m 38 ls []) := by
  obtain ⟨hx, hb, hml, hown, hts, hr, hlocks⟩ := id hC
  intro v2 H locs ls hP hD hS hl h
  rw [f_Ref_seen_38] at h
  refine lv_iload_n hx hb (dt_at dt_Ref_seen 21 rfl) rfl (lv_at hl 0 rfl) ?_
  exact k_Ref_seen_39 hC hA hK   v2 H locs ls hP hD hS (lv_sub hl [] rfl) h
set_option maxRecDepth 100000 in
set_option maxHeartbeats 4000000 in
theorem k_Ref_seen_18 {p : Program} {l : Launch} {e : Env} {s : State} {m : MethodId} {args : Array Value} {below : List Frame} {meth : Method} {c : Code} {D : va_G} {a : Nat → Nat} {q : Nat → ClassId} {A : Nat → Prop} (hC : CX p s m args meth c prog_12_method_52_code 3 "OutwardTapeModel" (some .int)) (hA : ∀ x, s.heap.size ≤ x → A x) (hK : va_K D CLS (tR q) s) {g0 : Int32} {g1 : Nat → Int32} {g2 : Nat → Int64} {g3 : Nat → Int64} {g4 : Nat → Int32} {g5 : Int32} {g6 : Nat → Int32} {g7 : Int32} {g8 : Nat → Int32} {g9 : Int32} {g10 : Int64} {g11 : Int64} {g12 : Int32} {g13 : Int32} {g14 : Int32} {g15 : Int64} {g16 : Int32} {g17 : Int32} {g18 : Int64} {g19 : Int32} {r0 : Int32} : ∀ (s0 : Int32)  (H : Heap) (locs : List Loc) (ls : Array Slot), va_P D CLS (wR a q g0 g1 g2 g3 g4 g5 g6 g7 g8 g9 g10 g11 g12 g13 g14 g15 g16 g17 g18 g19) H → va_D A (wR a q g0 g1 g2 g3 g4 g5 g6 g7 g8 g9 g10 g11 g12 g13 g14 g15 g16 g17 g18 g19) → va_S A s.heap H locs → lv_has ls 3 [] → f_Ref_seen_18  s0 g6 g7 = some r0 → W p l e rm_Ref_seen s m args below meth c H locs 0 0 (MQ below (va_Qi (fun (r : Int32) (_ : Unit) => r = r0) (fun _ t => va_P D CLS (wR a q g0 g1 g2 g3 g4 g5 g6 g7 g8 g9 g10 g11 g12 g13 g14 g15 g16 g17 g18 g19) t.heap) A) args s 0 0 A) (F0 m 18 ls [.int s0]) := by
  obtain ⟨hx, hb, hml, hown, hts, hr, hlocks⟩ := id hC
  intro s0 H locs ls hP hD hS hl h
  rw [f_Ref_seen_18] at h
  refine lv_istore_n (lv' := [(2, .int s0)]) hx hb (dt_at dt_Ref_seen 10 rfl) rfl hl (by decide) rfl (fun ls hl => ?_)
  refine lv_iload_n hx hb (dt_at dt_Ref_seen 11 rfl) rfl (lv_at hl 0 rfl) ?_
  refine lv_bipush (v := 65) hx hb (dt_at dt_Ref_seen 12 rfl) (by decide) ?_
  refine lv_icmp_lt (tgt := 38) hx hb (dt_at dt_Ref_seen 13 rfl) (by decide) (fun c1 => ?_) (fun c1 => ?_)
  · have h := if_p h c1
    exact k_Ref_seen_38 hC hA hK   s0 H locs ls hP hD hS (lv_sub hl [0] rfl) h
  · have h := if_n h c1
    refine lv_iload_n hx hb (dt_at dt_Ref_seen 14 rfl) rfl (lv_at hl 0 rfl) ?_
    refine lv_bipush (v := 90) hx hb (dt_at dt_Ref_seen 15 rfl) (by decide) ?_
    refine lv_icmp_gt (tgt := 38) hx hb (dt_at dt_Ref_seen 16 rfl) (by decide) (fun c2 => ?_) (fun c2 => ?_)
    · have h := if_p h c2
      exact k_Ref_seen_38 hC hA hK   s0 H locs ls hP hD hS (lv_sub hl [0] rfl) h
    · have h := if_n h c2
      refine lv_iload_n hx hb (dt_at dt_Ref_seen 17 rfl) rfl (lv_at hl 0 rfl) ?_
      refine lv_bipush (v := 32) hx hb (dt_at dt_Ref_seen 18 rfl) (by decide) ?_
      refine lv_iadd hx hb (dt_at dt_Ref_seen 19 rfl) ?_
      refine lv_goto (tgt := 39) hx hb (dt_at dt_Ref_seen 20 rfl) (by decide) ?_
      exact k_Ref_seen_39 hC hA hK   (s0 + (32 : Int32)) H locs ls hP hD hS (lv_sub hl [] rfl) h
set_option maxRecDepth 100000 in
set_option maxHeartbeats 4000000 in
theorem k_Ref_seen_0 {p : Program} {l : Launch} {e : Env} {s : State} {m : MethodId} {args : Array Value} {below : List Frame} {meth : Method} {c : Code} {D : va_G} {a : Nat → Nat} {q : Nat → ClassId} {A : Nat → Prop} (hC : CX p s m args meth c prog_12_method_52_code 3 "OutwardTapeModel" (some .int)) (hA : ∀ x, s.heap.size ≤ x → A x) (hK : va_K D CLS (tR q) s) {g0 : Int32} {g1 : Nat → Int32} {g2 : Nat → Int64} {g3 : Nat → Int64} {g4 : Nat → Int32} {g5 : Int32} {g6 : Nat → Int32} {g7 : Int32} {g8 : Nat → Int32} {g9 : Int32} {g10 : Int64} {g11 : Int64} {g12 : Int32} {g13 : Int32} {g14 : Int32} {g15 : Int64} {g16 : Int32} {g17 : Int32} {g18 : Int64} {g19 : Int32} {r0 : Int32} : ∀ (v1 : Int32)  (H : Heap) (locs : List Loc) (ls : Array Slot), va_P D CLS (wR a q g0 g1 g2 g3 g4 g5 g6 g7 g8 g9 g10 g11 g12 g13 g14 g15 g16 g17 g18 g19) H → va_D A (wR a q g0 g1 g2 g3 g4 g5 g6 g7 g8 g9 g10 g11 g12 g13 g14 g15 g16 g17 g18 g19) → va_S A s.heap H locs → lv_has ls 3 [(0, .ref (a 0)), (1, .int v1)] → f_Ref_seen_0  v1 g6 g7 = some r0 → W p l e rm_Ref_seen s m args below meth c H locs 0 0 (MQ below (va_Qi (fun (r : Int32) (_ : Unit) => r = r0) (fun _ t => va_P D CLS (wR a q g0 g1 g2 g3 g4 g5 g6 g7 g8 g9 g10 g11 g12 g13 g14 g15 g16 g17 g18 g19) t.heap) A) args s 0 0 A) (F0 m 0 ls []) := by
  obtain ⟨hx, hb, hml, hown, hts, hr, hlocks⟩ := id hC
  intro v1 H locs ls hP hD hS hl h
  rw [f_Ref_seen_0] at h
  refine lv_iload_n hx hb (dt_at dt_Ref_seen 0 rfl) rfl (lv_at hl 1 rfl) ?_
  refine lv_aload_n hx hb (dt_at dt_Ref_seen 1 rfl) rfl (lv_at hl 0 rfl) ?_
  refine va_get (D := D) (ci := 0) (v := .int g7) (C := "OutwardTapeModel") (T := T_Ref) (N := 20) hx hb hts in_Ref hown hK hP 0 rfl rfl 7 (by decide) (hts (Cond.fieldLink "OutwardTapeModel" 218 "OutwardTapeModel" "size" "I") (m_4 6 rfl rfl)) (fun _ h9 => h9) rfl (dt_at dt_Ref_seen 2 rfl) ?_
  refine lv_icmp_ge (tgt := 17) hx hb (dt_at dt_Ref_seen 3 rfl) (by decide) (fun c1 => ?_) (fun c1 => ?_)
  · have h := if_p h c1
    refine lv_iconst (v := 0) hx hb (dt_at dt_Ref_seen 9 rfl) (by decide) ?_
    exact k_Ref_seen_18 hC hA hK   (0 : Int32) H locs ls hP hD hS (lv_sub hl [] rfl) h
  · have h := if_n h c1
    refine lv_aload_n hx hb (dt_at dt_Ref_seen 4 rfl) rfl (lv_at hl 0 rfl) ?_
    refine va_get (D := D) (ci := 0) (v := .ref (a 5)) (C := "OutwardTapeModel") (T := T_Ref) (N := 20) hx hb hts in_Ref hown hK hP 0 rfl rfl 6 (by decide) (hts (Cond.fieldLink "OutwardTapeModel" 23 "OutwardTapeModel" "text" "[I") (m_4 5 rfl rfl)) (fun _ h9 => h9) rfl (dt_at dt_Ref_seen 5 rfl) ?_
    refine lv_iload_n hx hb (dt_at dt_Ref_seen 6 rfl) rfl (lv_at hl 1 rfl) ?_
    obtain ⟨z2, h⟩ := og_of h
    refine va_iald hx hb hK hP 5 4 rfl rfl z2 (dt_at dt_Ref_seen 7 rfl) ?_
    refine lv_goto (tgt := 18) hx hb (dt_at dt_Ref_seen 8 rfl) (by decide) ?_
    exact k_Ref_seen_18 hC hA hK   (g6 v1.toNatClampNeg) H locs ls hP hD hS (lv_sub hl [] rfl) h
set_option maxRecDepth 100000 in
set_option maxHeartbeats 4000000 in
theorem c_Ref_seen (l : Launch) (D : va_G) (a : Nat → Nat) (q : Nat → ClassId) (hd : va_D (fun _ => True) (dR a)) (sz : Nat) (a1 : Int32) (g0 : Int32) (g1 : Nat → Int32) (g2 : Nat → Int64) (g3 : Nat → Int64) (g4 : Nat → Int32) (g5 : Int32) (g6 : Nat → Int32) (g7 : Int32) (g8 : Nat → Int32) (g9 : Int32) (g10 : Int64) (g11 : Int64) (g12 : Int32) (g13 : Int32) (g14 : Int32) (g15 : Int64) (g16 : Int32) (g17 : Int32) (g18 : Int64) (g19 : Int32) (r0 : Int32) (h : f_Ref_seen a1 g6 g7 = some r0) : Met l (⟨"OutwardTapeModel", "seen", "(I)I"⟩ : MethodName) (WSm (⟨"OutwardTapeModel", "seen", "(I)I"⟩ : MethodName) prog_12_method_52_code 3 (some .int)) rm_Ref_seen (va_Pc [.ref (a 0), .int a1] (fun U => U.heap.size = sz ∧ va_P D CLS (wR a q g0 g1 g2 g3 g4 g5 g6 g7 g8 g9 g10 g11 g12 g13 g14 g15 g16 g17 g18 g19) U.heap ∧ va_K D CLS (tR q) U)) (va_Qi (fun (r : Int32) (_ : Unit) => r = r0) (fun _ t => va_P D CLS (wR a q g0 g1 g2 g3 g4 g5 g6 g7 g8 g9 g10 g11 g12 g13 g14 g15 g16 g17 g18 g19) t.heap) (va_A (dR a) sz)) 0 0 (va_A (dR a) sz) := by
  refine Met.ofW (cc := prog_12_method_52_code) (maxL := 3) (ret := (some .int)) (by decide) rfl ?_
  intro p e s m args below meth c s₁ B hml hv
  obtain ⟨rfl, hsz, hP, hK⟩ := hv
  subst hsz
  have hC := CX.of B hml rfl
  have hl := lv_entry [.ref (a 0), .int a1] (n := 3) (Nat.le_of_ble_eq_true rfl)
  rw [lg_entry_eq]
  generalize (lg_sl [.ref (a 0), .int a1] ++ List.replicate (3 - (lg_sl [.ref (a 0), .int a1]).length) Slot.unset).toArray = ls at hl ⊢
  have hl : lv_has ls 3 [(0, .ref (a 0)), (1, .int a1)] := hl
  exact k_Ref_seen_0 hC (fun x h => Or.inr h) hK a1  s.heap [] ls hP (dD hd.self rfl) va_S.rf (lv_sub hl [0, 1] rfl) h
