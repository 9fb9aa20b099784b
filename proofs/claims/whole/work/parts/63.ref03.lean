-- written by wip/gen/ref.py: walks of the reference's methods
abbrev rm_Ref_eat : Room := { frames := 1, cells := 0, slots := 0, locals := 22 }
set_option maxRecDepth 100000 in
set_option maxHeartbeats 4000000 in
theorem k_Ref_eat_36 {p : Program} {l : Launch} {e : Env} {s : State} {m : MethodId} {args : Array Value} {below : List Frame} {meth : Method} {c : Code} {D : va_G} {a : Nat → Nat} {q : Nat → ClassId} {A : Nat → Prop} (hC : CX p s m args meth c prog_12_method_53_code 3 "OutwardTapeModel" (some .boolean)) (hA : ∀ x, s.heap.size ≤ x → A x) (hK : va_K D CLS (tR q) s) {g0 : Int32} {g1 : Nat → Int32} {g2 : Nat → Int64} {g3 : Nat → Int64} {g4 : Nat → Int32} {g5 : Int32} {g6 : Nat → Int32} {g7 : Int32} {g8 : Nat → Int32} {g9 : Int32} {g10 : Int64} {g11 : Int64} {g12 : Int32} {g14 : Int32} {g15 : Int64} {g16 : Int32} {g17 : Int32} {g18 : Int64} {g19 : Int32} {r0 : Int32 × Int32} : ∀ (s0 : Int32) (v2 : Int32) (g13 : Int32) (H : Heap) (locs : List Loc) (ls : Array Slot), va_P D CLS (wR a q g0 g1 g2 g3 g4 g5 g6 g7 g8 g9 g10 g11 g12 g13 g14 g15 g16 g17 g18 g19) H → va_D A (wR a q g0 g1 g2 g3 g4 g5 g6 g7 g8 g9 g10 g11 g12 g13 g14 g15 g16 g17 g18 g19) → va_S A s.heap H locs → lv_has ls 3 [(2, .int v2)] → f_Ref_eat_36  s0 v2 g6 g7 g13 = some r0 → W p l e rm_Ref_eat s m args below meth c H locs 0 0 (MQ below (va_Qi (fun (r : Int32) (_ : Unit) => r = r0.1) (fun _ t => va_P D CLS (wR a q g0 g1 g2 g3 g4 g5 g6 g7 g8 g9 g10 g11 g12 r0.2 g14 g15 g16 g17 g18 g19) t.heap) A) args s 0 0 A) (F0 m 36 ls [.int s0, .ref (a 0)]) := by
  obtain ⟨hx, hb, hml, hown, hts, hr, hlocks⟩ := id hC
  intro s0 v2 g13 H locs ls hP hD hS hl h
  rw [f_Ref_eat_36] at h
  refine va_put (D := D) (ci := 0) (v := .int s0) (ty := .int) (C := "OutwardTapeModel") (T := T_Ref) (N := 20) hx hb hts in_Ref ty_Ref tk_Ref nm_Ref hown hK hP hD hS 0 rfl rfl 13 (by decide) (hts (Cond.fieldLink "OutwardTapeModel" 221 "OutwardTapeModel" "place" "I") (m_4 12 rfl rfl)) (fun _ h9 => h9) rfl (by decide +kernel) rfl rfl (Nat.le_of_ble_eq_true rfl) (dt_at dt_Ref_eat 20 rfl) (fun H locs hP hD hS => ?_)
  have hP : va_P D CLS (wR a q g0 g1 g2 g3 g4 g5 g6 g7 g8 g9 g10 g11 g12 s0 g14 g15 g16 g17 g18 g19) H := hP
  have hD : va_D A (wR a q g0 g1 g2 g3 g4 g5 g6 g7 g8 g9 g10 g11 g12 s0 g14 g15 g16 g17 g18 g19) := hD
  refine lv_iload_n hx hb (dt_at dt_Ref_eat 21 rfl) rfl (lv_at hl 0 rfl) ?_
  obtain ⟨hz, h⟩ := og_of h
  obtain rfl := os_of h
  exact W.zret (v := v2) (ty := .boolean) hx hb hr (j_z_nar hz) (fun t ht hW => ⟨⟨_, (), rfl, rfl, (hPt hP ht)⟩, hS.F ht⟩) hS.2.2 (dt_at dt_Ref_eat 22 rfl)
set_option maxRecDepth 100000 in
set_option maxHeartbeats 4000000 in
theorem k_Ref_eat_17 {p : Program} {l : Launch} {e : Env} {s : State} {m : MethodId} {args : Array Value} {below : List Frame} {meth : Method} {c : Code} {D : va_G} {a : Nat → Nat} {q : Nat → ClassId} {A : Nat → Prop} (hC : CX p s m args meth c prog_12_method_53_code 3 "OutwardTapeModel" (some .boolean)) (hA : ∀ x, s.heap.size ≤ x → A x) (hK : va_K D CLS (tR q) s) {g0 : Int32} {g1 : Nat → Int32} {g2 : Nat → Int64} {g3 : Nat → Int64} {g4 : Nat → Int32} {g5 : Int32} {g6 : Nat → Int32} {g7 : Int32} {g8 : Nat → Int32} {g9 : Int32} {g10 : Int64} {g11 : Int64} {g12 : Int32} {g14 : Int32} {g15 : Int64} {g16 : Int32} {g17 : Int32} {g18 : Int64} {g19 : Int32} {r0 : Int32 × Int32} : ∀ (s0 : Int32) (g13 : Int32) (H : Heap) (locs : List Loc) (ls : Array Slot), va_P D CLS (wR a q g0 g1 g2 g3 g4 g5 g6 g7 g8 g9 g10 g11 g12 g13 g14 g15 g16 g17 g18 g19) H → va_D A (wR a q g0 g1 g2 g3 g4 g5 g6 g7 g8 g9 g10 g11 g12 g13 g14 g15 g16 g17 g18 g19) → va_S A s.heap H locs → lv_has ls 3 [(0, .ref (a 0))] → f_Ref_eat_17  s0 g6 g7 g13 = some r0 → W p l e rm_Ref_eat s m args below meth c H locs 0 0 (MQ below (va_Qi (fun (r : Int32) (_ : Unit) => r = r0.1) (fun _ t => va_P D CLS (wR a q g0 g1 g2 g3 g4 g5 g6 g7 g8 g9 g10 g11 g12 r0.2 g14 g15 g16 g17 g18 g19) t.heap) A) args s 0 0 A) (F0 m 17 ls [.int s0]) := by
  obtain ⟨hx, hb, hml, hown, hts, hr, hlocks⟩ := id hC
  intro s0 g13 H locs ls hP hD hS hl h
  rw [f_Ref_eat_17] at h
  refine lv_istore_n (lv' := [(2, .int s0), (0, .ref (a 0))]) hx hb (dt_at dt_Ref_eat 9 rfl) rfl hl (by decide) rfl (fun ls hl => ?_)
  refine lv_aload_n hx hb (dt_at dt_Ref_eat 10 rfl) rfl (lv_at hl 1 rfl) ?_
  refine lv_iload_n hx hb (dt_at dt_Ref_eat 11 rfl) rfl (lv_at hl 0 rfl) ?_
  refine lv_if_eq (tgt := 32) hx hb (dt_at dt_Ref_eat 12 rfl) (by decide) (fun c1 => ?_) (fun c1 => ?_)
  · have h := if_p h c1
    refine lv_aload_n hx hb (dt_at dt_Ref_eat 18 rfl) rfl (lv_at hl 1 rfl) ?_
    refine va_get (D := D) (ci := 0) (v := .int g13) (C := "OutwardTapeModel") (T := T_Ref) (N := 20) hx hb hts in_Ref hown hK hP 0 rfl rfl 13 (by decide) (hts (Cond.fieldLink "OutwardTapeModel" 221 "OutwardTapeModel" "place" "I") (m_4 12 rfl rfl)) (fun _ h9 => h9) rfl (dt_at dt_Ref_eat 19 rfl) ?_
    exact k_Ref_eat_36 hC hA hK   g13 s0 g13 H locs ls hP hD hS (lv_sub hl [0] rfl) h
  · have h := if_n h c1
    refine lv_aload_n hx hb (dt_at dt_Ref_eat 13 rfl) rfl (lv_at hl 1 rfl) ?_
    refine va_get (D := D) (ci := 0) (v := .int g13) (C := "OutwardTapeModel") (T := T_Ref) (N := 20) hx hb hts in_Ref hown hK hP 0 rfl rfl 13 (by decide) (hts (Cond.fieldLink "OutwardTapeModel" 221 "OutwardTapeModel" "place" "I") (m_4 12 rfl rfl)) (fun _ h9 => h9) rfl (dt_at dt_Ref_eat 14 rfl) ?_
    refine lv_iconst (v := 1) hx hb (dt_at dt_Ref_eat 15 rfl) (by decide) ?_
    refine lv_iadd hx hb (dt_at dt_Ref_eat 16 rfl) ?_
    refine lv_goto (tgt := 36) hx hb (dt_at dt_Ref_eat 17 rfl) (by decide) ?_
    exact k_Ref_eat_36 hC hA hK   (g13 + (1 : Int32)) s0 g13 H locs ls hP hD hS (lv_sub hl [0] rfl) h
set_option maxRecDepth 100000 in
set_option maxHeartbeats 4000000 in
theorem k_Ref_eat_0 {p : Program} {l : Launch} {e : Env} {s : State} {m : MethodId} {args : Array Value} {below : List Frame} {meth : Method} {c : Code} {D : va_G} {a : Nat → Nat} {q : Nat → ClassId} {A : Nat → Prop} (hC : CX p s m args meth c prog_12_method_53_code 3 "OutwardTapeModel" (some .boolean)) (hA : ∀ x, s.heap.size ≤ x → A x) (hK : va_K D CLS (tR q) s) {g0 : Int32} {g1 : Nat → Int32} {g2 : Nat → Int64} {g3 : Nat → Int64} {g4 : Nat → Int32} {g5 : Int32} {g6 : Nat → Int32} {g7 : Int32} {g8 : Nat → Int32} {g9 : Int32} {g10 : Int64} {g11 : Int64} {g12 : Int32} {g14 : Int32} {g15 : Int64} {g16 : Int32} {g17 : Int32} {g18 : Int64} {g19 : Int32} {r0 : Int32 × Int32} : ∀ (v1 : Int32) (g13 : Int32) (H : Heap) (locs : List Loc) (ls : Array Slot), va_P D CLS (wR a q g0 g1 g2 g3 g4 g5 g6 g7 g8 g9 g10 g11 g12 g13 g14 g15 g16 g17 g18 g19) H → va_D A (wR a q g0 g1 g2 g3 g4 g5 g6 g7 g8 g9 g10 g11 g12 g13 g14 g15 g16 g17 g18 g19) → va_S A s.heap H locs → lv_has ls 3 [(0, .ref (a 0)), (1, .int v1)] → f_Ref_eat_0  v1 g6 g7 g13 = some r0 → W p l e rm_Ref_eat s m args below meth c H locs 0 0 (MQ below (va_Qi (fun (r : Int32) (_ : Unit) => r = r0.1) (fun _ t => va_P D CLS (wR a q g0 g1 g2 g3 g4 g5 g6 g7 g8 g9 g10 g11 g12 r0.2 g14 g15 g16 g17 g18 g19) t.heap) A) args s 0 0 A) (F0 m 0 ls []) := by
  obtain ⟨hx, hb, hml, hown, hts, hr, hlocks⟩ := id hC
  intro v1 g13 H locs ls hP hD hS hl h
  rw [f_Ref_eat_0] at h
  refine lv_aload_n hx hb (dt_at dt_Ref_eat 0 rfl) rfl (lv_at hl 0 rfl) ?_
  refine lv_aload_n hx hb (dt_at dt_Ref_eat 1 rfl) rfl (lv_at hl 0 rfl) ?_
  refine va_get (D := D) (ci := 0) (v := .int g13) (C := "OutwardTapeModel") (T := T_Ref) (N := 20) hx hb hts in_Ref hown hK hP 0 rfl rfl 13 (by decide) (hts (Cond.fieldLink "OutwardTapeModel" 221 "OutwardTapeModel" "place" "I") (m_4 12 rfl rfl)) (fun _ h9 => h9) rfl (dt_at dt_Ref_eat 2 rfl) ?_
  obtain ⟨r1, h_r1, h⟩ := ob_of h
  have hF := va_free (wc := dR a) (dD (ws' := dR a) hD rfl) hS hA [0, 1, 2, 3, 4, 5, 6] rfl
  have hd : va_D (fun _ => True) (dR a) := (dD (ws' := dR a) hD rfl).weaken (fun _ _ _ _ => trivial)
  refine va_calli (va_runV (As := [.int g13]) (rest := []) ⟨hx, hb, hml, hown, hts⟩ (c_Ref_seen l D a q hd H.size g13 g0 g1 g2 g3 g4 g5 g6 g7 g8 g9 g10 g11 g12 g13 g14 g15 g16 g17 g18 g19 r1 h_r1) (cwV 1 hts (gd_V (m_5 15 rfl rfl) (m_5 17 rfl rfl) (m_s 51 rfl rfl) (m_1 4 rfl rfl) (m_5 18 rfl rfl)) rfl rfl rfl (by decide +kernel) ⟨Nat.le_of_ble_eq_true rfl, Nat.le_of_ble_eq_true rfl⟩) ⟨fun a U g mk q => ⟨q.1, q.2.1, q.2.2.1, va_K.moved (u := U) (U := U.calling g mk a) (Vm.Alike.refl U.vm) q.2.2.2⟩, va_recv hK hP (ci := 0) (q0 := 0) rfl rfl, fun U hU hW => ⟨rfl, by rw [hU], by rw [hU]; exact hP, va_K.moved hW.alike hK⟩⟩ rfl rfl hl.1 rfl (lv_room (Nat.le_of_ble_eq_true rfl)) (dt_at dt_Ref_eat 3 rfl) ⟨Nat.le_of_ble_eq_true rfl, Nat.le_of_ble_eq_true rfl⟩) hS (fun x _ h9 => hF x h9) hF (fun u_r1 uu t H locs ht hvm hw hB hz1 hk1 hS => ?_)
  rw [ht] at hB
  obtain rfl : r1 = u_r1 := hw.symm
  have hP : va_P D CLS (wR a q g0 g1 g2 g3 g4 g5 g6 g7 g8 g9 g10 g11 g12 g13 g14 g15 g16 g17 g18 g19) H := hB
  have hD : va_D A (wR a q g0 g1 g2 g3 g4 g5 g6 g7 g8 g9 g10 g11 g12 g13 g14 g15 g16 g17 g18 g19) := dD hD rfl
  refine lv_iload_n hx hb (dt_at dt_Ref_eat 4 rfl) rfl (lv_at hl 1 rfl) ?_
  refine lv_icmp_ne (tgt := 16) hx hb (dt_at dt_Ref_eat 5 rfl) (by decide) (fun c2 => ?_) (fun c2 => ?_)
  · have h := if_n h c2
    refine lv_iconst (v := 0) hx hb (dt_at dt_Ref_eat 8 rfl) (by decide) ?_
    exact k_Ref_eat_17 hC hA hK   (0 : Int32) g13 H locs ls hP hD hS (lv_sub hl [0] rfl) h
  · have h := if_p h c2
    refine lv_iconst (v := 1) hx hb (dt_at dt_Ref_eat 6 rfl) (by decide) ?_
    refine lv_goto (tgt := 17) hx hb (dt_at dt_Ref_eat 7 rfl) (by decide) ?_
    exact k_Ref_eat_17 hC hA hK   (1 : Int32) g13 H locs ls hP hD hS (lv_sub hl [0] rfl) h
set_option maxRecDepth 100000 in
set_option maxHeartbeats 4000000 in
theorem c_Ref_eat (l : Launch) (D : va_G) (a : Nat → Nat) (q : Nat → ClassId) (hd : va_D (fun _ => True) (dR a)) (sz : Nat) (a1 : Int32) (g0 : Int32) (g1 : Nat → Int32) (g2 : Nat → Int64) (g3 : Nat → Int64) (g4 : Nat → Int32) (g5 : Int32) (g6 : Nat → Int32) (g7 : Int32) (g8 : Nat → Int32) (g9 : Int32) (g10 : Int64) (g11 : Int64) (g12 : Int32) (g13 : Int32) (g14 : Int32) (g15 : Int64) (g16 : Int32) (g17 : Int32) (g18 : Int64) (g19 : Int32) (r0 : Int32 × Int32) (h : f_Ref_eat a1 g6 g7 g13 = some r0) : Met l (⟨"OutwardTapeModel", "eat", "(I)Z"⟩ : MethodName) (WSm (⟨"OutwardTapeModel", "eat", "(I)Z"⟩ : MethodName) prog_12_method_53_code 3 (some .boolean)) rm_Ref_eat (va_Pc [.ref (a 0), .int a1] (fun U => U.heap.size = sz ∧ va_P D CLS (wR a q g0 g1 g2 g3 g4 g5 g6 g7 g8 g9 g10 g11 g12 g13 g14 g15 g16 g17 g18 g19) U.heap ∧ va_K D CLS (tR q) U)) (va_Qi (fun (r : Int32) (_ : Unit) => r = r0.1) (fun _ t => va_P D CLS (wR a q g0 g1 g2 g3 g4 g5 g6 g7 g8 g9 g10 g11 g12 r0.2 g14 g15 g16 g17 g18 g19) t.heap) (va_A (dR a) sz)) 0 0 (va_A (dR a) sz) := by
  refine Met.ofW (cc := prog_12_method_53_code) (maxL := 3) (ret := (some .boolean)) (by decide) rfl ?_
  intro p e s m args below meth c s₁ B hml hv
  obtain ⟨rfl, hsz, hP, hK⟩ := hv
  subst hsz
  have hC := CX.of B hml rfl
  have hl := lv_entry [.ref (a 0), .int a1] (n := 3) (Nat.le_of_ble_eq_true rfl)
  rw [lg_entry_eq]
  generalize (lg_sl [.ref (a 0), .int a1] ++ List.replicate (3 - (lg_sl [.ref (a 0), .int a1]).length) Slot.unset).toArray = ls at hl ⊢
  have hl : lv_has ls 3 [(0, .ref (a 0)), (1, .int a1)] := hl
  exact k_Ref_eat_0 hC (fun x h => Or.inr h) hK a1 g13 s.heap [] ls hP (dD hd.self rfl) va_S.rf (lv_sub hl [0, 1] rfl) h
abbrev rm_Ref_spaces : Room := { frames := 1, cells := 0, slots := 0, locals := 22 }
set_option maxRecDepth 100000 in
set_option maxHeartbeats 4000000 in
theorem k_Ref_spaces_0 {p : Program} {l : Launch} {e : Env} {s : State} {m : MethodId} {args : Array Value} {below : List Frame} {meth : Method} {c : Code} {D : va_G} {a : Nat → Nat} {q : Nat → ClassId} {A : Nat → Prop} (hC : CX p s m args meth c prog_12_method_54_code 1 "OutwardTapeModel" none) (hA : ∀ x, s.heap.size ≤ x → A x) (hK : va_K D CLS (tR q) s) {g0 : Int32} {g1 : Nat → Int32} {g2 : Nat → Int64} {g3 : Nat → Int64} {g4 : Nat → Int32} {g5 : Int32} {g6 : Nat → Int32} {g7 : Int32} {g8 : Nat → Int32} {g9 : Int32} {g10 : Int64} {g11 : Int64} {g12 : Int32} {g14 : Int32} {g15 : Int64} {g16 : Int32} {g17 : Int32} {g18 : Int64} {g19 : Int32} {r0 : Int32} : ∀ n : Nat, ∀  (g13 : Int32) (H : Heap) (locs : List Loc) (ls : Array Slot), va_P D CLS (wR a q g0 g1 g2 g3 g4 g5 g6 g7 g8 g9 g10 g11 g12 g13 g14 g15 g16 g17 g18 g19) H → va_D A (wR a q g0 g1 g2 g3 g4 g5 g6 g7 g8 g9 g10 g11 g12 g13 g14 g15 g16 g17 g18 g19) → va_S A s.heap H locs → lv_has ls 1 [(0, .ref (a 0))] → f_Ref_spaces_0  n g6 g7 g13 = some r0 → W p l e rm_Ref_spaces s m args below meth c H locs 0 0 (MQ below (va_Qv (fun _ : Unit => True) (fun _ t => va_P D CLS (wR a q g0 g1 g2 g3 g4 g5 g6 g7 g8 g9 g10 g11 g12 r0 g14 g15 g16 g17 g18 g19) t.heap) A) args s 0 0 A) (F0 m 0 ls []) := by
  obtain ⟨hx, hb, hml, hown, hts, hr, hlocks⟩ := id hC
  intro n
  induction n with
  | zero => intro g13 H locs ls hP hD hS hl h; cases h
  | succ n ih =>
    intro g13 H locs ls hP hD hS hl h
    rw [f_Ref_spaces_0] at h
    refine lv_aload_n hx hb (dt_at dt_Ref_spaces 0 rfl) rfl (lv_at hl 0 rfl) ?_
    refine lv_aload_n hx hb (dt_at dt_Ref_spaces 1 rfl) rfl (lv_at hl 0 rfl) ?_
    refine va_get (D := D) (ci := 0) (v := .int g13) (C := "OutwardTapeModel") (T := T_Ref) (N := 20) hx hb hts in_Ref hown hK hP 0 rfl rfl 13 (by decide) (hts (Cond.fieldLink "OutwardTapeModel" 221 "OutwardTapeModel" "place" "I") (m_4 12 rfl rfl)) (fun _ h9 => h9) rfl (dt_at dt_Ref_spaces 2 rfl) ?_
    obtain ⟨r1, h_r1, h⟩ := ob_of h
    have hF := va_free (wc := dR a) (dD (ws' := dR a) hD rfl) hS hA [0, 1, 2, 3, 4, 5, 6] rfl
    have hd : va_D (fun _ => True) (dR a) := (dD (ws' := dR a) hD rfl).weaken (fun _ _ _ _ => trivial)
    refine va_calli (va_runV (As := [.int g13]) (rest := []) ⟨hx, hb, hml, hown, hts⟩ (c_Ref_seen l D a q hd H.size g13 g0 g1 g2 g3 g4 g5 g6 g7 g8 g9 g10 g11 g12 g13 g14 g15 g16 g17 g18 g19 r1 h_r1) (cwV 1 hts (gd_V (m_5 15 rfl rfl) (m_5 17 rfl rfl) (m_s 51 rfl rfl) (m_1 4 rfl rfl) (m_5 18 rfl rfl)) rfl rfl rfl (by decide +kernel) ⟨Nat.le_of_ble_eq_true rfl, Nat.le_of_ble_eq_true rfl⟩) ⟨fun a U g mk q => ⟨q.1, q.2.1, q.2.2.1, va_K.moved (u := U) (U := U.calling g mk a) (Vm.Alike.refl U.vm) q.2.2.2⟩, va_recv hK hP (ci := 0) (q0 := 0) rfl rfl, fun U hU hW => ⟨rfl, by rw [hU], by rw [hU]; exact hP, va_K.moved hW.alike hK⟩⟩ rfl rfl hl.1 rfl (lv_room (Nat.le_of_ble_eq_true rfl)) (dt_at dt_Ref_spaces 3 rfl) ⟨Nat.le_of_ble_eq_true rfl, Nat.le_of_ble_eq_true rfl⟩) hS (fun x _ h9 => hF x h9) hF (fun u_r1 uu t H locs ht hvm hw hB hz1 hk1 hS => ?_)
    rw [ht] at hB
    obtain rfl : r1 = u_r1 := hw.symm
    have hP : va_P D CLS (wR a q g0 g1 g2 g3 g4 g5 g6 g7 g8 g9 g10 g11 g12 g13 g14 g15 g16 g17 g18 g19) H := hB
    have hD : va_D A (wR a q g0 g1 g2 g3 g4 g5 g6 g7 g8 g9 g10 g11 g12 g13 g14 g15 g16 g17 g18 g19) := dD hD rfl
    refine lv_bipush (v := 32) hx hb (dt_at dt_Ref_spaces 4 rfl) (by decide) ?_
    refine lv_icmp_ne (tgt := 26) hx hb (dt_at dt_Ref_spaces 5 rfl) (by decide) (fun c2 => ?_) (fun c2 => ?_)
    · have h := if_n h c2
      obtain rfl := os_of h
      exact W.vret hx hb hr (fun t ht hW => ⟨⟨(), rfl, trivial, (hPt hP ht)⟩, hS.F ht⟩) hS.2.2 (dt_at dt_Ref_spaces 13 rfl)
    · have h := if_p h c2
      refine lv_aload_n hx hb (dt_at dt_Ref_spaces 6 rfl) rfl (lv_at hl 0 rfl) ?_
      refine lv_dup hx hb (dt_at dt_Ref_spaces 7 rfl) rfl ?_
      refine va_get (D := D) (ci := 0) (v := .int g13) (C := "OutwardTapeModel") (T := T_Ref) (N := 20) hx hb hts in_Ref hown hK hP 0 rfl rfl 13 (by decide) (hts (Cond.fieldLink "OutwardTapeModel" 221 "OutwardTapeModel" "place" "I") (m_4 12 rfl rfl)) (fun _ h9 => h9) rfl (dt_at dt_Ref_spaces 8 rfl) ?_
      refine lv_iconst (v := 1) hx hb (dt_at dt_Ref_spaces 9 rfl) (by decide) ?_
      refine lv_iadd hx hb (dt_at dt_Ref_spaces 10 rfl) ?_
      obtain ⟨t3, e_t3, h⟩ := ol_of h
      refine lv_topi (fun u_t3 q_t3 => ?_)
      obtain rfl : t3 = u_t3 := e_t3.trans q_t3.symm
      refine va_put (D := D) (ci := 0) (v := .int t3) (ty := .int) (C := "OutwardTapeModel") (T := T_Ref) (N := 20) hx hb hts in_Ref ty_Ref tk_Ref nm_Ref hown hK hP hD hS 0 rfl rfl 13 (by decide) (hts (Cond.fieldLink "OutwardTapeModel" 221 "OutwardTapeModel" "place" "I") (m_4 12 rfl rfl)) (fun _ h9 => h9) rfl (by decide +kernel) rfl rfl (Nat.le_of_ble_eq_true rfl) (dt_at dt_Ref_spaces 11 rfl) (fun H locs hP hD hS => ?_)
      have hP : va_P D CLS (wR a q g0 g1 g2 g3 g4 g5 g6 g7 g8 g9 g10 g11 g12 t3 g14 g15 g16 g17 g18 g19) H := hP
      have hD : va_D A (wR a q g0 g1 g2 g3 g4 g5 g6 g7 g8 g9 g10 g11 g12 t3 g14 g15 g16 g17 g18 g19) := hD
      refine lv_goto (tgt := 0) hx hb (dt_at dt_Ref_spaces 12 rfl) (by decide) ?_
      exact ih t3 H locs ls hP hD hS (lv_sub hl [0] rfl) h
set_option maxRecDepth 100000 in
set_option maxHeartbeats 4000000 in
theorem c_Ref_spaces (l : Launch) (D : va_G) (a : Nat → Nat) (q : Nat → ClassId) (hd : va_D (fun _ => True) (dR a)) (sz : Nat)  (g0 : Int32) (g1 : Nat → Int32) (g2 : Nat → Int64) (g3 : Nat → Int64) (g4 : Nat → Int32) (g5 : Int32) (g6 : Nat → Int32) (g7 : Int32) (g8 : Nat → Int32) (g9 : Int32) (g10 : Int64) (g11 : Int64) (g12 : Int32) (g13 : Int32) (g14 : Int32) (g15 : Int64) (g16 : Int32) (g17 : Int32) (g18 : Int64) (g19 : Int32) (r0 : Int32) (h : f_Ref_spaces g6 g7 g13 = some r0) : Met l (⟨"OutwardTapeModel", "spaces", "()V"⟩ : MethodName) (WSm (⟨"OutwardTapeModel", "spaces", "()V"⟩ : MethodName) prog_12_method_54_code 1 none) rm_Ref_spaces (va_Pc [.ref (a 0)] (fun U => U.heap.size = sz ∧ va_P D CLS (wR a q g0 g1 g2 g3 g4 g5 g6 g7 g8 g9 g10 g11 g12 g13 g14 g15 g16 g17 g18 g19) U.heap ∧ va_K D CLS (tR q) U)) (va_Qv (fun _ : Unit => True) (fun _ t => va_P D CLS (wR a q g0 g1 g2 g3 g4 g5 g6 g7 g8 g9 g10 g11 g12 r0 g14 g15 g16 g17 g18 g19) t.heap) (va_A (dR a) sz)) 0 0 (va_A (dR a) sz) := by
  refine Met.ofW (cc := prog_12_method_54_code) (maxL := 1) (ret := none) (by decide) rfl ?_
  intro p e s m args below meth c s₁ B hml hv
  obtain ⟨rfl, hsz, hP, hK⟩ := hv
  subst hsz
  have hC := CX.of B hml rfl
  have hl := lv_entry [.ref (a 0)] (n := 1) (Nat.le_of_ble_eq_true rfl)
  rw [lg_entry_eq]
  generalize (lg_sl [.ref (a 0)] ++ List.replicate (1 - (lg_sl [.ref (a 0)]).length) Slot.unset).toArray = ls at hl ⊢
  have hl : lv_has ls 1 [(0, .ref (a 0))] := hl
  exact k_Ref_spaces_0 hC (fun x h => Or.inr h) hK 5000  g13 s.heap [] ls hP (dD hd.self rfl) va_S.rf (lv_sub hl [0] rfl) h
abbrev rm_Ref_isDigit : Room := { frames := 1, cells := 0, slots := 0, locals := 22 }
set_option maxRecDepth 100000 in
set_option maxHeartbeats 4000000 in
theorem k_Ref_isDigit_25 {p : Program} {l : Launch} {e : Env} {s : State} {m : MethodId} {args : Array Value} {below : List Frame} {meth : Method} {c : Code} {D : va_G} {a : Nat → Nat} {q : Nat → ClassId} {A : Nat → Prop} (hC : CX p s m args meth c prog_12_method_55_code 2 "OutwardTapeModel" (some .boolean)) (hA : ∀ x, s.heap.size ≤ x → A x) (hK : va_K D CLS (tR q) s) {g0 : Int32} {g1 : Nat → Int32} {g2 : Nat → Int64} {g3 : Nat → Int64} {g4 : Nat → Int32} {g5 : Int32} {g6 : Nat → Int32} {g7 : Int32} {g8 : Nat → Int32} {g9 : Int32} {g10 : Int64} {g11 : Int64} {g12 : Int32} {g13 : Int32} {g14 : Int32} {g15 : Int64} {g16 : Int32} {g17 : Int32} {g18 : Int64} {g19 : Int32} {r0 : Int32} : ∀ (s0 : Int32)  (H : Heap) (locs : List Loc) (ls : Array Slot), va_P D CLS (wR a q g0 g1 g2 g3 g4 g5 g6 g7 g8 g9 g10 g11 g12 g13 g14 g15 g16 g17 g18 g19) H → va_D A (wR a q g0 g1 g2 g3 g4 g5 g6 g7 g8 g9 g10 g11 g12 g13 g14 g15 g16 g17 g18 g19) → va_S A s.heap H locs → lv_has ls 2 [] → f_Ref_isDigit_25  s0 g6 g7 = some r0 → W p l e rm_Ref_isDigit s m args below meth c H locs 0 0 (MQ below (va_Qi (fun (r : Int32) (_ : Unit) => r = r0) (fun _ t => va_P D CLS (wR a q g0 g1 g2 g3 g4 g5 g6 g7 g8 g9 g10 g11 g12 g13 g14 g15 g16 g17 g18 g19) t.heap) A) args s 0 0 A) (F0 m 25 ls [.int s0]) := by
  obtain ⟨hx, hb, hml, hown, hts, hr, hlocks⟩ := id hC
  intro s0 H locs ls hP hD hS hl h
  rw [f_Ref_isDigit_25] at h
  obtain ⟨hz, h⟩ := og_of h
  obtain rfl := os_of h
  exact W.zret (v := s0) (ty := .boolean) hx hb hr (j_z_nar hz) (fun t ht hW => ⟨⟨_, (), rfl, rfl, (hPt hP ht)⟩, hS.F ht⟩) hS.2.2 (dt_at dt_Ref_isDigit 13 rfl)
set_option maxRecDepth 100000 in
set_option maxHeartbeats 4000000 in
theorem k_Ref_isDigit_24 {p : Program} {l : Launch} {e : Env} {s : State} {m : MethodId} {args : Array Value} {below : List Frame} {meth : Method} {c : Code} {D : va_G} {a : Nat → Nat} {q : Nat → ClassId} {A : Nat → Prop} (hC : CX p s m args meth c prog_12_method_55_code 2 "OutwardTapeModel" (some .boolean)) (hA : ∀ x, s.heap.size ≤ x → A x) (hK : va_K D CLS (tR q) s) {g0 : Int32} {g1 : Nat → Int32} {g2 : Nat → Int64} {g3 : Nat → Int64} {g4 : Nat → Int32} {g5 : Int32} {g6 : Nat → Int32} {g7 : Int32} {g8 : Nat → Int32} {g9 : Int32} {g10 : Int64} {g11 : Int64} {g12 : Int32} {g13 : Int32} {g14 : Int32} {g15 : Int64} {g16 : Int32} {g17 : Int32} {g18 : Int64} {g19 : Int32} {r0 : Int32} : ∀   (H : Heap) (locs : List Loc) (ls : Array Slot), va_P D CLS (wR a q g0 g1 g2 g3 g4 g5 g6 g7 g8 g9 g10 g11 g12 g13 g14 g15 g16 g17 g18 g19) H → va_D A (wR a q g0 g1 g2 g3 g4 g5 g6 g7 g8 g9 g10 g11 g12 g13 g14 g15 g16 g17 g18 g19) → va_S A s.heap H locs → lv_has ls 2 [] → f_Ref_isDigit_24  g6 g7 = some r0 → W p l e rm_Ref_isDigit s m args below meth c H locs 0 0 (MQ below (va_Qi (fun (r : Int32) (_ : Unit) => r = r0) (fun _ t => va_P D CLS (wR a q g0 g1 g2 g3 g4 g5 g6 g7 g8 g9 g10 g11 g12 g13 g14 g15 g16 g17 g18 g19) t.heap) A) args s 0 0 A) (F0 m 24 ls []) := by
  obtain ⟨hx, hb, hml, hown, hts, hr, hlocks⟩ := id hC
  intro H locs ls hP hD hS hl h
  rw [f_Ref_isDigit_24] at h
  refine lv_iconst (v := 0) hx hb (dt_at dt_Ref_isDigit 12 rfl) (by decide) ?_
  exact k_Ref_isDigit_25 hC hA hK   (0 : Int32) H locs ls hP hD hS (lv_sub hl [] rfl) h
set_option maxRecDepth 100000 in
set_option maxHeartbeats 4000000 in
theorem k_Ref_isDigit_0 {p : Program} {l : Launch} {e : Env} {s : State} {m : MethodId} {args : Array Value} {below : List Frame} {meth : Method} {c : Code} {D : va_G} {a : Nat → Nat} {q : Nat → ClassId} {A : Nat → Prop} (hC : CX p s m args meth c prog_12_method_55_code 2 "OutwardTapeModel" (some .boolean)) (hA : ∀ x, s.heap.size ≤ x → A x) (hK : va_K D CLS (tR q) s) {g0 : Int32} {g1 : Nat → Int32} {g2 : Nat → Int64} {g3 : Nat → Int64} {g4 : Nat → Int32} {g5 : Int32} {g6 : Nat → Int32} {g7 : Int32} {g8 : Nat → Int32} {g9 : Int32} {g10 : Int64} {g11 : Int64} {g12 : Int32} {g13 : Int32} {g14 : Int32} {g15 : Int64} {g16 : Int32} {g17 : Int32} {g18 : Int64} {g19 : Int32} {r0 : Int32} : ∀ (v1 : Int32)  (H : Heap) (locs : List Loc) (ls : Array Slot), va_P D CLS (wR a q g0 g1 g2 g3 g4 g5 g6 g7 g8 g9 g10 g11 g12 g13 g14 g15 g16 g17 g18 g19) H → va_D A (wR a q g0 g1 g2 g3 g4 g5 g6 g7 g8 g9 g10 g11 g12 g13 g14 g15 g16 g17 g18 g19) → va_S A s.heap H locs → lv_has ls 2 [(0, .ref (a 0)), (1, .int v1)] → f_Ref_isDigit_0  v1 g6 g7 = some r0 → W p l e rm_Ref_isDigit s m args below meth c H locs 0 0 (MQ below (va_Qi (fun (r : Int32) (_ : Unit) => r = r0) (fun _ t => va_P D CLS (wR a q g0 g1 g2 g3 g4 g5 g6 g7 g8 g9 g10 g11 g12 g13 g14 g15 g16 g17 g18 g19) t.heap) A) args s 0 0 A) (F0 m 0 ls []) := by
  obtain ⟨hx, hb, hml, hown, hts, hr, hlocks⟩ := id hC
  intro v1 H locs ls hP hD hS hl h
  rw [f_Ref_isDigit_0] at h
  refine lv_aload_n hx hb (dt_at dt_Ref_isDigit 0 rfl) rfl (lv_at hl 0 rfl) ?_
  refine lv_iload_n hx hb (dt_at dt_Ref_isDigit 1 rfl) rfl (lv_at hl 1 rfl) ?_
  obtain ⟨r1, h_r1, h⟩ := ob_of h
  have hF := va_free (wc := dR a) (dD (ws' := dR a) hD rfl) hS hA [0, 1, 2, 3, 4, 5, 6] rfl
  have hd : va_D (fun _ => True) (dR a) := (dD (ws' := dR a) hD rfl).weaken (fun _ _ _ _ => trivial)
  refine va_calli (va_runV (As := [.int v1]) (rest := []) ⟨hx, hb, hml, hown, hts⟩ (c_Ref_seen l D a q hd H.size v1 g0 g1 g2 g3 g4 g5 g6 g7 g8 g9 g10 g11 g12 g13 g14 g15 g16 g17 g18 g19 r1 h_r1) (cwV 1 hts (gd_V (m_5 15 rfl rfl) (m_5 17 rfl rfl) (m_s 51 rfl rfl) (m_1 4 rfl rfl) (m_5 18 rfl rfl)) rfl rfl rfl (by decide +kernel) ⟨Nat.le_of_ble_eq_true rfl, Nat.le_of_ble_eq_true rfl⟩) ⟨fun a U g mk q => ⟨q.1, q.2.1, q.2.2.1, va_K.moved (u := U) (U := U.calling g mk a) (Vm.Alike.refl U.vm) q.2.2.2⟩, va_recv hK hP (ci := 0) (q0 := 0) rfl rfl, fun U hU hW => ⟨rfl, by rw [hU], by rw [hU]; exact hP, va_K.moved hW.alike hK⟩⟩ rfl rfl hl.1 rfl (lv_room (Nat.le_of_ble_eq_true rfl)) (dt_at dt_Ref_isDigit 2 rfl) ⟨Nat.le_of_ble_eq_true rfl, Nat.le_of_ble_eq_true rfl⟩) hS (fun x _ h9 => hF x h9) hF (fun u_r1 uu t H locs ht hvm hw hB hz1 hk1 hS => ?_)
  rw [ht] at hB
  obtain rfl : r1 = u_r1 := hw.symm
  have hP : va_P D CLS (wR a q g0 g1 g2 g3 g4 g5 g6 g7 g8 g9 g10 g11 g12 g13 g14 g15 g16 g17 g18 g19) H := hB
  have hD : va_D A (wR a q g0 g1 g2 g3 g4 g5 g6 g7 g8 g9 g10 g11 g12 g13 g14 g15 g16 g17 g18 g19) := dD hD rfl
  refine lv_bipush (v := 48) hx hb (dt_at dt_Ref_isDigit 3 rfl) (by decide) ?_
  refine lv_icmp_lt (tgt := 24) hx hb (dt_at dt_Ref_isDigit 4 rfl) (by decide) (fun c2 => ?_) (fun c2 => ?_)
  · have h := if_p h c2
    exact k_Ref_isDigit_24 hC hA hK   H locs ls hP hD hS (lv_sub hl [] rfl) h
  · have h := if_n h c2
    refine lv_aload_n hx hb (dt_at dt_Ref_isDigit 5 rfl) rfl (lv_at hl 0 rfl) ?_
    refine lv_iload_n hx hb (dt_at dt_Ref_isDigit 6 rfl) rfl (lv_at hl 1 rfl) ?_
    obtain ⟨r3, h_r3, h⟩ := ob_of h
    have hF := va_free (wc := dR a) (dD (ws' := dR a) hD rfl) hS hA [0, 1, 2, 3, 4, 5, 6] rfl
    have hd : va_D (fun _ => True) (dR a) := (dD (ws' := dR a) hD rfl).weaken (fun _ _ _ _ => trivial)
    refine va_calli (va_runV (As := [.int v1]) (rest := []) ⟨hx, hb, hml, hown, hts⟩ (c_Ref_seen l D a q hd H.size v1 g0 g1 g2 g3 g4 g5 g6 g7 g8 g9 g10 g11 g12 g13 g14 g15 g16 g17 g18 g19 r3 h_r3) (cwV 1 hts (gd_V (m_5 15 rfl rfl) (m_5 17 rfl rfl) (m_s 51 rfl rfl) (m_1 4 rfl rfl) (m_5 18 rfl rfl)) rfl rfl rfl (by decide +kernel) ⟨Nat.le_of_ble_eq_true rfl, Nat.le_of_ble_eq_true rfl⟩) ⟨fun a U g mk q => ⟨q.1, q.2.1, q.2.2.1, va_K.moved (u := U) (U := U.calling g mk a) (Vm.Alike.refl U.vm) q.2.2.2⟩, va_recv hK hP (ci := 0) (q0 := 0) rfl rfl, fun U hU hW => ⟨rfl, by rw [hU], by rw [hU]; exact hP, va_K.moved hW.alike hK⟩⟩ rfl rfl hl.1 rfl (lv_room (Nat.le_of_ble_eq_true rfl)) (dt_at dt_Ref_isDigit 7 rfl) ⟨Nat.le_of_ble_eq_true rfl, Nat.le_of_ble_eq_true rfl⟩) hS (fun x _ h9 => hF x h9) hF (fun u_r3 uu t H locs ht hvm hw hB hz1 hk1 hS => ?_)
    rw [ht] at hB
    obtain rfl : r3 = u_r3 := hw.symm
    have hP : va_P D CLS (wR a q g0 g1 g2 g3 g4 g5 g6 g7 g8 g9 g10 g11 g12 g13 g14 g15 g16 g17 g18 g19) H := hB
    have hD : va_D A (wR a q g0 g1 g2 g3 g4 g5 g6 g7 g8 g9 g10 g11 g12 g13 g14 g15 g16 g17 g18 g19) := dD hD rfl
    refine lv_bipush (v := 57) hx hb (dt_at dt_Ref_isDigit 8 rfl) (by decide) ?_
    refine lv_icmp_gt (tgt := 24) hx hb (dt_at dt_Ref_isDigit 9 rfl) (by decide) (fun c4 => ?_) (fun c4 => ?_)
    · have h := if_p h c4
      exact k_Ref_isDigit_24 hC hA hK   H locs ls hP hD hS (lv_sub hl [] rfl) h
    · have h := if_n h c4
      refine lv_iconst (v := 1) hx hb (dt_at dt_Ref_isDigit 10 rfl) (by decide) ?_
      refine lv_goto (tgt := 25) hx hb (dt_at dt_Ref_isDigit 11 rfl) (by decide) ?_
      exact k_Ref_isDigit_25 hC hA hK   (1 : Int32) H locs ls hP hD hS (lv_sub hl [] rfl) h
set_option maxRecDepth 100000 in
set_option maxHeartbeats 4000000 in
theorem c_Ref_isDigit (l : Launch) (D : va_G) (a : Nat → Nat) (q : Nat → ClassId) (hd : va_D (fun _ => True) (dR a)) (sz : Nat) (a1 : Int32) (g0 : Int32) (g1 : Nat → Int32) (g2 : Nat → Int64) (g3 : Nat → Int64) (g4 : Nat → Int32) (g5 : Int32) (g6 : Nat → Int32) (g7 : Int32) (g8 : Nat → Int32) (g9 : Int32) (g10 : Int64) (g11 : Int64) (g12 : Int32) (g13 : Int32) (g14 : Int32) (g15 : Int64) (g16 : Int32) (g17 : Int32) (g18 : Int64) (g19 : Int32) (r0 : Int32) (h : f_Ref_isDigit a1 g6 g7 = some r0) : Met l (⟨"OutwardTapeModel", "isDigit", "(I)Z"⟩ : MethodName) (WSm (⟨"OutwardTapeModel", "isDigit", "(I)Z"⟩ : MethodName) prog_12_method_55_code 2 (some .boolean)) rm_Ref_isDigit (va_Pc [.ref (a 0), .int a1] (fun U => U.heap.size = sz ∧ va_P D CLS (wR a q g0 g1 g2 g3 g4 g5 g6 g7 g8 g9 g10 g11 g12 g13 g14 g15 g16 g17 g18 g19) U.heap ∧ va_K D CLS (tR q) U)) (va_Qi (fun (r : Int32) (_ : Unit) => r = r0) (fun _ t => va_P D CLS (wR a q g0 g1 g2 g3 g4 g5 g6 g7 g8 g9 g10 g11 g12 g13 g14 g15 g16 g17 g18 g19) t.heap) (va_A (dR a) sz)) 0 0 (va_A (dR a) sz) := by
  refine Met.ofW (cc := prog_12_method_55_code) (maxL := 2) (ret := (some .boolean)) (by decide) rfl ?_
  intro p e s m args below meth c s₁ B hml hv
  obtain ⟨rfl, hsz, hP, hK⟩ := hv
  subst hsz
  have hC := CX.of B hml rfl
  have hl := lv_entry [.ref (a 0), .int a1] (n := 2) (Nat.le_of_ble_eq_true rfl)
  rw [lg_entry_eq]
  generalize (lg_sl [.ref (a 0), .int a1] ++ List.replicate (2 - (lg_sl [.ref (a 0), .int a1]).length) Slot.unset).toArray = ls at hl ⊢
  have hl : lv_has ls 2 [(0, .ref (a 0)), (1, .int a1)] := hl
  exact k_Ref_isDigit_0 hC (fun x h => Or.inr h) hK a1  s.heap [] ls hP (dD hd.self rfl) va_S.rf (lv_sub hl [0, 1] rfl) h
abbrev rm_Ref_isLetter : Room := { frames := 1, cells := 0, slots := 0, locals := 22 }
set_option maxRecDepth 100000 in
set_option maxHeartbeats 4000000 in
theorem k_Ref_isLetter_25 {p : Program} {l : Launch} {e : Env} {s : State} {m : MethodId} {args : Array Value} {below : List Frame} {meth : Method} {c : Code} {D : va_G} {a : Nat → Nat} {q : Nat → ClassId} {A : Nat → Prop} (hC : CX p s m args meth c prog_12_method_56_code 2 "OutwardTapeModel" (some .boolean)) (hA : ∀ x, s.heap.size ≤ x → A x) (hK : va_K D CLS (tR q) s) {g0 : Int32} {g1 : Nat → Int32} {g2 : Nat → Int64} {g3 : Nat → Int64} {g4 : Nat → Int32} {g5 : Int32} {g6 : Nat → Int32} {g7 : Int32} {g8 : Nat → Int32} {g9 : Int32} {g10 : Int64} {g11 : Int64} {g12 : Int32} {g13 : Int32} {g14 : Int32} {g15 : Int64} {g16 : Int32} {g17 : Int32} {g18 : Int64} {g19 : Int32} {r0 : Int32} : ∀ (s0 : Int32)  (H : Heap) (locs : List Loc) (ls : Array Slot), va_P D CLS (wR a q g0 g1 g2 g3 g4 g5 g6 g7 g8 g9 g10 g11 g12 g13 g14 g15 g16 g17 g18 g19) H → va_D A (wR a q g0 g1 g2 g3 g4 g5 g6 g7 g8 g9 g10 g11 g12 g13 g14 g15 g16 g17 g18 g19) → va_S A s.heap H locs → lv_has ls 2 [] → f_Ref_isLetter_25  s0 g6 g7 = some r0 → W p l e rm_Ref_isLetter s m args below meth c H locs 0 0 (MQ below (va_Qi (fun (r : Int32) (_ : Unit) => r = r0) (fun _ t => va_P D CLS (wR a q g0 g1 g2 g3 g4 g5 g6 g7 g8 g9 g10 g11 g12 g13 g14 g15 g16 g17 g18 g19) t.heap) A) args s 0 0 A) (F0 m 25 ls [.int s0]) := by
  obtain ⟨hx, hb, hml, hown, hts, hr, hlocks⟩ := id hC
  intro s0 H locs ls hP hD hS hl h
  rw [f_Ref_isLetter_25] at h
  obtain ⟨hz, h⟩ := og_of h
  obtain rfl := os_of h
  exact W.zret (v := s0) (ty := .boolean) hx hb hr (j_z_nar hz) (fun t ht hW => ⟨⟨_, (), rfl, rfl, (hPt hP ht)⟩, hS.F ht⟩) hS.2.2 (dt_at dt_Ref_isLetter 13 rfl)
set_option maxRecDepth 100000 in
set_option maxHeartbeats 4000000 in
theorem k_Ref_isLetter_24 {p : Program} {l : Launch} {e : Env} {s : State} {m : MethodId} {args : Array Value} {below : List Frame} {meth : Method} {c : Code} {D : va_G} {a : Nat → Nat} {q : Nat → ClassId} {A : Nat → Prop} (hC : CX p s m args meth c prog_12_method_56_code 2 "OutwardTapeModel" (some .boolean)) (hA : ∀ x, s.heap.size ≤ x → A x) (hK : va_K D CLS (tR q) s) {g0 : Int32} {g1 : Nat → Int32} {g2 : Nat → Int64} {g3 : Nat → Int64} {g4 : Nat → Int32} {g5 : Int32} {g6 : Nat → Int32} {g7 : Int32} {g8 : Nat → Int32} {g9 : Int32} {g10 : Int64} {g11 : Int64} {g12 : Int32} {g13 : Int32} {g14 : Int32} {g15 : Int64} {g16 : Int32} {g17 : Int32} {g18 : Int64} {g19 : Int32} {r0 : Int32} : ∀   (H : Heap) (locs : List Loc) (ls : Array Slot), va_P D CLS (wR a q g0 g1 g2 g3 g4 g5 g6 g7 g8 g9 g10 g11 g12 g13 g14 g15 g16 g17 g18 g19) H → va_D A (wR a q g0 g1 g2 g3 g4 g5 g6 g7 g8 g9 g10 g11 g12 g13 g14 g15 g16 g17 g18 g19) → va_S A s.heap H locs → lv_has ls 2 [] → f_Ref_isLetter_24  g6 g7 = some r0 → W p l e rm_Ref_isLetter s m args below meth c H locs 0 0 (MQ below (va_Qi (fun (r : Int32) (_ : Unit) => r = r0) (fun _ t => va_P D CLS (wR a q g0 g1 g2 g3 g4 g5 g6 g7 g8 g9 g10 g11 g12 g13 g14 g15 g16 g17 g18 g19) t.heap) A) args s 0 0 A) (F0 m 24 ls []) := by
  obtain ⟨hx, hb, hml, hown, hts, hr, hlocks⟩ := id hC
  intro H locs ls hP hD hS hl h
  rw [f_Ref_isLetter_24] at h
  refine lv_iconst (v := 0) hx hb (dt_at dt_Ref_isLetter 12 rfl) (by decide) ?_
  exact k_Ref_isLetter_25 hC hA hK   (0 : Int32) H locs ls hP hD hS (lv_sub hl [] rfl) h
set_option maxRecDepth 100000 in
set_option maxHeartbeats 4000000 in
theorem k_Ref_isLetter_0 {p : Program} {l : Launch} {e : Env} {s : State} {m : MethodId} {args : Array Value} {below : List Frame} {meth : Method} {c : Code} {D : va_G} {a : Nat → Nat} {q : Nat → ClassId} {A : Nat → Prop} (hC : CX p s m args meth c prog_12_method_56_code 2 "OutwardTapeModel" (some .boolean)) (hA : ∀ x, s.heap.size ≤ x → A x) (hK : va_K D CLS (tR q) s) {g0 : Int32} {g1 : Nat → Int32} {g2 : Nat → Int64} {g3 : Nat → Int64} {g4 : Nat → Int32} {g5 : Int32} {g6 : Nat → Int32} {g7 : Int32} {g8 : Nat → Int32} {g9 : Int32} {g10 : Int64} {g11 : Int64} {g12 : Int32} {g13 : Int32} {g14 : Int32} {g15 : Int64} {g16 : Int32} {g17 : Int32} {g18 : Int64} {g19 : Int32} {r0 : Int32} : ∀ (v1 : Int32)  (H : Heap) (locs : List Loc) (ls : Array Slot), va_P D CLS (wR a q g0 g1 g2 g3 g4 g5 g6 g7 g8 g9 g10 g11 g12 g13 g14 g15 g16 g17 g18 g19) H → va_D A (wR a q g0 g1 g2 g3 g4 g5 g6 g7 g8 g9 g10 g11 g12 g13 g14 g15 g16 g17 g18 g19) → va_S A s.heap H locs → lv_has ls 2 [(0, .ref (a 0)), (1, .int v1)] → f_Ref_isLetter_0  v1 g6 g7 = some r0 → W p l e rm_Ref_isLetter s m args below meth c H locs 0 0 (MQ below (va_Qi (fun (r : Int32) (_ : Unit) => r = r0) (fun _ t => va_P D CLS (wR a q g0 g1 g2 g3 g4 g5 g6 g7 g8 g9 g10 g11 g12 g13 g14 g15 g16 g17 g18 g19) t.heap) A) args s 0 0 A) (F0 m 0 ls []) := by
  obtain ⟨hx, hb, hml, hown, hts, hr, hlocks⟩ := id hC
  intro v1 H locs ls hP hD hS hl h
  rw [f_Ref_isLetter_0] at h
  refine lv_aload_n hx hb (dt_at dt_Ref_isLetter 0 rfl) rfl (lv_at hl 0 rfl) ?_
  refine lv_iload_n hx hb (dt_at dt_Ref_isLetter 1 rfl) rfl (lv_at hl 1 rfl) ?_
  obtain ⟨r1, h_r1, h⟩ := ob_of h
  have hF := va_free (wc := dR a) (dD (ws' := dR a) hD rfl) hS hA [0, 1, 2, 3, 4, 5, 6] rfl
  have hd : va_D (fun _ => True) (dR a) := (dD (ws' := dR a) hD rfl).weaken (fun _ _ _ _ => trivial)
  refine va_calli (va_runV (As := [.int v1]) (rest := []) ⟨hx, hb, hml, hown, hts⟩ (c_Ref_seen l D a q hd H.size v1 g0 g1 g2 g3 g4 g5 g6 g7 g8 g9 g10 g11 g12 g13 g14 g15 g16 g17 g18 g19 r1 h_r1) (cwV 1 hts (gd_V (m_5 15 rfl rfl) (m_5 17 rfl rfl) (m_s 51 rfl rfl) (m_1 4 rfl rfl) (m_5 18 rfl rfl)) rfl rfl rfl (by decide +kernel) ⟨Nat.le_of_ble_eq_true rfl, Nat.le_of_ble_eq_true rfl⟩) ⟨fun a U g mk q => ⟨q.1, q.2.1, q.2.2.1, va_K.moved (u := U) (U := U.calling g mk a) (Vm.Alike.refl U.vm) q.2.2.2⟩, va_recv hK hP (ci := 0) (q0 := 0) rfl rfl, fun U hU hW => ⟨rfl, by rw [hU], by rw [hU]; exact hP, va_K.moved hW.alike hK⟩⟩ rfl rfl hl.1 rfl (lv_room (Nat.le_of_ble_eq_true rfl)) (dt_at dt_Ref_isLetter 2 rfl) ⟨Nat.le_of_ble_eq_true rfl, Nat.le_of_ble_eq_true rfl⟩) hS (fun x _ h9 => hF x h9) hF (fun u_r1 uu t H locs ht hvm hw hB hz1 hk1 hS => ?_)
  rw [ht] at hB
  obtain rfl : r1 = u_r1 := hw.symm
  have hP : va_P D CLS (wR a q g0 g1 g2 g3 g4 g5 g6 g7 g8 g9 g10 g11 g12 g13 g14 g15 g16 g17 g18 g19) H := hB
  have hD : va_D A (wR a q g0 g1 g2 g3 g4 g5 g6 g7 g8 g9 g10 g11 g12 g13 g14 g15 g16 g17 g18 g19) := dD hD rfl
  refine lv_bipush (v := 97) hx hb (dt_at dt_Ref_isLetter 3 rfl) (by decide) ?_
  refine lv_icmp_lt (tgt := 24) hx hb (dt_at dt_Ref_isLetter 4 rfl) (by decide) (fun c2 => ?_) (fun c2 => ?_)
  · have h := if_p h c2
    exact k_Ref_isLetter_24 hC hA hK   H locs ls hP hD hS (lv_sub hl [] rfl) h
  · have h := if_n h c2
    refine lv_aload_n hx hb (dt_at dt_Ref_isLetter 5 rfl) rfl (lv_at hl 0 rfl) ?_
    refine lv_iload_n hx hb (dt_at dt_Ref_isLetter 6 rfl) rfl (lv_at hl 1 rfl) ?_
    obtain ⟨r3, h_r3, h⟩ := ob_of h
    have hF := va_free (wc := dR a) (dD (ws' := dR a) hD rfl) hS hA [0, 1, 2, 3, 4, 5, 6] rfl
    have hd : va_D (fun _ => True) (dR a) := (dD (ws' := dR a) hD rfl).weaken (fun _ _ _ _ => trivial)
    refine va_calli (va_runV (As := [.int v1]) (rest := []) ⟨hx, hb, hml, hown, hts⟩ (c_Ref_seen l D a q hd H.size v1 g0 g1 g2 g3 g4 g5 g6 g7 g8 g9 g10 g11 g12 g13 g14 g15 g16 g17 g18 g19 r3 h_r3) (cwV 1 hts (gd_V (m_5 15 rfl rfl) (m_5 17 rfl rfl) (m_s 51 rfl rfl) (m_1 4 rfl rfl) (m_5 18 rfl rfl)) rfl rfl rfl (by decide +kernel) ⟨Nat.le_of_ble_eq_true rfl, Nat.le_of_ble_eq_true rfl⟩) ⟨fun a U g mk q => ⟨q.1, q.2.1, q.2.2.1, va_K.moved (u := U) (U := U.calling g mk a) (Vm.Alike.refl U.vm) q.2.2.2⟩, va_recv hK hP (ci := 0) (q0 := 0) rfl rfl, fun U hU hW => ⟨rfl, by rw [hU], by rw [hU]; exact hP, va_K.moved hW.alike hK⟩⟩ rfl rfl hl.1 rfl (lv_room (Nat.le_of_ble_eq_true rfl)) (dt_at dt_Ref_isLetter 7 rfl) ⟨Nat.le_of_ble_eq_true rfl, Nat.le_of_ble_eq_true rfl⟩) hS (fun x _ h9 => hF x h9) hF (fun u_r3 uu t H locs ht hvm hw hB hz1 hk1 hS => ?_)
    rw [ht] at hB
    obtain rfl : r3 = u_r3 := hw.symm
    have hP : va_P D CLS (wR a q g0 g1 g2 g3 g4 g5 g6 g7 g8 g9 g10 g11 g12 g13 g14 g15 g16 g17 g18 g19) H := hB
    have hD : va_D A (wR a q g0 g1 g2 g3 g4 g5 g6 g7 g8 g9 g10 g11 g12 g13 g14 g15 g16 g17 g18 g19) := dD hD rfl
    refine lv_bipush (v := 122) hx hb (dt_at dt_Ref_isLetter 8 rfl) (by decide) ?_
    refine lv_icmp_gt (tgt := 24) hx hb (dt_at dt_Ref_isLetter 9 rfl) (by decide) (fun c4 => ?_) (fun c4 => ?_)
    · have h := if_p h c4
      exact k_Ref_isLetter_24 hC hA hK   H locs ls hP hD hS (lv_sub hl [] rfl) h
    · have h := if_n h c4
      refine lv_iconst (v := 1) hx hb (dt_at dt_Ref_isLetter 10 rfl) (by decide) ?_
      refine lv_goto (tgt := 25) hx hb (dt_at dt_Ref_isLetter 11 rfl) (by decide) ?_
      exact k_Ref_isLetter_25 hC hA hK   (1 : Int32) H locs ls hP hD hS (lv_sub hl [] rfl) h
set_option maxRecDepth 100000 in
set_option maxHeartbeats 4000000 in
theorem c_Ref_isLetter (l : Launch) (D : va_G) (a : Nat → Nat) (q : Nat → ClassId) (hd : va_D (fun _ => True) (dR a)) (sz : Nat) (a1 : Int32) (g0 : Int32) (g1 : Nat → Int32) (g2 : Nat → Int64) (g3 : Nat → Int64) (g4 : Nat → Int32) (g5 : Int32) (g6 : Nat → Int32) (g7 : Int32) (g8 : Nat → Int32) (g9 : Int32) (g10 : Int64) (g11 : Int64) (g12 : Int32) (g13 : Int32) (g14 : Int32) (g15 : Int64) (g16 : Int32) (g17 : Int32) (g18 : Int64) (g19 : Int32) (r0 : Int32) (h : f_Ref_isLetter a1 g6 g7 = some r0) : Met l (⟨"OutwardTapeModel", "isLetter", "(I)Z"⟩ : MethodName) (WSm (⟨"OutwardTapeModel", "isLetter", "(I)Z"⟩ : MethodName) prog_12_method_56_code 2 (some .boolean)) rm_Ref_isLetter (va_Pc [.ref (a 0), .int a1] (fun U => U.heap.size = sz ∧ va_P D CLS (wR a q g0 g1 g2 g3 g4 g5 g6 g7 g8 g9 g10 g11 g12 g13 g14 g15 g16 g17 g18 g19) U.heap ∧ va_K D CLS (tR q) U)) (va_Qi (fun (r : Int32) (_ : Unit) => r = r0) (fun _ t => va_P D CLS (wR a q g0 g1 g2 g3 g4 g5 g6 g7 g8 g9 g10 g11 g12 g13 g14 g15 g16 g17 g18 g19) t.heap) (va_A (dR a) sz)) 0 0 (va_A (dR a) sz) := by
  refine Met.ofW (cc := prog_12_method_56_code) (maxL := 2) (ret := (some .boolean)) (by decide) rfl ?_
  intro p e s m args below meth c s₁ B hml hv
  obtain ⟨rfl, hsz, hP, hK⟩ := hv
  subst hsz
  have hC := CX.of B hml rfl
  have hl := lv_entry [.ref (a 0), .int a1] (n := 2) (Nat.le_of_ble_eq_true rfl)
  rw [lg_entry_eq]
  generalize (lg_sl [.ref (a 0), .int a1] ++ List.replicate (2 - (lg_sl [.ref (a 0), .int a1]).length) Slot.unset).toArray = ls at hl ⊢
  have hl : lv_has ls 2 [(0, .ref (a 0)), (1, .int a1)] := hl
  exact k_Ref_isLetter_0 hC (fun x h => Or.inr h) hK a1  s.heap [] ls hP (dD hd.self rfl) va_S.rf (lv_sub hl [0, 1] rfl) h
abbrev rm_Ref_word : Room := { frames := 2, cells := 0, slots := 0, locals := 43 }
set_option maxRecDepth 100000 in
set_option maxHeartbeats 4000000 in
theorem k_Ref_word_78 {p : Program} {l : Launch} {e : Env} {s : State} {m : MethodId} {args : Array Value} {below : List Frame} {meth : Method} {c : Code} {D : va_G} {a : Nat → Nat} {q : Nat → ClassId} {A : Nat → Prop} (hC : CX p s m args meth c prog_12_method_57_code 4 "OutwardTapeModel" (some .long)) (hA : ∀ x, s.heap.size ≤ x → A x) (hK : va_K D CLS (tR q) s) {g0 : Int32} {g1 : Nat → Int32} {g2 : Nat → Int64} {g3 : Nat → Int64} {g4 : Nat → Int32} {g5 : Int32} {g6 : Nat → Int32} {g7 : Int32} {g8 : Nat → Int32} {g9 : Int32} {g10 : Int64} {g11 : Int64} {g12 : Int32} {g14 : Int32} {g15 : Int64} {g16 : Int32} {g17 : Int32} {g18 : Int64} {g19 : Int32} {r0 : Int64 × Int32} : ∀ (s0 : Int64) (g13 : Int32) (H : Heap) (locs : List Loc) (ls : Array Slot), va_P D CLS (wR a q g0 g1 g2 g3 g4 g5 g6 g7 g8 g9 g10 g11 g12 g13 g14 g15 g16 g17 g18 g19) H → va_D A (wR a q g0 g1 g2 g3 g4 g5 g6 g7 g8 g9 g10 g11 g12 g13 g14 g15 g16 g17 g18 g19) → va_S A s.heap H locs → lv_has ls 4 [] → f_Ref_word_78  s0 g6 g7 g13 = some r0 → W p l e rm_Ref_word s m args below meth c H locs 0 0 (MQ below (va_Ql (fun (r : Int64) (_ : Unit) => r = r0.1) (fun _ t => va_P D CLS (wR a q g0 g1 g2 g3 g4 g5 g6 g7 g8 g9 g10 g11 g12 r0.2 g14 g15 g16 g17 g18 g19) t.heap) A) args s 0 0 A) (F0 m 78 ls [.long s0]) := by
  obtain ⟨hx, hb, hml, hown, hts, hr, hlocks⟩ := id hC
  intro s0 g13 H locs ls hP hD hS hl h
  rw [f_Ref_word_78] at h
  obtain rfl := os_of h
  exact W.lret (v := s0) hx hb hr (fun t ht hW => ⟨⟨_, (), rfl, rfl, (hPt hP ht)⟩, hS.F ht⟩) hS.2.2 (dt_at dt_Ref_word 42 rfl)
set_option maxRecDepth 100000 in
set_option maxHeartbeats 4000000 in
theorem k_Ref_word_48 {p : Program} {l : Launch} {e : Env} {s : State} {m : MethodId} {args : Array Value} {below : List Frame} {meth : Method} {c : Code} {D : va_G} {a : Nat → Nat} {q : Nat → ClassId} {A : Nat → Prop} (hC : CX p s m args meth c prog_12_method_57_code 4 "OutwardTapeModel" (some .long)) (hA : ∀ x, s.heap.size ≤ x → A x) (hK : va_K D CLS (tR q) s) {g0 : Int32} {g1 : Nat → Int32} {g2 : Nat → Int64} {g3 : Nat → Int64} {g4 : Nat → Int32} {g5 : Int32} {g6 : Nat → Int32} {g7 : Int32} {g8 : Nat → Int32} {g9 : Int32} {g10 : Int64} {g11 : Int64} {g12 : Int32} {g14 : Int32} {g15 : Int64} {g16 : Int32} {g17 : Int32} {g18 : Int64} {g19 : Int32} {r0 : Int64 × Int32} (k4 : Int64 → Int32 → (Nat → Int32) → Int32 → Int32 → Option (Int64 × Int32)) (hk4 : ∀ (v1 : Int64) (v3 : Int32) (g13 : Int32) (H : Heap) (locs : List Loc) (ls : Array Slot), va_P D CLS (wR a q g0 g1 g2 g3 g4 g5 g6 g7 g8 g9 g10 g11 g12 g13 g14 g15 g16 g17 g18 g19) H → va_D A (wR a q g0 g1 g2 g3 g4 g5 g6 g7 g8 g9 g10 g11 g12 g13 g14 g15 g16 g17 g18 g19) → va_S A s.heap H locs → lv_has ls 4 [(0, .ref (a 0)), (1, .long v1), (3, .int v3)] → k4 v1 v3 g6 g7 g13 = some r0 → W p l e rm_Ref_word s m args below meth c H locs 0 0 (MQ below (va_Ql (fun (r : Int64) (_ : Unit) => r = r0.1) (fun _ t => va_P D CLS (wR a q g0 g1 g2 g3 g4 g5 g6 g7 g8 g9 g10 g11 g12 r0.2 g14 g15 g16 g17 g18 g19) t.heap) A) args s 0 0 A) (F0 m 4 ls [])) : ∀ (s0 : Int64) (v3 : Int32) (g13 : Int32) (H : Heap) (locs : List Loc) (ls : Array Slot), va_P D CLS (wR a q g0 g1 g2 g3 g4 g5 g6 g7 g8 g9 g10 g11 g12 g13 g14 g15 g16 g17 g18 g19) H → va_D A (wR a q g0 g1 g2 g3 g4 g5 g6 g7 g8 g9 g10 g11 g12 g13 g14 g15 g16 g17 g18 g19) → va_S A s.heap H locs → lv_has ls 4 [(0, .ref (a 0)), (3, .int v3)] → f_Ref_word_48 k4 s0 v3 g6 g7 g13 = some r0 → W p l e rm_Ref_word s m args below meth c H locs 0 0 (MQ below (va_Ql (fun (r : Int64) (_ : Unit) => r = r0.1) (fun _ t => va_P D CLS (wR a q g0 g1 g2 g3 g4 g5 g6 g7 g8 g9 g10 g11 g12 r0.2 g14 g15 g16 g17 g18 g19) t.heap) A) args s 0 0 A) (F0 m 48 ls [.long s0]) := by
  obtain ⟨hx, hb, hml, hown, hts, hr, hlocks⟩ := id hC
  intro s0 v3 g13 H locs ls hP hD hS hl h
  rw [f_Ref_word_48] at h
  refine lv_lstore_n (lv' := [(1, .long s0), (0, .ref (a 0)), (3, .int v3)]) hx hb (dt_at dt_Ref_word 27 rfl) rfl hl (by decide) rfl (fun ls hl => ?_)
  obtain ⟨t1, e_t1, h⟩ := ol_of h
  refine lv_iinc (v := t1) (lv' := [(3, .int t1), (1, .long s0), (0, .ref (a 0))]) hx hb (dt_at dt_Ref_word 28 rfl) hl (k := 2) rfl (by rw [e_t1]; rfl) (by decide) rfl (fun ls hl => ?_)
  refine lv_aload_n hx hb (dt_at dt_Ref_word 29 rfl) rfl (lv_at hl 2 rfl) ?_
  refine lv_dup hx hb (dt_at dt_Ref_word 30 rfl) rfl ?_
  refine va_get (D := D) (ci := 0) (v := .int g13) (C := "OutwardTapeModel") (T := T_Ref) (N := 20) hx hb hts in_Ref hown hK hP 0 rfl rfl 13 (by decide) (hts (Cond.fieldLink "OutwardTapeModel" 221 "OutwardTapeModel" "place" "I") (m_4 12 rfl rfl)) (fun _ h9 => h9) rfl (dt_at dt_Ref_word 31 rfl) ?_
  refine lv_iconst (v := 1) hx hb (dt_at dt_Ref_word 32 rfl) (by decide) ?_
  refine lv_iadd hx hb (dt_at dt_Ref_word 33 rfl) ?_
  obtain ⟨t2, e_t2, h⟩ := ol_of h
  refine lv_topi (fun u_t2 q_t2 => ?_)
  obtain rfl : t2 = u_t2 := e_t2.trans q_t2.symm
  refine va_put (D := D) (ci := 0) (v := .int t2) (ty := .int) (C := "OutwardTapeModel") (T := T_Ref) (N := 20) hx hb hts in_Ref ty_Ref tk_Ref nm_Ref hown hK hP hD hS 0 rfl rfl 13 (by decide) (hts (Cond.fieldLink "OutwardTapeModel" 221 "OutwardTapeModel" "place" "I") (m_4 12 rfl rfl)) (fun _ h9 => h9) rfl (by decide +kernel) rfl rfl (Nat.le_of_ble_eq_true rfl) (dt_at dt_Ref_word 34 rfl) (fun H locs hP hD hS => ?_)
  have hP : va_P D CLS (wR a q g0 g1 g2 g3 g4 g5 g6 g7 g8 g9 g10 g11 g12 t2 g14 g15 g16 g17 g18 g19) H := hP
  have hD : va_D A (wR a q g0 g1 g2 g3 g4 g5 g6 g7 g8 g9 g10 g11 g12 t2 g14 g15 g16 g17 g18 g19) := hD
  refine lv_goto (tgt := 4) hx hb (dt_at dt_Ref_word 35 rfl) (by decide) ?_
  exact hk4 s0 t1 t2 H locs ls hP hD hS (lv_sub hl [2, 1, 0] rfl) h
set_option maxRecDepth 100000 in
set_option maxHeartbeats 4000000 in
theorem k_Ref_word_4 {p : Program} {l : Launch} {e : Env} {s : State} {m : MethodId} {args : Array Value} {below : List Frame} {meth : Method} {c : Code} {D : va_G} {a : Nat → Nat} {q : Nat → ClassId} {A : Nat → Prop} (hC : CX p s m args meth c prog_12_method_57_code 4 "OutwardTapeModel" (some .long)) (hA : ∀ x, s.heap.size ≤ x → A x) (hK : va_K D CLS (tR q) s) {g0 : Int32} {g1 : Nat → Int32} {g2 : Nat → Int64} {g3 : Nat → Int64} {g4 : Nat → Int32} {g5 : Int32} {g6 : Nat → Int32} {g7 : Int32} {g8 : Nat → Int32} {g9 : Int32} {g10 : Int64} {g11 : Int64} {g12 : Int32} {g14 : Int32} {g15 : Int64} {g16 : Int32} {g17 : Int32} {g18 : Int64} {g19 : Int32} {r0 : Int64 × Int32} : ∀ n : Nat, ∀ (v1 : Int64) (v3 : Int32) (g13 : Int32) (H : Heap) (locs : List Loc) (ls : Array Slot), va_P D CLS (wR a q g0 g1 g2 g3 g4 g5 g6 g7 g8 g9 g10 g11 g12 g13 g14 g15 g16 g17 g18 g19) H → va_D A (wR a q g0 g1 g2 g3 g4 g5 g6 g7 g8 g9 g10 g11 g12 g13 g14 g15 g16 g17 g18 g19) → va_S A s.heap H locs → lv_has ls 4 [(0, .ref (a 0)), (1, .long v1), (3, .int v3)] → f_Ref_word_4  n v1 v3 g6 g7 g13 = some r0 → W p l e rm_Ref_word s m args below meth c H locs 0 0 (MQ below (va_Ql (fun (r : Int64) (_ : Unit) => r = r0.1) (fun _ t => va_P D CLS (wR a q g0 g1 g2 g3 g4 g5 g6 g7 g8 g9 g10 g11 g12 r0.2 g14 g15 g16 g17 g18 g19) t.heap) A) args s 0 0 A) (F0 m 4 ls []) := by
  obtain ⟨hx, hb, hml, hown, hts, hr, hlocks⟩ := id hC
  intro n
  induction n with
  | zero => intro v1 v3 g13 H locs ls hP hD hS hl h; cases h
  | succ n ih =>
    intro v1 v3 g13 H locs ls hP hD hS hl h
    rw [f_Ref_word_4] at h
    refine lv_aload_n hx hb (dt_at dt_Ref_word 4 rfl) rfl (lv_at hl 0 rfl) ?_
    refine lv_aload_n hx hb (dt_at dt_Ref_word 5 rfl) rfl (lv_at hl 0 rfl) ?_
    refine va_get (D := D) (ci := 0) (v := .int g13) (C := "OutwardTapeModel") (T := T_Ref) (N := 20) hx hb hts in_Ref hown hK hP 0 rfl rfl 13 (by decide) (hts (Cond.fieldLink "OutwardTapeModel" 221 "OutwardTapeModel" "place" "I") (m_4 12 rfl rfl)) (fun _ h9 => h9) rfl (dt_at dt_Ref_word 6 rfl) ?_
    obtain ⟨r1, h_r1, h⟩ := ob_of h
    have hF := va_free (wc := dR a) (dD (ws' := dR a) hD rfl) hS hA [0, 1, 2, 3, 4, 5, 6] rfl
    have hd : va_D (fun _ => True) (dR a) := (dD (ws' := dR a) hD rfl).weaken (fun _ _ _ _ => trivial)
    refine va_calli (va_runV (As := [.int g13]) (rest := []) ⟨hx, hb, hml, hown, hts⟩ (c_Ref_isLetter l D a q hd H.size g13 g0 g1 g2 g3 g4 g5 g6 g7 g8 g9 g10 g11 g12 g13 g14 g15 g16 g17 g18 g19 r1 h_r1) (cwV 1 hts (gd_V (m_5 31 rfl rfl) (m_5 33 rfl rfl) (m_s 55 rfl rfl) (m_1 4 rfl rfl) (m_5 34 rfl rfl)) rfl rfl rfl (by decide +kernel) ⟨Nat.le_of_ble_eq_true rfl, Nat.le_of_ble_eq_true rfl⟩) ⟨fun a U g mk q => ⟨q.1, q.2.1, q.2.2.1, va_K.moved (u := U) (U := U.calling g mk a) (Vm.Alike.refl U.vm) q.2.2.2⟩, va_recv hK hP (ci := 0) (q0 := 0) rfl rfl, fun U hU hW => ⟨rfl, by rw [hU], by rw [hU]; exact hP, va_K.moved hW.alike hK⟩⟩ rfl rfl hl.1 rfl (lv_room (Nat.le_of_ble_eq_true rfl)) (dt_at dt_Ref_word 7 rfl) ⟨Nat.le_of_ble_eq_true rfl, Nat.le_of_ble_eq_true rfl⟩) hS (fun x _ h9 => hF x h9) hF (fun u_r1 uu t H locs ht hvm hw hB hz1 hk1 hS => ?_)
    rw [ht] at hB
    obtain rfl : r1 = u_r1 := hw.symm
    have hP : va_P D CLS (wR a q g0 g1 g2 g3 g4 g5 g6 g7 g8 g9 g10 g11 g12 g13 g14 g15 g16 g17 g18 g19) H := hB
    have hD : va_D A (wR a q g0 g1 g2 g3 g4 g5 g6 g7 g8 g9 g10 g11 g12 g13 g14 g15 g16 g17 g18 g19) := dD hD rfl
    refine lv_if_eq (tgt := 65) hx hb (dt_at dt_Ref_word 8 rfl) (by decide) (fun c2 => ?_) (fun c2 => ?_)
    · have h := if_p h c2
      refine lv_iload_n hx hb (dt_at dt_Ref_word 36 rfl) rfl (lv_at hl 2 rfl) ?_
      refine lv_bipush (v := 12) hx hb (dt_at dt_Ref_word 37 rfl) (by decide) ?_
      refine lv_icmp_le (tgt := 77) hx hb (dt_at dt_Ref_word 38 rfl) (by decide) (fun c3 => ?_) (fun c3 => ?_)
      · have h := if_p h c3
        refine lv_lload_n hx hb (dt_at dt_Ref_word 41 rfl) rfl (lv_at hl 1 rfl) ?_
        exact k_Ref_word_78 hC hA hK   v1 g13 H locs ls hP hD hS (lv_sub hl [] rfl) h
      · have h := if_n h c3
        refine lv_ldc2 (v := -1) hx hb hown (hts (Cond.constantLong "OutwardTapeModel" 234 (-1)) (m_5 37 rfl rfl)) (dt_at dt_Ref_word 39 rfl) ?_
        refine lv_goto (tgt := 78) hx hb (dt_at dt_Ref_word 40 rfl) (by decide) ?_
        exact k_Ref_word_78 hC hA hK   (-1 : Int64) g13 H locs ls hP hD hS (lv_sub hl [] rfl) h
    · have h := if_n h c2
      refine lv_iload_n hx hb (dt_at dt_Ref_word 9 rfl) rfl (lv_at hl 2 rfl) ?_
      refine lv_bipush (v := 12) hx hb (dt_at dt_Ref_word 10 rfl) (by decide) ?_
      refine lv_icmp_ge (tgt := 45) hx hb (dt_at dt_Ref_word 11 rfl) (by decide) (fun c4 => ?_) (fun c4 => ?_)
      · have h := if_p h c4
        refine lv_ldc2 (v := -1) hx hb hown (hts (Cond.constantLong "OutwardTapeModel" 234 (-1)) (m_5 37 rfl rfl)) (dt_at dt_Ref_word 26 rfl) ?_
        exact k_Ref_word_48 hC hA hK (f_Ref_word_4  n) ih  (-1 : Int64) v3 g13 H locs ls hP hD hS (lv_sub hl [0, 2] rfl) h
      · have h := if_n h c4
        refine lv_ldc2 (v := 32) hx hb hown (hts (Cond.constantLong "OutwardTapeModel" 230 (32)) (m_5 35 rfl rfl)) (dt_at dt_Ref_word 12 rfl) ?_
        refine lv_lload_n hx hb (dt_at dt_Ref_word 13 rfl) rfl (lv_at hl 1 rfl) ?_
        refine lv_lmul hx hb (dt_at dt_Ref_word 14 rfl) ?_
        refine lv_aload_n hx hb (dt_at dt_Ref_word 15 rfl) rfl (lv_at hl 0 rfl) ?_
        refine lv_aload_n hx hb (dt_at dt_Ref_word 16 rfl) rfl (lv_at hl 0 rfl) ?_
        refine va_get (D := D) (ci := 0) (v := .int g13) (C := "OutwardTapeModel") (T := T_Ref) (N := 20) hx hb hts in_Ref hown hK hP 0 rfl rfl 13 (by decide) (hts (Cond.fieldLink "OutwardTapeModel" 221 "OutwardTapeModel" "place" "I") (m_4 12 rfl rfl)) (fun _ h9 => h9) rfl (dt_at dt_Ref_word 17 rfl) ?_
        obtain ⟨r5, h_r5, h⟩ := ob_of h
        have hF := va_free (wc := dR a) (dD (ws' := dR a) hD rfl) hS hA [0, 1, 2, 3, 4, 5, 6] rfl
        have hd : va_D (fun _ => True) (dR a) := (dD (ws' := dR a) hD rfl).weaken (fun _ _ _ _ => trivial)
        refine va_calli (va_runV (As := [.int g13]) (rest := [.long ((32 : Int64) * v1)]) ⟨hx, hb, hml, hown, hts⟩ (c_Ref_seen l D a q hd H.size g13 g0 g1 g2 g3 g4 g5 g6 g7 g8 g9 g10 g11 g12 g13 g14 g15 g16 g17 g18 g19 r5 h_r5) (cwV 1 hts (gd_V (m_5 15 rfl rfl) (m_5 17 rfl rfl) (m_s 51 rfl rfl) (m_1 4 rfl rfl) (m_5 18 rfl rfl)) rfl rfl rfl (by decide +kernel) ⟨Nat.le_of_ble_eq_true rfl, Nat.le_of_ble_eq_true rfl⟩) ⟨fun a U g mk q => ⟨q.1, q.2.1, q.2.2.1, va_K.moved (u := U) (U := U.calling g mk a) (Vm.Alike.refl U.vm) q.2.2.2⟩, va_recv hK hP (ci := 0) (q0 := 0) rfl rfl, fun U hU hW => ⟨rfl, by rw [hU], by rw [hU]; exact hP, va_K.moved hW.alike hK⟩⟩ rfl rfl hl.1 rfl (lv_room (Nat.le_of_ble_eq_true rfl)) (dt_at dt_Ref_word 18 rfl) ⟨Nat.le_of_ble_eq_true rfl, Nat.le_of_ble_eq_true rfl⟩) hS (fun x _ h9 => hF x h9) hF (fun u_r5 uu t H locs ht hvm hw hB hz1 hk1 hS => ?_)
        rw [ht] at hB
        obtain rfl : r5 = u_r5 := hw.symm
        have hP : va_P D CLS (wR a q g0 g1 g2 g3 g4 g5 g6 g7 g8 g9 g10 g11 g12 g13 g14 g15 g16 g17 g18 g19) H := hB
        have hD : va_D A (wR a q g0 g1 g2 g3 g4 g5 g6 g7 g8 g9 g10 g11 g12 g13 g14 g15 g16 g17 g18 g19) := dD hD rfl
        refine lv_i2l (v := r5.toInt64) hx hb (dt_at dt_Ref_word 19 rfl) rfl ?_
        refine lv_ladd hx hb (dt_at dt_Ref_word 20 rfl) ?_
        refine lv_ldc2 (v := 97) hx hb hown (hts (Cond.constantLong "OutwardTapeModel" 232 (97)) (m_5 36 rfl rfl)) (dt_at dt_Ref_word 21 rfl) ?_
        refine lv_lsub hx hb (dt_at dt_Ref_word 22 rfl) ?_
        refine lv_lconst (v := 1) hx hb (dt_at dt_Ref_word 23 rfl) (by decide) ?_
        refine lv_ladd hx hb (dt_at dt_Ref_word 24 rfl) ?_
        refine lv_goto (tgt := 48) hx hb (dt_at dt_Ref_word 25 rfl) (by decide) ?_
        exact k_Ref_word_48 hC hA hK (f_Ref_word_4  n) ih  (((((32 : Int64) * v1) + (r5.toInt64)) - (97 : Int64)) + (1 : Int64)) v3 g13 H locs ls hP hD hS (lv_sub hl [0, 2] rfl) h
set_option maxRecDepth 100000 in
set_option maxHeartbeats 4000000 in
theorem k_Ref_word_0 {p : Program} {l : Launch} {e : Env} {s : State} {m : MethodId} {args : Array Value} {below : List Frame} {meth : Method} {c : Code} {D : va_G} {a : Nat → Nat} {q : Nat → ClassId} {A : Nat → Prop} (hC : CX p s m args meth c prog_12_method_57_code 4 "OutwardTapeModel" (some .long)) (hA : ∀ x, s.heap.size ≤ x → A x) (hK : va_K D CLS (tR q) s) {g0 : Int32} {g1 : Nat → Int32} {g2 : Nat → Int64} {g3 : Nat → Int64} {g4 : Nat → Int32} {g5 : Int32} {g6 : Nat → Int32} {g7 : Int32} {g8 : Nat → Int32} {g9 : Int32} {g10 : Int64} {g11 : Int64} {g12 : Int32} {g14 : Int32} {g15 : Int64} {g16 : Int32} {g17 : Int32} {g18 : Int64} {g19 : Int32} {r0 : Int64 × Int32} : ∀  (g13 : Int32) (H : Heap) (locs : List Loc) (ls : Array Slot), va_P D CLS (wR a q g0 g1 g2 g3 g4 g5 g6 g7 g8 g9 g10 g11 g12 g13 g14 g15 g16 g17 g18 g19) H → va_D A (wR a q g0 g1 g2 g3 g4 g5 g6 g7 g8 g9 g10 g11 g12 g13 g14 g15 g16 g17 g18 g19) → va_S A s.heap H locs → lv_has ls 4 [(0, .ref (a 0))] → f_Ref_word_0  g6 g7 g13 = some r0 → W p l e rm_Ref_word s m args below meth c H locs 0 0 (MQ below (va_Ql (fun (r : Int64) (_ : Unit) => r = r0.1) (fun _ t => va_P D CLS (wR a q g0 g1 g2 g3 g4 g5 g6 g7 g8 g9 g10 g11 g12 r0.2 g14 g15 g16 g17 g18 g19) t.heap) A) args s 0 0 A) (F0 m 0 ls []) := by
  obtain ⟨hx, hb, hml, hown, hts, hr, hlocks⟩ := id hC
  intro g13 H locs ls hP hD hS hl h
  rw [f_Ref_word_0] at h
  refine lv_lconst (v := 0) hx hb (dt_at dt_Ref_word 0 rfl) (by decide) ?_
  refine lv_lstore_n (lv' := [(1, .long (0 : Int64)), (0, .ref (a 0))]) hx hb (dt_at dt_Ref_word 1 rfl) rfl hl (by decide) rfl (fun ls hl => ?_)
  refine lv_iconst (v := 0) hx hb (dt_at dt_Ref_word 2 rfl) (by decide) ?_
  refine lv_istore_n (lv' := [(3, .int (0 : Int32)), (1, .long (0 : Int64)), (0, .ref (a 0))]) hx hb (dt_at dt_Ref_word 3 rfl) rfl hl (by decide) rfl (fun ls hl => ?_)
  exact k_Ref_word_4 hC hA hK  5000 (0 : Int64) (0 : Int32) g13 H locs ls hP hD hS (lv_sub hl [2, 1, 0] rfl) h
set_option maxRecDepth 100000 in
set_option maxHeartbeats 4000000 in
theorem c_Ref_word (l : Launch) (D : va_G) (a : Nat → Nat) (q : Nat → ClassId) (hd : va_D (fun _ => True) (dR a)) (sz : Nat)  (g0 : Int32) (g1 : Nat → Int32) (g2 : Nat → Int64) (g3 : Nat → Int64) (g4 : Nat → Int32) (g5 : Int32) (g6 : Nat → Int32) (g7 : Int32) (g8 : Nat → Int32) (g9 : Int32) (g10 : Int64) (g11 : Int64) (g12 : Int32) (g13 : Int32) (g14 : Int32) (g15 : Int64) (g16 : Int32) (g17 : Int32) (g18 : Int64) (g19 : Int32) (r0 : Int64 × Int32) (h : f_Ref_word g6 g7 g13 = some r0) : Met l (⟨"OutwardTapeModel", "word", "()J"⟩ : MethodName) (WSm (⟨"OutwardTapeModel", "word", "()J"⟩ : MethodName) prog_12_method_57_code 4 (some .long)) rm_Ref_word (va_Pc [.ref (a 0)] (fun U => U.heap.size = sz ∧ va_P D CLS (wR a q g0 g1 g2 g3 g4 g5 g6 g7 g8 g9 g10 g11 g12 g13 g14 g15 g16 g17 g18 g19) U.heap ∧ va_K D CLS (tR q) U)) (va_Ql (fun (r : Int64) (_ : Unit) => r = r0.1) (fun _ t => va_P D CLS (wR a q g0 g1 g2 g3 g4 g5 g6 g7 g8 g9 g10 g11 g12 r0.2 g14 g15 g16 g17 g18 g19) t.heap) (va_A (dR a) sz)) 0 0 (va_A (dR a) sz) := by
  refine Met.ofW (cc := prog_12_method_57_code) (maxL := 4) (ret := (some .long)) (by decide) rfl ?_
  intro p e s m args below meth c s₁ B hml hv
  obtain ⟨rfl, hsz, hP, hK⟩ := hv
  subst hsz
  have hC := CX.of B hml rfl
  have hl := lv_entry [.ref (a 0)] (n := 4) (Nat.le_of_ble_eq_true rfl)
  rw [lg_entry_eq]
  generalize (lg_sl [.ref (a 0)] ++ List.replicate (4 - (lg_sl [.ref (a 0)]).length) Slot.unset).toArray = ls at hl ⊢
  have hl : lv_has ls 4 [(0, .ref (a 0))] := hl
  exact k_Ref_word_0 hC (fun x h => Or.inr h) hK  g13 s.heap [] ls hP (dD hd.self rfl) va_S.rf (lv_sub hl [0] rfl) h
abbrev rm_Ref_decimalHere : Room := { frames := 2, cells := 0, slots := 0, locals := 43 }
set_option maxRecDepth 100000 in
set_option maxHeartbeats 4000000 in
theorem k_Ref_decimalHere_422 {p : Program} {l : Launch} {e : Env} {s : State} {m : MethodId} {args : Array Value} {below : List Frame} {meth : Method} {c : Code} {D : va_G} {a : Nat → Nat} {q : Nat → ClassId} {A : Nat → Prop} (hC : CX p s m args meth c prog_12_method_60_code 9 "OutwardTapeModel" (some .boolean)) (hA : ∀ x, s.heap.size ≤ x → A x) (hK : va_K D CLS (tR q) s) {g0 : Int32} {g1 : Nat → Int32} {g2 : Nat → Int64} {g3 : Nat → Int64} {g4 : Nat → Int32} {g5 : Int32} {g6 : Nat → Int32} {g7 : Int32} {g8 : Nat → Int32} {g9 : Int32} {g10 : Int64} {g11 : Int64} {g12 : Int32} {g17 : Int32} {g18 : Int64} {g19 : Int32} {r0 : Int32 × Int32 × Int32 × Int64 × Int32} : ∀ (s0 : Int32) (g13 : Int32) (g14 : Int32) (g15 : Int64) (g16 : Int32) (H : Heap) (locs : List Loc) (ls : Array Slot), va_P D CLS (wR a q g0 g1 g2 g3 g4 g5 g6 g7 g8 g9 g10 g11 g12 g13 g14 g15 g16 g17 g18 g19) H → va_D A (wR a q g0 g1 g2 g3 g4 g5 g6 g7 g8 g9 g10 g11 g12 g13 g14 g15 g16 g17 g18 g19) → va_S A s.heap H locs → lv_has ls 9 [] → f_Ref_decimalHere_422  s0 g6 g7 g13 g14 g15 g16 = some r0 → W p l e rm_Ref_decimalHere s m args below meth c H locs 0 0 (MQ below (va_Qi (fun (r : Int32) (_ : Unit) => r = r0.1) (fun _ t => va_P D CLS (wR a q g0 g1 g2 g3 g4 g5 g6 g7 g8 g9 g10 g11 g12 r0.2.1 r0.2.2.1 r0.2.2.2.1 r0.2.2.2.2 g17 g18 g19) t.heap) A) args s 0 0 A) (F0 m 422 ls [.int s0]) := by
  obtain ⟨hx, hb, hml, hown, hts, hr, hlocks⟩ := id hC
  intro s0 g13 g14 g15 g16 H locs ls hP hD hS hl h
  rw [f_Ref_decimalHere_422] at h
  obtain ⟨hz, h⟩ := og_of h
  obtain rfl := os_of h
  exact W.zret (v := s0) (ty := .boolean) hx hb hr (j_z_nar hz) (fun t ht hW => ⟨⟨_, (), rfl, rfl, (hPt hP ht)⟩, hS.F ht⟩) hS.2.2 (dt_at dt_Ref_decimalHere 218 rfl)
set_option maxRecDepth 100000 in
set_option maxHeartbeats 4000000 in
theorem k_Ref_decimalHere_421 {p : Program} {l : Launch} {e : Env} {s : State} {m : MethodId} {args : Array Value} {below : List Frame} {meth : Method} {c : Code} {D : va_G} {a : Nat → Nat} {q : Nat → ClassId} {A : Nat → Prop} (hC : CX p s m args meth c prog_12_method_60_code 9 "OutwardTapeModel" (some .boolean)) (hA : ∀ x, s.heap.size ≤ x → A x) (hK : va_K D CLS (tR q) s) {g0 : Int32} {g1 : Nat → Int32} {g2 : Nat → Int64} {g3 : Nat → Int64} {g4 : Nat → Int32} {g5 : Int32} {g6 : Nat → Int32} {g7 : Int32} {g8 : Nat → Int32} {g9 : Int32} {g10 : Int64} {g11 : Int64} {g12 : Int32} {g17 : Int32} {g18 : Int64} {g19 : Int32} {r0 : Int32 × Int32 × Int32 × Int64 × Int32} : ∀  (g13 : Int32) (g14 : Int32) (g15 : Int64) (g16 : Int32) (H : Heap) (locs : List Loc) (ls : Array Slot), va_P D CLS (wR a q g0 g1 g2 g3 g4 g5 g6 g7 g8 g9 g10 g11 g12 g13 g14 g15 g16 g17 g18 g19) H → va_D A (wR a q g0 g1 g2 g3 g4 g5 g6 g7 g8 g9 g10 g11 g12 g13 g14 g15 g16 g17 g18 g19) → va_S A s.heap H locs → lv_has ls 9 [] → f_Ref_decimalHere_421  g6 g7 g13 g14 g15 g16 = some r0 → W p l e rm_Ref_decimalHere s m args below meth c H locs 0 0 (MQ below (va_Qi (fun (r : Int32) (_ : Unit) => r = r0.1) (fun _ t => va_P D CLS (wR a q g0 g1 g2 g3 g4 g5 g6 g7 g8 g9 g10 g11 g12 r0.2.1 r0.2.2.1 r0.2.2.2.1 r0.2.2.2.2 g17 g18 g19) t.heap) A) args s 0 0 A) (F0 m 421 ls []) := by
  obtain ⟨hx, hb, hml, hown, hts, hr, hlocks⟩ := id hC
  intro g13 g14 g15 g16 H locs ls hP hD hS hl h
  rw [f_Ref_decimalHere_421] at h
  refine lv_iconst (v := 0) hx hb (dt_at dt_Ref_decimalHere 217 rfl) (by decide) ?_
  exact k_Ref_decimalHere_422 hC hA hK   (0 : Int32) g13 g14 g15 g16 H locs ls hP hD hS (lv_sub hl [] rfl) h
set_option maxRecDepth 100000 in
set_option maxHeartbeats 4000000 in
theorem k_Ref_decimalHere_385 {p : Program} {l : Launch} {e : Env} {s : State} {m : MethodId} {args : Array Value} {below : List Frame} {meth : Method} {c : Code} {D : va_G} {a : Nat → Nat} {q : Nat → ClassId} {A : Nat → Prop} (hC : CX p s m args meth c prog_12_method_60_code 9 "OutwardTapeModel" (some .boolean)) (hA : ∀ x, s.heap.size ≤ x → A x) (hK : va_K D CLS (tR q) s) {g0 : Int32} {g1 : Nat → Int32} {g2 : Nat → Int64} {g3 : Nat → Int64} {g4 : Nat → Int32} {g5 : Int32} {g6 : Nat → Int32} {g7 : Int32} {g8 : Nat → Int32} {g9 : Int32} {g10 : Int64} {g11 : Int64} {g12 : Int32} {g17 : Int32} {g18 : Int64} {g19 : Int32} {r0 : Int32 × Int32 × Int32 × Int64 × Int32} : ∀ (v4 : Int32) (v5 : Int32) (v6 : Int32) (g13 : Int32) (g14 : Int32) (g15 : Int64) (g16 : Int32) (H : Heap) (locs : List Loc) (ls : Array Slot), va_P D CLS (wR a q g0 g1 g2 g3 g4 g5 g6 g7 g8 g9 g10 g11 g12 g13 g14 g15 g16 g17 g18 g19) H → va_D A (wR a q g0 g1 g2 g3 g4 g5 g6 g7 g8 g9 g10 g11 g12 g13 g14 g15 g16 g17 g18 g19) → va_S A s.heap H locs → lv_has ls 9 [(0, .ref (a 0)), (4, .int v4), (5, .int v5), (6, .int v6)] → f_Ref_decimalHere_385  v4 v5 v6 g6 g7 g13 g14 g15 g16 = some r0 → W p l e rm_Ref_decimalHere s m args below meth c H locs 0 0 (MQ below (va_Qi (fun (r : Int32) (_ : Unit) => r = r0.1) (fun _ t => va_P D CLS (wR a q g0 g1 g2 g3 g4 g5 g6 g7 g8 g9 g10 g11 g12 r0.2.1 r0.2.2.1 r0.2.2.2.1 r0.2.2.2.2 g17 g18 g19) t.heap) A) args s 0 0 A) (F0 m 385 ls []) := by
  obtain ⟨hx, hb, hml, hown, hts, hr, hlocks⟩ := id hC
  intro v4 v5 v6 g13 g14 g15 g16 H locs ls hP hD hS hl h
  rw [f_Ref_decimalHere_385] at h
  refine lv_aload_n hx hb (dt_at dt_Ref_decimalHere 200 rfl) rfl (lv_at hl 0 rfl) ?_
  refine lv_iload hx hb (dt_at dt_Ref_decimalHere 201 rfl) (lv_at hl 2 rfl) ?_
  refine lv_iload hx hb (dt_at dt_Ref_decimalHere 202 rfl) (lv_at hl 1 rfl) ?_
  refine lv_isub hx hb (dt_at dt_Ref_decimalHere 203 rfl) ?_
  obtain ⟨t1, e_t1, h⟩ := ol_of h
  refine lv_topi (fun u_t1 q_t1 => ?_)
  obtain rfl : t1 = u_t1 := e_t1.trans q_t1.symm
  refine va_put (D := D) (ci := 0) (v := .int t1) (ty := .int) (C := "OutwardTapeModel") (T := T_Ref) (N := 20) hx hb hts in_Ref ty_Ref tk_Ref nm_Ref hown hK hP hD hS 0 rfl rfl 16 (by decide) (hts (Cond.fieldLink "OutwardTapeModel" 255 "OutwardTapeModel" "power" "I") (m_4 15 rfl rfl)) (fun _ h9 => h9) rfl (by decide +kernel) rfl rfl (Nat.le_of_ble_eq_true rfl) (dt_at dt_Ref_decimalHere 204 rfl) (fun H locs hP hD hS => ?_)
  have hP : va_P D CLS (wR a q g0 g1 g2 g3 g4 g5 g6 g7 g8 g9 g10 g11 g12 g13 g14 g15 t1 g17 g18 g19) H := hP
  have hD : va_D A (wR a q g0 g1 g2 g3 g4 g5 g6 g7 g8 g9 g10 g11 g12 g13 g14 g15 t1 g17 g18 g19) := hD
  refine lv_iload hx hb (dt_at dt_Ref_decimalHere 205 rfl) (lv_at hl 3 rfl) ?_
  refine lv_if_eq (tgt := 421) hx hb (dt_at dt_Ref_decimalHere 206 rfl) (by decide) (fun c2 => ?_) (fun c2 => ?_)
  · have h := if_p h c2
    exact k_Ref_decimalHere_421 hC hA hK   g13 g14 g15 t1 H locs ls hP hD hS (lv_sub hl [] rfl) h
  · have h := if_n h c2
    refine lv_aload_n hx hb (dt_at dt_Ref_decimalHere 207 rfl) rfl (lv_at hl 0 rfl) ?_
    refine va_get (D := D) (ci := 0) (v := .int t1) (C := "OutwardTapeModel") (T := T_Ref) (N := 20) hx hb hts in_Ref hown hK hP 0 rfl rfl 16 (by decide) (hts (Cond.fieldLink "OutwardTapeModel" 255 "OutwardTapeModel" "power" "I") (m_4 15 rfl rfl)) (fun _ h9 => h9) rfl (dt_at dt_Ref_decimalHere 208 rfl) ?_
    refine lv_bipush (v := -40) hx hb (dt_at dt_Ref_decimalHere 209 rfl) (by decide) ?_
    refine lv_icmp_lt (tgt := 421) hx hb (dt_at dt_Ref_decimalHere 210 rfl) (by decide) (fun c3 => ?_) (fun c3 => ?_)
    · have h := if_p h c3
      exact k_Ref_decimalHere_421 hC hA hK   g13 g14 g15 t1 H locs ls hP hD hS (lv_sub hl [] rfl) h
    · have h := if_n h c3
      refine lv_aload_n hx hb (dt_at dt_Ref_decimalHere 211 rfl) rfl (lv_at hl 0 rfl) ?_
      refine va_get (D := D) (ci := 0) (v := .int t1) (C := "OutwardTapeModel") (T := T_Ref) (N := 20) hx hb hts in_Ref hown hK hP 0 rfl rfl 16 (by decide) (hts (Cond.fieldLink "OutwardTapeModel" 255 "OutwardTapeModel" "power" "I") (m_4 15 rfl rfl)) (fun _ h9 => h9) rfl (dt_at dt_Ref_decimalHere 212 rfl) ?_
      refine lv_bipush (v := 40) hx hb (dt_at dt_Ref_decimalHere 213 rfl) (by decide) ?_
      refine lv_icmp_gt (tgt := 421) hx hb (dt_at dt_Ref_decimalHere 214 rfl) (by decide) (fun c4 => ?_) (fun c4 => ?_)
      · have h := if_p h c4
        exact k_Ref_decimalHere_421 hC hA hK   g13 g14 g15 t1 H locs ls hP hD hS (lv_sub hl [] rfl) h
      · have h := if_n h c4
        refine lv_iconst (v := 1) hx hb (dt_at dt_Ref_decimalHere 215 rfl) (by decide) ?_
        refine lv_goto (tgt := 422) hx hb (dt_at dt_Ref_decimalHere 216 rfl) (by decide) ?_
        exact k_Ref_decimalHere_422 hC hA hK   (1 : Int32) g13 g14 g15 t1 H locs ls hP hD hS (lv_sub hl [] rfl) h
set_option maxRecDepth 100000 in
set_option maxHeartbeats 4000000 in
theorem k_Ref_decimalHere_383 {p : Program} {l : Launch} {e : Env} {s : State} {m : MethodId} {args : Array Value} {below : List Frame} {meth : Method} {c : Code} {D : va_G} {a : Nat → Nat} {q : Nat → ClassId} {A : Nat → Prop} (hC : CX p s m args meth c prog_12_method_60_code 9 "OutwardTapeModel" (some .boolean)) (hA : ∀ x, s.heap.size ≤ x → A x) (hK : va_K D CLS (tR q) s) {g0 : Int32} {g1 : Nat → Int32} {g2 : Nat → Int64} {g3 : Nat → Int64} {g4 : Nat → Int32} {g5 : Int32} {g6 : Nat → Int32} {g7 : Int32} {g8 : Nat → Int32} {g9 : Int32} {g10 : Int64} {g11 : Int64} {g12 : Int32} {g17 : Int32} {g18 : Int64} {g19 : Int32} {r0 : Int32 × Int32 × Int32 × Int64 × Int32} : ∀ (s0 : Int32) (v4 : Int32) (v6 : Int32) (g13 : Int32) (g14 : Int32) (g15 : Int64) (g16 : Int32) (H : Heap) (locs : List Loc) (ls : Array Slot), va_P D CLS (wR a q g0 g1 g2 g3 g4 g5 g6 g7 g8 g9 g10 g11 g12 g13 g14 g15 g16 g17 g18 g19) H → va_D A (wR a q g0 g1 g2 g3 g4 g5 g6 g7 g8 g9 g10 g11 g12 g13 g14 g15 g16 g17 g18 g19) → va_S A s.heap H locs → lv_has ls 9 [(0, .ref (a 0)), (4, .int v4), (6, .int v6)] → f_Ref_decimalHere_383  s0 v4 v6 g6 g7 g13 g14 g15 g16 = some r0 → W p l e rm_Ref_decimalHere s m args below meth c H locs 0 0 (MQ below (va_Qi (fun (r : Int32) (_ : Unit) => r = r0.1) (fun _ t => va_P D CLS (wR a q g0 g1 g2 g3 g4 g5 g6 g7 g8 g9 g10 g11 g12 r0.2.1 r0.2.2.1 r0.2.2.2.1 r0.2.2.2.2 g17 g18 g19) t.heap) A) args s 0 0 A) (F0 m 383 ls [.int s0]) := by
  obtain ⟨hx, hb, hml, hown, hts, hr, hlocks⟩ := id hC
  intro s0 v4 v6 g13 g14 g15 g16 H locs ls hP hD hS hl h
  rw [f_Ref_decimalHere_383] at h
  refine lv_istore (lv' := [(5, .int s0), (0, .ref (a 0)), (4, .int v4), (6, .int v6)]) hx hb (dt_at dt_Ref_decimalHere 199 rfl) hl (by decide) rfl (fun ls hl => ?_)
  exact k_Ref_decimalHere_385 hC hA hK   v4 s0 v6 g13 g14 g15 g16 H locs ls hP hD hS (lv_sub hl [1, 2, 0, 3] rfl) h
set_option maxRecDepth 100000 in
set_option maxHeartbeats 4000000 in
theorem k_Ref_decimalHere_368 {p : Program} {l : Launch} {e : Env} {s : State} {m : MethodId} {args : Array Value} {below : List Frame} {meth : Method} {c : Code} {D : va_G} {a : Nat → Nat} {q : Nat → ClassId} {A : Nat → Prop} (hC : CX p s m args meth c prog_12_method_60_code 9 "OutwardTapeModel" (some .boolean)) (hA : ∀ x, s.heap.size ≤ x → A x) (hK : va_K D CLS (tR q) s) {g0 : Int32} {g1 : Nat → Int32} {g2 : Nat → Int64} {g3 : Nat → Int64} {g4 : Nat → Int32} {g5 : Int32} {g6 : Nat → Int32} {g7 : Int32} {g8 : Nat → Int32} {g9 : Int32} {g10 : Int64} {g11 : Int64} {g12 : Int32} {g17 : Int32} {g18 : Int64} {g19 : Int32} {r0 : Int32 × Int32 × Int32 × Int64 × Int32} : ∀ (s0 : Int32) (v4 : Int32) (v5 : Int32) (v7 : Int32) (g13 : Int32) (g14 : Int32) (g15 : Int64) (g16 : Int32) (H : Heap) (locs : List Loc) (ls : Array Slot), va_P D CLS (wR a q g0 g1 g2 g3 g4 g5 g6 g7 g8 g9 g10 g11 g12 g13 g14 g15 g16 g17 g18 g19) H → va_D A (wR a q g0 g1 g2 g3 g4 g5 g6 g7 g8 g9 g10 g11 g12 g13 g14 g15 g16 g17 g18 g19) → va_S A s.heap H locs → lv_has ls 9 [(0, .ref (a 0)), (4, .int v4), (5, .int v5), (7, .int v7)] → f_Ref_decimalHere_368  s0 v4 v5 v7 g6 g7 g13 g14 g15 g16 = some r0 → W p l e rm_Ref_decimalHere s m args below meth c H locs 0 0 (MQ below (va_Qi (fun (r : Int32) (_ : Unit) => r = r0.1) (fun _ t => va_P D CLS (wR a q g0 g1 g2 g3 g4 g5 g6 g7 g8 g9 g10 g11 g12 r0.2.1 r0.2.2.1 r0.2.2.2.1 r0.2.2.2.2 g17 g18 g19) t.heap) A) args s 0 0 A) (F0 m 368 ls [.int s0]) := by
  obtain ⟨hx, hb, hml, hown, hts, hr, hlocks⟩ := id hC
  intro s0 v4 v5 v7 g13 g14 g15 g16 H locs ls hP hD hS hl h
  rw [f_Ref_decimalHere_368] at h
  refine lv_istore (lv' := [(6, .int s0), (0, .ref (a 0)), (4, .int v4), (5, .int v5), (7, .int v7)]) hx hb (dt_at dt_Ref_decimalHere 192 rfl) hl (by decide) rfl (fun ls hl => ?_)
  refine lv_iload hx hb (dt_at dt_Ref_decimalHere 193 rfl) (lv_at hl 4 rfl) ?_
  refine lv_if_eq (tgt := 381) hx hb (dt_at dt_Ref_decimalHere 194 rfl) (by decide) (fun c1 => ?_) (fun c1 => ?_)
  · have h := if_p h c1
    refine lv_iload hx hb (dt_at dt_Ref_decimalHere 198 rfl) (lv_at hl 3 rfl) ?_
    exact k_Ref_decimalHere_383 hC hA hK   v5 v4 s0 g13 g14 g15 g16 H locs ls hP hD hS (lv_sub hl [1, 2, 0] rfl) h
  · have h := if_n h c1
    refine lv_iload hx hb (dt_at dt_Ref_decimalHere 195 rfl) (lv_at hl 3 rfl) ?_
    refine lv_ineg hx hb (dt_at dt_Ref_decimalHere 196 rfl) ?_
    refine lv_goto (tgt := 383) hx hb (dt_at dt_Ref_decimalHere 197 rfl) (by decide) ?_
    exact k_Ref_decimalHere_383 hC hA hK   (-v5) v4 s0 g13 g14 g15 g16 H locs ls hP hD hS (lv_sub hl [1, 2, 0] rfl) h
set_option maxRecDepth 100000 in
set_option maxHeartbeats 4000000 in
theorem k_Ref_decimalHere_367 {p : Program} {l : Launch} {e : Env} {s : State} {m : MethodId} {args : Array Value} {below : List Frame} {meth : Method} {c : Code} {D : va_G} {a : Nat → Nat} {q : Nat → ClassId} {A : Nat → Prop} (hC : CX p s m args meth c prog_12_method_60_code 9 "OutwardTapeModel" (some .boolean)) (hA : ∀ x, s.heap.size ≤ x → A x) (hK : va_K D CLS (tR q) s) {g0 : Int32} {g1 : Nat → Int32} {g2 : Nat → Int64} {g3 : Nat → Int64} {g4 : Nat → Int32} {g5 : Int32} {g6 : Nat → Int32} {g7 : Int32} {g8 : Nat → Int32} {g9 : Int32} {g10 : Int64} {g11 : Int64} {g12 : Int32} {g17 : Int32} {g18 : Int64} {g19 : Int32} {r0 : Int32 × Int32 × Int32 × Int64 × Int32} : ∀ (v4 : Int32) (v5 : Int32) (v7 : Int32) (g13 : Int32) (g14 : Int32) (g15 : Int64) (g16 : Int32) (H : Heap) (locs : List Loc) (ls : Array Slot), va_P D CLS (wR a q g0 g1 g2 g3 g4 g5 g6 g7 g8 g9 g10 g11 g12 g13 g14 g15 g16 g17 g18 g19) H → va_D A (wR a q g0 g1 g2 g3 g4 g5 g6 g7 g8 g9 g10 g11 g12 g13 g14 g15 g16 g17 g18 g19) → va_S A s.heap H locs → lv_has ls 9 [(0, .ref (a 0)), (4, .int v4), (5, .int v5), (7, .int v7)] → f_Ref_decimalHere_367  v4 v5 v7 g6 g7 g13 g14 g15 g16 = some r0 → W p l e rm_Ref_decimalHere s m args below meth c H locs 0 0 (MQ below (va_Qi (fun (r : Int32) (_ : Unit) => r = r0.1) (fun _ t => va_P D CLS (wR a q g0 g1 g2 g3 g4 g5 g6 g7 g8 g9 g10 g11 g12 r0.2.1 r0.2.2.1 r0.2.2.2.1 r0.2.2.2.2 g17 g18 g19) t.heap) A) args s 0 0 A) (F0 m 367 ls []) := by
  obtain ⟨hx, hb, hml, hown, hts, hr, hlocks⟩ := id hC
  intro v4 v5 v7 g13 g14 g15 g16 H locs ls hP hD hS hl h
  rw [f_Ref_decimalHere_367] at h
  refine lv_iconst (v := 0) hx hb (dt_at dt_Ref_decimalHere 191 rfl) (by decide) ?_
  exact k_Ref_decimalHere_368 hC hA hK   (0 : Int32) v4 v5 v7 g13 g14 g15 g16 H locs ls hP hD hS (lv_sub hl [0, 1, 2, 3] rfl) h
set_option maxRecDepth 100000 in
set_option maxHeartbeats 4000000 in
theorem k_Ref_decimalHere_353 {p : Program} {l : Launch} {e : Env} {s : State} {m : MethodId} {args : Array Value} {below : List Frame} {meth : Method} {c : Code} {D : va_G} {a : Nat → Nat} {q : Nat → ClassId} {A : Nat → Prop} (hC : CX p s m args meth c prog_12_method_60_code 9 "OutwardTapeModel" (some .boolean)) (hA : ∀ x, s.heap.size ≤ x → A x) (hK : va_K D CLS (tR q) s) {g0 : Int32} {g1 : Nat → Int32} {g2 : Nat → Int64} {g3 : Nat → Int64} {g4 : Nat → Int32} {g5 : Int32} {g6 : Nat → Int32} {g7 : Int32} {g8 : Nat → Int32} {g9 : Int32} {g10 : Int64} {g11 : Int64} {g12 : Int32} {g17 : Int32} {g18 : Int64} {g19 : Int32} {r0 : Int32 × Int32 × Int32 × Int64 × Int32} : ∀ (v4 : Int32) (v5 : Int32) (v6 : Int32) (v7 : Int32) (v8 : Int32) (g13 : Int32) (g14 : Int32) (g15 : Int64) (g16 : Int32) (H : Heap) (locs : List Loc) (ls : Array Slot), va_P D CLS (wR a q g0 g1 g2 g3 g4 g5 g6 g7 g8 g9 g10 g11 g12 g13 g14 g15 g16 g17 g18 g19) H → va_D A (wR a q g0 g1 g2 g3 g4 g5 g6 g7 g8 g9 g10 g11 g12 g13 g14 g15 g16 g17 g18 g19) → va_S A s.heap H locs → lv_has ls 9 [(0, .ref (a 0)), (4, .int v4), (5, .int v5), (6, .int v6), (7, .int v7), (8, .int v8)] → f_Ref_decimalHere_353  v4 v5 v6 v7 v8 g6 g7 g13 g14 g15 g16 = some r0 → W p l e rm_Ref_decimalHere s m args below meth c H locs 0 0 (MQ below (va_Qi (fun (r : Int32) (_ : Unit) => r = r0.1) (fun _ t => va_P D CLS (wR a q g0 g1 g2 g3 g4 g5 g6 g7 g8 g9 g10 g11 g12 r0.2.1 r0.2.2.1 r0.2.2.2.1 r0.2.2.2.2 g17 g18 g19) t.heap) A) args s 0 0 A) (F0 m 353 ls []) := by
  obtain ⟨hx, hb, hml, hown, hts, hr, hlocks⟩ := id hC
  intro v4 v5 v6 v7 v8 g13 g14 g15 g16 H locs ls hP hD hS hl h
  rw [f_Ref_decimalHere_353] at h
  refine lv_iload hx hb (dt_at dt_Ref_decimalHere 185 rfl) (lv_at hl 3 rfl) ?_
  refine lv_if_eq (tgt := 367) hx hb (dt_at dt_Ref_decimalHere 186 rfl) (by decide) (fun c1 => ?_) (fun c1 => ?_)
  · have h := if_p h c1
    exact k_Ref_decimalHere_367 hC hA hK   v4 v5 v7 g13 g14 g15 g16 H locs ls hP hD hS (lv_sub hl [0, 1, 2, 4] rfl) h
  · have h := if_n h c1
    refine lv_iload hx hb (dt_at dt_Ref_decimalHere 187 rfl) (lv_at hl 5 rfl) ?_
    refine lv_if_le (tgt := 367) hx hb (dt_at dt_Ref_decimalHere 188 rfl) (by decide) (fun c2 => ?_) (fun c2 => ?_)
    · have h := if_p h c2
      exact k_Ref_decimalHere_367 hC hA hK   v4 v5 v7 g13 g14 g15 g16 H locs ls hP hD hS (lv_sub hl [0, 1, 2, 4] rfl) h
    · have h := if_n h c2
      refine lv_iconst (v := 1) hx hb (dt_at dt_Ref_decimalHere 189 rfl) (by decide) ?_
      refine lv_goto (tgt := 368) hx hb (dt_at dt_Ref_decimalHere 190 rfl) (by decide) ?_
      exact k_Ref_decimalHere_368 hC hA hK   (1 : Int32) v4 v5 v7 g13 g14 g15 g16 H locs ls hP hD hS (lv_sub hl [0, 1, 2, 4] rfl) h
set_option maxRecDepth 100000 in
set_option maxHeartbeats 4000000 in
theorem k_Ref_decimalHere_301 {p : Program} {l : Launch} {e : Env} {s : State} {m : MethodId} {args : Array Value} {below : List Frame} {meth : Method} {c : Code} {D : va_G} {a : Nat → Nat} {q : Nat → ClassId} {A : Nat → Prop} (hC : CX p s m args meth c prog_12_method_60_code 9 "OutwardTapeModel" (some .boolean)) (hA : ∀ x, s.heap.size ≤ x → A x) (hK : va_K D CLS (tR q) s) {g0 : Int32} {g1 : Nat → Int32} {g2 : Nat → Int64} {g3 : Nat → Int64} {g4 : Nat → Int32} {g5 : Int32} {g6 : Nat → Int32} {g7 : Int32} {g8 : Nat → Int32} {g9 : Int32} {g10 : Int64} {g11 : Int64} {g12 : Int32} {g17 : Int32} {g18 : Int64} {g19 : Int32} {r0 : Int32 × Int32 × Int32 × Int64 × Int32} : ∀ n : Nat, ∀ (v4 : Int32) (v5 : Int32) (v6 : Int32) (v7 : Int32) (v8 : Int32) (g13 : Int32) (g14 : Int32) (g15 : Int64) (g16 : Int32) (H : Heap) (locs : List Loc) (ls : Array Slot), va_P D CLS (wR a q g0 g1 g2 g3 g4 g5 g6 g7 g8 g9 g10 g11 g12 g13 g14 g15 g16 g17 g18 g19) H → va_D A (wR a q g0 g1 g2 g3 g4 g5 g6 g7 g8 g9 g10 g11 g12 g13 g14 g15 g16 g17 g18 g19) → va_S A s.heap H locs → lv_has ls 9 [(0, .ref (a 0)), (4, .int v4), (5, .int v5), (6, .int v6), (7, .int v7), (8, .int v8)] → f_Ref_decimalHere_301  n v4 v5 v6 v7 v8 g6 g7 g13 g14 g15 g16 = some r0 → W p l e rm_Ref_decimalHere s m args below meth c H locs 0 0 (MQ below (va_Qi (fun (r : Int32) (_ : Unit) => r = r0.1) (fun _ t => va_P D CLS (wR a q g0 g1 g2 g3 g4 g5 g6 g7 g8 g9 g10 g11 g12 r0.2.1 r0.2.2.1 r0.2.2.2.1 r0.2.2.2.2 g17 g18 g19) t.heap) A) args s 0 0 A) (F0 m 301 ls []) := by
  obtain ⟨hx, hb, hml, hown, hts, hr, hlocks⟩ := id hC
  intro n
  induction n with
  | zero => intro v4 v5 v6 v7 v8 g13 g14 g15 g16 H locs ls hP hD hS hl h; cases h
  | succ n ih =>
    intro v4 v5 v6 v7 v8 g13 g14 g15 g16 H locs ls hP hD hS hl h
    rw [f_Ref_decimalHere_301] at h
    refine lv_aload_n hx hb (dt_at dt_Ref_decimalHere 158 rfl) rfl (lv_at hl 0 rfl) ?_
    refine lv_aload_n hx hb (dt_at dt_Ref_decimalHere 159 rfl) rfl (lv_at hl 0 rfl) ?_
    refine va_get (D := D) (ci := 0) (v := .int g13) (C := "OutwardTapeModel") (T := T_Ref) (N := 20) hx hb hts in_Ref hown hK hP 0 rfl rfl 13 (by decide) (hts (Cond.fieldLink "OutwardTapeModel" 221 "OutwardTapeModel" "place" "I") (m_4 12 rfl rfl)) (fun _ h9 => h9) rfl (dt_at dt_Ref_decimalHere 160 rfl) ?_
    obtain ⟨r1, h_r1, h⟩ := ob_of h
    have hF := va_free (wc := dR a) (dD (ws' := dR a) hD rfl) hS hA [0, 1, 2, 3, 4, 5, 6] rfl
    have hd : va_D (fun _ => True) (dR a) := (dD (ws' := dR a) hD rfl).weaken (fun _ _ _ _ => trivial)
    refine va_calli (va_runV (As := [.int g13]) (rest := []) ⟨hx, hb, hml, hown, hts⟩ (c_Ref_isDigit l D a q hd H.size g13 g0 g1 g2 g3 g4 g5 g6 g7 g8 g9 g10 g11 g12 g13 g14 g15 g16 g17 g18 g19 r1 h_r1) (cwV 1 hts (gd_V (m_5 60 rfl rfl) (m_5 62 rfl rfl) (m_s 59 rfl rfl) (m_1 4 rfl rfl) (m_5 63 rfl rfl)) rfl rfl rfl (by decide +kernel) ⟨Nat.le_of_ble_eq_true rfl, Nat.le_of_ble_eq_true rfl⟩) ⟨fun a U g mk q => ⟨q.1, q.2.1, q.2.2.1, va_K.moved (u := U) (U := U.calling g mk a) (Vm.Alike.refl U.vm) q.2.2.2⟩, va_recv hK hP (ci := 0) (q0 := 0) rfl rfl, fun U hU hW => ⟨rfl, by rw [hU], by rw [hU]; exact hP, va_K.moved hW.alike hK⟩⟩ rfl rfl hl.1 rfl (lv_room (Nat.le_of_ble_eq_true rfl)) (dt_at dt_Ref_decimalHere 161 rfl) ⟨Nat.le_of_ble_eq_true rfl, Nat.le_of_ble_eq_true rfl⟩) hS (fun x _ h9 => hF x h9) hF (fun u_r1 uu t H locs ht hvm hw hB hz1 hk1 hS => ?_)
    rw [ht] at hB
    obtain rfl : r1 = u_r1 := hw.symm
    have hP : va_P D CLS (wR a q g0 g1 g2 g3 g4 g5 g6 g7 g8 g9 g10 g11 g12 g13 g14 g15 g16 g17 g18 g19) H := hB
    have hD : va_D A (wR a q g0 g1 g2 g3 g4 g5 g6 g7 g8 g9 g10 g11 g12 g13 g14 g15 g16 g17 g18 g19) := dD hD rfl
    refine lv_if_eq (tgt := 353) hx hb (dt_at dt_Ref_decimalHere 162 rfl) (by decide) (fun c2 => ?_) (fun c2 => ?_)
    · have h := if_p h c2
      exact k_Ref_decimalHere_353 hC hA hK   v4 v5 v6 v7 v8 g13 g14 g15 g16 H locs ls hP hD hS (lv_sub hl [0, 1, 2, 3, 4, 5] rfl) h
    · have h := if_n h c2
      refine lv_iload hx hb (dt_at dt_Ref_decimalHere 163 rfl) (lv_at hl 5 rfl) ?_
      refine lv_iconst (v := 2) hx hb (dt_at dt_Ref_decimalHere 164 rfl) (by decide) ?_
      refine lv_icmp_ge (tgt := 353) hx hb (dt_at dt_Ref_decimalHere 165 rfl) (by decide) (fun c3 => ?_) (fun c3 => ?_)
      · have h := if_p h c3
        exact k_Ref_decimalHere_353 hC hA hK   v4 v5 v6 v7 v8 g13 g14 g15 g16 H locs ls hP hD hS (lv_sub hl [0, 1, 2, 3, 4, 5] rfl) h
      · have h := if_n h c3
        refine lv_bipush (v := 10) hx hb (dt_at dt_Ref_decimalHere 166 rfl) (by decide) ?_
        refine lv_iload hx hb (dt_at dt_Ref_decimalHere 167 rfl) (lv_at hl 2 rfl) ?_
        refine lv_imul hx hb (dt_at dt_Ref_decimalHere 168 rfl) ?_
        refine lv_aload_n hx hb (dt_at dt_Ref_decimalHere 169 rfl) rfl (lv_at hl 0 rfl) ?_
        refine lv_aload_n hx hb (dt_at dt_Ref_decimalHere 170 rfl) rfl (lv_at hl 0 rfl) ?_
        refine va_get (D := D) (ci := 0) (v := .int g13) (C := "OutwardTapeModel") (T := T_Ref) (N := 20) hx hb hts in_Ref hown hK hP 0 rfl rfl 13 (by decide) (hts (Cond.fieldLink "OutwardTapeModel" 221 "OutwardTapeModel" "place" "I") (m_4 12 rfl rfl)) (fun _ h9 => h9) rfl (dt_at dt_Ref_decimalHere 171 rfl) ?_
        obtain ⟨r4, h_r4, h⟩ := ob_of h
        have hF := va_free (wc := dR a) (dD (ws' := dR a) hD rfl) hS hA [0, 1, 2, 3, 4, 5, 6] rfl
        have hd : va_D (fun _ => True) (dR a) := (dD (ws' := dR a) hD rfl).weaken (fun _ _ _ _ => trivial)
        refine va_calli (va_runV (As := [.int g13]) (rest := [.int ((10 : Int32) * v5)]) ⟨hx, hb, hml, hown, hts⟩ (c_Ref_seen l D a q hd H.size g13 g0 g1 g2 g3 g4 g5 g6 g7 g8 g9 g10 g11 g12 g13 g14 g15 g16 g17 g18 g19 r4 h_r4) (cwV 1 hts (gd_V (m_5 15 rfl rfl) (m_5 17 rfl rfl) (m_s 51 rfl rfl) (m_1 4 rfl rfl) (m_5 18 rfl rfl)) rfl rfl rfl (by decide +kernel) ⟨Nat.le_of_ble_eq_true rfl, Nat.le_of_ble_eq_true rfl⟩) ⟨fun a U g mk q => ⟨q.1, q.2.1, q.2.2.1, va_K.moved (u := U) (U := U.calling g mk a) (Vm.Alike.refl U.vm) q.2.2.2⟩, va_recv hK hP (ci := 0) (q0 := 0) rfl rfl, fun U hU hW => ⟨rfl, by rw [hU], by rw [hU]; exact hP, va_K.moved hW.alike hK⟩⟩ rfl rfl hl.1 rfl (lv_room (Nat.le_of_ble_eq_true rfl)) (dt_at dt_Ref_decimalHere 172 rfl) ⟨Nat.le_of_ble_eq_true rfl, Nat.le_of_ble_eq_true rfl⟩) hS (fun x _ h9 => hF x h9) hF (fun u_r4 uu t H locs ht hvm hw hB hz1 hk1 hS => ?_)
        rw [ht] at hB
        obtain rfl : r4 = u_r4 := hw.symm
        have hP : va_P D CLS (wR a q g0 g1 g2 g3 g4 g5 g6 g7 g8 g9 g10 g11 g12 g13 g14 g15 g16 g17 g18 g19) H := hB
        have hD : va_D A (wR a q g0 g1 g2 g3 g4 g5 g6 g7 g8 g9 g10 g11 g12 g13 g14 g15 g16 g17 g18 g19) := dD hD rfl
        refine lv_iadd hx hb (dt_at dt_Ref_decimalHere 173 rfl) ?_
        refine lv_bipush (v := 48) hx hb (dt_at dt_Ref_decimalHere 174 rfl) (by decide) ?_
        refine lv_isub hx hb (dt_at dt_Ref_decimalHere 175 rfl) ?_
        obtain ⟨t5, e_t5, h⟩ := ol_of h
        refine lv_topi (fun u_t5 q_t5 => ?_)
        obtain rfl : t5 = u_t5 := e_t5.trans q_t5.symm
        refine lv_istore (lv' := [(5, .int t5), (0, .ref (a 0)), (4, .int v4), (6, .int v6), (7, .int v7), (8, .int v8)]) hx hb (dt_at dt_Ref_decimalHere 176 rfl) hl (by decide) rfl (fun ls hl => ?_)
        refine lv_aload_n hx hb (dt_at dt_Ref_decimalHere 177 rfl) rfl (lv_at hl 1 rfl) ?_
        refine lv_dup hx hb (dt_at dt_Ref_decimalHere 178 rfl) rfl ?_
        refine va_get (D := D) (ci := 0) (v := .int g13) (C := "OutwardTapeModel") (T := T_Ref) (N := 20) hx hb hts in_Ref hown hK hP 0 rfl rfl 13 (by decide) (hts (Cond.fieldLink "OutwardTapeModel" 221 "OutwardTapeModel" "place" "I") (m_4 12 rfl rfl)) (fun _ h9 => h9) rfl (dt_at dt_Ref_decimalHere 179 rfl) ?_
        refine lv_iconst (v := 1) hx hb (dt_at dt_Ref_decimalHere 180 rfl) (by decide) ?_
        refine lv_iadd hx hb (dt_at dt_Ref_decimalHere 181 rfl) ?_
        obtain ⟨t6, e_t6, h⟩ := ol_of h
        refine lv_topi (fun u_t6 q_t6 => ?_)
        obtain rfl : t6 = u_t6 := e_t6.trans q_t6.symm
        refine va_put (D := D) (ci := 0) (v := .int t6) (ty := .int) (C := "OutwardTapeModel") (T := T_Ref) (N := 20) hx hb hts in_Ref ty_Ref tk_Ref nm_Ref hown hK hP hD hS 0 rfl rfl 13 (by decide) (hts (Cond.fieldLink "OutwardTapeModel" 221 "OutwardTapeModel" "place" "I") (m_4 12 rfl rfl)) (fun _ h9 => h9) rfl (by decide +kernel) rfl rfl (Nat.le_of_ble_eq_true rfl) (dt_at dt_Ref_decimalHere 182 rfl) (fun H locs hP hD hS => ?_)
        have hP : va_P D CLS (wR a q g0 g1 g2 g3 g4 g5 g6 g7 g8 g9 g10 g11 g12 t6 g14 g15 g16 g17 g18 g19) H := hP
        have hD : va_D A (wR a q g0 g1 g2 g3 g4 g5 g6 g7 g8 g9 g10 g11 g12 t6 g14 g15 g16 g17 g18 g19) := hD
        obtain ⟨t7, e_t7, h⟩ := ol_of h
        refine lv_iinc (v := t7) (lv' := [(8, .int t7), (5, .int t5), (0, .ref (a 0)), (4, .int v4), (6, .int v6), (7, .int v7)]) hx hb (dt_at dt_Ref_decimalHere 183 rfl) hl (k := 5) rfl (by rw [e_t7]; rfl) (by decide) rfl (fun ls hl => ?_)
        refine lv_goto (tgt := 301) hx hb (dt_at dt_Ref_decimalHere 184 rfl) (by decide) ?_
        exact ih v4 t5 v6 v7 t7 t6 g14 g15 g16 H locs ls hP hD hS (lv_sub hl [2, 3, 1, 4, 5, 0] rfl) h
set_option maxRecDepth 100000 in
set_option maxHeartbeats 4000000 in
theorem k_Ref_decimalHere_295 {p : Program} {l : Launch} {e : Env} {s : State} {m : MethodId} {args : Array Value} {below : List Frame} {meth : Method} {c : Code} {D : va_G} {a : Nat → Nat} {q : Nat → ClassId} {A : Nat → Prop} (hC : CX p s m args meth c prog_12_method_60_code 9 "OutwardTapeModel" (some .boolean)) (hA : ∀ x, s.heap.size ≤ x → A x) (hK : va_K D CLS (tR q) s) {g0 : Int32} {g1 : Nat → Int32} {g2 : Nat → Int64} {g3 : Nat → Int64} {g4 : Nat → Int32} {g5 : Int32} {g6 : Nat → Int32} {g7 : Int32} {g8 : Nat → Int32} {g9 : Int32} {g10 : Int64} {g11 : Int64} {g12 : Int32} {g17 : Int32} {g18 : Int64} {g19 : Int32} {r0 : Int32 × Int32 × Int32 × Int64 × Int32} : ∀ (s0 : Int32) (v4 : Int32) (v5 : Int32) (v6 : Int32) (v7 : Int32) (g13 : Int32) (g14 : Int32) (g15 : Int64) (g16 : Int32) (H : Heap) (locs : List Loc) (ls : Array Slot), va_P D CLS (wR a q g0 g1 g2 g3 g4 g5 g6 g7 g8 g9 g10 g11 g12 g13 g14 g15 g16 g17 g18 g19) H → va_D A (wR a q g0 g1 g2 g3 g4 g5 g6 g7 g8 g9 g10 g11 g12 g13 g14 g15 g16 g17 g18 g19) → va_S A s.heap H locs → lv_has ls 9 [(0, .ref (a 0)), (4, .int v4), (5, .int v5), (6, .int v6), (7, .int v7)] → f_Ref_decimalHere_295  s0 v4 v5 v6 v7 g6 g7 g13 g14 g15 g16 = some r0 → W p l e rm_Ref_decimalHere s m args below meth c H locs 0 0 (MQ below (va_Qi (fun (r : Int32) (_ : Unit) => r = r0.1) (fun _ t => va_P D CLS (wR a q g0 g1 g2 g3 g4 g5 g6 g7 g8 g9 g10 g11 g12 r0.2.1 r0.2.2.1 r0.2.2.2.1 r0.2.2.2.2 g17 g18 g19) t.heap) A) args s 0 0 A) (F0 m 295 ls [.int s0, .ref (a 0)]) := by
  obtain ⟨hx, hb, hml, hown, hts, hr, hlocks⟩ := id hC
  intro s0 v4 v5 v6 v7 g13 g14 g15 g16 H locs ls hP hD hS hl h
  rw [f_Ref_decimalHere_295] at h
  refine va_put (D := D) (ci := 0) (v := .int s0) (ty := .int) (C := "OutwardTapeModel") (T := T_Ref) (N := 20) hx hb hts in_Ref ty_Ref tk_Ref nm_Ref hown hK hP hD hS 0 rfl rfl 13 (by decide) (hts (Cond.fieldLink "OutwardTapeModel" 221 "OutwardTapeModel" "place" "I") (m_4 12 rfl rfl)) (fun _ h9 => h9) rfl (by decide +kernel) rfl rfl (Nat.le_of_ble_eq_true rfl) (dt_at dt_Ref_decimalHere 155 rfl) (fun H locs hP hD hS => ?_)
  have hP : va_P D CLS (wR a q g0 g1 g2 g3 g4 g5 g6 g7 g8 g9 g10 g11 g12 s0 g14 g15 g16 g17 g18 g19) H := hP
  have hD : va_D A (wR a q g0 g1 g2 g3 g4 g5 g6 g7 g8 g9 g10 g11 g12 s0 g14 g15 g16 g17 g18 g19) := hD
  refine lv_iconst (v := 0) hx hb (dt_at dt_Ref_decimalHere 156 rfl) (by decide) ?_
  refine lv_istore (lv' := [(8, .int (0 : Int32)), (0, .ref (a 0)), (4, .int v4), (5, .int v5), (6, .int v6), (7, .int v7)]) hx hb (dt_at dt_Ref_decimalHere 157 rfl) hl (by decide) rfl (fun ls hl => ?_)
  exact k_Ref_decimalHere_301 hC hA hK  5000 v4 v5 v6 v7 (0 : Int32) s0 g14 g15 g16 H locs ls hP hD hS (lv_sub hl [1, 2, 3, 4, 5, 0] rfl) h
set_option maxRecDepth 100000 in
set_option maxHeartbeats 4000000 in
theorem k_Ref_decimalHere_282 {p : Program} {l : Launch} {e : Env} {s : State} {m : MethodId} {args : Array Value} {below : List Frame} {meth : Method} {c : Code} {D : va_G} {a : Nat → Nat} {q : Nat → ClassId} {A : Nat → Prop} (hC : CX p s m args meth c prog_12_method_60_code 9 "OutwardTapeModel" (some .boolean)) (hA : ∀ x, s.heap.size ≤ x → A x) (hK : va_K D CLS (tR q) s) {g0 : Int32} {g1 : Nat → Int32} {g2 : Nat → Int64} {g3 : Nat → Int64} {g4 : Nat → Int32} {g5 : Int32} {g6 : Nat → Int32} {g7 : Int32} {g8 : Nat → Int32} {g9 : Int32} {g10 : Int64} {g11 : Int64} {g12 : Int32} {g17 : Int32} {g18 : Int64} {g19 : Int32} {r0 : Int32 × Int32 × Int32 × Int64 × Int32} : ∀ (v4 : Int32) (v5 : Int32) (v6 : Int32) (v7 : Int32) (g13 : Int32) (g14 : Int32) (g15 : Int64) (g16 : Int32) (H : Heap) (locs : List Loc) (ls : Array Slot), va_P D CLS (wR a q g0 g1 g2 g3 g4 g5 g6 g7 g8 g9 g10 g11 g12 g13 g14 g15 g16 g17 g18 g19) H → va_D A (wR a q g0 g1 g2 g3 g4 g5 g6 g7 g8 g9 g10 g11 g12 g13 g14 g15 g16 g17 g18 g19) → va_S A s.heap H locs → lv_has ls 9 [(0, .ref (a 0)), (4, .int v4), (5, .int v5), (6, .int v6), (7, .int v7)] → f_Ref_decimalHere_282  v4 v5 v6 v7 g6 g7 g13 g14 g15 g16 = some r0 → W p l e rm_Ref_decimalHere s m args below meth c H locs 0 0 (MQ below (va_Qi (fun (r : Int32) (_ : Unit) => r = r0.1) (fun _ t => va_P D CLS (wR a q g0 g1 g2 g3 g4 g5 g6 g7 g8 g9 g10 g11 g12 r0.2.1 r0.2.2.1 r0.2.2.2.1 r0.2.2.2.2 g17 g18 g19) t.heap) A) args s 0 0 A) (F0 m 282 ls [.ref (a 0)]) := by
  obtain ⟨hx, hb, hml, hown, hts, hr, hlocks⟩ := id hC
  intro v4 v5 v6 v7 g13 g14 g15 g16 H locs ls hP hD hS hl h
  rw [f_Ref_decimalHere_282] at h
  refine lv_aload_n hx hb (dt_at dt_Ref_decimalHere 148 rfl) rfl (lv_at hl 0 rfl) ?_
  refine va_get (D := D) (ci := 0) (v := .int g13) (C := "OutwardTapeModel") (T := T_Ref) (N := 20) hx hb hts in_Ref hown hK hP 0 rfl rfl 13 (by decide) (hts (Cond.fieldLink "OutwardTapeModel" 221 "OutwardTapeModel" "place" "I") (m_4 12 rfl rfl)) (fun _ h9 => h9) rfl (dt_at dt_Ref_decimalHere 149 rfl) ?_
  refine lv_iconst (v := 1) hx hb (dt_at dt_Ref_decimalHere 150 rfl) (by decide) ?_
  refine lv_iadd hx hb (dt_at dt_Ref_decimalHere 151 rfl) ?_
  refine lv_goto (tgt := 295) hx hb (dt_at dt_Ref_decimalHere 152 rfl) (by decide) ?_
  exact k_Ref_decimalHere_295 hC hA hK   (g13 + (1 : Int32)) v4 v5 v6 v7 g13 g14 g15 g16 H locs ls hP hD hS (lv_sub hl [0, 1, 2, 3, 4] rfl) h
set_option maxRecDepth 100000 in
set_option maxHeartbeats 4000000 in
theorem k_Ref_decimalHere_261 {p : Program} {l : Launch} {e : Env} {s : State} {m : MethodId} {args : Array Value} {below : List Frame} {meth : Method} {c : Code} {D : va_G} {a : Nat → Nat} {q : Nat → ClassId} {A : Nat → Prop} (hC : CX p s m args meth c prog_12_method_60_code 9 "OutwardTapeModel" (some .boolean)) (hA : ∀ x, s.heap.size ≤ x → A x) (hK : va_K D CLS (tR q) s) {g0 : Int32} {g1 : Nat → Int32} {g2 : Nat → Int64} {g3 : Nat → Int64} {g4 : Nat → Int32} {g5 : Int32} {g6 : Nat → Int32} {g7 : Int32} {g8 : Nat → Int32} {g9 : Int32} {g10 : Int64} {g11 : Int64} {g12 : Int32} {g17 : Int32} {g18 : Int64} {g19 : Int32} {r0 : Int32 × Int32 × Int32 × Int64 × Int32} : ∀ (s0 : Int32) (v4 : Int32) (v5 : Int32) (v6 : Int32) (g13 : Int32) (g14 : Int32) (g15 : Int64) (g16 : Int32) (H : Heap) (locs : List Loc) (ls : Array Slot), va_P D CLS (wR a q g0 g1 g2 g3 g4 g5 g6 g7 g8 g9 g10 g11 g12 g13 g14 g15 g16 g17 g18 g19) H → va_D A (wR a q g0 g1 g2 g3 g4 g5 g6 g7 g8 g9 g10 g11 g12 g13 g14 g15 g16 g17 g18 g19) → va_S A s.heap H locs → lv_has ls 9 [(0, .ref (a 0)), (4, .int v4), (5, .int v5), (6, .int v6)] → f_Ref_decimalHere_261  s0 v4 v5 v6 g6 g7 g13 g14 g15 g16 = some r0 → W p l e rm_Ref_decimalHere s m args below meth c H locs 0 0 (MQ below (va_Qi (fun (r : Int32) (_ : Unit) => r = r0.1) (fun _ t => va_P D CLS (wR a q g0 g1 g2 g3 g4 g5 g6 g7 g8 g9 g10 g11 g12 r0.2.1 r0.2.2.1 r0.2.2.2.1 r0.2.2.2.2 g17 g18 g19) t.heap) A) args s 0 0 A) (F0 m 261 ls [.int s0]) := by
  obtain ⟨hx, hb, hml, hown, hts, hr, hlocks⟩ := id hC
  intro s0 v4 v5 v6 g13 g14 g15 g16 H locs ls hP hD hS hl h
  rw [f_Ref_decimalHere_261] at h
  refine lv_istore (lv' := [(7, .int s0), (0, .ref (a 0)), (4, .int v4), (5, .int v5), (6, .int v6)]) hx hb (dt_at dt_Ref_decimalHere 138 rfl) hl (by decide) rfl (fun ls hl => ?_)
  refine lv_aload_n hx hb (dt_at dt_Ref_decimalHere 139 rfl) rfl (lv_at hl 1 rfl) ?_
  refine lv_iload hx hb (dt_at dt_Ref_decimalHere 140 rfl) (lv_at hl 0 rfl) ?_
  refine lv_if_ne (tgt := 282) hx hb (dt_at dt_Ref_decimalHere 141 rfl) (by decide) (fun c1 => ?_) (fun c1 => ?_)
  · have h := if_n h c1
    exact k_Ref_decimalHere_282 hC hA hK   v4 v5 v6 s0 g13 g14 g15 g16 H locs ls hP hD hS (lv_sub hl [1, 2, 3, 4, 0] rfl) h
  · have h := if_p h c1
    refine lv_aload_n hx hb (dt_at dt_Ref_decimalHere 142 rfl) rfl (lv_at hl 1 rfl) ?_
    refine lv_aload_n hx hb (dt_at dt_Ref_decimalHere 143 rfl) rfl (lv_at hl 1 rfl) ?_
    refine va_get (D := D) (ci := 0) (v := .int g13) (C := "OutwardTapeModel") (T := T_Ref) (N := 20) hx hb hts in_Ref hown hK hP 0 rfl rfl 13 (by decide) (hts (Cond.fieldLink "OutwardTapeModel" 221 "OutwardTapeModel" "place" "I") (m_4 12 rfl rfl)) (fun _ h9 => h9) rfl (dt_at dt_Ref_decimalHere 144 rfl) ?_
    obtain ⟨r2, h_r2, h⟩ := ob_of h
    have hF := va_free (wc := dR a) (dD (ws' := dR a) hD rfl) hS hA [0, 1, 2, 3, 4, 5, 6] rfl
    have hd : va_D (fun _ => True) (dR a) := (dD (ws' := dR a) hD rfl).weaken (fun _ _ _ _ => trivial)
    refine va_calli (va_runV (As := [.int g13]) (rest := [.ref (a 0)]) ⟨hx, hb, hml, hown, hts⟩ (c_Ref_seen l D a q hd H.size g13 g0 g1 g2 g3 g4 g5 g6 g7 g8 g9 g10 g11 g12 g13 g14 g15 g16 g17 g18 g19 r2 h_r2) (cwV 1 hts (gd_V (m_5 15 rfl rfl) (m_5 17 rfl rfl) (m_s 51 rfl rfl) (m_1 4 rfl rfl) (m_5 18 rfl rfl)) rfl rfl rfl (by decide +kernel) ⟨Nat.le_of_ble_eq_true rfl, Nat.le_of_ble_eq_true rfl⟩) ⟨fun a U g mk q => ⟨q.1, q.2.1, q.2.2.1, va_K.moved (u := U) (U := U.calling g mk a) (Vm.Alike.refl U.vm) q.2.2.2⟩, va_recv hK hP (ci := 0) (q0 := 0) rfl rfl, fun U hU hW => ⟨rfl, by rw [hU], by rw [hU]; exact hP, va_K.moved hW.alike hK⟩⟩ rfl rfl hl.1 rfl (lv_room (Nat.le_of_ble_eq_true rfl)) (dt_at dt_Ref_decimalHere 145 rfl) ⟨Nat.le_of_ble_eq_true rfl, Nat.le_of_ble_eq_true rfl⟩) hS (fun x _ h9 => hF x h9) hF (fun u_r2 uu t H locs ht hvm hw hB hz1 hk1 hS => ?_)
    rw [ht] at hB
    obtain rfl : r2 = u_r2 := hw.symm
    have hP : va_P D CLS (wR a q g0 g1 g2 g3 g4 g5 g6 g7 g8 g9 g10 g11 g12 g13 g14 g15 g16 g17 g18 g19) H := hB
    have hD : va_D A (wR a q g0 g1 g2 g3 g4 g5 g6 g7 g8 g9 g10 g11 g12 g13 g14 g15 g16 g17 g18 g19) := dD hD rfl
    refine lv_bipush (v := 43) hx hb (dt_at dt_Ref_decimalHere 146 rfl) (by decide) ?_
    refine lv_icmp_ne (tgt := 291) hx hb (dt_at dt_Ref_decimalHere 147 rfl) (by decide) (fun c3 => ?_) (fun c3 => ?_)
    · have h := if_n h c3
      refine lv_aload_n hx hb (dt_at dt_Ref_decimalHere 153 rfl) rfl (lv_at hl 1 rfl) ?_
      refine va_get (D := D) (ci := 0) (v := .int g13) (C := "OutwardTapeModel") (T := T_Ref) (N := 20) hx hb hts in_Ref hown hK hP 0 rfl rfl 13 (by decide) (hts (Cond.fieldLink "OutwardTapeModel" 221 "OutwardTapeModel" "place" "I") (m_4 12 rfl rfl)) (fun _ h9 => h9) rfl (dt_at dt_Ref_decimalHere 154 rfl) ?_
      exact k_Ref_decimalHere_295 hC hA hK   g13 v4 v5 v6 s0 g13 g14 g15 g16 H locs ls hP hD hS (lv_sub hl [1, 2, 3, 4, 0] rfl) h
    · have h := if_p h c3
      exact k_Ref_decimalHere_282 hC hA hK   v4 v5 v6 s0 g13 g14 g15 g16 H locs ls hP hD hS (lv_sub hl [1, 2, 3, 4, 0] rfl) h
set_option maxRecDepth 100000 in
set_option maxHeartbeats 4000000 in
theorem k_Ref_decimalHere_218 {p : Program} {l : Launch} {e : Env} {s : State} {m : MethodId} {args : Array Value} {below : List Frame} {meth : Method} {c : Code} {D : va_G} {a : Nat → Nat} {q : Nat → ClassId} {A : Nat → Prop} (hC : CX p s m args meth c prog_12_method_60_code 9 "OutwardTapeModel" (some .boolean)) (hA : ∀ x, s.heap.size ≤ x → A x) (hK : va_K D CLS (tR q) s) {g0 : Int32} {g1 : Nat → Int32} {g2 : Nat → Int64} {g3 : Nat → Int64} {g4 : Nat → Int32} {g5 : Int32} {g6 : Nat → Int32} {g7 : Int32} {g8 : Nat → Int32} {g9 : Int32} {g10 : Int64} {g11 : Int64} {g12 : Int32} {g17 : Int32} {g18 : Int64} {g19 : Int32} {r0 : Int32 × Int32 × Int32 × Int64 × Int32} : ∀ (s0 : Int32) (v4 : Int32) (v5 : Int32) (g13 : Int32) (g14 : Int32) (g15 : Int64) (g16 : Int32) (H : Heap) (locs : List Loc) (ls : Array Slot), va_P D CLS (wR a q g0 g1 g2 g3 g4 g5 g6 g7 g8 g9 g10 g11 g12 g13 g14 g15 g16 g17 g18 g19) H → va_D A (wR a q g0 g1 g2 g3 g4 g5 g6 g7 g8 g9 g10 g11 g12 g13 g14 g15 g16 g17 g18 g19) → va_S A s.heap H locs → lv_has ls 9 [(0, .ref (a 0)), (4, .int v4), (5, .int v5)] → f_Ref_decimalHere_218  s0 v4 v5 g6 g7 g13 g14 g15 g16 = some r0 → W p l e rm_Ref_decimalHere s m args below meth c H locs 0 0 (MQ below (va_Qi (fun (r : Int32) (_ : Unit) => r = r0.1) (fun _ t => va_P D CLS (wR a q g0 g1 g2 g3 g4 g5 g6 g7 g8 g9 g10 g11 g12 r0.2.1 r0.2.2.1 r0.2.2.2.1 r0.2.2.2.2 g17 g18 g19) t.heap) A) args s 0 0 A) (F0 m 218 ls [.int s0]) := by
  obtain ⟨hx, hb, hml, hown, hts, hr, hlocks⟩ := id hC
  intro s0 v4 v5 g13 g14 g15 g16 H locs ls hP hD hS hl h
  rw [f_Ref_decimalHere_218] at h
  refine lv_istore (lv' := [(6, .int s0), (0, .ref (a 0)), (4, .int v4), (5, .int v5)]) hx hb (dt_at dt_Ref_decimalHere 116 rfl) hl (by decide) rfl (fun ls hl => ?_)
  refine lv_aload_n hx hb (dt_at dt_Ref_decimalHere 117 rfl) rfl (lv_at hl 1 rfl) ?_
  refine lv_aload_n hx hb (dt_at dt_Ref_decimalHere 118 rfl) rfl (lv_at hl 1 rfl) ?_
  refine va_get (D := D) (ci := 0) (v := .int g13) (C := "OutwardTapeModel") (T := T_Ref) (N := 20) hx hb hts in_Ref hown hK hP 0 rfl rfl 13 (by decide) (hts (Cond.fieldLink "OutwardTapeModel" 221 "OutwardTapeModel" "place" "I") (m_4 12 rfl rfl)) (fun _ h9 => h9) rfl (dt_at dt_Ref_decimalHere 119 rfl) ?_
  obtain ⟨r1, h_r1, h⟩ := ob_of h
  have hF := va_free (wc := dR a) (dD (ws' := dR a) hD rfl) hS hA [0, 1, 2, 3, 4, 5, 6] rfl
  have hd : va_D (fun _ => True) (dR a) := (dD (ws' := dR a) hD rfl).weaken (fun _ _ _ _ => trivial)
  refine va_calli (va_runV (As := [.int g13]) (rest := []) ⟨hx, hb, hml, hown, hts⟩ (c_Ref_seen l D a q hd H.size g13 g0 g1 g2 g3 g4 g5 g6 g7 g8 g9 g10 g11 g12 g13 g14 g15 g16 g17 g18 g19 r1 h_r1) (cwV 1 hts (gd_V (m_5 15 rfl rfl) (m_5 17 rfl rfl) (m_s 51 rfl rfl) (m_1 4 rfl rfl) (m_5 18 rfl rfl)) rfl rfl rfl (by decide +kernel) ⟨Nat.le_of_ble_eq_true rfl, Nat.le_of_ble_eq_true rfl⟩) ⟨fun a U g mk q => ⟨q.1, q.2.1, q.2.2.1, va_K.moved (u := U) (U := U.calling g mk a) (Vm.Alike.refl U.vm) q.2.2.2⟩, va_recv hK hP (ci := 0) (q0 := 0) rfl rfl, fun U hU hW => ⟨rfl, by rw [hU], by rw [hU]; exact hP, va_K.moved hW.alike hK⟩⟩ rfl rfl hl.1 rfl (lv_room (Nat.le_of_ble_eq_true rfl)) (dt_at dt_Ref_decimalHere 120 rfl) ⟨Nat.le_of_ble_eq_true rfl, Nat.le_of_ble_eq_true rfl⟩) hS (fun x _ h9 => hF x h9) hF (fun u_r1 uu t H locs ht hvm hw hB hz1 hk1 hS => ?_)
  rw [ht] at hB
  obtain rfl : r1 = u_r1 := hw.symm
  have hP : va_P D CLS (wR a q g0 g1 g2 g3 g4 g5 g6 g7 g8 g9 g10 g11 g12 g13 g14 g15 g16 g17 g18 g19) H := hB
  have hD : va_D A (wR a q g0 g1 g2 g3 g4 g5 g6 g7 g8 g9 g10 g11 g12 g13 g14 g15 g16 g17 g18 g19) := dD hD rfl
  refine lv_bipush (v := 101) hx hb (dt_at dt_Ref_decimalHere 121 rfl) (by decide) ?_
  refine lv_icmp_ne (tgt := 385) hx hb (dt_at dt_Ref_decimalHere 122 rfl) (by decide) (fun c2 => ?_) (fun c2 => ?_)
  · have h := if_n h c2
    exact k_Ref_decimalHere_385 hC hA hK   v4 v5 s0 g13 g14 g15 g16 H locs ls hP hD hS (lv_sub hl [1, 2, 3, 0] rfl) h
  · have h := if_p h c2
    refine lv_aload_n hx hb (dt_at dt_Ref_decimalHere 123 rfl) rfl (lv_at hl 1 rfl) ?_
    refine lv_dup hx hb (dt_at dt_Ref_decimalHere 124 rfl) rfl ?_
    refine va_get (D := D) (ci := 0) (v := .int g13) (C := "OutwardTapeModel") (T := T_Ref) (N := 20) hx hb hts in_Ref hown hK hP 0 rfl rfl 13 (by decide) (hts (Cond.fieldLink "OutwardTapeModel" 221 "OutwardTapeModel" "place" "I") (m_4 12 rfl rfl)) (fun _ h9 => h9) rfl (dt_at dt_Ref_decimalHere 125 rfl) ?_
    refine lv_iconst (v := 1) hx hb (dt_at dt_Ref_decimalHere 126 rfl) (by decide) ?_
    refine lv_iadd hx hb (dt_at dt_Ref_decimalHere 127 rfl) ?_
    obtain ⟨t3, e_t3, h⟩ := ol_of h
    refine lv_topi (fun u_t3 q_t3 => ?_)
    obtain rfl : t3 = u_t3 := e_t3.trans q_t3.symm
    refine va_put (D := D) (ci := 0) (v := .int t3) (ty := .int) (C := "OutwardTapeModel") (T := T_Ref) (N := 20) hx hb hts in_Ref ty_Ref tk_Ref nm_Ref hown hK hP hD hS 0 rfl rfl 13 (by decide) (hts (Cond.fieldLink "OutwardTapeModel" 221 "OutwardTapeModel" "place" "I") (m_4 12 rfl rfl)) (fun _ h9 => h9) rfl (by decide +kernel) rfl rfl (Nat.le_of_ble_eq_true rfl) (dt_at dt_Ref_decimalHere 128 rfl) (fun H locs hP hD hS => ?_)
    have hP : va_P D CLS (wR a q g0 g1 g2 g3 g4 g5 g6 g7 g8 g9 g10 g11 g12 t3 g14 g15 g16 g17 g18 g19) H := hP
    have hD : va_D A (wR a q g0 g1 g2 g3 g4 g5 g6 g7 g8 g9 g10 g11 g12 t3 g14 g15 g16 g17 g18 g19) := hD
    refine lv_aload_n hx hb (dt_at dt_Ref_decimalHere 129 rfl) rfl (lv_at hl 1 rfl) ?_
    refine lv_aload_n hx hb (dt_at dt_Ref_decimalHere 130 rfl) rfl (lv_at hl 1 rfl) ?_
    refine va_get (D := D) (ci := 0) (v := .int t3) (C := "OutwardTapeModel") (T := T_Ref) (N := 20) hx hb hts in_Ref hown hK hP 0 rfl rfl 13 (by decide) (hts (Cond.fieldLink "OutwardTapeModel" 221 "OutwardTapeModel" "place" "I") (m_4 12 rfl rfl)) (fun _ h9 => h9) rfl (dt_at dt_Ref_decimalHere 131 rfl) ?_
    obtain ⟨r4, h_r4, h⟩ := ob_of h
    have hF := va_free (wc := dR a) (dD (ws' := dR a) hD rfl) hS hA [0, 1, 2, 3, 4, 5, 6] rfl
    have hd : va_D (fun _ => True) (dR a) := (dD (ws' := dR a) hD rfl).weaken (fun _ _ _ _ => trivial)
    refine va_calli (va_runV (As := [.int t3]) (rest := []) ⟨hx, hb, hml, hown, hts⟩ (c_Ref_seen l D a q hd H.size t3 g0 g1 g2 g3 g4 g5 g6 g7 g8 g9 g10 g11 g12 t3 g14 g15 g16 g17 g18 g19 r4 h_r4) (cwV 1 hts (gd_V (m_5 15 rfl rfl) (m_5 17 rfl rfl) (m_s 51 rfl rfl) (m_1 4 rfl rfl) (m_5 18 rfl rfl)) rfl rfl rfl (by decide +kernel) ⟨Nat.le_of_ble_eq_true rfl, Nat.le_of_ble_eq_true rfl⟩) ⟨fun a U g mk q => ⟨q.1, q.2.1, q.2.2.1, va_K.moved (u := U) (U := U.calling g mk a) (Vm.Alike.refl U.vm) q.2.2.2⟩, va_recv hK hP (ci := 0) (q0 := 0) rfl rfl, fun U hU hW => ⟨rfl, by rw [hU], by rw [hU]; exact hP, va_K.moved hW.alike hK⟩⟩ rfl rfl hl.1 rfl (lv_room (Nat.le_of_ble_eq_true rfl)) (dt_at dt_Ref_decimalHere 132 rfl) ⟨Nat.le_of_ble_eq_true rfl, Nat.le_of_ble_eq_true rfl⟩) hS (fun x _ h9 => hF x h9) hF (fun u_r4 uu t H locs ht hvm hw hB hz1 hk1 hS => ?_)
    rw [ht] at hB
    obtain rfl : r4 = u_r4 := hw.symm
    have hP : va_P D CLS (wR a q g0 g1 g2 g3 g4 g5 g6 g7 g8 g9 g10 g11 g12 t3 g14 g15 g16 g17 g18 g19) H := hB
    have hD : va_D A (wR a q g0 g1 g2 g3 g4 g5 g6 g7 g8 g9 g10 g11 g12 t3 g14 g15 g16 g17 g18 g19) := dD hD rfl
    refine lv_bipush (v := 45) hx hb (dt_at dt_Ref_decimalHere 133 rfl) (by decide) ?_
    refine lv_icmp_ne (tgt := 260) hx hb (dt_at dt_Ref_decimalHere 134 rfl) (by decide) (fun c5 => ?_) (fun c5 => ?_)
    · have h := if_n h c5
      refine lv_iconst (v := 0) hx hb (dt_at dt_Ref_decimalHere 137 rfl) (by decide) ?_
      exact k_Ref_decimalHere_261 hC hA hK   (0 : Int32) v4 v5 s0 t3 g14 g15 g16 H locs ls hP hD hS (lv_sub hl [1, 2, 3, 0] rfl) h
    · have h := if_p h c5
      refine lv_iconst (v := 1) hx hb (dt_at dt_Ref_decimalHere 135 rfl) (by decide) ?_
      refine lv_goto (tgt := 261) hx hb (dt_at dt_Ref_decimalHere 136 rfl) (by decide) ?_
      exact k_Ref_decimalHere_261 hC hA hK   (1 : Int32) v4 v5 s0 t3 g14 g15 g16 H locs ls hP hD hS (lv_sub hl [1, 2, 3, 0] rfl) h
set_option maxRecDepth 100000 in
set_option maxHeartbeats 4000000 in
theorem k_Ref_decimalHere_217 {p : Program} {l : Launch} {e : Env} {s : State} {m : MethodId} {args : Array Value} {below : List Frame} {meth : Method} {c : Code} {D : va_G} {a : Nat → Nat} {q : Nat → ClassId} {A : Nat → Prop} (hC : CX p s m args meth c prog_12_method_60_code 9 "OutwardTapeModel" (some .boolean)) (hA : ∀ x, s.heap.size ≤ x → A x) (hK : va_K D CLS (tR q) s) {g0 : Int32} {g1 : Nat → Int32} {g2 : Nat → Int64} {g3 : Nat → Int64} {g4 : Nat → Int32} {g5 : Int32} {g6 : Nat → Int32} {g7 : Int32} {g8 : Nat → Int32} {g9 : Int32} {g10 : Int64} {g11 : Int64} {g12 : Int32} {g17 : Int32} {g18 : Int64} {g19 : Int32} {r0 : Int32 × Int32 × Int32 × Int64 × Int32} : ∀ (v4 : Int32) (v5 : Int32) (g13 : Int32) (g14 : Int32) (g15 : Int64) (g16 : Int32) (H : Heap) (locs : List Loc) (ls : Array Slot), va_P D CLS (wR a q g0 g1 g2 g3 g4 g5 g6 g7 g8 g9 g10 g11 g12 g13 g14 g15 g16 g17 g18 g19) H → va_D A (wR a q g0 g1 g2 g3 g4 g5 g6 g7 g8 g9 g10 g11 g12 g13 g14 g15 g16 g17 g18 g19) → va_S A s.heap H locs → lv_has ls 9 [(0, .ref (a 0)), (4, .int v4), (5, .int v5)] → f_Ref_decimalHere_217  v4 v5 g6 g7 g13 g14 g15 g16 = some r0 → W p l e rm_Ref_decimalHere s m args below meth c H locs 0 0 (MQ below (va_Qi (fun (r : Int32) (_ : Unit) => r = r0.1) (fun _ t => va_P D CLS (wR a q g0 g1 g2 g3 g4 g5 g6 g7 g8 g9 g10 g11 g12 r0.2.1 r0.2.2.1 r0.2.2.2.1 r0.2.2.2.2 g17 g18 g19) t.heap) A) args s 0 0 A) (F0 m 217 ls []) := by
  obtain ⟨hx, hb, hml, hown, hts, hr, hlocks⟩ := id hC
  intro v4 v5 g13 g14 g15 g16 H locs ls hP hD hS hl h
  rw [f_Ref_decimalHere_217] at h
  refine lv_iconst (v := 0) hx hb (dt_at dt_Ref_decimalHere 115 rfl) (by decide) ?_
  exact k_Ref_decimalHere_218 hC hA hK   (0 : Int32) v4 v5 g13 g14 g15 g16 H locs ls hP hD hS (lv_sub hl [0, 1, 2] rfl) h
set_option maxRecDepth 100000 in
set_option maxHeartbeats 4000000 in
theorem k_Ref_decimalHere_200 {p : Program} {l : Launch} {e : Env} {s : State} {m : MethodId} {args : Array Value} {below : List Frame} {meth : Method} {c : Code} {D : va_G} {a : Nat → Nat} {q : Nat → ClassId} {A : Nat → Prop} (hC : CX p s m args meth c prog_12_method_60_code 9 "OutwardTapeModel" (some .boolean)) (hA : ∀ x, s.heap.size ≤ x → A x) (hK : va_K D CLS (tR q) s) {g0 : Int32} {g1 : Nat → Int32} {g2 : Nat → Int64} {g3 : Nat → Int64} {g4 : Nat → Int32} {g5 : Int32} {g6 : Nat → Int32} {g7 : Int32} {g8 : Nat → Int32} {g9 : Int32} {g10 : Int64} {g11 : Int64} {g12 : Int32} {g17 : Int32} {g18 : Int64} {g19 : Int32} {r0 : Int32 × Int32 × Int32 × Int64 × Int32} : ∀ (v1 : Int32) (v2 : Int32) (v4 : Int32) (g13 : Int32) (g14 : Int32) (g15 : Int64) (g16 : Int32) (H : Heap) (locs : List Loc) (ls : Array Slot), va_P D CLS (wR a q g0 g1 g2 g3 g4 g5 g6 g7 g8 g9 g10 g11 g12 g13 g14 g15 g16 g17 g18 g19) H → va_D A (wR a q g0 g1 g2 g3 g4 g5 g6 g7 g8 g9 g10 g11 g12 g13 g14 g15 g16 g17 g18 g19) → va_S A s.heap H locs → lv_has ls 9 [(0, .ref (a 0)), (1, .int v1), (2, .int v2), (4, .int v4)] → f_Ref_decimalHere_200  v1 v2 v4 g6 g7 g13 g14 g15 g16 = some r0 → W p l e rm_Ref_decimalHere s m args below meth c H locs 0 0 (MQ below (va_Qi (fun (r : Int32) (_ : Unit) => r = r0.1) (fun _ t => va_P D CLS (wR a q g0 g1 g2 g3 g4 g5 g6 g7 g8 g9 g10 g11 g12 r0.2.1 r0.2.2.1 r0.2.2.2.1 r0.2.2.2.2 g17 g18 g19) t.heap) A) args s 0 0 A) (F0 m 200 ls []) := by
  obtain ⟨hx, hb, hml, hown, hts, hr, hlocks⟩ := id hC
  intro v1 v2 v4 g13 g14 g15 g16 H locs ls hP hD hS hl h
  rw [f_Ref_decimalHere_200] at h
  refine lv_iconst (v := 0) hx hb (dt_at dt_Ref_decimalHere 106 rfl) (by decide) ?_
  refine lv_istore (lv' := [(5, .int (0 : Int32)), (0, .ref (a 0)), (1, .int v1), (2, .int v2), (4, .int v4)]) hx hb (dt_at dt_Ref_decimalHere 107 rfl) hl (by decide) rfl (fun ls hl => ?_)
  refine lv_iload_n hx hb (dt_at dt_Ref_decimalHere 108 rfl) rfl (lv_at hl 3 rfl) ?_
  refine lv_if_le (tgt := 217) hx hb (dt_at dt_Ref_decimalHere 109 rfl) (by decide) (fun c1 => ?_) (fun c1 => ?_)
  · have h := if_p h c1
    exact k_Ref_decimalHere_217 hC hA hK   v4 (0 : Int32) g13 g14 g15 g16 H locs ls hP hD hS (lv_sub hl [1, 4, 0] rfl) h
  · have h := if_n h c1
    refine lv_iload_n hx hb (dt_at dt_Ref_decimalHere 110 rfl) rfl (lv_at hl 2 rfl) ?_
    refine lv_bipush (v := 18) hx hb (dt_at dt_Ref_decimalHere 111 rfl) (by decide) ?_
    refine lv_icmp_gt (tgt := 217) hx hb (dt_at dt_Ref_decimalHere 112 rfl) (by decide) (fun c2 => ?_) (fun c2 => ?_)
    · have h := if_p h c2
      exact k_Ref_decimalHere_217 hC hA hK   v4 (0 : Int32) g13 g14 g15 g16 H locs ls hP hD hS (lv_sub hl [1, 4, 0] rfl) h
    · have h := if_n h c2
      refine lv_iconst (v := 1) hx hb (dt_at dt_Ref_decimalHere 113 rfl) (by decide) ?_
      refine lv_goto (tgt := 218) hx hb (dt_at dt_Ref_decimalHere 114 rfl) (by decide) ?_
      exact k_Ref_decimalHere_218 hC hA hK   (1 : Int32) v4 (0 : Int32) g13 g14 g15 g16 H locs ls hP hD hS (lv_sub hl [1, 4, 0] rfl) h
set_option maxRecDepth 100000 in
set_option maxHeartbeats 4000000 in
theorem k_Ref_decimalHere_187 {p : Program} {l : Launch} {e : Env} {s : State} {m : MethodId} {args : Array Value} {below : List Frame} {meth : Method} {c : Code} {D : va_G} {a : Nat → Nat} {q : Nat → ClassId} {A : Nat → Prop} (hC : CX p s m args meth c prog_12_method_60_code 9 "OutwardTapeModel" (some .boolean)) (hA : ∀ x, s.heap.size ≤ x → A x) (hK : va_K D CLS (tR q) s) {g0 : Int32} {g1 : Nat → Int32} {g2 : Nat → Int64} {g3 : Nat → Int64} {g4 : Nat → Int32} {g5 : Int32} {g6 : Nat → Int32} {g7 : Int32} {g8 : Nat → Int32} {g9 : Int32} {g10 : Int64} {g11 : Int64} {g12 : Int32} {g17 : Int32} {g18 : Int64} {g19 : Int32} {r0 : Int32 × Int32 × Int32 × Int64 × Int32} (k73 : Int32 → Int32 → Int32 → Int32 → (Nat → Int32) → Int32 → Int32 → Int32 → Int64 → Int32 → Option (Int32 × Int32 × Int32 × Int64 × Int32)) (hk73 : ∀ (v1 : Int32) (v2 : Int32) (v3 : Int32) (v4 : Int32) (g13 : Int32) (g14 : Int32) (g15 : Int64) (g16 : Int32) (H : Heap) (locs : List Loc) (ls : Array Slot), va_P D CLS (wR a q g0 g1 g2 g3 g4 g5 g6 g7 g8 g9 g10 g11 g12 g13 g14 g15 g16 g17 g18 g19) H → va_D A (wR a q g0 g1 g2 g3 g4 g5 g6 g7 g8 g9 g10 g11 g12 g13 g14 g15 g16 g17 g18 g19) → va_S A s.heap H locs → lv_has ls 9 [(0, .ref (a 0)), (1, .int v1), (2, .int v2), (3, .int v3), (4, .int v4)] → k73 v1 v2 v3 v4 g6 g7 g13 g14 g15 g16 = some r0 → W p l e rm_Ref_decimalHere s m args below meth c H locs 0 0 (MQ below (va_Qi (fun (r : Int32) (_ : Unit) => r = r0.1) (fun _ t => va_P D CLS (wR a q g0 g1 g2 g3 g4 g5 g6 g7 g8 g9 g10 g11 g12 r0.2.1 r0.2.2.1 r0.2.2.2.1 r0.2.2.2.2 g17 g18 g19) t.heap) A) args s 0 0 A) (F0 m 73 ls [])) : ∀ (v1 : Int32) (v2 : Int32) (v3 : Int32) (v4 : Int32) (g13 : Int32) (g14 : Int32) (g15 : Int64) (g16 : Int32) (H : Heap) (locs : List Loc) (ls : Array Slot), va_P D CLS (wR a q g0 g1 g2 g3 g4 g5 g6 g7 g8 g9 g10 g11 g12 g13 g14 g15 g16 g17 g18 g19) H → va_D A (wR a q g0 g1 g2 g3 g4 g5 g6 g7 g8 g9 g10 g11 g12 g13 g14 g15 g16 g17 g18 g19) → va_S A s.heap H locs → lv_has ls 9 [(0, .ref (a 0)), (1, .int v1), (2, .int v2), (3, .int v3), (4, .int v4)] → f_Ref_decimalHere_187 k73 v1 v2 v3 v4 g6 g7 g13 g14 g15 g16 = some r0 → W p l e rm_Ref_decimalHere s m args below meth c H locs 0 0 (MQ below (va_Qi (fun (r : Int32) (_ : Unit) => r = r0.1) (fun _ t => va_P D CLS (wR a q g0 g1 g2 g3 g4 g5 g6 g7 g8 g9 g10 g11 g12 r0.2.1 r0.2.2.1 r0.2.2.2.1 r0.2.2.2.2 g17 g18 g19) t.heap) A) args s 0 0 A) (F0 m 187 ls []) := by
  obtain ⟨hx, hb, hml, hown, hts, hr, hlocks⟩ := id hC
  intro v1 v2 v3 v4 g13 g14 g15 g16 H locs ls hP hD hS hl h
  rw [f_Ref_decimalHere_187] at h
  refine lv_aload_n hx hb (dt_at dt_Ref_decimalHere 99 rfl) rfl (lv_at hl 0 rfl) ?_
  refine lv_dup hx hb (dt_at dt_Ref_decimalHere 100 rfl) rfl ?_
  refine va_get (D := D) (ci := 0) (v := .int g13) (C := "OutwardTapeModel") (T := T_Ref) (N := 20) hx hb hts in_Ref hown hK hP 0 rfl rfl 13 (by decide) (hts (Cond.fieldLink "OutwardTapeModel" 221 "OutwardTapeModel" "place" "I") (m_4 12 rfl rfl)) (fun _ h9 => h9) rfl (dt_at dt_Ref_decimalHere 101 rfl) ?_
  refine lv_iconst (v := 1) hx hb (dt_at dt_Ref_decimalHere 102 rfl) (by decide) ?_
  refine lv_iadd hx hb (dt_at dt_Ref_decimalHere 103 rfl) ?_
  obtain ⟨t1, e_t1, h⟩ := ol_of h
  refine lv_topi (fun u_t1 q_t1 => ?_)
  obtain rfl : t1 = u_t1 := e_t1.trans q_t1.symm
  refine va_put (D := D) (ci := 0) (v := .int t1) (ty := .int) (C := "OutwardTapeModel") (T := T_Ref) (N := 20) hx hb hts in_Ref ty_Ref tk_Ref nm_Ref hown hK hP hD hS 0 rfl rfl 13 (by decide) (hts (Cond.fieldLink "OutwardTapeModel" 221 "OutwardTapeModel" "place" "I") (m_4 12 rfl rfl)) (fun _ h9 => h9) rfl (by decide +kernel) rfl rfl (Nat.le_of_ble_eq_true rfl) (dt_at dt_Ref_decimalHere 104 rfl) (fun H locs hP hD hS => ?_)
  have hP : va_P D CLS (wR a q g0 g1 g2 g3 g4 g5 g6 g7 g8 g9 g10 g11 g12 t1 g14 g15 g16 g17 g18 g19) H := hP
  have hD : va_D A (wR a q g0 g1 g2 g3 g4 g5 g6 g7 g8 g9 g10 g11 g12 t1 g14 g15 g16 g17 g18 g19) := hD
  refine lv_goto (tgt := 73) hx hb (dt_at dt_Ref_decimalHere 105 rfl) (by decide) ?_
  exact hk73 v1 v2 v3 v4 t1 g14 g15 g16 H locs ls hP hD hS (lv_sub hl [0, 1, 2, 3, 4] rfl) h
set_option maxRecDepth 100000 in
set_option maxHeartbeats 4000000 in
theorem k_Ref_decimalHere_175 {p : Program} {l : Launch} {e : Env} {s : State} {m : MethodId} {args : Array Value} {below : List Frame} {meth : Method} {c : Code} {D : va_G} {a : Nat → Nat} {q : Nat → ClassId} {A : Nat → Prop} (hC : CX p s m args meth c prog_12_method_60_code 9 "OutwardTapeModel" (some .boolean)) (hA : ∀ x, s.heap.size ≤ x → A x) (hK : va_K D CLS (tR q) s) {g0 : Int32} {g1 : Nat → Int32} {g2 : Nat → Int64} {g3 : Nat → Int64} {g4 : Nat → Int32} {g5 : Int32} {g6 : Nat → Int32} {g7 : Int32} {g8 : Nat → Int32} {g9 : Int32} {g10 : Int64} {g11 : Int64} {g12 : Int32} {g17 : Int32} {g18 : Int64} {g19 : Int32} {r0 : Int32 × Int32 × Int32 × Int64 × Int32} (k73 : Int32 → Int32 → Int32 → Int32 → (Nat → Int32) → Int32 → Int32 → Int32 → Int64 → Int32 → Option (Int32 × Int32 × Int32 × Int64 × Int32)) (hk73 : ∀ (v1 : Int32) (v2 : Int32) (v3 : Int32) (v4 : Int32) (g13 : Int32) (g14 : Int32) (g15 : Int64) (g16 : Int32) (H : Heap) (locs : List Loc) (ls : Array Slot), va_P D CLS (wR a q g0 g1 g2 g3 g4 g5 g6 g7 g8 g9 g10 g11 g12 g13 g14 g15 g16 g17 g18 g19) H → va_D A (wR a q g0 g1 g2 g3 g4 g5 g6 g7 g8 g9 g10 g11 g12 g13 g14 g15 g16 g17 g18 g19) → va_S A s.heap H locs → lv_has ls 9 [(0, .ref (a 0)), (1, .int v1), (2, .int v2), (3, .int v3), (4, .int v4)] → k73 v1 v2 v3 v4 g6 g7 g13 g14 g15 g16 = some r0 → W p l e rm_Ref_decimalHere s m args below meth c H locs 0 0 (MQ below (va_Qi (fun (r : Int32) (_ : Unit) => r = r0.1) (fun _ t => va_P D CLS (wR a q g0 g1 g2 g3 g4 g5 g6 g7 g8 g9 g10 g11 g12 r0.2.1 r0.2.2.1 r0.2.2.2.1 r0.2.2.2.2 g17 g18 g19) t.heap) A) args s 0 0 A) (F0 m 73 ls [])) : ∀ (s0 : Int64) (v1 : Int32) (v2 : Int32) (v3 : Int32) (v4 : Int32) (g13 : Int32) (g14 : Int32) (g15 : Int64) (g16 : Int32) (H : Heap) (locs : List Loc) (ls : Array Slot), va_P D CLS (wR a q g0 g1 g2 g3 g4 g5 g6 g7 g8 g9 g10 g11 g12 g13 g14 g15 g16 g17 g18 g19) H → va_D A (wR a q g0 g1 g2 g3 g4 g5 g6 g7 g8 g9 g10 g11 g12 g13 g14 g15 g16 g17 g18 g19) → va_S A s.heap H locs → lv_has ls 9 [(0, .ref (a 0)), (1, .int v1), (2, .int v2), (3, .int v3), (4, .int v4)] → f_Ref_decimalHere_175 k73 s0 v1 v2 v3 v4 g6 g7 g13 g14 g15 g16 = some r0 → W p l e rm_Ref_decimalHere s m args below meth c H locs 0 0 (MQ below (va_Qi (fun (r : Int32) (_ : Unit) => r = r0.1) (fun _ t => va_P D CLS (wR a q g0 g1 g2 g3 g4 g5 g6 g7 g8 g9 g10 g11 g12 r0.2.1 r0.2.2.1 r0.2.2.2.1 r0.2.2.2.2 g17 g18 g19) t.heap) A) args s 0 0 A) (F0 m 175 ls [.long s0, .ref (a 0)]) := by
  obtain ⟨hx, hb, hml, hown, hts, hr, hlocks⟩ := id hC
  intro s0 v1 v2 v3 v4 g13 g14 g15 g16 H locs ls hP hD hS hl h
  rw [f_Ref_decimalHere_175] at h
  refine va_put (D := D) (ci := 0) (v := .long s0) (ty := .long) (C := "OutwardTapeModel") (T := T_Ref) (N := 20) hx hb hts in_Ref ty_Ref tk_Ref nm_Ref hown hK hP hD hS 0 rfl rfl 15 (by decide) (hts (Cond.fieldLink "OutwardTapeModel" 247 "OutwardTapeModel" "digits" "J") (m_4 14 rfl rfl)) (fun _ h9 => h9) rfl (by decide +kernel) rfl rfl (Nat.le_of_ble_eq_true rfl) (dt_at dt_Ref_decimalHere 93 rfl) (fun H locs hP hD hS => ?_)
  have hP : va_P D CLS (wR a q g0 g1 g2 g3 g4 g5 g6 g7 g8 g9 g10 g11 g12 g13 g14 s0 g16 g17 g18 g19) H := hP
  have hD : va_D A (wR a q g0 g1 g2 g3 g4 g5 g6 g7 g8 g9 g10 g11 g12 g13 g14 s0 g16 g17 g18 g19) := hD
  obtain ⟨t1, e_t1, h⟩ := ol_of h
  refine lv_iinc (v := t1) (lv' := [(2, .int t1), (0, .ref (a 0)), (1, .int v1), (3, .int v3), (4, .int v4)]) hx hb (dt_at dt_Ref_decimalHere 94 rfl) hl (k := 2) rfl (by rw [e_t1]; rfl) (by decide) rfl (fun ls hl => ?_)
  refine lv_iload hx hb (dt_at dt_Ref_decimalHere 95 rfl) (lv_at hl 4 rfl) ?_
  refine lv_iload_n hx hb (dt_at dt_Ref_decimalHere 96 rfl) rfl (lv_at hl 3 rfl) ?_
  refine lv_iadd hx hb (dt_at dt_Ref_decimalHere 97 rfl) ?_
  obtain ⟨t2, e_t2, h⟩ := ol_of h
  refine lv_topi (fun u_t2 q_t2 => ?_)
  obtain rfl : t2 = u_t2 := e_t2.trans q_t2.symm
  refine lv_istore (lv' := [(4, .int t2), (2, .int t1), (0, .ref (a 0)), (1, .int v1), (3, .int v3)]) hx hb (dt_at dt_Ref_decimalHere 98 rfl) hl (by decide) rfl (fun ls hl => ?_)
  exact k_Ref_decimalHere_187 hC hA hK k73 hk73  v1 t1 v3 t2 g13 g14 s0 g16 H locs ls hP hD hS (lv_sub hl [2, 3, 1, 4, 0] rfl) h
set_option maxRecDepth 100000 in
set_option maxHeartbeats 4000000 in
theorem k_Ref_decimalHere_148 {p : Program} {l : Launch} {e : Env} {s : State} {m : MethodId} {args : Array Value} {below : List Frame} {meth : Method} {c : Code} {D : va_G} {a : Nat → Nat} {q : Nat → ClassId} {A : Nat → Prop} (hC : CX p s m args meth c prog_12_method_60_code 9 "OutwardTapeModel" (some .boolean)) (hA : ∀ x, s.heap.size ≤ x → A x) (hK : va_K D CLS (tR q) s) {g0 : Int32} {g1 : Nat → Int32} {g2 : Nat → Int64} {g3 : Nat → Int64} {g4 : Nat → Int32} {g5 : Int32} {g6 : Nat → Int32} {g7 : Int32} {g8 : Nat → Int32} {g9 : Int32} {g10 : Int64} {g11 : Int64} {g12 : Int32} {g17 : Int32} {g18 : Int64} {g19 : Int32} {r0 : Int32 × Int32 × Int32 × Int64 × Int32} (k73 : Int32 → Int32 → Int32 → Int32 → (Nat → Int32) → Int32 → Int32 → Int32 → Int64 → Int32 → Option (Int32 × Int32 × Int32 × Int64 × Int32)) (hk73 : ∀ (v1 : Int32) (v2 : Int32) (v3 : Int32) (v4 : Int32) (g13 : Int32) (g14 : Int32) (g15 : Int64) (g16 : Int32) (H : Heap) (locs : List Loc) (ls : Array Slot), va_P D CLS (wR a q g0 g1 g2 g3 g4 g5 g6 g7 g8 g9 g10 g11 g12 g13 g14 g15 g16 g17 g18 g19) H → va_D A (wR a q g0 g1 g2 g3 g4 g5 g6 g7 g8 g9 g10 g11 g12 g13 g14 g15 g16 g17 g18 g19) → va_S A s.heap H locs → lv_has ls 9 [(0, .ref (a 0)), (1, .int v1), (2, .int v2), (3, .int v3), (4, .int v4)] → k73 v1 v2 v3 v4 g6 g7 g13 g14 g15 g16 = some r0 → W p l e rm_Ref_decimalHere s m args below meth c H locs 0 0 (MQ below (va_Qi (fun (r : Int32) (_ : Unit) => r = r0.1) (fun _ t => va_P D CLS (wR a q g0 g1 g2 g3 g4 g5 g6 g7 g8 g9 g10 g11 g12 r0.2.1 r0.2.2.1 r0.2.2.2.1 r0.2.2.2.2 g17 g18 g19) t.heap) A) args s 0 0 A) (F0 m 73 ls [])) : ∀ (s0 : Int32) (v2 : Int32) (v3 : Int32) (v4 : Int32) (v5 : Int32) (g13 : Int32) (g14 : Int32) (g15 : Int64) (g16 : Int32) (H : Heap) (locs : List Loc) (ls : Array Slot), va_P D CLS (wR a q g0 g1 g2 g3 g4 g5 g6 g7 g8 g9 g10 g11 g12 g13 g14 g15 g16 g17 g18 g19) H → va_D A (wR a q g0 g1 g2 g3 g4 g5 g6 g7 g8 g9 g10 g11 g12 g13 g14 g15 g16 g17 g18 g19) → va_S A s.heap H locs → lv_has ls 9 [(0, .ref (a 0)), (2, .int v2), (3, .int v3), (4, .int v4), (5, .int v5)] → f_Ref_decimalHere_148 k73 s0 v2 v3 v4 v5 g6 g7 g13 g14 g15 g16 = some r0 → W p l e rm_Ref_decimalHere s m args below meth c H locs 0 0 (MQ below (va_Qi (fun (r : Int32) (_ : Unit) => r = r0.1) (fun _ t => va_P D CLS (wR a q g0 g1 g2 g3 g4 g5 g6 g7 g8 g9 g10 g11 g12 r0.2.1 r0.2.2.1 r0.2.2.2.1 r0.2.2.2.2 g17 g18 g19) t.heap) A) args s 0 0 A) (F0 m 148 ls [.int s0]) := by
  obtain ⟨hx, hb, hml, hown, hts, hr, hlocks⟩ := id hC
  intro s0 v2 v3 v4 v5 g13 g14 g15 g16 H locs ls hP hD hS hl h
  rw [f_Ref_decimalHere_148] at h
  refine lv_istore_n (lv' := [(1, .int s0), (0, .ref (a 0)), (2, .int v2), (3, .int v3), (4, .int v4), (5, .int v5)]) hx hb (dt_at dt_Ref_decimalHere 78 rfl) rfl hl (by decide) rfl (fun ls hl => ?_)
  refine lv_aload_n hx hb (dt_at dt_Ref_decimalHere 79 rfl) rfl (lv_at hl 1 rfl) ?_
  refine lv_iload_n hx hb (dt_at dt_Ref_decimalHere 80 rfl) rfl (lv_at hl 0 rfl) ?_
  refine lv_bipush (v := 18) hx hb (dt_at dt_Ref_decimalHere 81 rfl) (by decide) ?_
  refine lv_icmp_gt (tgt := 171) hx hb (dt_at dt_Ref_decimalHere 82 rfl) (by decide) (fun c1 => ?_) (fun c1 => ?_)
  · have h := if_p h c1
    refine lv_aload_n hx hb (dt_at dt_Ref_decimalHere 91 rfl) rfl (lv_at hl 1 rfl) ?_
    refine va_get (D := D) (ci := 0) (v := .long g15) (C := "OutwardTapeModel") (T := T_Ref) (N := 20) hx hb hts in_Ref hown hK hP 0 rfl rfl 15 (by decide) (hts (Cond.fieldLink "OutwardTapeModel" 247 "OutwardTapeModel" "digits" "J") (m_4 14 rfl rfl)) (fun _ h9 => h9) rfl (dt_at dt_Ref_decimalHere 92 rfl) ?_
    exact k_Ref_decimalHere_175 hC hA hK k73 hk73  g15 s0 v2 v3 v4 g13 g14 g15 g16 H locs ls hP hD hS (lv_sub hl [1, 0, 2, 3, 4] rfl) h
  · have h := if_n h c1
    refine lv_ldc2 (v := 10) hx hb hown (hts (Cond.constantLong "OutwardTapeModel" 253 (10)) (m_5 64 rfl rfl)) (dt_at dt_Ref_decimalHere 83 rfl) ?_
    refine lv_aload_n hx hb (dt_at dt_Ref_decimalHere 84 rfl) rfl (lv_at hl 1 rfl) ?_
    refine va_get (D := D) (ci := 0) (v := .long g15) (C := "OutwardTapeModel") (T := T_Ref) (N := 20) hx hb hts in_Ref hown hK hP 0 rfl rfl 15 (by decide) (hts (Cond.fieldLink "OutwardTapeModel" 247 "OutwardTapeModel" "digits" "J") (m_4 14 rfl rfl)) (fun _ h9 => h9) rfl (dt_at dt_Ref_decimalHere 85 rfl) ?_
    refine lv_lmul hx hb (dt_at dt_Ref_decimalHere 86 rfl) ?_
    refine lv_iload hx hb (dt_at dt_Ref_decimalHere 87 rfl) (lv_at hl 5 rfl) ?_
    refine lv_i2l (v := v5.toInt64) hx hb (dt_at dt_Ref_decimalHere 88 rfl) rfl ?_
    refine lv_ladd hx hb (dt_at dt_Ref_decimalHere 89 rfl) ?_
    refine lv_goto (tgt := 175) hx hb (dt_at dt_Ref_decimalHere 90 rfl) (by decide) ?_
    exact k_Ref_decimalHere_175 hC hA hK k73 hk73  (((10 : Int64) * g15) + (v5.toInt64)) s0 v2 v3 v4 g13 g14 g15 g16 H locs ls hP hD hS (lv_sub hl [1, 0, 2, 3, 4] rfl) h
set_option maxRecDepth 100000 in
set_option maxHeartbeats 4000000 in
theorem k_Ref_decimalHere_141 {p : Program} {l : Launch} {e : Env} {s : State} {m : MethodId} {args : Array Value} {below : List Frame} {meth : Method} {c : Code} {D : va_G} {a : Nat → Nat} {q : Nat → ClassId} {A : Nat → Prop} (hC : CX p s m args meth c prog_12_method_60_code 9 "OutwardTapeModel" (some .boolean)) (hA : ∀ x, s.heap.size ≤ x → A x) (hK : va_K D CLS (tR q) s) {g0 : Int32} {g1 : Nat → Int32} {g2 : Nat → Int64} {g3 : Nat → Int64} {g4 : Nat → Int32} {g5 : Int32} {g6 : Nat → Int32} {g7 : Int32} {g8 : Nat → Int32} {g9 : Int32} {g10 : Int64} {g11 : Int64} {g12 : Int32} {g17 : Int32} {g18 : Int64} {g19 : Int32} {r0 : Int32 × Int32 × Int32 × Int64 × Int32} (k73 : Int32 → Int32 → Int32 → Int32 → (Nat → Int32) → Int32 → Int32 → Int32 → Int64 → Int32 → Option (Int32 × Int32 × Int32 × Int64 × Int32)) (hk73 : ∀ (v1 : Int32) (v2 : Int32) (v3 : Int32) (v4 : Int32) (g13 : Int32) (g14 : Int32) (g15 : Int64) (g16 : Int32) (H : Heap) (locs : List Loc) (ls : Array Slot), va_P D CLS (wR a q g0 g1 g2 g3 g4 g5 g6 g7 g8 g9 g10 g11 g12 g13 g14 g15 g16 g17 g18 g19) H → va_D A (wR a q g0 g1 g2 g3 g4 g5 g6 g7 g8 g9 g10 g11 g12 g13 g14 g15 g16 g17 g18 g19) → va_S A s.heap H locs → lv_has ls 9 [(0, .ref (a 0)), (1, .int v1), (2, .int v2), (3, .int v3), (4, .int v4)] → k73 v1 v2 v3 v4 g6 g7 g13 g14 g15 g16 = some r0 → W p l e rm_Ref_decimalHere s m args below meth c H locs 0 0 (MQ below (va_Qi (fun (r : Int32) (_ : Unit) => r = r0.1) (fun _ t => va_P D CLS (wR a q g0 g1 g2 g3 g4 g5 g6 g7 g8 g9 g10 g11 g12 r0.2.1 r0.2.2.1 r0.2.2.2.1 r0.2.2.2.2 g17 g18 g19) t.heap) A) args s 0 0 A) (F0 m 73 ls [])) : ∀ (v1 : Int32) (v2 : Int32) (v3 : Int32) (v4 : Int32) (v5 : Int32) (g13 : Int32) (g14 : Int32) (g15 : Int64) (g16 : Int32) (H : Heap) (locs : List Loc) (ls : Array Slot), va_P D CLS (wR a q g0 g1 g2 g3 g4 g5 g6 g7 g8 g9 g10 g11 g12 g13 g14 g15 g16 g17 g18 g19) H → va_D A (wR a q g0 g1 g2 g3 g4 g5 g6 g7 g8 g9 g10 g11 g12 g13 g14 g15 g16 g17 g18 g19) → va_S A s.heap H locs → lv_has ls 9 [(0, .ref (a 0)), (1, .int v1), (2, .int v2), (3, .int v3), (4, .int v4), (5, .int v5)] → f_Ref_decimalHere_141 k73 v1 v2 v3 v4 v5 g6 g7 g13 g14 g15 g16 = some r0 → W p l e rm_Ref_decimalHere s m args below meth c H locs 0 0 (MQ below (va_Qi (fun (r : Int32) (_ : Unit) => r = r0.1) (fun _ t => va_P D CLS (wR a q g0 g1 g2 g3 g4 g5 g6 g7 g8 g9 g10 g11 g12 r0.2.1 r0.2.2.1 r0.2.2.2.1 r0.2.2.2.2 g17 g18 g19) t.heap) A) args s 0 0 A) (F0 m 141 ls []) := by
  obtain ⟨hx, hb, hml, hown, hts, hr, hlocks⟩ := id hC
  intro v1 v2 v3 v4 v5 g13 g14 g15 g16 H locs ls hP hD hS hl h
  rw [f_Ref_decimalHere_141] at h
  refine lv_iload_n hx hb (dt_at dt_Ref_decimalHere 73 rfl) rfl (lv_at hl 1 rfl) ?_
  refine lv_iconst (v := 1) hx hb (dt_at dt_Ref_decimalHere 74 rfl) (by decide) ?_
  refine lv_iadd hx hb (dt_at dt_Ref_decimalHere 75 rfl) ?_
  refine lv_goto (tgt := 148) hx hb (dt_at dt_Ref_decimalHere 76 rfl) (by decide) ?_
  exact k_Ref_decimalHere_148 hC hA hK k73 hk73  (v1 + (1 : Int32)) v2 v3 v4 v5 g13 g14 g15 g16 H locs ls hP hD hS (lv_sub hl [0, 2, 3, 4, 5] rfl) h
set_option maxRecDepth 100000 in
set_option maxHeartbeats 4000000 in
theorem k_Ref_decimalHere_101 {p : Program} {l : Launch} {e : Env} {s : State} {m : MethodId} {args : Array Value} {below : List Frame} {meth : Method} {c : Code} {D : va_G} {a : Nat → Nat} {q : Nat → ClassId} {A : Nat → Prop} (hC : CX p s m args meth c prog_12_method_60_code 9 "OutwardTapeModel" (some .boolean)) (hA : ∀ x, s.heap.size ≤ x → A x) (hK : va_K D CLS (tR q) s) {g0 : Int32} {g1 : Nat → Int32} {g2 : Nat → Int64} {g3 : Nat → Int64} {g4 : Nat → Int32} {g5 : Int32} {g6 : Nat → Int32} {g7 : Int32} {g8 : Nat → Int32} {g9 : Int32} {g10 : Int64} {g11 : Int64} {g12 : Int32} {g17 : Int32} {g18 : Int64} {g19 : Int32} {r0 : Int32 × Int32 × Int32 × Int64 × Int32} (k73 : Int32 → Int32 → Int32 → Int32 → (Nat → Int32) → Int32 → Int32 → Int32 → Int64 → Int32 → Option (Int32 × Int32 × Int32 × Int64 × Int32)) (hk73 : ∀ (v1 : Int32) (v2 : Int32) (v3 : Int32) (v4 : Int32) (g13 : Int32) (g14 : Int32) (g15 : Int64) (g16 : Int32) (H : Heap) (locs : List Loc) (ls : Array Slot), va_P D CLS (wR a q g0 g1 g2 g3 g4 g5 g6 g7 g8 g9 g10 g11 g12 g13 g14 g15 g16 g17 g18 g19) H → va_D A (wR a q g0 g1 g2 g3 g4 g5 g6 g7 g8 g9 g10 g11 g12 g13 g14 g15 g16 g17 g18 g19) → va_S A s.heap H locs → lv_has ls 9 [(0, .ref (a 0)), (1, .int v1), (2, .int v2), (3, .int v3), (4, .int v4)] → k73 v1 v2 v3 v4 g6 g7 g13 g14 g15 g16 = some r0 → W p l e rm_Ref_decimalHere s m args below meth c H locs 0 0 (MQ below (va_Qi (fun (r : Int32) (_ : Unit) => r = r0.1) (fun _ t => va_P D CLS (wR a q g0 g1 g2 g3 g4 g5 g6 g7 g8 g9 g10 g11 g12 r0.2.1 r0.2.2.1 r0.2.2.2.1 r0.2.2.2.2 g17 g18 g19) t.heap) A) args s 0 0 A) (F0 m 73 ls [])) : ∀ (v1 : Int32) (v2 : Int32) (v3 : Int32) (v4 : Int32) (g13 : Int32) (g14 : Int32) (g15 : Int64) (g16 : Int32) (H : Heap) (locs : List Loc) (ls : Array Slot), va_P D CLS (wR a q g0 g1 g2 g3 g4 g5 g6 g7 g8 g9 g10 g11 g12 g13 g14 g15 g16 g17 g18 g19) H → va_D A (wR a q g0 g1 g2 g3 g4 g5 g6 g7 g8 g9 g10 g11 g12 g13 g14 g15 g16 g17 g18 g19) → va_S A s.heap H locs → lv_has ls 9 [(0, .ref (a 0)), (1, .int v1), (2, .int v2), (3, .int v3), (4, .int v4)] → f_Ref_decimalHere_101 k73 v1 v2 v3 v4 g6 g7 g13 g14 g15 g16 = some r0 → W p l e rm_Ref_decimalHere s m args below meth c H locs 0 0 (MQ below (va_Qi (fun (r : Int32) (_ : Unit) => r = r0.1) (fun _ t => va_P D CLS (wR a q g0 g1 g2 g3 g4 g5 g6 g7 g8 g9 g10 g11 g12 r0.2.1 r0.2.2.1 r0.2.2.2.1 r0.2.2.2.2 g17 g18 g19) t.heap) A) args s 0 0 A) (F0 m 101 ls []) := by
  obtain ⟨hx, hb, hml, hown, hts, hr, hlocks⟩ := id hC
  intro v1 v2 v3 v4 g13 g14 g15 g16 H locs ls hP hD hS hl h
  rw [f_Ref_decimalHere_101] at h
  refine lv_aload_n hx hb (dt_at dt_Ref_decimalHere 53 rfl) rfl (lv_at hl 0 rfl) ?_
  refine lv_aload_n hx hb (dt_at dt_Ref_decimalHere 54 rfl) rfl (lv_at hl 0 rfl) ?_
  refine va_get (D := D) (ci := 0) (v := .int g13) (C := "OutwardTapeModel") (T := T_Ref) (N := 20) hx hb hts in_Ref hown hK hP 0 rfl rfl 13 (by decide) (hts (Cond.fieldLink "OutwardTapeModel" 221 "OutwardTapeModel" "place" "I") (m_4 12 rfl rfl)) (fun _ h9 => h9) rfl (dt_at dt_Ref_decimalHere 55 rfl) ?_
  obtain ⟨r1, h_r1, h⟩ := ob_of h
  have hF := va_free (wc := dR a) (dD (ws' := dR a) hD rfl) hS hA [0, 1, 2, 3, 4, 5, 6] rfl
  have hd : va_D (fun _ => True) (dR a) := (dD (ws' := dR a) hD rfl).weaken (fun _ _ _ _ => trivial)
  refine va_calli (va_runV (As := [.int g13]) (rest := []) ⟨hx, hb, hml, hown, hts⟩ (c_Ref_seen l D a q hd H.size g13 g0 g1 g2 g3 g4 g5 g6 g7 g8 g9 g10 g11 g12 g13 g14 g15 g16 g17 g18 g19 r1 h_r1) (cwV 1 hts (gd_V (m_5 15 rfl rfl) (m_5 17 rfl rfl) (m_s 51 rfl rfl) (m_1 4 rfl rfl) (m_5 18 rfl rfl)) rfl rfl rfl (by decide +kernel) ⟨Nat.le_of_ble_eq_true rfl, Nat.le_of_ble_eq_true rfl⟩) ⟨fun a U g mk q => ⟨q.1, q.2.1, q.2.2.1, va_K.moved (u := U) (U := U.calling g mk a) (Vm.Alike.refl U.vm) q.2.2.2⟩, va_recv hK hP (ci := 0) (q0 := 0) rfl rfl, fun U hU hW => ⟨rfl, by rw [hU], by rw [hU]; exact hP, va_K.moved hW.alike hK⟩⟩ rfl rfl hl.1 rfl (lv_room (Nat.le_of_ble_eq_true rfl)) (dt_at dt_Ref_decimalHere 56 rfl) ⟨Nat.le_of_ble_eq_true rfl, Nat.le_of_ble_eq_true rfl⟩) hS (fun x _ h9 => hF x h9) hF (fun u_r1 uu t H locs ht hvm hw hB hz1 hk1 hS => ?_)
  rw [ht] at hB
  obtain rfl : r1 = u_r1 := hw.symm
  have hP : va_P D CLS (wR a q g0 g1 g2 g3 g4 g5 g6 g7 g8 g9 g10 g11 g12 g13 g14 g15 g16 g17 g18 g19) H := hB
  have hD : va_D A (wR a q g0 g1 g2 g3 g4 g5 g6 g7 g8 g9 g10 g11 g12 g13 g14 g15 g16 g17 g18 g19) := dD hD rfl
  refine lv_bipush (v := 46) hx hb (dt_at dt_Ref_decimalHere 57 rfl) (by decide) ?_
  refine lv_icmp_ne (tgt := 119) hx hb (dt_at dt_Ref_decimalHere 58 rfl) (by decide) (fun c2 => ?_) (fun c2 => ?_)
  · have h := if_n h c2
    refine lv_aload_n hx hb (dt_at dt_Ref_decimalHere 62 rfl) rfl (lv_at hl 0 rfl) ?_
    refine lv_aload_n hx hb (dt_at dt_Ref_decimalHere 63 rfl) rfl (lv_at hl 0 rfl) ?_
    refine va_get (D := D) (ci := 0) (v := .int g13) (C := "OutwardTapeModel") (T := T_Ref) (N := 20) hx hb hts in_Ref hown hK hP 0 rfl rfl 13 (by decide) (hts (Cond.fieldLink "OutwardTapeModel" 221 "OutwardTapeModel" "place" "I") (m_4 12 rfl rfl)) (fun _ h9 => h9) rfl (dt_at dt_Ref_decimalHere 64 rfl) ?_
    obtain ⟨r3, h_r3, h⟩ := ob_of h
    have hF := va_free (wc := dR a) (dD (ws' := dR a) hD rfl) hS hA [0, 1, 2, 3, 4, 5, 6] rfl
    have hd : va_D (fun _ => True) (dR a) := (dD (ws' := dR a) hD rfl).weaken (fun _ _ _ _ => trivial)
    refine va_calli (va_runV (As := [.int g13]) (rest := []) ⟨hx, hb, hml, hown, hts⟩ (c_Ref_seen l D a q hd H.size g13 g0 g1 g2 g3 g4 g5 g6 g7 g8 g9 g10 g11 g12 g13 g14 g15 g16 g17 g18 g19 r3 h_r3) (cwV 1 hts (gd_V (m_5 15 rfl rfl) (m_5 17 rfl rfl) (m_s 51 rfl rfl) (m_1 4 rfl rfl) (m_5 18 rfl rfl)) rfl rfl rfl (by decide +kernel) ⟨Nat.le_of_ble_eq_true rfl, Nat.le_of_ble_eq_true rfl⟩) ⟨fun a U g mk q => ⟨q.1, q.2.1, q.2.2.1, va_K.moved (u := U) (U := U.calling g mk a) (Vm.Alike.refl U.vm) q.2.2.2⟩, va_recv hK hP (ci := 0) (q0 := 0) rfl rfl, fun U hU hW => ⟨rfl, by rw [hU], by rw [hU]; exact hP, va_K.moved hW.alike hK⟩⟩ rfl rfl hl.1 rfl (lv_room (Nat.le_of_ble_eq_true rfl)) (dt_at dt_Ref_decimalHere 65 rfl) ⟨Nat.le_of_ble_eq_true rfl, Nat.le_of_ble_eq_true rfl⟩) hS (fun x _ h9 => hF x h9) hF (fun u_r3 uu t H locs ht hvm hw hB hz1 hk1 hS => ?_)
    rw [ht] at hB
    obtain rfl : r3 = u_r3 := hw.symm
    have hP : va_P D CLS (wR a q g0 g1 g2 g3 g4 g5 g6 g7 g8 g9 g10 g11 g12 g13 g14 g15 g16 g17 g18 g19) H := hB
    have hD : va_D A (wR a q g0 g1 g2 g3 g4 g5 g6 g7 g8 g9 g10 g11 g12 g13 g14 g15 g16 g17 g18 g19) := dD hD rfl
    refine lv_bipush (v := 48) hx hb (dt_at dt_Ref_decimalHere 66 rfl) (by decide) ?_
    refine lv_isub hx hb (dt_at dt_Ref_decimalHere 67 rfl) ?_
    obtain ⟨t4, e_t4, h⟩ := ol_of h
    refine lv_topi (fun u_t4 q_t4 => ?_)
    obtain rfl : t4 = u_t4 := e_t4.trans q_t4.symm
    refine lv_istore (lv' := [(5, .int t4), (0, .ref (a 0)), (1, .int v1), (2, .int v2), (3, .int v3), (4, .int v4)]) hx hb (dt_at dt_Ref_decimalHere 68 rfl) hl (by decide) rfl (fun ls hl => ?_)
    refine lv_iload_n hx hb (dt_at dt_Ref_decimalHere 69 rfl) rfl (lv_at hl 2 rfl) ?_
    refine lv_if_gt (tgt := 141) hx hb (dt_at dt_Ref_decimalHere 70 rfl) (by decide) (fun c5 => ?_) (fun c5 => ?_)
    · have h := if_p h c5
      exact k_Ref_decimalHere_141 hC hA hK k73 hk73  v1 v2 v3 v4 t4 g13 g14 g15 g16 H locs ls hP hD hS (lv_sub hl [1, 2, 3, 4, 5, 0] rfl) h
    · have h := if_n h c5
      refine lv_iload hx hb (dt_at dt_Ref_decimalHere 71 rfl) (lv_at hl 0 rfl) ?_
      refine lv_if_le (tgt := 147) hx hb (dt_at dt_Ref_decimalHere 72 rfl) (by decide) (fun c6 => ?_) (fun c6 => ?_)
      · have h := if_p h c6
        refine lv_iconst (v := 0) hx hb (dt_at dt_Ref_decimalHere 77 rfl) (by decide) ?_
        exact k_Ref_decimalHere_148 hC hA hK k73 hk73  (0 : Int32) v2 v3 v4 t4 g13 g14 g15 g16 H locs ls hP hD hS (lv_sub hl [1, 3, 4, 5, 0] rfl) h
      · have h := if_n h c6
        exact k_Ref_decimalHere_141 hC hA hK k73 hk73  v1 v2 v3 v4 t4 g13 g14 g15 g16 H locs ls hP hD hS (lv_sub hl [1, 2, 3, 4, 5, 0] rfl) h
  · have h := if_p h c2
    refine lv_iconst (v := 1) hx hb (dt_at dt_Ref_decimalHere 59 rfl) (by decide) ?_
    refine lv_istore_n (lv' := [(3, .int (1 : Int32)), (0, .ref (a 0)), (1, .int v1), (2, .int v2), (4, .int v4)]) hx hb (dt_at dt_Ref_decimalHere 60 rfl) rfl hl (by decide) rfl (fun ls hl => ?_)
    refine lv_goto (tgt := 187) hx hb (dt_at dt_Ref_decimalHere 61 rfl) (by decide) ?_
    exact k_Ref_decimalHere_187 hC hA hK k73 hk73  v1 v2 (1 : Int32) v4 g13 g14 g15 g16 H locs ls hP hD hS (lv_sub hl [1, 2, 3, 0, 4] rfl) h
set_option maxRecDepth 100000 in
set_option maxHeartbeats 4000000 in
theorem k_Ref_decimalHere_73 {p : Program} {l : Launch} {e : Env} {s : State} {m : MethodId} {args : Array Value} {below : List Frame} {meth : Method} {c : Code} {D : va_G} {a : Nat → Nat} {q : Nat → ClassId} {A : Nat → Prop} (hC : CX p s m args meth c prog_12_method_60_code 9 "OutwardTapeModel" (some .boolean)) (hA : ∀ x, s.heap.size ≤ x → A x) (hK : va_K D CLS (tR q) s) {g0 : Int32} {g1 : Nat → Int32} {g2 : Nat → Int64} {g3 : Nat → Int64} {g4 : Nat → Int32} {g5 : Int32} {g6 : Nat → Int32} {g7 : Int32} {g8 : Nat → Int32} {g9 : Int32} {g10 : Int64} {g11 : Int64} {g12 : Int32} {g17 : Int32} {g18 : Int64} {g19 : Int32} {r0 : Int32 × Int32 × Int32 × Int64 × Int32} : ∀ n : Nat, ∀ (v1 : Int32) (v2 : Int32) (v3 : Int32) (v4 : Int32) (g13 : Int32) (g14 : Int32) (g15 : Int64) (g16 : Int32) (H : Heap) (locs : List Loc) (ls : Array Slot), va_P D CLS (wR a q g0 g1 g2 g3 g4 g5 g6 g7 g8 g9 g10 g11 g12 g13 g14 g15 g16 g17 g18 g19) H → va_D A (wR a q g0 g1 g2 g3 g4 g5 g6 g7 g8 g9 g10 g11 g12 g13 g14 g15 g16 g17 g18 g19) → va_S A s.heap H locs → lv_has ls 9 [(0, .ref (a 0)), (1, .int v1), (2, .int v2), (3, .int v3), (4, .int v4)] → f_Ref_decimalHere_73  n v1 v2 v3 v4 g6 g7 g13 g14 g15 g16 = some r0 → W p l e rm_Ref_decimalHere s m args below meth c H locs 0 0 (MQ below (va_Qi (fun (r : Int32) (_ : Unit) => r = r0.1) (fun _ t => va_P D CLS (wR a q g0 g1 g2 g3 g4 g5 g6 g7 g8 g9 g10 g11 g12 r0.2.1 r0.2.2.1 r0.2.2.2.1 r0.2.2.2.2 g17 g18 g19) t.heap) A) args s 0 0 A) (F0 m 73 ls []) := by
  obtain ⟨hx, hb, hml, hown, hts, hr, hlocks⟩ := id hC
  intro n
  induction n with
  | zero => intro v1 v2 v3 v4 g13 g14 g15 g16 H locs ls hP hD hS hl h; cases h
  | succ n ih =>
    intro v1 v2 v3 v4 g13 g14 g15 g16 H locs ls hP hD hS hl h
    rw [f_Ref_decimalHere_73] at h
    refine lv_aload_n hx hb (dt_at dt_Ref_decimalHere 40 rfl) rfl (lv_at hl 0 rfl) ?_
    refine lv_aload_n hx hb (dt_at dt_Ref_decimalHere 41 rfl) rfl (lv_at hl 0 rfl) ?_
    refine va_get (D := D) (ci := 0) (v := .int g13) (C := "OutwardTapeModel") (T := T_Ref) (N := 20) hx hb hts in_Ref hown hK hP 0 rfl rfl 13 (by decide) (hts (Cond.fieldLink "OutwardTapeModel" 221 "OutwardTapeModel" "place" "I") (m_4 12 rfl rfl)) (fun _ h9 => h9) rfl (dt_at dt_Ref_decimalHere 42 rfl) ?_
    obtain ⟨r1, h_r1, h⟩ := ob_of h
    have hF := va_free (wc := dR a) (dD (ws' := dR a) hD rfl) hS hA [0, 1, 2, 3, 4, 5, 6] rfl
    have hd : va_D (fun _ => True) (dR a) := (dD (ws' := dR a) hD rfl).weaken (fun _ _ _ _ => trivial)
    refine va_calli (va_runV (As := [.int g13]) (rest := []) ⟨hx, hb, hml, hown, hts⟩ (c_Ref_isDigit l D a q hd H.size g13 g0 g1 g2 g3 g4 g5 g6 g7 g8 g9 g10 g11 g12 g13 g14 g15 g16 g17 g18 g19 r1 h_r1) (cwV 1 hts (gd_V (m_5 60 rfl rfl) (m_5 62 rfl rfl) (m_s 59 rfl rfl) (m_1 4 rfl rfl) (m_5 63 rfl rfl)) rfl rfl rfl (by decide +kernel) ⟨Nat.le_of_ble_eq_true rfl, Nat.le_of_ble_eq_true rfl⟩) ⟨fun a U g mk q => ⟨q.1, q.2.1, q.2.2.1, va_K.moved (u := U) (U := U.calling g mk a) (Vm.Alike.refl U.vm) q.2.2.2⟩, va_recv hK hP (ci := 0) (q0 := 0) rfl rfl, fun U hU hW => ⟨rfl, by rw [hU], by rw [hU]; exact hP, va_K.moved hW.alike hK⟩⟩ rfl rfl hl.1 rfl (lv_room (Nat.le_of_ble_eq_true rfl)) (dt_at dt_Ref_decimalHere 43 rfl) ⟨Nat.le_of_ble_eq_true rfl, Nat.le_of_ble_eq_true rfl⟩) hS (fun x _ h9 => hF x h9) hF (fun u_r1 uu t H locs ht hvm hw hB hz1 hk1 hS => ?_)
    rw [ht] at hB
    obtain rfl : r1 = u_r1 := hw.symm
    have hP : va_P D CLS (wR a q g0 g1 g2 g3 g4 g5 g6 g7 g8 g9 g10 g11 g12 g13 g14 g15 g16 g17 g18 g19) H := hB
    have hD : va_D A (wR a q g0 g1 g2 g3 g4 g5 g6 g7 g8 g9 g10 g11 g12 g13 g14 g15 g16 g17 g18 g19) := dD hD rfl
    refine lv_if_ne (tgt := 101) hx hb (dt_at dt_Ref_decimalHere 44 rfl) (by decide) (fun c2 => ?_) (fun c2 => ?_)
    · have h := if_n h c2
      exact k_Ref_decimalHere_101 hC hA hK (f_Ref_decimalHere_73  n) ih  v1 v2 v3 v4 g13 g14 g15 g16 H locs ls hP hD hS (lv_sub hl [0, 1, 2, 3, 4] rfl) h
    · have h := if_p h c2
      refine lv_aload_n hx hb (dt_at dt_Ref_decimalHere 45 rfl) rfl (lv_at hl 0 rfl) ?_
      refine lv_aload_n hx hb (dt_at dt_Ref_decimalHere 46 rfl) rfl (lv_at hl 0 rfl) ?_
      refine va_get (D := D) (ci := 0) (v := .int g13) (C := "OutwardTapeModel") (T := T_Ref) (N := 20) hx hb hts in_Ref hown hK hP 0 rfl rfl 13 (by decide) (hts (Cond.fieldLink "OutwardTapeModel" 221 "OutwardTapeModel" "place" "I") (m_4 12 rfl rfl)) (fun _ h9 => h9) rfl (dt_at dt_Ref_decimalHere 47 rfl) ?_
      obtain ⟨r3, h_r3, h⟩ := ob_of h
      have hF := va_free (wc := dR a) (dD (ws' := dR a) hD rfl) hS hA [0, 1, 2, 3, 4, 5, 6] rfl
      have hd : va_D (fun _ => True) (dR a) := (dD (ws' := dR a) hD rfl).weaken (fun _ _ _ _ => trivial)
      refine va_calli (va_runV (As := [.int g13]) (rest := []) ⟨hx, hb, hml, hown, hts⟩ (c_Ref_seen l D a q hd H.size g13 g0 g1 g2 g3 g4 g5 g6 g7 g8 g9 g10 g11 g12 g13 g14 g15 g16 g17 g18 g19 r3 h_r3) (cwV 1 hts (gd_V (m_5 15 rfl rfl) (m_5 17 rfl rfl) (m_s 51 rfl rfl) (m_1 4 rfl rfl) (m_5 18 rfl rfl)) rfl rfl rfl (by decide +kernel) ⟨Nat.le_of_ble_eq_true rfl, Nat.le_of_ble_eq_true rfl⟩) ⟨fun a U g mk q => ⟨q.1, q.2.1, q.2.2.1, va_K.moved (u := U) (U := U.calling g mk a) (Vm.Alike.refl U.vm) q.2.2.2⟩, va_recv hK hP (ci := 0) (q0 := 0) rfl rfl, fun U hU hW => ⟨rfl, by rw [hU], by rw [hU]; exact hP, va_K.moved hW.alike hK⟩⟩ rfl rfl hl.1 rfl (lv_room (Nat.le_of_ble_eq_true rfl)) (dt_at dt_Ref_decimalHere 48 rfl) ⟨Nat.le_of_ble_eq_true rfl, Nat.le_of_ble_eq_true rfl⟩) hS (fun x _ h9 => hF x h9) hF (fun u_r3 uu t H locs ht hvm hw hB hz1 hk1 hS => ?_)
      rw [ht] at hB
      obtain rfl : r3 = u_r3 := hw.symm
      have hP : va_P D CLS (wR a q g0 g1 g2 g3 g4 g5 g6 g7 g8 g9 g10 g11 g12 g13 g14 g15 g16 g17 g18 g19) H := hB
      have hD : va_D A (wR a q g0 g1 g2 g3 g4 g5 g6 g7 g8 g9 g10 g11 g12 g13 g14 g15 g16 g17 g18 g19) := dD hD rfl
      refine lv_bipush (v := 46) hx hb (dt_at dt_Ref_decimalHere 49 rfl) (by decide) ?_
      refine lv_icmp_ne (tgt := 200) hx hb (dt_at dt_Ref_decimalHere 50 rfl) (by decide) (fun c4 => ?_) (fun c4 => ?_)
      · have h := if_n h c4
        exact k_Ref_decimalHere_200 hC hA hK   v1 v2 v4 g13 g14 g15 g16 H locs ls hP hD hS (lv_sub hl [0, 1, 2, 4] rfl) h
      · have h := if_p h c4
        refine lv_iload_n hx hb (dt_at dt_Ref_decimalHere 51 rfl) rfl (lv_at hl 3 rfl) ?_
        refine lv_if_ne (tgt := 200) hx hb (dt_at dt_Ref_decimalHere 52 rfl) (by decide) (fun c5 => ?_) (fun c5 => ?_)
        · have h := if_n h c5
          exact k_Ref_decimalHere_200 hC hA hK   v1 v2 v4 g13 g14 g15 g16 H locs ls hP hD hS (lv_sub hl [0, 1, 2, 4] rfl) h
        · have h := if_p h c5
          exact k_Ref_decimalHere_101 hC hA hK (f_Ref_decimalHere_73  n) ih  v1 v2 v3 v4 g13 g14 g15 g16 H locs ls hP hD hS (lv_sub hl [0, 1, 2, 3, 4] rfl) h
set_option maxRecDepth 100000 in
set_option maxHeartbeats 4000000 in
theorem k_Ref_decimalHere_56 {p : Program} {l : Launch} {e : Env} {s : State} {m : MethodId} {args : Array Value} {below : List Frame} {meth : Method} {c : Code} {D : va_G} {a : Nat → Nat} {q : Nat → ClassId} {A : Nat → Prop} (hC : CX p s m args meth c prog_12_method_60_code 9 "OutwardTapeModel" (some .boolean)) (hA : ∀ x, s.heap.size ≤ x → A x) (hK : va_K D CLS (tR q) s) {g0 : Int32} {g1 : Nat → Int32} {g2 : Nat → Int64} {g3 : Nat → Int64} {g4 : Nat → Int32} {g5 : Int32} {g6 : Nat → Int32} {g7 : Int32} {g8 : Nat → Int32} {g9 : Int32} {g10 : Int64} {g11 : Int64} {g12 : Int32} {g17 : Int32} {g18 : Int64} {g19 : Int32} {r0 : Int32 × Int32 × Int32 × Int64 × Int32} : ∀ (s0 : Int32) (g13 : Int32) (g14 : Int32) (g15 : Int64) (g16 : Int32) (H : Heap) (locs : List Loc) (ls : Array Slot), va_P D CLS (wR a q g0 g1 g2 g3 g4 g5 g6 g7 g8 g9 g10 g11 g12 g13 g14 g15 g16 g17 g18 g19) H → va_D A (wR a q g0 g1 g2 g3 g4 g5 g6 g7 g8 g9 g10 g11 g12 g13 g14 g15 g16 g17 g18 g19) → va_S A s.heap H locs → lv_has ls 9 [(0, .ref (a 0))] → f_Ref_decimalHere_56  s0 g6 g7 g13 g14 g15 g16 = some r0 → W p l e rm_Ref_decimalHere s m args below meth c H locs 0 0 (MQ below (va_Qi (fun (r : Int32) (_ : Unit) => r = r0.1) (fun _ t => va_P D CLS (wR a q g0 g1 g2 g3 g4 g5 g6 g7 g8 g9 g10 g11 g12 r0.2.1 r0.2.2.1 r0.2.2.2.1 r0.2.2.2.2 g17 g18 g19) t.heap) A) args s 0 0 A) (F0 m 56 ls [.int s0, .ref (a 0)]) := by
  obtain ⟨hx, hb, hml, hown, hts, hr, hlocks⟩ := id hC
  intro s0 g13 g14 g15 g16 H locs ls hP hD hS hl h
  rw [f_Ref_decimalHere_56] at h
  refine va_put (D := D) (ci := 0) (v := .int s0) (ty := .int) (C := "OutwardTapeModel") (T := T_Ref) (N := 20) hx hb hts in_Ref ty_Ref tk_Ref nm_Ref hown hK hP hD hS 0 rfl rfl 13 (by decide) (hts (Cond.fieldLink "OutwardTapeModel" 221 "OutwardTapeModel" "place" "I") (m_4 12 rfl rfl)) (fun _ h9 => h9) rfl (by decide +kernel) rfl rfl (Nat.le_of_ble_eq_true rfl) (dt_at dt_Ref_decimalHere 28 rfl) (fun H locs hP hD hS => ?_)
  have hP : va_P D CLS (wR a q g0 g1 g2 g3 g4 g5 g6 g7 g8 g9 g10 g11 g12 s0 g14 g15 g16 g17 g18 g19) H := hP
  have hD : va_D A (wR a q g0 g1 g2 g3 g4 g5 g6 g7 g8 g9 g10 g11 g12 s0 g14 g15 g16 g17 g18 g19) := hD
  refine lv_aload_n hx hb (dt_at dt_Ref_decimalHere 29 rfl) rfl (lv_at hl 0 rfl) ?_
  refine lv_lconst (v := 0) hx hb (dt_at dt_Ref_decimalHere 30 rfl) (by decide) ?_
  refine va_put (D := D) (ci := 0) (v := .long (0 : Int64)) (ty := .long) (C := "OutwardTapeModel") (T := T_Ref) (N := 20) hx hb hts in_Ref ty_Ref tk_Ref nm_Ref hown hK hP hD hS 0 rfl rfl 15 (by decide) (hts (Cond.fieldLink "OutwardTapeModel" 247 "OutwardTapeModel" "digits" "J") (m_4 14 rfl rfl)) (fun _ h9 => h9) rfl (by decide +kernel) rfl rfl (Nat.le_of_ble_eq_true rfl) (dt_at dt_Ref_decimalHere 31 rfl) (fun H locs hP hD hS => ?_)
  have hP : va_P D CLS (wR a q g0 g1 g2 g3 g4 g5 g6 g7 g8 g9 g10 g11 g12 s0 g14 (0 : Int64) g16 g17 g18 g19) H := hP
  have hD : va_D A (wR a q g0 g1 g2 g3 g4 g5 g6 g7 g8 g9 g10 g11 g12 s0 g14 (0 : Int64) g16 g17 g18 g19) := hD
  refine lv_iconst (v := 0) hx hb (dt_at dt_Ref_decimalHere 32 rfl) (by decide) ?_
  refine lv_istore_n (lv' := [(1, .int (0 : Int32)), (0, .ref (a 0))]) hx hb (dt_at dt_Ref_decimalHere 33 rfl) rfl hl (by decide) rfl (fun ls hl => ?_)
  refine lv_iconst (v := 0) hx hb (dt_at dt_Ref_decimalHere 34 rfl) (by decide) ?_
  refine lv_istore_n (lv' := [(2, .int (0 : Int32)), (1, .int (0 : Int32)), (0, .ref (a 0))]) hx hb (dt_at dt_Ref_decimalHere 35 rfl) rfl hl (by decide) rfl (fun ls hl => ?_)
  refine lv_iconst (v := 0) hx hb (dt_at dt_Ref_decimalHere 36 rfl) (by decide) ?_
  refine lv_istore_n (lv' := [(3, .int (0 : Int32)), (2, .int (0 : Int32)), (1, .int (0 : Int32)), (0, .ref (a 0))]) hx hb (dt_at dt_Ref_decimalHere 37 rfl) rfl hl (by decide) rfl (fun ls hl => ?_)
  refine lv_iconst (v := 0) hx hb (dt_at dt_Ref_decimalHere 38 rfl) (by decide) ?_
  refine lv_istore (lv' := [(4, .int (0 : Int32)), (3, .int (0 : Int32)), (2, .int (0 : Int32)), (1, .int (0 : Int32)), (0, .ref (a 0))]) hx hb (dt_at dt_Ref_decimalHere 39 rfl) hl (by decide) rfl (fun ls hl => ?_)
  exact k_Ref_decimalHere_73 hC hA hK  5000 (0 : Int32) (0 : Int32) (0 : Int32) (0 : Int32) s0 g14 (0 : Int64) g16 H locs ls hP hD hS (lv_sub hl [4, 3, 2, 1, 0] rfl) h
set_option maxRecDepth 100000 in
set_option maxHeartbeats 4000000 in
theorem k_Ref_decimalHere_43 {p : Program} {l : Launch} {e : Env} {s : State} {m : MethodId} {args : Array Value} {below : List Frame} {meth : Method} {c : Code} {D : va_G} {a : Nat → Nat} {q : Nat → ClassId} {A : Nat → Prop} (hC : CX p s m args meth c prog_12_method_60_code 9 "OutwardTapeModel" (some .boolean)) (hA : ∀ x, s.heap.size ≤ x → A x) (hK : va_K D CLS (tR q) s) {g0 : Int32} {g1 : Nat → Int32} {g2 : Nat → Int64} {g3 : Nat → Int64} {g4 : Nat → Int32} {g5 : Int32} {g6 : Nat → Int32} {g7 : Int32} {g8 : Nat → Int32} {g9 : Int32} {g10 : Int64} {g11 : Int64} {g12 : Int32} {g17 : Int32} {g18 : Int64} {g19 : Int32} {r0 : Int32 × Int32 × Int32 × Int64 × Int32} : ∀  (g13 : Int32) (g14 : Int32) (g15 : Int64) (g16 : Int32) (H : Heap) (locs : List Loc) (ls : Array Slot), va_P D CLS (wR a q g0 g1 g2 g3 g4 g5 g6 g7 g8 g9 g10 g11 g12 g13 g14 g15 g16 g17 g18 g19) H → va_D A (wR a q g0 g1 g2 g3 g4 g5 g6 g7 g8 g9 g10 g11 g12 g13 g14 g15 g16 g17 g18 g19) → va_S A s.heap H locs → lv_has ls 9 [(0, .ref (a 0))] → f_Ref_decimalHere_43  g6 g7 g13 g14 g15 g16 = some r0 → W p l e rm_Ref_decimalHere s m args below meth c H locs 0 0 (MQ below (va_Qi (fun (r : Int32) (_ : Unit) => r = r0.1) (fun _ t => va_P D CLS (wR a q g0 g1 g2 g3 g4 g5 g6 g7 g8 g9 g10 g11 g12 r0.2.1 r0.2.2.1 r0.2.2.2.1 r0.2.2.2.2 g17 g18 g19) t.heap) A) args s 0 0 A) (F0 m 43 ls [.ref (a 0)]) := by
  obtain ⟨hx, hb, hml, hown, hts, hr, hlocks⟩ := id hC
  intro g13 g14 g15 g16 H locs ls hP hD hS hl h
  rw [f_Ref_decimalHere_43] at h
  refine lv_aload_n hx hb (dt_at dt_Ref_decimalHere 21 rfl) rfl (lv_at hl 0 rfl) ?_
  refine va_get (D := D) (ci := 0) (v := .int g13) (C := "OutwardTapeModel") (T := T_Ref) (N := 20) hx hb hts in_Ref hown hK hP 0 rfl rfl 13 (by decide) (hts (Cond.fieldLink "OutwardTapeModel" 221 "OutwardTapeModel" "place" "I") (m_4 12 rfl rfl)) (fun _ h9 => h9) rfl (dt_at dt_Ref_decimalHere 22 rfl) ?_
  refine lv_iconst (v := 1) hx hb (dt_at dt_Ref_decimalHere 23 rfl) (by decide) ?_
  refine lv_iadd hx hb (dt_at dt_Ref_decimalHere 24 rfl) ?_
  refine lv_goto (tgt := 56) hx hb (dt_at dt_Ref_decimalHere 25 rfl) (by decide) ?_
  exact k_Ref_decimalHere_56 hC hA hK   (g13 + (1 : Int32)) g13 g14 g15 g16 H locs ls hP hD hS (lv_sub hl [0] rfl) h
set_option maxRecDepth 100000 in
set_option maxHeartbeats 4000000 in
theorem k_Ref_decimalHere_19 {p : Program} {l : Launch} {e : Env} {s : State} {m : MethodId} {args : Array Value} {below : List Frame} {meth : Method} {c : Code} {D : va_G} {a : Nat → Nat} {q : Nat → ClassId} {A : Nat → Prop} (hC : CX p s m args meth c prog_12_method_60_code 9 "OutwardTapeModel" (some .boolean)) (hA : ∀ x, s.heap.size ≤ x → A x) (hK : va_K D CLS (tR q) s) {g0 : Int32} {g1 : Nat → Int32} {g2 : Nat → Int64} {g3 : Nat → Int64} {g4 : Nat → Int32} {g5 : Int32} {g6 : Nat → Int32} {g7 : Int32} {g8 : Nat → Int32} {g9 : Int32} {g10 : Int64} {g11 : Int64} {g12 : Int32} {g17 : Int32} {g18 : Int64} {g19 : Int32} {r0 : Int32 × Int32 × Int32 × Int64 × Int32} : ∀ (s0 : Int32) (g13 : Int32) (g14 : Int32) (g15 : Int64) (g16 : Int32) (H : Heap) (locs : List Loc) (ls : Array Slot), va_P D CLS (wR a q g0 g1 g2 g3 g4 g5 g6 g7 g8 g9 g10 g11 g12 g13 g14 g15 g16 g17 g18 g19) H → va_D A (wR a q g0 g1 g2 g3 g4 g5 g6 g7 g8 g9 g10 g11 g12 g13 g14 g15 g16 g17 g18 g19) → va_S A s.heap H locs → lv_has ls 9 [(0, .ref (a 0))] → f_Ref_decimalHere_19  s0 g6 g7 g13 g14 g15 g16 = some r0 → W p l e rm_Ref_decimalHere s m args below meth c H locs 0 0 (MQ below (va_Qi (fun (r : Int32) (_ : Unit) => r = r0.1) (fun _ t => va_P D CLS (wR a q g0 g1 g2 g3 g4 g5 g6 g7 g8 g9 g10 g11 g12 r0.2.1 r0.2.2.1 r0.2.2.2.1 r0.2.2.2.2 g17 g18 g19) t.heap) A) args s 0 0 A) (F0 m 19 ls [.int s0, .ref (a 0)]) := by
  obtain ⟨hx, hb, hml, hown, hts, hr, hlocks⟩ := id hC
  intro s0 g13 g14 g15 g16 H locs ls hP hD hS hl h
  rw [f_Ref_decimalHere_19] at h
  obtain ⟨z1, h⟩ := og_of h
  refine va_put (D := D) (ci := 0) (v := .int s0) (ty := .boolean) (C := "OutwardTapeModel") (T := T_Ref) (N := 20) hx hb hts in_Ref ty_Ref tk_Ref nm_Ref hown hK hP hD hS 0 rfl rfl 14 (by decide) (hts (Cond.fieldLink "OutwardTapeModel" 244 "OutwardTapeModel" "minus" "Z") (m_4 13 rfl rfl)) (fun _ h9 => h9) rfl (by decide +kernel) (j_z_nar z1) (j_z_fit z1) (Nat.le_of_ble_eq_true rfl) (dt_at dt_Ref_decimalHere 10 rfl) (fun H locs hP hD hS => ?_)
  have hP : va_P D CLS (wR a q g0 g1 g2 g3 g4 g5 g6 g7 g8 g9 g10 g11 g12 g13 s0 g15 g16 g17 g18 g19) H := hP
  have hD : va_D A (wR a q g0 g1 g2 g3 g4 g5 g6 g7 g8 g9 g10 g11 g12 g13 s0 g15 g16 g17 g18 g19) := hD
  refine lv_aload_n hx hb (dt_at dt_Ref_decimalHere 11 rfl) rfl (lv_at hl 0 rfl) ?_
  refine lv_aload_n hx hb (dt_at dt_Ref_decimalHere 12 rfl) rfl (lv_at hl 0 rfl) ?_
  refine va_get (D := D) (ci := 0) (v := .int s0) (C := "OutwardTapeModel") (T := T_Ref) (N := 20) hx hb hts in_Ref hown hK hP 0 rfl rfl 14 (by decide) (hts (Cond.fieldLink "OutwardTapeModel" 244 "OutwardTapeModel" "minus" "Z") (m_4 13 rfl rfl)) (fun _ h9 => h9) rfl (dt_at dt_Ref_decimalHere 13 rfl) ?_
  refine lv_if_ne (tgt := 43) hx hb (dt_at dt_Ref_decimalHere 14 rfl) (by decide) (fun c2 => ?_) (fun c2 => ?_)
  · have h := if_n h c2
    exact k_Ref_decimalHere_43 hC hA hK   g13 s0 g15 g16 H locs ls hP hD hS (lv_sub hl [0] rfl) h
  · have h := if_p h c2
    refine lv_aload_n hx hb (dt_at dt_Ref_decimalHere 15 rfl) rfl (lv_at hl 0 rfl) ?_
    refine lv_aload_n hx hb (dt_at dt_Ref_decimalHere 16 rfl) rfl (lv_at hl 0 rfl) ?_
    refine va_get (D := D) (ci := 0) (v := .int g13) (C := "OutwardTapeModel") (T := T_Ref) (N := 20) hx hb hts in_Ref hown hK hP 0 rfl rfl 13 (by decide) (hts (Cond.fieldLink "OutwardTapeModel" 221 "OutwardTapeModel" "place" "I") (m_4 12 rfl rfl)) (fun _ h9 => h9) rfl (dt_at dt_Ref_decimalHere 17 rfl) ?_
    obtain ⟨r3, h_r3, h⟩ := ob_of h
    have hF := va_free (wc := dR a) (dD (ws' := dR a) hD rfl) hS hA [0, 1, 2, 3, 4, 5, 6] rfl
    have hd : va_D (fun _ => True) (dR a) := (dD (ws' := dR a) hD rfl).weaken (fun _ _ _ _ => trivial)
    refine va_calli (va_runV (As := [.int g13]) (rest := [.ref (a 0)]) ⟨hx, hb, hml, hown, hts⟩ (c_Ref_seen l D a q hd H.size g13 g0 g1 g2 g3 g4 g5 g6 g7 g8 g9 g10 g11 g12 g13 s0 g15 g16 g17 g18 g19 r3 h_r3) (cwV 1 hts (gd_V (m_5 15 rfl rfl) (m_5 17 rfl rfl) (m_s 51 rfl rfl) (m_1 4 rfl rfl) (m_5 18 rfl rfl)) rfl rfl rfl (by decide +kernel) ⟨Nat.le_of_ble_eq_true rfl, Nat.le_of_ble_eq_true rfl⟩) ⟨fun a U g mk q => ⟨q.1, q.2.1, q.2.2.1, va_K.moved (u := U) (U := U.calling g mk a) (Vm.Alike.refl U.vm) q.2.2.2⟩, va_recv hK hP (ci := 0) (q0 := 0) rfl rfl, fun U hU hW => ⟨rfl, by rw [hU], by rw [hU]; exact hP, va_K.moved hW.alike hK⟩⟩ rfl rfl hl.1 rfl (lv_room (Nat.le_of_ble_eq_true rfl)) (dt_at dt_Ref_decimalHere 18 rfl) ⟨Nat.le_of_ble_eq_true rfl, Nat.le_of_ble_eq_true rfl⟩) hS (fun x _ h9 => hF x h9) hF (fun u_r3 uu t H locs ht hvm hw hB hz1 hk1 hS => ?_)
    rw [ht] at hB
    obtain rfl : r3 = u_r3 := hw.symm
    have hP : va_P D CLS (wR a q g0 g1 g2 g3 g4 g5 g6 g7 g8 g9 g10 g11 g12 g13 s0 g15 g16 g17 g18 g19) H := hB
    have hD : va_D A (wR a q g0 g1 g2 g3 g4 g5 g6 g7 g8 g9 g10 g11 g12 g13 s0 g15 g16 g17 g18 g19) := dD hD rfl
    refine lv_bipush (v := 43) hx hb (dt_at dt_Ref_decimalHere 19 rfl) (by decide) ?_
    refine lv_icmp_ne (tgt := 52) hx hb (dt_at dt_Ref_decimalHere 20 rfl) (by decide) (fun c4 => ?_) (fun c4 => ?_)
    · have h := if_n h c4
      refine lv_aload_n hx hb (dt_at dt_Ref_decimalHere 26 rfl) rfl (lv_at hl 0 rfl) ?_
      refine va_get (D := D) (ci := 0) (v := .int g13) (C := "OutwardTapeModel") (T := T_Ref) (N := 20) hx hb hts in_Ref hown hK hP 0 rfl rfl 13 (by decide) (hts (Cond.fieldLink "OutwardTapeModel" 221 "OutwardTapeModel" "place" "I") (m_4 12 rfl rfl)) (fun _ h9 => h9) rfl (dt_at dt_Ref_decimalHere 27 rfl) ?_
      exact k_Ref_decimalHere_56 hC hA hK   g13 g13 s0 g15 g16 H locs ls hP hD hS (lv_sub hl [0] rfl) h
    · have h := if_p h c4
      exact k_Ref_decimalHere_43 hC hA hK   g13 s0 g15 g16 H locs ls hP hD hS (lv_sub hl [0] rfl) h
set_option maxRecDepth 100000 in
set_option maxHeartbeats 4000000 in
theorem k_Ref_decimalHere_0 {p : Program} {l : Launch} {e : Env} {s : State} {m : MethodId} {args : Array Value} {below : List Frame} {meth : Method} {c : Code} {D : va_G} {a : Nat → Nat} {q : Nat → ClassId} {A : Nat → Prop} (hC : CX p s m args meth c prog_12_method_60_code 9 "OutwardTapeModel" (some .boolean)) (hA : ∀ x, s.heap.size ≤ x → A x) (hK : va_K D CLS (tR q) s) {g0 : Int32} {g1 : Nat → Int32} {g2 : Nat → Int64} {g3 : Nat → Int64} {g4 : Nat → Int32} {g5 : Int32} {g6 : Nat → Int32} {g7 : Int32} {g8 : Nat → Int32} {g9 : Int32} {g10 : Int64} {g11 : Int64} {g12 : Int32} {g17 : Int32} {g18 : Int64} {g19 : Int32} {r0 : Int32 × Int32 × Int32 × Int64 × Int32} : ∀  (g13 : Int32) (g14 : Int32) (g15 : Int64) (g16 : Int32) (H : Heap) (locs : List Loc) (ls : Array Slot), va_P D CLS (wR a q g0 g1 g2 g3 g4 g5 g6 g7 g8 g9 g10 g11 g12 g13 g14 g15 g16 g17 g18 g19) H → va_D A (wR a q g0 g1 g2 g3 g4 g5 g6 g7 g8 g9 g10 g11 g12 g13 g14 g15 g16 g17 g18 g19) → va_S A s.heap H locs → lv_has ls 9 [(0, .ref (a 0))] → f_Ref_decimalHere_0  g6 g7 g13 g14 g15 g16 = some r0 → W p l e rm_Ref_decimalHere s m args below meth c H locs 0 0 (MQ below (va_Qi (fun (r : Int32) (_ : Unit) => r = r0.1) (fun _ t => va_P D CLS (wR a q g0 g1 g2 g3 g4 g5 g6 g7 g8 g9 g10 g11 g12 r0.2.1 r0.2.2.1 r0.2.2.2.1 r0.2.2.2.2 g17 g18 g19) t.heap) A) args s 0 0 A) (F0 m 0 ls []) := by
  obtain ⟨hx, hb, hml, hown, hts, hr, hlocks⟩ := id hC
  intro g13 g14 g15 g16 H locs ls hP hD hS hl h
  rw [f_Ref_decimalHere_0] at h
  refine lv_aload_n hx hb (dt_at dt_Ref_decimalHere 0 rfl) rfl (lv_at hl 0 rfl) ?_
  refine lv_aload_n hx hb (dt_at dt_Ref_decimalHere 1 rfl) rfl (lv_at hl 0 rfl) ?_
  refine lv_aload_n hx hb (dt_at dt_Ref_decimalHere 2 rfl) rfl (lv_at hl 0 rfl) ?_
  refine va_get (D := D) (ci := 0) (v := .int g13) (C := "OutwardTapeModel") (T := T_Ref) (N := 20) hx hb hts in_Ref hown hK hP 0 rfl rfl 13 (by decide) (hts (Cond.fieldLink "OutwardTapeModel" 221 "OutwardTapeModel" "place" "I") (m_4 12 rfl rfl)) (fun _ h9 => h9) rfl (dt_at dt_Ref_decimalHere 3 rfl) ?_
  obtain ⟨r1, h_r1, h⟩ := ob_of h
  have hF := va_free (wc := dR a) (dD (ws' := dR a) hD rfl) hS hA [0, 1, 2, 3, 4, 5, 6] rfl
  have hd : va_D (fun _ => True) (dR a) := (dD (ws' := dR a) hD rfl).weaken (fun _ _ _ _ => trivial)
  refine va_calli (va_runV (As := [.int g13]) (rest := [.ref (a 0)]) ⟨hx, hb, hml, hown, hts⟩ (c_Ref_seen l D a q hd H.size g13 g0 g1 g2 g3 g4 g5 g6 g7 g8 g9 g10 g11 g12 g13 g14 g15 g16 g17 g18 g19 r1 h_r1) (cwV 1 hts (gd_V (m_5 15 rfl rfl) (m_5 17 rfl rfl) (m_s 51 rfl rfl) (m_1 4 rfl rfl) (m_5 18 rfl rfl)) rfl rfl rfl (by decide +kernel) ⟨Nat.le_of_ble_eq_true rfl, Nat.le_of_ble_eq_true rfl⟩) ⟨fun a U g mk q => ⟨q.1, q.2.1, q.2.2.1, va_K.moved (u := U) (U := U.calling g mk a) (Vm.Alike.refl U.vm) q.2.2.2⟩, va_recv hK hP (ci := 0) (q0 := 0) rfl rfl, fun U hU hW => ⟨rfl, by rw [hU], by rw [hU]; exact hP, va_K.moved hW.alike hK⟩⟩ rfl rfl hl.1 rfl (lv_room (Nat.le_of_ble_eq_true rfl)) (dt_at dt_Ref_decimalHere 4 rfl) ⟨Nat.le_of_ble_eq_true rfl, Nat.le_of_ble_eq_true rfl⟩) hS (fun x _ h9 => hF x h9) hF (fun u_r1 uu t H locs ht hvm hw hB hz1 hk1 hS => ?_)
  rw [ht] at hB
  obtain rfl : r1 = u_r1 := hw.symm
  have hP : va_P D CLS (wR a q g0 g1 g2 g3 g4 g5 g6 g7 g8 g9 g10 g11 g12 g13 g14 g15 g16 g17 g18 g19) H := hB
  have hD : va_D A (wR a q g0 g1 g2 g3 g4 g5 g6 g7 g8 g9 g10 g11 g12 g13 g14 g15 g16 g17 g18 g19) := dD hD rfl
  refine lv_bipush (v := 45) hx hb (dt_at dt_Ref_decimalHere 5 rfl) (by decide) ?_
  refine lv_icmp_ne (tgt := 18) hx hb (dt_at dt_Ref_decimalHere 6 rfl) (by decide) (fun c2 => ?_) (fun c2 => ?_)
  · have h := if_n h c2
    refine lv_iconst (v := 0) hx hb (dt_at dt_Ref_decimalHere 9 rfl) (by decide) ?_
    exact k_Ref_decimalHere_19 hC hA hK   (0 : Int32) g13 g14 g15 g16 H locs ls hP hD hS (lv_sub hl [0] rfl) h
  · have h := if_p h c2
    refine lv_iconst (v := 1) hx hb (dt_at dt_Ref_decimalHere 7 rfl) (by decide) ?_
    refine lv_goto (tgt := 19) hx hb (dt_at dt_Ref_decimalHere 8 rfl) (by decide) ?_
    exact k_Ref_decimalHere_19 hC hA hK   (1 : Int32) g13 g14 g15 g16 H locs ls hP hD hS (lv_sub hl [0] rfl) h
set_option maxRecDepth 100000 in
set_option maxHeartbeats 4000000 in
theorem c_Ref_decimalHere (l : Launch) (D : va_G) (a : Nat → Nat) (q : Nat → ClassId) (hd : va_D (fun _ => True) (dR a)) (sz : Nat)  (g0 : Int32) (g1 : Nat → Int32) (g2 : Nat → Int64) (g3 : Nat → Int64) (g4 : Nat → Int32) (g5 : Int32) (g6 : Nat → Int32) (g7 : Int32) (g8 : Nat → Int32) (g9 : Int32) (g10 : Int64) (g11 : Int64) (g12 : Int32) (g13 : Int32) (g14 : Int32) (g15 : Int64) (g16 : Int32) (g17 : Int32) (g18 : Int64) (g19 : Int32) (r0 : Int32 × Int32 × Int32 × Int64 × Int32) (h : f_Ref_decimalHere g6 g7 g13 g14 g15 g16 = some r0) : Met l (⟨"OutwardTapeModel", "decimalHere", "()Z"⟩ : MethodName) (WSm (⟨"OutwardTapeModel", "decimalHere", "()Z"⟩ : MethodName) prog_12_method_60_code 9 (some .boolean)) rm_Ref_decimalHere (va_Pc [.ref (a 0)] (fun U => U.heap.size = sz ∧ va_P D CLS (wR a q g0 g1 g2 g3 g4 g5 g6 g7 g8 g9 g10 g11 g12 g13 g14 g15 g16 g17 g18 g19) U.heap ∧ va_K D CLS (tR q) U)) (va_Qi (fun (r : Int32) (_ : Unit) => r = r0.1) (fun _ t => va_P D CLS (wR a q g0 g1 g2 g3 g4 g5 g6 g7 g8 g9 g10 g11 g12 r0.2.1 r0.2.2.1 r0.2.2.2.1 r0.2.2.2.2 g17 g18 g19) t.heap) (va_A (dR a) sz)) 0 0 (va_A (dR a) sz) := by
  refine Met.ofW (cc := prog_12_method_60_code) (maxL := 9) (ret := (some .boolean)) (by decide) rfl ?_
  intro p e s m args below meth c s₁ B hml hv
  obtain ⟨rfl, hsz, hP, hK⟩ := hv
  subst hsz
  have hC := CX.of B hml rfl
  have hl := lv_entry [.ref (a 0)] (n := 9) (Nat.le_of_ble_eq_true rfl)
  rw [lg_entry_eq]
  generalize (lg_sl [.ref (a 0)] ++ List.replicate (9 - (lg_sl [.ref (a 0)]).length) Slot.unset).toArray = ls at hl ⊢
  have hl : lv_has ls 9 [(0, .ref (a 0))] := hl
  exact k_Ref_decimalHere_0 hC (fun x h => Or.inr h) hK  g13 g14 g15 g16 s.heap [] ls hP (dD hd.self rfl) va_S.rf (lv_sub hl [0] rfl) h
abbrev rm_Ref_infinity : Room := { frames := 3, cells := 0, slots := 0, locals := 66 }
set_option maxRecDepth 100000 in
set_option maxHeartbeats 4000000 in
theorem k_Ref_infinity_151 {p : Program} {l : Launch} {e : Env} {s : State} {m : MethodId} {args : Array Value} {below : List Frame} {meth : Method} {c : Code} {D : va_G} {a : Nat → Nat} {q : Nat → ClassId} {A : Nat → Prop} (hC : CX p s m args meth c prog_12_method_61_code 6 "OutwardTapeModel" (some .int)) (hA : ∀ x, s.heap.size ≤ x → A x) (hK : va_K D CLS (tR q) s) {g0 : Int32} {g1 : Nat → Int32} {g2 : Nat → Int64} {g3 : Nat → Int64} {g4 : Nat → Int32} {g5 : Int32} {g6 : Nat → Int32} {g7 : Int32} {g8 : Nat → Int32} {g9 : Int32} {g10 : Int64} {g11 : Int64} {g12 : Int32} {g14 : Int32} {g15 : Int64} {g16 : Int32} {g17 : Int32} {g18 : Int64} {g19 : Int32} {r0 : Int32 × Int32} : ∀ (s0 : Int32) (g13 : Int32) (H : Heap) (locs : List Loc) (ls : Array Slot), va_P D CLS (wR a q g0 g1 g2 g3 g4 g5 g6 g7 g8 g9 g10 g11 g12 g13 g14 g15 g16 g17 g18 g19) H → va_D A (wR a q g0 g1 g2 g3 g4 g5 g6 g7 g8 g9 g10 g11 g12 g13 g14 g15 g16 g17 g18 g19) → va_S A s.heap H locs → lv_has ls 6 [] → f_Ref_infinity_151  s0 g6 g7 g13 = some r0 → W p l e rm_Ref_infinity s m args below meth c H locs 0 0 (MQ below (va_Qi (fun (r : Int32) (_ : Unit) => r = r0.1) (fun _ t => va_P D CLS (wR a q g0 g1 g2 g3 g4 g5 g6 g7 g8 g9 g10 g11 g12 r0.2 g14 g15 g16 g17 g18 g19) t.heap) A) args s 0 0 A) (F0 m 151 ls [.int s0]) := by
  obtain ⟨hx, hb, hml, hown, hts, hr, hlocks⟩ := id hC
  intro s0 g13 H locs ls hP hD hS hl h
  rw [f_Ref_infinity_151] at h
  obtain rfl := os_of h
  exact W.iret (v := s0) hx hb hr (fun t ht hW => ⟨⟨_, (), rfl, rfl, (hPt hP ht)⟩, hS.F ht⟩) hS.2.2 (dt_at dt_Ref_infinity 77 rfl)
set_option maxRecDepth 100000 in
set_option maxHeartbeats 4000000 in
theorem k_Ref_infinity_130 {p : Program} {l : Launch} {e : Env} {s : State} {m : MethodId} {args : Array Value} {below : List Frame} {meth : Method} {c : Code} {D : va_G} {a : Nat → Nat} {q : Nat → ClassId} {A : Nat → Prop} (hC : CX p s m args meth c prog_12_method_61_code 6 "OutwardTapeModel" (some .int)) (hA : ∀ x, s.heap.size ≤ x → A x) (hK : va_K D CLS (tR q) s) {g0 : Int32} {g1 : Nat → Int32} {g2 : Nat → Int64} {g3 : Nat → Int64} {g4 : Nat → Int32} {g5 : Int32} {g6 : Nat → Int32} {g7 : Int32} {g8 : Nat → Int32} {g9 : Int32} {g10 : Int64} {g11 : Int64} {g12 : Int32} {g14 : Int32} {g15 : Int64} {g16 : Int32} {g17 : Int32} {g18 : Int64} {g19 : Int32} {r0 : Int32 × Int32} : ∀ (s0 : Int32) (v2 : Int32) (v5 : Int32) (g13 : Int32) (H : Heap) (locs : List Loc) (ls : Array Slot), va_P D CLS (wR a q g0 g1 g2 g3 g4 g5 g6 g7 g8 g9 g10 g11 g12 g13 g14 g15 g16 g17 g18 g19) H → va_D A (wR a q g0 g1 g2 g3 g4 g5 g6 g7 g8 g9 g10 g11 g12 g13 g14 g15 g16 g17 g18 g19) → va_S A s.heap H locs → lv_has ls 6 [(2, .int v2), (5, .int v5)] → f_Ref_infinity_130  s0 v2 v5 g6 g7 g13 = some r0 → W p l e rm_Ref_infinity s m args below meth c H locs 0 0 (MQ below (va_Qi (fun (r : Int32) (_ : Unit) => r = r0.1) (fun _ t => va_P D CLS (wR a q g0 g1 g2 g3 g4 g5 g6 g7 g8 g9 g10 g11 g12 r0.2 g14 g15 g16 g17 g18 g19) t.heap) A) args s 0 0 A) (F0 m 130 ls [.int s0, .ref (a 0)]) := by
  obtain ⟨hx, hb, hml, hown, hts, hr, hlocks⟩ := id hC
  intro s0 v2 v5 g13 H locs ls hP hD hS hl h
  rw [f_Ref_infinity_130] at h
  refine va_put (D := D) (ci := 0) (v := .int s0) (ty := .int) (C := "OutwardTapeModel") (T := T_Ref) (N := 20) hx hb hts in_Ref ty_Ref tk_Ref nm_Ref hown hK hP hD hS 0 rfl rfl 13 (by decide) (hts (Cond.fieldLink "OutwardTapeModel" 221 "OutwardTapeModel" "place" "I") (m_4 12 rfl rfl)) (fun _ h9 => h9) rfl (by decide +kernel) rfl rfl (Nat.le_of_ble_eq_true rfl) (dt_at dt_Ref_infinity 67 rfl) (fun H locs hP hD hS => ?_)
  have hP : va_P D CLS (wR a q g0 g1 g2 g3 g4 g5 g6 g7 g8 g9 g10 g11 g12 s0 g14 g15 g16 g17 g18 g19) H := hP
  have hD : va_D A (wR a q g0 g1 g2 g3 g4 g5 g6 g7 g8 g9 g10 g11 g12 s0 g14 g15 g16 g17 g18 g19) := hD
  refine lv_iload hx hb (dt_at dt_Ref_infinity 68 rfl) (lv_at hl 1 rfl) ?_
  refine lv_if_eq (tgt := 150) hx hb (dt_at dt_Ref_infinity 69 rfl) (by decide) (fun c1 => ?_) (fun c1 => ?_)
  · have h := if_p h c1
    refine lv_iconst (v := 0) hx hb (dt_at dt_Ref_infinity 76 rfl) (by decide) ?_
    exact k_Ref_infinity_151 hC hA hK   (0 : Int32) s0 H locs ls hP hD hS (lv_sub hl [] rfl) h
  · have h := if_n h c1
    refine lv_iload_n hx hb (dt_at dt_Ref_infinity 70 rfl) rfl (lv_at hl 0 rfl) ?_
    refine lv_if_eq (tgt := 146) hx hb (dt_at dt_Ref_infinity 71 rfl) (by decide) (fun c2 => ?_) (fun c2 => ?_)
    · have h := if_p h c2
      refine lv_iconst (v := 1) hx hb (dt_at dt_Ref_infinity 74 rfl) (by decide) ?_
      refine lv_goto (tgt := 151) hx hb (dt_at dt_Ref_infinity 75 rfl) (by decide) ?_
      exact k_Ref_infinity_151 hC hA hK   (1 : Int32) s0 H locs ls hP hD hS (lv_sub hl [] rfl) h
    · have h := if_n h c2
      refine lv_iconst (v := -1) hx hb (dt_at dt_Ref_infinity 72 rfl) (by decide) ?_
      refine lv_goto (tgt := 151) hx hb (dt_at dt_Ref_infinity 73 rfl) (by decide) ?_
      exact k_Ref_infinity_151 hC hA hK   (-1 : Int32) s0 H locs ls hP hD hS (lv_sub hl [] rfl) h
set_option maxRecDepth 100000 in
set_option maxHeartbeats 4000000 in
theorem k_Ref_infinity_114 {p : Program} {l : Launch} {e : Env} {s : State} {m : MethodId} {args : Array Value} {below : List Frame} {meth : Method} {c : Code} {D : va_G} {a : Nat → Nat} {q : Nat → ClassId} {A : Nat → Prop} (hC : CX p s m args meth c prog_12_method_61_code 6 "OutwardTapeModel" (some .int)) (hA : ∀ x, s.heap.size ≤ x → A x) (hK : va_K D CLS (tR q) s) {g0 : Int32} {g1 : Nat → Int32} {g2 : Nat → Int64} {g3 : Nat → Int64} {g4 : Nat → Int32} {g5 : Int32} {g6 : Nat → Int32} {g7 : Int32} {g8 : Nat → Int32} {g9 : Int32} {g10 : Int64} {g11 : Int64} {g12 : Int32} {g14 : Int32} {g15 : Int64} {g16 : Int32} {g17 : Int32} {g18 : Int64} {g19 : Int32} {r0 : Int32 × Int32} : ∀ (s0 : Int32) (v1 : Int32) (v2 : Int32) (g13 : Int32) (H : Heap) (locs : List Loc) (ls : Array Slot), va_P D CLS (wR a q g0 g1 g2 g3 g4 g5 g6 g7 g8 g9 g10 g11 g12 g13 g14 g15 g16 g17 g18 g19) H → va_D A (wR a q g0 g1 g2 g3 g4 g5 g6 g7 g8 g9 g10 g11 g12 g13 g14 g15 g16 g17 g18 g19) → va_S A s.heap H locs → lv_has ls 6 [(0, .ref (a 0)), (1, .int v1), (2, .int v2)] → f_Ref_infinity_114  s0 v1 v2 g6 g7 g13 = some r0 → W p l e rm_Ref_infinity s m args below meth c H locs 0 0 (MQ below (va_Qi (fun (r : Int32) (_ : Unit) => r = r0.1) (fun _ t => va_P D CLS (wR a q g0 g1 g2 g3 g4 g5 g6 g7 g8 g9 g10 g11 g12 r0.2 g14 g15 g16 g17 g18 g19) t.heap) A) args s 0 0 A) (F0 m 114 ls [.int s0]) := by
  obtain ⟨hx, hb, hml, hown, hts, hr, hlocks⟩ := id hC
  intro s0 v1 v2 g13 H locs ls hP hD hS hl h
  rw [f_Ref_infinity_114] at h
  refine lv_istore (lv' := [(5, .int s0), (0, .ref (a 0)), (1, .int v1), (2, .int v2)]) hx hb (dt_at dt_Ref_infinity 59 rfl) hl (by decide) rfl (fun ls hl => ?_)
  refine lv_aload_n hx hb (dt_at dt_Ref_infinity 60 rfl) rfl (lv_at hl 1 rfl) ?_
  refine lv_iload hx hb (dt_at dt_Ref_infinity 61 rfl) (lv_at hl 0 rfl) ?_
  refine lv_if_eq (tgt := 129) hx hb (dt_at dt_Ref_infinity 62 rfl) (by decide) (fun c1 => ?_) (fun c1 => ?_)
  · have h := if_p h c1
    refine lv_iload_n hx hb (dt_at dt_Ref_infinity 66 rfl) rfl (lv_at hl 2 rfl) ?_
    exact k_Ref_infinity_130 hC hA hK   v1 v2 s0 g13 H locs ls hP hD hS (lv_sub hl [3, 0] rfl) h
  · have h := if_n h c1
    refine lv_aload_n hx hb (dt_at dt_Ref_infinity 63 rfl) rfl (lv_at hl 1 rfl) ?_
    refine va_get (D := D) (ci := 0) (v := .int g13) (C := "OutwardTapeModel") (T := T_Ref) (N := 20) hx hb hts in_Ref hown hK hP 0 rfl rfl 13 (by decide) (hts (Cond.fieldLink "OutwardTapeModel" 221 "OutwardTapeModel" "place" "I") (m_4 12 rfl rfl)) (fun _ h9 => h9) rfl (dt_at dt_Ref_infinity 64 rfl) ?_
    refine lv_goto (tgt := 130) hx hb (dt_at dt_Ref_infinity 65 rfl) (by decide) ?_
    exact k_Ref_infinity_130 hC hA hK   g13 v2 s0 g13 H locs ls hP hD hS (lv_sub hl [3, 0] rfl) h
set_option maxRecDepth 100000 in
set_option maxHeartbeats 4000000 in
theorem k_Ref_infinity_109 {p : Program} {l : Launch} {e : Env} {s : State} {m : MethodId} {args : Array Value} {below : List Frame} {meth : Method} {c : Code} {D : va_G} {a : Nat → Nat} {q : Nat → ClassId} {A : Nat → Prop} (hC : CX p s m args meth c prog_12_method_61_code 6 "OutwardTapeModel" (some .int)) (hA : ∀ x, s.heap.size ≤ x → A x) (hK : va_K D CLS (tR q) s) {g0 : Int32} {g1 : Nat → Int32} {g2 : Nat → Int64} {g3 : Nat → Int64} {g4 : Nat → Int32} {g5 : Int32} {g6 : Nat → Int32} {g7 : Int32} {g8 : Nat → Int32} {g9 : Int32} {g10 : Int64} {g11 : Int64} {g12 : Int32} {g14 : Int32} {g15 : Int64} {g16 : Int32} {g17 : Int32} {g18 : Int64} {g19 : Int32} {r0 : Int32 × Int32} : ∀ (v1 : Int32) (v2 : Int32) (g13 : Int32) (H : Heap) (locs : List Loc) (ls : Array Slot), va_P D CLS (wR a q g0 g1 g2 g3 g4 g5 g6 g7 g8 g9 g10 g11 g12 g13 g14 g15 g16 g17 g18 g19) H → va_D A (wR a q g0 g1 g2 g3 g4 g5 g6 g7 g8 g9 g10 g11 g12 g13 g14 g15 g16 g17 g18 g19) → va_S A s.heap H locs → lv_has ls 6 [(0, .ref (a 0)), (1, .int v1), (2, .int v2)] → f_Ref_infinity_109  v1 v2 g6 g7 g13 = some r0 → W p l e rm_Ref_infinity s m args below meth c H locs 0 0 (MQ below (va_Qi (fun (r : Int32) (_ : Unit) => r = r0.1) (fun _ t => va_P D CLS (wR a q g0 g1 g2 g3 g4 g5 g6 g7 g8 g9 g10 g11 g12 r0.2 g14 g15 g16 g17 g18 g19) t.heap) A) args s 0 0 A) (F0 m 109 ls []) := by
  obtain ⟨hx, hb, hml, hown, hts, hr, hlocks⟩ := id hC
  intro v1 v2 g13 H locs ls hP hD hS hl h
  rw [f_Ref_infinity_109] at h
  refine lv_iconst (v := 1) hx hb (dt_at dt_Ref_infinity 56 rfl) (by decide) ?_
  refine lv_goto (tgt := 114) hx hb (dt_at dt_Ref_infinity 57 rfl) (by decide) ?_
  exact k_Ref_infinity_114 hC hA hK   (1 : Int32) v1 v2 g13 H locs ls hP hD hS (lv_sub hl [0, 1, 2] rfl) h
set_option maxRecDepth 100000 in
set_option maxHeartbeats 4000000 in
theorem k_Ref_infinity_55 {p : Program} {l : Launch} {e : Env} {s : State} {m : MethodId} {args : Array Value} {below : List Frame} {meth : Method} {c : Code} {D : va_G} {a : Nat → Nat} {q : Nat → ClassId} {A : Nat → Prop} (hC : CX p s m args meth c prog_12_method_61_code 6 "OutwardTapeModel" (some .int)) (hA : ∀ x, s.heap.size ≤ x → A x) (hK : va_K D CLS (tR q) s) {g0 : Int32} {g1 : Nat → Int32} {g2 : Nat → Int64} {g3 : Nat → Int64} {g4 : Nat → Int32} {g5 : Int32} {g6 : Nat → Int32} {g7 : Int32} {g8 : Nat → Int32} {g9 : Int32} {g10 : Int64} {g11 : Int64} {g12 : Int32} {g14 : Int32} {g15 : Int64} {g16 : Int32} {g17 : Int32} {g18 : Int64} {g19 : Int32} {r0 : Int32 × Int32} : ∀ (s0 : Int32) (v1 : Int32) (v2 : Int32) (g13 : Int32) (H : Heap) (locs : List Loc) (ls : Array Slot), va_P D CLS (wR a q g0 g1 g2 g3 g4 g5 g6 g7 g8 g9 g10 g11 g12 g13 g14 g15 g16 g17 g18 g19) H → va_D A (wR a q g0 g1 g2 g3 g4 g5 g6 g7 g8 g9 g10 g11 g12 g13 g14 g15 g16 g17 g18 g19) → va_S A s.heap H locs → lv_has ls 6 [(0, .ref (a 0)), (1, .int v1), (2, .int v2)] → f_Ref_infinity_55  s0 v1 v2 g6 g7 g13 = some r0 → W p l e rm_Ref_infinity s m args below meth c H locs 0 0 (MQ below (va_Qi (fun (r : Int32) (_ : Unit) => r = r0.1) (fun _ t => va_P D CLS (wR a q g0 g1 g2 g3 g4 g5 g6 g7 g8 g9 g10 g11 g12 r0.2 g14 g15 g16 g17 g18 g19) t.heap) A) args s 0 0 A) (F0 m 55 ls [.int s0, .ref (a 0)]) := by
  obtain ⟨hx, hb, hml, hown, hts, hr, hlocks⟩ := id hC
  intro s0 v1 v2 g13 H locs ls hP hD hS hl h
  rw [f_Ref_infinity_55] at h
  refine va_put (D := D) (ci := 0) (v := .int s0) (ty := .int) (C := "OutwardTapeModel") (T := T_Ref) (N := 20) hx hb hts in_Ref ty_Ref tk_Ref nm_Ref hown hK hP hD hS 0 rfl rfl 13 (by decide) (hts (Cond.fieldLink "OutwardTapeModel" 221 "OutwardTapeModel" "place" "I") (m_4 12 rfl rfl)) (fun _ h9 => h9) rfl (by decide +kernel) rfl rfl (Nat.le_of_ble_eq_true rfl) (dt_at dt_Ref_infinity 29 rfl) (fun H locs hP hD hS => ?_)
  have hP : va_P D CLS (wR a q g0 g1 g2 g3 g4 g5 g6 g7 g8 g9 g10 g11 g12 s0 g14 g15 g16 g17 g18 g19) H := hP
  have hD : va_D A (wR a q g0 g1 g2 g3 g4 g5 g6 g7 g8 g9 g10 g11 g12 s0 g14 g15 g16 g17 g18 g19) := hD
  refine lv_aload_n hx hb (dt_at dt_Ref_infinity 30 rfl) rfl (lv_at hl 0 rfl) ?_
  obtain ⟨r1, h_r1, h⟩ := ob_of h
  have hF := va_free (wc := dR a) (dD (ws' := dR a) hD rfl) hS hA [0, 1, 2, 3, 4, 5, 6] rfl
  have hd : va_D (fun _ => True) (dR a) := (dD (ws' := dR a) hD rfl).weaken (fun _ _ _ _ => trivial)
  refine va_calll (va_runV (As := []) (rest := []) ⟨hx, hb, hml, hown, hts⟩ (c_Ref_word l D a q hd H.size  g0 g1 g2 g3 g4 g5 g6 g7 g8 g9 g10 g11 g12 s0 g14 g15 g16 g17 g18 g19 r1 h_r1) (cwV 0 hts (gd_V (m_5 27 rfl rfl) (m_5 29 rfl rfl) (m_s 54 rfl rfl) (m_1 4 rfl rfl) (m_5 30 rfl rfl)) rfl rfl rfl (by decide +kernel) ⟨Nat.le_of_ble_eq_true rfl, Nat.le_of_ble_eq_true rfl⟩) ⟨fun a U g mk q => ⟨q.1, q.2.1, q.2.2.1, va_K.moved (u := U) (U := U.calling g mk a) (Vm.Alike.refl U.vm) q.2.2.2⟩, va_recv hK hP (ci := 0) (q0 := 0) rfl rfl, fun U hU hW => ⟨rfl, by rw [hU], by rw [hU]; exact hP, va_K.moved hW.alike hK⟩⟩ rfl rfl hl.1 rfl (lv_room (Nat.le_of_ble_eq_true rfl)) (dt_at dt_Ref_infinity 31 rfl) ⟨Nat.le_of_ble_eq_true rfl, Nat.le_of_ble_eq_true rfl⟩) hS (fun x _ h9 => hF x h9) hF (fun u_r1 uu t H locs ht hvm hw hB hz1 hk1 hS => ?_)
  rw [ht] at hB
  subst hw
  have hP : va_P D CLS (wR a q g0 g1 g2 g3 g4 g5 g6 g7 g8 g9 g10 g11 g12 r1.2 g14 g15 g16 g17 g18 g19) H := hB
  have hD : va_D A (wR a q g0 g1 g2 g3 g4 g5 g6 g7 g8 g9 g10 g11 g12 r1.2 g14 g15 g16 g17 g18 g19) := dD hD rfl
  obtain ⟨t2, e_t2, h⟩ := ol_of h
  refine lv_topl (fun u_t2 q_t2 => ?_)
  obtain rfl : t2 = u_t2 := e_t2.trans q_t2.symm
  refine lv_lstore_n (lv' := [(3, .long t2), (0, .ref (a 0)), (1, .int v1), (2, .int v2)]) hx hb (dt_at dt_Ref_infinity 32 rfl) rfl hl (by decide) rfl (fun ls hl => ?_)
  refine lv_lload_n hx hb (dt_at dt_Ref_infinity 33 rfl) rfl (lv_at hl 0 rfl) ?_
  refine lv_bipush (v := 105) hx hb (dt_at dt_Ref_infinity 34 rfl) (by decide) ?_
  refine lv_bipush (v := 110) hx hb (dt_at dt_Ref_infinity 35 rfl) (by decide) ?_
  refine lv_bipush (v := 102) hx hb (dt_at dt_Ref_infinity 36 rfl) (by decide) ?_
  obtain ⟨r3, h_r3, h⟩ := ob_of h
  refine vp_callSl (W.runS (As := [.int (105 : Int32), .int (110 : Int32), .int (102 : Int32)]) (rest := [.long t2]) ⟨hx, hb, hml, hown, hts⟩ (c_Ref_spelt l (105 : Int32) (110 : Int32) (102 : Int32) r3 h_r3) (va_cwS 3 hts (gd_S (m_5 38 rfl rfl) (m_5 39 rfl rfl) (m_1 4 rfl rfl) (m_5 40 rfl rfl)) rfl rfl rfl (by decide +kernel) ⟨Nat.le_of_ble_eq_true rfl, Nat.le_of_ble_eq_true rfl⟩) ⟨fun _ _ _ _ q => q, fun U hU hW => ⟨rfl, trivial⟩⟩ rfl rfl hl.1 rfl (lv_room (Nat.le_of_ble_eq_true rfl)) (dt_at dt_Ref_infinity 37 rfl) ⟨Nat.le_of_ble_eq_true rfl, Nat.le_of_ble_eq_true rfl⟩) (fun u_r3 q_r3 => ?_)
  obtain rfl : r3 = u_r3 := q_r3.symm
  refine lc_eq (tgt := 109) hx hb (dt_at dt_Ref_infinity 38 rfl) (dt_at dt_Ref_infinity 39 rfl) (by decide) (fun c4 => ?_) (fun c4 => ?_)
  · have h := if_p h c4
    exact k_Ref_infinity_109 hC hA hK   v1 v2 r1.2 H locs ls hP hD hS (lv_sub hl [1, 2, 3] rfl) h
  · have h := if_n h c4
    refine lv_lload_n hx hb (dt_at dt_Ref_infinity 40 rfl) rfl (lv_at hl 0 rfl) ?_
    refine lv_bipush (v := 105) hx hb (dt_at dt_Ref_infinity 41 rfl) (by decide) ?_
    refine lv_bipush (v := 110) hx hb (dt_at dt_Ref_infinity 42 rfl) (by decide) ?_
    refine lv_bipush (v := 102) hx hb (dt_at dt_Ref_infinity 43 rfl) (by decide) ?_
    refine lv_bipush (v := 105) hx hb (dt_at dt_Ref_infinity 44 rfl) (by decide) ?_
    refine lv_bipush (v := 110) hx hb (dt_at dt_Ref_infinity 45 rfl) (by decide) ?_
    refine lv_bipush (v := 105) hx hb (dt_at dt_Ref_infinity 46 rfl) (by decide) ?_
    obtain ⟨r5, h_r5, h⟩ := ob_of h
    refine vp_callSl (W.runS (As := [.int (105 : Int32), .int (110 : Int32), .int (102 : Int32), .int (105 : Int32), .int (110 : Int32), .int (105 : Int32)]) (rest := [.long t2]) ⟨hx, hb, hml, hown, hts⟩ (c_Ref_speltSix l (105 : Int32) (110 : Int32) (102 : Int32) (105 : Int32) (110 : Int32) (105 : Int32) r5 h_r5) (va_cwS 6 hts (gd_S (m_5 44 rfl rfl) (m_5 45 rfl rfl) (m_1 4 rfl rfl) (m_5 46 rfl rfl)) rfl rfl rfl (by decide +kernel) ⟨Nat.le_of_ble_eq_true rfl, Nat.le_of_ble_eq_true rfl⟩) ⟨fun _ _ _ _ q => q, fun U hU hW => ⟨rfl, trivial⟩⟩ rfl rfl hl.1 rfl (lv_room (Nat.le_of_ble_eq_true rfl)) (dt_at dt_Ref_infinity 47 rfl) ⟨Nat.le_of_ble_eq_true rfl, Nat.le_of_ble_eq_true rfl⟩) (fun u_r5 q_r5 => ?_)
    obtain rfl : r5 = u_r5 := q_r5.symm
    refine lv_ldc2 (v := 1024) hx hb hown (hts (Cond.constantLong "OutwardTapeModel" 236 (1024)) (m_5 41 rfl rfl)) (dt_at dt_Ref_infinity 48 rfl) ?_
    refine lv_lmul hx hb (dt_at dt_Ref_infinity 49 rfl) ?_
    refine lv_ldc2 (v := 640) hx hb hown (hts (Cond.constantLong "OutwardTapeModel" 266 (640)) (m_5 42 rfl rfl)) (dt_at dt_Ref_infinity 50 rfl) ?_
    refine lv_ladd hx hb (dt_at dt_Ref_infinity 51 rfl) ?_
    refine lv_ldc2 (v := 25) hx hb hown (hts (Cond.constantLong "OutwardTapeModel" 268 (25)) (m_5 43 rfl rfl)) (dt_at dt_Ref_infinity 52 rfl) ?_
    refine lv_ladd hx hb (dt_at dt_Ref_infinity 53 rfl) ?_
    refine lc_ne (tgt := 113) hx hb (dt_at dt_Ref_infinity 54 rfl) (dt_at dt_Ref_infinity 55 rfl) (by decide) (fun c6 => ?_) (fun c6 => ?_)
    · have h := if_n h c6
      refine lv_iconst (v := 0) hx hb (dt_at dt_Ref_infinity 58 rfl) (by decide) ?_
      exact k_Ref_infinity_114 hC hA hK   (0 : Int32) v1 v2 r1.2 H locs ls hP hD hS (lv_sub hl [1, 2, 3] rfl) h
    · have h := if_p h c6
      exact k_Ref_infinity_109 hC hA hK   v1 v2 r1.2 H locs ls hP hD hS (lv_sub hl [1, 2, 3] rfl) h
set_option maxRecDepth 100000 in
set_option maxHeartbeats 4000000 in
theorem k_Ref_infinity_42 {p : Program} {l : Launch} {e : Env} {s : State} {m : MethodId} {args : Array Value} {below : List Frame} {meth : Method} {c : Code} {D : va_G} {a : Nat → Nat} {q : Nat → ClassId} {A : Nat → Prop} (hC : CX p s m args meth c prog_12_method_61_code 6 "OutwardTapeModel" (some .int)) (hA : ∀ x, s.heap.size ≤ x → A x) (hK : va_K D CLS (tR q) s) {g0 : Int32} {g1 : Nat → Int32} {g2 : Nat → Int64} {g3 : Nat → Int64} {g4 : Nat → Int32} {g5 : Int32} {g6 : Nat → Int32} {g7 : Int32} {g8 : Nat → Int32} {g9 : Int32} {g10 : Int64} {g11 : Int64} {g12 : Int32} {g14 : Int32} {g15 : Int64} {g16 : Int32} {g17 : Int32} {g18 : Int64} {g19 : Int32} {r0 : Int32 × Int32} : ∀ (v1 : Int32) (v2 : Int32) (g13 : Int32) (H : Heap) (locs : List Loc) (ls : Array Slot), va_P D CLS (wR a q g0 g1 g2 g3 g4 g5 g6 g7 g8 g9 g10 g11 g12 g13 g14 g15 g16 g17 g18 g19) H → va_D A (wR a q g0 g1 g2 g3 g4 g5 g6 g7 g8 g9 g10 g11 g12 g13 g14 g15 g16 g17 g18 g19) → va_S A s.heap H locs → lv_has ls 6 [(0, .ref (a 0)), (1, .int v1), (2, .int v2)] → f_Ref_infinity_42  v1 v2 g6 g7 g13 = some r0 → W p l e rm_Ref_infinity s m args below meth c H locs 0 0 (MQ below (va_Qi (fun (r : Int32) (_ : Unit) => r = r0.1) (fun _ t => va_P D CLS (wR a q g0 g1 g2 g3 g4 g5 g6 g7 g8 g9 g10 g11 g12 r0.2 g14 g15 g16 g17 g18 g19) t.heap) A) args s 0 0 A) (F0 m 42 ls [.ref (a 0)]) := by
  obtain ⟨hx, hb, hml, hown, hts, hr, hlocks⟩ := id hC
  intro v1 v2 g13 H locs ls hP hD hS hl h
  rw [f_Ref_infinity_42] at h
  refine lv_aload_n hx hb (dt_at dt_Ref_infinity 22 rfl) rfl (lv_at hl 0 rfl) ?_
  refine va_get (D := D) (ci := 0) (v := .int g13) (C := "OutwardTapeModel") (T := T_Ref) (N := 20) hx hb hts in_Ref hown hK hP 0 rfl rfl 13 (by decide) (hts (Cond.fieldLink "OutwardTapeModel" 221 "OutwardTapeModel" "place" "I") (m_4 12 rfl rfl)) (fun _ h9 => h9) rfl (dt_at dt_Ref_infinity 23 rfl) ?_
  refine lv_iconst (v := 1) hx hb (dt_at dt_Ref_infinity 24 rfl) (by decide) ?_
  refine lv_iadd hx hb (dt_at dt_Ref_infinity 25 rfl) ?_
  refine lv_goto (tgt := 55) hx hb (dt_at dt_Ref_infinity 26 rfl) (by decide) ?_
  exact k_Ref_infinity_55 hC hA hK   (g13 + (1 : Int32)) v1 v2 g13 H locs ls hP hD hS (lv_sub hl [0, 1, 2] rfl) h
set_option maxRecDepth 100000 in
set_option maxHeartbeats 4000000 in
theorem k_Ref_infinity_23 {p : Program} {l : Launch} {e : Env} {s : State} {m : MethodId} {args : Array Value} {below : List Frame} {meth : Method} {c : Code} {D : va_G} {a : Nat → Nat} {q : Nat → ClassId} {A : Nat → Prop} (hC : CX p s m args meth c prog_12_method_61_code 6 "OutwardTapeModel" (some .int)) (hA : ∀ x, s.heap.size ≤ x → A x) (hK : va_K D CLS (tR q) s) {g0 : Int32} {g1 : Nat → Int32} {g2 : Nat → Int64} {g3 : Nat → Int64} {g4 : Nat → Int32} {g5 : Int32} {g6 : Nat → Int32} {g7 : Int32} {g8 : Nat → Int32} {g9 : Int32} {g10 : Int64} {g11 : Int64} {g12 : Int32} {g14 : Int32} {g15 : Int64} {g16 : Int32} {g17 : Int32} {g18 : Int64} {g19 : Int32} {r0 : Int32 × Int32} : ∀ (s0 : Int32) (v1 : Int32) (g13 : Int32) (H : Heap) (locs : List Loc) (ls : Array Slot), va_P D CLS (wR a q g0 g1 g2 g3 g4 g5 g6 g7 g8 g9 g10 g11 g12 g13 g14 g15 g16 g17 g18 g19) H → va_D A (wR a q g0 g1 g2 g3 g4 g5 g6 g7 g8 g9 g10 g11 g12 g13 g14 g15 g16 g17 g18 g19) → va_S A s.heap H locs → lv_has ls 6 [(0, .ref (a 0)), (1, .int v1)] → f_Ref_infinity_23  s0 v1 g6 g7 g13 = some r0 → W p l e rm_Ref_infinity s m args below meth c H locs 0 0 (MQ below (va_Qi (fun (r : Int32) (_ : Unit) => r = r0.1) (fun _ t => va_P D CLS (wR a q g0 g1 g2 g3 g4 g5 g6 g7 g8 g9 g10 g11 g12 r0.2 g14 g15 g16 g17 g18 g19) t.heap) A) args s 0 0 A) (F0 m 23 ls [.int s0]) := by
  obtain ⟨hx, hb, hml, hown, hts, hr, hlocks⟩ := id hC
  intro s0 v1 g13 H locs ls hP hD hS hl h
  rw [f_Ref_infinity_23] at h
  refine lv_istore_n (lv' := [(2, .int s0), (0, .ref (a 0)), (1, .int v1)]) hx hb (dt_at dt_Ref_infinity 12 rfl) rfl hl (by decide) rfl (fun ls hl => ?_)
  refine lv_aload_n hx hb (dt_at dt_Ref_infinity 13 rfl) rfl (lv_at hl 1 rfl) ?_
  refine lv_iload_n hx hb (dt_at dt_Ref_infinity 14 rfl) rfl (lv_at hl 0 rfl) ?_
  refine lv_if_ne (tgt := 42) hx hb (dt_at dt_Ref_infinity 15 rfl) (by decide) (fun c1 => ?_) (fun c1 => ?_)
  · have h := if_n h c1
    exact k_Ref_infinity_42 hC hA hK   v1 s0 g13 H locs ls hP hD hS (lv_sub hl [1, 2, 0] rfl) h
  · have h := if_p h c1
    refine lv_aload_n hx hb (dt_at dt_Ref_infinity 16 rfl) rfl (lv_at hl 1 rfl) ?_
    refine lv_aload_n hx hb (dt_at dt_Ref_infinity 17 rfl) rfl (lv_at hl 1 rfl) ?_
    refine va_get (D := D) (ci := 0) (v := .int g13) (C := "OutwardTapeModel") (T := T_Ref) (N := 20) hx hb hts in_Ref hown hK hP 0 rfl rfl 13 (by decide) (hts (Cond.fieldLink "OutwardTapeModel" 221 "OutwardTapeModel" "place" "I") (m_4 12 rfl rfl)) (fun _ h9 => h9) rfl (dt_at dt_Ref_infinity 18 rfl) ?_
    obtain ⟨r2, h_r2, h⟩ := ob_of h
    have hF := va_free (wc := dR a) (dD (ws' := dR a) hD rfl) hS hA [0, 1, 2, 3, 4, 5, 6] rfl
    have hd : va_D (fun _ => True) (dR a) := (dD (ws' := dR a) hD rfl).weaken (fun _ _ _ _ => trivial)
    refine va_calli (va_runV (As := [.int g13]) (rest := [.ref (a 0)]) ⟨hx, hb, hml, hown, hts⟩ (c_Ref_seen l D a q hd H.size g13 g0 g1 g2 g3 g4 g5 g6 g7 g8 g9 g10 g11 g12 g13 g14 g15 g16 g17 g18 g19 r2 h_r2) (cwV 1 hts (gd_V (m_5 15 rfl rfl) (m_5 17 rfl rfl) (m_s 51 rfl rfl) (m_1 4 rfl rfl) (m_5 18 rfl rfl)) rfl rfl rfl (by decide +kernel) ⟨Nat.le_of_ble_eq_true rfl, Nat.le_of_ble_eq_true rfl⟩) ⟨fun a U g mk q => ⟨q.1, q.2.1, q.2.2.1, va_K.moved (u := U) (U := U.calling g mk a) (Vm.Alike.refl U.vm) q.2.2.2⟩, va_recv hK hP (ci := 0) (q0 := 0) rfl rfl, fun U hU hW => ⟨rfl, by rw [hU], by rw [hU]; exact hP, va_K.moved hW.alike hK⟩⟩ rfl rfl hl.1 rfl (lv_room (Nat.le_of_ble_eq_true rfl)) (dt_at dt_Ref_infinity 19 rfl) ⟨Nat.le_of_ble_eq_true rfl, Nat.le_of_ble_eq_true rfl⟩) hS (fun x _ h9 => hF x h9) hF (fun u_r2 uu t H locs ht hvm hw hB hz1 hk1 hS => ?_)
    rw [ht] at hB
    obtain rfl : r2 = u_r2 := hw.symm
    have hP : va_P D CLS (wR a q g0 g1 g2 g3 g4 g5 g6 g7 g8 g9 g10 g11 g12 g13 g14 g15 g16 g17 g18 g19) H := hB
    have hD : va_D A (wR a q g0 g1 g2 g3 g4 g5 g6 g7 g8 g9 g10 g11 g12 g13 g14 g15 g16 g17 g18 g19) := dD hD rfl
    refine lv_bipush (v := 43) hx hb (dt_at dt_Ref_infinity 20 rfl) (by decide) ?_
    refine lv_icmp_ne (tgt := 51) hx hb (dt_at dt_Ref_infinity 21 rfl) (by decide) (fun c3 => ?_) (fun c3 => ?_)
    · have h := if_n h c3
      refine lv_aload_n hx hb (dt_at dt_Ref_infinity 27 rfl) rfl (lv_at hl 1 rfl) ?_
      refine va_get (D := D) (ci := 0) (v := .int g13) (C := "OutwardTapeModel") (T := T_Ref) (N := 20) hx hb hts in_Ref hown hK hP 0 rfl rfl 13 (by decide) (hts (Cond.fieldLink "OutwardTapeModel" 221 "OutwardTapeModel" "place" "I") (m_4 12 rfl rfl)) (fun _ h9 => h9) rfl (dt_at dt_Ref_infinity 28 rfl) ?_
      exact k_Ref_infinity_55 hC hA hK   g13 v1 s0 g13 H locs ls hP hD hS (lv_sub hl [1, 2, 0] rfl) h
    · have h := if_p h c3
      exact k_Ref_infinity_42 hC hA hK   v1 s0 g13 H locs ls hP hD hS (lv_sub hl [1, 2, 0] rfl) h
set_option maxRecDepth 100000 in
set_option maxHeartbeats 4000000 in
theorem k_Ref_infinity_0 {p : Program} {l : Launch} {e : Env} {s : State} {m : MethodId} {args : Array Value} {below : List Frame} {meth : Method} {c : Code} {D : va_G} {a : Nat → Nat} {q : Nat → ClassId} {A : Nat → Prop} (hC : CX p s m args meth c prog_12_method_61_code 6 "OutwardTapeModel" (some .int)) (hA : ∀ x, s.heap.size ≤ x → A x) (hK : va_K D CLS (tR q) s) {g0 : Int32} {g1 : Nat → Int32} {g2 : Nat → Int64} {g3 : Nat → Int64} {g4 : Nat → Int32} {g5 : Int32} {g6 : Nat → Int32} {g7 : Int32} {g8 : Nat → Int32} {g9 : Int32} {g10 : Int64} {g11 : Int64} {g12 : Int32} {g14 : Int32} {g15 : Int64} {g16 : Int32} {g17 : Int32} {g18 : Int64} {g19 : Int32} {r0 : Int32 × Int32} : ∀  (g13 : Int32) (H : Heap) (locs : List Loc) (ls : Array Slot), va_P D CLS (wR a q g0 g1 g2 g3 g4 g5 g6 g7 g8 g9 g10 g11 g12 g13 g14 g15 g16 g17 g18 g19) H → va_D A (wR a q g0 g1 g2 g3 g4 g5 g6 g7 g8 g9 g10 g11 g12 g13 g14 g15 g16 g17 g18 g19) → va_S A s.heap H locs → lv_has ls 6 [(0, .ref (a 0))] → f_Ref_infinity_0  g6 g7 g13 = some r0 → W p l e rm_Ref_infinity s m args below meth c H locs 0 0 (MQ below (va_Qi (fun (r : Int32) (_ : Unit) => r = r0.1) (fun _ t => va_P D CLS (wR a q g0 g1 g2 g3 g4 g5 g6 g7 g8 g9 g10 g11 g12 r0.2 g14 g15 g16 g17 g18 g19) t.heap) A) args s 0 0 A) (F0 m 0 ls []) := by
  obtain ⟨hx, hb, hml, hown, hts, hr, hlocks⟩ := id hC
  intro g13 H locs ls hP hD hS hl h
  rw [f_Ref_infinity_0] at h
  refine lv_aload_n hx hb (dt_at dt_Ref_infinity 0 rfl) rfl (lv_at hl 0 rfl) ?_
  refine va_get (D := D) (ci := 0) (v := .int g13) (C := "OutwardTapeModel") (T := T_Ref) (N := 20) hx hb hts in_Ref hown hK hP 0 rfl rfl 13 (by decide) (hts (Cond.fieldLink "OutwardTapeModel" 221 "OutwardTapeModel" "place" "I") (m_4 12 rfl rfl)) (fun _ h9 => h9) rfl (dt_at dt_Ref_infinity 1 rfl) ?_
  refine lv_istore_n (lv' := [(1, .int g13), (0, .ref (a 0))]) hx hb (dt_at dt_Ref_infinity 2 rfl) rfl hl (by decide) rfl (fun ls hl => ?_)
  refine lv_aload_n hx hb (dt_at dt_Ref_infinity 3 rfl) rfl (lv_at hl 1 rfl) ?_
  refine lv_aload_n hx hb (dt_at dt_Ref_infinity 4 rfl) rfl (lv_at hl 1 rfl) ?_
  refine va_get (D := D) (ci := 0) (v := .int g13) (C := "OutwardTapeModel") (T := T_Ref) (N := 20) hx hb hts in_Ref hown hK hP 0 rfl rfl 13 (by decide) (hts (Cond.fieldLink "OutwardTapeModel" 221 "OutwardTapeModel" "place" "I") (m_4 12 rfl rfl)) (fun _ h9 => h9) rfl (dt_at dt_Ref_infinity 5 rfl) ?_
  obtain ⟨r1, h_r1, h⟩ := ob_of h
  have hF := va_free (wc := dR a) (dD (ws' := dR a) hD rfl) hS hA [0, 1, 2, 3, 4, 5, 6] rfl
  have hd : va_D (fun _ => True) (dR a) := (dD (ws' := dR a) hD rfl).weaken (fun _ _ _ _ => trivial)
  refine va_calli (va_runV (As := [.int g13]) (rest := []) ⟨hx, hb, hml, hown, hts⟩ (c_Ref_seen l D a q hd H.size g13 g0 g1 g2 g3 g4 g5 g6 g7 g8 g9 g10 g11 g12 g13 g14 g15 g16 g17 g18 g19 r1 h_r1) (cwV 1 hts (gd_V (m_5 15 rfl rfl) (m_5 17 rfl rfl) (m_s 51 rfl rfl) (m_1 4 rfl rfl) (m_5 18 rfl rfl)) rfl rfl rfl (by decide +kernel) ⟨Nat.le_of_ble_eq_true rfl, Nat.le_of_ble_eq_true rfl⟩) ⟨fun a U g mk q => ⟨q.1, q.2.1, q.2.2.1, va_K.moved (u := U) (U := U.calling g mk a) (Vm.Alike.refl U.vm) q.2.2.2⟩, va_recv hK hP (ci := 0) (q0 := 0) rfl rfl, fun U hU hW => ⟨rfl, by rw [hU], by rw [hU]; exact hP, va_K.moved hW.alike hK⟩⟩ rfl rfl hl.1 rfl (lv_room (Nat.le_of_ble_eq_true rfl)) (dt_at dt_Ref_infinity 6 rfl) ⟨Nat.le_of_ble_eq_true rfl, Nat.le_of_ble_eq_true rfl⟩) hS (fun x _ h9 => hF x h9) hF (fun u_r1 uu t H locs ht hvm hw hB hz1 hk1 hS => ?_)
  rw [ht] at hB
  obtain rfl : r1 = u_r1 := hw.symm
  have hP : va_P D CLS (wR a q g0 g1 g2 g3 g4 g5 g6 g7 g8 g9 g10 g11 g12 g13 g14 g15 g16 g17 g18 g19) H := hB
  have hD : va_D A (wR a q g0 g1 g2 g3 g4 g5 g6 g7 g8 g9 g10 g11 g12 g13 g14 g15 g16 g17 g18 g19) := dD hD rfl
  refine lv_bipush (v := 45) hx hb (dt_at dt_Ref_infinity 7 rfl) (by decide) ?_
  refine lv_icmp_ne (tgt := 22) hx hb (dt_at dt_Ref_infinity 8 rfl) (by decide) (fun c2 => ?_) (fun c2 => ?_)
  · have h := if_n h c2
    refine lv_iconst (v := 0) hx hb (dt_at dt_Ref_infinity 11 rfl) (by decide) ?_
    exact k_Ref_infinity_23 hC hA hK   (0 : Int32) g13 g13 H locs ls hP hD hS (lv_sub hl [1, 0] rfl) h
  · have h := if_p h c2
    refine lv_iconst (v := 1) hx hb (dt_at dt_Ref_infinity 9 rfl) (by decide) ?_
    refine lv_goto (tgt := 23) hx hb (dt_at dt_Ref_infinity 10 rfl) (by decide) ?_
    exact k_Ref_infinity_23 hC hA hK   (1 : Int32) g13 g13 H locs ls hP hD hS (lv_sub hl [1, 0] rfl) h
set_option maxRecDepth 100000 in
set_option maxHeartbeats 4000000 in
theorem c_Ref_infinity (l : Launch) (D : va_G) (a : Nat → Nat) (q : Nat → ClassId) (hd : va_D (fun _ => True) (dR a)) (sz : Nat)  (g0 : Int32) (g1 : Nat → Int32) (g2 : Nat → Int64) (g3 : Nat → Int64) (g4 : Nat → Int32) (g5 : Int32) (g6 : Nat → Int32) (g7 : Int32) (g8 : Nat → Int32) (g9 : Int32) (g10 : Int64) (g11 : Int64) (g12 : Int32) (g13 : Int32) (g14 : Int32) (g15 : Int64) (g16 : Int32) (g17 : Int32) (g18 : Int64) (g19 : Int32) (r0 : Int32 × Int32) (h : f_Ref_infinity g6 g7 g13 = some r0) : Met l (⟨"OutwardTapeModel", "infinity", "()I"⟩ : MethodName) (WSm (⟨"OutwardTapeModel", "infinity", "()I"⟩ : MethodName) prog_12_method_61_code 6 (some .int)) rm_Ref_infinity (va_Pc [.ref (a 0)] (fun U => U.heap.size = sz ∧ va_P D CLS (wR a q g0 g1 g2 g3 g4 g5 g6 g7 g8 g9 g10 g11 g12 g13 g14 g15 g16 g17 g18 g19) U.heap ∧ va_K D CLS (tR q) U)) (va_Qi (fun (r : Int32) (_ : Unit) => r = r0.1) (fun _ t => va_P D CLS (wR a q g0 g1 g2 g3 g4 g5 g6 g7 g8 g9 g10 g11 g12 r0.2 g14 g15 g16 g17 g18 g19) t.heap) (va_A (dR a) sz)) 0 0 (va_A (dR a) sz) := by
  refine Met.ofW (cc := prog_12_method_61_code) (maxL := 6) (ret := (some .int)) (by decide) rfl ?_
  intro p e s m args below meth c s₁ B hml hv
  obtain ⟨rfl, hsz, hP, hK⟩ := hv
  subst hsz
  have hC := CX.of B hml rfl
  have hl := lv_entry [.ref (a 0)] (n := 6) (Nat.le_of_ble_eq_true rfl)
  rw [lg_entry_eq]
  generalize (lg_sl [.ref (a 0)] ++ List.replicate (6 - (lg_sl [.ref (a 0)]).length) Slot.unset).toArray = ls at hl ⊢
  have hl : lv_has ls 6 [(0, .ref (a 0))] := hl
  exact k_Ref_infinity_0 hC (fun x h => Or.inr h) hK  g13 s.heap [] ls hP (dD hd.self rfl) va_S.rf (lv_sub hl [0] rfl) h
abbrev rm_Ref_inOrder : Room := { frames := 2, cells := 0, slots := 0, locals := 49 }
set_option maxRecDepth 100000 in
set_option maxHeartbeats 4000000 in
theorem k_Ref_inOrder_145 {p : Program} {l : Launch} {e : Env} {s : State} {m : MethodId} {args : Array Value} {below : List Frame} {meth : Method} {c : Code} {D : va_G} {a : Nat → Nat} {q : Nat → ClassId} {A : Nat → Prop} (hC : CX p s m args meth c prog_12_method_62_code 9 "OutwardTapeModel" (some .boolean)) (hA : ∀ x, s.heap.size ≤ x → A x) (hK : va_K D CLS (tR q) s) {g0 : Int32} {g1 : Nat → Int32} {g2 : Nat → Int64} {g3 : Nat → Int64} {g4 : Nat → Int32} {g5 : Int32} {g6 : Nat → Int32} {g7 : Int32} {g9 : Int32} {g10 : Int64} {g11 : Int64} {g12 : Int32} {g13 : Int32} {g14 : Int32} {g15 : Int64} {g16 : Int32} {g17 : Int32} {g18 : Int64} {g19 : Int32} {r0 : Int32 × (Nat → Int32)} : ∀ (s0 : Int32) (g8 : Nat → Int32) (H : Heap) (locs : List Loc) (ls : Array Slot), va_P D CLS (wR a q g0 g1 g2 g3 g4 g5 g6 g7 g8 g9 g10 g11 g12 g13 g14 g15 g16 g17 g18 g19) H → va_D A (wR a q g0 g1 g2 g3 g4 g5 g6 g7 g8 g9 g10 g11 g12 g13 g14 g15 g16 g17 g18 g19) → va_S A s.heap H locs → lv_has ls 9 [] → f_Ref_inOrder_145  s0 g8 g17 g18 g19 = some r0 → W p l e rm_Ref_inOrder s m args below meth c H locs 0 0 (MQ below (va_Qi (fun (r : Int32) (_ : Unit) => r = r0.1) (fun _ t => va_P D CLS (wR a q g0 g1 g2 g3 g4 g5 g6 g7 r0.2 g9 g10 g11 g12 g13 g14 g15 g16 g17 g18 g19) t.heap) A) args s 0 0 A) (F0 m 145 ls [.int s0]) := by
  obtain ⟨hx, hb, hml, hown, hts, hr, hlocks⟩ := id hC
  intro s0 g8 H locs ls hP hD hS hl h
  rw [f_Ref_inOrder_145] at h
  obtain ⟨hz, h⟩ := og_of h
  obtain rfl := os_of h
  exact W.zret (v := s0) (ty := .boolean) hx hb hr (j_z_nar hz) (fun t ht hW => ⟨⟨_, (), rfl, rfl, (hPt hP ht)⟩, hS.F ht⟩) hS.2.2 (dt_at dt_Ref_inOrder 76 rfl)
set_option maxRecDepth 100000 in
set_option maxHeartbeats 4000000 in
theorem k_Ref_inOrder_103 {p : Program} {l : Launch} {e : Env} {s : State} {m : MethodId} {args : Array Value} {below : List Frame} {meth : Method} {c : Code} {D : va_G} {a : Nat → Nat} {q : Nat → ClassId} {A : Nat → Prop} (hC : CX p s m args meth c prog_12_method_62_code 9 "OutwardTapeModel" (some .boolean)) (hA : ∀ x, s.heap.size ≤ x → A x) (hK : va_K D CLS (tR q) s) {g0 : Int32} {g1 : Nat → Int32} {g2 : Nat → Int64} {g3 : Nat → Int64} {g4 : Nat → Int32} {g5 : Int32} {g6 : Nat → Int32} {g7 : Int32} {g9 : Int32} {g10 : Int64} {g11 : Int64} {g12 : Int32} {g13 : Int32} {g14 : Int32} {g15 : Int64} {g16 : Int32} {g17 : Int32} {g18 : Int64} {g19 : Int32} {r0 : Int32 × (Nat → Int32)} : ∀ (s0 : Int32) (v6 : Int32) (v7 : Int32) (g8 : Nat → Int32) (H : Heap) (locs : List Loc) (ls : Array Slot), va_P D CLS (wR a q g0 g1 g2 g3 g4 g5 g6 g7 g8 g9 g10 g11 g12 g13 g14 g15 g16 g17 g18 g19) H → va_D A (wR a q g0 g1 g2 g3 g4 g5 g6 g7 g8 g9 g10 g11 g12 g13 g14 g15 g16 g17 g18 g19) → va_S A s.heap H locs → lv_has ls 9 [(6, .int v6), (7, .int v7)] → f_Ref_inOrder_103  s0 v6 v7 g8 g17 g18 g19 = some r0 → W p l e rm_Ref_inOrder s m args below meth c H locs 0 0 (MQ below (va_Qi (fun (r : Int32) (_ : Unit) => r = r0.1) (fun _ t => va_P D CLS (wR a q g0 g1 g2 g3 g4 g5 g6 g7 r0.2 g9 g10 g11 g12 g13 g14 g15 g16 g17 g18 g19) t.heap) A) args s 0 0 A) (F0 m 103 ls [.int s0]) := by
  obtain ⟨hx, hb, hml, hown, hts, hr, hlocks⟩ := id hC
  intro s0 v6 v7 g8 H locs ls hP hD hS hl h
  rw [f_Ref_inOrder_103] at h
  refine lv_istore (lv' := [(8, .int s0), (6, .int v6), (7, .int v7)]) hx hb (dt_at dt_Ref_inOrder 57 rfl) hl (by decide) rfl (fun ls hl => ?_)
  refine lv_iload hx hb (dt_at dt_Ref_inOrder 58 rfl) (lv_at hl 2 rfl) ?_
  refine lv_iload hx hb (dt_at dt_Ref_inOrder 59 rfl) (lv_at hl 0 rfl) ?_
  refine lv_icmp_ne (tgt := 143) hx hb (dt_at dt_Ref_inOrder 60 rfl) (by decide) (fun c1 => ?_) (fun c1 => ?_)
  · have h := if_n h c1
    refine lv_iload hx hb (dt_at dt_Ref_inOrder 75 rfl) (lv_at hl 2 rfl) ?_
    exact k_Ref_inOrder_145 hC hA hK   v7 g8 H locs ls hP hD hS (lv_sub hl [] rfl) h
  · have h := if_p h c1
    refine lv_iload hx hb (dt_at dt_Ref_inOrder 61 rfl) (lv_at hl 2 rfl) ?_
    refine lv_if_eq (tgt := 130) hx hb (dt_at dt_Ref_inOrder 62 rfl) (by decide) (fun c2 => ?_) (fun c2 => ?_)
    · have h := if_p h c2
      refine lv_iload hx hb (dt_at dt_Ref_inOrder 69 rfl) (lv_at hl 1 rfl) ?_
      refine lv_if_gt (tgt := 139) hx hb (dt_at dt_Ref_inOrder 70 rfl) (by decide) (fun c3 => ?_) (fun c3 => ?_)
      · have h := if_p h c3
        refine lv_iconst (v := 0) hx hb (dt_at dt_Ref_inOrder 73 rfl) (by decide) ?_
        refine lv_goto (tgt := 145) hx hb (dt_at dt_Ref_inOrder 74 rfl) (by decide) ?_
        exact k_Ref_inOrder_145 hC hA hK   (0 : Int32) g8 H locs ls hP hD hS (lv_sub hl [] rfl) h
      · have h := if_n h c3
        refine lv_iconst (v := 1) hx hb (dt_at dt_Ref_inOrder 71 rfl) (by decide) ?_
        refine lv_goto (tgt := 145) hx hb (dt_at dt_Ref_inOrder 72 rfl) (by decide) ?_
        exact k_Ref_inOrder_145 hC hA hK   (1 : Int32) g8 H locs ls hP hD hS (lv_sub hl [] rfl) h
    · have h := if_n h c2
      refine lv_iload hx hb (dt_at dt_Ref_inOrder 63 rfl) (lv_at hl 1 rfl) ?_
      refine lv_if_lt (tgt := 126) hx hb (dt_at dt_Ref_inOrder 64 rfl) (by decide) (fun c4 => ?_) (fun c4 => ?_)
      · have h := if_p h c4
        refine lv_iconst (v := 0) hx hb (dt_at dt_Ref_inOrder 67 rfl) (by decide) ?_
        refine lv_goto (tgt := 145) hx hb (dt_at dt_Ref_inOrder 68 rfl) (by decide) ?_
        exact k_Ref_inOrder_145 hC hA hK   (0 : Int32) g8 H locs ls hP hD hS (lv_sub hl [] rfl) h
      · have h := if_n h c4
        refine lv_iconst (v := 1) hx hb (dt_at dt_Ref_inOrder 65 rfl) (by decide) ?_
        refine lv_goto (tgt := 145) hx hb (dt_at dt_Ref_inOrder 66 rfl) (by decide) ?_
        exact k_Ref_inOrder_145 hC hA hK   (1 : Int32) g8 H locs ls hP hD hS (lv_sub hl [] rfl) h
set_option maxRecDepth 100000 in
set_option maxHeartbeats 4000000 in
theorem k_Ref_inOrder_102 {p : Program} {l : Launch} {e : Env} {s : State} {m : MethodId} {args : Array Value} {below : List Frame} {meth : Method} {c : Code} {D : va_G} {a : Nat → Nat} {q : Nat → ClassId} {A : Nat → Prop} (hC : CX p s m args meth c prog_12_method_62_code 9 "OutwardTapeModel" (some .boolean)) (hA : ∀ x, s.heap.size ≤ x → A x) (hK : va_K D CLS (tR q) s) {g0 : Int32} {g1 : Nat → Int32} {g2 : Nat → Int64} {g3 : Nat → Int64} {g4 : Nat → Int32} {g5 : Int32} {g6 : Nat → Int32} {g7 : Int32} {g9 : Int32} {g10 : Int64} {g11 : Int64} {g12 : Int32} {g13 : Int32} {g14 : Int32} {g15 : Int64} {g16 : Int32} {g17 : Int32} {g18 : Int64} {g19 : Int32} {r0 : Int32 × (Nat → Int32)} : ∀ (v6 : Int32) (v7 : Int32) (g8 : Nat → Int32) (H : Heap) (locs : List Loc) (ls : Array Slot), va_P D CLS (wR a q g0 g1 g2 g3 g4 g5 g6 g7 g8 g9 g10 g11 g12 g13 g14 g15 g16 g17 g18 g19) H → va_D A (wR a q g0 g1 g2 g3 g4 g5 g6 g7 g8 g9 g10 g11 g12 g13 g14 g15 g16 g17 g18 g19) → va_S A s.heap H locs → lv_has ls 9 [(6, .int v6), (7, .int v7)] → f_Ref_inOrder_102  v6 v7 g8 g17 g18 g19 = some r0 → W p l e rm_Ref_inOrder s m args below meth c H locs 0 0 (MQ below (va_Qi (fun (r : Int32) (_ : Unit) => r = r0.1) (fun _ t => va_P D CLS (wR a q g0 g1 g2 g3 g4 g5 g6 g7 r0.2 g9 g10 g11 g12 g13 g14 g15 g16 g17 g18 g19) t.heap) A) args s 0 0 A) (F0 m 102 ls []) := by
  obtain ⟨hx, hb, hml, hown, hts, hr, hlocks⟩ := id hC
  intro v6 v7 g8 H locs ls hP hD hS hl h
  rw [f_Ref_inOrder_102] at h
  refine lv_iconst (v := 0) hx hb (dt_at dt_Ref_inOrder 56 rfl) (by decide) ?_
  exact k_Ref_inOrder_103 hC hA hK   (0 : Int32) v6 v7 g8 H locs ls hP hD hS (lv_sub hl [0, 1] rfl) h
set_option maxRecDepth 100000 in
set_option maxHeartbeats 4000000 in
theorem k_Ref_inOrder_86 {p : Program} {l : Launch} {e : Env} {s : State} {m : MethodId} {args : Array Value} {below : List Frame} {meth : Method} {c : Code} {D : va_G} {a : Nat → Nat} {q : Nat → ClassId} {A : Nat → Prop} (hC : CX p s m args meth c prog_12_method_62_code 9 "OutwardTapeModel" (some .boolean)) (hA : ∀ x, s.heap.size ≤ x → A x) (hK : va_K D CLS (tR q) s) {g0 : Int32} {g1 : Nat → Int32} {g2 : Nat → Int64} {g3 : Nat → Int64} {g4 : Nat → Int32} {g5 : Int32} {g6 : Nat → Int32} {g7 : Int32} {g9 : Int32} {g10 : Int64} {g11 : Int64} {g12 : Int32} {g13 : Int32} {g14 : Int32} {g15 : Int64} {g16 : Int32} {g17 : Int32} {g18 : Int64} {g19 : Int32} {r0 : Int32 × (Nat → Int32)} : ∀ (s0 : Int32) (v1 : Int32) (v2 : Int64) (v6 : Int32) (g8 : Nat → Int32) (H : Heap) (locs : List Loc) (ls : Array Slot), va_P D CLS (wR a q g0 g1 g2 g3 g4 g5 g6 g7 g8 g9 g10 g11 g12 g13 g14 g15 g16 g17 g18 g19) H → va_D A (wR a q g0 g1 g2 g3 g4 g5 g6 g7 g8 g9 g10 g11 g12 g13 g14 g15 g16 g17 g18 g19) → va_S A s.heap H locs → lv_has ls 9 [(1, .int v1), (2, .long v2), (6, .int v6)] → f_Ref_inOrder_86  s0 v1 v2 v6 g8 g17 g18 g19 = some r0 → W p l e rm_Ref_inOrder s m args below meth c H locs 0 0 (MQ below (va_Qi (fun (r : Int32) (_ : Unit) => r = r0.1) (fun _ t => va_P D CLS (wR a q g0 g1 g2 g3 g4 g5 g6 g7 r0.2 g9 g10 g11 g12 g13 g14 g15 g16 g17 g18 g19) t.heap) A) args s 0 0 A) (F0 m 86 ls [.int s0]) := by
  obtain ⟨hx, hb, hml, hown, hts, hr, hlocks⟩ := id hC
  intro s0 v1 v2 v6 g8 H locs ls hP hD hS hl h
  rw [f_Ref_inOrder_86] at h
  refine lv_istore (lv' := [(7, .int s0), (1, .int v1), (2, .long v2), (6, .int v6)]) hx hb (dt_at dt_Ref_inOrder 47 rfl) hl (by decide) rfl (fun ls hl => ?_)
  refine lv_iload_n hx hb (dt_at dt_Ref_inOrder 48 rfl) rfl (lv_at hl 1 rfl) ?_
  refine lv_if_eq (tgt := 102) hx hb (dt_at dt_Ref_inOrder 49 rfl) (by decide) (fun c1 => ?_) (fun c1 => ?_)
  · have h := if_p h c1
    exact k_Ref_inOrder_102 hC hA hK   v6 s0 g8 H locs ls hP hD hS (lv_sub hl [3, 0] rfl) h
  · have h := if_n h c1
    refine lv_lload_n hx hb (dt_at dt_Ref_inOrder 50 rfl) rfl (lv_at hl 2 rfl) ?_
    refine lv_lconst (v := 0) hx hb (dt_at dt_Ref_inOrder 51 rfl) (by decide) ?_
    refine lc_le (tgt := 102) hx hb (dt_at dt_Ref_inOrder 52 rfl) (dt_at dt_Ref_inOrder 53 rfl) (by decide) (fun c2 => ?_) (fun c2 => ?_)
    · have h := if_p h c2
      exact k_Ref_inOrder_102 hC hA hK   v6 s0 g8 H locs ls hP hD hS (lv_sub hl [3, 0] rfl) h
    · have h := if_n h c2
      refine lv_iconst (v := 1) hx hb (dt_at dt_Ref_inOrder 54 rfl) (by decide) ?_
      refine lv_goto (tgt := 103) hx hb (dt_at dt_Ref_inOrder 55 rfl) (by decide) ?_
      exact k_Ref_inOrder_103 hC hA hK   (1 : Int32) v6 s0 g8 H locs ls hP hD hS (lv_sub hl [3, 0] rfl) h
set_option maxRecDepth 100000 in
set_option maxHeartbeats 4000000 in
theorem k_Ref_inOrder_85 {p : Program} {l : Launch} {e : Env} {s : State} {m : MethodId} {args : Array Value} {below : List Frame} {meth : Method} {c : Code} {D : va_G} {a : Nat → Nat} {q : Nat → ClassId} {A : Nat → Prop} (hC : CX p s m args meth c prog_12_method_62_code 9 "OutwardTapeModel" (some .boolean)) (hA : ∀ x, s.heap.size ≤ x → A x) (hK : va_K D CLS (tR q) s) {g0 : Int32} {g1 : Nat → Int32} {g2 : Nat → Int64} {g3 : Nat → Int64} {g4 : Nat → Int32} {g5 : Int32} {g6 : Nat → Int32} {g7 : Int32} {g9 : Int32} {g10 : Int64} {g11 : Int64} {g12 : Int32} {g13 : Int32} {g14 : Int32} {g15 : Int64} {g16 : Int32} {g17 : Int32} {g18 : Int64} {g19 : Int32} {r0 : Int32 × (Nat → Int32)} : ∀ (v1 : Int32) (v2 : Int64) (v6 : Int32) (g8 : Nat → Int32) (H : Heap) (locs : List Loc) (ls : Array Slot), va_P D CLS (wR a q g0 g1 g2 g3 g4 g5 g6 g7 g8 g9 g10 g11 g12 g13 g14 g15 g16 g17 g18 g19) H → va_D A (wR a q g0 g1 g2 g3 g4 g5 g6 g7 g8 g9 g10 g11 g12 g13 g14 g15 g16 g17 g18 g19) → va_S A s.heap H locs → lv_has ls 9 [(1, .int v1), (2, .long v2), (6, .int v6)] → f_Ref_inOrder_85  v1 v2 v6 g8 g17 g18 g19 = some r0 → W p l e rm_Ref_inOrder s m args below meth c H locs 0 0 (MQ below (va_Qi (fun (r : Int32) (_ : Unit) => r = r0.1) (fun _ t => va_P D CLS (wR a q g0 g1 g2 g3 g4 g5 g6 g7 r0.2 g9 g10 g11 g12 g13 g14 g15 g16 g17 g18 g19) t.heap) A) args s 0 0 A) (F0 m 85 ls []) := by
  obtain ⟨hx, hb, hml, hown, hts, hr, hlocks⟩ := id hC
  intro v1 v2 v6 g8 H locs ls hP hD hS hl h
  rw [f_Ref_inOrder_85] at h
  refine lv_iconst (v := 0) hx hb (dt_at dt_Ref_inOrder 46 rfl) (by decide) ?_
  exact k_Ref_inOrder_86 hC hA hK   (0 : Int32) v1 v2 v6 g8 H locs ls hP hD hS (lv_sub hl [0, 1, 2] rfl) h
set_option maxRecDepth 100000 in
set_option maxHeartbeats 4000000 in
theorem k_Ref_inOrder_18 {p : Program} {l : Launch} {e : Env} {s : State} {m : MethodId} {args : Array Value} {below : List Frame} {meth : Method} {c : Code} {D : va_G} {a : Nat → Nat} {q : Nat → ClassId} {A : Nat → Prop} (hC : CX p s m args meth c prog_12_method_62_code 9 "OutwardTapeModel" (some .boolean)) (hA : ∀ x, s.heap.size ≤ x → A x) (hK : va_K D CLS (tR q) s) {g0 : Int32} {g1 : Nat → Int32} {g2 : Nat → Int64} {g3 : Nat → Int64} {g4 : Nat → Int32} {g5 : Int32} {g6 : Nat → Int32} {g7 : Int32} {g9 : Int32} {g10 : Int64} {g11 : Int64} {g12 : Int32} {g13 : Int32} {g14 : Int32} {g15 : Int64} {g16 : Int32} {g17 : Int32} {g18 : Int64} {g19 : Int32} {r0 : Int32 × (Nat → Int32)} : ∀ (s0 : Int32) (v1 : Int32) (v2 : Int64) (v4 : Int32) (g8 : Nat → Int32) (H : Heap) (locs : List Loc) (ls : Array Slot), va_P D CLS (wR a q g0 g1 g2 g3 g4 g5 g6 g7 g8 g9 g10 g11 g12 g13 g14 g15 g16 g17 g18 g19) H → va_D A (wR a q g0 g1 g2 g3 g4 g5 g6 g7 g8 g9 g10 g11 g12 g13 g14 g15 g16 g17 g18 g19) → va_S A s.heap H locs → lv_has ls 9 [(0, .ref (a 0)), (1, .int v1), (2, .long v2), (4, .int v4)] → f_Ref_inOrder_18  s0 v1 v2 v4 g8 g17 g18 g19 = some r0 → W p l e rm_Ref_inOrder s m args below meth c H locs 0 0 (MQ below (va_Qi (fun (r : Int32) (_ : Unit) => r = r0.1) (fun _ t => va_P D CLS (wR a q g0 g1 g2 g3 g4 g5 g6 g7 r0.2 g9 g10 g11 g12 g13 g14 g15 g16 g17 g18 g19) t.heap) A) args s 0 0 A) (F0 m 18 ls [.int s0]) := by
  obtain ⟨hx, hb, hml, hown, hts, hr, hlocks⟩ := id hC
  intro s0 v1 v2 v4 g8 H locs ls hP hD hS hl h
  rw [f_Ref_inOrder_18] at h
  refine lv_istore (lv' := [(5, .int s0), (0, .ref (a 0)), (1, .int v1), (2, .long v2), (4, .int v4)]) hx hb (dt_at dt_Ref_inOrder 8 rfl) hl (by decide) rfl (fun ls hl => ?_)
  refine lv_aload_n hx hb (dt_at dt_Ref_inOrder 9 rfl) rfl (lv_at hl 1 rfl) ?_
  refine lv_iconst (v := 0) hx hb (dt_at dt_Ref_inOrder 10 rfl) (by decide) ?_
  refine lv_aload_n hx hb (dt_at dt_Ref_inOrder 11 rfl) rfl (lv_at hl 1 rfl) ?_
  refine va_get (D := D) (ci := 0) (v := .long g18) (C := "OutwardTapeModel") (T := T_Ref) (N := 20) hx hb hts in_Ref hown hK hP 0 rfl rfl 18 (by decide) (hts (Cond.fieldLink "OutwardTapeModel" 273 "OutwardTapeModel" "digits0" "J") (m_4 17 rfl rfl)) (fun _ h9 => h9) rfl (dt_at dt_Ref_inOrder 12 rfl) ?_
  obtain ⟨r1, h_r1, h⟩ := ob_of h
  have hF := va_free (wc := dR a) (dD (ws' := dR a) hD rfl) hS hA [0, 1, 2, 3, 4, 5, 6] rfl
  have hd : va_D (fun _ => True) (dR a) := (dD (ws' := dR a) hD rfl).weaken (fun _ _ _ _ => trivial)
  refine va_callv (va_runV (As := [.int (0 : Int32), .long g18]) (rest := []) ⟨hx, hb, hml, hown, hts⟩ (c_Ref_put l D a q hd H.size (0 : Int32) g18 g0 g1 g2 g3 g4 g5 g6 g7 g8 g9 g10 g11 g12 g13 g14 g15 g16 g17 g18 g19 r1 h_r1) (cwV 2 hts (gd_V (m_4 129 rfl rfl) (m_4 131 rfl rfl) (m_s 28 rfl rfl) (m_1 4 rfl rfl) (m_4 132 rfl rfl)) rfl rfl rfl (by decide +kernel) ⟨Nat.le_of_ble_eq_true rfl, Nat.le_of_ble_eq_true rfl⟩) ⟨fun a U g mk q => ⟨q.1, q.2.1, q.2.2.1, va_K.moved (u := U) (U := U.calling g mk a) (Vm.Alike.refl U.vm) q.2.2.2⟩, va_recv hK hP (ci := 0) (q0 := 0) rfl rfl, fun U hU hW => ⟨rfl, by rw [hU], by rw [hU]; exact hP, va_K.moved hW.alike hK⟩⟩ rfl rfl hl.1 rfl (lv_room (Nat.le_of_ble_eq_true rfl)) (dt_at dt_Ref_inOrder 13 rfl) ⟨Nat.le_of_ble_eq_true rfl, Nat.le_of_ble_eq_true rfl⟩) hS (fun x _ h9 => hF x h9) hF (fun uu t H locs ht hvm hw hB hz1 hk1 hS => ?_)
  rw [ht] at hB
  have hP : va_P D CLS (wR a q g0 g1 g2 g3 g4 g5 g6 g7 r1 g9 g10 g11 g12 g13 g14 g15 g16 g17 g18 g19) H := hB
  have hD : va_D A (wR a q g0 g1 g2 g3 g4 g5 g6 g7 r1 g9 g10 g11 g12 g13 g14 g15 g16 g17 g18 g19) := dD hD rfl
  refine lv_aload_n hx hb (dt_at dt_Ref_inOrder 14 rfl) rfl (lv_at hl 1 rfl) ?_
  refine lv_iconst (v := 0) hx hb (dt_at dt_Ref_inOrder 15 rfl) (by decide) ?_
  refine lv_aload_n hx hb (dt_at dt_Ref_inOrder 16 rfl) rfl (lv_at hl 1 rfl) ?_
  refine va_get (D := D) (ci := 0) (v := .int g19) (C := "OutwardTapeModel") (T := T_Ref) (N := 20) hx hb hts in_Ref hown hK hP 0 rfl rfl 19 (by decide) (hts (Cond.fieldLink "OutwardTapeModel" 270 "OutwardTapeModel" "power0" "I") (m_4 18 rfl rfl)) (fun _ h9 => h9) rfl (dt_at dt_Ref_inOrder 17 rfl) ?_
  refine lv_iload hx hb (dt_at dt_Ref_inOrder 18 rfl) (lv_at hl 0 rfl) ?_
  refine lv_isub hx hb (dt_at dt_Ref_inOrder 19 rfl) ?_
  obtain ⟨r2, h_r2, h⟩ := ob_of h
  have hF := va_free (wc := dR a) (dD (ws' := dR a) hD rfl) hS hA [0, 1, 2, 3, 4, 5, 6] rfl
  have hd : va_D (fun _ => True) (dR a) := (dD (ws' := dR a) hD rfl).weaken (fun _ _ _ _ => trivial)
  refine va_callv (va_runV (As := [.int (0 : Int32), .int (g19 - s0)]) (rest := []) ⟨hx, hb, hml, hown, hts⟩ (c_Ref_tenTimes l D a q hd H.size (0 : Int32) (g19 - s0) g0 g1 g2 g3 g4 g5 g6 g7 r1 g9 g10 g11 g12 g13 g14 g15 g16 g17 g18 g19 r2 h_r2) (cwV 2 hts (gd_V (m_5 69 rfl rfl) (m_5 71 rfl rfl) (m_s 61 rfl rfl) (m_1 4 rfl rfl) (m_5 72 rfl rfl)) rfl rfl rfl (by decide +kernel) ⟨Nat.le_of_ble_eq_true rfl, Nat.le_of_ble_eq_true rfl⟩) ⟨fun a U g mk q => ⟨q.1, q.2.1, q.2.2.1, va_K.moved (u := U) (U := U.calling g mk a) (Vm.Alike.refl U.vm) q.2.2.2⟩, va_recv hK hP (ci := 0) (q0 := 0) rfl rfl, fun U hU hW => ⟨rfl, by rw [hU], by rw [hU]; exact hP, va_K.moved hW.alike hK⟩⟩ rfl rfl hl.1 rfl (lv_room (Nat.le_of_ble_eq_true rfl)) (dt_at dt_Ref_inOrder 20 rfl) ⟨Nat.le_of_ble_eq_true rfl, Nat.le_of_ble_eq_true rfl⟩) hS (fun x _ h9 => hF x h9) hF (fun uu t H locs ht hvm hw hB hz1 hk1 hS => ?_)
  rw [ht] at hB
  have hP : va_P D CLS (wR a q g0 g1 g2 g3 g4 g5 g6 g7 r2 g9 g10 g11 g12 g13 g14 g15 g16 g17 g18 g19) H := hB
  have hD : va_D A (wR a q g0 g1 g2 g3 g4 g5 g6 g7 r2 g9 g10 g11 g12 g13 g14 g15 g16 g17 g18 g19) := dD hD rfl
  refine lv_aload_n hx hb (dt_at dt_Ref_inOrder 21 rfl) rfl (lv_at hl 1 rfl) ?_
  refine lv_iconst (v := 1) hx hb (dt_at dt_Ref_inOrder 22 rfl) (by decide) ?_
  refine lv_lload_n hx hb (dt_at dt_Ref_inOrder 23 rfl) rfl (lv_at hl 3 rfl) ?_
  obtain ⟨r3, h_r3, h⟩ := ob_of h
  have hF := va_free (wc := dR a) (dD (ws' := dR a) hD rfl) hS hA [0, 1, 2, 3, 4, 5, 6] rfl
  have hd : va_D (fun _ => True) (dR a) := (dD (ws' := dR a) hD rfl).weaken (fun _ _ _ _ => trivial)
  refine va_callv (va_runV (As := [.int (1 : Int32), .long v2]) (rest := []) ⟨hx, hb, hml, hown, hts⟩ (c_Ref_put l D a q hd H.size (1 : Int32) v2 g0 g1 g2 g3 g4 g5 g6 g7 r2 g9 g10 g11 g12 g13 g14 g15 g16 g17 g18 g19 r3 h_r3) (cwV 2 hts (gd_V (m_4 129 rfl rfl) (m_4 131 rfl rfl) (m_s 28 rfl rfl) (m_1 4 rfl rfl) (m_4 132 rfl rfl)) rfl rfl rfl (by decide +kernel) ⟨Nat.le_of_ble_eq_true rfl, Nat.le_of_ble_eq_true rfl⟩) ⟨fun a U g mk q => ⟨q.1, q.2.1, q.2.2.1, va_K.moved (u := U) (U := U.calling g mk a) (Vm.Alike.refl U.vm) q.2.2.2⟩, va_recv hK hP (ci := 0) (q0 := 0) rfl rfl, fun U hU hW => ⟨rfl, by rw [hU], by rw [hU]; exact hP, va_K.moved hW.alike hK⟩⟩ rfl rfl hl.1 rfl (lv_room (Nat.le_of_ble_eq_true rfl)) (dt_at dt_Ref_inOrder 24 rfl) ⟨Nat.le_of_ble_eq_true rfl, Nat.le_of_ble_eq_true rfl⟩) hS (fun x _ h9 => hF x h9) hF (fun uu t H locs ht hvm hw hB hz1 hk1 hS => ?_)
  rw [ht] at hB
  have hP : va_P D CLS (wR a q g0 g1 g2 g3 g4 g5 g6 g7 r3 g9 g10 g11 g12 g13 g14 g15 g16 g17 g18 g19) H := hB
  have hD : va_D A (wR a q g0 g1 g2 g3 g4 g5 g6 g7 r3 g9 g10 g11 g12 g13 g14 g15 g16 g17 g18 g19) := dD hD rfl
  refine lv_aload_n hx hb (dt_at dt_Ref_inOrder 25 rfl) rfl (lv_at hl 1 rfl) ?_
  refine lv_iconst (v := 1) hx hb (dt_at dt_Ref_inOrder 26 rfl) (by decide) ?_
  refine lv_iload hx hb (dt_at dt_Ref_inOrder 27 rfl) (lv_at hl 4 rfl) ?_
  refine lv_iload hx hb (dt_at dt_Ref_inOrder 28 rfl) (lv_at hl 0 rfl) ?_
  refine lv_isub hx hb (dt_at dt_Ref_inOrder 29 rfl) ?_
  obtain ⟨r4, h_r4, h⟩ := ob_of h
  have hF := va_free (wc := dR a) (dD (ws' := dR a) hD rfl) hS hA [0, 1, 2, 3, 4, 5, 6] rfl
  have hd : va_D (fun _ => True) (dR a) := (dD (ws' := dR a) hD rfl).weaken (fun _ _ _ _ => trivial)
  refine va_callv (va_runV (As := [.int (1 : Int32), .int (v4 - s0)]) (rest := []) ⟨hx, hb, hml, hown, hts⟩ (c_Ref_tenTimes l D a q hd H.size (1 : Int32) (v4 - s0) g0 g1 g2 g3 g4 g5 g6 g7 r3 g9 g10 g11 g12 g13 g14 g15 g16 g17 g18 g19 r4 h_r4) (cwV 2 hts (gd_V (m_5 69 rfl rfl) (m_5 71 rfl rfl) (m_s 61 rfl rfl) (m_1 4 rfl rfl) (m_5 72 rfl rfl)) rfl rfl rfl (by decide +kernel) ⟨Nat.le_of_ble_eq_true rfl, Nat.le_of_ble_eq_true rfl⟩) ⟨fun a U g mk q => ⟨q.1, q.2.1, q.2.2.1, va_K.moved (u := U) (U := U.calling g mk a) (Vm.Alike.refl U.vm) q.2.2.2⟩, va_recv hK hP (ci := 0) (q0 := 0) rfl rfl, fun U hU hW => ⟨rfl, by rw [hU], by rw [hU]; exact hP, va_K.moved hW.alike hK⟩⟩ rfl rfl hl.1 rfl (lv_room (Nat.le_of_ble_eq_true rfl)) (dt_at dt_Ref_inOrder 30 rfl) ⟨Nat.le_of_ble_eq_true rfl, Nat.le_of_ble_eq_true rfl⟩) hS (fun x _ h9 => hF x h9) hF (fun uu t H locs ht hvm hw hB hz1 hk1 hS => ?_)
  rw [ht] at hB
  have hP : va_P D CLS (wR a q g0 g1 g2 g3 g4 g5 g6 g7 r4 g9 g10 g11 g12 g13 g14 g15 g16 g17 g18 g19) H := hB
  have hD : va_D A (wR a q g0 g1 g2 g3 g4 g5 g6 g7 r4 g9 g10 g11 g12 g13 g14 g15 g16 g17 g18 g19) := dD hD rfl
  refine lv_aload_n hx hb (dt_at dt_Ref_inOrder 31 rfl) rfl (lv_at hl 1 rfl) ?_
  refine lv_iconst (v := 0) hx hb (dt_at dt_Ref_inOrder 32 rfl) (by decide) ?_
  refine lv_iconst (v := 1) hx hb (dt_at dt_Ref_inOrder 33 rfl) (by decide) ?_
  obtain ⟨r5, h_r5, h⟩ := ob_of h
  have hF := va_free (wc := dR a) (dD (ws' := dR a) hD rfl) hS hA [0, 1, 2, 3, 4, 5, 6] rfl
  have hd : va_D (fun _ => True) (dR a) := (dD (ws' := dR a) hD rfl).weaken (fun _ _ _ _ => trivial)
  refine va_calli (va_runV (As := [.int (0 : Int32), .int (1 : Int32)]) (rest := []) ⟨hx, hb, hml, hown, hts⟩ (c_Ref_compare l D a q hd H.size (0 : Int32) (1 : Int32) g0 g1 g2 g3 g4 g5 g6 g7 r4 g9 g10 g11 g12 g13 g14 g15 g16 g17 g18 g19 r5 h_r5) (cwV 2 hts (gd_V (m_4 164 rfl rfl) (m_4 166 rfl rfl) (m_s 35 rfl rfl) (m_1 4 rfl rfl) (m_4 167 rfl rfl)) rfl rfl rfl (by decide +kernel) ⟨Nat.le_of_ble_eq_true rfl, Nat.le_of_ble_eq_true rfl⟩) ⟨fun a U g mk q => ⟨q.1, q.2.1, q.2.2.1, va_K.moved (u := U) (U := U.calling g mk a) (Vm.Alike.refl U.vm) q.2.2.2⟩, va_recv hK hP (ci := 0) (q0 := 0) rfl rfl, fun U hU hW => ⟨rfl, by rw [hU], by rw [hU]; exact hP, va_K.moved hW.alike hK⟩⟩ rfl rfl hl.1 rfl (lv_room (Nat.le_of_ble_eq_true rfl)) (dt_at dt_Ref_inOrder 34 rfl) ⟨Nat.le_of_ble_eq_true rfl, Nat.le_of_ble_eq_true rfl⟩) hS (fun x _ h9 => hF x h9) hF (fun u_r5 uu t H locs ht hvm hw hB hz1 hk1 hS => ?_)
  rw [ht] at hB
  obtain rfl : r5 = u_r5 := hw.symm
  have hP : va_P D CLS (wR a q g0 g1 g2 g3 g4 g5 g6 g7 r4 g9 g10 g11 g12 g13 g14 g15 g16 g17 g18 g19) H := hB
  have hD : va_D A (wR a q g0 g1 g2 g3 g4 g5 g6 g7 r4 g9 g10 g11 g12 g13 g14 g15 g16 g17 g18 g19) := dD hD rfl
  refine lv_istore (lv' := [(6, .int r5), (5, .int s0), (0, .ref (a 0)), (1, .int v1), (2, .long v2), (4, .int v4)]) hx hb (dt_at dt_Ref_inOrder 35 rfl) hl (by decide) rfl (fun ls hl => ?_)
  refine lv_aload_n hx hb (dt_at dt_Ref_inOrder 36 rfl) rfl (lv_at hl 2 rfl) ?_
  refine va_get (D := D) (ci := 0) (v := .int g17) (C := "OutwardTapeModel") (T := T_Ref) (N := 20) hx hb hts in_Ref hown hK hP 0 rfl rfl 17 (by decide) (hts (Cond.fieldLink "OutwardTapeModel" 276 "OutwardTapeModel" "minus0" "Z") (m_4 16 rfl rfl)) (fun _ h9 => h9) rfl (dt_at dt_Ref_inOrder 37 rfl) ?_
  refine lv_if_eq (tgt := 85) hx hb (dt_at dt_Ref_inOrder 38 rfl) (by decide) (fun c6 => ?_) (fun c6 => ?_)
  · have h := if_p h c6
    exact k_Ref_inOrder_85 hC hA hK   v1 v2 r5 r4 H locs ls hP hD hS (lv_sub hl [3, 4, 0] rfl) h
  · have h := if_n h c6
    refine lv_aload_n hx hb (dt_at dt_Ref_inOrder 39 rfl) rfl (lv_at hl 2 rfl) ?_
    refine va_get (D := D) (ci := 0) (v := .long g18) (C := "OutwardTapeModel") (T := T_Ref) (N := 20) hx hb hts in_Ref hown hK hP 0 rfl rfl 18 (by decide) (hts (Cond.fieldLink "OutwardTapeModel" 273 "OutwardTapeModel" "digits0" "J") (m_4 17 rfl rfl)) (fun _ h9 => h9) rfl (dt_at dt_Ref_inOrder 40 rfl) ?_
    refine lv_lconst (v := 0) hx hb (dt_at dt_Ref_inOrder 41 rfl) (by decide) ?_
    refine lc_le (tgt := 85) hx hb (dt_at dt_Ref_inOrder 42 rfl) (dt_at dt_Ref_inOrder 43 rfl) (by decide) (fun c7 => ?_) (fun c7 => ?_)
    · have h := if_p h c7
      exact k_Ref_inOrder_85 hC hA hK   v1 v2 r5 r4 H locs ls hP hD hS (lv_sub hl [3, 4, 0] rfl) h
    · have h := if_n h c7
      refine lv_iconst (v := 1) hx hb (dt_at dt_Ref_inOrder 44 rfl) (by decide) ?_
      refine lv_goto (tgt := 86) hx hb (dt_at dt_Ref_inOrder 45 rfl) (by decide) ?_
      exact k_Ref_inOrder_86 hC hA hK   (1 : Int32) v1 v2 r5 r4 H locs ls hP hD hS (lv_sub hl [3, 4, 0] rfl) h
set_option maxRecDepth 100000 in
set_option maxHeartbeats 4000000 in
theorem k_Ref_inOrder_0 {p : Program} {l : Launch} {e : Env} {s : State} {m : MethodId} {args : Array Value} {below : List Frame} {meth : Method} {c : Code} {D : va_G} {a : Nat → Nat} {q : Nat → ClassId} {A : Nat → Prop} (hC : CX p s m args meth c prog_12_method_62_code 9 "OutwardTapeModel" (some .boolean)) (hA : ∀ x, s.heap.size ≤ x → A x) (hK : va_K D CLS (tR q) s) {g0 : Int32} {g1 : Nat → Int32} {g2 : Nat → Int64} {g3 : Nat → Int64} {g4 : Nat → Int32} {g5 : Int32} {g6 : Nat → Int32} {g7 : Int32} {g9 : Int32} {g10 : Int64} {g11 : Int64} {g12 : Int32} {g13 : Int32} {g14 : Int32} {g15 : Int64} {g16 : Int32} {g17 : Int32} {g18 : Int64} {g19 : Int32} {r0 : Int32 × (Nat → Int32)} : ∀ (v1 : Int32) (v2 : Int64) (v4 : Int32) (g8 : Nat → Int32) (H : Heap) (locs : List Loc) (ls : Array Slot), va_P D CLS (wR a q g0 g1 g2 g3 g4 g5 g6 g7 g8 g9 g10 g11 g12 g13 g14 g15 g16 g17 g18 g19) H → va_D A (wR a q g0 g1 g2 g3 g4 g5 g6 g7 g8 g9 g10 g11 g12 g13 g14 g15 g16 g17 g18 g19) → va_S A s.heap H locs → lv_has ls 9 [(0, .ref (a 0)), (1, .int v1), (2, .long v2), (4, .int v4)] → f_Ref_inOrder_0  v1 v2 v4 g8 g17 g18 g19 = some r0 → W p l e rm_Ref_inOrder s m args below meth c H locs 0 0 (MQ below (va_Qi (fun (r : Int32) (_ : Unit) => r = r0.1) (fun _ t => va_P D CLS (wR a q g0 g1 g2 g3 g4 g5 g6 g7 r0.2 g9 g10 g11 g12 g13 g14 g15 g16 g17 g18 g19) t.heap) A) args s 0 0 A) (F0 m 0 ls []) := by
  obtain ⟨hx, hb, hml, hown, hts, hr, hlocks⟩ := id hC
  intro v1 v2 v4 g8 H locs ls hP hD hS hl h
  rw [f_Ref_inOrder_0] at h
  refine lv_aload_n hx hb (dt_at dt_Ref_inOrder 0 rfl) rfl (lv_at hl 0 rfl) ?_
  refine va_get (D := D) (ci := 0) (v := .int g19) (C := "OutwardTapeModel") (T := T_Ref) (N := 20) hx hb hts in_Ref hown hK hP 0 rfl rfl 19 (by decide) (hts (Cond.fieldLink "OutwardTapeModel" 270 "OutwardTapeModel" "power0" "I") (m_4 18 rfl rfl)) (fun _ h9 => h9) rfl (dt_at dt_Ref_inOrder 1 rfl) ?_
  refine lv_iload hx hb (dt_at dt_Ref_inOrder 2 rfl) (lv_at hl 3 rfl) ?_
  refine lv_icmp_ge (tgt := 16) hx hb (dt_at dt_Ref_inOrder 3 rfl) (by decide) (fun c1 => ?_) (fun c1 => ?_)
  · have h := if_p h c1
    refine lv_iload hx hb (dt_at dt_Ref_inOrder 7 rfl) (lv_at hl 3 rfl) ?_
    exact k_Ref_inOrder_18 hC hA hK   v4 v1 v2 v4 g8 H locs ls hP hD hS (lv_sub hl [0, 1, 2, 3] rfl) h
  · have h := if_n h c1
    refine lv_aload_n hx hb (dt_at dt_Ref_inOrder 4 rfl) rfl (lv_at hl 0 rfl) ?_
    refine va_get (D := D) (ci := 0) (v := .int g19) (C := "OutwardTapeModel") (T := T_Ref) (N := 20) hx hb hts in_Ref hown hK hP 0 rfl rfl 19 (by decide) (hts (Cond.fieldLink "OutwardTapeModel" 270 "OutwardTapeModel" "power0" "I") (m_4 18 rfl rfl)) (fun _ h9 => h9) rfl (dt_at dt_Ref_inOrder 5 rfl) ?_
    refine lv_goto (tgt := 18) hx hb (dt_at dt_Ref_inOrder 6 rfl) (by decide) ?_
    exact k_Ref_inOrder_18 hC hA hK   g19 v1 v2 v4 g8 H locs ls hP hD hS (lv_sub hl [0, 1, 2, 3] rfl) h
set_option maxRecDepth 100000 in
set_option maxHeartbeats 4000000 in
theorem c_Ref_inOrder (l : Launch) (D : va_G) (a : Nat → Nat) (q : Nat → ClassId) (hd : va_D (fun _ => True) (dR a)) (sz : Nat) (a1 : Int32) (a2 : Int64) (a4 : Int32) (g0 : Int32) (g1 : Nat → Int32) (g2 : Nat → Int64) (g3 : Nat → Int64) (g4 : Nat → Int32) (g5 : Int32) (g6 : Nat → Int32) (g7 : Int32) (g8 : Nat → Int32) (g9 : Int32) (g10 : Int64) (g11 : Int64) (g12 : Int32) (g13 : Int32) (g14 : Int32) (g15 : Int64) (g16 : Int32) (g17 : Int32) (g18 : Int64) (g19 : Int32) (r0 : Int32 × (Nat → Int32)) (h : f_Ref_inOrder a1 a2 a4 g8 g17 g18 g19 = some r0) : Met l (⟨"OutwardTapeModel", "inOrder", "(ZJI)Z"⟩ : MethodName) (WSm (⟨"OutwardTapeModel", "inOrder", "(ZJI)Z"⟩ : MethodName) prog_12_method_62_code 9 (some .boolean)) rm_Ref_inOrder (va_Pc [.ref (a 0), .int a1, .long a2, .int a4] (fun U => U.heap.size = sz ∧ va_P D CLS (wR a q g0 g1 g2 g3 g4 g5 g6 g7 g8 g9 g10 g11 g12 g13 g14 g15 g16 g17 g18 g19) U.heap ∧ va_K D CLS (tR q) U)) (va_Qi (fun (r : Int32) (_ : Unit) => r = r0.1) (fun _ t => va_P D CLS (wR a q g0 g1 g2 g3 g4 g5 g6 g7 r0.2 g9 g10 g11 g12 g13 g14 g15 g16 g17 g18 g19) t.heap) (va_A (dR a) sz)) 0 0 (va_A (dR a) sz) := by
  refine Met.ofW (cc := prog_12_method_62_code) (maxL := 9) (ret := (some .boolean)) (by decide) rfl ?_
  intro p e s m args below meth c s₁ B hml hv
  obtain ⟨rfl, hsz, hP, hK⟩ := hv
  subst hsz
  have hC := CX.of B hml rfl
  have hl := lv_entry [.ref (a 0), .int a1, .long a2, .int a4] (n := 9) (Nat.le_of_ble_eq_true rfl)
  rw [lg_entry_eq]
  generalize (lg_sl [.ref (a 0), .int a1, .long a2, .int a4] ++ List.replicate (9 - (lg_sl [.ref (a 0), .int a1, .long a2, .int a4]).length) Slot.unset).toArray = ls at hl ⊢
  have hl : lv_has ls 9 [(0, .ref (a 0)), (1, .int a1), (2, .long a2), (4, .int a4)] := hl
  exact k_Ref_inOrder_0 hC (fun x h => Or.inr h) hK a1 a2 a4 g8 s.heap [] ls hP (dD hd.self rfl) va_S.rf (lv_sub hl [0, 1, 2, 3] rfl) h
abbrev rm_Ref_pair : Room := { frames := 4, cells := 0, slots := 0, locals := 104 }
set_option maxRecDepth 100000 in
set_option maxHeartbeats 4000000 in
theorem k_Ref_pair_266 {p : Program} {l : Launch} {e : Env} {s : State} {m : MethodId} {args : Array Value} {below : List Frame} {meth : Method} {c : Code} {D : va_G} {a : Nat → Nat} {q : Nat → ClassId} {A : Nat → Prop} (hC : CX p s m args meth c prog_12_method_64_code 7 "OutwardTapeModel" (some .int)) (hA : ∀ x, s.heap.size ≤ x → A x) (hK : va_K D CLS (tR q) s) {g0 : Int32} {g1 : Nat → Int32} {g2 : Nat → Int64} {g3 : Nat → Int64} {g4 : Nat → Int32} {g5 : Int32} {g6 : Nat → Int32} {g7 : Int32} {g12 : Int32} {r0 : Int32 × (Nat → Int32) × Int32 × Int64 × Int64 × Int32 × Int32 × Int64 × Int32 × Int32 × Int64 × Int32} : ∀ (s0 : Int32) (g8 : Nat → Int32) (g9 : Int32) (g10 : Int64) (g11 : Int64) (g13 : Int32) (g14 : Int32) (g15 : Int64) (g16 : Int32) (g17 : Int32) (g18 : Int64) (g19 : Int32) (H : Heap) (locs : List Loc) (ls : Array Slot), va_P D CLS (wR a q g0 g1 g2 g3 g4 g5 g6 g7 g8 g9 g10 g11 g12 g13 g14 g15 g16 g17 g18 g19) H → va_D A (wR a q g0 g1 g2 g3 g4 g5 g6 g7 g8 g9 g10 g11 g12 g13 g14 g15 g16 g17 g18 g19) → va_S A s.heap H locs → lv_has ls 7 [] → f_Ref_pair_266  s0 g6 g7 g8 g9 g10 g11 g13 g14 g15 g16 g17 g18 g19 = some r0 → W p l e rm_Ref_pair s m args below meth c H locs 0 0 (MQ below (va_Qi (fun (r : Int32) (_ : Unit) => r = r0.1) (fun _ t => va_P D CLS (wR a q g0 g1 g2 g3 g4 g5 g6 g7 r0.2.1 r0.2.2.1 r0.2.2.2.1 r0.2.2.2.2.1 g12 r0.2.2.2.2.2.1 r0.2.2.2.2.2.2.1 r0.2.2.2.2.2.2.2.1 r0.2.2.2.2.2.2.2.2.1 r0.2.2.2.2.2.2.2.2.2.1 r0.2.2.2.2.2.2.2.2.2.2.1 r0.2.2.2.2.2.2.2.2.2.2.2) t.heap) A) args s 0 0 A) (F0 m 266 ls [.int s0]) := by
  obtain ⟨hx, hb, hml, hown, hts, hr, hlocks⟩ := id hC
  intro s0 g8 g9 g10 g11 g13 g14 g15 g16 g17 g18 g19 H locs ls hP hD hS hl h
  rw [f_Ref_pair_266] at h
  obtain rfl := os_of h
  exact W.iret (v := s0) hx hb hr (fun t ht hW => ⟨⟨_, (), rfl, rfl, (hPt hP ht)⟩, hS.F ht⟩) hS.2.2 (dt_at dt_Ref_pair 138 rfl)
set_option maxRecDepth 100000 in
set_option maxHeartbeats 4000000 in
theorem k_Ref_pair_241 {p : Program} {l : Launch} {e : Env} {s : State} {m : MethodId} {args : Array Value} {below : List Frame} {meth : Method} {c : Code} {D : va_G} {a : Nat → Nat} {q : Nat → ClassId} {A : Nat → Prop} (hC : CX p s m args meth c prog_12_method_64_code 7 "OutwardTapeModel" (some .int)) (hA : ∀ x, s.heap.size ≤ x → A x) (hK : va_K D CLS (tR q) s) {g0 : Int32} {g1 : Nat → Int32} {g2 : Nat → Int64} {g3 : Nat → Int64} {g4 : Nat → Int32} {g5 : Int32} {g6 : Nat → Int32} {g7 : Int32} {g12 : Int32} {r0 : Int32 × (Nat → Int32) × Int32 × Int64 × Int64 × Int32 × Int32 × Int64 × Int32 × Int32 × Int64 × Int32} : ∀ (v2 : Int64) (v4 : Int64) (g8 : Nat → Int32) (g9 : Int32) (g10 : Int64) (g11 : Int64) (g13 : Int32) (g14 : Int32) (g15 : Int64) (g16 : Int32) (g17 : Int32) (g18 : Int64) (g19 : Int32) (H : Heap) (locs : List Loc) (ls : Array Slot), va_P D CLS (wR a q g0 g1 g2 g3 g4 g5 g6 g7 g8 g9 g10 g11 g12 g13 g14 g15 g16 g17 g18 g19) H → va_D A (wR a q g0 g1 g2 g3 g4 g5 g6 g7 g8 g9 g10 g11 g12 g13 g14 g15 g16 g17 g18 g19) → va_S A s.heap H locs → lv_has ls 7 [(0, .ref (a 0)), (2, .long v2), (4, .long v4)] → f_Ref_pair_241  v2 v4 g6 g7 g8 g9 g10 g11 g13 g14 g15 g16 g17 g18 g19 = some r0 → W p l e rm_Ref_pair s m args below meth c H locs 0 0 (MQ below (va_Qi (fun (r : Int32) (_ : Unit) => r = r0.1) (fun _ t => va_P D CLS (wR a q g0 g1 g2 g3 g4 g5 g6 g7 r0.2.1 r0.2.2.1 r0.2.2.2.1 r0.2.2.2.2.1 g12 r0.2.2.2.2.2.1 r0.2.2.2.2.2.2.1 r0.2.2.2.2.2.2.2.1 r0.2.2.2.2.2.2.2.2.1 r0.2.2.2.2.2.2.2.2.2.1 r0.2.2.2.2.2.2.2.2.2.2.1 r0.2.2.2.2.2.2.2.2.2.2.2) t.heap) A) args s 0 0 A) (F0 m 241 ls []) := by
  obtain ⟨hx, hb, hml, hown, hts, hr, hlocks⟩ := id hC
  intro v2 v4 g8 g9 g10 g11 g13 g14 g15 g16 g17 g18 g19 H locs ls hP hD hS hl h
  rw [f_Ref_pair_241] at h
  refine lv_aload_n hx hb (dt_at dt_Ref_pair 125 rfl) rfl (lv_at hl 0 rfl) ?_
  obtain ⟨r1, h_r1, h⟩ := ob_of h
  have hF := va_free (wc := dR a) (dD (ws' := dR a) hD rfl) hS hA [0, 1, 2, 3, 4, 5, 6] rfl
  have hd : va_D (fun _ => True) (dR a) := (dD (ws' := dR a) hD rfl).weaken (fun _ _ _ _ => trivial)
  refine va_callv (va_runV (As := []) (rest := []) ⟨hx, hb, hml, hown, hts⟩ (c_Ref_spaces l D a q hd H.size  g0 g1 g2 g3 g4 g5 g6 g7 g8 g9 g10 g11 g12 g13 g14 g15 g16 g17 g18 g19 r1 h_r1) (cwV 0 hts (gd_V (m_5 23 rfl rfl) (m_5 25 rfl rfl) (m_s 53 rfl rfl) (m_1 4 rfl rfl) (m_5 26 rfl rfl)) rfl rfl rfl (by decide +kernel) ⟨Nat.le_of_ble_eq_true rfl, Nat.le_of_ble_eq_true rfl⟩) ⟨fun a U g mk q => ⟨q.1, q.2.1, q.2.2.1, va_K.moved (u := U) (U := U.calling g mk a) (Vm.Alike.refl U.vm) q.2.2.2⟩, va_recv hK hP (ci := 0) (q0 := 0) rfl rfl, fun U hU hW => ⟨rfl, by rw [hU], by rw [hU]; exact hP, va_K.moved hW.alike hK⟩⟩ rfl rfl hl.1 rfl (lv_room (Nat.le_of_ble_eq_true rfl)) (dt_at dt_Ref_pair 126 rfl) ⟨Nat.le_of_ble_eq_true rfl, Nat.le_of_ble_eq_true rfl⟩) hS (fun x _ h9 => hF x h9) hF (fun uu t H locs ht hvm hw hB hz1 hk1 hS => ?_)
  rw [ht] at hB
  have hP : va_P D CLS (wR a q g0 g1 g2 g3 g4 g5 g6 g7 g8 g9 g10 g11 g12 r1 g14 g15 g16 g17 g18 g19) H := hB
  have hD : va_D A (wR a q g0 g1 g2 g3 g4 g5 g6 g7 g8 g9 g10 g11 g12 r1 g14 g15 g16 g17 g18 g19) := dD hD rfl
  refine lv_aload_n hx hb (dt_at dt_Ref_pair 127 rfl) rfl (lv_at hl 0 rfl) ?_
  refine lv_lload_n hx hb (dt_at dt_Ref_pair 128 rfl) rfl (lv_at hl 1 rfl) ?_
  refine lv_lload hx hb (dt_at dt_Ref_pair 129 rfl) (lv_at hl 2 rfl) ?_
  obtain ⟨r2, h_r2, h⟩ := ob_of h
  have hF := va_free (wc := dR a) (dD (ws' := dR a) hD rfl) hS hA [0, 1, 2, 3, 4, 5, 6] rfl
  have hd : va_D (fun _ => True) (dR a) := (dD (ws' := dR a) hD rfl).weaken (fun _ _ _ _ => trivial)
  refine va_callv (va_runV (As := [.long v2, .long v4]) (rest := []) ⟨hx, hb, hml, hown, hts⟩ (c_Ref_result l D a q hd H.size v2 v4 g0 g1 g2 g3 g4 g5 g6 g7 g8 g9 g10 g11 g12 r1 g14 g15 g16 g17 g18 g19 r2 h_r2) (cwV 2 hts (gd_V (m_4 104 rfl rfl) (m_4 106 rfl rfl) (m_s 26 rfl rfl) (m_1 4 rfl rfl) (m_4 107 rfl rfl)) rfl rfl rfl (by decide +kernel) ⟨Nat.le_of_ble_eq_true rfl, Nat.le_of_ble_eq_true rfl⟩) ⟨fun a U g mk q => ⟨q.1, q.2.1, q.2.2.1, va_K.moved (u := U) (U := U.calling g mk a) (Vm.Alike.refl U.vm) q.2.2.2⟩, va_recv hK hP (ci := 0) (q0 := 0) rfl rfl, fun U hU hW => ⟨rfl, by rw [hU], by rw [hU]; exact hP, va_K.moved hW.alike hK⟩⟩ rfl rfl hl.1 rfl (lv_room (Nat.le_of_ble_eq_true rfl)) (dt_at dt_Ref_pair 130 rfl) ⟨Nat.le_of_ble_eq_true rfl, Nat.le_of_ble_eq_true rfl⟩) hS (fun x _ h9 => hF x h9) hF (fun uu t H locs ht hvm hw hB hz1 hk1 hS => ?_)
  rw [ht] at hB
  have hP : va_P D CLS (wR a q g0 g1 g2 g3 g4 g5 g6 g7 g8 g9 r2.1 r2.2 g12 r1 g14 g15 g16 g17 g18 g19) H := hB
  have hD : va_D A (wR a q g0 g1 g2 g3 g4 g5 g6 g7 g8 g9 r2.1 r2.2 g12 r1 g14 g15 g16 g17 g18 g19) := dD hD rfl
  refine lv_aload_n hx hb (dt_at dt_Ref_pair 131 rfl) rfl (lv_at hl 0 rfl) ?_
  refine lv_bipush (v := 93) hx hb (dt_at dt_Ref_pair 132 rfl) (by decide) ?_
  obtain ⟨r3, h_r3, h⟩ := ob_of h
  have hF := va_free (wc := dR a) (dD (ws' := dR a) hD rfl) hS hA [0, 1, 2, 3, 4, 5, 6] rfl
  have hd : va_D (fun _ => True) (dR a) := (dD (ws' := dR a) hD rfl).weaken (fun _ _ _ _ => trivial)
  refine va_calli (va_runV (As := [.int (93 : Int32)]) (rest := []) ⟨hx, hb, hml, hown, hts⟩ (c_Ref_eat l D a q hd H.size (93 : Int32) g0 g1 g2 g3 g4 g5 g6 g7 g8 g9 r2.1 r2.2 g12 r1 g14 g15 g16 g17 g18 g19 r3 h_r3) (cwV 1 hts (gd_V (m_5 11 rfl rfl) (m_5 13 rfl rfl) (m_s 50 rfl rfl) (m_1 4 rfl rfl) (m_5 14 rfl rfl)) rfl rfl rfl (by decide +kernel) ⟨Nat.le_of_ble_eq_true rfl, Nat.le_of_ble_eq_true rfl⟩) ⟨fun a U g mk q => ⟨q.1, q.2.1, q.2.2.1, va_K.moved (u := U) (U := U.calling g mk a) (Vm.Alike.refl U.vm) q.2.2.2⟩, va_recv hK hP (ci := 0) (q0 := 0) rfl rfl, fun U hU hW => ⟨rfl, by rw [hU], by rw [hU]; exact hP, va_K.moved hW.alike hK⟩⟩ rfl rfl hl.1 rfl (lv_room (Nat.le_of_ble_eq_true rfl)) (dt_at dt_Ref_pair 133 rfl) ⟨Nat.le_of_ble_eq_true rfl, Nat.le_of_ble_eq_true rfl⟩) hS (fun x _ h9 => hF x h9) hF (fun u_r3 uu t H locs ht hvm hw hB hz1 hk1 hS => ?_)
  rw [ht] at hB
  subst hw
  have hP : va_P D CLS (wR a q g0 g1 g2 g3 g4 g5 g6 g7 g8 g9 r2.1 r2.2 g12 r3.2 g14 g15 g16 g17 g18 g19) H := hB
  have hD : va_D A (wR a q g0 g1 g2 g3 g4 g5 g6 g7 g8 g9 r2.1 r2.2 g12 r3.2 g14 g15 g16 g17 g18 g19) := dD hD rfl
  refine lv_if_eq (tgt := 265) hx hb (dt_at dt_Ref_pair 134 rfl) (by decide) (fun c4 => ?_) (fun c4 => ?_)
  · have h := if_p h c4
    refine lv_iconst (v := -1) hx hb (dt_at dt_Ref_pair 137 rfl) (by decide) ?_
    exact k_Ref_pair_266 hC hA hK   (-1 : Int32) g8 g9 r2.1 r2.2 r3.2 g14 g15 g16 g17 g18 g19 H locs ls hP hD hS (lv_sub hl [] rfl) h
  · have h := if_n h c4
    refine lv_iconst (v := 2) hx hb (dt_at dt_Ref_pair 135 rfl) (by decide) ?_
    refine lv_goto (tgt := 266) hx hb (dt_at dt_Ref_pair 136 rfl) (by decide) ?_
    exact k_Ref_pair_266 hC hA hK   (2 : Int32) g8 g9 r2.1 r2.2 r3.2 g14 g15 g16 g17 g18 g19 H locs ls hP hD hS (lv_sub hl [] rfl) h
set_option maxRecDepth 100000 in
set_option maxHeartbeats 4000000 in
theorem k_Ref_pair_222 {p : Program} {l : Launch} {e : Env} {s : State} {m : MethodId} {args : Array Value} {below : List Frame} {meth : Method} {c : Code} {D : va_G} {a : Nat → Nat} {q : Nat → ClassId} {A : Nat → Prop} (hC : CX p s m args meth c prog_12_method_64_code 7 "OutwardTapeModel" (some .int)) (hA : ∀ x, s.heap.size ≤ x → A x) (hK : va_K D CLS (tR q) s) {g0 : Int32} {g1 : Nat → Int32} {g2 : Nat → Int64} {g3 : Nat → Int64} {g4 : Nat → Int32} {g5 : Int32} {g6 : Nat → Int32} {g7 : Int32} {g12 : Int32} {r0 : Int32 × (Nat → Int32) × Int32 × Int64 × Int64 × Int32 × Int32 × Int64 × Int32 × Int32 × Int64 × Int32} : ∀ (v2 : Int64) (g8 : Nat → Int32) (g9 : Int32) (g10 : Int64) (g11 : Int64) (g13 : Int32) (g14 : Int32) (g15 : Int64) (g16 : Int32) (g17 : Int32) (g18 : Int64) (g19 : Int32) (H : Heap) (locs : List Loc) (ls : Array Slot), va_P D CLS (wR a q g0 g1 g2 g3 g4 g5 g6 g7 g8 g9 g10 g11 g12 g13 g14 g15 g16 g17 g18 g19) H → va_D A (wR a q g0 g1 g2 g3 g4 g5 g6 g7 g8 g9 g10 g11 g12 g13 g14 g15 g16 g17 g18 g19) → va_S A s.heap H locs → lv_has ls 7 [(0, .ref (a 0)), (2, .long v2)] → f_Ref_pair_222  v2 g6 g7 g8 g9 g10 g11 g13 g14 g15 g16 g17 g18 g19 = some r0 → W p l e rm_Ref_pair s m args below meth c H locs 0 0 (MQ below (va_Qi (fun (r : Int32) (_ : Unit) => r = r0.1) (fun _ t => va_P D CLS (wR a q g0 g1 g2 g3 g4 g5 g6 g7 r0.2.1 r0.2.2.1 r0.2.2.2.1 r0.2.2.2.2.1 g12 r0.2.2.2.2.2.1 r0.2.2.2.2.2.2.1 r0.2.2.2.2.2.2.2.1 r0.2.2.2.2.2.2.2.2.1 r0.2.2.2.2.2.2.2.2.2.1 r0.2.2.2.2.2.2.2.2.2.2.1 r0.2.2.2.2.2.2.2.2.2.2.2) t.heap) A) args s 0 0 A) (F0 m 222 ls []) := by
  obtain ⟨hx, hb, hml, hown, hts, hr, hlocks⟩ := id hC
  intro v2 g8 g9 g10 g11 g13 g14 g15 g16 g17 g18 g19 H locs ls hP hD hS hl h
  rw [f_Ref_pair_222] at h
  refine lv_aload_n hx hb (dt_at dt_Ref_pair 115 rfl) rfl (lv_at hl 0 rfl) ?_
  refine lv_aload_n hx hb (dt_at dt_Ref_pair 116 rfl) rfl (lv_at hl 0 rfl) ?_
  refine va_get (D := D) (ci := 0) (v := .int g14) (C := "OutwardTapeModel") (T := T_Ref) (N := 20) hx hb hts in_Ref hown hK hP 0 rfl rfl 14 (by decide) (hts (Cond.fieldLink "OutwardTapeModel" 244 "OutwardTapeModel" "minus" "Z") (m_4 13 rfl rfl)) (fun _ h9 => h9) rfl (dt_at dt_Ref_pair 117 rfl) ?_
  refine lv_aload_n hx hb (dt_at dt_Ref_pair 118 rfl) rfl (lv_at hl 0 rfl) ?_
  refine va_get (D := D) (ci := 0) (v := .long g15) (C := "OutwardTapeModel") (T := T_Ref) (N := 20) hx hb hts in_Ref hown hK hP 0 rfl rfl 15 (by decide) (hts (Cond.fieldLink "OutwardTapeModel" 247 "OutwardTapeModel" "digits" "J") (m_4 14 rfl rfl)) (fun _ h9 => h9) rfl (dt_at dt_Ref_pair 119 rfl) ?_
  refine lv_aload_n hx hb (dt_at dt_Ref_pair 120 rfl) rfl (lv_at hl 0 rfl) ?_
  refine va_get (D := D) (ci := 0) (v := .int g16) (C := "OutwardTapeModel") (T := T_Ref) (N := 20) hx hb hts in_Ref hown hK hP 0 rfl rfl 16 (by decide) (hts (Cond.fieldLink "OutwardTapeModel" 255 "OutwardTapeModel" "power" "I") (m_4 15 rfl rfl)) (fun _ h9 => h9) rfl (dt_at dt_Ref_pair 121 rfl) ?_
  refine lv_iconst (v := 1) hx hb (dt_at dt_Ref_pair 122 rfl) (by decide) ?_
  obtain ⟨r1, h_r1, h⟩ := ob_of h
  have hF := va_free (wc := dR a) (dD (ws' := dR a) hD rfl) hS hA [0, 1, 2, 3, 4, 5, 6] rfl
  have hd : va_D (fun _ => True) (dR a) := (dD (ws' := dR a) hD rfl).weaken (fun _ _ _ _ => trivial)
  refine va_calll (va_runV (As := [.int g14, .long g15, .int g16, .int (1 : Int32)]) (rest := []) ⟨hx, hb, hml, hown, hts⟩ (c_Ref_decimal l D a q hd H.size g14 g15 g16 (1 : Int32) g0 g1 g2 g3 g4 g5 g6 g7 g8 g9 g10 g11 g12 g13 g14 g15 g16 g17 g18 g19 r1 h_r1) (cwV 4 hts (gd_V (m_5 65 rfl rfl) (m_5 67 rfl rfl) (m_s 60 rfl rfl) (m_1 4 rfl rfl) (m_5 68 rfl rfl)) rfl rfl rfl (by decide +kernel) ⟨Nat.le_of_ble_eq_true rfl, Nat.le_of_ble_eq_true rfl⟩) ⟨fun a U g mk q => ⟨q.1, q.2.1, q.2.2.1, va_K.moved (u := U) (U := U.calling g mk a) (Vm.Alike.refl U.vm) q.2.2.2⟩, va_recv hK hP (ci := 0) (q0 := 0) rfl rfl, fun U hU hW => ⟨rfl, by rw [hU], by rw [hU]; exact hP, va_K.moved hW.alike hK⟩⟩ rfl rfl hl.1 rfl (lv_room (Nat.le_of_ble_eq_true rfl)) (dt_at dt_Ref_pair 123 rfl) ⟨Nat.le_of_ble_eq_true rfl, Nat.le_of_ble_eq_true rfl⟩) hS (fun x _ h9 => hF x h9) hF (fun u_r1 uu t H locs ht hvm hw hB hz1 hk1 hS => ?_)
  rw [ht] at hB
  subst hw
  have hP : va_P D CLS (wR a q g0 g1 g2 g3 g4 g5 g6 g7 r1.2.1 r1.2.2 g10 g11 g12 g13 g14 g15 g16 g17 g18 g19) H := hB
  have hD : va_D A (wR a q g0 g1 g2 g3 g4 g5 g6 g7 r1.2.1 r1.2.2 g10 g11 g12 g13 g14 g15 g16 g17 g18 g19) := dD hD rfl
  obtain ⟨t2, e_t2, h⟩ := ol_of h
  refine lv_topl (fun u_t2 q_t2 => ?_)
  obtain rfl : t2 = u_t2 := e_t2.trans q_t2.symm
  refine lv_lstore (lv' := [(4, .long t2), (0, .ref (a 0)), (2, .long v2)]) hx hb (dt_at dt_Ref_pair 124 rfl) hl (by decide) rfl (fun ls hl => ?_)
  exact k_Ref_pair_241 hC hA hK   v2 t2 r1.2.1 r1.2.2 g10 g11 g13 g14 g15 g16 g17 g18 g19 H locs ls hP hD hS (lv_sub hl [1, 2, 0] rfl) h
set_option maxRecDepth 100000 in
set_option maxHeartbeats 4000000 in
theorem k_Ref_pair_192 {p : Program} {l : Launch} {e : Env} {s : State} {m : MethodId} {args : Array Value} {below : List Frame} {meth : Method} {c : Code} {D : va_G} {a : Nat → Nat} {q : Nat → ClassId} {A : Nat → Prop} (hC : CX p s m args meth c prog_12_method_64_code 7 "OutwardTapeModel" (some .int)) (hA : ∀ x, s.heap.size ≤ x → A x) (hK : va_K D CLS (tR q) s) {g0 : Int32} {g1 : Nat → Int32} {g2 : Nat → Int64} {g3 : Nat → Int64} {g4 : Nat → Int32} {g5 : Int32} {g6 : Nat → Int32} {g7 : Int32} {g12 : Int32} {r0 : Int32 × (Nat → Int32) × Int32 × Int64 × Int64 × Int32 × Int32 × Int64 × Int32 × Int32 × Int64 × Int32} : ∀ (v1 : Int32) (v2 : Int64) (v4 : Int64) (v6 : Int32) (g8 : Nat → Int32) (g9 : Int32) (g10 : Int64) (g11 : Int64) (g13 : Int32) (g14 : Int32) (g15 : Int64) (g16 : Int32) (g17 : Int32) (g18 : Int64) (g19 : Int32) (H : Heap) (locs : List Loc) (ls : Array Slot), va_P D CLS (wR a q g0 g1 g2 g3 g4 g5 g6 g7 g8 g9 g10 g11 g12 g13 g14 g15 g16 g17 g18 g19) H → va_D A (wR a q g0 g1 g2 g3 g4 g5 g6 g7 g8 g9 g10 g11 g12 g13 g14 g15 g16 g17 g18 g19) → va_S A s.heap H locs → lv_has ls 7 [(0, .ref (a 0)), (1, .int v1), (2, .long v2), (4, .long v4), (6, .int v6)] → f_Ref_pair_192  v1 v2 v4 v6 g6 g7 g8 g9 g10 g11 g13 g14 g15 g16 g17 g18 g19 = some r0 → W p l e rm_Ref_pair s m args below meth c H locs 0 0 (MQ below (va_Qi (fun (r : Int32) (_ : Unit) => r = r0.1) (fun _ t => va_P D CLS (wR a q g0 g1 g2 g3 g4 g5 g6 g7 r0.2.1 r0.2.2.1 r0.2.2.2.1 r0.2.2.2.2.1 g12 r0.2.2.2.2.2.1 r0.2.2.2.2.2.2.1 r0.2.2.2.2.2.2.2.1 r0.2.2.2.2.2.2.2.2.1 r0.2.2.2.2.2.2.2.2.2.1 r0.2.2.2.2.2.2.2.2.2.2.1 r0.2.2.2.2.2.2.2.2.2.2.2) t.heap) A) args s 0 0 A) (F0 m 192 ls []) := by
  obtain ⟨hx, hb, hml, hown, hts, hr, hlocks⟩ := id hC
  intro v1 v2 v4 v6 g8 g9 g10 g11 g13 g14 g15 g16 g17 g18 g19 H locs ls hP hD hS hl h
  rw [f_Ref_pair_192] at h
  refine lv_iload hx hb (dt_at dt_Ref_pair 100 rfl) (lv_at hl 4 rfl) ?_
  refine lv_if_ne (tgt := 241) hx hb (dt_at dt_Ref_pair 101 rfl) (by decide) (fun c1 => ?_) (fun c1 => ?_)
  · have h := if_n h c1
    exact k_Ref_pair_241 hC hA hK   v2 v4 g8 g9 g10 g11 g13 g14 g15 g16 g17 g18 g19 H locs ls hP hD hS (lv_sub hl [0, 2, 3] rfl) h
  · have h := if_p h c1
    refine lv_iload_n hx hb (dt_at dt_Ref_pair 102 rfl) rfl (lv_at hl 1 rfl) ?_
    refine lv_if_ne (tgt := 222) hx hb (dt_at dt_Ref_pair 103 rfl) (by decide) (fun c2 => ?_) (fun c2 => ?_)
    · have h := if_n h c2
      exact k_Ref_pair_222 hC hA hK   v2 g8 g9 g10 g11 g13 g14 g15 g16 g17 g18 g19 H locs ls hP hD hS (lv_sub hl [0, 2] rfl) h
    · have h := if_p h c2
      refine lv_aload_n hx hb (dt_at dt_Ref_pair 104 rfl) rfl (lv_at hl 0 rfl) ?_
      refine lv_aload_n hx hb (dt_at dt_Ref_pair 105 rfl) rfl (lv_at hl 0 rfl) ?_
      refine va_get (D := D) (ci := 0) (v := .int g14) (C := "OutwardTapeModel") (T := T_Ref) (N := 20) hx hb hts in_Ref hown hK hP 0 rfl rfl 14 (by decide) (hts (Cond.fieldLink "OutwardTapeModel" 244 "OutwardTapeModel" "minus" "Z") (m_4 13 rfl rfl)) (fun _ h9 => h9) rfl (dt_at dt_Ref_pair 106 rfl) ?_
      refine lv_aload_n hx hb (dt_at dt_Ref_pair 107 rfl) rfl (lv_at hl 0 rfl) ?_
      refine va_get (D := D) (ci := 0) (v := .long g15) (C := "OutwardTapeModel") (T := T_Ref) (N := 20) hx hb hts in_Ref hown hK hP 0 rfl rfl 15 (by decide) (hts (Cond.fieldLink "OutwardTapeModel" 247 "OutwardTapeModel" "digits" "J") (m_4 14 rfl rfl)) (fun _ h9 => h9) rfl (dt_at dt_Ref_pair 108 rfl) ?_
      refine lv_aload_n hx hb (dt_at dt_Ref_pair 109 rfl) rfl (lv_at hl 0 rfl) ?_
      refine va_get (D := D) (ci := 0) (v := .int g16) (C := "OutwardTapeModel") (T := T_Ref) (N := 20) hx hb hts in_Ref hown hK hP 0 rfl rfl 16 (by decide) (hts (Cond.fieldLink "OutwardTapeModel" 255 "OutwardTapeModel" "power" "I") (m_4 15 rfl rfl)) (fun _ h9 => h9) rfl (dt_at dt_Ref_pair 110 rfl) ?_
      obtain ⟨r3, h_r3, h⟩ := ob_of h
      have hF := va_free (wc := dR a) (dD (ws' := dR a) hD rfl) hS hA [0, 1, 2, 3, 4, 5, 6] rfl
      have hd : va_D (fun _ => True) (dR a) := (dD (ws' := dR a) hD rfl).weaken (fun _ _ _ _ => trivial)
      refine va_calli (va_runV (As := [.int g14, .long g15, .int g16]) (rest := []) ⟨hx, hb, hml, hown, hts⟩ (c_Ref_inOrder l D a q hd H.size g14 g15 g16 g0 g1 g2 g3 g4 g5 g6 g7 g8 g9 g10 g11 g12 g13 g14 g15 g16 g17 g18 g19 r3 h_r3) (cwV 3 hts (gd_V (m_5 77 rfl rfl) (m_5 79 rfl rfl) (m_s 63 rfl rfl) (m_1 4 rfl rfl) (m_5 80 rfl rfl)) rfl rfl rfl (by decide +kernel) ⟨Nat.le_of_ble_eq_true rfl, Nat.le_of_ble_eq_true rfl⟩) ⟨fun a U g mk q => ⟨q.1, q.2.1, q.2.2.1, va_K.moved (u := U) (U := U.calling g mk a) (Vm.Alike.refl U.vm) q.2.2.2⟩, va_recv hK hP (ci := 0) (q0 := 0) rfl rfl, fun U hU hW => ⟨rfl, by rw [hU], by rw [hU]; exact hP, va_K.moved hW.alike hK⟩⟩ rfl rfl hl.1 rfl (lv_room (Nat.le_of_ble_eq_true rfl)) (dt_at dt_Ref_pair 111 rfl) ⟨Nat.le_of_ble_eq_true rfl, Nat.le_of_ble_eq_true rfl⟩) hS (fun x _ h9 => hF x h9) hF (fun u_r3 uu t H locs ht hvm hw hB hz1 hk1 hS => ?_)
      rw [ht] at hB
      subst hw
      have hP : va_P D CLS (wR a q g0 g1 g2 g3 g4 g5 g6 g7 r3.2 g9 g10 g11 g12 g13 g14 g15 g16 g17 g18 g19) H := hB
      have hD : va_D A (wR a q g0 g1 g2 g3 g4 g5 g6 g7 r3.2 g9 g10 g11 g12 g13 g14 g15 g16 g17 g18 g19) := dD hD rfl
      refine lv_if_ne (tgt := 222) hx hb (dt_at dt_Ref_pair 112 rfl) (by decide) (fun c4 => ?_) (fun c4 => ?_)
      · have h := if_n h c4
        exact k_Ref_pair_222 hC hA hK   v2 r3.2 g9 g10 g11 g13 g14 g15 g16 g17 g18 g19 H locs ls hP hD hS (lv_sub hl [0, 2] rfl) h
      · have h := if_p h c4
        refine lv_iconst (v := -1) hx hb (dt_at dt_Ref_pair 113 rfl) (by decide) ?_
        obtain rfl := os_of h
        exact W.iret (v := (-1 : Int32)) hx hb hr (fun t ht hW => ⟨⟨_, (), rfl, rfl, (hPt hP ht)⟩, hS.F ht⟩) hS.2.2 (dt_at dt_Ref_pair 114 rfl)
set_option maxRecDepth 100000 in
set_option maxHeartbeats 4000000 in
theorem k_Ref_pair_190 {p : Program} {l : Launch} {e : Env} {s : State} {m : MethodId} {args : Array Value} {below : List Frame} {meth : Method} {c : Code} {D : va_G} {a : Nat → Nat} {q : Nat → ClassId} {A : Nat → Prop} (hC : CX p s m args meth c prog_12_method_64_code 7 "OutwardTapeModel" (some .int)) (hA : ∀ x, s.heap.size ≤ x → A x) (hK : va_K D CLS (tR q) s) {g0 : Int32} {g1 : Nat → Int32} {g2 : Nat → Int64} {g3 : Nat → Int64} {g4 : Nat → Int32} {g5 : Int32} {g6 : Nat → Int32} {g7 : Int32} {g12 : Int32} {r0 : Int32 × (Nat → Int32) × Int32 × Int64 × Int64 × Int32 × Int32 × Int64 × Int32 × Int32 × Int64 × Int32} : ∀  (g8 : Nat → Int32) (g9 : Int32) (g10 : Int64) (g11 : Int64) (g13 : Int32) (g14 : Int32) (g15 : Int64) (g16 : Int32) (g17 : Int32) (g18 : Int64) (g19 : Int32) (H : Heap) (locs : List Loc) (ls : Array Slot), va_P D CLS (wR a q g0 g1 g2 g3 g4 g5 g6 g7 g8 g9 g10 g11 g12 g13 g14 g15 g16 g17 g18 g19) H → va_D A (wR a q g0 g1 g2 g3 g4 g5 g6 g7 g8 g9 g10 g11 g12 g13 g14 g15 g16 g17 g18 g19) → va_S A s.heap H locs → lv_has ls 7 [] → f_Ref_pair_190  g6 g7 g8 g9 g10 g11 g13 g14 g15 g16 g17 g18 g19 = some r0 → W p l e rm_Ref_pair s m args below meth c H locs 0 0 (MQ below (va_Qi (fun (r : Int32) (_ : Unit) => r = r0.1) (fun _ t => va_P D CLS (wR a q g0 g1 g2 g3 g4 g5 g6 g7 r0.2.1 r0.2.2.1 r0.2.2.2.1 r0.2.2.2.2.1 g12 r0.2.2.2.2.2.1 r0.2.2.2.2.2.2.1 r0.2.2.2.2.2.2.2.1 r0.2.2.2.2.2.2.2.2.1 r0.2.2.2.2.2.2.2.2.2.1 r0.2.2.2.2.2.2.2.2.2.2.1 r0.2.2.2.2.2.2.2.2.2.2.2) t.heap) A) args s 0 0 A) (F0 m 190 ls []) := by
  obtain ⟨hx, hb, hml, hown, hts, hr, hlocks⟩ := id hC
  intro g8 g9 g10 g11 g13 g14 g15 g16 g17 g18 g19 H locs ls hP hD hS hl h
  rw [f_Ref_pair_190] at h
  refine lv_iconst (v := -1) hx hb (dt_at dt_Ref_pair 98 rfl) (by decide) ?_
  obtain rfl := os_of h
  exact W.iret (v := (-1 : Int32)) hx hb hr (fun t ht hW => ⟨⟨_, (), rfl, rfl, (hPt hP ht)⟩, hS.F ht⟩) hS.2.2 (dt_at dt_Ref_pair 99 rfl)
set_option maxRecDepth 100000 in
set_option maxHeartbeats 4000000 in
theorem k_Ref_pair_134 {p : Program} {l : Launch} {e : Env} {s : State} {m : MethodId} {args : Array Value} {below : List Frame} {meth : Method} {c : Code} {D : va_G} {a : Nat → Nat} {q : Nat → ClassId} {A : Nat → Prop} (hC : CX p s m args meth c prog_12_method_64_code 7 "OutwardTapeModel" (some .int)) (hA : ∀ x, s.heap.size ≤ x → A x) (hK : va_K D CLS (tR q) s) {g0 : Int32} {g1 : Nat → Int32} {g2 : Nat → Int64} {g3 : Nat → Int64} {g4 : Nat → Int32} {g5 : Int32} {g6 : Nat → Int32} {g7 : Int32} {g12 : Int32} {r0 : Int32 × (Nat → Int32) × Int32 × Int64 × Int64 × Int32 × Int32 × Int64 × Int32 × Int32 × Int64 × Int32} : ∀ (v1 : Int32) (v2 : Int64) (g8 : Nat → Int32) (g9 : Int32) (g10 : Int64) (g11 : Int64) (g13 : Int32) (g14 : Int32) (g15 : Int64) (g16 : Int32) (g17 : Int32) (g18 : Int64) (g19 : Int32) (H : Heap) (locs : List Loc) (ls : Array Slot), va_P D CLS (wR a q g0 g1 g2 g3 g4 g5 g6 g7 g8 g9 g10 g11 g12 g13 g14 g15 g16 g17 g18 g19) H → va_D A (wR a q g0 g1 g2 g3 g4 g5 g6 g7 g8 g9 g10 g11 g12 g13 g14 g15 g16 g17 g18 g19) → va_S A s.heap H locs → lv_has ls 7 [(0, .ref (a 0)), (1, .int v1), (2, .long v2)] → f_Ref_pair_134  v1 v2 g6 g7 g8 g9 g10 g11 g13 g14 g15 g16 g17 g18 g19 = some r0 → W p l e rm_Ref_pair s m args below meth c H locs 0 0 (MQ below (va_Qi (fun (r : Int32) (_ : Unit) => r = r0.1) (fun _ t => va_P D CLS (wR a q g0 g1 g2 g3 g4 g5 g6 g7 r0.2.1 r0.2.2.1 r0.2.2.2.1 r0.2.2.2.2.1 g12 r0.2.2.2.2.2.1 r0.2.2.2.2.2.2.1 r0.2.2.2.2.2.2.2.1 r0.2.2.2.2.2.2.2.2.1 r0.2.2.2.2.2.2.2.2.2.1 r0.2.2.2.2.2.2.2.2.2.2.1 r0.2.2.2.2.2.2.2.2.2.2.2) t.heap) A) args s 0 0 A) (F0 m 134 ls []) := by
  obtain ⟨hx, hb, hml, hown, hts, hr, hlocks⟩ := id hC
  intro v1 v2 g8 g9 g10 g11 g13 g14 g15 g16 g17 g18 g19 H locs ls hP hD hS hl h
  rw [f_Ref_pair_134] at h
  refine lv_aload_n hx hb (dt_at dt_Ref_pair 72 rfl) rfl (lv_at hl 0 rfl) ?_
  refine lv_bipush (v := 44) hx hb (dt_at dt_Ref_pair 73 rfl) (by decide) ?_
  obtain ⟨r1, h_r1, h⟩ := ob_of h
  have hF := va_free (wc := dR a) (dD (ws' := dR a) hD rfl) hS hA [0, 1, 2, 3, 4, 5, 6] rfl
  have hd : va_D (fun _ => True) (dR a) := (dD (ws' := dR a) hD rfl).weaken (fun _ _ _ _ => trivial)
  refine va_calli (va_runV (As := [.int (44 : Int32)]) (rest := []) ⟨hx, hb, hml, hown, hts⟩ (c_Ref_eat l D a q hd H.size (44 : Int32) g0 g1 g2 g3 g4 g5 g6 g7 g8 g9 g10 g11 g12 g13 g14 g15 g16 g17 g18 g19 r1 h_r1) (cwV 1 hts (gd_V (m_5 11 rfl rfl) (m_5 13 rfl rfl) (m_s 50 rfl rfl) (m_1 4 rfl rfl) (m_5 14 rfl rfl)) rfl rfl rfl (by decide +kernel) ⟨Nat.le_of_ble_eq_true rfl, Nat.le_of_ble_eq_true rfl⟩) ⟨fun a U g mk q => ⟨q.1, q.2.1, q.2.2.1, va_K.moved (u := U) (U := U.calling g mk a) (Vm.Alike.refl U.vm) q.2.2.2⟩, va_recv hK hP (ci := 0) (q0 := 0) rfl rfl, fun U hU hW => ⟨rfl, by rw [hU], by rw [hU]; exact hP, va_K.moved hW.alike hK⟩⟩ rfl rfl hl.1 rfl (lv_room (Nat.le_of_ble_eq_true rfl)) (dt_at dt_Ref_pair 74 rfl) ⟨Nat.le_of_ble_eq_true rfl, Nat.le_of_ble_eq_true rfl⟩) hS (fun x _ h9 => hF x h9) hF (fun u_r1 uu t H locs ht hvm hw hB hz1 hk1 hS => ?_)
  rw [ht] at hB
  subst hw
  have hP : va_P D CLS (wR a q g0 g1 g2 g3 g4 g5 g6 g7 g8 g9 g10 g11 g12 r1.2 g14 g15 g16 g17 g18 g19) H := hB
  have hD : va_D A (wR a q g0 g1 g2 g3 g4 g5 g6 g7 g8 g9 g10 g11 g12 r1.2 g14 g15 g16 g17 g18 g19) := dD hD rfl
  refine lv_if_ne (tgt := 145) hx hb (dt_at dt_Ref_pair 75 rfl) (by decide) (fun c2 => ?_) (fun c2 => ?_)
  · have h := if_n h c2
    refine lv_aload_n hx hb (dt_at dt_Ref_pair 78 rfl) rfl (lv_at hl 0 rfl) ?_
    obtain ⟨r3, h_r3, h⟩ := ob_of h
    have hF := va_free (wc := dR a) (dD (ws' := dR a) hD rfl) hS hA [0, 1, 2, 3, 4, 5, 6] rfl
    have hd : va_D (fun _ => True) (dR a) := (dD (ws' := dR a) hD rfl).weaken (fun _ _ _ _ => trivial)
    refine va_callv (va_runV (As := []) (rest := []) ⟨hx, hb, hml, hown, hts⟩ (c_Ref_spaces l D a q hd H.size  g0 g1 g2 g3 g4 g5 g6 g7 g8 g9 g10 g11 g12 r1.2 g14 g15 g16 g17 g18 g19 r3 h_r3) (cwV 0 hts (gd_V (m_5 23 rfl rfl) (m_5 25 rfl rfl) (m_s 53 rfl rfl) (m_1 4 rfl rfl) (m_5 26 rfl rfl)) rfl rfl rfl (by decide +kernel) ⟨Nat.le_of_ble_eq_true rfl, Nat.le_of_ble_eq_true rfl⟩) ⟨fun a U g mk q => ⟨q.1, q.2.1, q.2.2.1, va_K.moved (u := U) (U := U.calling g mk a) (Vm.Alike.refl U.vm) q.2.2.2⟩, va_recv hK hP (ci := 0) (q0 := 0) rfl rfl, fun U hU hW => ⟨rfl, by rw [hU], by rw [hU]; exact hP, va_K.moved hW.alike hK⟩⟩ rfl rfl hl.1 rfl (lv_room (Nat.le_of_ble_eq_true rfl)) (dt_at dt_Ref_pair 79 rfl) ⟨Nat.le_of_ble_eq_true rfl, Nat.le_of_ble_eq_true rfl⟩) hS (fun x _ h9 => hF x h9) hF (fun uu t H locs ht hvm hw hB hz1 hk1 hS => ?_)
    rw [ht] at hB
    have hP : va_P D CLS (wR a q g0 g1 g2 g3 g4 g5 g6 g7 g8 g9 g10 g11 g12 r3 g14 g15 g16 g17 g18 g19) H := hB
    have hD : va_D A (wR a q g0 g1 g2 g3 g4 g5 g6 g7 g8 g9 g10 g11 g12 r3 g14 g15 g16 g17 g18 g19) := dD hD rfl
    refine lv_ldc2 (v := 9218868437227405312) hx hb hown (hts (Cond.constantLong "OutwardTapeModel" 69 (9218868437227405312)) (m_4 70 rfl rfl)) (dt_at dt_Ref_pair 80 rfl) ?_
    refine lv_lstore (lv' := [(4, .long (9218868437227405312 : Int64)), (0, .ref (a 0)), (1, .int v1), (2, .long v2)]) hx hb (dt_at dt_Ref_pair 81 rfl) hl (by decide) rfl (fun ls hl => ?_)
    refine lv_aload_n hx hb (dt_at dt_Ref_pair 82 rfl) rfl (lv_at hl 1 rfl) ?_
    refine lv_aload_n hx hb (dt_at dt_Ref_pair 83 rfl) rfl (lv_at hl 1 rfl) ?_
    refine va_get (D := D) (ci := 0) (v := .int r3) (C := "OutwardTapeModel") (T := T_Ref) (N := 20) hx hb hts in_Ref hown hK hP 0 rfl rfl 13 (by decide) (hts (Cond.fieldLink "OutwardTapeModel" 221 "OutwardTapeModel" "place" "I") (m_4 12 rfl rfl)) (fun _ h9 => h9) rfl (dt_at dt_Ref_pair 84 rfl) ?_
    obtain ⟨r4, h_r4, h⟩ := ob_of h
    have hF := va_free (wc := dR a) (dD (ws' := dR a) hD rfl) hS hA [0, 1, 2, 3, 4, 5, 6] rfl
    have hd : va_D (fun _ => True) (dR a) := (dD (ws' := dR a) hD rfl).weaken (fun _ _ _ _ => trivial)
    refine va_calli (va_runV (As := [.int r3]) (rest := []) ⟨hx, hb, hml, hown, hts⟩ (c_Ref_seen l D a q hd H.size r3 g0 g1 g2 g3 g4 g5 g6 g7 g8 g9 g10 g11 g12 r3 g14 g15 g16 g17 g18 g19 r4 h_r4) (cwV 1 hts (gd_V (m_5 15 rfl rfl) (m_5 17 rfl rfl) (m_s 51 rfl rfl) (m_1 4 rfl rfl) (m_5 18 rfl rfl)) rfl rfl rfl (by decide +kernel) ⟨Nat.le_of_ble_eq_true rfl, Nat.le_of_ble_eq_true rfl⟩) ⟨fun a U g mk q => ⟨q.1, q.2.1, q.2.2.1, va_K.moved (u := U) (U := U.calling g mk a) (Vm.Alike.refl U.vm) q.2.2.2⟩, va_recv hK hP (ci := 0) (q0 := 0) rfl rfl, fun U hU hW => ⟨rfl, by rw [hU], by rw [hU]; exact hP, va_K.moved hW.alike hK⟩⟩ rfl rfl hl.1 rfl (lv_room (Nat.le_of_ble_eq_true rfl)) (dt_at dt_Ref_pair 85 rfl) ⟨Nat.le_of_ble_eq_true rfl, Nat.le_of_ble_eq_true rfl⟩) hS (fun x _ h9 => hF x h9) hF (fun u_r4 uu t H locs ht hvm hw hB hz1 hk1 hS => ?_)
    rw [ht] at hB
    obtain rfl : r4 = u_r4 := hw.symm
    have hP : va_P D CLS (wR a q g0 g1 g2 g3 g4 g5 g6 g7 g8 g9 g10 g11 g12 r3 g14 g15 g16 g17 g18 g19) H := hB
    have hD : va_D A (wR a q g0 g1 g2 g3 g4 g5 g6 g7 g8 g9 g10 g11 g12 r3 g14 g15 g16 g17 g18 g19) := dD hD rfl
    refine lv_bipush (v := 93) hx hb (dt_at dt_Ref_pair 86 rfl) (by decide) ?_
    refine lv_icmp_eq (tgt := 241) hx hb (dt_at dt_Ref_pair 87 rfl) (by decide) (fun c5 => ?_) (fun c5 => ?_)
    · have h := if_p h c5
      exact k_Ref_pair_241 hC hA hK   v2 (9218868437227405312 : Int64) g8 g9 g10 g11 r3 g14 g15 g16 g17 g18 g19 H locs ls hP hD hS (lv_sub hl [1, 3, 0] rfl) h
    · have h := if_n h c5
      refine lv_aload_n hx hb (dt_at dt_Ref_pair 88 rfl) rfl (lv_at hl 1 rfl) ?_
      obtain ⟨r6, h_r6, h⟩ := ob_of h
      have hF := va_free (wc := dR a) (dD (ws' := dR a) hD rfl) hS hA [0, 1, 2, 3, 4, 5, 6] rfl
      have hd : va_D (fun _ => True) (dR a) := (dD (ws' := dR a) hD rfl).weaken (fun _ _ _ _ => trivial)
      refine va_calli (va_runV (As := []) (rest := []) ⟨hx, hb, hml, hown, hts⟩ (c_Ref_infinity l D a q hd H.size  g0 g1 g2 g3 g4 g5 g6 g7 g8 g9 g10 g11 g12 r3 g14 g15 g16 g17 g18 g19 r6 h_r6) (cwV 0 hts (gd_V (m_5 52 rfl rfl) (m_5 54 rfl rfl) (m_s 57 rfl rfl) (m_1 4 rfl rfl) (m_5 55 rfl rfl)) rfl rfl rfl (by decide +kernel) ⟨Nat.le_of_ble_eq_true rfl, Nat.le_of_ble_eq_true rfl⟩) ⟨fun a U g mk q => ⟨q.1, q.2.1, q.2.2.1, va_K.moved (u := U) (U := U.calling g mk a) (Vm.Alike.refl U.vm) q.2.2.2⟩, va_recv hK hP (ci := 0) (q0 := 0) rfl rfl, fun U hU hW => ⟨rfl, by rw [hU], by rw [hU]; exact hP, va_K.moved hW.alike hK⟩⟩ rfl rfl hl.1 rfl (lv_room (Nat.le_of_ble_eq_true rfl)) (dt_at dt_Ref_pair 89 rfl) ⟨Nat.le_of_ble_eq_true rfl, Nat.le_of_ble_eq_true rfl⟩) hS (fun x _ h9 => hF x h9) hF (fun u_r6 uu t H locs ht hvm hw hB hz1 hk1 hS => ?_)
      rw [ht] at hB
      subst hw
      have hP : va_P D CLS (wR a q g0 g1 g2 g3 g4 g5 g6 g7 g8 g9 g10 g11 g12 r6.2 g14 g15 g16 g17 g18 g19) H := hB
      have hD : va_D A (wR a q g0 g1 g2 g3 g4 g5 g6 g7 g8 g9 g10 g11 g12 r6.2 g14 g15 g16 g17 g18 g19) := dD hD rfl
      obtain ⟨t7, e_t7, h⟩ := ol_of h
      refine lv_topi (fun u_t7 q_t7 => ?_)
      obtain rfl : t7 = u_t7 := e_t7.trans q_t7.symm
      refine lv_istore (lv' := [(6, .int t7), (4, .long (9218868437227405312 : Int64)), (0, .ref (a 0)), (1, .int v1), (2, .long v2)]) hx hb (dt_at dt_Ref_pair 90 rfl) hl (by decide) rfl (fun ls hl => ?_)
      refine lv_iload hx hb (dt_at dt_Ref_pair 91 rfl) (lv_at hl 0 rfl) ?_
      refine lv_if_lt (tgt := 190) hx hb (dt_at dt_Ref_pair 92 rfl) (by decide) (fun c8 => ?_) (fun c8 => ?_)
      · have h := if_p h c8
        exact k_Ref_pair_190 hC hA hK   g8 g9 g10 g11 r6.2 g14 g15 g16 g17 g18 g19 H locs ls hP hD hS (lv_sub hl [] rfl) h
      · have h := if_n h c8
        refine lv_iload hx hb (dt_at dt_Ref_pair 93 rfl) (lv_at hl 0 rfl) ?_
        refine lv_if_ne (tgt := 192) hx hb (dt_at dt_Ref_pair 94 rfl) (by decide) (fun c9 => ?_) (fun c9 => ?_)
        · have h := if_n h c9
          exact k_Ref_pair_192 hC hA hK   v1 v2 (9218868437227405312 : Int64) t7 g8 g9 g10 g11 r6.2 g14 g15 g16 g17 g18 g19 H locs ls hP hD hS (lv_sub hl [2, 3, 4, 1, 0] rfl) h
        · have h := if_p h c9
          refine lv_aload_n hx hb (dt_at dt_Ref_pair 95 rfl) rfl (lv_at hl 2 rfl) ?_
          obtain ⟨r10, h_r10, h⟩ := ob_of h
          have hF := va_free (wc := dR a) (dD (ws' := dR a) hD rfl) hS hA [0, 1, 2, 3, 4, 5, 6] rfl
          have hd : va_D (fun _ => True) (dR a) := (dD (ws' := dR a) hD rfl).weaken (fun _ _ _ _ => trivial)
          refine va_calli (va_runV (As := []) (rest := []) ⟨hx, hb, hml, hown, hts⟩ (c_Ref_decimalHere l D a q hd H.size  g0 g1 g2 g3 g4 g5 g6 g7 g8 g9 g10 g11 g12 r6.2 g14 g15 g16 g17 g18 g19 r10 h_r10) (cwV 0 hts (gd_V (m_5 56 rfl rfl) (m_5 58 rfl rfl) (m_s 58 rfl rfl) (m_1 4 rfl rfl) (m_5 59 rfl rfl)) rfl rfl rfl (by decide +kernel) ⟨Nat.le_of_ble_eq_true rfl, Nat.le_of_ble_eq_true rfl⟩) ⟨fun a U g mk q => ⟨q.1, q.2.1, q.2.2.1, va_K.moved (u := U) (U := U.calling g mk a) (Vm.Alike.refl U.vm) q.2.2.2⟩, va_recv hK hP (ci := 0) (q0 := 0) rfl rfl, fun U hU hW => ⟨rfl, by rw [hU], by rw [hU]; exact hP, va_K.moved hW.alike hK⟩⟩ rfl rfl hl.1 rfl (lv_room (Nat.le_of_ble_eq_true rfl)) (dt_at dt_Ref_pair 96 rfl) ⟨Nat.le_of_ble_eq_true rfl, Nat.le_of_ble_eq_true rfl⟩) hS (fun x _ h9 => hF x h9) hF (fun u_r10 uu t H locs ht hvm hw hB hz1 hk1 hS => ?_)
          rw [ht] at hB
          subst hw
          have hP : va_P D CLS (wR a q g0 g1 g2 g3 g4 g5 g6 g7 g8 g9 g10 g11 g12 r10.2.1 r10.2.2.1 r10.2.2.2.1 r10.2.2.2.2 g17 g18 g19) H := hB
          have hD : va_D A (wR a q g0 g1 g2 g3 g4 g5 g6 g7 g8 g9 g10 g11 g12 r10.2.1 r10.2.2.1 r10.2.2.2.1 r10.2.2.2.2 g17 g18 g19) := dD hD rfl
          refine lv_if_ne (tgt := 192) hx hb (dt_at dt_Ref_pair 97 rfl) (by decide) (fun c11 => ?_) (fun c11 => ?_)
          · have h := if_n h c11
            exact k_Ref_pair_192 hC hA hK   v1 v2 (9218868437227405312 : Int64) t7 g8 g9 g10 g11 r10.2.1 r10.2.2.1 r10.2.2.2.1 r10.2.2.2.2 g17 g18 g19 H locs ls hP hD hS (lv_sub hl [2, 3, 4, 1, 0] rfl) h
          · have h := if_p h c11
            exact k_Ref_pair_190 hC hA hK   g8 g9 g10 g11 r10.2.1 r10.2.2.1 r10.2.2.2.1 r10.2.2.2.2 g17 g18 g19 H locs ls hP hD hS (lv_sub hl [] rfl) h
  · have h := if_p h c2
    refine lv_iconst (v := -1) hx hb (dt_at dt_Ref_pair 76 rfl) (by decide) ?_
    obtain rfl := os_of h
    exact W.iret (v := (-1 : Int32)) hx hb hr (fun t ht hW => ⟨⟨_, (), rfl, rfl, (hPt hP ht)⟩, hS.F ht⟩) hS.2.2 (dt_at dt_Ref_pair 77 rfl)
set_option maxRecDepth 100000 in
set_option maxHeartbeats 4000000 in
theorem k_Ref_pair_96 {p : Program} {l : Launch} {e : Env} {s : State} {m : MethodId} {args : Array Value} {below : List Frame} {meth : Method} {c : Code} {D : va_G} {a : Nat → Nat} {q : Nat → ClassId} {A : Nat → Prop} (hC : CX p s m args meth c prog_12_method_64_code 7 "OutwardTapeModel" (some .int)) (hA : ∀ x, s.heap.size ≤ x → A x) (hK : va_K D CLS (tR q) s) {g0 : Int32} {g1 : Nat → Int32} {g2 : Nat → Int64} {g3 : Nat → Int64} {g4 : Nat → Int32} {g5 : Int32} {g6 : Nat → Int32} {g7 : Int32} {g12 : Int32} {r0 : Int32 × (Nat → Int32) × Int32 × Int64 × Int64 × Int32 × Int32 × Int64 × Int32 × Int32 × Int64 × Int32} : ∀ (s0 : Int64) (v1 : Int32) (g8 : Nat → Int32) (g9 : Int32) (g10 : Int64) (g11 : Int64) (g13 : Int32) (g14 : Int32) (g15 : Int64) (g16 : Int32) (g17 : Int32) (g18 : Int64) (g19 : Int32) (H : Heap) (locs : List Loc) (ls : Array Slot), va_P D CLS (wR a q g0 g1 g2 g3 g4 g5 g6 g7 g8 g9 g10 g11 g12 g13 g14 g15 g16 g17 g18 g19) H → va_D A (wR a q g0 g1 g2 g3 g4 g5 g6 g7 g8 g9 g10 g11 g12 g13 g14 g15 g16 g17 g18 g19) → va_S A s.heap H locs → lv_has ls 7 [(0, .ref (a 0)), (1, .int v1)] → f_Ref_pair_96  s0 v1 g6 g7 g8 g9 g10 g11 g13 g14 g15 g16 g17 g18 g19 = some r0 → W p l e rm_Ref_pair s m args below meth c H locs 0 0 (MQ below (va_Qi (fun (r : Int32) (_ : Unit) => r = r0.1) (fun _ t => va_P D CLS (wR a q g0 g1 g2 g3 g4 g5 g6 g7 r0.2.1 r0.2.2.1 r0.2.2.2.1 r0.2.2.2.2.1 g12 r0.2.2.2.2.2.1 r0.2.2.2.2.2.2.1 r0.2.2.2.2.2.2.2.1 r0.2.2.2.2.2.2.2.2.1 r0.2.2.2.2.2.2.2.2.2.1 r0.2.2.2.2.2.2.2.2.2.2.1 r0.2.2.2.2.2.2.2.2.2.2.2) t.heap) A) args s 0 0 A) (F0 m 96 ls [.long s0]) := by
  obtain ⟨hx, hb, hml, hown, hts, hr, hlocks⟩ := id hC
  intro s0 v1 g8 g9 g10 g11 g13 g14 g15 g16 g17 g18 g19 H locs ls hP hD hS hl h
  rw [f_Ref_pair_96] at h
  refine lv_lstore_n (lv' := [(2, .long s0), (0, .ref (a 0)), (1, .int v1)]) hx hb (dt_at dt_Ref_pair 51 rfl) rfl hl (by decide) rfl (fun ls hl => ?_)
  refine lv_iload_n hx hb (dt_at dt_Ref_pair 52 rfl) rfl (lv_at hl 2 rfl) ?_
  refine lv_if_ne (tgt := 134) hx hb (dt_at dt_Ref_pair 53 rfl) (by decide) (fun c1 => ?_) (fun c1 => ?_)
  · have h := if_n h c1
    exact k_Ref_pair_134 hC hA hK   v1 s0 g8 g9 g10 g11 g13 g14 g15 g16 g17 g18 g19 H locs ls hP hD hS (lv_sub hl [1, 2, 0] rfl) h
  · have h := if_p h c1
    refine lv_aload_n hx hb (dt_at dt_Ref_pair 54 rfl) rfl (lv_at hl 1 rfl) ?_
    refine lv_bipush (v := 93) hx hb (dt_at dt_Ref_pair 55 rfl) (by decide) ?_
    obtain ⟨r2, h_r2, h⟩ := ob_of h
    have hF := va_free (wc := dR a) (dD (ws' := dR a) hD rfl) hS hA [0, 1, 2, 3, 4, 5, 6] rfl
    have hd : va_D (fun _ => True) (dR a) := (dD (ws' := dR a) hD rfl).weaken (fun _ _ _ _ => trivial)
    refine va_calli (va_runV (As := [.int (93 : Int32)]) (rest := []) ⟨hx, hb, hml, hown, hts⟩ (c_Ref_eat l D a q hd H.size (93 : Int32) g0 g1 g2 g3 g4 g5 g6 g7 g8 g9 g10 g11 g12 g13 g14 g15 g16 g17 g18 g19 r2 h_r2) (cwV 1 hts (gd_V (m_5 11 rfl rfl) (m_5 13 rfl rfl) (m_s 50 rfl rfl) (m_1 4 rfl rfl) (m_5 14 rfl rfl)) rfl rfl rfl (by decide +kernel) ⟨Nat.le_of_ble_eq_true rfl, Nat.le_of_ble_eq_true rfl⟩) ⟨fun a U g mk q => ⟨q.1, q.2.1, q.2.2.1, va_K.moved (u := U) (U := U.calling g mk a) (Vm.Alike.refl U.vm) q.2.2.2⟩, va_recv hK hP (ci := 0) (q0 := 0) rfl rfl, fun U hU hW => ⟨rfl, by rw [hU], by rw [hU]; exact hP, va_K.moved hW.alike hK⟩⟩ rfl rfl hl.1 rfl (lv_room (Nat.le_of_ble_eq_true rfl)) (dt_at dt_Ref_pair 56 rfl) ⟨Nat.le_of_ble_eq_true rfl, Nat.le_of_ble_eq_true rfl⟩) hS (fun x _ h9 => hF x h9) hF (fun u_r2 uu t H locs ht hvm hw hB hz1 hk1 hS => ?_)
    rw [ht] at hB
    subst hw
    have hP : va_P D CLS (wR a q g0 g1 g2 g3 g4 g5 g6 g7 g8 g9 g10 g11 g12 r2.2 g14 g15 g16 g17 g18 g19) H := hB
    have hD : va_D A (wR a q g0 g1 g2 g3 g4 g5 g6 g7 g8 g9 g10 g11 g12 r2.2 g14 g15 g16 g17 g18 g19) := dD hD rfl
    refine lv_if_eq (tgt := 134) hx hb (dt_at dt_Ref_pair 57 rfl) (by decide) (fun c3 => ?_) (fun c3 => ?_)
    · have h := if_p h c3
      exact k_Ref_pair_134 hC hA hK   v1 s0 g8 g9 g10 g11 r2.2 g14 g15 g16 g17 g18 g19 H locs ls hP hD hS (lv_sub hl [1, 2, 0] rfl) h
    · have h := if_n h c3
      refine lv_aload_n hx hb (dt_at dt_Ref_pair 58 rfl) rfl (lv_at hl 1 rfl) ?_
      refine lv_lload_n hx hb (dt_at dt_Ref_pair 59 rfl) rfl (lv_at hl 0 rfl) ?_
      refine lv_aload_n hx hb (dt_at dt_Ref_pair 60 rfl) rfl (lv_at hl 1 rfl) ?_
      refine lv_aload_n hx hb (dt_at dt_Ref_pair 61 rfl) rfl (lv_at hl 1 rfl) ?_
      refine va_get (D := D) (ci := 0) (v := .int g17) (C := "OutwardTapeModel") (T := T_Ref) (N := 20) hx hb hts in_Ref hown hK hP 0 rfl rfl 17 (by decide) (hts (Cond.fieldLink "OutwardTapeModel" 276 "OutwardTapeModel" "minus0" "Z") (m_4 16 rfl rfl)) (fun _ h9 => h9) rfl (dt_at dt_Ref_pair 62 rfl) ?_
      refine lv_aload_n hx hb (dt_at dt_Ref_pair 63 rfl) rfl (lv_at hl 1 rfl) ?_
      refine va_get (D := D) (ci := 0) (v := .long g18) (C := "OutwardTapeModel") (T := T_Ref) (N := 20) hx hb hts in_Ref hown hK hP 0 rfl rfl 18 (by decide) (hts (Cond.fieldLink "OutwardTapeModel" 273 "OutwardTapeModel" "digits0" "J") (m_4 17 rfl rfl)) (fun _ h9 => h9) rfl (dt_at dt_Ref_pair 64 rfl) ?_
      refine lv_aload_n hx hb (dt_at dt_Ref_pair 65 rfl) rfl (lv_at hl 1 rfl) ?_
      refine va_get (D := D) (ci := 0) (v := .int g19) (C := "OutwardTapeModel") (T := T_Ref) (N := 20) hx hb hts in_Ref hown hK hP 0 rfl rfl 19 (by decide) (hts (Cond.fieldLink "OutwardTapeModel" 270 "OutwardTapeModel" "power0" "I") (m_4 18 rfl rfl)) (fun _ h9 => h9) rfl (dt_at dt_Ref_pair 66 rfl) ?_
      refine lv_iconst (v := 1) hx hb (dt_at dt_Ref_pair 67 rfl) (by decide) ?_
      obtain ⟨r4, h_r4, h⟩ := ob_of h
      have hF := va_free (wc := dR a) (dD (ws' := dR a) hD rfl) hS hA [0, 1, 2, 3, 4, 5, 6] rfl
      have hd : va_D (fun _ => True) (dR a) := (dD (ws' := dR a) hD rfl).weaken (fun _ _ _ _ => trivial)
      refine va_calll (va_runV (As := [.int g17, .long g18, .int g19, .int (1 : Int32)]) (rest := [.long s0, .ref (a 0)]) ⟨hx, hb, hml, hown, hts⟩ (c_Ref_decimal l D a q hd H.size g17 g18 g19 (1 : Int32) g0 g1 g2 g3 g4 g5 g6 g7 g8 g9 g10 g11 g12 r2.2 g14 g15 g16 g17 g18 g19 r4 h_r4) (cwV 4 hts (gd_V (m_5 65 rfl rfl) (m_5 67 rfl rfl) (m_s 60 rfl rfl) (m_1 4 rfl rfl) (m_5 68 rfl rfl)) rfl rfl rfl (by decide +kernel) ⟨Nat.le_of_ble_eq_true rfl, Nat.le_of_ble_eq_true rfl⟩) ⟨fun a U g mk q => ⟨q.1, q.2.1, q.2.2.1, va_K.moved (u := U) (U := U.calling g mk a) (Vm.Alike.refl U.vm) q.2.2.2⟩, va_recv hK hP (ci := 0) (q0 := 0) rfl rfl, fun U hU hW => ⟨rfl, by rw [hU], by rw [hU]; exact hP, va_K.moved hW.alike hK⟩⟩ rfl rfl hl.1 rfl (lv_room (Nat.le_of_ble_eq_true rfl)) (dt_at dt_Ref_pair 68 rfl) ⟨Nat.le_of_ble_eq_true rfl, Nat.le_of_ble_eq_true rfl⟩) hS (fun x _ h9 => hF x h9) hF (fun u_r4 uu t H locs ht hvm hw hB hz1 hk1 hS => ?_)
      rw [ht] at hB
      subst hw
      have hP : va_P D CLS (wR a q g0 g1 g2 g3 g4 g5 g6 g7 r4.2.1 r4.2.2 g10 g11 g12 r2.2 g14 g15 g16 g17 g18 g19) H := hB
      have hD : va_D A (wR a q g0 g1 g2 g3 g4 g5 g6 g7 r4.2.1 r4.2.2 g10 g11 g12 r2.2 g14 g15 g16 g17 g18 g19) := dD hD rfl
      obtain ⟨r5, h_r5, h⟩ := ob_of h
      have hF := va_free (wc := dR a) (dD (ws' := dR a) hD rfl) hS hA [0, 1, 2, 3, 4, 5, 6] rfl
      have hd : va_D (fun _ => True) (dR a) := (dD (ws' := dR a) hD rfl).weaken (fun _ _ _ _ => trivial)
      refine va_callv (va_runV (As := [.long s0, .long r4.1]) (rest := []) ⟨hx, hb, hml, hown, hts⟩ (c_Ref_result l D a q hd H.size s0 r4.1 g0 g1 g2 g3 g4 g5 g6 g7 r4.2.1 r4.2.2 g10 g11 g12 r2.2 g14 g15 g16 g17 g18 g19 r5 h_r5) (cwV 2 hts (gd_V (m_4 104 rfl rfl) (m_4 106 rfl rfl) (m_s 26 rfl rfl) (m_1 4 rfl rfl) (m_4 107 rfl rfl)) rfl rfl rfl (by decide +kernel) ⟨Nat.le_of_ble_eq_true rfl, Nat.le_of_ble_eq_true rfl⟩) ⟨fun a U g mk q => ⟨q.1, q.2.1, q.2.2.1, va_K.moved (u := U) (U := U.calling g mk a) (Vm.Alike.refl U.vm) q.2.2.2⟩, va_recv hK hP (ci := 0) (q0 := 0) rfl rfl, fun U hU hW => ⟨rfl, by rw [hU], by rw [hU]; exact hP, va_K.moved hW.alike hK⟩⟩ rfl rfl hl.1 rfl (lv_room (Nat.le_of_ble_eq_true rfl)) (dt_at dt_Ref_pair 69 rfl) ⟨Nat.le_of_ble_eq_true rfl, Nat.le_of_ble_eq_true rfl⟩) hS (fun x _ h9 => hF x h9) hF (fun uu t H locs ht hvm hw hB hz1 hk1 hS => ?_)
      rw [ht] at hB
      have hP : va_P D CLS (wR a q g0 g1 g2 g3 g4 g5 g6 g7 r4.2.1 r4.2.2 r5.1 r5.2 g12 r2.2 g14 g15 g16 g17 g18 g19) H := hB
      have hD : va_D A (wR a q g0 g1 g2 g3 g4 g5 g6 g7 r4.2.1 r4.2.2 r5.1 r5.2 g12 r2.2 g14 g15 g16 g17 g18 g19) := dD hD rfl
      refine lv_iconst (v := 2) hx hb (dt_at dt_Ref_pair 70 rfl) (by decide) ?_
      obtain rfl := os_of h
      exact W.iret (v := (2 : Int32)) hx hb hr (fun t ht hW => ⟨⟨_, (), rfl, rfl, (hPt hP ht)⟩, hS.F ht⟩) hS.2.2 (dt_at dt_Ref_pair 71 rfl)
set_option maxRecDepth 100000 in
set_option maxHeartbeats 4000000 in
theorem k_Ref_pair_41 {p : Program} {l : Launch} {e : Env} {s : State} {m : MethodId} {args : Array Value} {below : List Frame} {meth : Method} {c : Code} {D : va_G} {a : Nat → Nat} {q : Nat → ClassId} {A : Nat → Prop} (hC : CX p s m args meth c prog_12_method_64_code 7 "OutwardTapeModel" (some .int)) (hA : ∀ x, s.heap.size ≤ x → A x) (hK : va_K D CLS (tR q) s) {g0 : Int32} {g1 : Nat → Int32} {g2 : Nat → Int64} {g3 : Nat → Int64} {g4 : Nat → Int32} {g5 : Int32} {g6 : Nat → Int32} {g7 : Int32} {g12 : Int32} {r0 : Int32 × (Nat → Int32) × Int32 × Int64 × Int64 × Int32 × Int32 × Int64 × Int32 × Int32 × Int64 × Int32} : ∀ (v1 : Int32) (g8 : Nat → Int32) (g9 : Int32) (g10 : Int64) (g11 : Int64) (g13 : Int32) (g14 : Int32) (g15 : Int64) (g16 : Int32) (g17 : Int32) (g18 : Int64) (g19 : Int32) (H : Heap) (locs : List Loc) (ls : Array Slot), va_P D CLS (wR a q g0 g1 g2 g3 g4 g5 g6 g7 g8 g9 g10 g11 g12 g13 g14 g15 g16 g17 g18 g19) H → va_D A (wR a q g0 g1 g2 g3 g4 g5 g6 g7 g8 g9 g10 g11 g12 g13 g14 g15 g16 g17 g18 g19) → va_S A s.heap H locs → lv_has ls 7 [(0, .ref (a 0)), (1, .int v1)] → f_Ref_pair_41  v1 g6 g7 g8 g9 g10 g11 g13 g14 g15 g16 g17 g18 g19 = some r0 → W p l e rm_Ref_pair s m args below meth c H locs 0 0 (MQ below (va_Qi (fun (r : Int32) (_ : Unit) => r = r0.1) (fun _ t => va_P D CLS (wR a q g0 g1 g2 g3 g4 g5 g6 g7 r0.2.1 r0.2.2.1 r0.2.2.2.1 r0.2.2.2.2.1 g12 r0.2.2.2.2.2.1 r0.2.2.2.2.2.2.1 r0.2.2.2.2.2.2.2.1 r0.2.2.2.2.2.2.2.2.1 r0.2.2.2.2.2.2.2.2.2.1 r0.2.2.2.2.2.2.2.2.2.2.1 r0.2.2.2.2.2.2.2.2.2.2.2) t.heap) A) args s 0 0 A) (F0 m 41 ls []) := by
  obtain ⟨hx, hb, hml, hown, hts, hr, hlocks⟩ := id hC
  intro v1 g8 g9 g10 g11 g13 g14 g15 g16 g17 g18 g19 H locs ls hP hD hS hl h
  rw [f_Ref_pair_41] at h
  refine lv_aload_n hx hb (dt_at dt_Ref_pair 24 rfl) rfl (lv_at hl 0 rfl) ?_
  refine lv_aload_n hx hb (dt_at dt_Ref_pair 25 rfl) rfl (lv_at hl 0 rfl) ?_
  refine va_get (D := D) (ci := 0) (v := .int g14) (C := "OutwardTapeModel") (T := T_Ref) (N := 20) hx hb hts in_Ref hown hK hP 0 rfl rfl 14 (by decide) (hts (Cond.fieldLink "OutwardTapeModel" 244 "OutwardTapeModel" "minus" "Z") (m_4 13 rfl rfl)) (fun _ h9 => h9) rfl (dt_at dt_Ref_pair 26 rfl) ?_
  obtain ⟨z1, h⟩ := og_of h
  refine va_put (D := D) (ci := 0) (v := .int g14) (ty := .boolean) (C := "OutwardTapeModel") (T := T_Ref) (N := 20) hx hb hts in_Ref ty_Ref tk_Ref nm_Ref hown hK hP hD hS 0 rfl rfl 17 (by decide) (hts (Cond.fieldLink "OutwardTapeModel" 276 "OutwardTapeModel" "minus0" "Z") (m_4 16 rfl rfl)) (fun _ h9 => h9) rfl (by decide +kernel) (j_z_nar z1) (j_z_fit z1) (Nat.le_of_ble_eq_true rfl) (dt_at dt_Ref_pair 27 rfl) (fun H locs hP hD hS => ?_)
  have hP : va_P D CLS (wR a q g0 g1 g2 g3 g4 g5 g6 g7 g8 g9 g10 g11 g12 g13 g14 g15 g16 g14 g18 g19) H := hP
  have hD : va_D A (wR a q g0 g1 g2 g3 g4 g5 g6 g7 g8 g9 g10 g11 g12 g13 g14 g15 g16 g14 g18 g19) := hD
  refine lv_aload_n hx hb (dt_at dt_Ref_pair 28 rfl) rfl (lv_at hl 0 rfl) ?_
  refine lv_aload_n hx hb (dt_at dt_Ref_pair 29 rfl) rfl (lv_at hl 0 rfl) ?_
  refine va_get (D := D) (ci := 0) (v := .long g15) (C := "OutwardTapeModel") (T := T_Ref) (N := 20) hx hb hts in_Ref hown hK hP 0 rfl rfl 15 (by decide) (hts (Cond.fieldLink "OutwardTapeModel" 247 "OutwardTapeModel" "digits" "J") (m_4 14 rfl rfl)) (fun _ h9 => h9) rfl (dt_at dt_Ref_pair 30 rfl) ?_
  refine va_put (D := D) (ci := 0) (v := .long g15) (ty := .long) (C := "OutwardTapeModel") (T := T_Ref) (N := 20) hx hb hts in_Ref ty_Ref tk_Ref nm_Ref hown hK hP hD hS 0 rfl rfl 18 (by decide) (hts (Cond.fieldLink "OutwardTapeModel" 273 "OutwardTapeModel" "digits0" "J") (m_4 17 rfl rfl)) (fun _ h9 => h9) rfl (by decide +kernel) rfl rfl (Nat.le_of_ble_eq_true rfl) (dt_at dt_Ref_pair 31 rfl) (fun H locs hP hD hS => ?_)
  have hP : va_P D CLS (wR a q g0 g1 g2 g3 g4 g5 g6 g7 g8 g9 g10 g11 g12 g13 g14 g15 g16 g14 g15 g19) H := hP
  have hD : va_D A (wR a q g0 g1 g2 g3 g4 g5 g6 g7 g8 g9 g10 g11 g12 g13 g14 g15 g16 g14 g15 g19) := hD
  refine lv_aload_n hx hb (dt_at dt_Ref_pair 32 rfl) rfl (lv_at hl 0 rfl) ?_
  refine lv_aload_n hx hb (dt_at dt_Ref_pair 33 rfl) rfl (lv_at hl 0 rfl) ?_
  refine va_get (D := D) (ci := 0) (v := .int g16) (C := "OutwardTapeModel") (T := T_Ref) (N := 20) hx hb hts in_Ref hown hK hP 0 rfl rfl 16 (by decide) (hts (Cond.fieldLink "OutwardTapeModel" 255 "OutwardTapeModel" "power" "I") (m_4 15 rfl rfl)) (fun _ h9 => h9) rfl (dt_at dt_Ref_pair 34 rfl) ?_
  refine va_put (D := D) (ci := 0) (v := .int g16) (ty := .int) (C := "OutwardTapeModel") (T := T_Ref) (N := 20) hx hb hts in_Ref ty_Ref tk_Ref nm_Ref hown hK hP hD hS 0 rfl rfl 19 (by decide) (hts (Cond.fieldLink "OutwardTapeModel" 270 "OutwardTapeModel" "power0" "I") (m_4 18 rfl rfl)) (fun _ h9 => h9) rfl (by decide +kernel) rfl rfl (Nat.le_of_ble_eq_true rfl) (dt_at dt_Ref_pair 35 rfl) (fun H locs hP hD hS => ?_)
  have hP : va_P D CLS (wR a q g0 g1 g2 g3 g4 g5 g6 g7 g8 g9 g10 g11 g12 g13 g14 g15 g16 g14 g15 g16) H := hP
  have hD : va_D A (wR a q g0 g1 g2 g3 g4 g5 g6 g7 g8 g9 g10 g11 g12 g13 g14 g15 g16 g14 g15 g16) := hD
  refine lv_aload_n hx hb (dt_at dt_Ref_pair 36 rfl) rfl (lv_at hl 0 rfl) ?_
  obtain ⟨r2, h_r2, h⟩ := ob_of h
  have hF := va_free (wc := dR a) (dD (ws' := dR a) hD rfl) hS hA [0, 1, 2, 3, 4, 5, 6] rfl
  have hd : va_D (fun _ => True) (dR a) := (dD (ws' := dR a) hD rfl).weaken (fun _ _ _ _ => trivial)
  refine va_callv (va_runV (As := []) (rest := []) ⟨hx, hb, hml, hown, hts⟩ (c_Ref_spaces l D a q hd H.size  g0 g1 g2 g3 g4 g5 g6 g7 g8 g9 g10 g11 g12 g13 g14 g15 g16 g14 g15 g16 r2 h_r2) (cwV 0 hts (gd_V (m_5 23 rfl rfl) (m_5 25 rfl rfl) (m_s 53 rfl rfl) (m_1 4 rfl rfl) (m_5 26 rfl rfl)) rfl rfl rfl (by decide +kernel) ⟨Nat.le_of_ble_eq_true rfl, Nat.le_of_ble_eq_true rfl⟩) ⟨fun a U g mk q => ⟨q.1, q.2.1, q.2.2.1, va_K.moved (u := U) (U := U.calling g mk a) (Vm.Alike.refl U.vm) q.2.2.2⟩, va_recv hK hP (ci := 0) (q0 := 0) rfl rfl, fun U hU hW => ⟨rfl, by rw [hU], by rw [hU]; exact hP, va_K.moved hW.alike hK⟩⟩ rfl rfl hl.1 rfl (lv_room (Nat.le_of_ble_eq_true rfl)) (dt_at dt_Ref_pair 37 rfl) ⟨Nat.le_of_ble_eq_true rfl, Nat.le_of_ble_eq_true rfl⟩) hS (fun x _ h9 => hF x h9) hF (fun uu t H locs ht hvm hw hB hz1 hk1 hS => ?_)
  rw [ht] at hB
  have hP : va_P D CLS (wR a q g0 g1 g2 g3 g4 g5 g6 g7 g8 g9 g10 g11 g12 r2 g14 g15 g16 g14 g15 g16) H := hB
  have hD : va_D A (wR a q g0 g1 g2 g3 g4 g5 g6 g7 g8 g9 g10 g11 g12 r2 g14 g15 g16 g14 g15 g16) := dD hD rfl
  refine lv_iload_n hx hb (dt_at dt_Ref_pair 38 rfl) rfl (lv_at hl 1 rfl) ?_
  refine lv_if_eq (tgt := 79) hx hb (dt_at dt_Ref_pair 39 rfl) (by decide) (fun c3 => ?_) (fun c3 => ?_)
  · have h := if_p h c3
    refine lv_aload_n hx hb (dt_at dt_Ref_pair 42 rfl) rfl (lv_at hl 0 rfl) ?_
    refine lv_aload_n hx hb (dt_at dt_Ref_pair 43 rfl) rfl (lv_at hl 0 rfl) ?_
    refine va_get (D := D) (ci := 0) (v := .int g14) (C := "OutwardTapeModel") (T := T_Ref) (N := 20) hx hb hts in_Ref hown hK hP 0 rfl rfl 17 (by decide) (hts (Cond.fieldLink "OutwardTapeModel" 276 "OutwardTapeModel" "minus0" "Z") (m_4 16 rfl rfl)) (fun _ h9 => h9) rfl (dt_at dt_Ref_pair 44 rfl) ?_
    refine lv_aload_n hx hb (dt_at dt_Ref_pair 45 rfl) rfl (lv_at hl 0 rfl) ?_
    refine va_get (D := D) (ci := 0) (v := .long g15) (C := "OutwardTapeModel") (T := T_Ref) (N := 20) hx hb hts in_Ref hown hK hP 0 rfl rfl 18 (by decide) (hts (Cond.fieldLink "OutwardTapeModel" 273 "OutwardTapeModel" "digits0" "J") (m_4 17 rfl rfl)) (fun _ h9 => h9) rfl (dt_at dt_Ref_pair 46 rfl) ?_
    refine lv_aload_n hx hb (dt_at dt_Ref_pair 47 rfl) rfl (lv_at hl 0 rfl) ?_
    refine va_get (D := D) (ci := 0) (v := .int g16) (C := "OutwardTapeModel") (T := T_Ref) (N := 20) hx hb hts in_Ref hown hK hP 0 rfl rfl 19 (by decide) (hts (Cond.fieldLink "OutwardTapeModel" 270 "OutwardTapeModel" "power0" "I") (m_4 18 rfl rfl)) (fun _ h9 => h9) rfl (dt_at dt_Ref_pair 48 rfl) ?_
    refine lv_iconst (v := 0) hx hb (dt_at dt_Ref_pair 49 rfl) (by decide) ?_
    obtain ⟨r4, h_r4, h⟩ := ob_of h
    have hF := va_free (wc := dR a) (dD (ws' := dR a) hD rfl) hS hA [0, 1, 2, 3, 4, 5, 6] rfl
    have hd : va_D (fun _ => True) (dR a) := (dD (ws' := dR a) hD rfl).weaken (fun _ _ _ _ => trivial)
    refine va_calll (va_runV (As := [.int g14, .long g15, .int g16, .int (0 : Int32)]) (rest := []) ⟨hx, hb, hml, hown, hts⟩ (c_Ref_decimal l D a q hd H.size g14 g15 g16 (0 : Int32) g0 g1 g2 g3 g4 g5 g6 g7 g8 g9 g10 g11 g12 r2 g14 g15 g16 g14 g15 g16 r4 h_r4) (cwV 4 hts (gd_V (m_5 65 rfl rfl) (m_5 67 rfl rfl) (m_s 60 rfl rfl) (m_1 4 rfl rfl) (m_5 68 rfl rfl)) rfl rfl rfl (by decide +kernel) ⟨Nat.le_of_ble_eq_true rfl, Nat.le_of_ble_eq_true rfl⟩) ⟨fun a U g mk q => ⟨q.1, q.2.1, q.2.2.1, va_K.moved (u := U) (U := U.calling g mk a) (Vm.Alike.refl U.vm) q.2.2.2⟩, va_recv hK hP (ci := 0) (q0 := 0) rfl rfl, fun U hU hW => ⟨rfl, by rw [hU], by rw [hU]; exact hP, va_K.moved hW.alike hK⟩⟩ rfl rfl hl.1 rfl (lv_room (Nat.le_of_ble_eq_true rfl)) (dt_at dt_Ref_pair 50 rfl) ⟨Nat.le_of_ble_eq_true rfl, Nat.le_of_ble_eq_true rfl⟩) hS (fun x _ h9 => hF x h9) hF (fun u_r4 uu t H locs ht hvm hw hB hz1 hk1 hS => ?_)
    rw [ht] at hB
    subst hw
    have hP : va_P D CLS (wR a q g0 g1 g2 g3 g4 g5 g6 g7 r4.2.1 r4.2.2 g10 g11 g12 r2 g14 g15 g16 g14 g15 g16) H := hB
    have hD : va_D A (wR a q g0 g1 g2 g3 g4 g5 g6 g7 r4.2.1 r4.2.2 g10 g11 g12 r2 g14 g15 g16 g14 g15 g16) := dD hD rfl
    exact k_Ref_pair_96 hC hA hK   r4.1 v1 r4.2.1 r4.2.2 g10 g11 r2 g14 g15 g16 g14 g15 g16 H locs ls hP hD hS (lv_sub hl [0, 1] rfl) h
  · have h := if_n h c3
    refine lv_ldc2 (v := -9218868437227405312) hx hb hown (hts (Cond.constantLong "OutwardTapeModel" 95 (-9218868437227405312)) (m_4 74 rfl rfl)) (dt_at dt_Ref_pair 40 rfl) ?_
    refine lv_goto (tgt := 96) hx hb (dt_at dt_Ref_pair 41 rfl) (by decide) ?_
    exact k_Ref_pair_96 hC hA hK   (-9218868437227405312 : Int64) v1 g8 g9 g10 g11 r2 g14 g15 g16 g14 g15 g16 H locs ls hP hD hS (lv_sub hl [0, 1] rfl) h
set_option maxRecDepth 100000 in
set_option maxHeartbeats 4000000 in
theorem k_Ref_pair_0 {p : Program} {l : Launch} {e : Env} {s : State} {m : MethodId} {args : Array Value} {below : List Frame} {meth : Method} {c : Code} {D : va_G} {a : Nat → Nat} {q : Nat → ClassId} {A : Nat → Prop} (hC : CX p s m args meth c prog_12_method_64_code 7 "OutwardTapeModel" (some .int)) (hA : ∀ x, s.heap.size ≤ x → A x) (hK : va_K D CLS (tR q) s) {g0 : Int32} {g1 : Nat → Int32} {g2 : Nat → Int64} {g3 : Nat → Int64} {g4 : Nat → Int32} {g5 : Int32} {g6 : Nat → Int32} {g7 : Int32} {g12 : Int32} {r0 : Int32 × (Nat → Int32) × Int32 × Int64 × Int64 × Int32 × Int32 × Int64 × Int32 × Int32 × Int64 × Int32} : ∀  (g8 : Nat → Int32) (g9 : Int32) (g10 : Int64) (g11 : Int64) (g13 : Int32) (g14 : Int32) (g15 : Int64) (g16 : Int32) (g17 : Int32) (g18 : Int64) (g19 : Int32) (H : Heap) (locs : List Loc) (ls : Array Slot), va_P D CLS (wR a q g0 g1 g2 g3 g4 g5 g6 g7 g8 g9 g10 g11 g12 g13 g14 g15 g16 g17 g18 g19) H → va_D A (wR a q g0 g1 g2 g3 g4 g5 g6 g7 g8 g9 g10 g11 g12 g13 g14 g15 g16 g17 g18 g19) → va_S A s.heap H locs → lv_has ls 7 [(0, .ref (a 0))] → f_Ref_pair_0  g6 g7 g8 g9 g10 g11 g13 g14 g15 g16 g17 g18 g19 = some r0 → W p l e rm_Ref_pair s m args below meth c H locs 0 0 (MQ below (va_Qi (fun (r : Int32) (_ : Unit) => r = r0.1) (fun _ t => va_P D CLS (wR a q g0 g1 g2 g3 g4 g5 g6 g7 r0.2.1 r0.2.2.1 r0.2.2.2.1 r0.2.2.2.2.1 g12 r0.2.2.2.2.2.1 r0.2.2.2.2.2.2.1 r0.2.2.2.2.2.2.2.1 r0.2.2.2.2.2.2.2.2.1 r0.2.2.2.2.2.2.2.2.2.1 r0.2.2.2.2.2.2.2.2.2.2.1 r0.2.2.2.2.2.2.2.2.2.2.2) t.heap) A) args s 0 0 A) (F0 m 0 ls []) := by
  obtain ⟨hx, hb, hml, hown, hts, hr, hlocks⟩ := id hC
  intro g8 g9 g10 g11 g13 g14 g15 g16 g17 g18 g19 H locs ls hP hD hS hl h
  rw [f_Ref_pair_0] at h
  refine lv_iconst (v := 1) hx hb (dt_at dt_Ref_pair 0 rfl) (by decide) ?_
  refine lv_istore_n (lv' := [(1, .int (1 : Int32)), (0, .ref (a 0))]) hx hb (dt_at dt_Ref_pair 1 rfl) rfl hl (by decide) rfl (fun ls hl => ?_)
  refine lv_aload_n hx hb (dt_at dt_Ref_pair 2 rfl) rfl (lv_at hl 1 rfl) ?_
  refine lv_aload_n hx hb (dt_at dt_Ref_pair 3 rfl) rfl (lv_at hl 1 rfl) ?_
  refine va_get (D := D) (ci := 0) (v := .int g13) (C := "OutwardTapeModel") (T := T_Ref) (N := 20) hx hb hts in_Ref hown hK hP 0 rfl rfl 13 (by decide) (hts (Cond.fieldLink "OutwardTapeModel" 221 "OutwardTapeModel" "place" "I") (m_4 12 rfl rfl)) (fun _ h9 => h9) rfl (dt_at dt_Ref_pair 4 rfl) ?_
  obtain ⟨r1, h_r1, h⟩ := ob_of h
  have hF := va_free (wc := dR a) (dD (ws' := dR a) hD rfl) hS hA [0, 1, 2, 3, 4, 5, 6] rfl
  have hd : va_D (fun _ => True) (dR a) := (dD (ws' := dR a) hD rfl).weaken (fun _ _ _ _ => trivial)
  refine va_calli (va_runV (As := [.int g13]) (rest := []) ⟨hx, hb, hml, hown, hts⟩ (c_Ref_seen l D a q hd H.size g13 g0 g1 g2 g3 g4 g5 g6 g7 g8 g9 g10 g11 g12 g13 g14 g15 g16 g17 g18 g19 r1 h_r1) (cwV 1 hts (gd_V (m_5 15 rfl rfl) (m_5 17 rfl rfl) (m_s 51 rfl rfl) (m_1 4 rfl rfl) (m_5 18 rfl rfl)) rfl rfl rfl (by decide +kernel) ⟨Nat.le_of_ble_eq_true rfl, Nat.le_of_ble_eq_true rfl⟩) ⟨fun a U g mk q => ⟨q.1, q.2.1, q.2.2.1, va_K.moved (u := U) (U := U.calling g mk a) (Vm.Alike.refl U.vm) q.2.2.2⟩, va_recv hK hP (ci := 0) (q0 := 0) rfl rfl, fun U hU hW => ⟨rfl, by rw [hU], by rw [hU]; exact hP, va_K.moved hW.alike hK⟩⟩ rfl rfl hl.1 rfl (lv_room (Nat.le_of_ble_eq_true rfl)) (dt_at dt_Ref_pair 5 rfl) ⟨Nat.le_of_ble_eq_true rfl, Nat.le_of_ble_eq_true rfl⟩) hS (fun x _ h9 => hF x h9) hF (fun u_r1 uu t H locs ht hvm hw hB hz1 hk1 hS => ?_)
  rw [ht] at hB
  obtain rfl : r1 = u_r1 := hw.symm
  have hP : va_P D CLS (wR a q g0 g1 g2 g3 g4 g5 g6 g7 g8 g9 g10 g11 g12 g13 g14 g15 g16 g17 g18 g19) H := hB
  have hD : va_D A (wR a q g0 g1 g2 g3 g4 g5 g6 g7 g8 g9 g10 g11 g12 g13 g14 g15 g16 g17 g18 g19) := dD hD rfl
  refine lv_bipush (v := 44) hx hb (dt_at dt_Ref_pair 6 rfl) (by decide) ?_
  refine lv_icmp_eq (tgt := 41) hx hb (dt_at dt_Ref_pair 7 rfl) (by decide) (fun c2 => ?_) (fun c2 => ?_)
  · have h := if_p h c2
    exact k_Ref_pair_41 hC hA hK   (1 : Int32) g8 g9 g10 g11 g13 g14 g15 g16 g17 g18 g19 H locs ls hP hD hS (lv_sub hl [1, 0] rfl) h
  · have h := if_n h c2
    refine lv_aload_n hx hb (dt_at dt_Ref_pair 8 rfl) rfl (lv_at hl 1 rfl) ?_
    obtain ⟨r3, h_r3, h⟩ := ob_of h
    have hF := va_free (wc := dR a) (dD (ws' := dR a) hD rfl) hS hA [0, 1, 2, 3, 4, 5, 6] rfl
    have hd : va_D (fun _ => True) (dR a) := (dD (ws' := dR a) hD rfl).weaken (fun _ _ _ _ => trivial)
    refine va_calli (va_runV (As := []) (rest := []) ⟨hx, hb, hml, hown, hts⟩ (c_Ref_infinity l D a q hd H.size  g0 g1 g2 g3 g4 g5 g6 g7 g8 g9 g10 g11 g12 g13 g14 g15 g16 g17 g18 g19 r3 h_r3) (cwV 0 hts (gd_V (m_5 52 rfl rfl) (m_5 54 rfl rfl) (m_s 57 rfl rfl) (m_1 4 rfl rfl) (m_5 55 rfl rfl)) rfl rfl rfl (by decide +kernel) ⟨Nat.le_of_ble_eq_true rfl, Nat.le_of_ble_eq_true rfl⟩) ⟨fun a U g mk q => ⟨q.1, q.2.1, q.2.2.1, va_K.moved (u := U) (U := U.calling g mk a) (Vm.Alike.refl U.vm) q.2.2.2⟩, va_recv hK hP (ci := 0) (q0 := 0) rfl rfl, fun U hU hW => ⟨rfl, by rw [hU], by rw [hU]; exact hP, va_K.moved hW.alike hK⟩⟩ rfl rfl hl.1 rfl (lv_room (Nat.le_of_ble_eq_true rfl)) (dt_at dt_Ref_pair 9 rfl) ⟨Nat.le_of_ble_eq_true rfl, Nat.le_of_ble_eq_true rfl⟩) hS (fun x _ h9 => hF x h9) hF (fun u_r3 uu t H locs ht hvm hw hB hz1 hk1 hS => ?_)
    rw [ht] at hB
    subst hw
    have hP : va_P D CLS (wR a q g0 g1 g2 g3 g4 g5 g6 g7 g8 g9 g10 g11 g12 r3.2 g14 g15 g16 g17 g18 g19) H := hB
    have hD : va_D A (wR a q g0 g1 g2 g3 g4 g5 g6 g7 g8 g9 g10 g11 g12 r3.2 g14 g15 g16 g17 g18 g19) := dD hD rfl
    obtain ⟨t4, e_t4, h⟩ := ol_of h
    refine lv_topi (fun u_t4 q_t4 => ?_)
    obtain rfl : t4 = u_t4 := e_t4.trans q_t4.symm
    refine lv_istore_n (lv' := [(2, .int t4), (1, .int (1 : Int32)), (0, .ref (a 0))]) hx hb (dt_at dt_Ref_pair 10 rfl) rfl hl (by decide) rfl (fun ls hl => ?_)
    refine lv_iload_n hx hb (dt_at dt_Ref_pair 11 rfl) rfl (lv_at hl 0 rfl) ?_
    refine lv_if_le (tgt := 26) hx hb (dt_at dt_Ref_pair 12 rfl) (by decide) (fun c5 => ?_) (fun c5 => ?_)
    · have h := if_p h c5
      refine lv_iload_n hx hb (dt_at dt_Ref_pair 15 rfl) rfl (lv_at hl 0 rfl) ?_
      refine lv_if_ne (tgt := 41) hx hb (dt_at dt_Ref_pair 16 rfl) (by decide) (fun c6 => ?_) (fun c6 => ?_)
      · have h := if_n h c6
        exact k_Ref_pair_41 hC hA hK   (1 : Int32) g8 g9 g10 g11 r3.2 g14 g15 g16 g17 g18 g19 H locs ls hP hD hS (lv_sub hl [2, 1] rfl) h
      · have h := if_p h c6
        refine lv_aload_n hx hb (dt_at dt_Ref_pair 17 rfl) rfl (lv_at hl 2 rfl) ?_
        obtain ⟨r7, h_r7, h⟩ := ob_of h
        have hF := va_free (wc := dR a) (dD (ws' := dR a) hD rfl) hS hA [0, 1, 2, 3, 4, 5, 6] rfl
        have hd : va_D (fun _ => True) (dR a) := (dD (ws' := dR a) hD rfl).weaken (fun _ _ _ _ => trivial)
        refine va_calli (va_runV (As := []) (rest := []) ⟨hx, hb, hml, hown, hts⟩ (c_Ref_decimalHere l D a q hd H.size  g0 g1 g2 g3 g4 g5 g6 g7 g8 g9 g10 g11 g12 r3.2 g14 g15 g16 g17 g18 g19 r7 h_r7) (cwV 0 hts (gd_V (m_5 56 rfl rfl) (m_5 58 rfl rfl) (m_s 58 rfl rfl) (m_1 4 rfl rfl) (m_5 59 rfl rfl)) rfl rfl rfl (by decide +kernel) ⟨Nat.le_of_ble_eq_true rfl, Nat.le_of_ble_eq_true rfl⟩) ⟨fun a U g mk q => ⟨q.1, q.2.1, q.2.2.1, va_K.moved (u := U) (U := U.calling g mk a) (Vm.Alike.refl U.vm) q.2.2.2⟩, va_recv hK hP (ci := 0) (q0 := 0) rfl rfl, fun U hU hW => ⟨rfl, by rw [hU], by rw [hU]; exact hP, va_K.moved hW.alike hK⟩⟩ rfl rfl hl.1 rfl (lv_room (Nat.le_of_ble_eq_true rfl)) (dt_at dt_Ref_pair 18 rfl) ⟨Nat.le_of_ble_eq_true rfl, Nat.le_of_ble_eq_true rfl⟩) hS (fun x _ h9 => hF x h9) hF (fun u_r7 uu t H locs ht hvm hw hB hz1 hk1 hS => ?_)
        rw [ht] at hB
        subst hw
        have hP : va_P D CLS (wR a q g0 g1 g2 g3 g4 g5 g6 g7 g8 g9 g10 g11 g12 r7.2.1 r7.2.2.1 r7.2.2.2.1 r7.2.2.2.2 g17 g18 g19) H := hB
        have hD : va_D A (wR a q g0 g1 g2 g3 g4 g5 g6 g7 g8 g9 g10 g11 g12 r7.2.1 r7.2.2.1 r7.2.2.2.1 r7.2.2.2.2 g17 g18 g19) := dD hD rfl
        refine lv_if_ne (tgt := 39) hx hb (dt_at dt_Ref_pair 19 rfl) (by decide) (fun c8 => ?_) (fun c8 => ?_)
        · have h := if_n h c8
          refine lv_iconst (v := 0) hx hb (dt_at dt_Ref_pair 22 rfl) (by decide) ?_
          refine lv_istore_n (lv' := [(1, .int (0 : Int32)), (2, .int t4), (0, .ref (a 0))]) hx hb (dt_at dt_Ref_pair 23 rfl) rfl hl (by decide) rfl (fun ls hl => ?_)
          exact k_Ref_pair_41 hC hA hK   (0 : Int32) g8 g9 g10 g11 r7.2.1 r7.2.2.1 r7.2.2.2.1 r7.2.2.2.2 g17 g18 g19 H locs ls hP hD hS (lv_sub hl [2, 0] rfl) h
        · have h := if_p h c8
          refine lv_iconst (v := -1) hx hb (dt_at dt_Ref_pair 20 rfl) (by decide) ?_
          obtain rfl := os_of h
          exact W.iret (v := (-1 : Int32)) hx hb hr (fun t ht hW => ⟨⟨_, (), rfl, rfl, (hPt hP ht)⟩, hS.F ht⟩) hS.2.2 (dt_at dt_Ref_pair 21 rfl)
    · have h := if_n h c5
      refine lv_iconst (v := -1) hx hb (dt_at dt_Ref_pair 13 rfl) (by decide) ?_
      obtain rfl := os_of h
      exact W.iret (v := (-1 : Int32)) hx hb hr (fun t ht hW => ⟨⟨_, (), rfl, rfl, (hPt hP ht)⟩, hS.F ht⟩) hS.2.2 (dt_at dt_Ref_pair 14 rfl)
set_option maxRecDepth 100000 in
set_option maxHeartbeats 4000000 in
theorem c_Ref_pair (l : Launch) (D : va_G) (a : Nat → Nat) (q : Nat → ClassId) (hd : va_D (fun _ => True) (dR a)) (sz : Nat)  (g0 : Int32) (g1 : Nat → Int32) (g2 : Nat → Int64) (g3 : Nat → Int64) (g4 : Nat → Int32) (g5 : Int32) (g6 : Nat → Int32) (g7 : Int32) (g8 : Nat → Int32) (g9 : Int32) (g10 : Int64) (g11 : Int64) (g12 : Int32) (g13 : Int32) (g14 : Int32) (g15 : Int64) (g16 : Int32) (g17 : Int32) (g18 : Int64) (g19 : Int32) (r0 : Int32 × (Nat → Int32) × Int32 × Int64 × Int64 × Int32 × Int32 × Int64 × Int32 × Int32 × Int64 × Int32) (h : f_Ref_pair g6 g7 g8 g9 g10 g11 g13 g14 g15 g16 g17 g18 g19 = some r0) : Met l (⟨"OutwardTapeModel", "pair", "()I"⟩ : MethodName) (WSm (⟨"OutwardTapeModel", "pair", "()I"⟩ : MethodName) prog_12_method_64_code 7 (some .int)) rm_Ref_pair (va_Pc [.ref (a 0)] (fun U => U.heap.size = sz ∧ va_P D CLS (wR a q g0 g1 g2 g3 g4 g5 g6 g7 g8 g9 g10 g11 g12 g13 g14 g15 g16 g17 g18 g19) U.heap ∧ va_K D CLS (tR q) U)) (va_Qi (fun (r : Int32) (_ : Unit) => r = r0.1) (fun _ t => va_P D CLS (wR a q g0 g1 g2 g3 g4 g5 g6 g7 r0.2.1 r0.2.2.1 r0.2.2.2.1 r0.2.2.2.2.1 g12 r0.2.2.2.2.2.1 r0.2.2.2.2.2.2.1 r0.2.2.2.2.2.2.2.1 r0.2.2.2.2.2.2.2.2.1 r0.2.2.2.2.2.2.2.2.2.1 r0.2.2.2.2.2.2.2.2.2.2.1 r0.2.2.2.2.2.2.2.2.2.2.2) t.heap) (va_A (dR a) sz)) 0 0 (va_A (dR a) sz) := by
  refine Met.ofW (cc := prog_12_method_64_code) (maxL := 7) (ret := (some .int)) (by decide) rfl ?_
  intro p e s m args below meth c s₁ B hml hv
  obtain ⟨rfl, hsz, hP, hK⟩ := hv
  subst hsz
  have hC := CX.of B hml rfl
  have hl := lv_entry [.ref (a 0)] (n := 7) (Nat.le_of_ble_eq_true rfl)
  rw [lg_entry_eq]
  generalize (lg_sl [.ref (a 0)] ++ List.replicate (7 - (lg_sl [.ref (a 0)]).length) Slot.unset).toArray = ls at hl ⊢
  have hl : lv_has ls 7 [(0, .ref (a 0))] := hl
  exact k_Ref_pair_0 hC (fun x h => Or.inr h) hK  g8 g9 g10 g11 g13 g14 g15 g16 g17 g18 g19 s.heap [] ls hP (dD hd.self rfl) va_S.rf (lv_sub hl [0] rfl) h
abbrev rm_Ref_inside : Room := { frames := 5, cells := 0, slots := 0, locals := 130 }
set_option maxRecDepth 100000 in
set_option maxHeartbeats 4000000 in
theorem k_Ref_inside_142 {p : Program} {l : Launch} {e : Env} {s : State} {m : MethodId} {args : Array Value} {below : List Frame} {meth : Method} {c : Code} {D : va_G} {a : Nat → Nat} {q : Nat → ClassId} {A : Nat → Prop} (hC : CX p s m args meth c prog_12_method_63_code 6 "OutwardTapeModel" (some .int)) (hA : ∀ x, s.heap.size ≤ x → A x) (hK : va_K D CLS (tR q) s) {g0 : Int32} {g1 : Nat → Int32} {g2 : Nat → Int64} {g3 : Nat → Int64} {g4 : Nat → Int32} {g5 : Int32} {g6 : Nat → Int32} {g7 : Int32} {g12 : Int32} {r0 : Int32 × (Nat → Int32) × Int32 × Int64 × Int64 × Int32 × Int32 × Int64 × Int32 × Int32 × Int64 × Int32} : ∀ (v1 : Int32) (g8 : Nat → Int32) (g9 : Int32) (g10 : Int64) (g11 : Int64) (g13 : Int32) (g14 : Int32) (g15 : Int64) (g16 : Int32) (g17 : Int32) (g18 : Int64) (g19 : Int32) (H : Heap) (locs : List Loc) (ls : Array Slot), va_P D CLS (wR a q g0 g1 g2 g3 g4 g5 g6 g7 g8 g9 g10 g11 g12 g13 g14 g15 g16 g17 g18 g19) H → va_D A (wR a q g0 g1 g2 g3 g4 g5 g6 g7 g8 g9 g10 g11 g12 g13 g14 g15 g16 g17 g18 g19) → va_S A s.heap H locs → lv_has ls 6 [(0, .ref (a 0)), (1, .int v1)] → f_Ref_inside_142  v1 g6 g7 g8 g9 g10 g11 g13 g14 g15 g16 g17 g18 g19 = some r0 → W p l e rm_Ref_inside s m args below meth c H locs 0 0 (MQ below (va_Qi (fun (r : Int32) (_ : Unit) => r = r0.1) (fun _ t => va_P D CLS (wR a q g0 g1 g2 g3 g4 g5 g6 g7 r0.2.1 r0.2.2.1 r0.2.2.2.1 r0.2.2.2.2.1 g12 r0.2.2.2.2.2.1 r0.2.2.2.2.2.2.1 r0.2.2.2.2.2.2.2.1 r0.2.2.2.2.2.2.2.2.1 r0.2.2.2.2.2.2.2.2.2.1 r0.2.2.2.2.2.2.2.2.2.2.1 r0.2.2.2.2.2.2.2.2.2.2.2) t.heap) A) args s 0 0 A) (F0 m 142 ls []) := by
  obtain ⟨hx, hb, hml, hown, hts, hr, hlocks⟩ := id hC
  intro v1 g8 g9 g10 g11 g13 g14 g15 g16 g17 g18 g19 H locs ls hP hD hS hl h
  rw [f_Ref_inside_142] at h
  refine lv_aload_n hx hb (dt_at dt_Ref_inside 73 rfl) rfl (lv_at hl 0 rfl) ?_
  refine lv_iload_n hx hb (dt_at dt_Ref_inside 74 rfl) rfl (lv_at hl 1 rfl) ?_
  refine va_put (D := D) (ci := 0) (v := .int v1) (ty := .int) (C := "OutwardTapeModel") (T := T_Ref) (N := 20) hx hb hts in_Ref ty_Ref tk_Ref nm_Ref hown hK hP hD hS 0 rfl rfl 13 (by decide) (hts (Cond.fieldLink "OutwardTapeModel" 221 "OutwardTapeModel" "place" "I") (m_4 12 rfl rfl)) (fun _ h9 => h9) rfl (by decide +kernel) rfl rfl (Nat.le_of_ble_eq_true rfl) (dt_at dt_Ref_inside 75 rfl) (fun H locs hP hD hS => ?_)
  have hP : va_P D CLS (wR a q g0 g1 g2 g3 g4 g5 g6 g7 g8 g9 g10 g11 g12 v1 g14 g15 g16 g17 g18 g19) H := hP
  have hD : va_D A (wR a q g0 g1 g2 g3 g4 g5 g6 g7 g8 g9 g10 g11 g12 v1 g14 g15 g16 g17 g18 g19) := hD
  refine lv_aload_n hx hb (dt_at dt_Ref_inside 76 rfl) rfl (lv_at hl 0 rfl) ?_
  refine lv_bipush (v := 93) hx hb (dt_at dt_Ref_inside 77 rfl) (by decide) ?_
  obtain ⟨r1, h_r1, h⟩ := ob_of h
  have hF := va_free (wc := dR a) (dD (ws' := dR a) hD rfl) hS hA [0, 1, 2, 3, 4, 5, 6] rfl
  have hd : va_D (fun _ => True) (dR a) := (dD (ws' := dR a) hD rfl).weaken (fun _ _ _ _ => trivial)
  refine va_calli (va_runV (As := [.int (93 : Int32)]) (rest := []) ⟨hx, hb, hml, hown, hts⟩ (c_Ref_eat l D a q hd H.size (93 : Int32) g0 g1 g2 g3 g4 g5 g6 g7 g8 g9 g10 g11 g12 v1 g14 g15 g16 g17 g18 g19 r1 h_r1) (cwV 1 hts (gd_V (m_5 11 rfl rfl) (m_5 13 rfl rfl) (m_s 50 rfl rfl) (m_1 4 rfl rfl) (m_5 14 rfl rfl)) rfl rfl rfl (by decide +kernel) ⟨Nat.le_of_ble_eq_true rfl, Nat.le_of_ble_eq_true rfl⟩) ⟨fun a U g mk q => ⟨q.1, q.2.1, q.2.2.1, va_K.moved (u := U) (U := U.calling g mk a) (Vm.Alike.refl U.vm) q.2.2.2⟩, va_recv hK hP (ci := 0) (q0 := 0) rfl rfl, fun U hU hW => ⟨rfl, by rw [hU], by rw [hU]; exact hP, va_K.moved hW.alike hK⟩⟩ rfl rfl hl.1 rfl (lv_room (Nat.le_of_ble_eq_true rfl)) (dt_at dt_Ref_inside 78 rfl) ⟨Nat.le_of_ble_eq_true rfl, Nat.le_of_ble_eq_true rfl⟩) hS (fun x _ h9 => hF x h9) hF (fun u_r1 uu t H locs ht hvm hw hB hz1 hk1 hS => ?_)
  rw [ht] at hB
  subst hw
  have hP : va_P D CLS (wR a q g0 g1 g2 g3 g4 g5 g6 g7 g8 g9 g10 g11 g12 r1.2 g14 g15 g16 g17 g18 g19) H := hB
  have hD : va_D A (wR a q g0 g1 g2 g3 g4 g5 g6 g7 g8 g9 g10 g11 g12 r1.2 g14 g15 g16 g17 g18 g19) := dD hD rfl
  refine lv_if_eq (tgt := 158) hx hb (dt_at dt_Ref_inside 79 rfl) (by decide) (fun c2 => ?_) (fun c2 => ?_)
  · have h := if_p h c2
    refine lv_aload_n hx hb (dt_at dt_Ref_inside 82 rfl) rfl (lv_at hl 0 rfl) ?_
    obtain ⟨r3, h_r3, h⟩ := ob_of h
    have hF := va_free (wc := dR a) (dD (ws' := dR a) hD rfl) hS hA [0, 1, 2, 3, 4, 5, 6] rfl
    have hd : va_D (fun _ => True) (dR a) := (dD (ws' := dR a) hD rfl).weaken (fun _ _ _ _ => trivial)
    refine va_calli (va_runV (As := []) (rest := []) ⟨hx, hb, hml, hown, hts⟩ (c_Ref_pair l D a q hd H.size  g0 g1 g2 g3 g4 g5 g6 g7 g8 g9 g10 g11 g12 r1.2 g14 g15 g16 g17 g18 g19 r3 h_r3) (cwV 0 hts (gd_V (m_5 48 rfl rfl) (m_5 50 rfl rfl) (m_s 56 rfl rfl) (m_1 4 rfl rfl) (m_5 51 rfl rfl)) rfl rfl rfl (by decide +kernel) ⟨Nat.le_of_ble_eq_true rfl, Nat.le_of_ble_eq_true rfl⟩) ⟨fun a U g mk q => ⟨q.1, q.2.1, q.2.2.1, va_K.moved (u := U) (U := U.calling g mk a) (Vm.Alike.refl U.vm) q.2.2.2⟩, va_recv hK hP (ci := 0) (q0 := 0) rfl rfl, fun U hU hW => ⟨rfl, by rw [hU], by rw [hU]; exact hP, va_K.moved hW.alike hK⟩⟩ rfl rfl hl.1 rfl (lv_room (Nat.le_of_ble_eq_true rfl)) (dt_at dt_Ref_inside 83 rfl) ⟨Nat.le_of_ble_eq_true rfl, Nat.le_of_ble_eq_true rfl⟩) hS (fun x _ h9 => hF x h9) hF (fun u_r3 uu t H locs ht hvm hw hB hz1 hk1 hS => ?_)
    rw [ht] at hB
    subst hw
    have hP : va_P D CLS (wR a q g0 g1 g2 g3 g4 g5 g6 g7 r3.2.1 r3.2.2.1 r3.2.2.2.1 r3.2.2.2.2.1 g12 r3.2.2.2.2.2.1 r3.2.2.2.2.2.2.1 r3.2.2.2.2.2.2.2.1 r3.2.2.2.2.2.2.2.2.1 r3.2.2.2.2.2.2.2.2.2.1 r3.2.2.2.2.2.2.2.2.2.2.1 r3.2.2.2.2.2.2.2.2.2.2.2) H := hB
    have hD : va_D A (wR a q g0 g1 g2 g3 g4 g5 g6 g7 r3.2.1 r3.2.2.1 r3.2.2.2.1 r3.2.2.2.2.1 g12 r3.2.2.2.2.2.1 r3.2.2.2.2.2.2.1 r3.2.2.2.2.2.2.2.1 r3.2.2.2.2.2.2.2.2.1 r3.2.2.2.2.2.2.2.2.2.1 r3.2.2.2.2.2.2.2.2.2.2.1 r3.2.2.2.2.2.2.2.2.2.2.2) := dD hD rfl
    obtain rfl := os_of h
    exact W.iret (v := r3.1) hx hb hr (fun t ht hW => ⟨⟨_, (), rfl, rfl, (hPt hP ht)⟩, hS.F ht⟩) hS.2.2 (dt_at dt_Ref_inside 84 rfl)
  · have h := if_n h c2
    refine lv_iconst (v := 1) hx hb (dt_at dt_Ref_inside 80 rfl) (by decide) ?_
    obtain rfl := os_of h
    exact W.iret (v := (1 : Int32)) hx hb hr (fun t ht hW => ⟨⟨_, (), rfl, rfl, (hPt hP ht)⟩, hS.F ht⟩) hS.2.2 (dt_at dt_Ref_inside 81 rfl)
set_option maxRecDepth 100000 in
set_option maxHeartbeats 4000000 in
theorem k_Ref_inside_141 {p : Program} {l : Launch} {e : Env} {s : State} {m : MethodId} {args : Array Value} {below : List Frame} {meth : Method} {c : Code} {D : va_G} {a : Nat → Nat} {q : Nat → ClassId} {A : Nat → Prop} (hC : CX p s m args meth c prog_12_method_63_code 6 "OutwardTapeModel" (some .int)) (hA : ∀ x, s.heap.size ≤ x → A x) (hK : va_K D CLS (tR q) s) {g0 : Int32} {g1 : Nat → Int32} {g2 : Nat → Int64} {g3 : Nat → Int64} {g4 : Nat → Int32} {g5 : Int32} {g6 : Nat → Int32} {g7 : Int32} {g12 : Int32} {r0 : Int32 × (Nat → Int32) × Int32 × Int64 × Int64 × Int32 × Int32 × Int64 × Int32 × Int32 × Int64 × Int32} : ∀ (s0 : Int32) (g8 : Nat → Int32) (g9 : Int32) (g10 : Int64) (g11 : Int64) (g13 : Int32) (g14 : Int32) (g15 : Int64) (g16 : Int32) (g17 : Int32) (g18 : Int64) (g19 : Int32) (H : Heap) (locs : List Loc) (ls : Array Slot), va_P D CLS (wR a q g0 g1 g2 g3 g4 g5 g6 g7 g8 g9 g10 g11 g12 g13 g14 g15 g16 g17 g18 g19) H → va_D A (wR a q g0 g1 g2 g3 g4 g5 g6 g7 g8 g9 g10 g11 g12 g13 g14 g15 g16 g17 g18 g19) → va_S A s.heap H locs → lv_has ls 6 [] → f_Ref_inside_141  s0 g6 g7 g8 g9 g10 g11 g13 g14 g15 g16 g17 g18 g19 = some r0 → W p l e rm_Ref_inside s m args below meth c H locs 0 0 (MQ below (va_Qi (fun (r : Int32) (_ : Unit) => r = r0.1) (fun _ t => va_P D CLS (wR a q g0 g1 g2 g3 g4 g5 g6 g7 r0.2.1 r0.2.2.1 r0.2.2.2.1 r0.2.2.2.2.1 g12 r0.2.2.2.2.2.1 r0.2.2.2.2.2.2.1 r0.2.2.2.2.2.2.2.1 r0.2.2.2.2.2.2.2.2.1 r0.2.2.2.2.2.2.2.2.2.1 r0.2.2.2.2.2.2.2.2.2.2.1 r0.2.2.2.2.2.2.2.2.2.2.2) t.heap) A) args s 0 0 A) (F0 m 141 ls [.int s0]) := by
  obtain ⟨hx, hb, hml, hown, hts, hr, hlocks⟩ := id hC
  intro s0 g8 g9 g10 g11 g13 g14 g15 g16 g17 g18 g19 H locs ls hP hD hS hl h
  rw [f_Ref_inside_141] at h
  obtain rfl := os_of h
  exact W.iret (v := s0) hx hb hr (fun t ht hW => ⟨⟨_, (), rfl, rfl, (hPt hP ht)⟩, hS.F ht⟩) hS.2.2 (dt_at dt_Ref_inside 72 rfl)
set_option maxRecDepth 100000 in
set_option maxHeartbeats 4000000 in
theorem k_Ref_inside_88 {p : Program} {l : Launch} {e : Env} {s : State} {m : MethodId} {args : Array Value} {below : List Frame} {meth : Method} {c : Code} {D : va_G} {a : Nat → Nat} {q : Nat → ClassId} {A : Nat → Prop} (hC : CX p s m args meth c prog_12_method_63_code 6 "OutwardTapeModel" (some .int)) (hA : ∀ x, s.heap.size ≤ x → A x) (hK : va_K D CLS (tR q) s) {g0 : Int32} {g1 : Nat → Int32} {g2 : Nat → Int64} {g3 : Nat → Int64} {g4 : Nat → Int32} {g5 : Int32} {g6 : Nat → Int32} {g7 : Int32} {g12 : Int32} {r0 : Int32 × (Nat → Int32) × Int32 × Int64 × Int64 × Int32 × Int32 × Int64 × Int32 × Int32 × Int64 × Int32} : ∀ (v2 : Int64) (v4 : Int64) (g8 : Nat → Int32) (g9 : Int32) (g10 : Int64) (g11 : Int64) (g13 : Int32) (g14 : Int32) (g15 : Int64) (g16 : Int32) (g17 : Int32) (g18 : Int64) (g19 : Int32) (H : Heap) (locs : List Loc) (ls : Array Slot), va_P D CLS (wR a q g0 g1 g2 g3 g4 g5 g6 g7 g8 g9 g10 g11 g12 g13 g14 g15 g16 g17 g18 g19) H → va_D A (wR a q g0 g1 g2 g3 g4 g5 g6 g7 g8 g9 g10 g11 g12 g13 g14 g15 g16 g17 g18 g19) → va_S A s.heap H locs → lv_has ls 6 [(0, .ref (a 0)), (2, .long v2), (4, .long v4)] → f_Ref_inside_88  v2 v4 g6 g7 g8 g9 g10 g11 g13 g14 g15 g16 g17 g18 g19 = some r0 → W p l e rm_Ref_inside s m args below meth c H locs 0 0 (MQ below (va_Qi (fun (r : Int32) (_ : Unit) => r = r0.1) (fun _ t => va_P D CLS (wR a q g0 g1 g2 g3 g4 g5 g6 g7 r0.2.1 r0.2.2.1 r0.2.2.2.1 r0.2.2.2.2.1 g12 r0.2.2.2.2.2.1 r0.2.2.2.2.2.2.1 r0.2.2.2.2.2.2.2.1 r0.2.2.2.2.2.2.2.2.1 r0.2.2.2.2.2.2.2.2.2.1 r0.2.2.2.2.2.2.2.2.2.2.1 r0.2.2.2.2.2.2.2.2.2.2.2) t.heap) A) args s 0 0 A) (F0 m 88 ls []) := by
  obtain ⟨hx, hb, hml, hown, hts, hr, hlocks⟩ := id hC
  intro v2 v4 g8 g9 g10 g11 g13 g14 g15 g16 g17 g18 g19 H locs ls hP hD hS hl h
  rw [f_Ref_inside_88] at h
  refine lv_aload_n hx hb (dt_at dt_Ref_inside 46 rfl) rfl (lv_at hl 0 rfl) ?_
  refine lv_ldc2 (v := -9218868437227405312) hx hb hown (hts (Cond.constantLong "OutwardTapeModel" 95 (-9218868437227405312)) (m_4 74 rfl rfl)) (dt_at dt_Ref_inside 47 rfl) ?_
  refine lv_ldc2 (v := 9218868437227405312) hx hb hown (hts (Cond.constantLong "OutwardTapeModel" 69 (9218868437227405312)) (m_4 70 rfl rfl)) (dt_at dt_Ref_inside 48 rfl) ?_
  obtain ⟨r1, h_r1, h⟩ := ob_of h
  have hF := va_free (wc := dR a) (dD (ws' := dR a) hD rfl) hS hA [0, 1, 2, 3, 4, 5, 6] rfl
  have hd : va_D (fun _ => True) (dR a) := (dD (ws' := dR a) hD rfl).weaken (fun _ _ _ _ => trivial)
  refine va_callv (va_runV (As := [.long (-9218868437227405312 : Int64), .long (9218868437227405312 : Int64)]) (rest := []) ⟨hx, hb, hml, hown, hts⟩ (c_Ref_result l D a q hd H.size (-9218868437227405312 : Int64) (9218868437227405312 : Int64) g0 g1 g2 g3 g4 g5 g6 g7 g8 g9 g10 g11 g12 g13 g14 g15 g16 g17 g18 g19 r1 h_r1) (cwV 2 hts (gd_V (m_4 104 rfl rfl) (m_4 106 rfl rfl) (m_s 26 rfl rfl) (m_1 4 rfl rfl) (m_4 107 rfl rfl)) rfl rfl rfl (by decide +kernel) ⟨Nat.le_of_ble_eq_true rfl, Nat.le_of_ble_eq_true rfl⟩) ⟨fun a U g mk q => ⟨q.1, q.2.1, q.2.2.1, va_K.moved (u := U) (U := U.calling g mk a) (Vm.Alike.refl U.vm) q.2.2.2⟩, va_recv hK hP (ci := 0) (q0 := 0) rfl rfl, fun U hU hW => ⟨rfl, by rw [hU], by rw [hU]; exact hP, va_K.moved hW.alike hK⟩⟩ rfl rfl hl.1 rfl (lv_room (Nat.le_of_ble_eq_true rfl)) (dt_at dt_Ref_inside 49 rfl) ⟨Nat.le_of_ble_eq_true rfl, Nat.le_of_ble_eq_true rfl⟩) hS (fun x _ h9 => hF x h9) hF (fun uu t H locs ht hvm hw hB hz1 hk1 hS => ?_)
  rw [ht] at hB
  have hP : va_P D CLS (wR a q g0 g1 g2 g3 g4 g5 g6 g7 g8 g9 r1.1 r1.2 g12 g13 g14 g15 g16 g17 g18 g19) H := hB
  have hD : va_D A (wR a q g0 g1 g2 g3 g4 g5 g6 g7 g8 g9 r1.1 r1.2 g12 g13 g14 g15 g16 g17 g18 g19) := dD hD rfl
  refine lv_aload_n hx hb (dt_at dt_Ref_inside 50 rfl) rfl (lv_at hl 0 rfl) ?_
  refine lv_bipush (v := 93) hx hb (dt_at dt_Ref_inside 51 rfl) (by decide) ?_
  obtain ⟨r2, h_r2, h⟩ := ob_of h
  have hF := va_free (wc := dR a) (dD (ws' := dR a) hD rfl) hS hA [0, 1, 2, 3, 4, 5, 6] rfl
  have hd : va_D (fun _ => True) (dR a) := (dD (ws' := dR a) hD rfl).weaken (fun _ _ _ _ => trivial)
  refine va_calli (va_runV (As := [.int (93 : Int32)]) (rest := []) ⟨hx, hb, hml, hown, hts⟩ (c_Ref_eat l D a q hd H.size (93 : Int32) g0 g1 g2 g3 g4 g5 g6 g7 g8 g9 r1.1 r1.2 g12 g13 g14 g15 g16 g17 g18 g19 r2 h_r2) (cwV 1 hts (gd_V (m_5 11 rfl rfl) (m_5 13 rfl rfl) (m_s 50 rfl rfl) (m_1 4 rfl rfl) (m_5 14 rfl rfl)) rfl rfl rfl (by decide +kernel) ⟨Nat.le_of_ble_eq_true rfl, Nat.le_of_ble_eq_true rfl⟩) ⟨fun a U g mk q => ⟨q.1, q.2.1, q.2.2.1, va_K.moved (u := U) (U := U.calling g mk a) (Vm.Alike.refl U.vm) q.2.2.2⟩, va_recv hK hP (ci := 0) (q0 := 0) rfl rfl, fun U hU hW => ⟨rfl, by rw [hU], by rw [hU]; exact hP, va_K.moved hW.alike hK⟩⟩ rfl rfl hl.1 rfl (lv_room (Nat.le_of_ble_eq_true rfl)) (dt_at dt_Ref_inside 52 rfl) ⟨Nat.le_of_ble_eq_true rfl, Nat.le_of_ble_eq_true rfl⟩) hS (fun x _ h9 => hF x h9) hF (fun u_r2 uu t H locs ht hvm hw hB hz1 hk1 hS => ?_)
  rw [ht] at hB
  subst hw
  have hP : va_P D CLS (wR a q g0 g1 g2 g3 g4 g5 g6 g7 g8 g9 r1.1 r1.2 g12 r2.2 g14 g15 g16 g17 g18 g19) H := hB
  have hD : va_D A (wR a q g0 g1 g2 g3 g4 g5 g6 g7 g8 g9 r1.1 r1.2 g12 r2.2 g14 g15 g16 g17 g18 g19) := dD hD rfl
  refine lv_if_ne (tgt := 111) hx hb (dt_at dt_Ref_inside 53 rfl) (by decide) (fun c3 => ?_) (fun c3 => ?_)
  · have h := if_n h c3
    refine lv_lload_n hx hb (dt_at dt_Ref_inside 56 rfl) rfl (lv_at hl 1 rfl) ?_
    refine lv_lload hx hb (dt_at dt_Ref_inside 57 rfl) (lv_at hl 2 rfl) ?_
    refine lc_ne (tgt := 122) hx hb (dt_at dt_Ref_inside 58 rfl) (dt_at dt_Ref_inside 59 rfl) (by decide) (fun c4 => ?_) (fun c4 => ?_)
    · have h := if_n h c4
      refine lv_lload_n hx hb (dt_at dt_Ref_inside 62 rfl) rfl (lv_at hl 1 rfl) ?_
      refine lv_bipush (v := 110) hx hb (dt_at dt_Ref_inside 63 rfl) (by decide) ?_
      refine lv_bipush (v := 97) hx hb (dt_at dt_Ref_inside 64 rfl) (by decide) ?_
      refine lv_bipush (v := 105) hx hb (dt_at dt_Ref_inside 65 rfl) (by decide) ?_
      obtain ⟨r5, h_r5, h⟩ := ob_of h
      refine vp_callSl (W.runS (As := [.int (110 : Int32), .int (97 : Int32), .int (105 : Int32)]) (rest := [.long v2]) ⟨hx, hb, hml, hown, hts⟩ (c_Ref_spelt l (110 : Int32) (97 : Int32) (105 : Int32) r5 h_r5) (va_cwS 3 hts (gd_S (m_5 38 rfl rfl) (m_5 39 rfl rfl) (m_1 4 rfl rfl) (m_5 40 rfl rfl)) rfl rfl rfl (by decide +kernel) ⟨Nat.le_of_ble_eq_true rfl, Nat.le_of_ble_eq_true rfl⟩) ⟨fun _ _ _ _ q => q, fun U hU hW => ⟨rfl, trivial⟩⟩ rfl rfl hl.1 rfl (lv_room (Nat.le_of_ble_eq_true rfl)) (dt_at dt_Ref_inside 66 rfl) ⟨Nat.le_of_ble_eq_true rfl, Nat.le_of_ble_eq_true rfl⟩) (fun u_r5 q_r5 => ?_)
      obtain rfl : r5 = u_r5 := q_r5.symm
      refine lc_ne (tgt := 140) hx hb (dt_at dt_Ref_inside 67 rfl) (dt_at dt_Ref_inside 68 rfl) (by decide) (fun c6 => ?_) (fun c6 => ?_)
      · have h := if_n h c6
        refine lv_iconst (v := 2) hx hb (dt_at dt_Ref_inside 71 rfl) (by decide) ?_
        exact k_Ref_inside_141 hC hA hK   (2 : Int32) g8 g9 r1.1 r1.2 r2.2 g14 g15 g16 g17 g18 g19 H locs ls hP hD hS (lv_sub hl [] rfl) h
      · have h := if_p h c6
        refine lv_iconst (v := 0) hx hb (dt_at dt_Ref_inside 69 rfl) (by decide) ?_
        refine lv_goto (tgt := 141) hx hb (dt_at dt_Ref_inside 70 rfl) (by decide) ?_
        exact k_Ref_inside_141 hC hA hK   (0 : Int32) g8 g9 r1.1 r1.2 r2.2 g14 g15 g16 g17 g18 g19 H locs ls hP hD hS (lv_sub hl [] rfl) h
    · have h := if_p h c4
      refine lv_iconst (v := 1) hx hb (dt_at dt_Ref_inside 60 rfl) (by decide) ?_
      refine lv_goto (tgt := 141) hx hb (dt_at dt_Ref_inside 61 rfl) (by decide) ?_
      exact k_Ref_inside_141 hC hA hK   (1 : Int32) g8 g9 r1.1 r1.2 r2.2 g14 g15 g16 g17 g18 g19 H locs ls hP hD hS (lv_sub hl [] rfl) h
  · have h := if_p h c3
    refine lv_iconst (v := -1) hx hb (dt_at dt_Ref_inside 54 rfl) (by decide) ?_
    refine lv_goto (tgt := 141) hx hb (dt_at dt_Ref_inside 55 rfl) (by decide) ?_
    exact k_Ref_inside_141 hC hA hK   (-1 : Int32) g8 g9 r1.1 r1.2 r2.2 g14 g15 g16 g17 g18 g19 H locs ls hP hD hS (lv_sub hl [] rfl) h
set_option maxRecDepth 100000 in
set_option maxHeartbeats 4000000 in
theorem k_Ref_inside_0 {p : Program} {l : Launch} {e : Env} {s : State} {m : MethodId} {args : Array Value} {below : List Frame} {meth : Method} {c : Code} {D : va_G} {a : Nat → Nat} {q : Nat → ClassId} {A : Nat → Prop} (hC : CX p s m args meth c prog_12_method_63_code 6 "OutwardTapeModel" (some .int)) (hA : ∀ x, s.heap.size ≤ x → A x) (hK : va_K D CLS (tR q) s) {g0 : Int32} {g1 : Nat → Int32} {g2 : Nat → Int64} {g3 : Nat → Int64} {g4 : Nat → Int32} {g5 : Int32} {g6 : Nat → Int32} {g7 : Int32} {g12 : Int32} {r0 : Int32 × (Nat → Int32) × Int32 × Int64 × Int64 × Int32 × Int32 × Int64 × Int32 × Int32 × Int64 × Int32} : ∀  (g8 : Nat → Int32) (g9 : Int32) (g10 : Int64) (g11 : Int64) (g13 : Int32) (g14 : Int32) (g15 : Int64) (g16 : Int32) (g17 : Int32) (g18 : Int64) (g19 : Int32) (H : Heap) (locs : List Loc) (ls : Array Slot), va_P D CLS (wR a q g0 g1 g2 g3 g4 g5 g6 g7 g8 g9 g10 g11 g12 g13 g14 g15 g16 g17 g18 g19) H → va_D A (wR a q g0 g1 g2 g3 g4 g5 g6 g7 g8 g9 g10 g11 g12 g13 g14 g15 g16 g17 g18 g19) → va_S A s.heap H locs → lv_has ls 6 [(0, .ref (a 0))] → f_Ref_inside_0  g6 g7 g8 g9 g10 g11 g13 g14 g15 g16 g17 g18 g19 = some r0 → W p l e rm_Ref_inside s m args below meth c H locs 0 0 (MQ below (va_Qi (fun (r : Int32) (_ : Unit) => r = r0.1) (fun _ t => va_P D CLS (wR a q g0 g1 g2 g3 g4 g5 g6 g7 r0.2.1 r0.2.2.1 r0.2.2.2.1 r0.2.2.2.2.1 g12 r0.2.2.2.2.2.1 r0.2.2.2.2.2.2.1 r0.2.2.2.2.2.2.2.1 r0.2.2.2.2.2.2.2.2.1 r0.2.2.2.2.2.2.2.2.2.1 r0.2.2.2.2.2.2.2.2.2.2.1 r0.2.2.2.2.2.2.2.2.2.2.2) t.heap) A) args s 0 0 A) (F0 m 0 ls []) := by
  obtain ⟨hx, hb, hml, hown, hts, hr, hlocks⟩ := id hC
  intro g8 g9 g10 g11 g13 g14 g15 g16 g17 g18 g19 H locs ls hP hD hS hl h
  rw [f_Ref_inside_0] at h
  refine lv_aload_n hx hb (dt_at dt_Ref_inside 0 rfl) rfl (lv_at hl 0 rfl) ?_
  obtain ⟨r1, h_r1, h⟩ := ob_of h
  have hF := va_free (wc := dR a) (dD (ws' := dR a) hD rfl) hS hA [0, 1, 2, 3, 4, 5, 6] rfl
  have hd : va_D (fun _ => True) (dR a) := (dD (ws' := dR a) hD rfl).weaken (fun _ _ _ _ => trivial)
  refine va_callv (va_runV (As := []) (rest := []) ⟨hx, hb, hml, hown, hts⟩ (c_Ref_spaces l D a q hd H.size  g0 g1 g2 g3 g4 g5 g6 g7 g8 g9 g10 g11 g12 g13 g14 g15 g16 g17 g18 g19 r1 h_r1) (cwV 0 hts (gd_V (m_5 23 rfl rfl) (m_5 25 rfl rfl) (m_s 53 rfl rfl) (m_1 4 rfl rfl) (m_5 26 rfl rfl)) rfl rfl rfl (by decide +kernel) ⟨Nat.le_of_ble_eq_true rfl, Nat.le_of_ble_eq_true rfl⟩) ⟨fun a U g mk q => ⟨q.1, q.2.1, q.2.2.1, va_K.moved (u := U) (U := U.calling g mk a) (Vm.Alike.refl U.vm) q.2.2.2⟩, va_recv hK hP (ci := 0) (q0 := 0) rfl rfl, fun U hU hW => ⟨rfl, by rw [hU], by rw [hU]; exact hP, va_K.moved hW.alike hK⟩⟩ rfl rfl hl.1 rfl (lv_room (Nat.le_of_ble_eq_true rfl)) (dt_at dt_Ref_inside 1 rfl) ⟨Nat.le_of_ble_eq_true rfl, Nat.le_of_ble_eq_true rfl⟩) hS (fun x _ h9 => hF x h9) hF (fun uu t H locs ht hvm hw hB hz1 hk1 hS => ?_)
  rw [ht] at hB
  have hP : va_P D CLS (wR a q g0 g1 g2 g3 g4 g5 g6 g7 g8 g9 g10 g11 g12 r1 g14 g15 g16 g17 g18 g19) H := hB
  have hD : va_D A (wR a q g0 g1 g2 g3 g4 g5 g6 g7 g8 g9 g10 g11 g12 r1 g14 g15 g16 g17 g18 g19) := dD hD rfl
  refine lv_aload_n hx hb (dt_at dt_Ref_inside 2 rfl) rfl (lv_at hl 0 rfl) ?_
  refine va_get (D := D) (ci := 0) (v := .int r1) (C := "OutwardTapeModel") (T := T_Ref) (N := 20) hx hb hts in_Ref hown hK hP 0 rfl rfl 13 (by decide) (hts (Cond.fieldLink "OutwardTapeModel" 221 "OutwardTapeModel" "place" "I") (m_4 12 rfl rfl)) (fun _ h9 => h9) rfl (dt_at dt_Ref_inside 3 rfl) ?_
  refine lv_istore_n (lv' := [(1, .int r1), (0, .ref (a 0))]) hx hb (dt_at dt_Ref_inside 4 rfl) rfl hl (by decide) rfl (fun ls hl => ?_)
  refine lv_aload_n hx hb (dt_at dt_Ref_inside 5 rfl) rfl (lv_at hl 1 rfl) ?_
  obtain ⟨r2, h_r2, h⟩ := ob_of h
  have hF := va_free (wc := dR a) (dD (ws' := dR a) hD rfl) hS hA [0, 1, 2, 3, 4, 5, 6] rfl
  have hd : va_D (fun _ => True) (dR a) := (dD (ws' := dR a) hD rfl).weaken (fun _ _ _ _ => trivial)
  refine va_calll (va_runV (As := []) (rest := []) ⟨hx, hb, hml, hown, hts⟩ (c_Ref_word l D a q hd H.size  g0 g1 g2 g3 g4 g5 g6 g7 g8 g9 g10 g11 g12 r1 g14 g15 g16 g17 g18 g19 r2 h_r2) (cwV 0 hts (gd_V (m_5 27 rfl rfl) (m_5 29 rfl rfl) (m_s 54 rfl rfl) (m_1 4 rfl rfl) (m_5 30 rfl rfl)) rfl rfl rfl (by decide +kernel) ⟨Nat.le_of_ble_eq_true rfl, Nat.le_of_ble_eq_true rfl⟩) ⟨fun a U g mk q => ⟨q.1, q.2.1, q.2.2.1, va_K.moved (u := U) (U := U.calling g mk a) (Vm.Alike.refl U.vm) q.2.2.2⟩, va_recv hK hP (ci := 0) (q0 := 0) rfl rfl, fun U hU hW => ⟨rfl, by rw [hU], by rw [hU]; exact hP, va_K.moved hW.alike hK⟩⟩ rfl rfl hl.1 rfl (lv_room (Nat.le_of_ble_eq_true rfl)) (dt_at dt_Ref_inside 6 rfl) ⟨Nat.le_of_ble_eq_true rfl, Nat.le_of_ble_eq_true rfl⟩) hS (fun x _ h9 => hF x h9) hF (fun u_r2 uu t H locs ht hvm hw hB hz1 hk1 hS => ?_)
  rw [ht] at hB
  subst hw
  have hP : va_P D CLS (wR a q g0 g1 g2 g3 g4 g5 g6 g7 g8 g9 g10 g11 g12 r2.2 g14 g15 g16 g17 g18 g19) H := hB
  have hD : va_D A (wR a q g0 g1 g2 g3 g4 g5 g6 g7 g8 g9 g10 g11 g12 r2.2 g14 g15 g16 g17 g18 g19) := dD hD rfl
  obtain ⟨t3, e_t3, h⟩ := ol_of h
  refine lv_topl (fun u_t3 q_t3 => ?_)
  obtain rfl : t3 = u_t3 := e_t3.trans q_t3.symm
  refine lv_lstore_n (lv' := [(2, .long t3), (1, .int r1), (0, .ref (a 0))]) hx hb (dt_at dt_Ref_inside 7 rfl) rfl hl (by decide) rfl (fun ls hl => ?_)
  refine lv_lload_n hx hb (dt_at dt_Ref_inside 8 rfl) rfl (lv_at hl 0 rfl) ?_
  refine lv_lconst (v := 0) hx hb (dt_at dt_Ref_inside 9 rfl) (by decide) ?_
  refine lc_eq (tgt := 142) hx hb (dt_at dt_Ref_inside 10 rfl) (dt_at dt_Ref_inside 11 rfl) (by decide) (fun c4 => ?_) (fun c4 => ?_)
  · have h := if_p h c4
    exact k_Ref_inside_142 hC hA hK   r1 g8 g9 g10 g11 r2.2 g14 g15 g16 g17 g18 g19 H locs ls hP hD hS (lv_sub hl [2, 1] rfl) h
  · have h := if_n h c4
    refine lv_bipush (v := 101) hx hb (dt_at dt_Ref_inside 12 rfl) (by decide) ?_
    refine lv_bipush (v := 109) hx hb (dt_at dt_Ref_inside 13 rfl) (by decide) ?_
    refine lv_bipush (v := 112) hx hb (dt_at dt_Ref_inside 14 rfl) (by decide) ?_
    obtain ⟨r5, h_r5, h⟩ := ob_of h
    refine vp_callSl (W.runS (As := [.int (101 : Int32), .int (109 : Int32), .int (112 : Int32)]) (rest := []) ⟨hx, hb, hml, hown, hts⟩ (c_Ref_spelt l (101 : Int32) (109 : Int32) (112 : Int32) r5 h_r5) (va_cwS 3 hts (gd_S (m_5 38 rfl rfl) (m_5 39 rfl rfl) (m_1 4 rfl rfl) (m_5 40 rfl rfl)) rfl rfl rfl (by decide +kernel) ⟨Nat.le_of_ble_eq_true rfl, Nat.le_of_ble_eq_true rfl⟩) ⟨fun _ _ _ _ q => q, fun U hU hW => ⟨rfl, trivial⟩⟩ rfl rfl hl.1 rfl (lv_room (Nat.le_of_ble_eq_true rfl)) (dt_at dt_Ref_inside 15 rfl) ⟨Nat.le_of_ble_eq_true rfl, Nat.le_of_ble_eq_true rfl⟩) (fun u_r5 q_r5 => ?_)
    obtain rfl : r5 = u_r5 := q_r5.symm
    refine lv_ldc2 (v := 1024) hx hb hown (hts (Cond.constantLong "OutwardTapeModel" 236 (1024)) (m_5 41 rfl rfl)) (dt_at dt_Ref_inside 16 rfl) ?_
    refine lv_lmul hx hb (dt_at dt_Ref_inside 17 rfl) ?_
    refine lv_ldc2 (v := 640) hx hb hown (hts (Cond.constantLong "OutwardTapeModel" 266 (640)) (m_5 42 rfl rfl)) (dt_at dt_Ref_inside 18 rfl) ?_
    refine lv_ladd hx hb (dt_at dt_Ref_inside 19 rfl) ?_
    refine lv_ldc2 (v := 25) hx hb hown (hts (Cond.constantLong "OutwardTapeModel" 268 (25)) (m_5 43 rfl rfl)) (dt_at dt_Ref_inside 20 rfl) ?_
    refine lv_ladd hx hb (dt_at dt_Ref_inside 21 rfl) ?_
    obtain ⟨t6, e_t6, h⟩ := ol_of h
    refine lv_topl (fun u_t6 q_t6 => ?_)
    obtain rfl : t6 = u_t6 := e_t6.trans q_t6.symm
    refine lv_lstore (lv' := [(4, .long t6), (2, .long t3), (1, .int r1), (0, .ref (a 0))]) hx hb (dt_at dt_Ref_inside 22 rfl) hl (by decide) rfl (fun ls hl => ?_)
    refine lv_aload_n hx hb (dt_at dt_Ref_inside 23 rfl) rfl (lv_at hl 3 rfl) ?_
    obtain ⟨r7, h_r7, h⟩ := ob_of h
    have hF := va_free (wc := dR a) (dD (ws' := dR a) hD rfl) hS hA [0, 1, 2, 3, 4, 5, 6] rfl
    have hd : va_D (fun _ => True) (dR a) := (dD (ws' := dR a) hD rfl).weaken (fun _ _ _ _ => trivial)
    refine va_callv (va_runV (As := []) (rest := []) ⟨hx, hb, hml, hown, hts⟩ (c_Ref_spaces l D a q hd H.size  g0 g1 g2 g3 g4 g5 g6 g7 g8 g9 g10 g11 g12 r2.2 g14 g15 g16 g17 g18 g19 r7 h_r7) (cwV 0 hts (gd_V (m_5 23 rfl rfl) (m_5 25 rfl rfl) (m_s 53 rfl rfl) (m_1 4 rfl rfl) (m_5 26 rfl rfl)) rfl rfl rfl (by decide +kernel) ⟨Nat.le_of_ble_eq_true rfl, Nat.le_of_ble_eq_true rfl⟩) ⟨fun a U g mk q => ⟨q.1, q.2.1, q.2.2.1, va_K.moved (u := U) (U := U.calling g mk a) (Vm.Alike.refl U.vm) q.2.2.2⟩, va_recv hK hP (ci := 0) (q0 := 0) rfl rfl, fun U hU hW => ⟨rfl, by rw [hU], by rw [hU]; exact hP, va_K.moved hW.alike hK⟩⟩ rfl rfl hl.1 rfl (lv_room (Nat.le_of_ble_eq_true rfl)) (dt_at dt_Ref_inside 24 rfl) ⟨Nat.le_of_ble_eq_true rfl, Nat.le_of_ble_eq_true rfl⟩) hS (fun x _ h9 => hF x h9) hF (fun uu t H locs ht hvm hw hB hz1 hk1 hS => ?_)
    rw [ht] at hB
    have hP : va_P D CLS (wR a q g0 g1 g2 g3 g4 g5 g6 g7 g8 g9 g10 g11 g12 r7 g14 g15 g16 g17 g18 g19) H := hB
    have hD : va_D A (wR a q g0 g1 g2 g3 g4 g5 g6 g7 g8 g9 g10 g11 g12 r7 g14 g15 g16 g17 g18 g19) := dD hD rfl
    refine lv_lload_n hx hb (dt_at dt_Ref_inside 25 rfl) rfl (lv_at hl 1 rfl) ?_
    refine lv_lload hx hb (dt_at dt_Ref_inside 26 rfl) (lv_at hl 0 rfl) ?_
    refine lc_eq (tgt := 88) hx hb (dt_at dt_Ref_inside 27 rfl) (dt_at dt_Ref_inside 28 rfl) (by decide) (fun c8 => ?_) (fun c8 => ?_)
    · have h := if_p h c8
      exact k_Ref_inside_88 hC hA hK   t3 t6 g8 g9 g10 g11 r7 g14 g15 g16 g17 g18 g19 H locs ls hP hD hS (lv_sub hl [3, 1, 0] rfl) h
    · have h := if_n h c8
      refine lv_lload_n hx hb (dt_at dt_Ref_inside 29 rfl) rfl (lv_at hl 1 rfl) ?_
      refine lv_bipush (v := 110) hx hb (dt_at dt_Ref_inside 30 rfl) (by decide) ?_
      refine lv_bipush (v := 97) hx hb (dt_at dt_Ref_inside 31 rfl) (by decide) ?_
      refine lv_bipush (v := 105) hx hb (dt_at dt_Ref_inside 32 rfl) (by decide) ?_
      obtain ⟨r9, h_r9, h⟩ := ob_of h
      refine vp_callSl (W.runS (As := [.int (110 : Int32), .int (97 : Int32), .int (105 : Int32)]) (rest := [.long t3]) ⟨hx, hb, hml, hown, hts⟩ (c_Ref_spelt l (110 : Int32) (97 : Int32) (105 : Int32) r9 h_r9) (va_cwS 3 hts (gd_S (m_5 38 rfl rfl) (m_5 39 rfl rfl) (m_1 4 rfl rfl) (m_5 40 rfl rfl)) rfl rfl rfl (by decide +kernel) ⟨Nat.le_of_ble_eq_true rfl, Nat.le_of_ble_eq_true rfl⟩) ⟨fun _ _ _ _ q => q, fun U hU hW => ⟨rfl, trivial⟩⟩ rfl rfl hl.1 rfl (lv_room (Nat.le_of_ble_eq_true rfl)) (dt_at dt_Ref_inside 33 rfl) ⟨Nat.le_of_ble_eq_true rfl, Nat.le_of_ble_eq_true rfl⟩) (fun u_r9 q_r9 => ?_)
      obtain rfl : r9 = u_r9 := q_r9.symm
      refine lc_eq (tgt := 88) hx hb (dt_at dt_Ref_inside 34 rfl) (dt_at dt_Ref_inside 35 rfl) (by decide) (fun c10 => ?_) (fun c10 => ?_)
      · have h := if_p h c10
        exact k_Ref_inside_88 hC hA hK   t3 t6 g8 g9 g10 g11 r7 g14 g15 g16 g17 g18 g19 H locs ls hP hD hS (lv_sub hl [3, 1, 0] rfl) h
      · have h := if_n h c10
        refine lv_lload_n hx hb (dt_at dt_Ref_inside 36 rfl) rfl (lv_at hl 1 rfl) ?_
        refine lv_bipush (v := 101) hx hb (dt_at dt_Ref_inside 37 rfl) (by decide) ?_
        refine lv_bipush (v := 110) hx hb (dt_at dt_Ref_inside 38 rfl) (by decide) ?_
        refine lv_bipush (v := 116) hx hb (dt_at dt_Ref_inside 39 rfl) (by decide) ?_
        refine lv_bipush (v := 105) hx hb (dt_at dt_Ref_inside 40 rfl) (by decide) ?_
        refine lv_bipush (v := 114) hx hb (dt_at dt_Ref_inside 41 rfl) (by decide) ?_
        refine lv_bipush (v := 101) hx hb (dt_at dt_Ref_inside 42 rfl) (by decide) ?_
        obtain ⟨r11, h_r11, h⟩ := ob_of h
        refine vp_callSl (W.runS (As := [.int (101 : Int32), .int (110 : Int32), .int (116 : Int32), .int (105 : Int32), .int (114 : Int32), .int (101 : Int32)]) (rest := [.long t3]) ⟨hx, hb, hml, hown, hts⟩ (c_Ref_speltSix l (101 : Int32) (110 : Int32) (116 : Int32) (105 : Int32) (114 : Int32) (101 : Int32) r11 h_r11) (va_cwS 6 hts (gd_S (m_5 44 rfl rfl) (m_5 45 rfl rfl) (m_1 4 rfl rfl) (m_5 46 rfl rfl)) rfl rfl rfl (by decide +kernel) ⟨Nat.le_of_ble_eq_true rfl, Nat.le_of_ble_eq_true rfl⟩) ⟨fun _ _ _ _ q => q, fun U hU hW => ⟨rfl, trivial⟩⟩ rfl rfl hl.1 rfl (lv_room (Nat.le_of_ble_eq_true rfl)) (dt_at dt_Ref_inside 43 rfl) ⟨Nat.le_of_ble_eq_true rfl, Nat.le_of_ble_eq_true rfl⟩) (fun u_r11 q_r11 => ?_)
        obtain rfl : r11 = u_r11 := q_r11.symm
        refine lc_ne (tgt := 142) hx hb (dt_at dt_Ref_inside 44 rfl) (dt_at dt_Ref_inside 45 rfl) (by decide) (fun c12 => ?_) (fun c12 => ?_)
        · have h := if_n h c12
          exact k_Ref_inside_142 hC hA hK   r1 g8 g9 g10 g11 r7 g14 g15 g16 g17 g18 g19 H locs ls hP hD hS (lv_sub hl [3, 2] rfl) h
        · have h := if_p h c12
          exact k_Ref_inside_88 hC hA hK   t3 t6 g8 g9 g10 g11 r7 g14 g15 g16 g17 g18 g19 H locs ls hP hD hS (lv_sub hl [3, 1, 0] rfl) h
set_option maxRecDepth 100000 in
set_option maxHeartbeats 4000000 in
theorem c_Ref_inside (l : Launch) (D : va_G) (a : Nat → Nat) (q : Nat → ClassId) (hd : va_D (fun _ => True) (dR a)) (sz : Nat)  (g0 : Int32) (g1 : Nat → Int32) (g2 : Nat → Int64) (g3 : Nat → Int64) (g4 : Nat → Int32) (g5 : Int32) (g6 : Nat → Int32) (g7 : Int32) (g8 : Nat → Int32) (g9 : Int32) (g10 : Int64) (g11 : Int64) (g12 : Int32) (g13 : Int32) (g14 : Int32) (g15 : Int64) (g16 : Int32) (g17 : Int32) (g18 : Int64) (g19 : Int32) (r0 : Int32 × (Nat → Int32) × Int32 × Int64 × Int64 × Int32 × Int32 × Int64 × Int32 × Int32 × Int64 × Int32) (h : f_Ref_inside g6 g7 g8 g9 g10 g11 g13 g14 g15 g16 g17 g18 g19 = some r0) : Met l (⟨"OutwardTapeModel", "inside", "()I"⟩ : MethodName) (WSm (⟨"OutwardTapeModel", "inside", "()I"⟩ : MethodName) prog_12_method_63_code 6 (some .int)) rm_Ref_inside (va_Pc [.ref (a 0)] (fun U => U.heap.size = sz ∧ va_P D CLS (wR a q g0 g1 g2 g3 g4 g5 g6 g7 g8 g9 g10 g11 g12 g13 g14 g15 g16 g17 g18 g19) U.heap ∧ va_K D CLS (tR q) U)) (va_Qi (fun (r : Int32) (_ : Unit) => r = r0.1) (fun _ t => va_P D CLS (wR a q g0 g1 g2 g3 g4 g5 g6 g7 r0.2.1 r0.2.2.1 r0.2.2.2.1 r0.2.2.2.2.1 g12 r0.2.2.2.2.2.1 r0.2.2.2.2.2.2.1 r0.2.2.2.2.2.2.2.1 r0.2.2.2.2.2.2.2.2.1 r0.2.2.2.2.2.2.2.2.2.1 r0.2.2.2.2.2.2.2.2.2.2.1 r0.2.2.2.2.2.2.2.2.2.2.2) t.heap) (va_A (dR a) sz)) 0 0 (va_A (dR a) sz) := by
  refine Met.ofW (cc := prog_12_method_63_code) (maxL := 6) (ret := (some .int)) (by decide) rfl ?_
  intro p e s m args below meth c s₁ B hml hv
  obtain ⟨rfl, hsz, hP, hK⟩ := hv
  subst hsz
  have hC := CX.of B hml rfl
  have hl := lv_entry [.ref (a 0)] (n := 6) (Nat.le_of_ble_eq_true rfl)
  rw [lg_entry_eq]
  generalize (lg_sl [.ref (a 0)] ++ List.replicate (6 - (lg_sl [.ref (a 0)]).length) Slot.unset).toArray = ls at hl ⊢
  have hl : lv_has ls 6 [(0, .ref (a 0))] := hl
  exact k_Ref_inside_0 hC (fun x h => Or.inr h) hK  g8 g9 g10 g11 g13 g14 g15 g16 g17 g18 g19 s.heap [] ls hP (dD hd.self rfl) va_S.rf (lv_sub hl [0] rfl) h
