-- written by wip/gen/thr.py
abbrev rm_Tape_literal : Room := { frames := 8, cells := 4, slots := 12, locals := 190 }
set_option maxRecDepth 100000 in
set_option maxHeartbeats 4000000 in
theorem k_Tape_literal_0 {p : Program} {l : Launch} {e : Env} {s : State} {m : MethodId} {args : Array Value} {below : List Frame} {meth : Method} {c : Code} {D : va_G} {a : Nat → Nat} {q : Nat → ClassId} {A : Nat → Prop} (hC : CX p s m args meth c prog_1_method_5_code 1 "OutwardTape" (some .int)) (hA : ∀ x, s.heap.size ≤ x → A x) (hK : va_K D CLS (tT q) s) {n0 : Nat} {adK adV : Nat → Nat} (hSt : isS n0 adK adV s) (hAn : ∀ x, A x → n0 ≤ x) {g0 : Int32} {g2 : Nat → Int32} {r0 : Int32 × Int32 × Int32 × Int32 × (Nat → Int32) × Int32 × Int64 × Int32 × Int32 × (Nat → Int32) × Int32 × Int64 × Int32 × Int32 × (Nat → Int32) × (Nat → Option (Int64 × Int64 × Int32))} : ∀  (g1 : Int32) (g4 : Int32) (g5 : Int32) (g6 : Nat → Int32) (g7 : Int32) (g8 : Int64) (g9 : Int32) (g10 : Int32) (g11 : Nat → Int32) (g12 : Int32) (g13 : Int64) (g14 : Int32) (g15 : Int32) (g16 : Nat → Int32) (g17 : Nat → Option (Int64 × Int64 × Int32)) (g3 : Nat → Option Nat) (ls : Array Slot), va_P D CLS (wT a q (a 5) (a 7) g0 g1 g2 g3 g4 g5 g6 g7 g8 g9 g10 g11 g12 g13 g14 g15 g16) s.heap → va_D A (wT a q (a 5) (a 7) g0 g1 g2 g3 g4 g5 g6 g7 g8 g9 g10 g11 g12 g13 g14 g15 g16) → tapeC D (dT a) g3 g17 s.heap → lv_has ls 1 [(0, .ref (a 0))] → f_Tape_literal_0  g0 g1 g2 g4 g5 g6 g7 g8 g9 g10 g11 g12 g13 g14 g15 g16 g17 = some (.inr r0) → W p l e rm_Tape_literal s m args below meth c s.heap [] 0 0 (MQ below (va_Qi (fun (r : Int32) (_ : Unit) => r = r0.1) (fun _ t => ∃ g3n : Nat → Option Nat, va_P D CLS (wT a q (a 5) (a 7) g0 r0.2.1 g2 g3n r0.2.2.1 r0.2.2.2.1 r0.2.2.2.2.1 r0.2.2.2.2.2.1 r0.2.2.2.2.2.2.1 r0.2.2.2.2.2.2.2.1 r0.2.2.2.2.2.2.2.2.1 r0.2.2.2.2.2.2.2.2.2.1 r0.2.2.2.2.2.2.2.2.2.2.1 r0.2.2.2.2.2.2.2.2.2.2.2.1 r0.2.2.2.2.2.2.2.2.2.2.2.2.1 r0.2.2.2.2.2.2.2.2.2.2.2.2.2.1 r0.2.2.2.2.2.2.2.2.2.2.2.2.2.2.1) t.heap ∧ tapeC D (dT a) g3n r0.2.2.2.2.2.2.2.2.2.2.2.2.2.2.2 t.heap) A) args s 4 12 A) (F0 m 0 ls []) := by
  obtain ⟨hx, hb, hml, hown, hts, hr, hlocks⟩ := id hC
  intro g1 g4 g5 g6 g7 g8 g9 g10 g11 g12 g13 g14 g15 g16 g17 g3 ls hP hD hT hl h
  rw [f_Tape_literal_0] at h
  have hS : va_S A s.heap s.heap [] := va_S.rf
  have hSz : s.heap.size ≤ s.heap.size := Nat.le_refl _
  refine lv_aload_n hx hb (dt_at dt_Tape_literal 0 rfl) rfl (lv_at hl 0 rfl) ?_
  refine va_get (D := D) (ci := 1) (v := .int g1) (C := "OutwardTape") (T := T_Tape) (N := 5) hx hb hts in_Tape hown hK hP 0 rfl rfl 3 (by decide) (hts (Cond.fieldLink "OutwardTape" 23 "OutwardTape" "count" "I") (m_1 82 rfl rfl)) (fun _ h9 => h9) rfl (dt_at dt_Tape_literal 1 rfl) ?_
  refine lv_bipush (v := 40) hx hb (dt_at dt_Tape_literal 2 rfl) (by decide) ?_
  refine lv_icmp_lt (tgt := 19) hx hb (dt_at dt_Tape_literal 3 rfl) (by decide) (fun c1 => ?_) (fun c1 => ?_)
  · have h := if_p h c1
    refine lv_aload_n hx hb (dt_at dt_Tape_literal 9 rfl) rfl (lv_at hl 0 rfl) ?_
    refine lv_aload_n hx hb (dt_at dt_Tape_literal 10 rfl) rfl (lv_at hl 0 rfl) ?_
    refine va_get (D := D) (ci := 1) (v := .ref (a 3)) (C := "OutwardTape") (T := T_Tape) (N := 5) hx hb hts in_Tape hown hK hP 0 rfl rfl 4 (by decide) (hts (Cond.fieldLink "OutwardTape" 29 "OutwardTape" "reader" "LOutwardTape$LiteralReader;") (m_1 83 rfl rfl)) (fun _ h9 => h9) rfl (dt_at dt_Tape_literal 11 rfl) ?_
    refine lv_aload_n hx hb (dt_at dt_Tape_literal 12 rfl) rfl (lv_at hl 0 rfl) ?_
    refine va_get (D := D) (ci := 1) (v := .ref (a 1)) (C := "OutwardTape") (T := T_Tape) (N := 5) hx hb hts in_Tape hown hK hP 0 rfl rfl 0 (by decide) (hts (Cond.fieldLink "OutwardTape" 9 "OutwardTape" "text" "[C") (m_1 79 rfl rfl)) (fun _ h9 => h9) rfl (dt_at dt_Tape_literal 13 rfl) ?_
    refine lv_aload_n hx hb (dt_at dt_Tape_literal 14 rfl) rfl (lv_at hl 0 rfl) ?_
    refine va_get (D := D) (ci := 1) (v := .int g0) (C := "OutwardTape") (T := T_Tape) (N := 5) hx hb hts in_Tape hown hK hP 0 rfl rfl 1 (by decide) (hts (Cond.fieldLink "OutwardTape" 13 "OutwardTape" "characters" "I") (m_1 80 rfl rfl)) (fun _ h9 => h9) rfl (dt_at dt_Tape_literal 15 rfl) ?_
    obtain ⟨r2, h_r2, h⟩ := ob_of h
    have hPc := hP
    have hDc : va_D A (dT a) := dD (ws' := dT a) hD rfl
    have hKc := hK
    have hF := va_free (wc := dT a) hDc hS hA [0, 1, 2, 3, 4, 5, 6, 7, 8] rfl
    have hd : va_D (fun _ => True) (dT a) := hDc.weaken (fun _ _ _ _ => trivial)
    refine va_callr (va_runV (As := [.ref (a 1), .int g0]) (rest := [.ref (a 0)]) ⟨hx, hb, hml, hown, hts⟩ (c_Rd_read l D a q  hd s.heap.size g0 g0 g1 g2 g3 g4 g5 g6 g7 g8 g9 g10 g11 g12 g13 g14 g15 g16  n0 adK adV (fun x h9 => hAn x (hF x h9))  r2 h_r2) (cwV 2 hts (gd_V (m_2 89 rfl rfl) (m_2 90 rfl rfl) (m_2 91 rfl rfl) (m_1 2 rfl rfl) (m_2 92 rfl rfl)) rfl rfl rfl (by decide +kernel) ⟨Nat.le_of_ble_eq_true rfl, Nat.le_of_ble_eq_true rfl⟩) ⟨fun a U g mk q => ⟨q.1, q.2.1, q.2.2.1, va_K.moved (u := U) (U := U.calling g mk a) (Vm.Alike.refl U.vm) q.2.2.2.1, isS.call q.2.2.2.2⟩, va_recv hK hP (ci := 2) (q0 := 3) rfl rfl, fun U hU hW => ⟨rfl, by rw [hU], by rw [hU]; exact hPc, va_K.moved hW.alike hKc, hSt.go hS hAn hU hW⟩⟩ rfl rfl hl.1 rfl (lv_room (Nat.le_of_ble_eq_true rfl)) (dt_at dt_Tape_literal 16 rfl) ⟨Nat.le_of_ble_eq_true rfl, Nat.le_of_ble_eq_true rfl⟩) hS (fun x _ h9 => hF x h9) hF (fun uu y_r2 t H1 locs ht hvm hw hB hz1 hk1 hS => ?_)
    obtain ⟨hB, hc_r2, hq_r2⟩ := hB
    rw [ht] at hc_r2
    have hn_r2 : nin (dT a) y_r2 := nin_cases hq_r2 (fun g9 => nin_big hP g9 rfl) (fun g9 => by simp at g9)
    clear hq_r2
    have hT := hT.kept hk1
    rw [ht] at hB
    have hP : va_P D CLS (wT a q (a 5) (a 7) g0 g1 g2 g3 r2.2.2.2.1 r2.2.2.2.2.1 r2.2.2.2.2.2.1 r2.2.2.2.2.2.2.1 r2.2.2.2.2.2.2.2.1 r2.2.2.2.2.2.2.2.2.1 r2.2.2.2.2.2.2.2.2.2.1 r2.2.2.2.2.2.2.2.2.2.2.1 r2.2.2.2.2.2.2.2.2.2.2.2.1 r2.2.2.2.2.2.2.2.2.2.2.2.2.1 r2.2.2.2.2.2.2.2.2.2.2.2.2.2.1 r2.2.2.2.2.2.2.2.2.2.2.2.2.2.2.1 r2.2.2.2.2.2.2.2.2.2.2.2.2.2.2.2) H1 := hB
    have hD : va_D A (wT a q (a 5) (a 7) g0 g1 g2 g3 r2.2.2.2.1 r2.2.2.2.2.1 r2.2.2.2.2.2.1 r2.2.2.2.2.2.2.1 r2.2.2.2.2.2.2.2.1 r2.2.2.2.2.2.2.2.2.1 r2.2.2.2.2.2.2.2.2.2.1 r2.2.2.2.2.2.2.2.2.2.2.1 r2.2.2.2.2.2.2.2.2.2.2.2.1 r2.2.2.2.2.2.2.2.2.2.2.2.2.1 r2.2.2.2.2.2.2.2.2.2.2.2.2.2.1 r2.2.2.2.2.2.2.2.2.2.2.2.2.2.2.1 r2.2.2.2.2.2.2.2.2.2.2.2.2.2.2.2) := dD hD rfl
    refine W.widen (k := 4) (n := 12) (Nat.le_of_ble_eq_true rfl) (Nat.le_of_ble_eq_true rfl) ?_
    have hSz : s.heap.size ≤ H1.size := hS.1
    clear hk1 hz1 hPc hF hB ht
    generalize H1 = H at hP hS hSz hc_r2 hT ⊢
    obtain ⟨r3, h_r3, h⟩ := ob_of h
    have hPc := hP
    have hDc : va_D A (dT a) := dD (ws' := dT a) hD rfl
    have hKc := hK
    have hF := va_free (wc := dT a) hDc hS hA [0, 1, 2, 3, 4, 5, 6, 7, 8] rfl
    have hd : va_D (fun _ => True) (dT a) := hDc.weaken (fun _ _ _ _ => trivial)
    refine va_calli (va_runV (As := [.ref y_r2]) (rest := []) ⟨hx, hb, hml, hown, hts⟩ (c_Tape_append l D a q (a 5) (a 7) hd H.size r2.1 r2.2.1 r2.2.2.1 g0 g1 g2 g3 r2.2.2.2.1 r2.2.2.2.2.1 r2.2.2.2.2.2.1 r2.2.2.2.2.2.2.1 r2.2.2.2.2.2.2.2.1 r2.2.2.2.2.2.2.2.2.1 r2.2.2.2.2.2.2.2.2.2.1 r2.2.2.2.2.2.2.2.2.2.2.1 r2.2.2.2.2.2.2.2.2.2.2.2.1 r2.2.2.2.2.2.2.2.2.2.2.2.2.1 r2.2.2.2.2.2.2.2.2.2.2.2.2.2.1 r2.2.2.2.2.2.2.2.2.2.2.2.2.2.2.1 r2.2.2.2.2.2.2.2.2.2.2.2.2.2.2.2 g17 y_r2 hn_r2 r3 h_r3) (cwV 1 hts (gd_V (m_3 68 rfl rfl) (m_3 70 rfl rfl) (m_s 21 rfl rfl) (m_1 1 rfl rfl) (m_3 71 rfl rfl)) rfl rfl rfl (by decide +kernel) ⟨Nat.le_of_ble_eq_true rfl, Nat.le_of_ble_eq_true rfl⟩) ⟨fun a U g mk q => ⟨q.1, q.2.1, q.2.2.1, va_K.moved (u := U) (U := U.calling g mk a) (Vm.Alike.refl U.vm) q.2.2.2.1, q.2.2.2.2.1, q.2.2.2.2.2⟩, va_recv hK hP (ci := 1) (q0 := 0) rfl rfl, fun U hU hW => ⟨rfl, by rw [hU], by rw [hU]; exact hPc, va_K.moved hW.alike hKc, by rw [hU]; exact hT, by rw [hU]; exact hc_r2⟩⟩ rfl rfl hl.1 rfl (lv_room (Nat.le_of_ble_eq_true rfl)) (dt_at dt_Tape_literal 17 rfl) ⟨Nat.le_of_ble_eq_true rfl, Nat.le_of_ble_eq_true rfl⟩) hS (fun x _ h9 => hF x h9) hF (fun u_r3 uu t H1 locs ht hvm hw hB hz1 hk1 hS => ?_)
    subst hw
    have hc_r2 := isC.keptA hc_r2 hk1 hn_r2
    obtain ⟨g3_4, hB, hT⟩ := hB
    rw [ht] at hT
    rw [ht] at hB
    have hP : va_P D CLS (wT a q (a 5) (a 7) g0 r3.2.1 g2 g3_4 r2.2.2.2.1 r2.2.2.2.2.1 r2.2.2.2.2.2.1 r2.2.2.2.2.2.2.1 r2.2.2.2.2.2.2.2.1 r2.2.2.2.2.2.2.2.2.1 r2.2.2.2.2.2.2.2.2.2.1 r2.2.2.2.2.2.2.2.2.2.2.1 r2.2.2.2.2.2.2.2.2.2.2.2.1 r2.2.2.2.2.2.2.2.2.2.2.2.2.1 r2.2.2.2.2.2.2.2.2.2.2.2.2.2.1 r2.2.2.2.2.2.2.2.2.2.2.2.2.2.2.1 r2.2.2.2.2.2.2.2.2.2.2.2.2.2.2.2) H1 := hB
    have hD : va_D A (wT a q (a 5) (a 7) g0 r3.2.1 g2 g3_4 r2.2.2.2.1 r2.2.2.2.2.1 r2.2.2.2.2.2.1 r2.2.2.2.2.2.2.1 r2.2.2.2.2.2.2.2.1 r2.2.2.2.2.2.2.2.2.1 r2.2.2.2.2.2.2.2.2.2.1 r2.2.2.2.2.2.2.2.2.2.2.1 r2.2.2.2.2.2.2.2.2.2.2.2.1 r2.2.2.2.2.2.2.2.2.2.2.2.2.1 r2.2.2.2.2.2.2.2.2.2.2.2.2.2.1 r2.2.2.2.2.2.2.2.2.2.2.2.2.2.2.1 r2.2.2.2.2.2.2.2.2.2.2.2.2.2.2.2) := dD hD rfl
    have hSz : s.heap.size ≤ H1.size := hS.1
    clear hk1 hz1 hPc hF hB ht
    generalize H1 = H at hP hS hSz hc_r2 hT ⊢
    obtain rfl := Sum.inr.inj (os_of h)
    exact W.iret (v := r3.1) hx hb hr (fun t ht hW => ⟨⟨_, (), rfl, rfl, ⟨g3_4, (hPt hP ht), hT.t ht⟩⟩, hS.F ht⟩) hS.2.2 (dt_at dt_Tape_literal 18 rfl)
  · have h := if_n h c1
    exact absurd (os_of h) (by simp)
set_option maxRecDepth 100000 in
set_option maxHeartbeats 4000000 in
theorem c_Tape_literal (l : Launch) (D : va_G) (a : Nat → Nat) (q : Nat → ClassId) (hd : va_D (fun _ => True) (dT a)) (sz : Nat)  (g0 : Int32) (g1 : Int32) (g2 : Nat → Int32) (g3 : Nat → Option Nat) (g4 : Int32) (g5 : Int32) (g6 : Nat → Int32) (g7 : Int32) (g8 : Int64) (g9 : Int32) (g10 : Int32) (g11 : Nat → Int32) (g12 : Int32) (g13 : Int64) (g14 : Int32) (g15 : Int32) (g16 : Nat → Int32) (g17 : Nat → Option (Int64 × Int64 × Int32))  (n0 : Nat) (adK adV : Nat → Nat) (hn0 : ∀ x, va_A (dT a) sz x → n0 ≤ x)  (r0 : Int32 × Int32 × Int32 × Int32 × (Nat → Int32) × Int32 × Int64 × Int32 × Int32 × (Nat → Int32) × Int32 × Int64 × Int32 × Int32 × (Nat → Int32) × (Nat → Option (Int64 × Int64 × Int32))) (h : f_Tape_literal g0 g1 g2 g4 g5 g6 g7 g8 g9 g10 g11 g12 g13 g14 g15 g16 g17 = some (.inr r0)) : Met l (⟨"OutwardTape", "literal", "()I"⟩ : MethodName) (WSm (⟨"OutwardTape", "literal", "()I"⟩ : MethodName) prog_1_method_5_code 1 (some .int)) rm_Tape_literal (va_Pc [.ref (a 0)] (fun U => U.heap.size = sz ∧ va_P D CLS (wT a q (a 5) (a 7) g0 g1 g2 g3 g4 g5 g6 g7 g8 g9 g10 g11 g12 g13 g14 g15 g16) U.heap ∧ va_K D CLS (tT q) U ∧ tapeC D (dT a) g3 g17 U.heap ∧ isS n0 adK adV U)) (va_Qi (fun (r : Int32) (_ : Unit) => r = r0.1) (fun _ t => ∃ g3n : Nat → Option Nat, va_P D CLS (wT a q (a 5) (a 7) g0 r0.2.1 g2 g3n r0.2.2.1 r0.2.2.2.1 r0.2.2.2.2.1 r0.2.2.2.2.2.1 r0.2.2.2.2.2.2.1 r0.2.2.2.2.2.2.2.1 r0.2.2.2.2.2.2.2.2.1 r0.2.2.2.2.2.2.2.2.2.1 r0.2.2.2.2.2.2.2.2.2.2.1 r0.2.2.2.2.2.2.2.2.2.2.2.1 r0.2.2.2.2.2.2.2.2.2.2.2.2.1 r0.2.2.2.2.2.2.2.2.2.2.2.2.2.1 r0.2.2.2.2.2.2.2.2.2.2.2.2.2.2.1) t.heap ∧ tapeC D (dT a) g3n r0.2.2.2.2.2.2.2.2.2.2.2.2.2.2.2 t.heap) (va_A (dT a) sz)) 4 12 (va_A (dT a) sz) := by
  refine Met.ofW (cc := prog_1_method_5_code) (maxL := 1) (ret := (some .int)) (by decide) rfl ?_
  intro p e s m args below meth c s₁ B hml hv
  obtain ⟨rfl, hsz, hP, hK, hT, hSt⟩ := hv
  subst hsz
  have hC := CX.of B hml rfl
  have hl := lv_entry [.ref (a 0)] (n := 1) (Nat.le_of_ble_eq_true rfl)
  rw [lg_entry_eq]
  generalize (lg_sl [.ref (a 0)] ++ List.replicate (1 - (lg_sl [.ref (a 0)]).length) Slot.unset).toArray = ls at hl ⊢
  have hl : lv_has ls 1 [(0, .ref (a 0))] := hl
  exact k_Tape_literal_0  hC (fun x h => Or.inr h) hK hSt hn0  g1 g4 g5 g6 g7 g8 g9 g10 g11 g12 g13 g14 g15 g16 g17 g3  ls hP (dD hd.self rfl) hT  (lv_sub hl [0] rfl) h
abbrev rm_Tape_bounds : Room := { frames := 6, cells := 2, slots := 6, locals := 90 }
set_option maxRecDepth 100000 in
set_option maxHeartbeats 4000000 in
theorem k_Tape_bounds_55 {p : Program} {l : Launch} {e : Env} {s : State} {m : MethodId} {args : Array Value} {below : List Frame} {meth : Method} {c : Code} {D : va_G} {a : Nat → Nat} {q : Nat → ClassId} {L : Nat} {R : Nat} {A : Nat → Prop} (hC : CX p s m args meth c prog_1_method_6_code 6 "OutwardTape" (some .int)) (hA : ∀ x, s.heap.size ≤ x → A x) (hK : va_K D CLS (tT q) s) {n0 : Nat} {adK adV : Nat → Nat} (hSt : isS n0 adK adV s) (hAn : ∀ x, A x → n0 ≤ x) {g0 : Int32} {g2 : Nat → Int32} {g4 : Int32} {g5 : Int32} {g6 : Nat → Int32} {g7 : Int32} {g8 : Int64} {g9 : Int32} {g10 : Int32} {g11 : Nat → Int32} {g12 : Int32} {g13 : Int64} {g14 : Int32} {g15 : Int32} {g16 : Nat → Int32} {r0 : Int32 × Int32 × (Nat → Option (Int64 × Int64 × Int32))} : ∀  (g1 : Int32) (g17 : Nat → Option (Int64 × Int64 × Int32)) (g3 : Nat → Option Nat) (ls : Array Slot), va_P D CLS (wT a q L R g0 g1 g2 g3 g4 g5 g6 g7 g8 g9 g10 g11 g12 g13 g14 g15 g16) s.heap → va_D A (wT a q L R g0 g1 g2 g3 g4 g5 g6 g7 g8 g9 g10 g11 g12 g13 g14 g15 g16) → tapeC D (dT a) g3 g17 s.heap → lv_has ls 6 [(0, .ref (a 0))] → f_Tape_bounds_55  g1 g17 = some (.inr r0) → W p l e rm_Tape_bounds s m args below meth c s.heap [] 0 0 (MQ below (va_Qi (fun (r : Int32) (_ : Unit) => r = r0.1) (fun _ t => ∃ g3n : Nat → Option Nat, va_P D CLS (wT a q L R g0 r0.2.1 g2 g3n g4 g5 g6 g7 g8 g9 g10 g11 g12 g13 g14 g15 g16) t.heap ∧ tapeC D (dT a) g3n r0.2.2 t.heap) A) args s 2 6 A) (F0 m 55 ls []) := by
  obtain ⟨hx, hb, hml, hown, hts, hr, hlocks⟩ := id hC
  intro g1 g17 g3 ls hP hD hT hl h
  rw [f_Tape_bounds_55] at h
  have hS : va_S A s.heap s.heap [] := va_S.rf
  have hSz : s.heap.size ≤ s.heap.size := Nat.le_refl _
  refine lv_aload_n hx hb (dt_at dt_Tape_bounds 26 rfl) rfl (lv_at hl 0 rfl) ?_
  obtain ⟨r1, h_r1, h⟩ := ob_of h
  have hPc : va_P D CLS (wE a q) s.heap := fun k q h => by simp [wE] at h
  have hd : va_D (fun _ => True) (dE a) := dE_D a
  have hKc : va_K D CLS (tE q) s := hK.sub (tys' := []) [] rfl
  have hF : ∀ x, va_A (dE a) s.heap.size x → A x := fun x h9 => h9.elim (fun ⟨k, e, h⟩ => by simp [dE] at h) (fun g => hA _ (Nat.le_trans hS.1 g))
  refine va_callr (va_runS (As := []) (rest := [.ref (a 0)]) ⟨hx, hb, hml, hown, hts⟩ (c_Cell_ill l D a q  hd s.heap.size     r1 h_r1) (va_cwS 0 hts (gd_S (m_3 96 rfl rfl) (m_2 109 rfl rfl) (m_1 10 rfl rfl) (m_2 110 rfl rfl)) rfl rfl rfl (by decide +kernel) ⟨Nat.le_of_ble_eq_true rfl, Nat.le_of_ble_eq_true rfl⟩) ⟨fun a U g mk q => ⟨q.1, q.2.1, q.2.2.1, va_K.moved (u := U) (U := U.calling g mk a) (Vm.Alike.refl U.vm) q.2.2.2⟩, fun U hU hW => ⟨rfl, by rw [hU], by rw [hU]; exact hPc, va_K.moved hW.alike hKc⟩⟩ rfl rfl hl.1 rfl (lv_room (Nat.le_of_ble_eq_true rfl)) (dt_at dt_Tape_bounds 27 rfl) ⟨Nat.le_of_ble_eq_true rfl, Nat.le_of_ble_eq_true rfl⟩) hS (fun x _ h9 => hF x h9) hF (fun uu y_r1 t H1 locs ht hvm hw hB hz1 hk1 hS => ?_)
  obtain ⟨hB, hc_r1, hq_r1⟩ := hB
  rw [ht] at hc_r1
  have hn_r1 : nin (dT a) y_r1 := nin_cases hq_r1 (fun g9 => nin_big hP g9 rfl) (fun g9 => by simp at g9)
  clear hq_r1
  have hT := hT.keptE hk1
  have hP := va_P.kept hP (fun k q hq => hk1 _ (hP k q hq).lt (not_AE (hP k q hq).lt))
  refine W.widen (k := 1) (n := 3) (Nat.le_of_ble_eq_true rfl) (Nat.le_of_ble_eq_true rfl) ?_
  have hSz : s.heap.size ≤ H1.size := hS.1
  clear hk1 hz1 hPc hF hB ht
  generalize H1 = H at hP hS hSz hc_r1 hT ⊢
  obtain ⟨r2, h_r2, h⟩ := ob_of h
  have hPc := hP
  have hDc : va_D A (dT a) := dD (ws' := dT a) hD rfl
  have hKc := hK
  have hF := va_free (wc := dT a) hDc hS hA [0, 1, 2, 3, 4, 5, 6, 7, 8] rfl
  have hd : va_D (fun _ => True) (dT a) := hDc.weaken (fun _ _ _ _ => trivial)
  refine va_calli (va_runV (As := [.ref y_r1]) (rest := []) ⟨hx, hb, hml, hown, hts⟩ (c_Tape_append l D a q L R hd H.size r1.1 r1.2.1 r1.2.2 g0 g1 g2 g3 g4 g5 g6 g7 g8 g9 g10 g11 g12 g13 g14 g15 g16 g17 y_r1 hn_r1 r2 h_r2) (cwV 1 hts (gd_V (m_3 68 rfl rfl) (m_3 70 rfl rfl) (m_s 21 rfl rfl) (m_1 1 rfl rfl) (m_3 71 rfl rfl)) rfl rfl rfl (by decide +kernel) ⟨Nat.le_of_ble_eq_true rfl, Nat.le_of_ble_eq_true rfl⟩) ⟨fun a U g mk q => ⟨q.1, q.2.1, q.2.2.1, va_K.moved (u := U) (U := U.calling g mk a) (Vm.Alike.refl U.vm) q.2.2.2.1, q.2.2.2.2.1, q.2.2.2.2.2⟩, va_recv hK hP (ci := 1) (q0 := 0) rfl rfl, fun U hU hW => ⟨rfl, by rw [hU], by rw [hU]; exact hPc, va_K.moved hW.alike hKc, by rw [hU]; exact hT, by rw [hU]; exact hc_r1⟩⟩ rfl rfl hl.1 rfl (lv_room (Nat.le_of_ble_eq_true rfl)) (dt_at dt_Tape_bounds 28 rfl) ⟨Nat.le_of_ble_eq_true rfl, Nat.le_of_ble_eq_true rfl⟩) hS (fun x _ h9 => hF x h9) hF (fun u_r2 uu t H1 locs ht hvm hw hB hz1 hk1 hS => ?_)
  subst hw
  have hc_r1 := isC.keptA hc_r1 hk1 hn_r1
  obtain ⟨g3_3, hB, hT⟩ := hB
  rw [ht] at hT
  rw [ht] at hB
  have hP : va_P D CLS (wT a q L R g0 r2.2.1 g2 g3_3 g4 g5 g6 g7 g8 g9 g10 g11 g12 g13 g14 g15 g16) H1 := hB
  have hD : va_D A (wT a q L R g0 r2.2.1 g2 g3_3 g4 g5 g6 g7 g8 g9 g10 g11 g12 g13 g14 g15 g16) := dD hD rfl
  have hSz : s.heap.size ≤ H1.size := hS.1
  clear hk1 hz1 hPc hF hB ht
  generalize H1 = H at hP hS hSz hc_r1 hT ⊢
  obtain rfl := Sum.inr.inj (os_of h)
  refine W.widen (k := 2) (n := 6) (Nat.le_of_ble_eq_true rfl) (Nat.le_of_ble_eq_true rfl) ?_
  exact W.iret (v := r2.1) hx hb hr (fun t ht hW => ⟨⟨_, (), rfl, rfl, ⟨g3_3, (hPt hP ht), hT.t ht⟩⟩, hS.F ht⟩) hS.2.2 (dt_at dt_Tape_bounds 29 rfl)
set_option maxRecDepth 100000 in
set_option maxHeartbeats 4000000 in
theorem k_Tape_bounds_12 {p : Program} {l : Launch} {e : Env} {s : State} {m : MethodId} {args : Array Value} {below : List Frame} {meth : Method} {c : Code} {D : va_G} {a : Nat → Nat} {q : Nat → ClassId} {L : Nat} {R : Nat} {A : Nat → Prop} (hC : CX p s m args meth c prog_1_method_6_code 6 "OutwardTape" (some .int)) (hA : ∀ x, s.heap.size ≤ x → A x) (hK : va_K D CLS (tT q) s) {n0 : Nat} {adK adV : Nat → Nat} (hSt : isS n0 adK adV s) (hAn : ∀ x, A x → n0 ≤ x) {g0 : Int32} {g2 : Nat → Int32} {g4 : Int32} {g5 : Int32} {g6 : Nat → Int32} {g7 : Int32} {g8 : Int64} {g9 : Int32} {g10 : Int32} {g11 : Nat → Int32} {g12 : Int32} {g13 : Int64} {g14 : Int32} {g15 : Int32} {g16 : Nat → Int32} {r0 : Int32 × Int32 × (Nat → Option (Int64 × Int64 × Int32))} : ∀  (g1 : Int32) (g17 : Nat → Option (Int64 × Int64 × Int32)) (g3 : Nat → Option Nat) (ls : Array Slot), va_P D CLS (wT a q L R g0 g1 g2 g3 g4 g5 g6 g7 g8 g9 g10 g11 g12 g13 g14 g15 g16) s.heap → va_D A (wT a q L R g0 g1 g2 g3 g4 g5 g6 g7 g8 g9 g10 g11 g12 g13 g14 g15 g16) → tapeC D (dT a) g3 g17 s.heap → lv_has ls 6 [] → f_Tape_bounds_12  g1 g17 = some (.inr r0) → W p l e rm_Tape_bounds s m args below meth c s.heap [] 0 0 (MQ below (va_Qi (fun (r : Int32) (_ : Unit) => r = r0.1) (fun _ t => ∃ g3n : Nat → Option Nat, va_P D CLS (wT a q L R g0 r0.2.1 g2 g3n g4 g5 g6 g7 g8 g9 g10 g11 g12 g13 g14 g15 g16) t.heap ∧ tapeC D (dT a) g3n r0.2.2 t.heap) A) args s 2 6 A) (F0 m 12 ls []) := by
  obtain ⟨hx, hb, hml, hown, hts, hr, hlocks⟩ := id hC
  intro g1 g17 g3 ls hP hD hT hl h
  rw [f_Tape_bounds_12] at h
  have hS : va_S A s.heap s.heap [] := va_S.rf
  have hSz : s.heap.size ≤ s.heap.size := Nat.le_refl _
  exact absurd (os_of h) (by simp)
set_option maxRecDepth 100000 in
set_option maxHeartbeats 4000000 in
theorem k_Tape_bounds_0 {p : Program} {l : Launch} {e : Env} {s : State} {m : MethodId} {args : Array Value} {below : List Frame} {meth : Method} {c : Code} {D : va_G} {a : Nat → Nat} {q : Nat → ClassId} {L : Nat} {R : Nat} {A : Nat → Prop} (hC : CX p s m args meth c prog_1_method_6_code 6 "OutwardTape" (some .int)) (hA : ∀ x, s.heap.size ≤ x → A x) (hK : va_K D CLS (tT q) s) {n0 : Nat} {adK adV : Nat → Nat} (hSt : isS n0 adK adV s) (hAn : ∀ x, A x → n0 ≤ x) {g0 : Int32} {g2 : Nat → Int32} {g4 : Int32} {g5 : Int32} {g6 : Nat → Int32} {g7 : Int32} {g8 : Int64} {g9 : Int32} {g10 : Int32} {g11 : Nat → Int32} {g12 : Int32} {g13 : Int64} {g14 : Int32} {g15 : Int32} {g16 : Nat → Int32} {r0 : Int32 × Int32 × (Nat → Option (Int64 × Int64 × Int32))} : ∀ (v1 : Int64) (v3 : Int64) (v5 : Int32) (g1 : Int32) (g17 : Nat → Option (Int64 × Int64 × Int32)) (g3 : Nat → Option Nat) (ls : Array Slot), va_P D CLS (wT a q L R g0 g1 g2 g3 g4 g5 g6 g7 g8 g9 g10 g11 g12 g13 g14 g15 g16) s.heap → va_D A (wT a q L R g0 g1 g2 g3 g4 g5 g6 g7 g8 g9 g10 g11 g12 g13 g14 g15 g16) → tapeC D (dT a) g3 g17 s.heap → lv_has ls 6 [(0, .ref (a 0)), (1, .long v1), (3, .long v3), (5, .int v5)] → f_Tape_bounds_0  v1 v3 v5 g1 g17 = some (.inr r0) → W p l e rm_Tape_bounds s m args below meth c s.heap [] 0 0 (MQ below (va_Qi (fun (r : Int32) (_ : Unit) => r = r0.1) (fun _ t => ∃ g3n : Nat → Option Nat, va_P D CLS (wT a q L R g0 r0.2.1 g2 g3n g4 g5 g6 g7 g8 g9 g10 g11 g12 g13 g14 g15 g16) t.heap ∧ tapeC D (dT a) g3n r0.2.2 t.heap) A) args s 2 6 A) (F0 m 0 ls []) := by
  obtain ⟨hx, hb, hml, hown, hts, hr, hlocks⟩ := id hC
  intro v1 v3 v5 g1 g17 g3 ls hP hD hT hl h
  rw [f_Tape_bounds_0] at h
  have hS : va_S A s.heap s.heap [] := va_S.rf
  have hSz : s.heap.size ≤ s.heap.size := Nat.le_refl _
  refine lv_iload hx hb (dt_at dt_Tape_bounds 0 rfl) (lv_at hl 3 rfl) ?_
  refine lv_iconst (v := 1) hx hb (dt_at dt_Tape_bounds 1 rfl) (by decide) ?_
  refine lv_icmp_lt (tgt := 12) hx hb (dt_at dt_Tape_bounds 2 rfl) (by decide) (fun c1 => ?_) (fun c1 => ?_)
  · have h := if_p h c1
    exact k_Tape_bounds_12 hC hA hK hSt hAn   g1 g17 g3 ls hP hD hT  (lv_sub hl [] rfl) h
  · have h := if_n h c1
    refine lv_iload hx hb (dt_at dt_Tape_bounds 3 rfl) (lv_at hl 3 rfl) ?_
    refine lv_iconst (v := 4) hx hb (dt_at dt_Tape_bounds 4 rfl) (by decide) ?_
    refine lv_icmp_le (tgt := 22) hx hb (dt_at dt_Tape_bounds 5 rfl) (by decide) (fun c2 => ?_) (fun c2 => ?_)
    · have h := if_p h c2
      refine lv_aload_n hx hb (dt_at dt_Tape_bounds 11 rfl) rfl (lv_at hl 0 rfl) ?_
      refine va_get (D := D) (ci := 1) (v := .int g1) (C := "OutwardTape") (T := T_Tape) (N := 5) hx hb hts in_Tape hown hK hP 0 rfl rfl 3 (by decide) (hts (Cond.fieldLink "OutwardTape" 23 "OutwardTape" "count" "I") (m_1 82 rfl rfl)) (fun _ h9 => h9) rfl (dt_at dt_Tape_bounds 12 rfl) ?_
      refine lv_bipush (v := 40) hx hb (dt_at dt_Tape_bounds 13 rfl) (by decide) ?_
      refine lv_icmp_lt (tgt := 41) hx hb (dt_at dt_Tape_bounds 14 rfl) (by decide) (fun c3 => ?_) (fun c3 => ?_)
      · have h := if_p h c3
        refine lv_lload_n hx hb (dt_at dt_Tape_bounds 20 rfl) rfl (lv_at hl 1 rfl) ?_
        obtain ⟨r4, h_r4, h⟩ := ob_of h
        refine vp_callSi (W.runS (As := [.long v1]) (rest := []) ⟨hx, hb, hml, hown, hts⟩ (c_Rank_isNumber l v1 r4 h_r4) (va_cwS 1 hts (gd_S (m_2 0 rfl rfl) (m_2 1 rfl rfl) (m_1 15 rfl rfl) (m_2 2 rfl rfl)) rfl rfl rfl (by decide +kernel) ⟨Nat.le_of_ble_eq_true rfl, Nat.le_of_ble_eq_true rfl⟩) ⟨fun _ _ _ _ q => q, fun U hU hW => ⟨rfl, trivial⟩⟩ rfl rfl hl.1 rfl (lv_room (Nat.le_of_ble_eq_true rfl)) (dt_at dt_Tape_bounds 21 rfl) ⟨Nat.le_of_ble_eq_true rfl, Nat.le_of_ble_eq_true rfl⟩) (fun u_r4 q_r4 => ?_)
        obtain rfl : r4 = u_r4 := q_r4.symm
        refine lv_if_eq (tgt := 55) hx hb (dt_at dt_Tape_bounds 22 rfl) (by decide) (fun c5 => ?_) (fun c5 => ?_)
        · have h := if_p h c5
          exact k_Tape_bounds_55 hC hA hK hSt hAn   g1 g17 g3 ls hP hD hT  (lv_sub hl [0] rfl) h
        · have h := if_n h c5
          refine lv_lload_n hx hb (dt_at dt_Tape_bounds 23 rfl) rfl (lv_at hl 2 rfl) ?_
          obtain ⟨r6, h_r6, h⟩ := ob_of h
          refine vp_callSi (W.runS (As := [.long v3]) (rest := []) ⟨hx, hb, hml, hown, hts⟩ (c_Rank_isNumber l v3 r6 h_r6) (va_cwS 1 hts (gd_S (m_2 0 rfl rfl) (m_2 1 rfl rfl) (m_1 15 rfl rfl) (m_2 2 rfl rfl)) rfl rfl rfl (by decide +kernel) ⟨Nat.le_of_ble_eq_true rfl, Nat.le_of_ble_eq_true rfl⟩) ⟨fun _ _ _ _ q => q, fun U hU hW => ⟨rfl, trivial⟩⟩ rfl rfl hl.1 rfl (lv_room (Nat.le_of_ble_eq_true rfl)) (dt_at dt_Tape_bounds 24 rfl) ⟨Nat.le_of_ble_eq_true rfl, Nat.le_of_ble_eq_true rfl⟩) (fun u_r6 q_r6 => ?_)
          obtain rfl : r6 = u_r6 := q_r6.symm
          refine lv_if_ne (tgt := 63) hx hb (dt_at dt_Tape_bounds 25 rfl) (by decide) (fun c7 => ?_) (fun c7 => ?_)
          · have h := if_n h c7
            refine lv_aload_n hx hb (dt_at dt_Tape_bounds 30 rfl) rfl (lv_at hl 0 rfl) ?_
            refine lv_lload_n hx hb (dt_at dt_Tape_bounds 31 rfl) rfl (lv_at hl 1 rfl) ?_
            obtain ⟨r8, h_r8, h⟩ := ob_of h
            refine vp_callSl (W.runS (As := [.long v1]) (rest := [.ref (a 0)]) ⟨hx, hb, hml, hown, hts⟩ (c_Rank_ofBits l v1 r8 h_r8) (va_cwS 1 hts (gd_S (m_2 4 rfl rfl) (m_2 5 rfl rfl) (m_1 15 rfl rfl) (m_2 6 rfl rfl)) rfl rfl rfl (by decide +kernel) ⟨Nat.le_of_ble_eq_true rfl, Nat.le_of_ble_eq_true rfl⟩) ⟨fun _ _ _ _ q => q, fun U hU hW => ⟨rfl, trivial⟩⟩ rfl rfl hl.1 rfl (lv_room (Nat.le_of_ble_eq_true rfl)) (dt_at dt_Tape_bounds 32 rfl) ⟨Nat.le_of_ble_eq_true rfl, Nat.le_of_ble_eq_true rfl⟩) (fun u_r8 q_r8 => ?_)
            obtain rfl : r8 = u_r8 := q_r8.symm
            refine lv_lload_n hx hb (dt_at dt_Tape_bounds 33 rfl) rfl (lv_at hl 2 rfl) ?_
            obtain ⟨r9, h_r9, h⟩ := ob_of h
            refine vp_callSl (W.runS (As := [.long v3]) (rest := [.long r8, .ref (a 0)]) ⟨hx, hb, hml, hown, hts⟩ (c_Rank_ofBits l v3 r9 h_r9) (va_cwS 1 hts (gd_S (m_2 4 rfl rfl) (m_2 5 rfl rfl) (m_1 15 rfl rfl) (m_2 6 rfl rfl)) rfl rfl rfl (by decide +kernel) ⟨Nat.le_of_ble_eq_true rfl, Nat.le_of_ble_eq_true rfl⟩) ⟨fun _ _ _ _ q => q, fun U hU hW => ⟨rfl, trivial⟩⟩ rfl rfl hl.1 rfl (lv_room (Nat.le_of_ble_eq_true rfl)) (dt_at dt_Tape_bounds 34 rfl) ⟨Nat.le_of_ble_eq_true rfl, Nat.le_of_ble_eq_true rfl⟩) (fun u_r9 q_r9 => ?_)
            obtain rfl : r9 = u_r9 := q_r9.symm
            refine lv_iload hx hb (dt_at dt_Tape_bounds 35 rfl) (lv_at hl 3 rfl) ?_
            obtain ⟨r10, h_r10, h⟩ := ob_of h
            have hPc : va_P D CLS (wE a q) s.heap := fun k q h => by simp [wE] at h
            have hd : va_D (fun _ => True) (dE a) := dE_D a
            have hKc : va_K D CLS (tE q) s := hK.sub (tys' := []) [] rfl
            have hF : ∀ x, va_A (dE a) s.heap.size x → A x := fun x h9 => h9.elim (fun ⟨k, e, h⟩ => by simp [dE] at h) (fun g => hA _ (Nat.le_trans hS.1 g))
            refine va_callr (va_runS (As := [.long r8, .long r9, .int v5]) (rest := [.ref (a 0)]) ⟨hx, hb, hml, hown, hts⟩ (c_Cell_between l D a q  hd s.heap.size r8 r9 v5    r10 h_r10) (va_cwS 3 hts (gd_S (m_3 97 rfl rfl) (m_3 65 rfl rfl) (m_1 10 rfl rfl) (m_3 66 rfl rfl)) rfl rfl rfl (by decide +kernel) ⟨Nat.le_of_ble_eq_true rfl, Nat.le_of_ble_eq_true rfl⟩) ⟨fun a U g mk q => ⟨q.1, q.2.1, q.2.2.1, va_K.moved (u := U) (U := U.calling g mk a) (Vm.Alike.refl U.vm) q.2.2.2⟩, fun U hU hW => ⟨rfl, by rw [hU], by rw [hU]; exact hPc, va_K.moved hW.alike hKc⟩⟩ rfl rfl hl.1 rfl (lv_room (Nat.le_of_ble_eq_true rfl)) (dt_at dt_Tape_bounds 36 rfl) ⟨Nat.le_of_ble_eq_true rfl, Nat.le_of_ble_eq_true rfl⟩) hS (fun x _ h9 => hF x h9) hF (fun uu y_r10 t H1 locs ht hvm hw hB hz1 hk1 hS => ?_)
            obtain ⟨hB, hc_r10, hq_r10⟩ := hB
            rw [ht] at hc_r10
            have hn_r10 : nin (dT a) y_r10 := nin_cases hq_r10 (fun g9 => nin_big hP g9 rfl) (fun g9 => by simp at g9)
            clear hq_r10
            have hT := hT.keptE hk1
            have hP := va_P.kept hP (fun k q hq => hk1 _ (hP k q hq).lt (not_AE (hP k q hq).lt))
            refine W.widen (k := 2) (n := 6) (Nat.le_of_ble_eq_true rfl) (Nat.le_of_ble_eq_true rfl) ?_
            have hSz : s.heap.size ≤ H1.size := hS.1
            clear hk1 hz1 hPc hF hB ht
            generalize H1 = H at hP hS hSz hc_r10 hT ⊢
            obtain ⟨r11, h_r11, h⟩ := ob_of h
            have hPc := hP
            have hDc : va_D A (dT a) := dD (ws' := dT a) hD rfl
            have hKc := hK
            have hF := va_free (wc := dT a) hDc hS hA [0, 1, 2, 3, 4, 5, 6, 7, 8] rfl
            have hd : va_D (fun _ => True) (dT a) := hDc.weaken (fun _ _ _ _ => trivial)
            refine va_calli (va_runV (As := [.ref y_r10]) (rest := []) ⟨hx, hb, hml, hown, hts⟩ (c_Tape_append l D a q L R hd H.size r10.1 r10.2.1 r10.2.2 g0 g1 g2 g3 g4 g5 g6 g7 g8 g9 g10 g11 g12 g13 g14 g15 g16 g17 y_r10 hn_r10 r11 h_r11) (cwV 1 hts (gd_V (m_3 68 rfl rfl) (m_3 70 rfl rfl) (m_s 21 rfl rfl) (m_1 1 rfl rfl) (m_3 71 rfl rfl)) rfl rfl rfl (by decide +kernel) ⟨Nat.le_of_ble_eq_true rfl, Nat.le_of_ble_eq_true rfl⟩) ⟨fun a U g mk q => ⟨q.1, q.2.1, q.2.2.1, va_K.moved (u := U) (U := U.calling g mk a) (Vm.Alike.refl U.vm) q.2.2.2.1, q.2.2.2.2.1, q.2.2.2.2.2⟩, va_recv hK hP (ci := 1) (q0 := 0) rfl rfl, fun U hU hW => ⟨rfl, by rw [hU], by rw [hU]; exact hPc, va_K.moved hW.alike hKc, by rw [hU]; exact hT, by rw [hU]; exact hc_r10⟩⟩ rfl rfl hl.1 rfl (lv_room (Nat.le_of_ble_eq_true rfl)) (dt_at dt_Tape_bounds 37 rfl) ⟨Nat.le_of_ble_eq_true rfl, Nat.le_of_ble_eq_true rfl⟩) hS (fun x _ h9 => hF x h9) hF (fun u_r11 uu t H1 locs ht hvm hw hB hz1 hk1 hS => ?_)
            subst hw
            have hc_r10 := isC.keptA hc_r10 hk1 hn_r10
            obtain ⟨g3_12, hB, hT⟩ := hB
            rw [ht] at hT
            rw [ht] at hB
            have hP : va_P D CLS (wT a q L R g0 r11.2.1 g2 g3_12 g4 g5 g6 g7 g8 g9 g10 g11 g12 g13 g14 g15 g16) H1 := hB
            have hD : va_D A (wT a q L R g0 r11.2.1 g2 g3_12 g4 g5 g6 g7 g8 g9 g10 g11 g12 g13 g14 g15 g16) := dD hD rfl
            have hSz : s.heap.size ≤ H1.size := hS.1
            clear hk1 hz1 hPc hF hB ht
            generalize H1 = H at hP hS hSz hc_r10 hT ⊢
            obtain rfl := Sum.inr.inj (os_of h)
            exact W.iret (v := r11.1) hx hb hr (fun t ht hW => ⟨⟨_, (), rfl, rfl, ⟨g3_12, (hPt hP ht), hT.t ht⟩⟩, hS.F ht⟩) hS.2.2 (dt_at dt_Tape_bounds 38 rfl)
          · have h := if_p h c7
            exact k_Tape_bounds_55 hC hA hK hSt hAn   g1 g17 g3 ls hP hD hT  (lv_sub hl [0] rfl) h
      · have h := if_n h c3
        exact absurd (os_of h) (by simp)
    · have h := if_n h c2
      exact k_Tape_bounds_12 hC hA hK hSt hAn   g1 g17 g3 ls hP hD hT  (lv_sub hl [] rfl) h
set_option maxRecDepth 100000 in
set_option maxHeartbeats 4000000 in
theorem c_Tape_bounds (l : Launch) (D : va_G) (a : Nat → Nat) (q : Nat → ClassId) (L : Nat) (R : Nat) (hd : va_D (fun _ => True) (dT a)) (sz : Nat) (a1 : Int64) (a3 : Int64) (a5 : Int32) (g0 : Int32) (g1 : Int32) (g2 : Nat → Int32) (g3 : Nat → Option Nat) (g4 : Int32) (g5 : Int32) (g6 : Nat → Int32) (g7 : Int32) (g8 : Int64) (g9 : Int32) (g10 : Int32) (g11 : Nat → Int32) (g12 : Int32) (g13 : Int64) (g14 : Int32) (g15 : Int32) (g16 : Nat → Int32) (g17 : Nat → Option (Int64 × Int64 × Int32))  (n0 : Nat) (adK adV : Nat → Nat) (hn0 : ∀ x, va_A (dT a) sz x → n0 ≤ x)  (r0 : Int32 × Int32 × (Nat → Option (Int64 × Int64 × Int32))) (h : f_Tape_bounds a1 a3 a5 g1 g17 = some (.inr r0)) : Met l (⟨"OutwardTape", "bounds", "(JJI)I"⟩ : MethodName) (WSm (⟨"OutwardTape", "bounds", "(JJI)I"⟩ : MethodName) prog_1_method_6_code 6 (some .int)) rm_Tape_bounds (va_Pc [.ref (a 0), .long a1, .long a3, .int a5] (fun U => U.heap.size = sz ∧ va_P D CLS (wT a q L R g0 g1 g2 g3 g4 g5 g6 g7 g8 g9 g10 g11 g12 g13 g14 g15 g16) U.heap ∧ va_K D CLS (tT q) U ∧ tapeC D (dT a) g3 g17 U.heap ∧ isS n0 adK adV U)) (va_Qi (fun (r : Int32) (_ : Unit) => r = r0.1) (fun _ t => ∃ g3n : Nat → Option Nat, va_P D CLS (wT a q L R g0 r0.2.1 g2 g3n g4 g5 g6 g7 g8 g9 g10 g11 g12 g13 g14 g15 g16) t.heap ∧ tapeC D (dT a) g3n r0.2.2 t.heap) (va_A (dT a) sz)) 2 6 (va_A (dT a) sz) := by
  refine Met.ofW (cc := prog_1_method_6_code) (maxL := 6) (ret := (some .int)) (by decide) rfl ?_
  intro p e s m args below meth c s₁ B hml hv
  obtain ⟨rfl, hsz, hP, hK, hT, hSt⟩ := hv
  subst hsz
  have hC := CX.of B hml rfl
  have hl := lv_entry [.ref (a 0), .long a1, .long a3, .int a5] (n := 6) (Nat.le_of_ble_eq_true rfl)
  rw [lg_entry_eq]
  generalize (lg_sl [.ref (a 0), .long a1, .long a3, .int a5] ++ List.replicate (6 - (lg_sl [.ref (a 0), .long a1, .long a3, .int a5]).length) Slot.unset).toArray = ls at hl ⊢
  have hl : lv_has ls 6 [(0, .ref (a 0)), (1, .long a1), (3, .long a3), (5, .int a5)] := hl
  exact k_Tape_bounds_0  hC (fun x h => Or.inr h) hK hSt hn0 a1 a3 a5 g1 g17 g3  ls hP (dD hd.self rfl) hT  (lv_sub hl [0, 1, 2, 3] rfl) h
abbrev rm_Tape_unary : Room := { frames := 7, cells := 2, slots := 6, locals := 187 }
set_option maxRecDepth 100000 in
set_option maxHeartbeats 4000000 in
theorem k_Tape_unary_10 {p : Program} {l : Launch} {e : Env} {s : State} {m : MethodId} {args : Array Value} {below : List Frame} {meth : Method} {c : Code} {D : va_G} {a : Nat → Nat} {q : Nat → ClassId} {L : Nat} {R : Nat} {A : Nat → Prop} (hC : CX p s m args meth c prog_1_method_7_code 3 "OutwardTape" (some .int)) (hA : ∀ x, s.heap.size ≤ x → A x) (hK : va_K D CLS (tT q) s) {n0 : Nat} {adK adV : Nat → Nat} (hSt : isS n0 adK adV s) (hAn : ∀ x, A x → n0 ≤ x) {g0 : Int32} {g2 : Nat → Int32} {g4 : Int32} {g5 : Int32} {g6 : Nat → Int32} {g7 : Int32} {g8 : Int64} {g9 : Int32} {g10 : Int32} {g11 : Nat → Int32} {g12 : Int32} {g13 : Int64} {g14 : Int32} {g15 : Int32} {g16 : Nat → Int32} {r0 : Int32 × Int32 × (Nat → Option (Int64 × Int64 × Int32))} : ∀  (g1 : Int32) (g17 : Nat → Option (Int64 × Int64 × Int32)) (g3 : Nat → Option Nat) (ls : Array Slot), va_P D CLS (wT a q L R g0 g1 g2 g3 g4 g5 g6 g7 g8 g9 g10 g11 g12 g13 g14 g15 g16) s.heap → va_D A (wT a q L R g0 g1 g2 g3 g4 g5 g6 g7 g8 g9 g10 g11 g12 g13 g14 g15 g16) → tapeC D (dT a) g3 g17 s.heap → lv_has ls 3 [] → f_Tape_unary_10  g1 g17 = some (.inr r0) → W p l e rm_Tape_unary s m args below meth c s.heap [] 0 0 (MQ below (va_Qi (fun (r : Int32) (_ : Unit) => r = r0.1) (fun _ t => ∃ g3n : Nat → Option Nat, va_P D CLS (wT a q L R g0 r0.2.1 g2 g3n g4 g5 g6 g7 g8 g9 g10 g11 g12 g13 g14 g15 g16) t.heap ∧ tapeC D (dT a) g3n r0.2.2 t.heap) A) args s 2 6 A) (F0 m 10 ls []) := by
  obtain ⟨hx, hb, hml, hown, hts, hr, hlocks⟩ := id hC
  intro g1 g17 g3 ls hP hD hT hl h
  rw [f_Tape_unary_10] at h
  have hS : va_S A s.heap s.heap [] := va_S.rf
  have hSz : s.heap.size ≤ s.heap.size := Nat.le_refl _
  exact absurd (os_of h) (by simp)
set_option maxRecDepth 100000 in
set_option maxHeartbeats 4000000 in
theorem k_Tape_unary_0 {p : Program} {l : Launch} {e : Env} {s : State} {m : MethodId} {args : Array Value} {below : List Frame} {meth : Method} {c : Code} {D : va_G} {a : Nat → Nat} {q : Nat → ClassId} {L : Nat} {R : Nat} {A : Nat → Prop} (hC : CX p s m args meth c prog_1_method_7_code 3 "OutwardTape" (some .int)) (hA : ∀ x, s.heap.size ≤ x → A x) (hK : va_K D CLS (tT q) s) {n0 : Nat} {adK adV : Nat → Nat} (hSt : isS n0 adK adV s) (hAn : ∀ x, A x → n0 ≤ x) {g0 : Int32} {g2 : Nat → Int32} {g4 : Int32} {g5 : Int32} {g6 : Nat → Int32} {g7 : Int32} {g8 : Int64} {g9 : Int32} {g10 : Int32} {g11 : Nat → Int32} {g12 : Int32} {g13 : Int64} {g14 : Int32} {g15 : Int32} {g16 : Nat → Int32} {r0 : Int32 × Int32 × (Nat → Option (Int64 × Int64 × Int32))} : ∀ (v1 : Int32) (v2 : Int32) (g1 : Int32) (g17 : Nat → Option (Int64 × Int64 × Int32)) (g3 : Nat → Option Nat) (ls : Array Slot), va_P D CLS (wT a q L R g0 g1 g2 g3 g4 g5 g6 g7 g8 g9 g10 g11 g12 g13 g14 g15 g16) s.heap → va_D A (wT a q L R g0 g1 g2 g3 g4 g5 g6 g7 g8 g9 g10 g11 g12 g13 g14 g15 g16) → tapeC D (dT a) g3 g17 s.heap → lv_has ls 3 [(0, .ref (a 0)), (1, .int v1), (2, .int v2)] → f_Tape_unary_0  v1 v2 g1 g17 = some (.inr r0) → W p l e rm_Tape_unary s m args below meth c s.heap [] 0 0 (MQ below (va_Qi (fun (r : Int32) (_ : Unit) => r = r0.1) (fun _ t => ∃ g3n : Nat → Option Nat, va_P D CLS (wT a q L R g0 r0.2.1 g2 g3n g4 g5 g6 g7 g8 g9 g10 g11 g12 g13 g14 g15 g16) t.heap ∧ tapeC D (dT a) g3n r0.2.2 t.heap) A) args s 2 6 A) (F0 m 0 ls []) := by
  obtain ⟨hx, hb, hml, hown, hts, hr, hlocks⟩ := id hC
  intro v1 v2 g1 g17 g3 ls hP hD hT hl h
  rw [f_Tape_unary_0] at h
  have hS : va_S A s.heap s.heap [] := va_S.rf
  have hSz : s.heap.size ≤ s.heap.size := Nat.le_refl _
  refine lv_iload_n hx hb (dt_at dt_Tape_unary 0 rfl) rfl (lv_at hl 1 rfl) ?_
  refine lv_if_lt (tgt := 10) hx hb (dt_at dt_Tape_unary 1 rfl) (by decide) (fun c1 => ?_) (fun c1 => ?_)
  · have h := if_p h c1
    exact k_Tape_unary_10 hC hA hK hSt hAn   g1 g17 g3 ls hP hD hT  (lv_sub hl [] rfl) h
  · have h := if_n h c1
    refine lv_iload_n hx hb (dt_at dt_Tape_unary 2 rfl) rfl (lv_at hl 1 rfl) ?_
    refine lv_bipush (v := 9) hx hb (dt_at dt_Tape_unary 3 rfl) (by decide) ?_
    refine lv_icmp_lt (tgt := 20) hx hb (dt_at dt_Tape_unary 4 rfl) (by decide) (fun c2 => ?_) (fun c2 => ?_)
    · have h := if_p h c2
      refine lv_aload_n hx hb (dt_at dt_Tape_unary 10 rfl) rfl (lv_at hl 0 rfl) ?_
      refine lv_iload_n hx hb (dt_at dt_Tape_unary 11 rfl) rfl (lv_at hl 2 rfl) ?_
      obtain ⟨r3, h_r3, h⟩ := ob_of h
      refine vp_callSi (W.runV (As := [.int v2]) (rest := []) ⟨hx, hb, hml, hown, hts⟩ (cS_Tape_isThere l D a q L R v2 g0 g1 g2 g3 g4 g5 g6 g7 g8 g9 g10 g11 g12 g13 g14 g15 g16 r3 h_r3) (cwV 1 hts (gd_V (m_1 119 rfl rfl) (m_1 121 rfl rfl) (m_s 1 rfl rfl) (m_1 1 rfl rfl) (m_1 122 rfl rfl)) rfl rfl rfl (by decide +kernel) ⟨Nat.le_of_ble_eq_true rfl, Nat.le_of_ble_eq_true rfl⟩) ⟨fun a U g mk q => ⟨q.1, q.2.1, va_K.moved (u := U) (U := U.calling g mk a) (Vm.Alike.refl U.vm) q.2.2⟩, va_recv hK hP (ci := 1) (q0 := 0) rfl rfl, fun U hU hW => ⟨rfl, by rw [hU]; exact hP, va_K.moved hW.alike hK⟩⟩ rfl rfl hl.1 rfl (lv_room (Nat.le_of_ble_eq_true rfl)) (dt_at dt_Tape_unary 12 rfl) ⟨Nat.le_of_ble_eq_true rfl, Nat.le_of_ble_eq_true rfl⟩) (fun u_q q_q => ?_)
      obtain rfl : r3 = u_q := q_q.symm
      refine lv_if_ne (tgt := 38) hx hb (dt_at dt_Tape_unary 13 rfl) (by decide) (fun c4 => ?_) (fun c4 => ?_)
      · have h := if_n h c4
        refine lv_aload_n hx hb (dt_at dt_Tape_unary 19 rfl) rfl (lv_at hl 0 rfl) ?_
        refine va_get (D := D) (ci := 1) (v := .int g1) (C := "OutwardTape") (T := T_Tape) (N := 5) hx hb hts in_Tape hown hK hP 0 rfl rfl 3 (by decide) (hts (Cond.fieldLink "OutwardTape" 23 "OutwardTape" "count" "I") (m_1 82 rfl rfl)) (fun _ h9 => h9) rfl (dt_at dt_Tape_unary 20 rfl) ?_
        refine lv_bipush (v := 40) hx hb (dt_at dt_Tape_unary 21 rfl) (by decide) ?_
        refine lv_icmp_lt (tgt := 57) hx hb (dt_at dt_Tape_unary 22 rfl) (by decide) (fun c5 => ?_) (fun c5 => ?_)
        · have h := if_p h c5
          refine lv_aload_n hx hb (dt_at dt_Tape_unary 28 rfl) rfl (lv_at hl 0 rfl) ?_
          refine lv_iload_n hx hb (dt_at dt_Tape_unary 29 rfl) rfl (lv_at hl 1 rfl) ?_
          refine lv_aload_n hx hb (dt_at dt_Tape_unary 30 rfl) rfl (lv_at hl 0 rfl) ?_
          refine va_get (D := D) (ci := 1) (v := .ref (a 2)) (C := "OutwardTape") (T := T_Tape) (N := 5) hx hb hts in_Tape hown hK hP 0 rfl rfl 2 (by decide) (hts (Cond.fieldLink "OutwardTape" 19 "OutwardTape" "cells" "[LOutwardTape$Cell;") (m_1 81 rfl rfl)) (fun _ h9 => h9) rfl (dt_at dt_Tape_unary 31 rfl) ?_
          refine lv_iload_n hx hb (dt_at dt_Tape_unary 32 rfl) rfl (lv_at hl 2 rfl) ?_
          obtain ⟨z7, h⟩ := og_of h
          obtain ⟨o6, h_o6, h⟩ := ob_of h
          obtain ⟨y_o6, hy_o6, hc_o6, hn_o6⟩ := hT _ _ h_o6
          refine ld_ref hx hb hK hP 2 1 rfl rfl z7 hy_o6 (dt_at dt_Tape_unary 33 rfl) ?_
          skip
          obtain ⟨r8, h_r8, h⟩ := ob_of h
          have hPc : va_P D CLS (wE a q) s.heap := fun k q h => by simp [wE] at h
          have hd : va_D (fun _ => True) (dE a) := dE_D a
          have hKc : va_K D CLS (tE q) s := hK.sub (tys' := []) [] rfl
          have hF : ∀ x, va_A (dE a) s.heap.size x → A x := fun x h9 => h9.elim (fun ⟨k, e, h⟩ => by simp [dE] at h) (fun g => hA _ (Nat.le_trans hS.1 g))
          refine va_callr (va_runS (As := [.int v1, .ref y_o6]) (rest := [.ref (a 0)]) ⟨hx, hb, hml, hown, hts⟩ (c_One_value l D a q  hd s.heap.size v1 o6.1 o6.2.1 o6.2.2  y_o6 (nin_E a y_o6) r8 h_r8) (va_cwS 2 hts (gd_S (m_3 123 rfl rfl) (m_3 124 rfl rfl) (m_1 19 rfl rfl) (m_3 125 rfl rfl)) rfl rfl rfl (by decide +kernel) ⟨Nat.le_of_ble_eq_true rfl, Nat.le_of_ble_eq_true rfl⟩) ⟨fun a U g mk q => ⟨q.1, q.2.1, q.2.2.1, va_K.moved (u := U) (U := U.calling g mk a) (Vm.Alike.refl U.vm) q.2.2.2.1, q.2.2.2.2⟩, fun U hU hW => ⟨rfl, by rw [hU], by rw [hU]; exact hPc, va_K.moved hW.alike hKc, by rw [hU]; exact hc_o6⟩⟩ rfl rfl hl.1 rfl (lv_room (Nat.le_of_ble_eq_true rfl)) (dt_at dt_Tape_unary 34 rfl) ⟨Nat.le_of_ble_eq_true rfl, Nat.le_of_ble_eq_true rfl⟩) hS (fun x _ h9 => hF x h9) hF (fun uu y_r8 t H1 locs ht hvm hw hB hz1 hk1 hS => ?_)
          obtain ⟨hB, hc_r8, hq_r8⟩ := hB
          rw [ht] at hc_r8
          have hn_r8 : nin (dT a) y_r8 := nin_cases hq_r8 (fun g9 => nin_big hP g9 rfl) (fun g9 => by simp only [List.mem_cons, List.not_mem_nil, or_false] at g9; subst g9; assumption)
          clear hq_r8
          have hc_o6 := isC.keptA hc_o6 hk1 (nin_E a y_o6)
          have hT := hT.keptE hk1
          have hP := va_P.kept hP (fun k q hq => hk1 _ (hP k q hq).lt (not_AE (hP k q hq).lt))
          refine W.widen (k := 2) (n := 6) (Nat.le_of_ble_eq_true rfl) (Nat.le_of_ble_eq_true rfl) ?_
          have hSz : s.heap.size ≤ H1.size := hS.1
          clear hk1 hz1 hPc hF hB ht
          generalize H1 = H at hP hS hSz hc_o6 hc_r8 hT ⊢
          obtain ⟨r9, h_r9, h⟩ := ob_of h
          have hPc := hP
          have hDc : va_D A (dT a) := dD (ws' := dT a) hD rfl
          have hKc := hK
          have hF := va_free (wc := dT a) hDc hS hA [0, 1, 2, 3, 4, 5, 6, 7, 8] rfl
          have hd : va_D (fun _ => True) (dT a) := hDc.weaken (fun _ _ _ _ => trivial)
          refine va_calli (va_runV (As := [.ref y_r8]) (rest := []) ⟨hx, hb, hml, hown, hts⟩ (c_Tape_append l D a q L R hd H.size r8.1 r8.2.1 r8.2.2 g0 g1 g2 g3 g4 g5 g6 g7 g8 g9 g10 g11 g12 g13 g14 g15 g16 g17 y_r8 hn_r8 r9 h_r9) (cwV 1 hts (gd_V (m_3 68 rfl rfl) (m_3 70 rfl rfl) (m_s 21 rfl rfl) (m_1 1 rfl rfl) (m_3 71 rfl rfl)) rfl rfl rfl (by decide +kernel) ⟨Nat.le_of_ble_eq_true rfl, Nat.le_of_ble_eq_true rfl⟩) ⟨fun a U g mk q => ⟨q.1, q.2.1, q.2.2.1, va_K.moved (u := U) (U := U.calling g mk a) (Vm.Alike.refl U.vm) q.2.2.2.1, q.2.2.2.2.1, q.2.2.2.2.2⟩, va_recv hK hP (ci := 1) (q0 := 0) rfl rfl, fun U hU hW => ⟨rfl, by rw [hU], by rw [hU]; exact hPc, va_K.moved hW.alike hKc, by rw [hU]; exact hT, by rw [hU]; exact hc_r8⟩⟩ rfl rfl hl.1 rfl (lv_room (Nat.le_of_ble_eq_true rfl)) (dt_at dt_Tape_unary 35 rfl) ⟨Nat.le_of_ble_eq_true rfl, Nat.le_of_ble_eq_true rfl⟩) hS (fun x _ h9 => hF x h9) hF (fun u_r9 uu t H1 locs ht hvm hw hB hz1 hk1 hS => ?_)
          subst hw
          have hc_o6 := isC.keptA hc_o6 hk1 hn_o6
          have hc_r8 := isC.keptA hc_r8 hk1 hn_r8
          obtain ⟨g3_10, hB, hT⟩ := hB
          rw [ht] at hT
          rw [ht] at hB
          have hP : va_P D CLS (wT a q L R g0 r9.2.1 g2 g3_10 g4 g5 g6 g7 g8 g9 g10 g11 g12 g13 g14 g15 g16) H1 := hB
          have hD : va_D A (wT a q L R g0 r9.2.1 g2 g3_10 g4 g5 g6 g7 g8 g9 g10 g11 g12 g13 g14 g15 g16) := dD hD rfl
          have hSz : s.heap.size ≤ H1.size := hS.1
          clear hk1 hz1 hPc hF hB ht
          generalize H1 = H at hP hS hSz hc_o6 hc_r8 hT ⊢
          obtain rfl := Sum.inr.inj (os_of h)
          exact W.iret (v := r9.1) hx hb hr (fun t ht hW => ⟨⟨_, (), rfl, rfl, ⟨g3_10, (hPt hP ht), hT.t ht⟩⟩, hS.F ht⟩) hS.2.2 (dt_at dt_Tape_unary 36 rfl)
        · have h := if_n h c5
          exact absurd (os_of h) (by simp)
      · have h := if_p h c4
        exact absurd (os_of h) (by simp)
    · have h := if_n h c2
      exact k_Tape_unary_10 hC hA hK hSt hAn   g1 g17 g3 ls hP hD hT  (lv_sub hl [] rfl) h
set_option maxRecDepth 100000 in
set_option maxHeartbeats 4000000 in
theorem c_Tape_unary (l : Launch) (D : va_G) (a : Nat → Nat) (q : Nat → ClassId) (L : Nat) (R : Nat) (hd : va_D (fun _ => True) (dT a)) (sz : Nat) (a1 : Int32) (a2 : Int32) (g0 : Int32) (g1 : Int32) (g2 : Nat → Int32) (g3 : Nat → Option Nat) (g4 : Int32) (g5 : Int32) (g6 : Nat → Int32) (g7 : Int32) (g8 : Int64) (g9 : Int32) (g10 : Int32) (g11 : Nat → Int32) (g12 : Int32) (g13 : Int64) (g14 : Int32) (g15 : Int32) (g16 : Nat → Int32) (g17 : Nat → Option (Int64 × Int64 × Int32))  (n0 : Nat) (adK adV : Nat → Nat) (hn0 : ∀ x, va_A (dT a) sz x → n0 ≤ x)  (r0 : Int32 × Int32 × (Nat → Option (Int64 × Int64 × Int32))) (h : f_Tape_unary a1 a2 g1 g17 = some (.inr r0)) : Met l (⟨"OutwardTape", "unary", "(II)I"⟩ : MethodName) (WSm (⟨"OutwardTape", "unary", "(II)I"⟩ : MethodName) prog_1_method_7_code 3 (some .int)) rm_Tape_unary (va_Pc [.ref (a 0), .int a1, .int a2] (fun U => U.heap.size = sz ∧ va_P D CLS (wT a q L R g0 g1 g2 g3 g4 g5 g6 g7 g8 g9 g10 g11 g12 g13 g14 g15 g16) U.heap ∧ va_K D CLS (tT q) U ∧ tapeC D (dT a) g3 g17 U.heap ∧ isS n0 adK adV U)) (va_Qi (fun (r : Int32) (_ : Unit) => r = r0.1) (fun _ t => ∃ g3n : Nat → Option Nat, va_P D CLS (wT a q L R g0 r0.2.1 g2 g3n g4 g5 g6 g7 g8 g9 g10 g11 g12 g13 g14 g15 g16) t.heap ∧ tapeC D (dT a) g3n r0.2.2 t.heap) (va_A (dT a) sz)) 2 6 (va_A (dT a) sz) := by
  refine Met.ofW (cc := prog_1_method_7_code) (maxL := 3) (ret := (some .int)) (by decide) rfl ?_
  intro p e s m args below meth c s₁ B hml hv
  obtain ⟨rfl, hsz, hP, hK, hT, hSt⟩ := hv
  subst hsz
  have hC := CX.of B hml rfl
  have hl := lv_entry [.ref (a 0), .int a1, .int a2] (n := 3) (Nat.le_of_ble_eq_true rfl)
  rw [lg_entry_eq]
  generalize (lg_sl [.ref (a 0), .int a1, .int a2] ++ List.replicate (3 - (lg_sl [.ref (a 0), .int a1, .int a2]).length) Slot.unset).toArray = ls at hl ⊢
  have hl : lv_has ls 3 [(0, .ref (a 0)), (1, .int a1), (2, .int a2)] := hl
  exact k_Tape_unary_0  hC (fun x h => Or.inr h) hK hSt hn0 a1 a2 g1 g17 g3  ls hP (dD hd.self rfl) hT  (lv_sub hl [0, 1, 2] rfl) h
abbrev rm_Tape_binary : Room := { frames := 7, cells := 2, slots := 6, locals := 189 }
set_option maxRecDepth 100000 in
set_option maxHeartbeats 4000000 in
theorem k_Tape_binary_36 {p : Program} {l : Launch} {e : Env} {s : State} {m : MethodId} {args : Array Value} {below : List Frame} {meth : Method} {c : Code} {D : va_G} {a : Nat → Nat} {q : Nat → ClassId} {L : Nat} {R : Nat} {A : Nat → Prop} (hC : CX p s m args meth c prog_1_method_8_code 4 "OutwardTape" (some .int)) (hA : ∀ x, s.heap.size ≤ x → A x) (hK : va_K D CLS (tT q) s) {n0 : Nat} {adK adV : Nat → Nat} (hSt : isS n0 adK adV s) (hAn : ∀ x, A x → n0 ≤ x) {g0 : Int32} {g2 : Nat → Int32} {g4 : Int32} {g5 : Int32} {g6 : Nat → Int32} {g7 : Int32} {g8 : Int64} {g9 : Int32} {g10 : Int32} {g11 : Nat → Int32} {g12 : Int32} {g13 : Int64} {g14 : Int32} {g15 : Int32} {g16 : Nat → Int32} {r0 : Int32 × Int32 × (Nat → Option (Int64 × Int64 × Int32))} : ∀  (g1 : Int32) (g17 : Nat → Option (Int64 × Int64 × Int32)) (g3 : Nat → Option Nat) (ls : Array Slot), va_P D CLS (wT a q L R g0 g1 g2 g3 g4 g5 g6 g7 g8 g9 g10 g11 g12 g13 g14 g15 g16) s.heap → va_D A (wT a q L R g0 g1 g2 g3 g4 g5 g6 g7 g8 g9 g10 g11 g12 g13 g14 g15 g16) → tapeC D (dT a) g3 g17 s.heap → lv_has ls 4 [] → f_Tape_binary_36  g1 g17 = some (.inr r0) → W p l e rm_Tape_binary s m args below meth c s.heap [] 0 0 (MQ below (va_Qi (fun (r : Int32) (_ : Unit) => r = r0.1) (fun _ t => ∃ g3n : Nat → Option Nat, va_P D CLS (wT a q L R g0 r0.2.1 g2 g3n g4 g5 g6 g7 g8 g9 g10 g11 g12 g13 g14 g15 g16) t.heap ∧ tapeC D (dT a) g3n r0.2.2 t.heap) A) args s 2 6 A) (F0 m 36 ls []) := by
  obtain ⟨hx, hb, hml, hown, hts, hr, hlocks⟩ := id hC
  intro g1 g17 g3 ls hP hD hT hl h
  rw [f_Tape_binary_36] at h
  have hS : va_S A s.heap s.heap [] := va_S.rf
  have hSz : s.heap.size ≤ s.heap.size := Nat.le_refl _
  exact absurd (os_of h) (by simp)
set_option maxRecDepth 100000 in
set_option maxHeartbeats 4000000 in
theorem k_Tape_binary_10 {p : Program} {l : Launch} {e : Env} {s : State} {m : MethodId} {args : Array Value} {below : List Frame} {meth : Method} {c : Code} {D : va_G} {a : Nat → Nat} {q : Nat → ClassId} {L : Nat} {R : Nat} {A : Nat → Prop} (hC : CX p s m args meth c prog_1_method_8_code 4 "OutwardTape" (some .int)) (hA : ∀ x, s.heap.size ≤ x → A x) (hK : va_K D CLS (tT q) s) {n0 : Nat} {adK adV : Nat → Nat} (hSt : isS n0 adK adV s) (hAn : ∀ x, A x → n0 ≤ x) {g0 : Int32} {g2 : Nat → Int32} {g4 : Int32} {g5 : Int32} {g6 : Nat → Int32} {g7 : Int32} {g8 : Int64} {g9 : Int32} {g10 : Int32} {g11 : Nat → Int32} {g12 : Int32} {g13 : Int64} {g14 : Int32} {g15 : Int32} {g16 : Nat → Int32} {r0 : Int32 × Int32 × (Nat → Option (Int64 × Int64 × Int32))} : ∀  (g1 : Int32) (g17 : Nat → Option (Int64 × Int64 × Int32)) (g3 : Nat → Option Nat) (ls : Array Slot), va_P D CLS (wT a q L R g0 g1 g2 g3 g4 g5 g6 g7 g8 g9 g10 g11 g12 g13 g14 g15 g16) s.heap → va_D A (wT a q L R g0 g1 g2 g3 g4 g5 g6 g7 g8 g9 g10 g11 g12 g13 g14 g15 g16) → tapeC D (dT a) g3 g17 s.heap → lv_has ls 4 [] → f_Tape_binary_10  g1 g17 = some (.inr r0) → W p l e rm_Tape_binary s m args below meth c s.heap [] 0 0 (MQ below (va_Qi (fun (r : Int32) (_ : Unit) => r = r0.1) (fun _ t => ∃ g3n : Nat → Option Nat, va_P D CLS (wT a q L R g0 r0.2.1 g2 g3n g4 g5 g6 g7 g8 g9 g10 g11 g12 g13 g14 g15 g16) t.heap ∧ tapeC D (dT a) g3n r0.2.2 t.heap) A) args s 2 6 A) (F0 m 10 ls []) := by
  obtain ⟨hx, hb, hml, hown, hts, hr, hlocks⟩ := id hC
  intro g1 g17 g3 ls hP hD hT hl h
  rw [f_Tape_binary_10] at h
  have hS : va_S A s.heap s.heap [] := va_S.rf
  have hSz : s.heap.size ≤ s.heap.size := Nat.le_refl _
  exact absurd (os_of h) (by simp)
set_option maxRecDepth 100000 in
set_option maxHeartbeats 4000000 in
theorem k_Tape_binary_0 {p : Program} {l : Launch} {e : Env} {s : State} {m : MethodId} {args : Array Value} {below : List Frame} {meth : Method} {c : Code} {D : va_G} {a : Nat → Nat} {q : Nat → ClassId} {L : Nat} {R : Nat} {A : Nat → Prop} (hC : CX p s m args meth c prog_1_method_8_code 4 "OutwardTape" (some .int)) (hA : ∀ x, s.heap.size ≤ x → A x) (hK : va_K D CLS (tT q) s) {n0 : Nat} {adK adV : Nat → Nat} (hSt : isS n0 adK adV s) (hAn : ∀ x, A x → n0 ≤ x) {g0 : Int32} {g2 : Nat → Int32} {g4 : Int32} {g5 : Int32} {g6 : Nat → Int32} {g7 : Int32} {g8 : Int64} {g9 : Int32} {g10 : Int32} {g11 : Nat → Int32} {g12 : Int32} {g13 : Int64} {g14 : Int32} {g15 : Int32} {g16 : Nat → Int32} {r0 : Int32 × Int32 × (Nat → Option (Int64 × Int64 × Int32))} : ∀ (v1 : Int32) (v2 : Int32) (v3 : Int32) (g1 : Int32) (g17 : Nat → Option (Int64 × Int64 × Int32)) (g3 : Nat → Option Nat) (ls : Array Slot), va_P D CLS (wT a q L R g0 g1 g2 g3 g4 g5 g6 g7 g8 g9 g10 g11 g12 g13 g14 g15 g16) s.heap → va_D A (wT a q L R g0 g1 g2 g3 g4 g5 g6 g7 g8 g9 g10 g11 g12 g13 g14 g15 g16) → tapeC D (dT a) g3 g17 s.heap → lv_has ls 4 [(0, .ref (a 0)), (1, .int v1), (2, .int v2), (3, .int v3)] → f_Tape_binary_0  v1 v2 v3 g1 g17 = some (.inr r0) → W p l e rm_Tape_binary s m args below meth c s.heap [] 0 0 (MQ below (va_Qi (fun (r : Int32) (_ : Unit) => r = r0.1) (fun _ t => ∃ g3n : Nat → Option Nat, va_P D CLS (wT a q L R g0 r0.2.1 g2 g3n g4 g5 g6 g7 g8 g9 g10 g11 g12 g13 g14 g15 g16) t.heap ∧ tapeC D (dT a) g3n r0.2.2 t.heap) A) args s 2 6 A) (F0 m 0 ls []) := by
  obtain ⟨hx, hb, hml, hown, hts, hr, hlocks⟩ := id hC
  intro v1 v2 v3 g1 g17 g3 ls hP hD hT hl h
  rw [f_Tape_binary_0] at h
  have hS : va_S A s.heap s.heap [] := va_S.rf
  have hSz : s.heap.size ≤ s.heap.size := Nat.le_refl _
  refine lv_iload_n hx hb (dt_at dt_Tape_binary 0 rfl) rfl (lv_at hl 1 rfl) ?_
  refine lv_if_lt (tgt := 10) hx hb (dt_at dt_Tape_binary 1 rfl) (by decide) (fun c1 => ?_) (fun c1 => ?_)
  · have h := if_p h c1
    exact k_Tape_binary_10 hC hA hK hSt hAn   g1 g17 g3 ls hP hD hT  (lv_sub hl [] rfl) h
  · have h := if_n h c1
    refine lv_iload_n hx hb (dt_at dt_Tape_binary 2 rfl) rfl (lv_at hl 1 rfl) ?_
    refine lv_bipush (v := 8) hx hb (dt_at dt_Tape_binary 3 rfl) (by decide) ?_
    refine lv_icmp_lt (tgt := 20) hx hb (dt_at dt_Tape_binary 4 rfl) (by decide) (fun c2 => ?_) (fun c2 => ?_)
    · have h := if_p h c2
      refine lv_aload_n hx hb (dt_at dt_Tape_binary 10 rfl) rfl (lv_at hl 0 rfl) ?_
      refine lv_iload_n hx hb (dt_at dt_Tape_binary 11 rfl) rfl (lv_at hl 2 rfl) ?_
      obtain ⟨r3, h_r3, h⟩ := ob_of h
      refine vp_callSi (W.runV (As := [.int v2]) (rest := []) ⟨hx, hb, hml, hown, hts⟩ (cS_Tape_isThere l D a q L R v2 g0 g1 g2 g3 g4 g5 g6 g7 g8 g9 g10 g11 g12 g13 g14 g15 g16 r3 h_r3) (cwV 1 hts (gd_V (m_1 119 rfl rfl) (m_1 121 rfl rfl) (m_s 1 rfl rfl) (m_1 1 rfl rfl) (m_1 122 rfl rfl)) rfl rfl rfl (by decide +kernel) ⟨Nat.le_of_ble_eq_true rfl, Nat.le_of_ble_eq_true rfl⟩) ⟨fun a U g mk q => ⟨q.1, q.2.1, va_K.moved (u := U) (U := U.calling g mk a) (Vm.Alike.refl U.vm) q.2.2⟩, va_recv hK hP (ci := 1) (q0 := 0) rfl rfl, fun U hU hW => ⟨rfl, by rw [hU]; exact hP, va_K.moved hW.alike hK⟩⟩ rfl rfl hl.1 rfl (lv_room (Nat.le_of_ble_eq_true rfl)) (dt_at dt_Tape_binary 12 rfl) ⟨Nat.le_of_ble_eq_true rfl, Nat.le_of_ble_eq_true rfl⟩) (fun u_q q_q => ?_)
      obtain rfl : r3 = u_q := q_q.symm
      refine lv_if_eq (tgt := 36) hx hb (dt_at dt_Tape_binary 13 rfl) (by decide) (fun c4 => ?_) (fun c4 => ?_)
      · have h := if_p h c4
        exact k_Tape_binary_36 hC hA hK hSt hAn   g1 g17 g3 ls hP hD hT  (lv_sub hl [] rfl) h
      · have h := if_n h c4
        refine lv_aload_n hx hb (dt_at dt_Tape_binary 14 rfl) rfl (lv_at hl 0 rfl) ?_
        refine lv_iload_n hx hb (dt_at dt_Tape_binary 15 rfl) rfl (lv_at hl 3 rfl) ?_
        obtain ⟨r5, h_r5, h⟩ := ob_of h
        refine vp_callSi (W.runV (As := [.int v3]) (rest := []) ⟨hx, hb, hml, hown, hts⟩ (cS_Tape_isThere l D a q L R v3 g0 g1 g2 g3 g4 g5 g6 g7 g8 g9 g10 g11 g12 g13 g14 g15 g16 r5 h_r5) (cwV 1 hts (gd_V (m_1 119 rfl rfl) (m_1 121 rfl rfl) (m_s 1 rfl rfl) (m_1 1 rfl rfl) (m_1 122 rfl rfl)) rfl rfl rfl (by decide +kernel) ⟨Nat.le_of_ble_eq_true rfl, Nat.le_of_ble_eq_true rfl⟩) ⟨fun a U g mk q => ⟨q.1, q.2.1, va_K.moved (u := U) (U := U.calling g mk a) (Vm.Alike.refl U.vm) q.2.2⟩, va_recv hK hP (ci := 1) (q0 := 0) rfl rfl, fun U hU hW => ⟨rfl, by rw [hU]; exact hP, va_K.moved hW.alike hK⟩⟩ rfl rfl hl.1 rfl (lv_room (Nat.le_of_ble_eq_true rfl)) (dt_at dt_Tape_binary 16 rfl) ⟨Nat.le_of_ble_eq_true rfl, Nat.le_of_ble_eq_true rfl⟩) (fun u_q q_q => ?_)
        obtain rfl : r5 = u_q := q_q.symm
        refine lv_if_ne (tgt := 46) hx hb (dt_at dt_Tape_binary 17 rfl) (by decide) (fun c6 => ?_) (fun c6 => ?_)
        · have h := if_n h c6
          refine lv_aload_n hx hb (dt_at dt_Tape_binary 23 rfl) rfl (lv_at hl 0 rfl) ?_
          refine va_get (D := D) (ci := 1) (v := .int g1) (C := "OutwardTape") (T := T_Tape) (N := 5) hx hb hts in_Tape hown hK hP 0 rfl rfl 3 (by decide) (hts (Cond.fieldLink "OutwardTape" 23 "OutwardTape" "count" "I") (m_1 82 rfl rfl)) (fun _ h9 => h9) rfl (dt_at dt_Tape_binary 24 rfl) ?_
          refine lv_bipush (v := 40) hx hb (dt_at dt_Tape_binary 25 rfl) (by decide) ?_
          refine lv_icmp_lt (tgt := 65) hx hb (dt_at dt_Tape_binary 26 rfl) (by decide) (fun c7 => ?_) (fun c7 => ?_)
          · have h := if_p h c7
            refine lv_aload_n hx hb (dt_at dt_Tape_binary 32 rfl) rfl (lv_at hl 0 rfl) ?_
            refine lv_iload_n hx hb (dt_at dt_Tape_binary 33 rfl) rfl (lv_at hl 1 rfl) ?_
            refine lv_aload_n hx hb (dt_at dt_Tape_binary 34 rfl) rfl (lv_at hl 0 rfl) ?_
            refine va_get (D := D) (ci := 1) (v := .ref (a 2)) (C := "OutwardTape") (T := T_Tape) (N := 5) hx hb hts in_Tape hown hK hP 0 rfl rfl 2 (by decide) (hts (Cond.fieldLink "OutwardTape" 19 "OutwardTape" "cells" "[LOutwardTape$Cell;") (m_1 81 rfl rfl)) (fun _ h9 => h9) rfl (dt_at dt_Tape_binary 35 rfl) ?_
            refine lv_iload_n hx hb (dt_at dt_Tape_binary 36 rfl) rfl (lv_at hl 2 rfl) ?_
            obtain ⟨z9, h⟩ := og_of h
            obtain ⟨o8, h_o8, h⟩ := ob_of h
            obtain ⟨y_o8, hy_o8, hc_o8, hn_o8⟩ := hT _ _ h_o8
            refine ld_ref hx hb hK hP 2 1 rfl rfl z9 hy_o8 (dt_at dt_Tape_binary 37 rfl) ?_
            skip
            refine lv_aload_n hx hb (dt_at dt_Tape_binary 38 rfl) rfl (lv_at hl 0 rfl) ?_
            refine va_get (D := D) (ci := 1) (v := .ref (a 2)) (C := "OutwardTape") (T := T_Tape) (N := 5) hx hb hts in_Tape hown hK hP 0 rfl rfl 2 (by decide) (hts (Cond.fieldLink "OutwardTape" 19 "OutwardTape" "cells" "[LOutwardTape$Cell;") (m_1 81 rfl rfl)) (fun _ h9 => h9) rfl (dt_at dt_Tape_binary 39 rfl) ?_
            refine lv_iload_n hx hb (dt_at dt_Tape_binary 40 rfl) rfl (lv_at hl 3 rfl) ?_
            obtain ⟨z11, h⟩ := og_of h
            obtain ⟨o10, h_o10, h⟩ := ob_of h
            obtain ⟨y_o10, hy_o10, hc_o10, hn_o10⟩ := hT _ _ h_o10
            refine ld_ref hx hb hK hP 2 1 rfl rfl z11 hy_o10 (dt_at dt_Tape_binary 41 rfl) ?_
            skip
            obtain ⟨r12, h_r12, h⟩ := ob_of h
            have hPc : va_P D CLS (wE a q) s.heap := fun k q h => by simp [wE] at h
            have hd : va_D (fun _ => True) (dE a) := dE_D a
            have hKc : va_K D CLS (tE q) s := hK.sub (tys' := []) [] rfl
            have hF : ∀ x, va_A (dE a) s.heap.size x → A x := fun x h9 => h9.elim (fun ⟨k, e, h⟩ => by simp [dE] at h) (fun g => hA _ (Nat.le_trans hS.1 g))
            refine va_callr (va_runS (As := [.int v1, .ref y_o8, .ref y_o10]) (rest := [.ref (a 0)]) ⟨hx, hb, hml, hown, hts⟩ (c_Two_value l D a q  hd s.heap.size v1 o8.1 o8.2.1 o8.2.2 o10.1 o10.2.1 o10.2.2  y_o8 y_o10 (nin_E a y_o8) (nin_E a y_o10) r12 h_r12) (va_cwS 3 hts (gd_S (m_3 194 rfl rfl) (m_3 195 rfl rfl) (m_1 21 rfl rfl) (m_3 196 rfl rfl)) rfl rfl rfl (by decide +kernel) ⟨Nat.le_of_ble_eq_true rfl, Nat.le_of_ble_eq_true rfl⟩) ⟨fun a U g mk q => ⟨q.1, q.2.1, q.2.2.1, va_K.moved (u := U) (U := U.calling g mk a) (Vm.Alike.refl U.vm) q.2.2.2.1, q.2.2.2.2.1, q.2.2.2.2.2⟩, fun U hU hW => ⟨rfl, by rw [hU], by rw [hU]; exact hPc, va_K.moved hW.alike hKc, by rw [hU]; exact hc_o8, by rw [hU]; exact hc_o10⟩⟩ rfl rfl hl.1 rfl (lv_room (Nat.le_of_ble_eq_true rfl)) (dt_at dt_Tape_binary 42 rfl) ⟨Nat.le_of_ble_eq_true rfl, Nat.le_of_ble_eq_true rfl⟩) hS (fun x _ h9 => hF x h9) hF (fun uu y_r12 t H1 locs ht hvm hw hB hz1 hk1 hS => ?_)
            obtain ⟨hB, hc_r12, hq_r12⟩ := hB
            rw [ht] at hc_r12
            have hn_r12 : nin (dT a) y_r12 := nin_cases hq_r12 (fun g9 => nin_big hP g9 rfl) (fun g9 => by simp only [List.mem_cons, List.not_mem_nil, or_false] at g9; rcases g9 with g9 | g9 <;> (subst g9; assumption))
            clear hq_r12
            have hc_o8 := isC.keptA hc_o8 hk1 (nin_E a y_o8)
            have hc_o10 := isC.keptA hc_o10 hk1 (nin_E a y_o10)
            have hT := hT.keptE hk1
            have hP := va_P.kept hP (fun k q hq => hk1 _ (hP k q hq).lt (not_AE (hP k q hq).lt))
            refine W.widen (k := 2) (n := 6) (Nat.le_of_ble_eq_true rfl) (Nat.le_of_ble_eq_true rfl) ?_
            have hSz : s.heap.size ≤ H1.size := hS.1
            clear hk1 hz1 hPc hF hB ht
            generalize H1 = H at hP hS hSz hc_o8 hc_o10 hc_r12 hT ⊢
            obtain ⟨r13, h_r13, h⟩ := ob_of h
            have hPc := hP
            have hDc : va_D A (dT a) := dD (ws' := dT a) hD rfl
            have hKc := hK
            have hF := va_free (wc := dT a) hDc hS hA [0, 1, 2, 3, 4, 5, 6, 7, 8] rfl
            have hd : va_D (fun _ => True) (dT a) := hDc.weaken (fun _ _ _ _ => trivial)
            refine va_calli (va_runV (As := [.ref y_r12]) (rest := []) ⟨hx, hb, hml, hown, hts⟩ (c_Tape_append l D a q L R hd H.size r12.1 r12.2.1 r12.2.2 g0 g1 g2 g3 g4 g5 g6 g7 g8 g9 g10 g11 g12 g13 g14 g15 g16 g17 y_r12 hn_r12 r13 h_r13) (cwV 1 hts (gd_V (m_3 68 rfl rfl) (m_3 70 rfl rfl) (m_s 21 rfl rfl) (m_1 1 rfl rfl) (m_3 71 rfl rfl)) rfl rfl rfl (by decide +kernel) ⟨Nat.le_of_ble_eq_true rfl, Nat.le_of_ble_eq_true rfl⟩) ⟨fun a U g mk q => ⟨q.1, q.2.1, q.2.2.1, va_K.moved (u := U) (U := U.calling g mk a) (Vm.Alike.refl U.vm) q.2.2.2.1, q.2.2.2.2.1, q.2.2.2.2.2⟩, va_recv hK hP (ci := 1) (q0 := 0) rfl rfl, fun U hU hW => ⟨rfl, by rw [hU], by rw [hU]; exact hPc, va_K.moved hW.alike hKc, by rw [hU]; exact hT, by rw [hU]; exact hc_r12⟩⟩ rfl rfl hl.1 rfl (lv_room (Nat.le_of_ble_eq_true rfl)) (dt_at dt_Tape_binary 43 rfl) ⟨Nat.le_of_ble_eq_true rfl, Nat.le_of_ble_eq_true rfl⟩) hS (fun x _ h9 => hF x h9) hF (fun u_r13 uu t H1 locs ht hvm hw hB hz1 hk1 hS => ?_)
            subst hw
            have hc_o8 := isC.keptA hc_o8 hk1 hn_o8
            have hc_o10 := isC.keptA hc_o10 hk1 hn_o10
            have hc_r12 := isC.keptA hc_r12 hk1 hn_r12
            obtain ⟨g3_14, hB, hT⟩ := hB
            rw [ht] at hT
            rw [ht] at hB
            have hP : va_P D CLS (wT a q L R g0 r13.2.1 g2 g3_14 g4 g5 g6 g7 g8 g9 g10 g11 g12 g13 g14 g15 g16) H1 := hB
            have hD : va_D A (wT a q L R g0 r13.2.1 g2 g3_14 g4 g5 g6 g7 g8 g9 g10 g11 g12 g13 g14 g15 g16) := dD hD rfl
            have hSz : s.heap.size ≤ H1.size := hS.1
            clear hk1 hz1 hPc hF hB ht
            generalize H1 = H at hP hS hSz hc_o8 hc_o10 hc_r12 hT ⊢
            obtain rfl := Sum.inr.inj (os_of h)
            exact W.iret (v := r13.1) hx hb hr (fun t ht hW => ⟨⟨_, (), rfl, rfl, ⟨g3_14, (hPt hP ht), hT.t ht⟩⟩, hS.F ht⟩) hS.2.2 (dt_at dt_Tape_binary 44 rfl)
          · have h := if_n h c7
            exact absurd (os_of h) (by simp)
        · have h := if_p h c6
          exact k_Tape_binary_36 hC hA hK hSt hAn   g1 g17 g3 ls hP hD hT  (lv_sub hl [] rfl) h
    · have h := if_n h c2
      exact k_Tape_binary_10 hC hA hK hSt hAn   g1 g17 g3 ls hP hD hT  (lv_sub hl [] rfl) h
set_option maxRecDepth 100000 in
set_option maxHeartbeats 4000000 in
theorem c_Tape_binary (l : Launch) (D : va_G) (a : Nat → Nat) (q : Nat → ClassId) (L : Nat) (R : Nat) (hd : va_D (fun _ => True) (dT a)) (sz : Nat) (a1 : Int32) (a2 : Int32) (a3 : Int32) (g0 : Int32) (g1 : Int32) (g2 : Nat → Int32) (g3 : Nat → Option Nat) (g4 : Int32) (g5 : Int32) (g6 : Nat → Int32) (g7 : Int32) (g8 : Int64) (g9 : Int32) (g10 : Int32) (g11 : Nat → Int32) (g12 : Int32) (g13 : Int64) (g14 : Int32) (g15 : Int32) (g16 : Nat → Int32) (g17 : Nat → Option (Int64 × Int64 × Int32))  (n0 : Nat) (adK adV : Nat → Nat) (hn0 : ∀ x, va_A (dT a) sz x → n0 ≤ x)  (r0 : Int32 × Int32 × (Nat → Option (Int64 × Int64 × Int32))) (h : f_Tape_binary a1 a2 a3 g1 g17 = some (.inr r0)) : Met l (⟨"OutwardTape", "binary", "(III)I"⟩ : MethodName) (WSm (⟨"OutwardTape", "binary", "(III)I"⟩ : MethodName) prog_1_method_8_code 4 (some .int)) rm_Tape_binary (va_Pc [.ref (a 0), .int a1, .int a2, .int a3] (fun U => U.heap.size = sz ∧ va_P D CLS (wT a q L R g0 g1 g2 g3 g4 g5 g6 g7 g8 g9 g10 g11 g12 g13 g14 g15 g16) U.heap ∧ va_K D CLS (tT q) U ∧ tapeC D (dT a) g3 g17 U.heap ∧ isS n0 adK adV U)) (va_Qi (fun (r : Int32) (_ : Unit) => r = r0.1) (fun _ t => ∃ g3n : Nat → Option Nat, va_P D CLS (wT a q L R g0 r0.2.1 g2 g3n g4 g5 g6 g7 g8 g9 g10 g11 g12 g13 g14 g15 g16) t.heap ∧ tapeC D (dT a) g3n r0.2.2 t.heap) (va_A (dT a) sz)) 2 6 (va_A (dT a) sz) := by
  refine Met.ofW (cc := prog_1_method_8_code) (maxL := 4) (ret := (some .int)) (by decide) rfl ?_
  intro p e s m args below meth c s₁ B hml hv
  obtain ⟨rfl, hsz, hP, hK, hT, hSt⟩ := hv
  subst hsz
  have hC := CX.of B hml rfl
  have hl := lv_entry [.ref (a 0), .int a1, .int a2, .int a3] (n := 4) (Nat.le_of_ble_eq_true rfl)
  rw [lg_entry_eq]
  generalize (lg_sl [.ref (a 0), .int a1, .int a2, .int a3] ++ List.replicate (4 - (lg_sl [.ref (a 0), .int a1, .int a2, .int a3]).length) Slot.unset).toArray = ls at hl ⊢
  have hl : lv_has ls 4 [(0, .ref (a 0)), (1, .int a1), (2, .int a2), (3, .int a3)] := hl
  exact k_Tape_binary_0  hC (fun x h => Or.inr h) hK hSt hn0 a1 a2 a3 g1 g17 g3  ls hP (dD hd.self rfl) hT  (lv_sub hl [0, 1, 2, 3] rfl) h
abbrev rm_Tape_decoration : Room := { frames := 6, cells := 1, slots := 6, locals := 90 }
set_option maxRecDepth 100000 in
set_option maxHeartbeats 4000000 in
theorem k_Tape_decoration_0 {p : Program} {l : Launch} {e : Env} {s : State} {m : MethodId} {args : Array Value} {below : List Frame} {meth : Method} {c : Code} {D : va_G} {a : Nat → Nat} {q : Nat → ClassId} {L : Nat} {R : Nat} {A : Nat → Prop} (hC : CX p s m args meth c prog_1_method_10_code 2 "OutwardTape" (some .int)) (hA : ∀ x, s.heap.size ≤ x → A x) (hK : va_K D CLS (tT q) s) {n0 : Nat} {adK adV : Nat → Nat} (hSt : isS n0 adK adV s) (hAn : ∀ x, A x → n0 ≤ x) {g0 : Int32} {g1 : Int32} {g2 : Nat → Int32} {g3 : Nat → Option Nat} {g4 : Int32} {g5 : Int32} {g6 : Nat → Int32} {g7 : Int32} {g8 : Int64} {g9 : Int32} {g10 : Int32} {g11 : Nat → Int32} {g12 : Int32} {g13 : Int64} {g14 : Int32} {g15 : Int32} {g16 : Nat → Int32} {g17 : Nat → Option (Int64 × Int64 × Int32)} {r0 : Int32} : ∀ (v1 : Int32)  (ls : Array Slot), va_P D CLS (wT a q L R g0 g1 g2 g3 g4 g5 g6 g7 g8 g9 g10 g11 g12 g13 g14 g15 g16) s.heap → va_D A (wT a q L R g0 g1 g2 g3 g4 g5 g6 g7 g8 g9 g10 g11 g12 g13 g14 g15 g16) → tapeC D (dT a) g3 g17 s.heap → lv_has ls 2 [(0, .ref (a 0)), (1, .int v1)] → f_Tape_decoration_0  v1 g1 g17 = some (.inr r0) → W p l e rm_Tape_decoration s m args below meth c s.heap [] 0 0 (MQ below (va_Qi (fun (r : Int32) (_ : Unit) => r = r0) (fun _ t => va_P D CLS (wT a q L R g0 g1 g2 g3 g4 g5 g6 g7 g8 g9 g10 g11 g12 g13 g14 g15 g16) t.heap ∧ tapeC D (dT a) g3 g17 t.heap) A) args s 1 6 A) (F0 m 0 ls []) := by
  obtain ⟨hx, hb, hml, hown, hts, hr, hlocks⟩ := id hC
  intro v1 ls hP hD hT hl h
  rw [f_Tape_decoration_0] at h
  have hS : va_S A s.heap s.heap [] := va_S.rf
  have hSz : s.heap.size ≤ s.heap.size := Nat.le_refl _
  refine lv_aload_n hx hb (dt_at dt_Tape_decoration 0 rfl) rfl (lv_at hl 0 rfl) ?_
  refine lv_iload_n hx hb (dt_at dt_Tape_decoration 1 rfl) rfl (lv_at hl 1 rfl) ?_
  obtain ⟨r1, h_r1, h⟩ := ob_of h
  refine vp_callSi (W.runV (As := [.int v1]) (rest := []) ⟨hx, hb, hml, hown, hts⟩ (cS_Tape_isThere l D a q L R v1 g0 g1 g2 g3 g4 g5 g6 g7 g8 g9 g10 g11 g12 g13 g14 g15 g16 r1 h_r1) (cwV 1 hts (gd_V (m_1 119 rfl rfl) (m_1 121 rfl rfl) (m_s 1 rfl rfl) (m_1 1 rfl rfl) (m_1 122 rfl rfl)) rfl rfl rfl (by decide +kernel) ⟨Nat.le_of_ble_eq_true rfl, Nat.le_of_ble_eq_true rfl⟩) ⟨fun a U g mk q => ⟨q.1, q.2.1, va_K.moved (u := U) (U := U.calling g mk a) (Vm.Alike.refl U.vm) q.2.2⟩, va_recv hK hP (ci := 1) (q0 := 0) rfl rfl, fun U hU hW => ⟨rfl, by rw [hU]; exact hP, va_K.moved hW.alike hK⟩⟩ rfl rfl hl.1 rfl (lv_room (Nat.le_of_ble_eq_true rfl)) (dt_at dt_Tape_decoration 2 rfl) ⟨Nat.le_of_ble_eq_true rfl, Nat.le_of_ble_eq_true rfl⟩) (fun u_q q_q => ?_)
  obtain rfl : r1 = u_q := q_q.symm
  refine lv_if_ne (tgt := 18) hx hb (dt_at dt_Tape_decoration 3 rfl) (by decide) (fun c2 => ?_) (fun c2 => ?_)
  · have h := if_n h c2
    refine lv_aload_n hx hb (dt_at dt_Tape_decoration 9 rfl) rfl (lv_at hl 0 rfl) ?_
    refine va_get (D := D) (ci := 1) (v := .ref (a 2)) (C := "OutwardTape") (T := T_Tape) (N := 5) hx hb hts in_Tape hown hK hP 0 rfl rfl 2 (by decide) (hts (Cond.fieldLink "OutwardTape" 19 "OutwardTape" "cells" "[LOutwardTape$Cell;") (m_1 81 rfl rfl)) (fun _ h9 => h9) rfl (dt_at dt_Tape_decoration 10 rfl) ?_
    refine lv_iload_n hx hb (dt_at dt_Tape_decoration 11 rfl) rfl (lv_at hl 1 rfl) ?_
    obtain ⟨z4, h⟩ := og_of h
    obtain ⟨o3, h_o3, h⟩ := ob_of h
    obtain ⟨y_o3, hy_o3, hc_o3, hn_o3⟩ := hT _ _ h_o3
    refine ld_ref hx hb hK hP 2 1 rfl rfl z4 hy_o3 (dt_at dt_Tape_decoration 12 rfl) ?_
    skip
    refine va_get (D := D) (ci := 4) (v := .int o3.2.2) (C := "OutwardTape$Cell") (T := T_Cell) (N := 3) hx hb hts in_Cell hown hK hc_o3 0 rfl rfl 2 (by decide) (hts (Cond.fieldLink "OutwardTape" 93 "OutwardTape$Cell" "mark" "I") (m_2 135 rfl rfl)) (fun _ h9 => h9) rfl (dt_at dt_Tape_decoration 13 rfl) ?_
    obtain rfl := Sum.inr.inj (os_of h)
    refine W.widen (k := 1) (n := 6) (Nat.le_of_ble_eq_true rfl) (Nat.le_of_ble_eq_true rfl) ?_
    exact W.iret (v := o3.2.2) hx hb hr (fun t ht hW => ⟨⟨_, (), rfl, rfl, ⟨(hPt hP ht), hT.t ht⟩⟩, hS.F ht⟩) hS.2.2 (dt_at dt_Tape_decoration 14 rfl)
  · have h := if_p h c2
    exact absurd (os_of h) (by simp)
set_option maxRecDepth 100000 in
set_option maxHeartbeats 4000000 in
theorem c_Tape_decoration (l : Launch) (D : va_G) (a : Nat → Nat) (q : Nat → ClassId) (L : Nat) (R : Nat) (hd : va_D (fun _ => True) (dT a)) (sz : Nat) (a1 : Int32) (g0 : Int32) (g1 : Int32) (g2 : Nat → Int32) (g3 : Nat → Option Nat) (g4 : Int32) (g5 : Int32) (g6 : Nat → Int32) (g7 : Int32) (g8 : Int64) (g9 : Int32) (g10 : Int32) (g11 : Nat → Int32) (g12 : Int32) (g13 : Int64) (g14 : Int32) (g15 : Int32) (g16 : Nat → Int32) (g17 : Nat → Option (Int64 × Int64 × Int32))  (n0 : Nat) (adK adV : Nat → Nat) (hn0 : ∀ x, va_A (dT a) sz x → n0 ≤ x)  (r0 : Int32) (h : f_Tape_decoration a1 g1 g17 = some (.inr r0)) : Met l (⟨"OutwardTape", "decoration", "(I)I"⟩ : MethodName) (WSm (⟨"OutwardTape", "decoration", "(I)I"⟩ : MethodName) prog_1_method_10_code 2 (some .int)) rm_Tape_decoration (va_Pc [.ref (a 0), .int a1] (fun U => U.heap.size = sz ∧ va_P D CLS (wT a q L R g0 g1 g2 g3 g4 g5 g6 g7 g8 g9 g10 g11 g12 g13 g14 g15 g16) U.heap ∧ va_K D CLS (tT q) U ∧ tapeC D (dT a) g3 g17 U.heap ∧ isS n0 adK adV U)) (va_Qi (fun (r : Int32) (_ : Unit) => r = r0) (fun _ t => va_P D CLS (wT a q L R g0 g1 g2 g3 g4 g5 g6 g7 g8 g9 g10 g11 g12 g13 g14 g15 g16) t.heap ∧ tapeC D (dT a) g3 g17 t.heap) (va_A (dT a) sz)) 1 6 (va_A (dT a) sz) := by
  refine Met.ofW (cc := prog_1_method_10_code) (maxL := 2) (ret := (some .int)) (by decide) rfl ?_
  intro p e s m args below meth c s₁ B hml hv
  obtain ⟨rfl, hsz, hP, hK, hT, hSt⟩ := hv
  subst hsz
  have hC := CX.of B hml rfl
  have hl := lv_entry [.ref (a 0), .int a1] (n := 2) (Nat.le_of_ble_eq_true rfl)
  rw [lg_entry_eq]
  generalize (lg_sl [.ref (a 0), .int a1] ++ List.replicate (2 - (lg_sl [.ref (a 0), .int a1]).length) Slot.unset).toArray = ls at hl ⊢
  have hl : lv_has ls 2 [(0, .ref (a 0)), (1, .int a1)] := hl
  exact k_Tape_decoration_0  hC (fun x h => Or.inr h) hK hSt hn0 a1    ls hP (dD hd.self rfl) hT  (lv_sub hl [0, 1] rfl) h
