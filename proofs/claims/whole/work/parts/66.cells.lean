-- written by wip/gen/cells.py
abbrev rm_Cell_ill : Room := { frames := 2, cells := 1, slots := 3, locals := 37 }
set_option maxRecDepth 100000 in
set_option maxHeartbeats 4000000 in
theorem k_Cell_ill_0 {p : Program} {l : Launch} {e : Env} {s : State} {m : MethodId} {args : Array Value} {below : List Frame} {meth : Method} {c : Code} {D : va_G} {a : Nat → Nat} {q : Nat → ClassId} {PL : List Nat} {A : Nat → Prop} (hC : CX p s m args meth c prog_2_method_2_code 0 "OutwardTape$Cell" (some (.object "OutwardTape$Cell"))) (hA : ∀ x, s.heap.size ≤ x → A x) (hK : va_K D CLS (tE q) s)  {r0 : Int64 × Int64 × Int32} : ∀   (H : Heap) (locs : List Loc) (ls : Array Slot), va_P D CLS (wE a q ) H → va_D A (wE a q ) → va_S A s.heap H locs → lv_has ls 0 [] → f_Cell_ill_0   = some r0 → W p l e rm_Cell_ill s m args below meth c H locs 0 0 (MQ below (va_Qr (fun _ : Unit => True) (fun _ ra t => (va_P D CLS (wE a q ) t.heap) ∧ isC D t.heap ra r0.1 r0.2.1 r0.2.2 ∧ (s.heap.size ≤ ra ∨ ra ∈ PL)) A) args s 1 3 A) (F0 m 0 ls []) := by
  obtain ⟨hx, hb, hml, hown, hts, hr, hlocks⟩ := id hC
  intro H locs ls hP hD hS hl h
  rw [f_Cell_ill_0] at h
  have hSz : s.heap.size ≤ H.size := hS.1
  refine nw_new (ci := 4) (fs := [.long 0, .long 0, .int 0]) (C := "OutwardTape$Cell") (T := T_Cell) (N := 3) hx hb hts in_Cell ty_Cell tk_Cell hown (hts (Cond.classLink "OutwardTape$Cell" 8 "OutwardTape$Cell") (m_2 111 rfl rfl)) (hts (Cond.instantiable "OutwardTape$Cell" 3) (m_2 112 rfl rfl)) (hts (Cond.initialized "OutwardTape$Cell") (m_1 10 rfl rfl)) hK hS rfl (fun j hj => by rcases (show j = 0 ∨ j = 1 ∨ j = 2 by omega) with rfl | rfl | rfl <;> rfl) (Nat.le_of_ble_eq_true rfl) (Nat.le_of_ble_eq_true rfl) (dt_at dt_Cell_ill 0 rfl) (fun y_o1 H1 hy_o1 hk1 hN hS => ?_)
  have hg_o1 : s.heap.size ≤ y_o1 := by rw [hy_o1]; exact hSz
  have hn_o1 : nin (dE a) y_o1 := nin_big hP (Nat.le_of_eq hy_o1.symm) rfl
  have hP := va_P.kept hP (fun k q hq => hk1 _ (hP k q hq).lt)
  have hSz : s.heap.size ≤ H1.size := hS.1
  clear hy_o1 hk1
  generalize H1 = H at hP hS hN hSz  ⊢
  refine W.widen (k := 1) (n := 3) (Nat.le_of_ble_eq_true rfl) (Nat.le_of_ble_eq_true rfl) ?_
  refine lv_dup hx hb (dt_at dt_Cell_ill 1 rfl) rfl ?_
  refine lv_lconst (v := 0) hx hb (dt_at dt_Cell_ill 2 rfl) (by decide) ?_
  refine lv_lconst (v := 0) hx hb (dt_at dt_Cell_ill 3 rfl) (by decide) ?_
  refine lv_iconst (v := 0) hx hb (dt_at dt_Cell_ill 4 rfl) (by decide) ?_
  refine va_callv (va_runI (As := [.long (0 : Int64), .long (0 : Int64), .int (0 : Int32)]) (rest := [.ref y_o1]) ⟨hx, hb, hml, hown, hts⟩ (c_Cell_init l D y_o1 H.size (0 : Int64) (0 : Int64) (0 : Int32)) (cwI 3 hts (gd_c (m_2 115 rfl rfl)) rfl rfl rfl (hts (Cond.initialized "OutwardTape$Cell") (m_1 10 rfl rfl)) (hts (Cond.methodLink "OutwardTape$Cell" 20 (⟨"OutwardTape$Cell", "<init>", "(JJI)V"⟩ : MethodName)) (m_2 113 rfl rfl)) (hts (Cond.instanceMethod (⟨"OutwardTape$Cell", "<init>", "(JJI)V"⟩ : MethodName)) (m_2 114 rfl rfl)) rfl (by decide +kernel) ⟨Nat.le_of_ble_eq_true rfl, Nat.le_of_ble_eq_true rfl⟩) ⟨fun a U g mk q => ⟨q.1, q.2.1, q.2.2.1, va_K.moved (u := U) (U := U.calling g mk a) (Vm.Alike.refl U.vm) q.2.2.2⟩, fun U hU hW => ⟨rfl, by rw [hU], by rw [hU]; exact hN, va_K.moved hW.alike (hK.sub (tys' := []) [] rfl)⟩⟩ rfl rfl hl.1 rfl (lv_room (Nat.le_of_ble_eq_true rfl)) (dt_at dt_Cell_ill 5 rfl) ⟨Nat.le_of_ble_eq_true rfl, Nat.le_of_ble_eq_true rfl⟩) hS (fun x _ h9 => (fun x h9 => h9.elim (fun e9 => e9 ▸ hA _ hg_o1) (fun g9 => hA _ (Nat.le_trans hSz g9))) x h9) (fun x h9 => h9.elim (fun e9 => e9 ▸ hA _ hg_o1) (fun g9 => hA _ (Nat.le_trans hSz g9))) (fun uu t H1 locs ht hvm hw hB hz1 hk1 hS => ?_)
  rw [ht] at hB
  have hP := va_P.kept hP (fun k q hq => hk1 _ (hP k q hq).lt (fun h9 => h9.elim (fun e9 => nin_ne hn_o1 rfl hq e9) (fun g9 => absurd g9 (Nat.not_le.mpr (hP k q hq).lt))))
  have hc_o1 : isC D H1 y_o1 (0 : Int64) (0 : Int64) (0 : Int32) := hB
  have hf_o1 : s.heap.size ≤ y_o1 ∨ y_o1 ∈ PL := Or.inl hg_o1
  have hSz : s.heap.size ≤ H1.size := hS.1
  clear hk1 hz1
  generalize H1 = H at hP hS hSz hc_o1 ⊢
  obtain rfl := os_of h
  exact W.aret hx hb hr (Or.inl ⟨_, rfl⟩) (Or.inr ⟨_, rfl⟩) (fun t ht hW => ⟨⟨(), y_o1, rfl, trivial, (hPt hP ht), hPt hc_o1 ht, hf_o1⟩, hS.F ht⟩) hS.2.2 (dt_at dt_Cell_ill 6 rfl)
set_option maxRecDepth 100000 in
set_option maxHeartbeats 4000000 in
theorem c_Cell_ill (l : Launch) (D : va_G) (a : Nat → Nat) (q : Nat → ClassId) (hd : va_D (fun _ => True) (dE a)) (sz : Nat)     (r0 : Int64 × Int64 × Int32) (h : f_Cell_ill  = some r0) : Met l (⟨"OutwardTape$Cell", "ill", "()LOutwardTape$Cell;"⟩ : MethodName) (WSm (⟨"OutwardTape$Cell", "ill", "()LOutwardTape$Cell;"⟩ : MethodName) prog_2_method_2_code 0 (some (.object "OutwardTape$Cell"))) rm_Cell_ill (va_Pc [] (fun U => U.heap.size = sz ∧ va_P D CLS (wE a q ) U.heap ∧ va_K D CLS (tE q) U)) (va_Qr (fun _ : Unit => True) (fun _ ra t => (va_P D CLS (wE a q ) t.heap) ∧ isC D t.heap ra r0.1 r0.2.1 r0.2.2 ∧ (sz ≤ ra ∨ ra ∈ ([] : List Nat))) (va_A (dE a) sz)) 1 3 (va_A (dE a) sz) := by
  refine Met.ofW (cc := prog_2_method_2_code) (maxL := 0) (ret := (some (.object "OutwardTape$Cell"))) (by decide) rfl ?_
  intro p e s m args below meth c s₁ B hml hv
  obtain ⟨rfl, hsz, hP, hK⟩ := hv
  subst hsz
  have hC := CX.of B hml rfl
  have hl := lv_entry [] (n := 0) (Nat.le_of_ble_eq_true rfl)
  rw [lg_entry_eq]
  generalize (lg_sl [] ++ List.replicate (0 - (lg_sl []).length) Slot.unset).toArray = ls at hl ⊢
  have hl : lv_has ls 0 [] := hl
  exact k_Cell_ill_0 (PL := []) hC (fun x h => Or.inr h) hK     s.heap [] ls hP (dD hd.self rfl) va_S.rf    (lv_sub hl [] rfl) h
abbrev rm_Cell_empty : Room := { frames := 2, cells := 1, slots := 3, locals := 37 }
set_option maxRecDepth 100000 in
set_option maxHeartbeats 4000000 in
theorem k_Cell_empty_0 {p : Program} {l : Launch} {e : Env} {s : State} {m : MethodId} {args : Array Value} {below : List Frame} {meth : Method} {c : Code} {D : va_G} {a : Nat → Nat} {q : Nat → ClassId} {PL : List Nat} {A : Nat → Prop} (hC : CX p s m args meth c prog_2_method_3_code 0 "OutwardTape$Cell" (some (.object "OutwardTape$Cell"))) (hA : ∀ x, s.heap.size ≤ x → A x) (hK : va_K D CLS (tE q) s)  {r0 : Int64 × Int64 × Int32} : ∀   (H : Heap) (locs : List Loc) (ls : Array Slot), va_P D CLS (wE a q ) H → va_D A (wE a q ) → va_S A s.heap H locs → lv_has ls 0 [] → f_Cell_empty_0   = some r0 → W p l e rm_Cell_empty s m args below meth c H locs 0 0 (MQ below (va_Qr (fun _ : Unit => True) (fun _ ra t => (va_P D CLS (wE a q ) t.heap) ∧ isC D t.heap ra r0.1 r0.2.1 r0.2.2 ∧ (s.heap.size ≤ ra ∨ ra ∈ PL)) A) args s 1 3 A) (F0 m 0 ls []) := by
  obtain ⟨hx, hb, hml, hown, hts, hr, hlocks⟩ := id hC
  intro H locs ls hP hD hS hl h
  rw [f_Cell_empty_0] at h
  have hSz : s.heap.size ≤ H.size := hS.1
  refine nw_new (ci := 4) (fs := [.long 0, .long 0, .int 0]) (C := "OutwardTape$Cell") (T := T_Cell) (N := 3) hx hb hts in_Cell ty_Cell tk_Cell hown (hts (Cond.classLink "OutwardTape$Cell" 8 "OutwardTape$Cell") (m_2 111 rfl rfl)) (hts (Cond.instantiable "OutwardTape$Cell" 3) (m_2 112 rfl rfl)) (hts (Cond.initialized "OutwardTape$Cell") (m_1 10 rfl rfl)) hK hS rfl (fun j hj => by rcases (show j = 0 ∨ j = 1 ∨ j = 2 by omega) with rfl | rfl | rfl <;> rfl) (Nat.le_of_ble_eq_true rfl) (Nat.le_of_ble_eq_true rfl) (dt_at dt_Cell_empty 0 rfl) (fun y_o1 H1 hy_o1 hk1 hN hS => ?_)
  have hg_o1 : s.heap.size ≤ y_o1 := by rw [hy_o1]; exact hSz
  have hn_o1 : nin (dE a) y_o1 := nin_big hP (Nat.le_of_eq hy_o1.symm) rfl
  have hP := va_P.kept hP (fun k q hq => hk1 _ (hP k q hq).lt)
  have hSz : s.heap.size ≤ H1.size := hS.1
  clear hy_o1 hk1
  generalize H1 = H at hP hS hN hSz  ⊢
  refine W.widen (k := 1) (n := 3) (Nat.le_of_ble_eq_true rfl) (Nat.le_of_ble_eq_true rfl) ?_
  refine lv_dup hx hb (dt_at dt_Cell_empty 1 rfl) rfl ?_
  refine lv_ldc2 (v := 9218868437227405312) hx hb hown (hts (Cond.constantLong "OutwardTape$Cell" 25 (9218868437227405312)) (m_1 211 rfl rfl)) (dt_at dt_Cell_empty 2 rfl) ?_
  refine lv_ldc2 (v := -9218868437227405312) hx hb hown (hts (Cond.constantLong "OutwardTape$Cell" 27 (-9218868437227405312)) (m_2 154 rfl rfl)) (dt_at dt_Cell_empty 3 rfl) ?_
  refine lv_iconst (v := 1) hx hb (dt_at dt_Cell_empty 4 rfl) (by decide) ?_
  refine va_callv (va_runI (As := [.long (9218868437227405312 : Int64), .long (-9218868437227405312 : Int64), .int (1 : Int32)]) (rest := [.ref y_o1]) ⟨hx, hb, hml, hown, hts⟩ (c_Cell_init l D y_o1 H.size (9218868437227405312 : Int64) (-9218868437227405312 : Int64) (1 : Int32)) (cwI 3 hts (gd_c (m_2 115 rfl rfl)) rfl rfl rfl (hts (Cond.initialized "OutwardTape$Cell") (m_1 10 rfl rfl)) (hts (Cond.methodLink "OutwardTape$Cell" 20 (⟨"OutwardTape$Cell", "<init>", "(JJI)V"⟩ : MethodName)) (m_2 113 rfl rfl)) (hts (Cond.instanceMethod (⟨"OutwardTape$Cell", "<init>", "(JJI)V"⟩ : MethodName)) (m_2 114 rfl rfl)) rfl (by decide +kernel) ⟨Nat.le_of_ble_eq_true rfl, Nat.le_of_ble_eq_true rfl⟩) ⟨fun a U g mk q => ⟨q.1, q.2.1, q.2.2.1, va_K.moved (u := U) (U := U.calling g mk a) (Vm.Alike.refl U.vm) q.2.2.2⟩, fun U hU hW => ⟨rfl, by rw [hU], by rw [hU]; exact hN, va_K.moved hW.alike (hK.sub (tys' := []) [] rfl)⟩⟩ rfl rfl hl.1 rfl (lv_room (Nat.le_of_ble_eq_true rfl)) (dt_at dt_Cell_empty 5 rfl) ⟨Nat.le_of_ble_eq_true rfl, Nat.le_of_ble_eq_true rfl⟩) hS (fun x _ h9 => (fun x h9 => h9.elim (fun e9 => e9 ▸ hA _ hg_o1) (fun g9 => hA _ (Nat.le_trans hSz g9))) x h9) (fun x h9 => h9.elim (fun e9 => e9 ▸ hA _ hg_o1) (fun g9 => hA _ (Nat.le_trans hSz g9))) (fun uu t H1 locs ht hvm hw hB hz1 hk1 hS => ?_)
  rw [ht] at hB
  have hP := va_P.kept hP (fun k q hq => hk1 _ (hP k q hq).lt (fun h9 => h9.elim (fun e9 => nin_ne hn_o1 rfl hq e9) (fun g9 => absurd g9 (Nat.not_le.mpr (hP k q hq).lt))))
  have hc_o1 : isC D H1 y_o1 (9218868437227405312 : Int64) (-9218868437227405312 : Int64) (1 : Int32) := hB
  have hf_o1 : s.heap.size ≤ y_o1 ∨ y_o1 ∈ PL := Or.inl hg_o1
  have hSz : s.heap.size ≤ H1.size := hS.1
  clear hk1 hz1
  generalize H1 = H at hP hS hSz hc_o1 ⊢
  obtain rfl := os_of h
  exact W.aret hx hb hr (Or.inl ⟨_, rfl⟩) (Or.inr ⟨_, rfl⟩) (fun t ht hW => ⟨⟨(), y_o1, rfl, trivial, (hPt hP ht), hPt hc_o1 ht, hf_o1⟩, hS.F ht⟩) hS.2.2 (dt_at dt_Cell_empty 6 rfl)
set_option maxRecDepth 100000 in
set_option maxHeartbeats 4000000 in
theorem c_Cell_empty (l : Launch) (D : va_G) (a : Nat → Nat) (q : Nat → ClassId) (hd : va_D (fun _ => True) (dE a)) (sz : Nat)     (r0 : Int64 × Int64 × Int32) (h : f_Cell_empty  = some r0) : Met l (⟨"OutwardTape$Cell", "empty", "()LOutwardTape$Cell;"⟩ : MethodName) (WSm (⟨"OutwardTape$Cell", "empty", "()LOutwardTape$Cell;"⟩ : MethodName) prog_2_method_3_code 0 (some (.object "OutwardTape$Cell"))) rm_Cell_empty (va_Pc [] (fun U => U.heap.size = sz ∧ va_P D CLS (wE a q ) U.heap ∧ va_K D CLS (tE q) U)) (va_Qr (fun _ : Unit => True) (fun _ ra t => (va_P D CLS (wE a q ) t.heap) ∧ isC D t.heap ra r0.1 r0.2.1 r0.2.2 ∧ (sz ≤ ra ∨ ra ∈ ([] : List Nat))) (va_A (dE a) sz)) 1 3 (va_A (dE a) sz) := by
  refine Met.ofW (cc := prog_2_method_3_code) (maxL := 0) (ret := (some (.object "OutwardTape$Cell"))) (by decide) rfl ?_
  intro p e s m args below meth c s₁ B hml hv
  obtain ⟨rfl, hsz, hP, hK⟩ := hv
  subst hsz
  have hC := CX.of B hml rfl
  have hl := lv_entry [] (n := 0) (Nat.le_of_ble_eq_true rfl)
  rw [lg_entry_eq]
  generalize (lg_sl [] ++ List.replicate (0 - (lg_sl []).length) Slot.unset).toArray = ls at hl ⊢
  have hl : lv_has ls 0 [] := hl
  exact k_Cell_empty_0 (PL := []) hC (fun x h => Or.inr h) hK     s.heap [] ls hP (dD hd.self rfl) va_S.rf    (lv_sub hl [] rfl) h
abbrev rm_Cell_isBounded : Room := { frames := 1, cells := 0, slots := 0, locals := 21 }
set_option maxRecDepth 100000 in
set_option maxHeartbeats 4000000 in
theorem k_Cell_isBounded_37 {p : Program} {l : Launch} {e : Env} {s : State} {m : MethodId} {args : Array Value} {below : List Frame} {meth : Method} {c : Code} {D : va_G} {a : Nat → Nat} {q : Nat → ClassId} {A : Nat → Prop} (hC : CX p s m args meth c prog_2_method_7_code 1 "OutwardTape$Cell" (some .boolean)) (hA : ∀ x, s.heap.size ≤ x → A x) (hK : va_K D CLS (tE q) s)  {r0 : Int32} : ∀ (s0 : Int32)  (H : Heap) (locs : List Loc) (ls : Array Slot), va_P D CLS (wE a q ) H → va_D A (wE a q ) → va_S A s.heap H locs → lv_has ls 1 [] → f_Cell_isBounded_37  s0 = some r0 → W p l e rm_Cell_isBounded s m args below meth c H locs 0 0 (MQ below (va_Qi (fun (r : Int32) (_ : Unit) => r = r0) (fun _ t => va_P D CLS (wE a q ) t.heap) A) args s 0 0 A) (F0 m 37 ls [.int s0]) := by
  obtain ⟨hx, hb, hml, hown, hts, hr, hlocks⟩ := id hC
  intro s0 H locs ls hP hD hS hl h
  rw [f_Cell_isBounded_37] at h
  have hSz : s.heap.size ≤ H.size := hS.1
  obtain ⟨hz, h⟩ := og_of h
  obtain rfl := os_of h
  exact W.zret (v := s0) (ty := .boolean) hx hb hr (j_z_nar hz) (fun t ht hW => ⟨⟨_, (), rfl, rfl, (hPt hP ht)⟩, hS.F ht⟩) hS.2.2 (dt_at dt_Cell_isBounded 17 rfl)
set_option maxRecDepth 100000 in
set_option maxHeartbeats 4000000 in
theorem k_Cell_isBounded_36 {p : Program} {l : Launch} {e : Env} {s : State} {m : MethodId} {args : Array Value} {below : List Frame} {meth : Method} {c : Code} {D : va_G} {a : Nat → Nat} {q : Nat → ClassId} {A : Nat → Prop} (hC : CX p s m args meth c prog_2_method_7_code 1 "OutwardTape$Cell" (some .boolean)) (hA : ∀ x, s.heap.size ≤ x → A x) (hK : va_K D CLS (tE q) s)  {r0 : Int32} : ∀   (H : Heap) (locs : List Loc) (ls : Array Slot), va_P D CLS (wE a q ) H → va_D A (wE a q ) → va_S A s.heap H locs → lv_has ls 1 [] → f_Cell_isBounded_36   = some r0 → W p l e rm_Cell_isBounded s m args below meth c H locs 0 0 (MQ below (va_Qi (fun (r : Int32) (_ : Unit) => r = r0) (fun _ t => va_P D CLS (wE a q ) t.heap) A) args s 0 0 A) (F0 m 36 ls []) := by
  obtain ⟨hx, hb, hml, hown, hts, hr, hlocks⟩ := id hC
  intro H locs ls hP hD hS hl h
  rw [f_Cell_isBounded_36] at h
  have hSz : s.heap.size ≤ H.size := hS.1
  refine lv_iconst (v := 0) hx hb (dt_at dt_Cell_isBounded 16 rfl) (by decide) ?_
  exact k_Cell_isBounded_37 hC hA hK   (0 : Int32) H locs ls hP hD hS   (lv_sub hl [] rfl) h
set_option maxRecDepth 100000 in
set_option maxHeartbeats 4000000 in
theorem k_Cell_isBounded_0 {p : Program} {l : Launch} {e : Env} {s : State} {m : MethodId} {args : Array Value} {below : List Frame} {meth : Method} {c : Code} {D : va_G} {a : Nat → Nat} {q : Nat → ClassId} {A : Nat → Prop} (hC : CX p s m args meth c prog_2_method_7_code 1 "OutwardTape$Cell" (some .boolean)) (hA : ∀ x, s.heap.size ≤ x → A x) (hK : va_K D CLS (tE q) s)  {r0 : Int32} : ∀ (v0_l : Int64) (v0_h : Int64) (v0_m : Int32)  (y_v0 : Nat) (H : Heap) (locs : List Loc) (ls : Array Slot), va_P D CLS (wE a q ) H → va_D A (wE a q ) → va_S A s.heap H locs → isC D H y_v0 v0_l v0_h v0_m → nin (dE a) y_v0 → lv_has ls 1 [(0, .ref y_v0)] → f_Cell_isBounded_0  v0_l v0_h v0_m = some r0 → W p l e rm_Cell_isBounded s m args below meth c H locs 0 0 (MQ below (va_Qi (fun (r : Int32) (_ : Unit) => r = r0) (fun _ t => va_P D CLS (wE a q ) t.heap) A) args s 0 0 A) (F0 m 0 ls []) := by
  obtain ⟨hx, hb, hml, hown, hts, hr, hlocks⟩ := id hC
  intro v0_l v0_h v0_m y_v0 H locs ls hP hD hS hc_v0 hn_v0 hl h
  rw [f_Cell_isBounded_0] at h
  have hSz : s.heap.size ≤ H.size := hS.1
  refine lv_aload_n hx hb (dt_at dt_Cell_isBounded 0 rfl) rfl (lv_at hl 0 rfl) ?_
  refine va_get (D := D) (ci := 4) (v := .long v0_l) (C := "OutwardTape$Cell") (T := T_Cell) (N := 3) hx hb hts in_Cell hown hK hc_v0 0 rfl rfl 0 (by decide) (hts (Cond.fieldLink "OutwardTape$Cell" 7 "OutwardTape$Cell" "low" "J") (m_2 117 rfl rfl)) (fun _ h9 => h9) rfl (dt_at dt_Cell_isBounded 1 rfl) ?_
  refine lv_aload_n hx hb (dt_at dt_Cell_isBounded 2 rfl) rfl (lv_at hl 0 rfl) ?_
  refine va_get (D := D) (ci := 4) (v := .long v0_h) (C := "OutwardTape$Cell") (T := T_Cell) (N := 3) hx hb hts in_Cell hown hK hc_v0 0 rfl rfl 1 (by decide) (hts (Cond.fieldLink "OutwardTape$Cell" 13 "OutwardTape$Cell" "high" "J") (m_2 124 rfl rfl)) (fun _ h9 => h9) rfl (dt_at dt_Cell_isBounded 3 rfl) ?_
  refine lc_gt (tgt := 36) hx hb (dt_at dt_Cell_isBounded 4 rfl) (dt_at dt_Cell_isBounded 5 rfl) (by decide) (fun c1 => ?_) (fun c1 => ?_)
  · have h := if_p h c1
    exact k_Cell_isBounded_36 hC hA hK   H locs ls hP hD hS   (lv_sub hl [] rfl) h
  · have h := if_n h c1
    refine lv_aload_n hx hb (dt_at dt_Cell_isBounded 6 rfl) rfl (lv_at hl 0 rfl) ?_
    refine va_get (D := D) (ci := 4) (v := .long v0_l) (C := "OutwardTape$Cell") (T := T_Cell) (N := 3) hx hb hts in_Cell hown hK hc_v0 0 rfl rfl 0 (by decide) (hts (Cond.fieldLink "OutwardTape$Cell" 7 "OutwardTape$Cell" "low" "J") (m_2 117 rfl rfl)) (fun _ h9 => h9) rfl (dt_at dt_Cell_isBounded 7 rfl) ?_
    obtain ⟨r2, h_r2, h⟩ := ob_of h
    refine vp_callSi (W.runS (As := [.long v0_l]) (rest := []) ⟨hx, hb, hml, hown, hts⟩ (c_Rank_isFinite l v0_l r2 h_r2) (va_cwS 1 hts (gd_S (m_1 169 rfl rfl) (m_1 153 rfl rfl) (m_1 15 rfl rfl) (m_1 154 rfl rfl)) rfl rfl rfl (by decide +kernel) ⟨Nat.le_of_ble_eq_true rfl, Nat.le_of_ble_eq_true rfl⟩) ⟨fun _ _ _ _ q => q, fun U hU hW => ⟨rfl, trivial⟩⟩ rfl rfl hl.1 rfl (lv_room (Nat.le_of_ble_eq_true rfl)) (dt_at dt_Cell_isBounded 8 rfl) ⟨Nat.le_of_ble_eq_true rfl, Nat.le_of_ble_eq_true rfl⟩) (fun u_r2 q_r2 => ?_)
    obtain rfl : r2 = u_r2 := q_r2.symm
    refine lv_if_eq (tgt := 36) hx hb (dt_at dt_Cell_isBounded 9 rfl) (by decide) (fun c3 => ?_) (fun c3 => ?_)
    · have h := if_p h c3
      exact k_Cell_isBounded_36 hC hA hK   H locs ls hP hD hS   (lv_sub hl [] rfl) h
    · have h := if_n h c3
      refine lv_aload_n hx hb (dt_at dt_Cell_isBounded 10 rfl) rfl (lv_at hl 0 rfl) ?_
      refine va_get (D := D) (ci := 4) (v := .long v0_h) (C := "OutwardTape$Cell") (T := T_Cell) (N := 3) hx hb hts in_Cell hown hK hc_v0 0 rfl rfl 1 (by decide) (hts (Cond.fieldLink "OutwardTape$Cell" 13 "OutwardTape$Cell" "high" "J") (m_2 124 rfl rfl)) (fun _ h9 => h9) rfl (dt_at dt_Cell_isBounded 11 rfl) ?_
      obtain ⟨r4, h_r4, h⟩ := ob_of h
      refine vp_callSi (W.runS (As := [.long v0_h]) (rest := []) ⟨hx, hb, hml, hown, hts⟩ (c_Rank_isFinite l v0_h r4 h_r4) (va_cwS 1 hts (gd_S (m_1 169 rfl rfl) (m_1 153 rfl rfl) (m_1 15 rfl rfl) (m_1 154 rfl rfl)) rfl rfl rfl (by decide +kernel) ⟨Nat.le_of_ble_eq_true rfl, Nat.le_of_ble_eq_true rfl⟩) ⟨fun _ _ _ _ q => q, fun U hU hW => ⟨rfl, trivial⟩⟩ rfl rfl hl.1 rfl (lv_room (Nat.le_of_ble_eq_true rfl)) (dt_at dt_Cell_isBounded 12 rfl) ⟨Nat.le_of_ble_eq_true rfl, Nat.le_of_ble_eq_true rfl⟩) (fun u_r4 q_r4 => ?_)
      obtain rfl : r4 = u_r4 := q_r4.symm
      refine lv_if_eq (tgt := 36) hx hb (dt_at dt_Cell_isBounded 13 rfl) (by decide) (fun c5 => ?_) (fun c5 => ?_)
      · have h := if_p h c5
        exact k_Cell_isBounded_36 hC hA hK   H locs ls hP hD hS   (lv_sub hl [] rfl) h
      · have h := if_n h c5
        refine lv_iconst (v := 1) hx hb (dt_at dt_Cell_isBounded 14 rfl) (by decide) ?_
        refine lv_goto (tgt := 37) hx hb (dt_at dt_Cell_isBounded 15 rfl) (by decide) ?_
        exact k_Cell_isBounded_37 hC hA hK   (1 : Int32) H locs ls hP hD hS   (lv_sub hl [] rfl) h
set_option maxRecDepth 100000 in
set_option maxHeartbeats 4000000 in
theorem c_Cell_isBounded (l : Launch) (D : va_G) (a : Nat → Nat) (q : Nat → ClassId) (hd : va_D (fun _ => True) (dE a)) (sz : Nat) (a0_l : Int64) (a0_h : Int64) (a0_m : Int32)  (y_a0 : Nat) (hn_a0 : nin (dE a) y_a0) (r0 : Int32) (h : f_Cell_isBounded a0_l a0_h a0_m = some r0) : Met l (⟨"OutwardTape$Cell", "isBounded", "()Z"⟩ : MethodName) (WSm (⟨"OutwardTape$Cell", "isBounded", "()Z"⟩ : MethodName) prog_2_method_7_code 1 (some .boolean)) rm_Cell_isBounded (va_Pc [.ref y_a0] (fun U => U.heap.size = sz ∧ va_P D CLS (wE a q ) U.heap ∧ va_K D CLS (tE q) U ∧ isC D U.heap y_a0 a0_l a0_h a0_m)) (va_Qi (fun (r : Int32) (_ : Unit) => r = r0) (fun _ t => va_P D CLS (wE a q ) t.heap) (va_A (dE a) sz)) 0 0 (va_A (dE a) sz) := by
  refine Met.ofW (cc := prog_2_method_7_code) (maxL := 1) (ret := (some .boolean)) (by decide) rfl ?_
  intro p e s m args below meth c s₁ B hml hv
  obtain ⟨rfl, hsz, hP, hK, hc_a0⟩ := hv
  subst hsz
  have hC := CX.of B hml rfl
  have hl := lv_entry [.ref y_a0] (n := 1) (Nat.le_of_ble_eq_true rfl)
  rw [lg_entry_eq]
  generalize (lg_sl [.ref y_a0] ++ List.replicate (1 - (lg_sl [.ref y_a0]).length) Slot.unset).toArray = ls at hl ⊢
  have hl : lv_has ls 1 [(0, .ref y_a0)] := hl
  exact k_Cell_isBounded_0  hC (fun x h => Or.inr h) hK a0_l a0_h a0_m   y_a0 s.heap [] ls hP (dD hd.self rfl) va_S.rf  hc_a0  hn_a0  (lv_sub hl [0] rfl) h
abbrev rm_Cell_between : Room := { frames := 3, cells := 2, slots := 6, locals := 56 }
set_option maxRecDepth 100000 in
set_option maxHeartbeats 4000000 in
theorem k_Cell_between_69 {p : Program} {l : Launch} {e : Env} {s : State} {m : MethodId} {args : Array Value} {below : List Frame} {meth : Method} {c : Code} {D : va_G} {a : Nat → Nat} {q : Nat → ClassId} {PL : List Nat} {A : Nat → Prop} (hC : CX p s m args meth c prog_2_method_4_code 7 "OutwardTape$Cell" (some (.object "OutwardTape$Cell"))) (hA : ∀ x, s.heap.size ≤ x → A x) (hK : va_K D CLS (tE q) s)  {r0 : Int64 × Int64 × Int32} : ∀ (s0_l : Int64) (s0_h : Int64) (s0_m : Int32)  (y_s0 : Nat) (H : Heap) (locs : List Loc) (ls : Array Slot), va_P D CLS (wE a q ) H → va_D A (wE a q ) → va_S A s.heap H locs → isC D H y_s0 s0_l s0_h s0_m → (s.heap.size ≤ y_s0 ∨ y_s0 ∈ PL) → nin (dE a) y_s0 → lv_has ls 7 [] → f_Cell_between_69  s0_l s0_h s0_m = some r0 → W p l e rm_Cell_between s m args below meth c H locs 2 6 (MQ below (va_Qr (fun _ : Unit => True) (fun _ ra t => (va_P D CLS (wE a q ) t.heap) ∧ isC D t.heap ra r0.1 r0.2.1 r0.2.2 ∧ (s.heap.size ≤ ra ∨ ra ∈ PL)) A) args s 2 6 A) (F0 m 69 ls [.ref y_s0]) := by
  obtain ⟨hx, hb, hml, hown, hts, hr, hlocks⟩ := id hC
  intro s0_l s0_h s0_m y_s0 H locs ls hP hD hS hc_s0 hf_s0 hn_s0 hl h
  rw [f_Cell_between_69] at h
  have hSz : s.heap.size ≤ H.size := hS.1
  obtain rfl := os_of h
  exact W.aret hx hb hr (Or.inl ⟨_, rfl⟩) (Or.inr ⟨_, rfl⟩) (fun t ht hW => ⟨⟨(), y_s0, rfl, trivial, (hPt hP ht), hPt hc_s0 ht, hf_s0⟩, hS.F ht⟩) hS.2.2 (dt_at dt_Cell_between 34 rfl)
set_option maxRecDepth 100000 in
set_option maxHeartbeats 4000000 in
theorem k_Cell_between_66 {p : Program} {l : Launch} {e : Env} {s : State} {m : MethodId} {args : Array Value} {below : List Frame} {meth : Method} {c : Code} {D : va_G} {a : Nat → Nat} {q : Nat → ClassId} {PL : List Nat} {A : Nat → Prop} (hC : CX p s m args meth c prog_2_method_4_code 7 "OutwardTape$Cell" (some (.object "OutwardTape$Cell"))) (hA : ∀ x, s.heap.size ≤ x → A x) (hK : va_K D CLS (tE q) s)  {r0 : Int64 × Int64 × Int32} : ∀   (H : Heap) (locs : List Loc) (ls : Array Slot), va_P D CLS (wE a q ) H → va_D A (wE a q ) → va_S A s.heap H locs → lv_has ls 7 [] → f_Cell_between_66   = some r0 → W p l e rm_Cell_between s m args below meth c H locs 1 3 (MQ below (va_Qr (fun _ : Unit => True) (fun _ ra t => (va_P D CLS (wE a q ) t.heap) ∧ isC D t.heap ra r0.1 r0.2.1 r0.2.2 ∧ (s.heap.size ≤ ra ∨ ra ∈ PL)) A) args s 2 6 A) (F0 m 66 ls []) := by
  obtain ⟨hx, hb, hml, hown, hts, hr, hlocks⟩ := id hC
  intro H locs ls hP hD hS hl h
  rw [f_Cell_between_66] at h
  have hSz : s.heap.size ≤ H.size := hS.1
  obtain ⟨r1, h_r1, h⟩ := ob_of h
  have hPc : va_P D CLS (wE a q) H := fun k q h => by simp [wE] at h
  have hd : va_D (fun _ => True) (dE a) := dE_D a
  have hKc : va_K D CLS (tE q) s := hK.sub (tys' := []) [] rfl
  have hF : ∀ x, va_A (dE a) H.size x → A x := fun x h9 => h9.elim (fun ⟨k, e, h⟩ => by simp [dE] at h) (fun g => hA _ (Nat.le_trans hS.1 g))
  refine va_callr (va_runS (As := []) (rest := []) ⟨hx, hb, hml, hown, hts⟩ (c_Cell_ill l D a q  hd H.size     r1 h_r1) (va_cwS 0 hts (gd_S (m_3 67 rfl rfl) (m_2 109 rfl rfl) (m_1 10 rfl rfl) (m_2 110 rfl rfl)) rfl rfl rfl (by decide +kernel) ⟨Nat.le_of_ble_eq_true rfl, Nat.le_of_ble_eq_true rfl⟩) ⟨fun a U g mk q => ⟨q.1, q.2.1, q.2.2.1, va_K.moved (u := U) (U := U.calling g mk a) (Vm.Alike.refl U.vm) q.2.2.2⟩, fun U hU hW => ⟨rfl, by rw [hU], by rw [hU]; exact hPc, va_K.moved hW.alike hKc⟩⟩ rfl rfl hl.1 rfl (lv_room (Nat.le_of_ble_eq_true rfl)) (dt_at dt_Cell_between 33 rfl) ⟨Nat.le_of_ble_eq_true rfl, Nat.le_of_ble_eq_true rfl⟩) hS (fun x _ h9 => hF x h9) hF (fun uu y_r1 t H1 locs ht hvm hw hB hz1 hk1 hS => ?_)
  obtain ⟨hB, hc_r1, hq_r1⟩ := hB
  rw [ht] at hc_r1
  have hn_r1 : nin (dE a) y_r1 := nin_cases hq_r1 (fun g9 => nin_big hP g9 rfl) (fun g9 => by simp at g9)
  have hf_r1 : s.heap.size ≤ y_r1 ∨ y_r1 ∈ PL := nin_cases hq_r1 (fun g9 => Or.inl (Nat.le_trans hSz g9)) (fun g9 => by simp at g9)
  clear hq_r1
  have hP := va_P.kept hP (fun k q hq => hk1 _ (hP k q hq).lt (not_AE (hP k q hq).lt))
  refine W.widen (k := 2) (n := 6) (Nat.le_of_ble_eq_true rfl) (Nat.le_of_ble_eq_true rfl) ?_
  have hSz : s.heap.size ≤ H1.size := hS.1
  clear hk1 hz1 hPc hF hB ht
  generalize H1 = H at hP hS hSz hc_r1 ⊢
  exact k_Cell_between_69 (PL := PL) hC hA hK   r1.1 r1.2.1 r1.2.2 y_r1 H locs ls hP hD hS  hc_r1 hf_r1 hn_r1 (lv_sub hl [] rfl) h
set_option maxRecDepth 100000 in
set_option maxHeartbeats 4000000 in
theorem k_Cell_between_61 {p : Program} {l : Launch} {e : Env} {s : State} {m : MethodId} {args : Array Value} {below : List Frame} {meth : Method} {c : Code} {D : va_G} {a : Nat → Nat} {q : Nat → ClassId} {PL : List Nat} {A : Nat → Prop} (hC : CX p s m args meth c prog_2_method_4_code 7 "OutwardTape$Cell" (some (.object "OutwardTape$Cell"))) (hA : ∀ x, s.heap.size ≤ x → A x) (hK : va_K D CLS (tE q) s)  {r0 : Int64 × Int64 × Int32} : ∀ (v5_l : Int64) (v5_h : Int64) (v5_m : Int32)  (y_v5 : Nat) (H : Heap) (locs : List Loc) (ls : Array Slot), va_P D CLS (wE a q ) H → va_D A (wE a q ) → va_S A s.heap H locs → isC D H y_v5 v5_l v5_h v5_m → (s.heap.size ≤ y_v5 ∨ y_v5 ∈ PL) → nin (dE a) y_v5 → lv_has ls 7 [(5, .ref y_v5)] → f_Cell_between_61  v5_l v5_h v5_m = some r0 → W p l e rm_Cell_between s m args below meth c H locs 1 3 (MQ below (va_Qr (fun _ : Unit => True) (fun _ ra t => (va_P D CLS (wE a q ) t.heap) ∧ isC D t.heap ra r0.1 r0.2.1 r0.2.2 ∧ (s.heap.size ≤ ra ∨ ra ∈ PL)) A) args s 2 6 A) (F0 m 61 ls []) := by
  obtain ⟨hx, hb, hml, hown, hts, hr, hlocks⟩ := id hC
  intro v5_l v5_h v5_m y_v5 H locs ls hP hD hS hc_v5 hf_v5 hn_v5 hl h
  rw [f_Cell_between_61] at h
  have hSz : s.heap.size ≤ H.size := hS.1
  refine lv_aload hx hb (dt_at dt_Cell_between 31 rfl) (lv_at hl 0 rfl) ?_
  refine lv_goto (tgt := 69) hx hb (dt_at dt_Cell_between 32 rfl) (by decide) ?_
  refine W.widen (k := 2) (n := 6) (Nat.le_of_ble_eq_true rfl) (Nat.le_of_ble_eq_true rfl) ?_
  exact k_Cell_between_69 (PL := PL) hC hA hK   v5_l v5_h v5_m y_v5 H locs ls hP hD hS  hc_v5 hf_v5 hn_v5 (lv_sub hl [] rfl) h
set_option maxRecDepth 100000 in
set_option maxHeartbeats 4000000 in
theorem k_Cell_between_40 {p : Program} {l : Launch} {e : Env} {s : State} {m : MethodId} {args : Array Value} {below : List Frame} {meth : Method} {c : Code} {D : va_G} {a : Nat → Nat} {q : Nat → ClassId} {PL : List Nat} {A : Nat → Prop} (hC : CX p s m args meth c prog_2_method_4_code 7 "OutwardTape$Cell" (some (.object "OutwardTape$Cell"))) (hA : ∀ x, s.heap.size ≤ x → A x) (hK : va_K D CLS (tE q) s)  {r0 : Int64 × Int64 × Int32} : ∀ (s0 : Int32) (v4 : Int32) (v5_l : Int64) (v5_h : Int64) (v5_m : Int32)  (y_v5 : Nat) (H : Heap) (locs : List Loc) (ls : Array Slot), va_P D CLS (wE a q ) H → va_D A (wE a q ) → va_S A s.heap H locs → isC D H y_v5 v5_l v5_h v5_m → (s.heap.size ≤ y_v5 ∨ y_v5 ∈ PL) → nin (dE a) y_v5 → lv_has ls 7 [(4, .int v4), (5, .ref y_v5)] → f_Cell_between_40  s0 v4 v5_l v5_h v5_m = some r0 → W p l e rm_Cell_between s m args below meth c H locs 1 3 (MQ below (va_Qr (fun _ : Unit => True) (fun _ ra t => (va_P D CLS (wE a q ) t.heap) ∧ isC D t.heap ra r0.1 r0.2.1 r0.2.2 ∧ (s.heap.size ≤ ra ∨ ra ∈ PL)) A) args s 2 6 A) (F0 m 40 ls [.int s0]) := by
  obtain ⟨hx, hb, hml, hown, hts, hr, hlocks⟩ := id hC
  intro s0 v4 v5_l v5_h v5_m y_v5 H locs ls hP hD hS hc_v5 hf_v5 hn_v5 hl h
  rw [f_Cell_between_40] at h
  have hSz : s.heap.size ≤ H.size := hS.1
  refine lv_istore (lv' := [(6, .int s0), (4, .int v4), (5, .ref y_v5)]) hx hb (dt_at dt_Cell_between 22 rfl) hl (by decide) rfl (fun ls hl => ?_)
  refine lv_iload hx hb (dt_at dt_Cell_between 23 rfl) (lv_at hl 0 rfl) ?_
  refine lv_if_eq (tgt := 66) hx hb (dt_at dt_Cell_between 24 rfl) (by decide) (fun c1 => ?_) (fun c1 => ?_)
  · have h := if_p h c1
    exact k_Cell_between_66 (PL := PL) hC hA hK   H locs ls hP hD hS   (lv_sub hl [] rfl) h
  · have h := if_n h c1
    refine lv_iload hx hb (dt_at dt_Cell_between 25 rfl) (lv_at hl 1 rfl) ?_
    refine lv_iconst (v := 4) hx hb (dt_at dt_Cell_between 26 rfl) (by decide) ?_
    refine lv_icmp_ne (tgt := 61) hx hb (dt_at dt_Cell_between 27 rfl) (by decide) (fun c2 => ?_) (fun c2 => ?_)
    · have h := if_n h c2
      exact k_Cell_between_61 (PL := PL) hC hA hK   v5_l v5_h v5_m y_v5 H locs ls hP hD hS  hc_v5 hf_v5 hn_v5 (lv_sub hl [2] rfl) h
    · have h := if_p h c2
      refine lv_aload hx hb (dt_at dt_Cell_between 28 rfl) (lv_at hl 2 rfl) ?_
      obtain ⟨r3, h_r3, h⟩ := ob_of h
      have hPc : va_P D CLS (wE a q) H := fun k q h => by simp [wE] at h
      have hd : va_D (fun _ => True) (dE a) := dE_D a
      have hKc : va_K D CLS (tE q) s := hK.sub (tys' := []) [] rfl
      have hF : ∀ x, va_A (dE a) H.size x → A x := fun x h9 => h9.elim (fun ⟨k, e, h⟩ => by simp [dE] at h) (fun g => hA _ (Nat.le_trans hS.1 g))
      refine va_calli (va_runV (As := []) (rest := []) ⟨hx, hb, hml, hown, hts⟩ (c_Cell_isBounded l D a q  hd H.size v5_l v5_h v5_m  y_v5 (nin_E a y_v5) r3 h_r3) (cwV 0 hts (gd_V (m_1 165 rfl rfl) (m_1 166 rfl rfl) (m_1 167 rfl rfl) (m_1 10 rfl rfl) (m_1 168 rfl rfl)) rfl rfl rfl (by decide +kernel) ⟨Nat.le_of_ble_eq_true rfl, Nat.le_of_ble_eq_true rfl⟩) ⟨fun a U g mk q => ⟨q.1, q.2.1, q.2.2.1, va_K.moved (u := U) (U := U.calling g mk a) (Vm.Alike.refl U.vm) q.2.2.2.1, q.2.2.2.2⟩, va_recv hK hc_v5 (ci := 4) (q0 := 0) rfl rfl, fun U hU hW => ⟨rfl, by rw [hU], by rw [hU]; exact hPc, va_K.moved hW.alike hKc, by rw [hU]; exact hc_v5⟩⟩ rfl rfl hl.1 rfl (lv_room (Nat.le_of_ble_eq_true rfl)) (dt_at dt_Cell_between 29 rfl) ⟨Nat.le_of_ble_eq_true rfl, Nat.le_of_ble_eq_true rfl⟩) hS (fun x _ h9 => hF x h9) hF (fun u_r3 uu t H1 locs ht hvm hw hB hz1 hk1 hS => ?_)
      obtain rfl : r3 = u_r3 := hw.symm
      have hc_v5 := isC.keptA hc_v5 hk1 (nin_E a y_v5)
      have hP := va_P.kept hP (fun k q hq => hk1 _ (hP k q hq).lt (not_AE (hP k q hq).lt))
      have hSz : s.heap.size ≤ H1.size := hS.1
      clear hk1 hz1 hPc hF hB ht
      generalize H1 = H at hP hS hSz hc_v5 ⊢
      refine lv_if_eq (tgt := 66) hx hb (dt_at dt_Cell_between 30 rfl) (by decide) (fun c4 => ?_) (fun c4 => ?_)
      · have h := if_p h c4
        exact k_Cell_between_66 (PL := PL) hC hA hK   H locs ls hP hD hS   (lv_sub hl [] rfl) h
      · have h := if_n h c4
        exact k_Cell_between_61 (PL := PL) hC hA hK   v5_l v5_h v5_m y_v5 H locs ls hP hD hS  hc_v5 hf_v5 hn_v5 (lv_sub hl [2] rfl) h
set_option maxRecDepth 100000 in
set_option maxHeartbeats 4000000 in
theorem k_Cell_between_39 {p : Program} {l : Launch} {e : Env} {s : State} {m : MethodId} {args : Array Value} {below : List Frame} {meth : Method} {c : Code} {D : va_G} {a : Nat → Nat} {q : Nat → ClassId} {PL : List Nat} {A : Nat → Prop} (hC : CX p s m args meth c prog_2_method_4_code 7 "OutwardTape$Cell" (some (.object "OutwardTape$Cell"))) (hA : ∀ x, s.heap.size ≤ x → A x) (hK : va_K D CLS (tE q) s)  {r0 : Int64 × Int64 × Int32} : ∀ (v4 : Int32) (v5_l : Int64) (v5_h : Int64) (v5_m : Int32)  (y_v5 : Nat) (H : Heap) (locs : List Loc) (ls : Array Slot), va_P D CLS (wE a q ) H → va_D A (wE a q ) → va_S A s.heap H locs → isC D H y_v5 v5_l v5_h v5_m → (s.heap.size ≤ y_v5 ∨ y_v5 ∈ PL) → nin (dE a) y_v5 → lv_has ls 7 [(4, .int v4), (5, .ref y_v5)] → f_Cell_between_39  v4 v5_l v5_h v5_m = some r0 → W p l e rm_Cell_between s m args below meth c H locs 1 3 (MQ below (va_Qr (fun _ : Unit => True) (fun _ ra t => (va_P D CLS (wE a q ) t.heap) ∧ isC D t.heap ra r0.1 r0.2.1 r0.2.2 ∧ (s.heap.size ≤ ra ∨ ra ∈ PL)) A) args s 2 6 A) (F0 m 39 ls []) := by
  obtain ⟨hx, hb, hml, hown, hts, hr, hlocks⟩ := id hC
  intro v4 v5_l v5_h v5_m y_v5 H locs ls hP hD hS hc_v5 hf_v5 hn_v5 hl h
  rw [f_Cell_between_39] at h
  have hSz : s.heap.size ≤ H.size := hS.1
  refine lv_iconst (v := 0) hx hb (dt_at dt_Cell_between 21 rfl) (by decide) ?_
  exact k_Cell_between_40 (PL := PL) hC hA hK   (0 : Int32) v4 v5_l v5_h v5_m y_v5 H locs ls hP hD hS  hc_v5 hf_v5 hn_v5 (lv_sub hl [0, 1] rfl) h
set_option maxRecDepth 100000 in
set_option maxHeartbeats 4000000 in
theorem k_Cell_between_0 {p : Program} {l : Launch} {e : Env} {s : State} {m : MethodId} {args : Array Value} {below : List Frame} {meth : Method} {c : Code} {D : va_G} {a : Nat → Nat} {q : Nat → ClassId} {PL : List Nat} {A : Nat → Prop} (hC : CX p s m args meth c prog_2_method_4_code 7 "OutwardTape$Cell" (some (.object "OutwardTape$Cell"))) (hA : ∀ x, s.heap.size ≤ x → A x) (hK : va_K D CLS (tE q) s)  {r0 : Int64 × Int64 × Int32} : ∀ (v0 : Int64) (v2 : Int64) (v4 : Int32)  (H : Heap) (locs : List Loc) (ls : Array Slot), va_P D CLS (wE a q ) H → va_D A (wE a q ) → va_S A s.heap H locs → lv_has ls 7 [(0, .long v0), (2, .long v2), (4, .int v4)] → f_Cell_between_0  v0 v2 v4 = some r0 → W p l e rm_Cell_between s m args below meth c H locs 0 0 (MQ below (va_Qr (fun _ : Unit => True) (fun _ ra t => (va_P D CLS (wE a q ) t.heap) ∧ isC D t.heap ra r0.1 r0.2.1 r0.2.2 ∧ (s.heap.size ≤ ra ∨ ra ∈ PL)) A) args s 2 6 A) (F0 m 0 ls []) := by
  obtain ⟨hx, hb, hml, hown, hts, hr, hlocks⟩ := id hC
  intro v0 v2 v4 H locs ls hP hD hS hl h
  rw [f_Cell_between_0] at h
  have hSz : s.heap.size ≤ H.size := hS.1
  refine nw_new (ci := 4) (fs := [.long 0, .long 0, .int 0]) (C := "OutwardTape$Cell") (T := T_Cell) (N := 3) hx hb hts in_Cell ty_Cell tk_Cell hown (hts (Cond.classLink "OutwardTape$Cell" 8 "OutwardTape$Cell") (m_2 111 rfl rfl)) (hts (Cond.instantiable "OutwardTape$Cell" 3) (m_2 112 rfl rfl)) (hts (Cond.initialized "OutwardTape$Cell") (m_1 10 rfl rfl)) hK hS rfl (fun j hj => by rcases (show j = 0 ∨ j = 1 ∨ j = 2 by omega) with rfl | rfl | rfl <;> rfl) (Nat.le_of_ble_eq_true rfl) (Nat.le_of_ble_eq_true rfl) (dt_at dt_Cell_between 0 rfl) (fun y_o1 H1 hy_o1 hk1 hN hS => ?_)
  have hg_o1 : s.heap.size ≤ y_o1 := by rw [hy_o1]; exact hSz
  have hn_o1 : nin (dE a) y_o1 := nin_big hP (Nat.le_of_eq hy_o1.symm) rfl
  have hP := va_P.kept hP (fun k q hq => hk1 _ (hP k q hq).lt)
  have hSz : s.heap.size ≤ H1.size := hS.1
  clear hy_o1 hk1
  generalize H1 = H at hP hS hN hSz  ⊢
  refine W.widen (k := 1) (n := 3) (Nat.le_of_ble_eq_true rfl) (Nat.le_of_ble_eq_true rfl) ?_
  refine lv_dup hx hb (dt_at dt_Cell_between 1 rfl) rfl ?_
  refine lv_lload_n hx hb (dt_at dt_Cell_between 2 rfl) rfl (lv_at hl 0 rfl) ?_
  refine lv_lload_n hx hb (dt_at dt_Cell_between 3 rfl) rfl (lv_at hl 1 rfl) ?_
  refine lv_iload hx hb (dt_at dt_Cell_between 4 rfl) (lv_at hl 2 rfl) ?_
  refine va_callv (va_runI (As := [.long v0, .long v2, .int v4]) (rest := [.ref y_o1]) ⟨hx, hb, hml, hown, hts⟩ (c_Cell_init l D y_o1 H.size v0 v2 v4) (cwI 3 hts (gd_c (m_2 115 rfl rfl)) rfl rfl rfl (hts (Cond.initialized "OutwardTape$Cell") (m_1 10 rfl rfl)) (hts (Cond.methodLink "OutwardTape$Cell" 20 (⟨"OutwardTape$Cell", "<init>", "(JJI)V"⟩ : MethodName)) (m_2 113 rfl rfl)) (hts (Cond.instanceMethod (⟨"OutwardTape$Cell", "<init>", "(JJI)V"⟩ : MethodName)) (m_2 114 rfl rfl)) rfl (by decide +kernel) ⟨Nat.le_of_ble_eq_true rfl, Nat.le_of_ble_eq_true rfl⟩) ⟨fun a U g mk q => ⟨q.1, q.2.1, q.2.2.1, va_K.moved (u := U) (U := U.calling g mk a) (Vm.Alike.refl U.vm) q.2.2.2⟩, fun U hU hW => ⟨rfl, by rw [hU], by rw [hU]; exact hN, va_K.moved hW.alike (hK.sub (tys' := []) [] rfl)⟩⟩ rfl rfl hl.1 rfl (lv_room (Nat.le_of_ble_eq_true rfl)) (dt_at dt_Cell_between 5 rfl) ⟨Nat.le_of_ble_eq_true rfl, Nat.le_of_ble_eq_true rfl⟩) hS (fun x _ h9 => (fun x h9 => h9.elim (fun e9 => e9 ▸ hA _ hg_o1) (fun g9 => hA _ (Nat.le_trans hSz g9))) x h9) (fun x h9 => h9.elim (fun e9 => e9 ▸ hA _ hg_o1) (fun g9 => hA _ (Nat.le_trans hSz g9))) (fun uu t H1 locs ht hvm hw hB hz1 hk1 hS => ?_)
  rw [ht] at hB
  have hP := va_P.kept hP (fun k q hq => hk1 _ (hP k q hq).lt (fun h9 => h9.elim (fun e9 => nin_ne hn_o1 rfl hq e9) (fun g9 => absurd g9 (Nat.not_le.mpr (hP k q hq).lt))))
  have hc_o1 : isC D H1 y_o1 v0 v2 v4 := hB
  have hf_o1 : s.heap.size ≤ y_o1 ∨ y_o1 ∈ PL := Or.inl hg_o1
  have hSz : s.heap.size ≤ H1.size := hS.1
  clear hk1 hz1
  generalize H1 = H at hP hS hSz hc_o1 ⊢
  refine lv_astore (lv' := [(5, .ref y_o1), (0, .long v0), (2, .long v2), (4, .int v4)]) hx hb (dt_at dt_Cell_between 6 rfl) hl (by decide) rfl (fun ls hl => ?_)
  refine lv_lload_n hx hb (dt_at dt_Cell_between 7 rfl) rfl (lv_at hl 1 rfl) ?_
  refine lv_lload_n hx hb (dt_at dt_Cell_between 8 rfl) rfl (lv_at hl 2 rfl) ?_
  refine lc_gt (tgt := 39) hx hb (dt_at dt_Cell_between 9 rfl) (dt_at dt_Cell_between 10 rfl) (by decide) (fun c2 => ?_) (fun c2 => ?_)
  · have h := if_p h c2
    exact k_Cell_between_39 (PL := PL) hC hA hK   v4 v0 v2 v4 y_o1 H locs ls hP hD hS  hc_o1 hf_o1 hn_o1 (lv_sub hl [3, 0] rfl) h
  · have h := if_n h c2
    refine lv_lload_n hx hb (dt_at dt_Cell_between 11 rfl) rfl (lv_at hl 1 rfl) ?_
    refine lv_ldc2 (v := 9218868437227405312) hx hb hown (hts (Cond.constantLong "OutwardTape$Cell" 25 (9218868437227405312)) (m_1 211 rfl rfl)) (dt_at dt_Cell_between 12 rfl) ?_
    refine lc_ge (tgt := 39) hx hb (dt_at dt_Cell_between 13 rfl) (dt_at dt_Cell_between 14 rfl) (by decide) (fun c3 => ?_) (fun c3 => ?_)
    · have h := if_p h c3
      exact k_Cell_between_39 (PL := PL) hC hA hK   v4 v0 v2 v4 y_o1 H locs ls hP hD hS  hc_o1 hf_o1 hn_o1 (lv_sub hl [3, 0] rfl) h
    · have h := if_n h c3
      refine lv_lload_n hx hb (dt_at dt_Cell_between 15 rfl) rfl (lv_at hl 2 rfl) ?_
      refine lv_ldc2 (v := -9218868437227405312) hx hb hown (hts (Cond.constantLong "OutwardTape$Cell" 27 (-9218868437227405312)) (m_2 154 rfl rfl)) (dt_at dt_Cell_between 16 rfl) ?_
      refine lc_le (tgt := 39) hx hb (dt_at dt_Cell_between 17 rfl) (dt_at dt_Cell_between 18 rfl) (by decide) (fun c4 => ?_) (fun c4 => ?_)
      · have h := if_p h c4
        exact k_Cell_between_39 (PL := PL) hC hA hK   v4 v0 v2 v4 y_o1 H locs ls hP hD hS  hc_o1 hf_o1 hn_o1 (lv_sub hl [3, 0] rfl) h
      · have h := if_n h c4
        refine lv_iconst (v := 1) hx hb (dt_at dt_Cell_between 19 rfl) (by decide) ?_
        refine lv_goto (tgt := 40) hx hb (dt_at dt_Cell_between 20 rfl) (by decide) ?_
        exact k_Cell_between_40 (PL := PL) hC hA hK   (1 : Int32) v4 v0 v2 v4 y_o1 H locs ls hP hD hS  hc_o1 hf_o1 hn_o1 (lv_sub hl [3, 0] rfl) h
set_option maxRecDepth 100000 in
set_option maxHeartbeats 4000000 in
theorem c_Cell_between (l : Launch) (D : va_G) (a : Nat → Nat) (q : Nat → ClassId) (hd : va_D (fun _ => True) (dE a)) (sz : Nat) (a0 : Int64) (a2 : Int64) (a4 : Int32)    (r0 : Int64 × Int64 × Int32) (h : f_Cell_between a0 a2 a4 = some r0) : Met l (⟨"OutwardTape$Cell", "between", "(JJI)LOutwardTape$Cell;"⟩ : MethodName) (WSm (⟨"OutwardTape$Cell", "between", "(JJI)LOutwardTape$Cell;"⟩ : MethodName) prog_2_method_4_code 7 (some (.object "OutwardTape$Cell"))) rm_Cell_between (va_Pc [.long a0, .long a2, .int a4] (fun U => U.heap.size = sz ∧ va_P D CLS (wE a q ) U.heap ∧ va_K D CLS (tE q) U)) (va_Qr (fun _ : Unit => True) (fun _ ra t => (va_P D CLS (wE a q ) t.heap) ∧ isC D t.heap ra r0.1 r0.2.1 r0.2.2 ∧ (sz ≤ ra ∨ ra ∈ ([] : List Nat))) (va_A (dE a) sz)) 2 6 (va_A (dE a) sz) := by
  refine Met.ofW (cc := prog_2_method_4_code) (maxL := 7) (ret := (some (.object "OutwardTape$Cell"))) (by decide) rfl ?_
  intro p e s m args below meth c s₁ B hml hv
  obtain ⟨rfl, hsz, hP, hK⟩ := hv
  subst hsz
  have hC := CX.of B hml rfl
  have hl := lv_entry [.long a0, .long a2, .int a4] (n := 7) (Nat.le_of_ble_eq_true rfl)
  rw [lg_entry_eq]
  generalize (lg_sl [.long a0, .long a2, .int a4] ++ List.replicate (7 - (lg_sl [.long a0, .long a2, .int a4]).length) Slot.unset).toArray = ls at hl ⊢
  have hl : lv_has ls 7 [(0, .long a0), (2, .long a2), (4, .int a4)] := hl
  exact k_Cell_between_0 (PL := []) hC (fun x h => Or.inr h) hK a0 a2 a4    s.heap [] ls hP (dD hd.self rfl) va_S.rf    (lv_sub hl [0, 1, 2] rfl) h
abbrev rm_Cell_value : Room := { frames := 2, cells := 2, slots := 6, locals := 41 }
set_option maxRecDepth 100000 in
set_option maxHeartbeats 4000000 in
theorem k_Cell_value_50 {p : Program} {l : Launch} {e : Env} {s : State} {m : MethodId} {args : Array Value} {below : List Frame} {meth : Method} {c : Code} {D : va_G} {a : Nat → Nat} {q : Nat → ClassId} {PL : List Nat} {A : Nat → Prop} (hC : CX p s m args meth c prog_2_method_5_code 7 "OutwardTape$Cell" (some (.object "OutwardTape$Cell"))) (hA : ∀ x, s.heap.size ≤ x → A x) (hK : va_K D CLS (tE q) s)  {r0 : Int64 × Int64 × Int32} : ∀ (s0_l : Int64) (s0_h : Int64) (s0_m : Int32)  (y_s0 : Nat) (H : Heap) (locs : List Loc) (ls : Array Slot), va_P D CLS (wE a q ) H → va_D A (wE a q ) → va_S A s.heap H locs → isC D H y_s0 s0_l s0_h s0_m → (s.heap.size ≤ y_s0 ∨ y_s0 ∈ PL) → nin (dE a) y_s0 → lv_has ls 7 [] → f_Cell_value_50  s0_l s0_h s0_m = some r0 → W p l e rm_Cell_value s m args below meth c H locs 2 6 (MQ below (va_Qr (fun _ : Unit => True) (fun _ ra t => (va_P D CLS (wE a q ) t.heap) ∧ isC D t.heap ra r0.1 r0.2.1 r0.2.2 ∧ (s.heap.size ≤ ra ∨ ra ∈ PL)) A) args s 2 6 A) (F0 m 50 ls [.ref y_s0]) := by
  obtain ⟨hx, hb, hml, hown, hts, hr, hlocks⟩ := id hC
  intro s0_l s0_h s0_m y_s0 H locs ls hP hD hS hc_s0 hf_s0 hn_s0 hl h
  rw [f_Cell_value_50] at h
  have hSz : s.heap.size ≤ H.size := hS.1
  obtain rfl := os_of h
  exact W.aret hx hb hr (Or.inl ⟨_, rfl⟩) (Or.inr ⟨_, rfl⟩) (fun t ht hW => ⟨⟨(), y_s0, rfl, trivial, (hPt hP ht), hPt hc_s0 ht, hf_s0⟩, hS.F ht⟩) hS.2.2 (dt_at dt_Cell_value 24 rfl)
set_option maxRecDepth 100000 in
set_option maxHeartbeats 4000000 in
theorem k_Cell_value_48 {p : Program} {l : Launch} {e : Env} {s : State} {m : MethodId} {args : Array Value} {below : List Frame} {meth : Method} {c : Code} {D : va_G} {a : Nat → Nat} {q : Nat → ClassId} {PL : List Nat} {A : Nat → Prop} (hC : CX p s m args meth c prog_2_method_5_code 7 "OutwardTape$Cell" (some (.object "OutwardTape$Cell"))) (hA : ∀ x, s.heap.size ≤ x → A x) (hK : va_K D CLS (tE q) s)  {r0 : Int64 × Int64 × Int32} : ∀ (v6_l : Int64) (v6_h : Int64) (v6_m : Int32)  (y_v6 : Nat) (H : Heap) (locs : List Loc) (ls : Array Slot), va_P D CLS (wE a q ) H → va_D A (wE a q ) → va_S A s.heap H locs → isC D H y_v6 v6_l v6_h v6_m → (s.heap.size ≤ y_v6 ∨ y_v6 ∈ PL) → nin (dE a) y_v6 → lv_has ls 7 [(6, .ref y_v6)] → f_Cell_value_48  v6_l v6_h v6_m = some r0 → W p l e rm_Cell_value s m args below meth c H locs 1 3 (MQ below (va_Qr (fun _ : Unit => True) (fun _ ra t => (va_P D CLS (wE a q ) t.heap) ∧ isC D t.heap ra r0.1 r0.2.1 r0.2.2 ∧ (s.heap.size ≤ ra ∨ ra ∈ PL)) A) args s 2 6 A) (F0 m 48 ls []) := by
  obtain ⟨hx, hb, hml, hown, hts, hr, hlocks⟩ := id hC
  intro v6_l v6_h v6_m y_v6 H locs ls hP hD hS hc_v6 hf_v6 hn_v6 hl h
  rw [f_Cell_value_48] at h
  have hSz : s.heap.size ≤ H.size := hS.1
  refine lv_aload hx hb (dt_at dt_Cell_value 23 rfl) (lv_at hl 0 rfl) ?_
  refine W.widen (k := 2) (n := 6) (Nat.le_of_ble_eq_true rfl) (Nat.le_of_ble_eq_true rfl) ?_
  exact k_Cell_value_50 (PL := PL) hC hA hK   v6_l v6_h v6_m y_v6 H locs ls hP hD hS  hc_v6 hf_v6 hn_v6 (lv_sub hl [] rfl) h
set_option maxRecDepth 100000 in
set_option maxHeartbeats 4000000 in
theorem k_Cell_value_0 {p : Program} {l : Launch} {e : Env} {s : State} {m : MethodId} {args : Array Value} {below : List Frame} {meth : Method} {c : Code} {D : va_G} {a : Nat → Nat} {q : Nat → ClassId} {PL : List Nat} {A : Nat → Prop} (hC : CX p s m args meth c prog_2_method_5_code 7 "OutwardTape$Cell" (some (.object "OutwardTape$Cell"))) (hA : ∀ x, s.heap.size ≤ x → A x) (hK : va_K D CLS (tE q) s)  {r0 : Int64 × Int64 × Int32} : ∀ (v0 : Int64) (v2 : Int64) (v4 : Int32) (v5 : Int32)  (H : Heap) (locs : List Loc) (ls : Array Slot), va_P D CLS (wE a q ) H → va_D A (wE a q ) → va_S A s.heap H locs → lv_has ls 7 [(0, .long v0), (2, .long v2), (4, .int v4), (5, .int v5)] → f_Cell_value_0  v0 v2 v4 v5 = some r0 → W p l e rm_Cell_value s m args below meth c H locs 0 0 (MQ below (va_Qr (fun _ : Unit => True) (fun _ ra t => (va_P D CLS (wE a q ) t.heap) ∧ isC D t.heap ra r0.1 r0.2.1 r0.2.2 ∧ (s.heap.size ≤ ra ∨ ra ∈ PL)) A) args s 2 6 A) (F0 m 0 ls []) := by
  obtain ⟨hx, hb, hml, hown, hts, hr, hlocks⟩ := id hC
  intro v0 v2 v4 v5 H locs ls hP hD hS hl h
  rw [f_Cell_value_0] at h
  have hSz : s.heap.size ≤ H.size := hS.1
  refine nw_new (ci := 4) (fs := [.long 0, .long 0, .int 0]) (C := "OutwardTape$Cell") (T := T_Cell) (N := 3) hx hb hts in_Cell ty_Cell tk_Cell hown (hts (Cond.classLink "OutwardTape$Cell" 8 "OutwardTape$Cell") (m_2 111 rfl rfl)) (hts (Cond.instantiable "OutwardTape$Cell" 3) (m_2 112 rfl rfl)) (hts (Cond.initialized "OutwardTape$Cell") (m_1 10 rfl rfl)) hK hS rfl (fun j hj => by rcases (show j = 0 ∨ j = 1 ∨ j = 2 by omega) with rfl | rfl | rfl <;> rfl) (Nat.le_of_ble_eq_true rfl) (Nat.le_of_ble_eq_true rfl) (dt_at dt_Cell_value 0 rfl) (fun y_o1 H1 hy_o1 hk1 hN hS => ?_)
  have hg_o1 : s.heap.size ≤ y_o1 := by rw [hy_o1]; exact hSz
  have hn_o1 : nin (dE a) y_o1 := nin_big hP (Nat.le_of_eq hy_o1.symm) rfl
  have hP := va_P.kept hP (fun k q hq => hk1 _ (hP k q hq).lt)
  have hSz : s.heap.size ≤ H1.size := hS.1
  clear hy_o1 hk1
  generalize H1 = H at hP hS hN hSz  ⊢
  refine W.widen (k := 1) (n := 3) (Nat.le_of_ble_eq_true rfl) (Nat.le_of_ble_eq_true rfl) ?_
  refine lv_dup hx hb (dt_at dt_Cell_value 1 rfl) rfl ?_
  refine lv_lload_n hx hb (dt_at dt_Cell_value 2 rfl) rfl (lv_at hl 0 rfl) ?_
  refine lv_lload_n hx hb (dt_at dt_Cell_value 3 rfl) rfl (lv_at hl 1 rfl) ?_
  refine lv_iload hx hb (dt_at dt_Cell_value 4 rfl) (lv_at hl 2 rfl) ?_
  refine lv_iload hx hb (dt_at dt_Cell_value 5 rfl) (lv_at hl 3 rfl) ?_
  obtain ⟨t2, e_t2, h⟩ := ol_of h
  refine va_mmin hx hb (hml.trans hl.1.symm) hown (hts (Cond.methodLink "OutwardTape$Cell" 37 Lib.Math.min.name) (m_2 221 rfl rfl)) (hts (Cond.static Lib.Math.min.name) (m_2 98 rfl rfl)) (hts (Cond.initialized "java/lang/Math") (m_1 9 rfl rfl)) (hts (Cond.code Lib.Math.min.name Lib.Math.min.code 2 (some .int)) (m_2 99 rfl rfl)) (Nat.le_of_ble_eq_true rfl) (Nat.le_of_ble_eq_true rfl) (Nat.le_of_ble_eq_true rfl) (Nat.le_of_ble_eq_true rfl) (dt_at dt_Cell_value 6 rfl) ?_
  refine lv_topi (fun u_t2 q_t2 => ?_)
  obtain rfl : t2 = u_t2 := e_t2.trans q_t2.symm
  refine va_callv (va_runI (As := [.long v0, .long v2, .int t2]) (rest := [.ref y_o1]) ⟨hx, hb, hml, hown, hts⟩ (c_Cell_init l D y_o1 H.size v0 v2 t2) (cwI 3 hts (gd_c (m_2 115 rfl rfl)) rfl rfl rfl (hts (Cond.initialized "OutwardTape$Cell") (m_1 10 rfl rfl)) (hts (Cond.methodLink "OutwardTape$Cell" 20 (⟨"OutwardTape$Cell", "<init>", "(JJI)V"⟩ : MethodName)) (m_2 113 rfl rfl)) (hts (Cond.instanceMethod (⟨"OutwardTape$Cell", "<init>", "(JJI)V"⟩ : MethodName)) (m_2 114 rfl rfl)) rfl (by decide +kernel) ⟨Nat.le_of_ble_eq_true rfl, Nat.le_of_ble_eq_true rfl⟩) ⟨fun a U g mk q => ⟨q.1, q.2.1, q.2.2.1, va_K.moved (u := U) (U := U.calling g mk a) (Vm.Alike.refl U.vm) q.2.2.2⟩, fun U hU hW => ⟨rfl, by rw [hU], by rw [hU]; exact hN, va_K.moved hW.alike (hK.sub (tys' := []) [] rfl)⟩⟩ rfl rfl hl.1 rfl (lv_room (Nat.le_of_ble_eq_true rfl)) (dt_at dt_Cell_value 7 rfl) ⟨Nat.le_of_ble_eq_true rfl, Nat.le_of_ble_eq_true rfl⟩) hS (fun x _ h9 => (fun x h9 => h9.elim (fun e9 => e9 ▸ hA _ hg_o1) (fun g9 => hA _ (Nat.le_trans hSz g9))) x h9) (fun x h9 => h9.elim (fun e9 => e9 ▸ hA _ hg_o1) (fun g9 => hA _ (Nat.le_trans hSz g9))) (fun uu t H1 locs ht hvm hw hB hz1 hk1 hS => ?_)
  rw [ht] at hB
  have hP := va_P.kept hP (fun k q hq => hk1 _ (hP k q hq).lt (fun h9 => h9.elim (fun e9 => nin_ne hn_o1 rfl hq e9) (fun g9 => absurd g9 (Nat.not_le.mpr (hP k q hq).lt))))
  have hc_o1 : isC D H1 y_o1 v0 v2 t2 := hB
  have hf_o1 : s.heap.size ≤ y_o1 ∨ y_o1 ∈ PL := Or.inl hg_o1
  have hSz : s.heap.size ≤ H1.size := hS.1
  clear hk1 hz1
  generalize H1 = H at hP hS hSz hc_o1 ⊢
  refine lv_astore (lv' := [(6, .ref y_o1), (0, .long v0), (2, .long v2), (4, .int v4), (5, .int v5)]) hx hb (dt_at dt_Cell_value 8 rfl) hl (by decide) rfl (fun ls hl => ?_)
  refine lv_aload hx hb (dt_at dt_Cell_value 9 rfl) (lv_at hl 0 rfl) ?_
  refine va_get (D := D) (ci := 4) (v := .int t2) (C := "OutwardTape$Cell") (T := T_Cell) (N := 3) hx hb hts in_Cell hown hK hc_o1 0 rfl rfl 2 (by decide) (hts (Cond.fieldLink "OutwardTape$Cell" 16 "OutwardTape$Cell" "mark" "I") (m_2 131 rfl rfl)) (fun _ h9 => h9) rfl (dt_at dt_Cell_value 10 rfl) ?_
  refine lv_iconst (v := 4) hx hb (dt_at dt_Cell_value 11 rfl) (by decide) ?_
  refine lv_icmp_ne (tgt := 48) hx hb (dt_at dt_Cell_value 12 rfl) (by decide) (fun c3 => ?_) (fun c3 => ?_)
  · have h := if_n h c3
    exact k_Cell_value_48 (PL := PL) hC hA hK   v0 v2 t2 y_o1 H locs ls hP hD hS  hc_o1 hf_o1 hn_o1 (lv_sub hl [0] rfl) h
  · have h := if_p h c3
    refine lv_aload hx hb (dt_at dt_Cell_value 13 rfl) (lv_at hl 0 rfl) ?_
    obtain ⟨r4, h_r4, h⟩ := ob_of h
    have hPc : va_P D CLS (wE a q) H := fun k q h => by simp [wE] at h
    have hd : va_D (fun _ => True) (dE a) := dE_D a
    have hKc : va_K D CLS (tE q) s := hK.sub (tys' := []) [] rfl
    have hF : ∀ x, va_A (dE a) H.size x → A x := fun x h9 => h9.elim (fun ⟨k, e, h⟩ => by simp [dE] at h) (fun g => hA _ (Nat.le_trans hS.1 g))
    refine va_calli (va_runV (As := []) (rest := []) ⟨hx, hb, hml, hown, hts⟩ (c_Cell_isBounded l D a q  hd H.size v0 v2 t2  y_o1 (nin_E a y_o1) r4 h_r4) (cwV 0 hts (gd_V (m_1 165 rfl rfl) (m_1 166 rfl rfl) (m_1 167 rfl rfl) (m_1 10 rfl rfl) (m_1 168 rfl rfl)) rfl rfl rfl (by decide +kernel) ⟨Nat.le_of_ble_eq_true rfl, Nat.le_of_ble_eq_true rfl⟩) ⟨fun a U g mk q => ⟨q.1, q.2.1, q.2.2.1, va_K.moved (u := U) (U := U.calling g mk a) (Vm.Alike.refl U.vm) q.2.2.2.1, q.2.2.2.2⟩, va_recv hK hc_o1 (ci := 4) (q0 := 0) rfl rfl, fun U hU hW => ⟨rfl, by rw [hU], by rw [hU]; exact hPc, va_K.moved hW.alike hKc, by rw [hU]; exact hc_o1⟩⟩ rfl rfl hl.1 rfl (lv_room (Nat.le_of_ble_eq_true rfl)) (dt_at dt_Cell_value 14 rfl) ⟨Nat.le_of_ble_eq_true rfl, Nat.le_of_ble_eq_true rfl⟩) hS (fun x _ h9 => hF x h9) hF (fun u_r4 uu t H1 locs ht hvm hw hB hz1 hk1 hS => ?_)
    obtain rfl : r4 = u_r4 := hw.symm
    have hc_o1 := isC.keptA hc_o1 hk1 (nin_E a y_o1)
    have hP := va_P.kept hP (fun k q hq => hk1 _ (hP k q hq).lt (not_AE (hP k q hq).lt))
    have hSz : s.heap.size ≤ H1.size := hS.1
    clear hk1 hz1 hPc hF hB ht
    generalize H1 = H at hP hS hSz hc_o1 ⊢
    refine lv_if_ne (tgt := 48) hx hb (dt_at dt_Cell_value 15 rfl) (by decide) (fun c5 => ?_) (fun c5 => ?_)
    · have h := if_n h c5
      exact k_Cell_value_48 (PL := PL) hC hA hK   v0 v2 t2 y_o1 H locs ls hP hD hS  hc_o1 hf_o1 hn_o1 (lv_sub hl [0] rfl) h
    · have h := if_p h c5
      refine nw_new (ci := 4) (fs := [.long 0, .long 0, .int 0]) (C := "OutwardTape$Cell") (T := T_Cell) (N := 3) hx hb hts in_Cell ty_Cell tk_Cell hown (hts (Cond.classLink "OutwardTape$Cell" 8 "OutwardTape$Cell") (m_2 111 rfl rfl)) (hts (Cond.instantiable "OutwardTape$Cell" 3) (m_2 112 rfl rfl)) (hts (Cond.initialized "OutwardTape$Cell") (m_1 10 rfl rfl)) hK hS rfl (fun j hj => by rcases (show j = 0 ∨ j = 1 ∨ j = 2 by omega) with rfl | rfl | rfl <;> rfl) (Nat.le_of_ble_eq_true rfl) (Nat.le_of_ble_eq_true rfl) (dt_at dt_Cell_value 16 rfl) (fun y_o6 H1 hy_o6 hk1 hN hS => ?_)
      have hd_o1_o6 : y_o1 ≠ y_o6 := fun e9 => absurd hc_o1.lt (by rw [e9, hy_o6]; exact Nat.lt_irrefl _)
      have hc_o1 := isC.kept hc_o1 (hk1 _ hc_o1.lt)
      have hg_o6 : s.heap.size ≤ y_o6 := by rw [hy_o6]; exact hSz
      have hn_o6 : nin (dE a) y_o6 := nin_big hP (Nat.le_of_eq hy_o6.symm) rfl
      have hP := va_P.kept hP (fun k q hq => hk1 _ (hP k q hq).lt)
      have hSz : s.heap.size ≤ H1.size := hS.1
      clear hy_o6 hk1
      generalize H1 = H at hP hS hN hSz hc_o1 ⊢
      refine W.widen (k := 2) (n := 6) (Nat.le_of_ble_eq_true rfl) (Nat.le_of_ble_eq_true rfl) ?_
      refine lv_dup hx hb (dt_at dt_Cell_value 17 rfl) rfl ?_
      refine lv_lload_n hx hb (dt_at dt_Cell_value 18 rfl) rfl (lv_at hl 1 rfl) ?_
      refine lv_lload_n hx hb (dt_at dt_Cell_value 19 rfl) rfl (lv_at hl 2 rfl) ?_
      refine lv_iconst (v := 3) hx hb (dt_at dt_Cell_value 20 rfl) (by decide) ?_
      refine va_callv (va_runI (As := [.long v0, .long v2, .int (3 : Int32)]) (rest := [.ref y_o6]) ⟨hx, hb, hml, hown, hts⟩ (c_Cell_init l D y_o6 H.size v0 v2 (3 : Int32)) (cwI 3 hts (gd_c (m_2 115 rfl rfl)) rfl rfl rfl (hts (Cond.initialized "OutwardTape$Cell") (m_1 10 rfl rfl)) (hts (Cond.methodLink "OutwardTape$Cell" 20 (⟨"OutwardTape$Cell", "<init>", "(JJI)V"⟩ : MethodName)) (m_2 113 rfl rfl)) (hts (Cond.instanceMethod (⟨"OutwardTape$Cell", "<init>", "(JJI)V"⟩ : MethodName)) (m_2 114 rfl rfl)) rfl (by decide +kernel) ⟨Nat.le_of_ble_eq_true rfl, Nat.le_of_ble_eq_true rfl⟩) ⟨fun a U g mk q => ⟨q.1, q.2.1, q.2.2.1, va_K.moved (u := U) (U := U.calling g mk a) (Vm.Alike.refl U.vm) q.2.2.2⟩, fun U hU hW => ⟨rfl, by rw [hU], by rw [hU]; exact hN, va_K.moved hW.alike (hK.sub (tys' := []) [] rfl)⟩⟩ rfl rfl hl.1 rfl (lv_room (Nat.le_of_ble_eq_true rfl)) (dt_at dt_Cell_value 21 rfl) ⟨Nat.le_of_ble_eq_true rfl, Nat.le_of_ble_eq_true rfl⟩) hS (fun x _ h9 => (fun x h9 => h9.elim (fun e9 => e9 ▸ hA _ hg_o6) (fun g9 => hA _ (Nat.le_trans hSz g9))) x h9) (fun x h9 => h9.elim (fun e9 => e9 ▸ hA _ hg_o6) (fun g9 => hA _ (Nat.le_trans hSz g9))) (fun uu t H1 locs ht hvm hw hB hz1 hk1 hS => ?_)
      rw [ht] at hB
      have hP := va_P.kept hP (fun k q hq => hk1 _ (hP k q hq).lt (fun h9 => h9.elim (fun e9 => nin_ne hn_o6 rfl hq e9) (fun g9 => absurd g9 (Nat.not_le.mpr (hP k q hq).lt))))
      have hc_o6 : isC D H1 y_o6 v0 v2 (3 : Int32) := hB
      have hc_o1 := isC.kept hc_o1 (hk1 _ hc_o1.lt (fun h9 => h9.elim (fun e9 => hd_o1_o6 e9) (fun g9 => absurd g9 (Nat.not_le.mpr hc_o1.lt))))
      have hf_o6 : s.heap.size ≤ y_o6 ∨ y_o6 ∈ PL := Or.inl hg_o6
      have hSz : s.heap.size ≤ H1.size := hS.1
      clear hk1 hz1
      generalize H1 = H at hP hS hSz hc_o1 hc_o6 ⊢
      refine lv_goto (tgt := 50) hx hb (dt_at dt_Cell_value 22 rfl) (by decide) ?_
      exact k_Cell_value_50 (PL := PL) hC hA hK   v0 v2 (3 : Int32) y_o6 H locs ls hP hD hS  hc_o6 hf_o6 hn_o6 (lv_sub hl [] rfl) h
set_option maxRecDepth 100000 in
set_option maxHeartbeats 4000000 in
theorem c_Cell_value (l : Launch) (D : va_G) (a : Nat → Nat) (q : Nat → ClassId) (hd : va_D (fun _ => True) (dE a)) (sz : Nat) (a0 : Int64) (a2 : Int64) (a4 : Int32) (a5 : Int32)    (r0 : Int64 × Int64 × Int32) (h : f_Cell_value a0 a2 a4 a5 = some r0) : Met l (⟨"OutwardTape$Cell", "value", "(JJII)LOutwardTape$Cell;"⟩ : MethodName) (WSm (⟨"OutwardTape$Cell", "value", "(JJII)LOutwardTape$Cell;"⟩ : MethodName) prog_2_method_5_code 7 (some (.object "OutwardTape$Cell"))) rm_Cell_value (va_Pc [.long a0, .long a2, .int a4, .int a5] (fun U => U.heap.size = sz ∧ va_P D CLS (wE a q ) U.heap ∧ va_K D CLS (tE q) U)) (va_Qr (fun _ : Unit => True) (fun _ ra t => (va_P D CLS (wE a q ) t.heap) ∧ isC D t.heap ra r0.1 r0.2.1 r0.2.2 ∧ (sz ≤ ra ∨ ra ∈ ([] : List Nat))) (va_A (dE a) sz)) 2 6 (va_A (dE a) sz) := by
  refine Met.ofW (cc := prog_2_method_5_code) (maxL := 7) (ret := (some (.object "OutwardTape$Cell"))) (by decide) rfl ?_
  intro p e s m args below meth c s₁ B hml hv
  obtain ⟨rfl, hsz, hP, hK⟩ := hv
  subst hsz
  have hC := CX.of B hml rfl
  have hl := lv_entry [.long a0, .long a2, .int a4, .int a5] (n := 7) (Nat.le_of_ble_eq_true rfl)
  rw [lg_entry_eq]
  generalize (lg_sl [.long a0, .long a2, .int a4, .int a5] ++ List.replicate (7 - (lg_sl [.long a0, .long a2, .int a4, .int a5]).length) Slot.unset).toArray = ls at hl ⊢
  have hl : lv_has ls 7 [(0, .long a0), (2, .long a2), (4, .int a4), (5, .int a5)] := hl
  exact k_Cell_value_0 (PL := []) hC (fun x h => Or.inr h) hK a0 a2 a4 a5    s.heap [] ls hP (dD hd.self rfl) va_S.rf    (lv_sub hl [0, 1, 2, 3] rfl) h
abbrev rm_Cell_hasNoPoint : Room := { frames := 0, cells := 0, slots := 0, locals := 0 }
set_option maxRecDepth 100000 in
set_option maxHeartbeats 4000000 in
theorem k_Cell_hasNoPoint_17 {p : Program} {l : Launch} {e : Env} {s : State} {m : MethodId} {args : Array Value} {below : List Frame} {meth : Method} {c : Code} {D : va_G} {a : Nat → Nat} {q : Nat → ClassId} {A : Nat → Prop} (hC : CX p s m args meth c prog_2_method_6_code 1 "OutwardTape$Cell" (some .boolean)) (hA : ∀ x, s.heap.size ≤ x → A x) (hK : va_K D CLS (tE q) s)  {r0 : Int32} : ∀ (s0 : Int32)  (H : Heap) (locs : List Loc) (ls : Array Slot), va_P D CLS (wE a q ) H → va_D A (wE a q ) → va_S A s.heap H locs → lv_has ls 1 [] → f_Cell_hasNoPoint_17  s0 = some r0 → W p l e rm_Cell_hasNoPoint s m args below meth c H locs 0 0 (MQ below (va_Qi (fun (r : Int32) (_ : Unit) => r = r0) (fun _ t => va_P D CLS (wE a q ) t.heap) A) args s 0 0 A) (F0 m 17 ls [.int s0]) := by
  obtain ⟨hx, hb, hml, hown, hts, hr, hlocks⟩ := id hC
  intro s0 H locs ls hP hD hS hl h
  rw [f_Cell_hasNoPoint_17] at h
  have hSz : s.heap.size ≤ H.size := hS.1
  obtain ⟨hz, h⟩ := og_of h
  obtain rfl := os_of h
  exact W.zret (v := s0) (ty := .boolean) hx hb hr (j_z_nar hz) (fun t ht hW => ⟨⟨_, (), rfl, rfl, (hPt hP ht)⟩, hS.F ht⟩) hS.2.2 (dt_at dt_Cell_hasNoPoint 9 rfl)
set_option maxRecDepth 100000 in
set_option maxHeartbeats 4000000 in
theorem k_Cell_hasNoPoint_0 {p : Program} {l : Launch} {e : Env} {s : State} {m : MethodId} {args : Array Value} {below : List Frame} {meth : Method} {c : Code} {D : va_G} {a : Nat → Nat} {q : Nat → ClassId} {A : Nat → Prop} (hC : CX p s m args meth c prog_2_method_6_code 1 "OutwardTape$Cell" (some .boolean)) (hA : ∀ x, s.heap.size ≤ x → A x) (hK : va_K D CLS (tE q) s)  {r0 : Int32} : ∀ (v0_l : Int64) (v0_h : Int64) (v0_m : Int32)  (y_v0 : Nat) (H : Heap) (locs : List Loc) (ls : Array Slot), va_P D CLS (wE a q ) H → va_D A (wE a q ) → va_S A s.heap H locs → isC D H y_v0 v0_l v0_h v0_m → nin (dE a) y_v0 → lv_has ls 1 [(0, .ref y_v0)] → f_Cell_hasNoPoint_0  v0_l v0_h v0_m = some r0 → W p l e rm_Cell_hasNoPoint s m args below meth c H locs 0 0 (MQ below (va_Qi (fun (r : Int32) (_ : Unit) => r = r0) (fun _ t => va_P D CLS (wE a q ) t.heap) A) args s 0 0 A) (F0 m 0 ls []) := by
  obtain ⟨hx, hb, hml, hown, hts, hr, hlocks⟩ := id hC
  intro v0_l v0_h v0_m y_v0 H locs ls hP hD hS hc_v0 hn_v0 hl h
  rw [f_Cell_hasNoPoint_0] at h
  have hSz : s.heap.size ≤ H.size := hS.1
  refine lv_aload_n hx hb (dt_at dt_Cell_hasNoPoint 0 rfl) rfl (lv_at hl 0 rfl) ?_
  refine va_get (D := D) (ci := 4) (v := .long v0_l) (C := "OutwardTape$Cell") (T := T_Cell) (N := 3) hx hb hts in_Cell hown hK hc_v0 0 rfl rfl 0 (by decide) (hts (Cond.fieldLink "OutwardTape$Cell" 7 "OutwardTape$Cell" "low" "J") (m_2 117 rfl rfl)) (fun _ h9 => h9) rfl (dt_at dt_Cell_hasNoPoint 1 rfl) ?_
  refine lv_aload_n hx hb (dt_at dt_Cell_hasNoPoint 2 rfl) rfl (lv_at hl 0 rfl) ?_
  refine va_get (D := D) (ci := 4) (v := .long v0_h) (C := "OutwardTape$Cell") (T := T_Cell) (N := 3) hx hb hts in_Cell hown hK hc_v0 0 rfl rfl 1 (by decide) (hts (Cond.fieldLink "OutwardTape$Cell" 13 "OutwardTape$Cell" "high" "J") (m_2 124 rfl rfl)) (fun _ h9 => h9) rfl (dt_at dt_Cell_hasNoPoint 3 rfl) ?_
  refine lc_le (tgt := 16) hx hb (dt_at dt_Cell_hasNoPoint 4 rfl) (dt_at dt_Cell_hasNoPoint 5 rfl) (by decide) (fun c1 => ?_) (fun c1 => ?_)
  · have h := if_p h c1
    refine lv_iconst (v := 0) hx hb (dt_at dt_Cell_hasNoPoint 8 rfl) (by decide) ?_
    exact k_Cell_hasNoPoint_17 hC hA hK   (0 : Int32) H locs ls hP hD hS   (lv_sub hl [] rfl) h
  · have h := if_n h c1
    refine lv_iconst (v := 1) hx hb (dt_at dt_Cell_hasNoPoint 6 rfl) (by decide) ?_
    refine lv_goto (tgt := 17) hx hb (dt_at dt_Cell_hasNoPoint 7 rfl) (by decide) ?_
    exact k_Cell_hasNoPoint_17 hC hA hK   (1 : Int32) H locs ls hP hD hS   (lv_sub hl [] rfl) h
set_option maxRecDepth 100000 in
set_option maxHeartbeats 4000000 in
theorem c_Cell_hasNoPoint (l : Launch) (D : va_G) (a : Nat → Nat) (q : Nat → ClassId) (hd : va_D (fun _ => True) (dE a)) (sz : Nat) (a0_l : Int64) (a0_h : Int64) (a0_m : Int32)  (y_a0 : Nat) (hn_a0 : nin (dE a) y_a0) (r0 : Int32) (h : f_Cell_hasNoPoint a0_l a0_h a0_m = some r0) : Met l (⟨"OutwardTape$Cell", "hasNoPoint", "()Z"⟩ : MethodName) (WSm (⟨"OutwardTape$Cell", "hasNoPoint", "()Z"⟩ : MethodName) prog_2_method_6_code 1 (some .boolean)) rm_Cell_hasNoPoint (va_Pc [.ref y_a0] (fun U => U.heap.size = sz ∧ va_P D CLS (wE a q ) U.heap ∧ va_K D CLS (tE q) U ∧ isC D U.heap y_a0 a0_l a0_h a0_m)) (va_Qi (fun (r : Int32) (_ : Unit) => r = r0) (fun _ t => va_P D CLS (wE a q ) t.heap) (va_A (dE a) sz)) 0 0 (va_A (dE a) sz) := by
  refine Met.ofW (cc := prog_2_method_6_code) (maxL := 1) (ret := (some .boolean)) (by decide) rfl ?_
  intro p e s m args below meth c s₁ B hml hv
  obtain ⟨rfl, hsz, hP, hK, hc_a0⟩ := hv
  subst hsz
  have hC := CX.of B hml rfl
  have hl := lv_entry [.ref y_a0] (n := 1) (Nat.le_of_ble_eq_true rfl)
  rw [lg_entry_eq]
  generalize (lg_sl [.ref y_a0] ++ List.replicate (1 - (lg_sl [.ref y_a0]).length) Slot.unset).toArray = ls at hl ⊢
  have hl : lv_has ls 1 [(0, .ref y_a0)] := hl
  exact k_Cell_hasNoPoint_0  hC (fun x h => Or.inr h) hK a0_l a0_h a0_m   y_a0 s.heap [] ls hP (dD hd.self rfl) va_S.rf  hc_a0  hn_a0  (lv_sub hl [0] rfl) h
abbrev rm_Cell_isZero : Room := { frames := 0, cells := 0, slots := 0, locals := 0 }
set_option maxRecDepth 100000 in
set_option maxHeartbeats 4000000 in
theorem k_Cell_isZero_23 {p : Program} {l : Launch} {e : Env} {s : State} {m : MethodId} {args : Array Value} {below : List Frame} {meth : Method} {c : Code} {D : va_G} {a : Nat → Nat} {q : Nat → ClassId} {A : Nat → Prop} (hC : CX p s m args meth c prog_2_method_8_code 1 "OutwardTape$Cell" (some .boolean)) (hA : ∀ x, s.heap.size ≤ x → A x) (hK : va_K D CLS (tE q) s)  {r0 : Int32} : ∀ (s0 : Int32)  (H : Heap) (locs : List Loc) (ls : Array Slot), va_P D CLS (wE a q ) H → va_D A (wE a q ) → va_S A s.heap H locs → lv_has ls 1 [] → f_Cell_isZero_23  s0 = some r0 → W p l e rm_Cell_isZero s m args below meth c H locs 0 0 (MQ below (va_Qi (fun (r : Int32) (_ : Unit) => r = r0) (fun _ t => va_P D CLS (wE a q ) t.heap) A) args s 0 0 A) (F0 m 23 ls [.int s0]) := by
  obtain ⟨hx, hb, hml, hown, hts, hr, hlocks⟩ := id hC
  intro s0 H locs ls hP hD hS hl h
  rw [f_Cell_isZero_23] at h
  have hSz : s.heap.size ≤ H.size := hS.1
  obtain ⟨hz, h⟩ := og_of h
  obtain rfl := os_of h
  exact W.zret (v := s0) (ty := .boolean) hx hb hr (j_z_nar hz) (fun t ht hW => ⟨⟨_, (), rfl, rfl, (hPt hP ht)⟩, hS.F ht⟩) hS.2.2 (dt_at dt_Cell_isZero 13 rfl)
set_option maxRecDepth 100000 in
set_option maxHeartbeats 4000000 in
theorem k_Cell_isZero_22 {p : Program} {l : Launch} {e : Env} {s : State} {m : MethodId} {args : Array Value} {below : List Frame} {meth : Method} {c : Code} {D : va_G} {a : Nat → Nat} {q : Nat → ClassId} {A : Nat → Prop} (hC : CX p s m args meth c prog_2_method_8_code 1 "OutwardTape$Cell" (some .boolean)) (hA : ∀ x, s.heap.size ≤ x → A x) (hK : va_K D CLS (tE q) s)  {r0 : Int32} : ∀   (H : Heap) (locs : List Loc) (ls : Array Slot), va_P D CLS (wE a q ) H → va_D A (wE a q ) → va_S A s.heap H locs → lv_has ls 1 [] → f_Cell_isZero_22   = some r0 → W p l e rm_Cell_isZero s m args below meth c H locs 0 0 (MQ below (va_Qi (fun (r : Int32) (_ : Unit) => r = r0) (fun _ t => va_P D CLS (wE a q ) t.heap) A) args s 0 0 A) (F0 m 22 ls []) := by
  obtain ⟨hx, hb, hml, hown, hts, hr, hlocks⟩ := id hC
  intro H locs ls hP hD hS hl h
  rw [f_Cell_isZero_22] at h
  have hSz : s.heap.size ≤ H.size := hS.1
  refine lv_iconst (v := 0) hx hb (dt_at dt_Cell_isZero 12 rfl) (by decide) ?_
  exact k_Cell_isZero_23 hC hA hK   (0 : Int32) H locs ls hP hD hS   (lv_sub hl [] rfl) h
set_option maxRecDepth 100000 in
set_option maxHeartbeats 4000000 in
theorem k_Cell_isZero_0 {p : Program} {l : Launch} {e : Env} {s : State} {m : MethodId} {args : Array Value} {below : List Frame} {meth : Method} {c : Code} {D : va_G} {a : Nat → Nat} {q : Nat → ClassId} {A : Nat → Prop} (hC : CX p s m args meth c prog_2_method_8_code 1 "OutwardTape$Cell" (some .boolean)) (hA : ∀ x, s.heap.size ≤ x → A x) (hK : va_K D CLS (tE q) s)  {r0 : Int32} : ∀ (v0_l : Int64) (v0_h : Int64) (v0_m : Int32)  (y_v0 : Nat) (H : Heap) (locs : List Loc) (ls : Array Slot), va_P D CLS (wE a q ) H → va_D A (wE a q ) → va_S A s.heap H locs → isC D H y_v0 v0_l v0_h v0_m → nin (dE a) y_v0 → lv_has ls 1 [(0, .ref y_v0)] → f_Cell_isZero_0  v0_l v0_h v0_m = some r0 → W p l e rm_Cell_isZero s m args below meth c H locs 0 0 (MQ below (va_Qi (fun (r : Int32) (_ : Unit) => r = r0) (fun _ t => va_P D CLS (wE a q ) t.heap) A) args s 0 0 A) (F0 m 0 ls []) := by
  obtain ⟨hx, hb, hml, hown, hts, hr, hlocks⟩ := id hC
  intro v0_l v0_h v0_m y_v0 H locs ls hP hD hS hc_v0 hn_v0 hl h
  rw [f_Cell_isZero_0] at h
  have hSz : s.heap.size ≤ H.size := hS.1
  refine lv_aload_n hx hb (dt_at dt_Cell_isZero 0 rfl) rfl (lv_at hl 0 rfl) ?_
  refine va_get (D := D) (ci := 4) (v := .long v0_l) (C := "OutwardTape$Cell") (T := T_Cell) (N := 3) hx hb hts in_Cell hown hK hc_v0 0 rfl rfl 0 (by decide) (hts (Cond.fieldLink "OutwardTape$Cell" 7 "OutwardTape$Cell" "low" "J") (m_2 117 rfl rfl)) (fun _ h9 => h9) rfl (dt_at dt_Cell_isZero 1 rfl) ?_
  refine lv_lconst (v := 0) hx hb (dt_at dt_Cell_isZero 2 rfl) (by decide) ?_
  refine lc_ne (tgt := 22) hx hb (dt_at dt_Cell_isZero 3 rfl) (dt_at dt_Cell_isZero 4 rfl) (by decide) (fun c1 => ?_) (fun c1 => ?_)
  · have h := if_n h c1
    exact k_Cell_isZero_22 hC hA hK   H locs ls hP hD hS   (lv_sub hl [] rfl) h
  · have h := if_p h c1
    refine lv_aload_n hx hb (dt_at dt_Cell_isZero 5 rfl) rfl (lv_at hl 0 rfl) ?_
    refine va_get (D := D) (ci := 4) (v := .long v0_h) (C := "OutwardTape$Cell") (T := T_Cell) (N := 3) hx hb hts in_Cell hown hK hc_v0 0 rfl rfl 1 (by decide) (hts (Cond.fieldLink "OutwardTape$Cell" 13 "OutwardTape$Cell" "high" "J") (m_2 124 rfl rfl)) (fun _ h9 => h9) rfl (dt_at dt_Cell_isZero 6 rfl) ?_
    refine lv_lconst (v := 0) hx hb (dt_at dt_Cell_isZero 7 rfl) (by decide) ?_
    refine lc_ne (tgt := 22) hx hb (dt_at dt_Cell_isZero 8 rfl) (dt_at dt_Cell_isZero 9 rfl) (by decide) (fun c2 => ?_) (fun c2 => ?_)
    · have h := if_n h c2
      exact k_Cell_isZero_22 hC hA hK   H locs ls hP hD hS   (lv_sub hl [] rfl) h
    · have h := if_p h c2
      refine lv_iconst (v := 1) hx hb (dt_at dt_Cell_isZero 10 rfl) (by decide) ?_
      refine lv_goto (tgt := 23) hx hb (dt_at dt_Cell_isZero 11 rfl) (by decide) ?_
      exact k_Cell_isZero_23 hC hA hK   (1 : Int32) H locs ls hP hD hS   (lv_sub hl [] rfl) h
set_option maxRecDepth 100000 in
set_option maxHeartbeats 4000000 in
theorem c_Cell_isZero (l : Launch) (D : va_G) (a : Nat → Nat) (q : Nat → ClassId) (hd : va_D (fun _ => True) (dE a)) (sz : Nat) (a0_l : Int64) (a0_h : Int64) (a0_m : Int32)  (y_a0 : Nat) (hn_a0 : nin (dE a) y_a0) (r0 : Int32) (h : f_Cell_isZero a0_l a0_h a0_m = some r0) : Met l (⟨"OutwardTape$Cell", "isZero", "()Z"⟩ : MethodName) (WSm (⟨"OutwardTape$Cell", "isZero", "()Z"⟩ : MethodName) prog_2_method_8_code 1 (some .boolean)) rm_Cell_isZero (va_Pc [.ref y_a0] (fun U => U.heap.size = sz ∧ va_P D CLS (wE a q ) U.heap ∧ va_K D CLS (tE q) U ∧ isC D U.heap y_a0 a0_l a0_h a0_m)) (va_Qi (fun (r : Int32) (_ : Unit) => r = r0) (fun _ t => va_P D CLS (wE a q ) t.heap) (va_A (dE a) sz)) 0 0 (va_A (dE a) sz) := by
  refine Met.ofW (cc := prog_2_method_8_code) (maxL := 1) (ret := (some .boolean)) (by decide) rfl ?_
  intro p e s m args below meth c s₁ B hml hv
  obtain ⟨rfl, hsz, hP, hK, hc_a0⟩ := hv
  subst hsz
  have hC := CX.of B hml rfl
  have hl := lv_entry [.ref y_a0] (n := 1) (Nat.le_of_ble_eq_true rfl)
  rw [lg_entry_eq]
  generalize (lg_sl [.ref y_a0] ++ List.replicate (1 - (lg_sl [.ref y_a0]).length) Slot.unset).toArray = ls at hl ⊢
  have hl : lv_has ls 1 [(0, .ref y_a0)] := hl
  exact k_Cell_isZero_0  hC (fun x h => Or.inr h) hK a0_l a0_h a0_m   y_a0 s.heap [] ls hP (dD hd.self rfl) va_S.rf  hc_a0  hn_a0  (lv_sub hl [0] rfl) h
abbrev rm_Cell_width : Room := { frames := 4, cells := 0, slots := 0, locals := 121 }
set_option maxRecDepth 100000 in
set_option maxHeartbeats 4000000 in
theorem k_Cell_width_26 {p : Program} {l : Launch} {e : Env} {s : State} {m : MethodId} {args : Array Value} {below : List Frame} {meth : Method} {c : Code} {D : va_G} {a : Nat → Nat} {q : Nat → ClassId} {A : Nat → Prop} (hC : CX p s m args meth c prog_2_method_9_code 1 "OutwardTape$Cell" (some .long)) (hA : ∀ x, s.heap.size ≤ x → A x) (hK : va_K D CLS (tE q) s)  {r0 : Int64} : ∀ (s0 : Int64)  (H : Heap) (locs : List Loc) (ls : Array Slot), va_P D CLS (wE a q ) H → va_D A (wE a q ) → va_S A s.heap H locs → lv_has ls 1 [] → f_Cell_width_26  s0 = some r0 → W p l e rm_Cell_width s m args below meth c H locs 0 0 (MQ below (va_Ql (fun (r : Int64) (_ : Unit) => r = r0) (fun _ t => va_P D CLS (wE a q ) t.heap) A) args s 0 0 A) (F0 m 26 ls [.long s0]) := by
  obtain ⟨hx, hb, hml, hown, hts, hr, hlocks⟩ := id hC
  intro s0 H locs ls hP hD hS hl h
  rw [f_Cell_width_26] at h
  have hSz : s.heap.size ≤ H.size := hS.1
  obtain rfl := os_of h
  exact W.lret (v := s0) hx hb hr (fun t ht hW => ⟨⟨_, (), rfl, rfl, (hPt hP ht)⟩, hS.F ht⟩) hS.2.2 (dt_at dt_Cell_width 12 rfl)
set_option maxRecDepth 100000 in
set_option maxHeartbeats 4000000 in
theorem k_Cell_width_0 {p : Program} {l : Launch} {e : Env} {s : State} {m : MethodId} {args : Array Value} {below : List Frame} {meth : Method} {c : Code} {D : va_G} {a : Nat → Nat} {q : Nat → ClassId} {A : Nat → Prop} (hC : CX p s m args meth c prog_2_method_9_code 1 "OutwardTape$Cell" (some .long)) (hA : ∀ x, s.heap.size ≤ x → A x) (hK : va_K D CLS (tE q) s)  {r0 : Int64} : ∀ (v0_l : Int64) (v0_h : Int64) (v0_m : Int32)  (y_v0 : Nat) (H : Heap) (locs : List Loc) (ls : Array Slot), va_P D CLS (wE a q ) H → va_D A (wE a q ) → va_S A s.heap H locs → isC D H y_v0 v0_l v0_h v0_m → nin (dE a) y_v0 → lv_has ls 1 [(0, .ref y_v0)] → f_Cell_width_0  v0_l v0_h v0_m = some r0 → W p l e rm_Cell_width s m args below meth c H locs 0 0 (MQ below (va_Ql (fun (r : Int64) (_ : Unit) => r = r0) (fun _ t => va_P D CLS (wE a q ) t.heap) A) args s 0 0 A) (F0 m 0 ls []) := by
  obtain ⟨hx, hb, hml, hown, hts, hr, hlocks⟩ := id hC
  intro v0_l v0_h v0_m y_v0 H locs ls hP hD hS hc_v0 hn_v0 hl h
  rw [f_Cell_width_0] at h
  have hSz : s.heap.size ≤ H.size := hS.1
  refine lv_aload_n hx hb (dt_at dt_Cell_width 0 rfl) rfl (lv_at hl 0 rfl) ?_
  obtain ⟨r1, h_r1, h⟩ := ob_of h
  have hPc : va_P D CLS (wE a q) H := fun k q h => by simp [wE] at h
  have hd : va_D (fun _ => True) (dE a) := dE_D a
  have hKc : va_K D CLS (tE q) s := hK.sub (tys' := []) [] rfl
  have hF : ∀ x, va_A (dE a) H.size x → A x := fun x h9 => h9.elim (fun ⟨k, e, h⟩ => by simp [dE] at h) (fun g => hA _ (Nat.le_trans hS.1 g))
  refine va_calli (va_runV (As := []) (rest := []) ⟨hx, hb, hml, hown, hts⟩ (c_Cell_isBounded l D a q  hd H.size v0_l v0_h v0_m  y_v0 (nin_E a y_v0) r1 h_r1) (cwV 0 hts (gd_V (m_1 165 rfl rfl) (m_1 166 rfl rfl) (m_1 167 rfl rfl) (m_1 10 rfl rfl) (m_1 168 rfl rfl)) rfl rfl rfl (by decide +kernel) ⟨Nat.le_of_ble_eq_true rfl, Nat.le_of_ble_eq_true rfl⟩) ⟨fun a U g mk q => ⟨q.1, q.2.1, q.2.2.1, va_K.moved (u := U) (U := U.calling g mk a) (Vm.Alike.refl U.vm) q.2.2.2.1, q.2.2.2.2⟩, va_recv hK hc_v0 (ci := 4) (q0 := 0) rfl rfl, fun U hU hW => ⟨rfl, by rw [hU], by rw [hU]; exact hPc, va_K.moved hW.alike hKc, by rw [hU]; exact hc_v0⟩⟩ rfl rfl hl.1 rfl (lv_room (Nat.le_of_ble_eq_true rfl)) (dt_at dt_Cell_width 1 rfl) ⟨Nat.le_of_ble_eq_true rfl, Nat.le_of_ble_eq_true rfl⟩) hS (fun x _ h9 => hF x h9) hF (fun u_r1 uu t H1 locs ht hvm hw hB hz1 hk1 hS => ?_)
  obtain rfl : r1 = u_r1 := hw.symm
  have hc_v0 := isC.keptA hc_v0 hk1 (nin_E a y_v0)
  have hP := va_P.kept hP (fun k q hq => hk1 _ (hP k q hq).lt (not_AE (hP k q hq).lt))
  have hSz : s.heap.size ≤ H1.size := hS.1
  clear hk1 hz1 hPc hF hB ht
  generalize H1 = H at hP hS hSz hc_v0 ⊢
  refine lv_if_eq (tgt := 23) hx hb (dt_at dt_Cell_width 2 rfl) (by decide) (fun c2 => ?_) (fun c2 => ?_)
  · have h := if_p h c2
    refine lv_ldc2 (v := 9218868437227405312) hx hb hown (hts (Cond.constantLong "OutwardTape$Cell" 25 (9218868437227405312)) (m_1 211 rfl rfl)) (dt_at dt_Cell_width 11 rfl) ?_
    exact k_Cell_width_26 hC hA hK   (9218868437227405312 : Int64) H locs ls hP hD hS   (lv_sub hl [] rfl) h
  · have h := if_n h c2
    refine lv_aload_n hx hb (dt_at dt_Cell_width 3 rfl) rfl (lv_at hl 0 rfl) ?_
    refine va_get (D := D) (ci := 4) (v := .long v0_h) (C := "OutwardTape$Cell") (T := T_Cell) (N := 3) hx hb hts in_Cell hown hK hc_v0 0 rfl rfl 1 (by decide) (hts (Cond.fieldLink "OutwardTape$Cell" 13 "OutwardTape$Cell" "high" "J") (m_2 124 rfl rfl)) (fun _ h9 => h9) rfl (dt_at dt_Cell_width 4 rfl) ?_
    refine lv_aload_n hx hb (dt_at dt_Cell_width 5 rfl) rfl (lv_at hl 0 rfl) ?_
    refine va_get (D := D) (ci := 4) (v := .long v0_l) (C := "OutwardTape$Cell") (T := T_Cell) (N := 3) hx hb hts in_Cell hown hK hc_v0 0 rfl rfl 0 (by decide) (hts (Cond.fieldLink "OutwardTape$Cell" 7 "OutwardTape$Cell" "low" "J") (m_2 117 rfl rfl)) (fun _ h9 => h9) rfl (dt_at dt_Cell_width 6 rfl) ?_
    refine lv_lneg hx hb (dt_at dt_Cell_width 7 rfl) ?_
    refine lv_iconst (v := 1) hx hb (dt_at dt_Cell_width 8 rfl) (by decide) ?_
    obtain ⟨r3, h_r3, h⟩ := ob_of h
    refine vp_callSl (W.runS (As := [.long v0_h, .long (-v0_l), .int (1 : Int32)]) (rest := []) ⟨hx, hb, hml, hown, hts⟩ (c_Exact_sum l v0_h (-v0_l) (1 : Int32) r3 h_r3) (va_cwS 3 hts (gd_S (m_1 170 rfl rfl) (m_1 171 rfl rfl) (m_1 16 rfl rfl) (m_1 172 rfl rfl)) rfl rfl rfl (by decide +kernel) ⟨Nat.le_of_ble_eq_true rfl, Nat.le_of_ble_eq_true rfl⟩) ⟨fun _ _ _ _ q => q, fun U hU hW => ⟨rfl, trivial⟩⟩ rfl rfl hl.1 rfl (lv_room (Nat.le_of_ble_eq_true rfl)) (dt_at dt_Cell_width 9 rfl) ⟨Nat.le_of_ble_eq_true rfl, Nat.le_of_ble_eq_true rfl⟩) (fun u_r3 q_r3 => ?_)
    obtain rfl : r3 = u_r3 := q_r3.symm
    refine lv_goto (tgt := 26) hx hb (dt_at dt_Cell_width 10 rfl) (by decide) ?_
    exact k_Cell_width_26 hC hA hK   r3 H locs ls hP hD hS   (lv_sub hl [] rfl) h
set_option maxRecDepth 100000 in
set_option maxHeartbeats 4000000 in
theorem c_Cell_width (l : Launch) (D : va_G) (a : Nat → Nat) (q : Nat → ClassId) (hd : va_D (fun _ => True) (dE a)) (sz : Nat) (a0_l : Int64) (a0_h : Int64) (a0_m : Int32)  (y_a0 : Nat) (hn_a0 : nin (dE a) y_a0) (r0 : Int64) (h : f_Cell_width a0_l a0_h a0_m = some r0) : Met l (⟨"OutwardTape$Cell", "width", "()J"⟩ : MethodName) (WSm (⟨"OutwardTape$Cell", "width", "()J"⟩ : MethodName) prog_2_method_9_code 1 (some .long)) rm_Cell_width (va_Pc [.ref y_a0] (fun U => U.heap.size = sz ∧ va_P D CLS (wE a q ) U.heap ∧ va_K D CLS (tE q) U ∧ isC D U.heap y_a0 a0_l a0_h a0_m)) (va_Ql (fun (r : Int64) (_ : Unit) => r = r0) (fun _ t => va_P D CLS (wE a q ) t.heap) (va_A (dE a) sz)) 0 0 (va_A (dE a) sz) := by
  refine Met.ofW (cc := prog_2_method_9_code) (maxL := 1) (ret := (some .long)) (by decide) rfl ?_
  intro p e s m args below meth c s₁ B hml hv
  obtain ⟨rfl, hsz, hP, hK, hc_a0⟩ := hv
  subst hsz
  have hC := CX.of B hml rfl
  have hl := lv_entry [.ref y_a0] (n := 1) (Nat.le_of_ble_eq_true rfl)
  rw [lg_entry_eq]
  generalize (lg_sl [.ref y_a0] ++ List.replicate (1 - (lg_sl [.ref y_a0]).length) Slot.unset).toArray = ls at hl ⊢
  have hl : lv_has ls 1 [(0, .ref y_a0)] := hl
  exact k_Cell_width_0  hC (fun x h => Or.inr h) hK a0_l a0_h a0_m   y_a0 s.heap [] ls hP (dD hd.self rfl) va_S.rf  hc_a0  hn_a0  (lv_sub hl [0] rfl) h
abbrev rm_Cell_magnitude : Room := { frames := 1, cells := 0, slots := 0, locals := 24 }
set_option maxRecDepth 100000 in
set_option maxHeartbeats 4000000 in
theorem k_Cell_magnitude_0 {p : Program} {l : Launch} {e : Env} {s : State} {m : MethodId} {args : Array Value} {below : List Frame} {meth : Method} {c : Code} {D : va_G} {a : Nat → Nat} {q : Nat → ClassId} {A : Nat → Prop} (hC : CX p s m args meth c prog_2_method_10_code 1 "OutwardTape$Cell" (some .long)) (hA : ∀ x, s.heap.size ≤ x → A x) (hK : va_K D CLS (tE q) s)  {r0 : Int64} : ∀ (v0_l : Int64) (v0_h : Int64) (v0_m : Int32)  (y_v0 : Nat) (H : Heap) (locs : List Loc) (ls : Array Slot), va_P D CLS (wE a q ) H → va_D A (wE a q ) → va_S A s.heap H locs → isC D H y_v0 v0_l v0_h v0_m → nin (dE a) y_v0 → lv_has ls 1 [(0, .ref y_v0)] → f_Cell_magnitude_0  v0_l v0_h v0_m = some r0 → W p l e rm_Cell_magnitude s m args below meth c H locs 0 0 (MQ below (va_Ql (fun (r : Int64) (_ : Unit) => r = r0) (fun _ t => va_P D CLS (wE a q ) t.heap) A) args s 0 0 A) (F0 m 0 ls []) := by
  obtain ⟨hx, hb, hml, hown, hts, hr, hlocks⟩ := id hC
  intro v0_l v0_h v0_m y_v0 H locs ls hP hD hS hc_v0 hn_v0 hl h
  rw [f_Cell_magnitude_0] at h
  have hSz : s.heap.size ≤ H.size := hS.1
  refine lv_aload_n hx hb (dt_at dt_Cell_magnitude 0 rfl) rfl (lv_at hl 0 rfl) ?_
  refine va_get (D := D) (ci := 4) (v := .long v0_l) (C := "OutwardTape$Cell") (T := T_Cell) (N := 3) hx hb hts in_Cell hown hK hc_v0 0 rfl rfl 0 (by decide) (hts (Cond.fieldLink "OutwardTape$Cell" 7 "OutwardTape$Cell" "low" "J") (m_2 117 rfl rfl)) (fun _ h9 => h9) rfl (dt_at dt_Cell_magnitude 1 rfl) ?_
  obtain ⟨t1, e_t1, h⟩ := ol_of h
  refine va_mabs_long hx hb (hml.trans hl.1.symm) hown (hts (Cond.methodLink "OutwardTape$Cell" 53 Lib.MathLoose.abs_long.x) (m_1 216 rfl rfl)) (hts (Cond.static Lib.MathLoose.abs_long.x) (m_1 178 rfl rfl)) (hts (Cond.initialized "java/lang/Math") (m_1 9 rfl rfl)) (hts (Cond.code Lib.MathLoose.abs_long.x Lib.MathLoose.abs_long.code 2 (some .long)) (m_1 179 rfl rfl)) (Nat.le_of_ble_eq_true rfl) (Nat.le_of_ble_eq_true rfl) (Nat.le_of_ble_eq_true rfl) (Nat.le_of_ble_eq_true rfl) (dt_at dt_Cell_magnitude 2 rfl) ?_
  refine lv_topl (fun u_t1 q_t1 => ?_)
  obtain rfl : t1 = u_t1 := e_t1.trans q_t1.symm
  refine lv_aload_n hx hb (dt_at dt_Cell_magnitude 3 rfl) rfl (lv_at hl 0 rfl) ?_
  refine va_get (D := D) (ci := 4) (v := .long v0_h) (C := "OutwardTape$Cell") (T := T_Cell) (N := 3) hx hb hts in_Cell hown hK hc_v0 0 rfl rfl 1 (by decide) (hts (Cond.fieldLink "OutwardTape$Cell" 13 "OutwardTape$Cell" "high" "J") (m_2 124 rfl rfl)) (fun _ h9 => h9) rfl (dt_at dt_Cell_magnitude 4 rfl) ?_
  obtain ⟨t2, e_t2, h⟩ := ol_of h
  refine va_mabs_long hx hb (hml.trans hl.1.symm) hown (hts (Cond.methodLink "OutwardTape$Cell" 53 Lib.MathLoose.abs_long.x) (m_1 216 rfl rfl)) (hts (Cond.static Lib.MathLoose.abs_long.x) (m_1 178 rfl rfl)) (hts (Cond.initialized "java/lang/Math") (m_1 9 rfl rfl)) (hts (Cond.code Lib.MathLoose.abs_long.x Lib.MathLoose.abs_long.code 2 (some .long)) (m_1 179 rfl rfl)) (Nat.le_of_ble_eq_true rfl) (Nat.le_of_ble_eq_true rfl) (Nat.le_of_ble_eq_true rfl) (Nat.le_of_ble_eq_true rfl) (dt_at dt_Cell_magnitude 5 rfl) ?_
  refine lv_topl (fun u_t2 q_t2 => ?_)
  obtain rfl : t2 = u_t2 := e_t2.trans q_t2.symm
  obtain ⟨t3, e_t3, h⟩ := ol_of h
  refine va_mmax_long hx hb (hml.trans hl.1.symm) hown (hts (Cond.methodLink "OutwardTape$Cell" 57 Lib.MathLoose.max_long.x) (m_1 217 rfl rfl)) (hts (Cond.static Lib.MathLoose.max_long.x) (m_1 218 rfl rfl)) (hts (Cond.initialized "java/lang/Math") (m_1 9 rfl rfl)) (hts (Cond.code Lib.MathLoose.max_long.x Lib.MathLoose.max_long.code 4 (some .long)) (m_1 219 rfl rfl)) (Nat.le_of_ble_eq_true rfl) (Nat.le_of_ble_eq_true rfl) (Nat.le_of_ble_eq_true rfl) (Nat.le_of_ble_eq_true rfl) (dt_at dt_Cell_magnitude 6 rfl) ?_
  refine lv_topl (fun u_t3 q_t3 => ?_)
  obtain rfl : t3 = u_t3 := e_t3.trans q_t3.symm
  obtain rfl := os_of h
  exact W.lret (v := t3) hx hb hr (fun t ht hW => ⟨⟨_, (), rfl, rfl, (hPt hP ht)⟩, hS.F ht⟩) hS.2.2 (dt_at dt_Cell_magnitude 7 rfl)
set_option maxRecDepth 100000 in
set_option maxHeartbeats 4000000 in
theorem c_Cell_magnitude (l : Launch) (D : va_G) (a : Nat → Nat) (q : Nat → ClassId) (hd : va_D (fun _ => True) (dE a)) (sz : Nat) (a0_l : Int64) (a0_h : Int64) (a0_m : Int32)  (y_a0 : Nat) (hn_a0 : nin (dE a) y_a0) (r0 : Int64) (h : f_Cell_magnitude a0_l a0_h a0_m = some r0) : Met l (⟨"OutwardTape$Cell", "magnitude", "()J"⟩ : MethodName) (WSm (⟨"OutwardTape$Cell", "magnitude", "()J"⟩ : MethodName) prog_2_method_10_code 1 (some .long)) rm_Cell_magnitude (va_Pc [.ref y_a0] (fun U => U.heap.size = sz ∧ va_P D CLS (wE a q ) U.heap ∧ va_K D CLS (tE q) U ∧ isC D U.heap y_a0 a0_l a0_h a0_m)) (va_Ql (fun (r : Int64) (_ : Unit) => r = r0) (fun _ t => va_P D CLS (wE a q ) t.heap) (va_A (dE a) sz)) 0 0 (va_A (dE a) sz) := by
  refine Met.ofW (cc := prog_2_method_10_code) (maxL := 1) (ret := (some .long)) (by decide) rfl ?_
  intro p e s m args below meth c s₁ B hml hv
  obtain ⟨rfl, hsz, hP, hK, hc_a0⟩ := hv
  subst hsz
  have hC := CX.of B hml rfl
  have hl := lv_entry [.ref y_a0] (n := 1) (Nat.le_of_ble_eq_true rfl)
  rw [lg_entry_eq]
  generalize (lg_sl [.ref y_a0] ++ List.replicate (1 - (lg_sl [.ref y_a0]).length) Slot.unset).toArray = ls at hl ⊢
  have hl : lv_has ls 1 [(0, .ref y_a0)] := hl
  exact k_Cell_magnitude_0  hC (fun x h => Or.inr h) hK a0_l a0_h a0_m   y_a0 s.heap [] ls hP (dD hd.self rfl) va_S.rf  hc_a0  hn_a0  (lv_sub hl [0] rfl) h
abbrev rm_Cell_mignitude : Room := { frames := 1, cells := 0, slots := 0, locals := 24 }
set_option maxRecDepth 100000 in
set_option maxHeartbeats 4000000 in
theorem k_Cell_mignitude_39 {p : Program} {l : Launch} {e : Env} {s : State} {m : MethodId} {args : Array Value} {below : List Frame} {meth : Method} {c : Code} {D : va_G} {a : Nat → Nat} {q : Nat → ClassId} {A : Nat → Prop} (hC : CX p s m args meth c prog_2_method_11_code 1 "OutwardTape$Cell" (some .long)) (hA : ∀ x, s.heap.size ≤ x → A x) (hK : va_K D CLS (tE q) s)  {r0 : Int64} : ∀ (s0 : Int64)  (H : Heap) (locs : List Loc) (ls : Array Slot), va_P D CLS (wE a q ) H → va_D A (wE a q ) → va_S A s.heap H locs → lv_has ls 1 [] → f_Cell_mignitude_39  s0 = some r0 → W p l e rm_Cell_mignitude s m args below meth c H locs 0 0 (MQ below (va_Ql (fun (r : Int64) (_ : Unit) => r = r0) (fun _ t => va_P D CLS (wE a q ) t.heap) A) args s 0 0 A) (F0 m 39 ls [.long s0]) := by
  obtain ⟨hx, hb, hml, hown, hts, hr, hlocks⟩ := id hC
  intro s0 H locs ls hP hD hS hl h
  rw [f_Cell_mignitude_39] at h
  have hSz : s.heap.size ≤ H.size := hS.1
  obtain rfl := os_of h
  exact W.lret (v := s0) hx hb hr (fun t ht hW => ⟨⟨_, (), rfl, rfl, (hPt hP ht)⟩, hS.F ht⟩) hS.2.2 (dt_at dt_Cell_mignitude 19 rfl)
set_option maxRecDepth 100000 in
set_option maxHeartbeats 4000000 in
theorem k_Cell_mignitude_22 {p : Program} {l : Launch} {e : Env} {s : State} {m : MethodId} {args : Array Value} {below : List Frame} {meth : Method} {c : Code} {D : va_G} {a : Nat → Nat} {q : Nat → ClassId} {A : Nat → Prop} (hC : CX p s m args meth c prog_2_method_11_code 1 "OutwardTape$Cell" (some .long)) (hA : ∀ x, s.heap.size ≤ x → A x) (hK : va_K D CLS (tE q) s)  {r0 : Int64} : ∀ (v0_l : Int64) (v0_h : Int64) (v0_m : Int32)  (y_v0 : Nat) (H : Heap) (locs : List Loc) (ls : Array Slot), va_P D CLS (wE a q ) H → va_D A (wE a q ) → va_S A s.heap H locs → isC D H y_v0 v0_l v0_h v0_m → nin (dE a) y_v0 → lv_has ls 1 [(0, .ref y_v0)] → f_Cell_mignitude_22  v0_l v0_h v0_m = some r0 → W p l e rm_Cell_mignitude s m args below meth c H locs 0 0 (MQ below (va_Ql (fun (r : Int64) (_ : Unit) => r = r0) (fun _ t => va_P D CLS (wE a q ) t.heap) A) args s 0 0 A) (F0 m 22 ls []) := by
  obtain ⟨hx, hb, hml, hown, hts, hr, hlocks⟩ := id hC
  intro v0_l v0_h v0_m y_v0 H locs ls hP hD hS hc_v0 hn_v0 hl h
  rw [f_Cell_mignitude_22] at h
  have hSz : s.heap.size ≤ H.size := hS.1
  refine lv_aload_n hx hb (dt_at dt_Cell_mignitude 12 rfl) rfl (lv_at hl 0 rfl) ?_
  refine va_get (D := D) (ci := 4) (v := .long v0_l) (C := "OutwardTape$Cell") (T := T_Cell) (N := 3) hx hb hts in_Cell hown hK hc_v0 0 rfl rfl 0 (by decide) (hts (Cond.fieldLink "OutwardTape$Cell" 7 "OutwardTape$Cell" "low" "J") (m_2 117 rfl rfl)) (fun _ h9 => h9) rfl (dt_at dt_Cell_mignitude 13 rfl) ?_
  obtain ⟨t1, e_t1, h⟩ := ol_of h
  refine va_mabs_long hx hb (hml.trans hl.1.symm) hown (hts (Cond.methodLink "OutwardTape$Cell" 53 Lib.MathLoose.abs_long.x) (m_1 216 rfl rfl)) (hts (Cond.static Lib.MathLoose.abs_long.x) (m_1 178 rfl rfl)) (hts (Cond.initialized "java/lang/Math") (m_1 9 rfl rfl)) (hts (Cond.code Lib.MathLoose.abs_long.x Lib.MathLoose.abs_long.code 2 (some .long)) (m_1 179 rfl rfl)) (Nat.le_of_ble_eq_true rfl) (Nat.le_of_ble_eq_true rfl) (Nat.le_of_ble_eq_true rfl) (Nat.le_of_ble_eq_true rfl) (dt_at dt_Cell_mignitude 14 rfl) ?_
  refine lv_topl (fun u_t1 q_t1 => ?_)
  obtain rfl : t1 = u_t1 := e_t1.trans q_t1.symm
  refine lv_aload_n hx hb (dt_at dt_Cell_mignitude 15 rfl) rfl (lv_at hl 0 rfl) ?_
  refine va_get (D := D) (ci := 4) (v := .long v0_h) (C := "OutwardTape$Cell") (T := T_Cell) (N := 3) hx hb hts in_Cell hown hK hc_v0 0 rfl rfl 1 (by decide) (hts (Cond.fieldLink "OutwardTape$Cell" 13 "OutwardTape$Cell" "high" "J") (m_2 124 rfl rfl)) (fun _ h9 => h9) rfl (dt_at dt_Cell_mignitude 16 rfl) ?_
  obtain ⟨t2, e_t2, h⟩ := ol_of h
  refine va_mabs_long hx hb (hml.trans hl.1.symm) hown (hts (Cond.methodLink "OutwardTape$Cell" 53 Lib.MathLoose.abs_long.x) (m_1 216 rfl rfl)) (hts (Cond.static Lib.MathLoose.abs_long.x) (m_1 178 rfl rfl)) (hts (Cond.initialized "java/lang/Math") (m_1 9 rfl rfl)) (hts (Cond.code Lib.MathLoose.abs_long.x Lib.MathLoose.abs_long.code 2 (some .long)) (m_1 179 rfl rfl)) (Nat.le_of_ble_eq_true rfl) (Nat.le_of_ble_eq_true rfl) (Nat.le_of_ble_eq_true rfl) (Nat.le_of_ble_eq_true rfl) (dt_at dt_Cell_mignitude 17 rfl) ?_
  refine lv_topl (fun u_t2 q_t2 => ?_)
  obtain rfl : t2 = u_t2 := e_t2.trans q_t2.symm
  obtain ⟨t3, e_t3, h⟩ := ol_of h
  refine va_mmin_long hx hb (hml.trans hl.1.symm) hown (hts (Cond.methodLink "OutwardTape$Cell" 61 Lib.MathLoose.min_long.x) (m_1 224 rfl rfl)) (hts (Cond.static Lib.MathLoose.min_long.x) (m_1 225 rfl rfl)) (hts (Cond.initialized "java/lang/Math") (m_1 9 rfl rfl)) (hts (Cond.code Lib.MathLoose.min_long.x Lib.MathLoose.min_long.code 4 (some .long)) (m_1 226 rfl rfl)) (Nat.le_of_ble_eq_true rfl) (Nat.le_of_ble_eq_true rfl) (Nat.le_of_ble_eq_true rfl) (Nat.le_of_ble_eq_true rfl) (dt_at dt_Cell_mignitude 18 rfl) ?_
  refine lv_topl (fun u_t3 q_t3 => ?_)
  obtain rfl : t3 = u_t3 := e_t3.trans q_t3.symm
  exact k_Cell_mignitude_39 hC hA hK   t3 H locs ls hP hD hS   (lv_sub hl [] rfl) h
set_option maxRecDepth 100000 in
set_option maxHeartbeats 4000000 in
theorem k_Cell_mignitude_0 {p : Program} {l : Launch} {e : Env} {s : State} {m : MethodId} {args : Array Value} {below : List Frame} {meth : Method} {c : Code} {D : va_G} {a : Nat → Nat} {q : Nat → ClassId} {A : Nat → Prop} (hC : CX p s m args meth c prog_2_method_11_code 1 "OutwardTape$Cell" (some .long)) (hA : ∀ x, s.heap.size ≤ x → A x) (hK : va_K D CLS (tE q) s)  {r0 : Int64} : ∀ (v0_l : Int64) (v0_h : Int64) (v0_m : Int32)  (y_v0 : Nat) (H : Heap) (locs : List Loc) (ls : Array Slot), va_P D CLS (wE a q ) H → va_D A (wE a q ) → va_S A s.heap H locs → isC D H y_v0 v0_l v0_h v0_m → nin (dE a) y_v0 → lv_has ls 1 [(0, .ref y_v0)] → f_Cell_mignitude_0  v0_l v0_h v0_m = some r0 → W p l e rm_Cell_mignitude s m args below meth c H locs 0 0 (MQ below (va_Ql (fun (r : Int64) (_ : Unit) => r = r0) (fun _ t => va_P D CLS (wE a q ) t.heap) A) args s 0 0 A) (F0 m 0 ls []) := by
  obtain ⟨hx, hb, hml, hown, hts, hr, hlocks⟩ := id hC
  intro v0_l v0_h v0_m y_v0 H locs ls hP hD hS hc_v0 hn_v0 hl h
  rw [f_Cell_mignitude_0] at h
  have hSz : s.heap.size ≤ H.size := hS.1
  refine lv_aload_n hx hb (dt_at dt_Cell_mignitude 0 rfl) rfl (lv_at hl 0 rfl) ?_
  refine va_get (D := D) (ci := 4) (v := .long v0_l) (C := "OutwardTape$Cell") (T := T_Cell) (N := 3) hx hb hts in_Cell hown hK hc_v0 0 rfl rfl 0 (by decide) (hts (Cond.fieldLink "OutwardTape$Cell" 7 "OutwardTape$Cell" "low" "J") (m_2 117 rfl rfl)) (fun _ h9 => h9) rfl (dt_at dt_Cell_mignitude 1 rfl) ?_
  refine lv_lconst (v := 0) hx hb (dt_at dt_Cell_mignitude 2 rfl) (by decide) ?_
  refine lc_gt (tgt := 22) hx hb (dt_at dt_Cell_mignitude 3 rfl) (dt_at dt_Cell_mignitude 4 rfl) (by decide) (fun c1 => ?_) (fun c1 => ?_)
  · have h := if_p h c1
    exact k_Cell_mignitude_22 hC hA hK   v0_l v0_h v0_m y_v0 H locs ls hP hD hS  hc_v0 hn_v0 (lv_sub hl [0] rfl) h
  · have h := if_n h c1
    refine lv_aload_n hx hb (dt_at dt_Cell_mignitude 5 rfl) rfl (lv_at hl 0 rfl) ?_
    refine va_get (D := D) (ci := 4) (v := .long v0_h) (C := "OutwardTape$Cell") (T := T_Cell) (N := 3) hx hb hts in_Cell hown hK hc_v0 0 rfl rfl 1 (by decide) (hts (Cond.fieldLink "OutwardTape$Cell" 13 "OutwardTape$Cell" "high" "J") (m_2 124 rfl rfl)) (fun _ h9 => h9) rfl (dt_at dt_Cell_mignitude 6 rfl) ?_
    refine lv_lconst (v := 0) hx hb (dt_at dt_Cell_mignitude 7 rfl) (by decide) ?_
    refine lc_lt (tgt := 22) hx hb (dt_at dt_Cell_mignitude 8 rfl) (dt_at dt_Cell_mignitude 9 rfl) (by decide) (fun c2 => ?_) (fun c2 => ?_)
    · have h := if_p h c2
      exact k_Cell_mignitude_22 hC hA hK   v0_l v0_h v0_m y_v0 H locs ls hP hD hS  hc_v0 hn_v0 (lv_sub hl [0] rfl) h
    · have h := if_n h c2
      refine lv_lconst (v := 0) hx hb (dt_at dt_Cell_mignitude 10 rfl) (by decide) ?_
      refine lv_goto (tgt := 39) hx hb (dt_at dt_Cell_mignitude 11 rfl) (by decide) ?_
      exact k_Cell_mignitude_39 hC hA hK   (0 : Int64) H locs ls hP hD hS   (lv_sub hl [] rfl) h
set_option maxRecDepth 100000 in
set_option maxHeartbeats 4000000 in
theorem c_Cell_mignitude (l : Launch) (D : va_G) (a : Nat → Nat) (q : Nat → ClassId) (hd : va_D (fun _ => True) (dE a)) (sz : Nat) (a0_l : Int64) (a0_h : Int64) (a0_m : Int32)  (y_a0 : Nat) (hn_a0 : nin (dE a) y_a0) (r0 : Int64) (h : f_Cell_mignitude a0_l a0_h a0_m = some r0) : Met l (⟨"OutwardTape$Cell", "mignitude", "()J"⟩ : MethodName) (WSm (⟨"OutwardTape$Cell", "mignitude", "()J"⟩ : MethodName) prog_2_method_11_code 1 (some .long)) rm_Cell_mignitude (va_Pc [.ref y_a0] (fun U => U.heap.size = sz ∧ va_P D CLS (wE a q ) U.heap ∧ va_K D CLS (tE q) U ∧ isC D U.heap y_a0 a0_l a0_h a0_m)) (va_Ql (fun (r : Int64) (_ : Unit) => r = r0) (fun _ t => va_P D CLS (wE a q ) t.heap) (va_A (dE a) sz)) 0 0 (va_A (dE a) sz) := by
  refine Met.ofW (cc := prog_2_method_11_code) (maxL := 1) (ret := (some .long)) (by decide) rfl ?_
  intro p e s m args below meth c s₁ B hml hv
  obtain ⟨rfl, hsz, hP, hK, hc_a0⟩ := hv
  subst hsz
  have hC := CX.of B hml rfl
  have hl := lv_entry [.ref y_a0] (n := 1) (Nat.le_of_ble_eq_true rfl)
  rw [lg_entry_eq]
  generalize (lg_sl [.ref y_a0] ++ List.replicate (1 - (lg_sl [.ref y_a0]).length) Slot.unset).toArray = ls at hl ⊢
  have hl : lv_has ls 1 [(0, .ref y_a0)] := hl
  exact k_Cell_mignitude_0  hC (fun x h => Or.inr h) hK a0_l a0_h a0_m   y_a0 s.heap [] ls hP (dD hd.self rfl) va_S.rf  hc_a0  hn_a0  (lv_sub hl [0] rfl) h
abbrev rm_Cell_middle : Room := { frames := 4, cells := 0, slots := 0, locals := 120 }
set_option maxRecDepth 100000 in
set_option maxHeartbeats 4000000 in
theorem k_Cell_middle_50 {p : Program} {l : Launch} {e : Env} {s : State} {m : MethodId} {args : Array Value} {below : List Frame} {meth : Method} {c : Code} {D : va_G} {a : Nat → Nat} {q : Nat → ClassId} {A : Nat → Prop} (hC : CX p s m args meth c prog_2_method_12_code 1 "OutwardTape$Cell" (some .long)) (hA : ∀ x, s.heap.size ≤ x → A x) (hK : va_K D CLS (tE q) s)  {r0 : Int64} : ∀ (s0 : Int64)  (H : Heap) (locs : List Loc) (ls : Array Slot), va_P D CLS (wE a q ) H → va_D A (wE a q ) → va_S A s.heap H locs → lv_has ls 1 [] → f_Cell_middle_50  s0 = some r0 → W p l e rm_Cell_middle s m args below meth c H locs 0 0 (MQ below (va_Ql (fun (r : Int64) (_ : Unit) => r = r0) (fun _ t => va_P D CLS (wE a q ) t.heap) A) args s 0 0 A) (F0 m 50 ls [.long s0]) := by
  obtain ⟨hx, hb, hml, hown, hts, hr, hlocks⟩ := id hC
  intro s0 H locs ls hP hD hS hl h
  rw [f_Cell_middle_50] at h
  have hSz : s.heap.size ≤ H.size := hS.1
  obtain rfl := os_of h
  exact W.lret (v := s0) hx hb hr (fun t ht hW => ⟨⟨_, (), rfl, rfl, (hPt hP ht)⟩, hS.F ht⟩) hS.2.2 (dt_at dt_Cell_middle 22 rfl)
set_option maxRecDepth 100000 in
set_option maxHeartbeats 4000000 in
theorem k_Cell_middle_0 {p : Program} {l : Launch} {e : Env} {s : State} {m : MethodId} {args : Array Value} {below : List Frame} {meth : Method} {c : Code} {D : va_G} {a : Nat → Nat} {q : Nat → ClassId} {A : Nat → Prop} (hC : CX p s m args meth c prog_2_method_12_code 1 "OutwardTape$Cell" (some .long)) (hA : ∀ x, s.heap.size ≤ x → A x) (hK : va_K D CLS (tE q) s)  {r0 : Int64} : ∀ (v0_l : Int64) (v0_h : Int64) (v0_m : Int32)  (y_v0 : Nat) (H : Heap) (locs : List Loc) (ls : Array Slot), va_P D CLS (wE a q ) H → va_D A (wE a q ) → va_S A s.heap H locs → isC D H y_v0 v0_l v0_h v0_m → nin (dE a) y_v0 → lv_has ls 1 [(0, .ref y_v0)] → f_Cell_middle_0  v0_l v0_h v0_m = some r0 → W p l e rm_Cell_middle s m args below meth c H locs 0 0 (MQ below (va_Ql (fun (r : Int64) (_ : Unit) => r = r0) (fun _ t => va_P D CLS (wE a q ) t.heap) A) args s 0 0 A) (F0 m 0 ls []) := by
  obtain ⟨hx, hb, hml, hown, hts, hr, hlocks⟩ := id hC
  intro v0_l v0_h v0_m y_v0 H locs ls hP hD hS hc_v0 hn_v0 hl h
  rw [f_Cell_middle_0] at h
  have hSz : s.heap.size ≤ H.size := hS.1
  refine lv_aload_n hx hb (dt_at dt_Cell_middle 0 rfl) rfl (lv_at hl 0 rfl) ?_
  obtain ⟨r1, h_r1, h⟩ := ob_of h
  have hPc : va_P D CLS (wE a q) H := fun k q h => by simp [wE] at h
  have hd : va_D (fun _ => True) (dE a) := dE_D a
  have hKc : va_K D CLS (tE q) s := hK.sub (tys' := []) [] rfl
  have hF : ∀ x, va_A (dE a) H.size x → A x := fun x h9 => h9.elim (fun ⟨k, e, h⟩ => by simp [dE] at h) (fun g => hA _ (Nat.le_trans hS.1 g))
  refine va_calli (va_runV (As := []) (rest := []) ⟨hx, hb, hml, hown, hts⟩ (c_Cell_isBounded l D a q  hd H.size v0_l v0_h v0_m  y_v0 (nin_E a y_v0) r1 h_r1) (cwV 0 hts (gd_V (m_1 165 rfl rfl) (m_1 166 rfl rfl) (m_1 167 rfl rfl) (m_1 10 rfl rfl) (m_1 168 rfl rfl)) rfl rfl rfl (by decide +kernel) ⟨Nat.le_of_ble_eq_true rfl, Nat.le_of_ble_eq_true rfl⟩) ⟨fun a U g mk q => ⟨q.1, q.2.1, q.2.2.1, va_K.moved (u := U) (U := U.calling g mk a) (Vm.Alike.refl U.vm) q.2.2.2.1, q.2.2.2.2⟩, va_recv hK hc_v0 (ci := 4) (q0 := 0) rfl rfl, fun U hU hW => ⟨rfl, by rw [hU], by rw [hU]; exact hPc, va_K.moved hW.alike hKc, by rw [hU]; exact hc_v0⟩⟩ rfl rfl hl.1 rfl (lv_room (Nat.le_of_ble_eq_true rfl)) (dt_at dt_Cell_middle 1 rfl) ⟨Nat.le_of_ble_eq_true rfl, Nat.le_of_ble_eq_true rfl⟩) hS (fun x _ h9 => hF x h9) hF (fun u_r1 uu t H1 locs ht hvm hw hB hz1 hk1 hS => ?_)
  obtain rfl : r1 = u_r1 := hw.symm
  have hc_v0 := isC.keptA hc_v0 hk1 (nin_E a y_v0)
  have hP := va_P.kept hP (fun k q hq => hk1 _ (hP k q hq).lt (not_AE (hP k q hq).lt))
  have hSz : s.heap.size ≤ H1.size := hS.1
  clear hk1 hz1 hPc hF hB ht
  generalize H1 = H at hP hS hSz hc_v0 ⊢
  refine lv_if_eq (tgt := 19) hx hb (dt_at dt_Cell_middle 2 rfl) (by decide) (fun c2 => ?_) (fun c2 => ?_)
  · have h := if_p h c2
    refine lv_aload_n hx hb (dt_at dt_Cell_middle 9 rfl) rfl (lv_at hl 0 rfl) ?_
    refine va_get (D := D) (ci := 4) (v := .long v0_l) (C := "OutwardTape$Cell") (T := T_Cell) (N := 3) hx hb hts in_Cell hown hK hc_v0 0 rfl rfl 0 (by decide) (hts (Cond.fieldLink "OutwardTape$Cell" 7 "OutwardTape$Cell" "low" "J") (m_2 117 rfl rfl)) (fun _ h9 => h9) rfl (dt_at dt_Cell_middle 10 rfl) ?_
    obtain ⟨r3, h_r3, h⟩ := ob_of h
    refine vp_callSi (W.runS (As := [.long v0_l]) (rest := []) ⟨hx, hb, hml, hown, hts⟩ (c_Rank_isFinite l v0_l r3 h_r3) (va_cwS 1 hts (gd_S (m_1 169 rfl rfl) (m_1 153 rfl rfl) (m_1 15 rfl rfl) (m_1 154 rfl rfl)) rfl rfl rfl (by decide +kernel) ⟨Nat.le_of_ble_eq_true rfl, Nat.le_of_ble_eq_true rfl⟩) ⟨fun _ _ _ _ q => q, fun U hU hW => ⟨rfl, trivial⟩⟩ rfl rfl hl.1 rfl (lv_room (Nat.le_of_ble_eq_true rfl)) (dt_at dt_Cell_middle 11 rfl) ⟨Nat.le_of_ble_eq_true rfl, Nat.le_of_ble_eq_true rfl⟩) (fun u_r3 q_r3 => ?_)
    obtain rfl : r3 = u_r3 := q_r3.symm
    refine lv_if_eq (tgt := 33) hx hb (dt_at dt_Cell_middle 12 rfl) (by decide) (fun c4 => ?_) (fun c4 => ?_)
    · have h := if_p h c4
      refine lv_aload_n hx hb (dt_at dt_Cell_middle 15 rfl) rfl (lv_at hl 0 rfl) ?_
      refine va_get (D := D) (ci := 4) (v := .long v0_h) (C := "OutwardTape$Cell") (T := T_Cell) (N := 3) hx hb hts in_Cell hown hK hc_v0 0 rfl rfl 1 (by decide) (hts (Cond.fieldLink "OutwardTape$Cell" 13 "OutwardTape$Cell" "high" "J") (m_2 124 rfl rfl)) (fun _ h9 => h9) rfl (dt_at dt_Cell_middle 16 rfl) ?_
      obtain ⟨r5, h_r5, h⟩ := ob_of h
      refine vp_callSi (W.runS (As := [.long v0_h]) (rest := []) ⟨hx, hb, hml, hown, hts⟩ (c_Rank_isFinite l v0_h r5 h_r5) (va_cwS 1 hts (gd_S (m_1 169 rfl rfl) (m_1 153 rfl rfl) (m_1 15 rfl rfl) (m_1 154 rfl rfl)) rfl rfl rfl (by decide +kernel) ⟨Nat.le_of_ble_eq_true rfl, Nat.le_of_ble_eq_true rfl⟩) ⟨fun _ _ _ _ q => q, fun U hU hW => ⟨rfl, trivial⟩⟩ rfl rfl hl.1 rfl (lv_room (Nat.le_of_ble_eq_true rfl)) (dt_at dt_Cell_middle 17 rfl) ⟨Nat.le_of_ble_eq_true rfl, Nat.le_of_ble_eq_true rfl⟩) (fun u_r5 q_r5 => ?_)
      obtain rfl : r5 = u_r5 := q_r5.symm
      refine lv_if_eq (tgt := 49) hx hb (dt_at dt_Cell_middle 18 rfl) (by decide) (fun c6 => ?_) (fun c6 => ?_)
      · have h := if_p h c6
        refine lv_lconst (v := 0) hx hb (dt_at dt_Cell_middle 21 rfl) (by decide) ?_
        exact k_Cell_middle_50 hC hA hK   (0 : Int64) H locs ls hP hD hS   (lv_sub hl [] rfl) h
      · have h := if_n h c6
        refine lv_ldc2 (v := -9218868437227405311) hx hb hown (hts (Cond.constantLong "OutwardTape$Cell" 68 (-9218868437227405311)) (m_1 235 rfl rfl)) (dt_at dt_Cell_middle 19 rfl) ?_
        refine lv_goto (tgt := 50) hx hb (dt_at dt_Cell_middle 20 rfl) (by decide) ?_
        exact k_Cell_middle_50 hC hA hK   (-9218868437227405311 : Int64) H locs ls hP hD hS   (lv_sub hl [] rfl) h
    · have h := if_n h c4
      refine lv_ldc2 (v := 9218868437227405311) hx hb hown (hts (Cond.constantLong "OutwardTape$Cell" 66 (9218868437227405311)) (m_1 234 rfl rfl)) (dt_at dt_Cell_middle 13 rfl) ?_
      obtain rfl := os_of h
      exact W.lret (v := (9218868437227405311 : Int64)) hx hb hr (fun t ht hW => ⟨⟨_, (), rfl, rfl, (hPt hP ht)⟩, hS.F ht⟩) hS.2.2 (dt_at dt_Cell_middle 14 rfl)
  · have h := if_n h c2
    refine lv_aload_n hx hb (dt_at dt_Cell_middle 3 rfl) rfl (lv_at hl 0 rfl) ?_
    refine va_get (D := D) (ci := 4) (v := .long v0_l) (C := "OutwardTape$Cell") (T := T_Cell) (N := 3) hx hb hts in_Cell hown hK hc_v0 0 rfl rfl 0 (by decide) (hts (Cond.fieldLink "OutwardTape$Cell" 7 "OutwardTape$Cell" "low" "J") (m_2 117 rfl rfl)) (fun _ h9 => h9) rfl (dt_at dt_Cell_middle 4 rfl) ?_
    refine lv_aload_n hx hb (dt_at dt_Cell_middle 5 rfl) rfl (lv_at hl 0 rfl) ?_
    refine va_get (D := D) (ci := 4) (v := .long v0_h) (C := "OutwardTape$Cell") (T := T_Cell) (N := 3) hx hb hts in_Cell hown hK hc_v0 0 rfl rfl 1 (by decide) (hts (Cond.fieldLink "OutwardTape$Cell" 13 "OutwardTape$Cell" "high" "J") (m_2 124 rfl rfl)) (fun _ h9 => h9) rfl (dt_at dt_Cell_middle 6 rfl) ?_
    obtain ⟨r7, h_r7, h⟩ := ob_of h
    refine vp_callSl (W.runS (As := [.long v0_l, .long v0_h]) (rest := []) ⟨hx, hb, hml, hown, hts⟩ (c_Exact_halfSum l v0_l v0_h r7 h_r7) (va_cwS 2 hts (gd_S (m_1 231 rfl rfl) (m_1 232 rfl rfl) (m_1 16 rfl rfl) (m_1 233 rfl rfl)) rfl rfl rfl (by decide +kernel) ⟨Nat.le_of_ble_eq_true rfl, Nat.le_of_ble_eq_true rfl⟩) ⟨fun _ _ _ _ q => q, fun U hU hW => ⟨rfl, trivial⟩⟩ rfl rfl hl.1 rfl (lv_room (Nat.le_of_ble_eq_true rfl)) (dt_at dt_Cell_middle 7 rfl) ⟨Nat.le_of_ble_eq_true rfl, Nat.le_of_ble_eq_true rfl⟩) (fun u_r7 q_r7 => ?_)
    obtain rfl : r7 = u_r7 := q_r7.symm
    obtain rfl := os_of h
    exact W.lret (v := r7) hx hb hr (fun t ht hW => ⟨⟨_, (), rfl, rfl, (hPt hP ht)⟩, hS.F ht⟩) hS.2.2 (dt_at dt_Cell_middle 8 rfl)
set_option maxRecDepth 100000 in
set_option maxHeartbeats 4000000 in
theorem c_Cell_middle (l : Launch) (D : va_G) (a : Nat → Nat) (q : Nat → ClassId) (hd : va_D (fun _ => True) (dE a)) (sz : Nat) (a0_l : Int64) (a0_h : Int64) (a0_m : Int32)  (y_a0 : Nat) (hn_a0 : nin (dE a) y_a0) (r0 : Int64) (h : f_Cell_middle a0_l a0_h a0_m = some r0) : Met l (⟨"OutwardTape$Cell", "middle", "()J"⟩ : MethodName) (WSm (⟨"OutwardTape$Cell", "middle", "()J"⟩ : MethodName) prog_2_method_12_code 1 (some .long)) rm_Cell_middle (va_Pc [.ref y_a0] (fun U => U.heap.size = sz ∧ va_P D CLS (wE a q ) U.heap ∧ va_K D CLS (tE q) U ∧ isC D U.heap y_a0 a0_l a0_h a0_m)) (va_Ql (fun (r : Int64) (_ : Unit) => r = r0) (fun _ t => va_P D CLS (wE a q ) t.heap) (va_A (dE a) sz)) 0 0 (va_A (dE a) sz) := by
  refine Met.ofW (cc := prog_2_method_12_code) (maxL := 1) (ret := (some .long)) (by decide) rfl ?_
  intro p e s m args below meth c s₁ B hml hv
  obtain ⟨rfl, hsz, hP, hK, hc_a0⟩ := hv
  subst hsz
  have hC := CX.of B hml rfl
  have hl := lv_entry [.ref y_a0] (n := 1) (Nat.le_of_ble_eq_true rfl)
  rw [lg_entry_eq]
  generalize (lg_sl [.ref y_a0] ++ List.replicate (1 - (lg_sl [.ref y_a0]).length) Slot.unset).toArray = ls at hl ⊢
  have hl : lv_has ls 1 [(0, .ref y_a0)] := hl
  exact k_Cell_middle_0  hC (fun x h => Or.inr h) hK a0_l a0_h a0_m   y_a0 s.heap [] ls hP (dD hd.self rfl) va_S.rf  hc_a0  hn_a0  (lv_sub hl [0] rfl) h
abbrev rm_Div_byPositive : Room := { frames := 4, cells := 2, slots := 6, locals := 107 }
set_option maxRecDepth 100000 in
set_option maxHeartbeats 4000000 in
theorem k_Div_byPositive_56 {p : Program} {l : Launch} {e : Env} {s : State} {m : MethodId} {args : Array Value} {below : List Frame} {meth : Method} {c : Code} {D : va_G} {a : Nat → Nat} {q : Nat → ClassId} {PL : List Nat} {A : Nat → Prop} (hC : CX p s m args meth c prog_3_method_3_code 13 "OutwardTape$Division" (some (.object "OutwardTape$Cell"))) (hA : ∀ x, s.heap.size ≤ x → A x) (hK : va_K D CLS (tE q) s)  {r0 : Int64 × Int64 × Int32} : ∀ (s0 : Int32) (s1 : Int64) (s2 : Int64) (v8 : Int32)  (H : Heap) (locs : List Loc) (ls : Array Slot), va_P D CLS (wE a q ) H → va_D A (wE a q ) → va_S A s.heap H locs → lv_has ls 13 [(8, .int v8)] → f_Div_byPositive_56  s0 s1 s2 v8 = some r0 → W p l e rm_Div_byPositive s m args below meth c H locs 0 0 (MQ below (va_Qr (fun _ : Unit => True) (fun _ ra t => (va_P D CLS (wE a q ) t.heap) ∧ isC D t.heap ra r0.1 r0.2.1 r0.2.2 ∧ (s.heap.size ≤ ra ∨ ra ∈ PL)) A) args s 2 6 A) (F0 m 56 ls [.int s0, .long s1, .long s2]) := by
  obtain ⟨hx, hb, hml, hown, hts, hr, hlocks⟩ := id hC
  intro s0 s1 s2 v8 H locs ls hP hD hS hl h
  rw [f_Div_byPositive_56] at h
  have hSz : s.heap.size ≤ H.size := hS.1
  refine lv_iload hx hb (dt_at dt_Div_byPositive 31 rfl) (lv_at hl 0 rfl) ?_
  obtain ⟨r1, h_r1, h⟩ := ob_of h
  have hPc : va_P D CLS (wE a q) H := fun k q h => by simp [wE] at h
  have hd : va_D (fun _ => True) (dE a) := dE_D a
  have hKc : va_K D CLS (tE q) s := hK.sub (tys' := []) [] rfl
  have hF : ∀ x, va_A (dE a) H.size x → A x := fun x h9 => h9.elim (fun ⟨k, e, h⟩ => by simp [dE] at h) (fun g => hA _ (Nat.le_trans hS.1 g))
  refine va_callr (va_runS (As := [.long s2, .long s1, .int s0, .int v8]) (rest := []) ⟨hx, hb, hml, hown, hts⟩ (c_Cell_value l D a q  hd H.size s2 s1 s0 v8    r1 h_r1) (va_cwS 4 hts (gd_S (m_3 163 rfl rfl) (m_2 219 rfl rfl) (m_1 10 rfl rfl) (m_2 220 rfl rfl)) rfl rfl rfl (by decide +kernel) ⟨Nat.le_of_ble_eq_true rfl, Nat.le_of_ble_eq_true rfl⟩) ⟨fun a U g mk q => ⟨q.1, q.2.1, q.2.2.1, va_K.moved (u := U) (U := U.calling g mk a) (Vm.Alike.refl U.vm) q.2.2.2⟩, fun U hU hW => ⟨rfl, by rw [hU], by rw [hU]; exact hPc, va_K.moved hW.alike hKc⟩⟩ rfl rfl hl.1 rfl (lv_room (Nat.le_of_ble_eq_true rfl)) (dt_at dt_Div_byPositive 32 rfl) ⟨Nat.le_of_ble_eq_true rfl, Nat.le_of_ble_eq_true rfl⟩) hS (fun x _ h9 => hF x h9) hF (fun uu y_r1 t H1 locs ht hvm hw hB hz1 hk1 hS => ?_)
  obtain ⟨hB, hc_r1, hq_r1⟩ := hB
  rw [ht] at hc_r1
  have hn_r1 : nin (dE a) y_r1 := nin_cases hq_r1 (fun g9 => nin_big hP g9 rfl) (fun g9 => by simp at g9)
  have hf_r1 : s.heap.size ≤ y_r1 ∨ y_r1 ∈ PL := nin_cases hq_r1 (fun g9 => Or.inl (Nat.le_trans hSz g9)) (fun g9 => by simp at g9)
  clear hq_r1
  have hP := va_P.kept hP (fun k q hq => hk1 _ (hP k q hq).lt (not_AE (hP k q hq).lt))
  refine W.widen (k := 2) (n := 6) (Nat.le_of_ble_eq_true rfl) (Nat.le_of_ble_eq_true rfl) ?_
  have hSz : s.heap.size ≤ H1.size := hS.1
  clear hk1 hz1 hPc hF hB ht
  generalize H1 = H at hP hS hSz hc_r1 ⊢
  obtain rfl := os_of h
  exact W.aret hx hb hr (Or.inl ⟨_, rfl⟩) (Or.inr ⟨_, rfl⟩) (fun t ht hW => ⟨⟨(), y_r1, rfl, trivial, (hPt hP ht), hPt hc_r1 ht, hf_r1⟩, hS.F ht⟩) hS.2.2 (dt_at dt_Div_byPositive 33 rfl)
set_option maxRecDepth 100000 in
set_option maxHeartbeats 4000000 in
theorem k_Div_byPositive_34 {p : Program} {l : Launch} {e : Env} {s : State} {m : MethodId} {args : Array Value} {below : List Frame} {meth : Method} {c : Code} {D : va_G} {a : Nat → Nat} {q : Nat → ClassId} {PL : List Nat} {A : Nat → Prop} (hC : CX p s m args meth c prog_3_method_3_code 13 "OutwardTape$Division" (some (.object "OutwardTape$Cell"))) (hA : ∀ x, s.heap.size ≤ x → A x) (hK : va_K D CLS (tE q) s)  {r0 : Int64 × Int64 × Int32} : ∀ (s0 : Int64) (s1 : Int64) (v4 : Int64) (v8 : Int32) (v9 : Int64)  (H : Heap) (locs : List Loc) (ls : Array Slot), va_P D CLS (wE a q ) H → va_D A (wE a q ) → va_S A s.heap H locs → lv_has ls 13 [(4, .long v4), (8, .int v8), (9, .long v9)] → f_Div_byPositive_34  s0 s1 v4 v8 v9 = some r0 → W p l e rm_Div_byPositive s m args below meth c H locs 0 0 (MQ below (va_Qr (fun _ : Unit => True) (fun _ ra t => (va_P D CLS (wE a q ) t.heap) ∧ isC D t.heap ra r0.1 r0.2.1 r0.2.2 ∧ (s.heap.size ≤ ra ∨ ra ∈ PL)) A) args s 2 6 A) (F0 m 34 ls [.long s0, .long s1]) := by
  obtain ⟨hx, hb, hml, hown, hts, hr, hlocks⟩ := id hC
  intro s0 s1 v4 v8 v9 H locs ls hP hD hS hl h
  rw [f_Div_byPositive_34] at h
  have hSz : s.heap.size ≤ H.size := hS.1
  refine lv_iconst (v := 1) hx hb (dt_at dt_Div_byPositive 19 rfl) (by decide) ?_
  obtain ⟨r1, h_r1, h⟩ := ob_of h
  refine vp_callSl (W.runS (As := [.long s1, .long s0, .int (1 : Int32)]) (rest := []) ⟨hx, hb, hml, hown, hts⟩ (c_Exact_quotient l s1 s0 (1 : Int32) r1 h_r1) (va_cwS 3 hts (gd_S (m_3 167 rfl rfl) (m_3 168 rfl rfl) (m_1 16 rfl rfl) (m_3 169 rfl rfl)) rfl rfl rfl (by decide +kernel) ⟨Nat.le_of_ble_eq_true rfl, Nat.le_of_ble_eq_true rfl⟩) ⟨fun _ _ _ _ q => q, fun U hU hW => ⟨rfl, trivial⟩⟩ rfl rfl hl.1 rfl (lv_room (Nat.le_of_ble_eq_true rfl)) (dt_at dt_Div_byPositive 20 rfl) ⟨Nat.le_of_ble_eq_true rfl, Nat.le_of_ble_eq_true rfl⟩) (fun u_r1 q_r1 => ?_)
  obtain rfl : r1 = u_r1 := q_r1.symm
  refine lv_lstore (lv' := [(11, .long r1), (4, .long v4), (8, .int v8), (9, .long v9)]) hx hb (dt_at dt_Div_byPositive 21 rfl) hl (by decide) rfl (fun ls hl => ?_)
  refine lv_lload hx hb (dt_at dt_Div_byPositive 22 rfl) (lv_at hl 3 rfl) ?_
  refine lv_lload hx hb (dt_at dt_Div_byPositive 23 rfl) (lv_at hl 0 rfl) ?_
  refine lv_lload hx hb (dt_at dt_Div_byPositive 24 rfl) (lv_at hl 1 rfl) ?_
  refine lv_lconst (v := 0) hx hb (dt_at dt_Div_byPositive 25 rfl) (by decide) ?_
  refine lc_ne (tgt := 55) hx hb (dt_at dt_Div_byPositive 26 rfl) (dt_at dt_Div_byPositive 27 rfl) (by decide) (fun c2 => ?_) (fun c2 => ?_)
  · have h := if_n h c2
    refine lv_iconst (v := 4) hx hb (dt_at dt_Div_byPositive 30 rfl) (by decide) ?_
    exact k_Div_byPositive_56 (PL := PL) hC hA hK   (4 : Int32) r1 v9 v8 H locs ls hP hD hS   (lv_sub hl [2] rfl) h
  · have h := if_p h c2
    refine lv_iconst (v := 1) hx hb (dt_at dt_Div_byPositive 28 rfl) (by decide) ?_
    refine lv_goto (tgt := 56) hx hb (dt_at dt_Div_byPositive 29 rfl) (by decide) ?_
    exact k_Div_byPositive_56 (PL := PL) hC hA hK   (1 : Int32) r1 v9 v8 H locs ls hP hD hS   (lv_sub hl [2] rfl) h
set_option maxRecDepth 100000 in
set_option maxHeartbeats 4000000 in
theorem k_Div_byPositive_14 {p : Program} {l : Launch} {e : Env} {s : State} {m : MethodId} {args : Array Value} {below : List Frame} {meth : Method} {c : Code} {D : va_G} {a : Nat → Nat} {q : Nat → ClassId} {PL : List Nat} {A : Nat → Prop} (hC : CX p s m args meth c prog_3_method_3_code 13 "OutwardTape$Division" (some (.object "OutwardTape$Cell"))) (hA : ∀ x, s.heap.size ≤ x → A x) (hK : va_K D CLS (tE q) s)  {r0 : Int64 × Int64 × Int32} : ∀ (s0 : Int64) (s1 : Int64) (v2 : Int64) (v4 : Int64) (v6 : Int64) (v8 : Int32)  (H : Heap) (locs : List Loc) (ls : Array Slot), va_P D CLS (wE a q ) H → va_D A (wE a q ) → va_S A s.heap H locs → lv_has ls 13 [(2, .long v2), (4, .long v4), (6, .long v6), (8, .int v8)] → f_Div_byPositive_14  s0 s1 v2 v4 v6 v8 = some r0 → W p l e rm_Div_byPositive s m args below meth c H locs 0 0 (MQ below (va_Qr (fun _ : Unit => True) (fun _ ra t => (va_P D CLS (wE a q ) t.heap) ∧ isC D t.heap ra r0.1 r0.2.1 r0.2.2 ∧ (s.heap.size ≤ ra ∨ ra ∈ PL)) A) args s 2 6 A) (F0 m 14 ls [.long s0, .long s1]) := by
  obtain ⟨hx, hb, hml, hown, hts, hr, hlocks⟩ := id hC
  intro s0 s1 v2 v4 v6 v8 H locs ls hP hD hS hl h
  rw [f_Div_byPositive_14] at h
  have hSz : s.heap.size ≤ H.size := hS.1
  refine lv_iconst (v := -1) hx hb (dt_at dt_Div_byPositive 8 rfl) (by decide) ?_
  obtain ⟨r1, h_r1, h⟩ := ob_of h
  refine vp_callSl (W.runS (As := [.long s1, .long s0, .int (-1 : Int32)]) (rest := []) ⟨hx, hb, hml, hown, hts⟩ (c_Exact_quotient l s1 s0 (-1 : Int32) r1 h_r1) (va_cwS 3 hts (gd_S (m_3 167 rfl rfl) (m_3 168 rfl rfl) (m_1 16 rfl rfl) (m_3 169 rfl rfl)) rfl rfl rfl (by decide +kernel) ⟨Nat.le_of_ble_eq_true rfl, Nat.le_of_ble_eq_true rfl⟩) ⟨fun _ _ _ _ q => q, fun U hU hW => ⟨rfl, trivial⟩⟩ rfl rfl hl.1 rfl (lv_room (Nat.le_of_ble_eq_true rfl)) (dt_at dt_Div_byPositive 9 rfl) ⟨Nat.le_of_ble_eq_true rfl, Nat.le_of_ble_eq_true rfl⟩) (fun u_r1 q_r1 => ?_)
  obtain rfl : r1 = u_r1 := q_r1.symm
  refine lv_lstore (lv' := [(9, .long r1), (2, .long v2), (4, .long v4), (6, .long v6), (8, .int v8)]) hx hb (dt_at dt_Div_byPositive 10 rfl) hl (by decide) rfl (fun ls hl => ?_)
  refine lv_lload_n hx hb (dt_at dt_Div_byPositive 11 rfl) rfl (lv_at hl 1 rfl) ?_
  refine lv_lload_n hx hb (dt_at dt_Div_byPositive 12 rfl) rfl (lv_at hl 1 rfl) ?_
  refine lv_lconst (v := 0) hx hb (dt_at dt_Div_byPositive 13 rfl) (by decide) ?_
  refine lc_le (tgt := 32) hx hb (dt_at dt_Div_byPositive 14 rfl) (dt_at dt_Div_byPositive 15 rfl) (by decide) (fun c2 => ?_) (fun c2 => ?_)
  · have h := if_p h c2
    refine lv_lload hx hb (dt_at dt_Div_byPositive 18 rfl) (lv_at hl 3 rfl) ?_
    exact k_Div_byPositive_34 (PL := PL) hC hA hK   v6 v2 v4 v8 r1 H locs ls hP hD hS   (lv_sub hl [2, 4, 0] rfl) h
  · have h := if_n h c2
    refine lv_lload hx hb (dt_at dt_Div_byPositive 16 rfl) (lv_at hl 2 rfl) ?_
    refine lv_goto (tgt := 34) hx hb (dt_at dt_Div_byPositive 17 rfl) (by decide) ?_
    exact k_Div_byPositive_34 (PL := PL) hC hA hK   v4 v2 v4 v8 r1 H locs ls hP hD hS   (lv_sub hl [2, 4, 0] rfl) h
set_option maxRecDepth 100000 in
set_option maxHeartbeats 4000000 in
theorem k_Div_byPositive_0 {p : Program} {l : Launch} {e : Env} {s : State} {m : MethodId} {args : Array Value} {below : List Frame} {meth : Method} {c : Code} {D : va_G} {a : Nat → Nat} {q : Nat → ClassId} {PL : List Nat} {A : Nat → Prop} (hC : CX p s m args meth c prog_3_method_3_code 13 "OutwardTape$Division" (some (.object "OutwardTape$Cell"))) (hA : ∀ x, s.heap.size ≤ x → A x) (hK : va_K D CLS (tE q) s)  {r0 : Int64 × Int64 × Int32} : ∀ (v0 : Int64) (v2 : Int64) (v4 : Int64) (v6 : Int64) (v8 : Int32)  (H : Heap) (locs : List Loc) (ls : Array Slot), va_P D CLS (wE a q ) H → va_D A (wE a q ) → va_S A s.heap H locs → lv_has ls 13 [(0, .long v0), (2, .long v2), (4, .long v4), (6, .long v6), (8, .int v8)] → f_Div_byPositive_0  v0 v2 v4 v6 v8 = some r0 → W p l e rm_Div_byPositive s m args below meth c H locs 0 0 (MQ below (va_Qr (fun _ : Unit => True) (fun _ ra t => (va_P D CLS (wE a q ) t.heap) ∧ isC D t.heap ra r0.1 r0.2.1 r0.2.2 ∧ (s.heap.size ≤ ra ∨ ra ∈ PL)) A) args s 2 6 A) (F0 m 0 ls []) := by
  obtain ⟨hx, hb, hml, hown, hts, hr, hlocks⟩ := id hC
  intro v0 v2 v4 v6 v8 H locs ls hP hD hS hl h
  rw [f_Div_byPositive_0] at h
  have hSz : s.heap.size ≤ H.size := hS.1
  refine lv_lload_n hx hb (dt_at dt_Div_byPositive 0 rfl) rfl (lv_at hl 0 rfl) ?_
  refine lv_lload_n hx hb (dt_at dt_Div_byPositive 1 rfl) rfl (lv_at hl 0 rfl) ?_
  refine lv_lconst (v := 0) hx hb (dt_at dt_Div_byPositive 2 rfl) (by decide) ?_
  refine lc_ge (tgt := 12) hx hb (dt_at dt_Div_byPositive 3 rfl) (dt_at dt_Div_byPositive 4 rfl) (by decide) (fun c1 => ?_) (fun c1 => ?_)
  · have h := if_p h c1
    refine lv_lload hx hb (dt_at dt_Div_byPositive 7 rfl) (lv_at hl 3 rfl) ?_
    exact k_Div_byPositive_14 (PL := PL) hC hA hK   v6 v0 v2 v4 v6 v8 H locs ls hP hD hS   (lv_sub hl [1, 2, 3, 4] rfl) h
  · have h := if_n h c1
    refine lv_lload hx hb (dt_at dt_Div_byPositive 5 rfl) (lv_at hl 2 rfl) ?_
    refine lv_goto (tgt := 14) hx hb (dt_at dt_Div_byPositive 6 rfl) (by decide) ?_
    exact k_Div_byPositive_14 (PL := PL) hC hA hK   v4 v0 v2 v4 v6 v8 H locs ls hP hD hS   (lv_sub hl [1, 2, 3, 4] rfl) h
set_option maxRecDepth 100000 in
set_option maxHeartbeats 4000000 in
theorem c_Div_byPositive (l : Launch) (D : va_G) (a : Nat → Nat) (q : Nat → ClassId) (hd : va_D (fun _ => True) (dE a)) (sz : Nat) (a0 : Int64) (a2 : Int64) (a4 : Int64) (a6 : Int64) (a8 : Int32)    (r0 : Int64 × Int64 × Int32) (h : f_Div_byPositive a0 a2 a4 a6 a8 = some r0) : Met l (⟨"OutwardTape$Division", "byPositive", "(JJJJI)LOutwardTape$Cell;"⟩ : MethodName) (WSm (⟨"OutwardTape$Division", "byPositive", "(JJJJI)LOutwardTape$Cell;"⟩ : MethodName) prog_3_method_3_code 13 (some (.object "OutwardTape$Cell"))) rm_Div_byPositive (va_Pc [.long a0, .long a2, .long a4, .long a6, .int a8] (fun U => U.heap.size = sz ∧ va_P D CLS (wE a q ) U.heap ∧ va_K D CLS (tE q) U)) (va_Qr (fun _ : Unit => True) (fun _ ra t => (va_P D CLS (wE a q ) t.heap) ∧ isC D t.heap ra r0.1 r0.2.1 r0.2.2 ∧ (sz ≤ ra ∨ ra ∈ ([] : List Nat))) (va_A (dE a) sz)) 2 6 (va_A (dE a) sz) := by
  refine Met.ofW (cc := prog_3_method_3_code) (maxL := 13) (ret := (some (.object "OutwardTape$Cell"))) (by decide) rfl ?_
  intro p e s m args below meth c s₁ B hml hv
  obtain ⟨rfl, hsz, hP, hK⟩ := hv
  subst hsz
  have hC := CX.of B hml rfl
  have hl := lv_entry [.long a0, .long a2, .long a4, .long a6, .int a8] (n := 13) (Nat.le_of_ble_eq_true rfl)
  rw [lg_entry_eq]
  generalize (lg_sl [.long a0, .long a2, .long a4, .long a6, .int a8] ++ List.replicate (13 - (lg_sl [.long a0, .long a2, .long a4, .long a6, .int a8]).length) Slot.unset).toArray = ls at hl ⊢
  have hl : lv_has ls 13 [(0, .long a0), (2, .long a2), (4, .long a4), (6, .long a6), (8, .int a8)] := hl
  exact k_Div_byPositive_0 (PL := []) hC (fun x h => Or.inr h) hK a0 a2 a4 a6 a8    s.heap [] ls hP (dD hd.self rfl) va_S.rf    (lv_sub hl [0, 1, 2, 3, 4] rfl) h
abbrev rm_Div_value : Room := { frames := 5, cells := 2, slots := 6, locals := 139 }
set_option maxRecDepth 100000 in
set_option maxHeartbeats 4000000 in
theorem k_Div_value_65 {p : Program} {l : Launch} {e : Env} {s : State} {m : MethodId} {args : Array Value} {below : List Frame} {meth : Method} {c : Code} {D : va_G} {a : Nat → Nat} {q : Nat → ClassId} {PL : List Nat} {A : Nat → Prop} (hC : CX p s m args meth c prog_3_method_2_code 8 "OutwardTape$Division" (some (.object "OutwardTape$Cell"))) (hA : ∀ x, s.heap.size ≤ x → A x) (hK : va_K D CLS (tE q) s)  {r0 : Int64 × Int64 × Int32} : ∀ (v0 : Int64) (v2 : Int64) (v4_l : Int64) (v4_h : Int64) (v4_m : Int32) (v5 : Int32)  (y_v4 : Nat) (H : Heap) (locs : List Loc) (ls : Array Slot), va_P D CLS (wE a q ) H → va_D A (wE a q ) → va_S A s.heap H locs → isC D H y_v4 v4_l v4_h v4_m → (s.heap.size ≤ y_v4 ∨ y_v4 ∈ PL) → nin (dE a) y_v4 → lv_has ls 8 [(0, .long v0), (2, .long v2), (4, .ref y_v4), (5, .int v5)] → f_Div_value_65  v0 v2 v4_l v4_h v4_m v5 = some r0 → W p l e rm_Div_value s m args below meth c H locs 0 0 (MQ below (va_Qr (fun _ : Unit => True) (fun _ ra t => (va_P D CLS (wE a q ) t.heap) ∧ isC D t.heap ra r0.1 r0.2.1 r0.2.2 ∧ (s.heap.size ≤ ra ∨ ra ∈ PL)) A) args s 2 6 A) (F0 m 65 ls []) := by
  obtain ⟨hx, hb, hml, hown, hts, hr, hlocks⟩ := id hC
  intro v0 v2 v4_l v4_h v4_m v5 y_v4 H locs ls hP hD hS hc_v4 hf_v4 hn_v4 hl h
  rw [f_Div_value_65] at h
  have hSz : s.heap.size ≤ H.size := hS.1
  refine lv_aload hx hb (dt_at dt_Div_value 34 rfl) (lv_at hl 2 rfl) ?_
  refine va_get (D := D) (ci := 4) (v := .long v4_l) (C := "OutwardTape$Cell") (T := T_Cell) (N := 3) hx hb hts in_Cell hown hK hc_v4 0 rfl rfl 0 (by decide) (hts (Cond.fieldLink "OutwardTape$Division" 17 "OutwardTape$Cell" "low" "J") (m_2 118 rfl rfl)) (fun _ h9 => h9) rfl (dt_at dt_Div_value 35 rfl) ?_
  refine lv_lconst (v := 0) hx hb (dt_at dt_Div_value 36 rfl) (by decide) ?_
  refine lc_ge (tgt := 97) hx hb (dt_at dt_Div_value 37 rfl) (dt_at dt_Div_value 38 rfl) (by decide) (fun c1 => ?_) (fun c1 => ?_)
  · have h := if_p h c1
    refine lv_lload_n hx hb (dt_at dt_Div_value 52 rfl) rfl (lv_at hl 0 rfl) ?_
    refine lv_lload_n hx hb (dt_at dt_Div_value 53 rfl) rfl (lv_at hl 1 rfl) ?_
    refine lv_aload hx hb (dt_at dt_Div_value 54 rfl) (lv_at hl 2 rfl) ?_
    refine va_get (D := D) (ci := 4) (v := .long v4_l) (C := "OutwardTape$Cell") (T := T_Cell) (N := 3) hx hb hts in_Cell hown hK hc_v4 0 rfl rfl 0 (by decide) (hts (Cond.fieldLink "OutwardTape$Division" 17 "OutwardTape$Cell" "low" "J") (m_2 118 rfl rfl)) (fun _ h9 => h9) rfl (dt_at dt_Div_value 55 rfl) ?_
    refine lv_aload hx hb (dt_at dt_Div_value 56 rfl) (lv_at hl 2 rfl) ?_
    refine va_get (D := D) (ci := 4) (v := .long v4_h) (C := "OutwardTape$Cell") (T := T_Cell) (N := 3) hx hb hts in_Cell hown hK hc_v4 0 rfl rfl 1 (by decide) (hts (Cond.fieldLink "OutwardTape$Division" 21 "OutwardTape$Cell" "high" "J") (m_2 125 rfl rfl)) (fun _ h9 => h9) rfl (dt_at dt_Div_value 57 rfl) ?_
    refine lv_iload hx hb (dt_at dt_Div_value 58 rfl) (lv_at hl 3 rfl) ?_
    obtain ⟨r2, h_r2, h⟩ := ob_of h
    have hPc : va_P D CLS (wE a q) H := fun k q h => by simp [wE] at h
    have hd : va_D (fun _ => True) (dE a) := dE_D a
    have hKc : va_K D CLS (tE q) s := hK.sub (tys' := []) [] rfl
    have hF : ∀ x, va_A (dE a) H.size x → A x := fun x h9 => h9.elim (fun ⟨k, e, h⟩ => by simp [dE] at h) (fun g => hA _ (Nat.le_trans hS.1 g))
    refine va_callr (va_runS (As := [.long v0, .long v2, .long v4_l, .long v4_h, .int v5]) (rest := []) ⟨hx, hb, hml, hown, hts⟩ (c_Div_byPositive l D a q  hd H.size v0 v2 v4_l v4_h v5    r2 h_r2) (va_cwS 5 hts (gd_S (m_3 164 rfl rfl) (m_3 165 rfl rfl) (m_1 20 rfl rfl) (m_3 166 rfl rfl)) rfl rfl rfl (by decide +kernel) ⟨Nat.le_of_ble_eq_true rfl, Nat.le_of_ble_eq_true rfl⟩) ⟨fun a U g mk q => ⟨q.1, q.2.1, q.2.2.1, va_K.moved (u := U) (U := U.calling g mk a) (Vm.Alike.refl U.vm) q.2.2.2⟩, fun U hU hW => ⟨rfl, by rw [hU], by rw [hU]; exact hPc, va_K.moved hW.alike hKc⟩⟩ rfl rfl hl.1 rfl (lv_room (Nat.le_of_ble_eq_true rfl)) (dt_at dt_Div_value 59 rfl) ⟨Nat.le_of_ble_eq_true rfl, Nat.le_of_ble_eq_true rfl⟩) hS (fun x _ h9 => hF x h9) hF (fun uu y_r2 t H1 locs ht hvm hw hB hz1 hk1 hS => ?_)
    obtain ⟨hB, hc_r2, hq_r2⟩ := hB
    rw [ht] at hc_r2
    have hn_r2 : nin (dE a) y_r2 := nin_cases hq_r2 (fun g9 => nin_big hP g9 rfl) (fun g9 => by simp at g9)
    have hf_r2 : s.heap.size ≤ y_r2 ∨ y_r2 ∈ PL := nin_cases hq_r2 (fun g9 => Or.inl (Nat.le_trans hSz g9)) (fun g9 => by simp at g9)
    clear hq_r2
    have hc_v4 := isC.keptA hc_v4 hk1 (nin_E a y_v4)
    have hP := va_P.kept hP (fun k q hq => hk1 _ (hP k q hq).lt (not_AE (hP k q hq).lt))
    refine W.widen (k := 2) (n := 6) (Nat.le_of_ble_eq_true rfl) (Nat.le_of_ble_eq_true rfl) ?_
    have hSz : s.heap.size ≤ H1.size := hS.1
    clear hk1 hz1 hPc hF hB ht
    generalize H1 = H at hP hS hSz hc_v4 hc_r2 ⊢
    obtain rfl := os_of h
    exact W.aret hx hb hr (Or.inl ⟨_, rfl⟩) (Or.inr ⟨_, rfl⟩) (fun t ht hW => ⟨⟨(), y_r2, rfl, trivial, (hPt hP ht), hPt hc_r2 ht, hf_r2⟩, hS.F ht⟩) hS.2.2 (dt_at dt_Div_value 60 rfl)
  · have h := if_n h c1
    refine lv_lload_n hx hb (dt_at dt_Div_value 39 rfl) rfl (lv_at hl 1 rfl) ?_
    refine lv_lneg hx hb (dt_at dt_Div_value 40 rfl) ?_
    refine lv_lload_n hx hb (dt_at dt_Div_value 41 rfl) rfl (lv_at hl 0 rfl) ?_
    refine lv_lneg hx hb (dt_at dt_Div_value 42 rfl) ?_
    refine lv_aload hx hb (dt_at dt_Div_value 43 rfl) (lv_at hl 2 rfl) ?_
    refine va_get (D := D) (ci := 4) (v := .long v4_h) (C := "OutwardTape$Cell") (T := T_Cell) (N := 3) hx hb hts in_Cell hown hK hc_v4 0 rfl rfl 1 (by decide) (hts (Cond.fieldLink "OutwardTape$Division" 21 "OutwardTape$Cell" "high" "J") (m_2 125 rfl rfl)) (fun _ h9 => h9) rfl (dt_at dt_Div_value 44 rfl) ?_
    refine lv_lneg hx hb (dt_at dt_Div_value 45 rfl) ?_
    refine lv_aload hx hb (dt_at dt_Div_value 46 rfl) (lv_at hl 2 rfl) ?_
    refine va_get (D := D) (ci := 4) (v := .long v4_l) (C := "OutwardTape$Cell") (T := T_Cell) (N := 3) hx hb hts in_Cell hown hK hc_v4 0 rfl rfl 0 (by decide) (hts (Cond.fieldLink "OutwardTape$Division" 17 "OutwardTape$Cell" "low" "J") (m_2 118 rfl rfl)) (fun _ h9 => h9) rfl (dt_at dt_Div_value 47 rfl) ?_
    refine lv_lneg hx hb (dt_at dt_Div_value 48 rfl) ?_
    refine lv_iload hx hb (dt_at dt_Div_value 49 rfl) (lv_at hl 3 rfl) ?_
    obtain ⟨r3, h_r3, h⟩ := ob_of h
    have hPc : va_P D CLS (wE a q) H := fun k q h => by simp [wE] at h
    have hd : va_D (fun _ => True) (dE a) := dE_D a
    have hKc : va_K D CLS (tE q) s := hK.sub (tys' := []) [] rfl
    have hF : ∀ x, va_A (dE a) H.size x → A x := fun x h9 => h9.elim (fun ⟨k, e, h⟩ => by simp [dE] at h) (fun g => hA _ (Nat.le_trans hS.1 g))
    refine va_callr (va_runS (As := [.long (-v2), .long (-v0), .long (-v4_h), .long (-v4_l), .int v5]) (rest := []) ⟨hx, hb, hml, hown, hts⟩ (c_Div_byPositive l D a q  hd H.size (-v2) (-v0) (-v4_h) (-v4_l) v5    r3 h_r3) (va_cwS 5 hts (gd_S (m_3 164 rfl rfl) (m_3 165 rfl rfl) (m_1 20 rfl rfl) (m_3 166 rfl rfl)) rfl rfl rfl (by decide +kernel) ⟨Nat.le_of_ble_eq_true rfl, Nat.le_of_ble_eq_true rfl⟩) ⟨fun a U g mk q => ⟨q.1, q.2.1, q.2.2.1, va_K.moved (u := U) (U := U.calling g mk a) (Vm.Alike.refl U.vm) q.2.2.2⟩, fun U hU hW => ⟨rfl, by rw [hU], by rw [hU]; exact hPc, va_K.moved hW.alike hKc⟩⟩ rfl rfl hl.1 rfl (lv_room (Nat.le_of_ble_eq_true rfl)) (dt_at dt_Div_value 50 rfl) ⟨Nat.le_of_ble_eq_true rfl, Nat.le_of_ble_eq_true rfl⟩) hS (fun x _ h9 => hF x h9) hF (fun uu y_r3 t H1 locs ht hvm hw hB hz1 hk1 hS => ?_)
    obtain ⟨hB, hc_r3, hq_r3⟩ := hB
    rw [ht] at hc_r3
    have hn_r3 : nin (dE a) y_r3 := nin_cases hq_r3 (fun g9 => nin_big hP g9 rfl) (fun g9 => by simp at g9)
    have hf_r3 : s.heap.size ≤ y_r3 ∨ y_r3 ∈ PL := nin_cases hq_r3 (fun g9 => Or.inl (Nat.le_trans hSz g9)) (fun g9 => by simp at g9)
    clear hq_r3
    have hc_v4 := isC.keptA hc_v4 hk1 (nin_E a y_v4)
    have hP := va_P.kept hP (fun k q hq => hk1 _ (hP k q hq).lt (not_AE (hP k q hq).lt))
    refine W.widen (k := 2) (n := 6) (Nat.le_of_ble_eq_true rfl) (Nat.le_of_ble_eq_true rfl) ?_
    have hSz : s.heap.size ≤ H1.size := hS.1
    clear hk1 hz1 hPc hF hB ht
    generalize H1 = H at hP hS hSz hc_v4 hc_r3 ⊢
    obtain rfl := os_of h
    exact W.aret hx hb hr (Or.inl ⟨_, rfl⟩) (Or.inr ⟨_, rfl⟩) (fun t ht hW => ⟨⟨(), y_r3, rfl, trivial, (hPt hP ht), hPt hc_r3 ht, hf_r3⟩, hS.F ht⟩) hS.2.2 (dt_at dt_Div_value 51 rfl)
set_option maxRecDepth 100000 in
set_option maxHeartbeats 4000000 in
theorem k_Div_value_51 {p : Program} {l : Launch} {e : Env} {s : State} {m : MethodId} {args : Array Value} {below : List Frame} {meth : Method} {c : Code} {D : va_G} {a : Nat → Nat} {q : Nat → ClassId} {PL : List Nat} {A : Nat → Prop} (hC : CX p s m args meth c prog_3_method_2_code 8 "OutwardTape$Division" (some (.object "OutwardTape$Cell"))) (hA : ∀ x, s.heap.size ≤ x → A x) (hK : va_K D CLS (tE q) s)  {r0 : Int64 × Int64 × Int32} : ∀ (s0 : Int64) (v5 : Int32)  (H : Heap) (locs : List Loc) (ls : Array Slot), va_P D CLS (wE a q ) H → va_D A (wE a q ) → va_S A s.heap H locs → lv_has ls 8 [(5, .int v5)] → f_Div_value_51  s0 v5 = some r0 → W p l e rm_Div_value s m args below meth c H locs 0 0 (MQ below (va_Qr (fun _ : Unit => True) (fun _ ra t => (va_P D CLS (wE a q ) t.heap) ∧ isC D t.heap ra r0.1 r0.2.1 r0.2.2 ∧ (s.heap.size ≤ ra ∨ ra ∈ PL)) A) args s 2 6 A) (F0 m 51 ls [.long s0]) := by
  obtain ⟨hx, hb, hml, hown, hts, hr, hlocks⟩ := id hC
  intro s0 v5 H locs ls hP hD hS hl h
  rw [f_Div_value_51] at h
  have hSz : s.heap.size ≤ H.size := hS.1
  refine lv_lstore (lv' := [(6, .long s0), (5, .int v5)]) hx hb (dt_at dt_Div_value 26 rfl) hl (by decide) rfl (fun ls hl => ?_)
  refine lv_lload hx hb (dt_at dt_Div_value 27 rfl) (lv_at hl 0 rfl) ?_
  refine lv_lneg hx hb (dt_at dt_Div_value 28 rfl) ?_
  refine lv_lload hx hb (dt_at dt_Div_value 29 rfl) (lv_at hl 0 rfl) ?_
  refine lv_iconst (v := 1) hx hb (dt_at dt_Div_value 30 rfl) (by decide) ?_
  refine lv_iload hx hb (dt_at dt_Div_value 31 rfl) (lv_at hl 1 rfl) ?_
  obtain ⟨r1, h_r1, h⟩ := ob_of h
  have hPc : va_P D CLS (wE a q) H := fun k q h => by simp [wE] at h
  have hd : va_D (fun _ => True) (dE a) := dE_D a
  have hKc : va_K D CLS (tE q) s := hK.sub (tys' := []) [] rfl
  have hF : ∀ x, va_A (dE a) H.size x → A x := fun x h9 => h9.elim (fun ⟨k, e, h⟩ => by simp [dE] at h) (fun g => hA _ (Nat.le_trans hS.1 g))
  refine va_callr (va_runS (As := [.long (-s0), .long s0, .int (1 : Int32), .int v5]) (rest := []) ⟨hx, hb, hml, hown, hts⟩ (c_Cell_value l D a q  hd H.size (-s0) s0 (1 : Int32) v5    r1 h_r1) (va_cwS 4 hts (gd_S (m_3 163 rfl rfl) (m_2 219 rfl rfl) (m_1 10 rfl rfl) (m_2 220 rfl rfl)) rfl rfl rfl (by decide +kernel) ⟨Nat.le_of_ble_eq_true rfl, Nat.le_of_ble_eq_true rfl⟩) ⟨fun a U g mk q => ⟨q.1, q.2.1, q.2.2.1, va_K.moved (u := U) (U := U.calling g mk a) (Vm.Alike.refl U.vm) q.2.2.2⟩, fun U hU hW => ⟨rfl, by rw [hU], by rw [hU]; exact hPc, va_K.moved hW.alike hKc⟩⟩ rfl rfl hl.1 rfl (lv_room (Nat.le_of_ble_eq_true rfl)) (dt_at dt_Div_value 32 rfl) ⟨Nat.le_of_ble_eq_true rfl, Nat.le_of_ble_eq_true rfl⟩) hS (fun x _ h9 => hF x h9) hF (fun uu y_r1 t H1 locs ht hvm hw hB hz1 hk1 hS => ?_)
  obtain ⟨hB, hc_r1, hq_r1⟩ := hB
  rw [ht] at hc_r1
  have hn_r1 : nin (dE a) y_r1 := nin_cases hq_r1 (fun g9 => nin_big hP g9 rfl) (fun g9 => by simp at g9)
  have hf_r1 : s.heap.size ≤ y_r1 ∨ y_r1 ∈ PL := nin_cases hq_r1 (fun g9 => Or.inl (Nat.le_trans hSz g9)) (fun g9 => by simp at g9)
  clear hq_r1
  have hP := va_P.kept hP (fun k q hq => hk1 _ (hP k q hq).lt (not_AE (hP k q hq).lt))
  refine W.widen (k := 2) (n := 6) (Nat.le_of_ble_eq_true rfl) (Nat.le_of_ble_eq_true rfl) ?_
  have hSz : s.heap.size ≤ H1.size := hS.1
  clear hk1 hz1 hPc hF hB ht
  generalize H1 = H at hP hS hSz hc_r1 ⊢
  obtain rfl := os_of h
  exact W.aret hx hb hr (Or.inl ⟨_, rfl⟩) (Or.inr ⟨_, rfl⟩) (fun t ht hW => ⟨⟨(), y_r1, rfl, trivial, (hPt hP ht), hPt hc_r1 ht, hf_r1⟩, hS.F ht⟩) hS.2.2 (dt_at dt_Div_value 33 rfl)
set_option maxRecDepth 100000 in
set_option maxHeartbeats 4000000 in
theorem k_Div_value_48 {p : Program} {l : Launch} {e : Env} {s : State} {m : MethodId} {args : Array Value} {below : List Frame} {meth : Method} {c : Code} {D : va_G} {a : Nat → Nat} {q : Nat → ClassId} {PL : List Nat} {A : Nat → Prop} (hC : CX p s m args meth c prog_3_method_2_code 8 "OutwardTape$Division" (some (.object "OutwardTape$Cell"))) (hA : ∀ x, s.heap.size ≤ x → A x) (hK : va_K D CLS (tE q) s)  {r0 : Int64 × Int64 × Int32} : ∀ (v5 : Int32)  (H : Heap) (locs : List Loc) (ls : Array Slot), va_P D CLS (wE a q ) H → va_D A (wE a q ) → va_S A s.heap H locs → lv_has ls 8 [(5, .int v5)] → f_Div_value_48  v5 = some r0 → W p l e rm_Div_value s m args below meth c H locs 0 0 (MQ below (va_Qr (fun _ : Unit => True) (fun _ ra t => (va_P D CLS (wE a q ) t.heap) ∧ isC D t.heap ra r0.1 r0.2.1 r0.2.2 ∧ (s.heap.size ≤ ra ∨ ra ∈ PL)) A) args s 2 6 A) (F0 m 48 ls []) := by
  obtain ⟨hx, hb, hml, hown, hts, hr, hlocks⟩ := id hC
  intro v5 H locs ls hP hD hS hl h
  rw [f_Div_value_48] at h
  have hSz : s.heap.size ≤ H.size := hS.1
  refine lv_ldc2 (v := 9218868437227405312) hx hb hown (hts (Cond.constantLong "OutwardTape$Division" 26 (9218868437227405312)) (m_3 162 rfl rfl)) (dt_at dt_Div_value 25 rfl) ?_
  exact k_Div_value_51 (PL := PL) hC hA hK   (9218868437227405312 : Int64) v5 H locs ls hP hD hS   (lv_sub hl [0] rfl) h
set_option maxRecDepth 100000 in
set_option maxHeartbeats 4000000 in
theorem k_Div_value_0 {p : Program} {l : Launch} {e : Env} {s : State} {m : MethodId} {args : Array Value} {below : List Frame} {meth : Method} {c : Code} {D : va_G} {a : Nat → Nat} {q : Nat → ClassId} {PL : List Nat} {A : Nat → Prop} (hC : CX p s m args meth c prog_3_method_2_code 8 "OutwardTape$Division" (some (.object "OutwardTape$Cell"))) (hA : ∀ x, s.heap.size ≤ x → A x) (hK : va_K D CLS (tE q) s)  {r0 : Int64 × Int64 × Int32} : ∀ (v0 : Int64) (v2 : Int64) (v4_l : Int64) (v4_h : Int64) (v4_m : Int32) (v5 : Int32)  (y_v4 : Nat) (H : Heap) (locs : List Loc) (ls : Array Slot), va_P D CLS (wE a q ) H → va_D A (wE a q ) → va_S A s.heap H locs → isC D H y_v4 v4_l v4_h v4_m → (s.heap.size ≤ y_v4 ∨ y_v4 ∈ PL) → nin (dE a) y_v4 → lv_has ls 8 [(0, .long v0), (2, .long v2), (4, .ref y_v4), (5, .int v5)] → f_Div_value_0  v0 v2 v4_l v4_h v4_m v5 = some r0 → W p l e rm_Div_value s m args below meth c H locs 0 0 (MQ below (va_Qr (fun _ : Unit => True) (fun _ ra t => (va_P D CLS (wE a q ) t.heap) ∧ isC D t.heap ra r0.1 r0.2.1 r0.2.2 ∧ (s.heap.size ≤ ra ∨ ra ∈ PL)) A) args s 2 6 A) (F0 m 0 ls []) := by
  obtain ⟨hx, hb, hml, hown, hts, hr, hlocks⟩ := id hC
  intro v0 v2 v4_l v4_h v4_m v5 y_v4 H locs ls hP hD hS hc_v4 hf_v4 hn_v4 hl h
  rw [f_Div_value_0] at h
  have hSz : s.heap.size ≤ H.size := hS.1
  refine lv_aload hx hb (dt_at dt_Div_value 0 rfl) (lv_at hl 2 rfl) ?_
  obtain ⟨r1, h_r1, h⟩ := ob_of h
  have hPc : va_P D CLS (wE a q) H := fun k q h => by simp [wE] at h
  have hd : va_D (fun _ => True) (dE a) := dE_D a
  have hKc : va_K D CLS (tE q) s := hK.sub (tys' := []) [] rfl
  have hF : ∀ x, va_A (dE a) H.size x → A x := fun x h9 => h9.elim (fun ⟨k, e, h⟩ => by simp [dE] at h) (fun g => hA _ (Nat.le_trans hS.1 g))
  refine va_calli (va_runV (As := []) (rest := []) ⟨hx, hb, hml, hown, hts⟩ (c_Cell_isZero l D a q  hd H.size v4_l v4_h v4_m  y_v4 (nin_E a y_v4) r1 h_r1) (cwV 0 hts (gd_V (m_3 157 rfl rfl) (m_3 158 rfl rfl) (m_3 159 rfl rfl) (m_1 10 rfl rfl) (m_3 160 rfl rfl)) rfl rfl rfl (by decide +kernel) ⟨Nat.le_of_ble_eq_true rfl, Nat.le_of_ble_eq_true rfl⟩) ⟨fun a U g mk q => ⟨q.1, q.2.1, q.2.2.1, va_K.moved (u := U) (U := U.calling g mk a) (Vm.Alike.refl U.vm) q.2.2.2.1, q.2.2.2.2⟩, va_recv hK hc_v4 (ci := 4) (q0 := 0) rfl rfl, fun U hU hW => ⟨rfl, by rw [hU], by rw [hU]; exact hPc, va_K.moved hW.alike hKc, by rw [hU]; exact hc_v4⟩⟩ rfl rfl hl.1 rfl (lv_room (Nat.le_of_ble_eq_true rfl)) (dt_at dt_Div_value 1 rfl) ⟨Nat.le_of_ble_eq_true rfl, Nat.le_of_ble_eq_true rfl⟩) hS (fun x _ h9 => hF x h9) hF (fun u_r1 uu t H1 locs ht hvm hw hB hz1 hk1 hS => ?_)
  obtain rfl : r1 = u_r1 := hw.symm
  have hc_v4 := isC.keptA hc_v4 hk1 (nin_E a y_v4)
  have hP := va_P.kept hP (fun k q hq => hk1 _ (hP k q hq).lt (not_AE (hP k q hq).lt))
  have hSz : s.heap.size ≤ H1.size := hS.1
  clear hk1 hz1 hPc hF hB ht
  generalize H1 = H at hP hS hSz hc_v4 ⊢
  refine lv_if_eq (tgt := 12) hx hb (dt_at dt_Div_value 2 rfl) (by decide) (fun c2 => ?_) (fun c2 => ?_)
  · have h := if_p h c2
    refine lv_aload hx hb (dt_at dt_Div_value 5 rfl) (lv_at hl 2 rfl) ?_
    refine va_get (D := D) (ci := 4) (v := .long v4_l) (C := "OutwardTape$Cell") (T := T_Cell) (N := 3) hx hb hts in_Cell hown hK hc_v4 0 rfl rfl 0 (by decide) (hts (Cond.fieldLink "OutwardTape$Division" 17 "OutwardTape$Cell" "low" "J") (m_2 118 rfl rfl)) (fun _ h9 => h9) rfl (dt_at dt_Div_value 6 rfl) ?_
    refine lv_lconst (v := 0) hx hb (dt_at dt_Div_value 7 rfl) (by decide) ?_
    refine lc_ge (tgt := 65) hx hb (dt_at dt_Div_value 8 rfl) (dt_at dt_Div_value 9 rfl) (by decide) (fun c3 => ?_) (fun c3 => ?_)
    · have h := if_p h c3
      exact k_Div_value_65 (PL := PL) hC hA hK   v0 v2 v4_l v4_h v4_m v5 y_v4 H locs ls hP hD hS  hc_v4 hf_v4 hn_v4 (lv_sub hl [0, 1, 2, 3] rfl) h
    · have h := if_n h c3
      refine lv_aload hx hb (dt_at dt_Div_value 10 rfl) (lv_at hl 2 rfl) ?_
      refine va_get (D := D) (ci := 4) (v := .long v4_h) (C := "OutwardTape$Cell") (T := T_Cell) (N := 3) hx hb hts in_Cell hown hK hc_v4 0 rfl rfl 1 (by decide) (hts (Cond.fieldLink "OutwardTape$Division" 21 "OutwardTape$Cell" "high" "J") (m_2 125 rfl rfl)) (fun _ h9 => h9) rfl (dt_at dt_Div_value 11 rfl) ?_
      refine lv_lconst (v := 0) hx hb (dt_at dt_Div_value 12 rfl) (by decide) ?_
      refine lc_le (tgt := 65) hx hb (dt_at dt_Div_value 13 rfl) (dt_at dt_Div_value 14 rfl) (by decide) (fun c4 => ?_) (fun c4 => ?_)
      · have h := if_p h c4
        exact k_Div_value_65 (PL := PL) hC hA hK   v0 v2 v4_l v4_h v4_m v5 y_v4 H locs ls hP hD hS  hc_v4 hf_v4 hn_v4 (lv_sub hl [0, 1, 2, 3] rfl) h
      · have h := if_n h c4
        refine lv_lload_n hx hb (dt_at dt_Div_value 15 rfl) rfl (lv_at hl 0 rfl) ?_
        refine lv_lconst (v := 0) hx hb (dt_at dt_Div_value 16 rfl) (by decide) ?_
        refine lc_ne (tgt := 48) hx hb (dt_at dt_Div_value 17 rfl) (dt_at dt_Div_value 18 rfl) (by decide) (fun c5 => ?_) (fun c5 => ?_)
        · have h := if_n h c5
          exact k_Div_value_48 (PL := PL) hC hA hK   v5 H locs ls hP hD hS   (lv_sub hl [3] rfl) h
        · have h := if_p h c5
          refine lv_lload_n hx hb (dt_at dt_Div_value 19 rfl) rfl (lv_at hl 1 rfl) ?_
          refine lv_lconst (v := 0) hx hb (dt_at dt_Div_value 20 rfl) (by decide) ?_
          refine lc_ne (tgt := 48) hx hb (dt_at dt_Div_value 21 rfl) (dt_at dt_Div_value 22 rfl) (by decide) (fun c6 => ?_) (fun c6 => ?_)
          · have h := if_n h c6
            exact k_Div_value_48 (PL := PL) hC hA hK   v5 H locs ls hP hD hS   (lv_sub hl [3] rfl) h
          · have h := if_p h c6
            refine lv_lconst (v := 0) hx hb (dt_at dt_Div_value 23 rfl) (by decide) ?_
            refine lv_goto (tgt := 51) hx hb (dt_at dt_Div_value 24 rfl) (by decide) ?_
            exact k_Div_value_51 (PL := PL) hC hA hK   (0 : Int64) v5 H locs ls hP hD hS   (lv_sub hl [3] rfl) h
  · have h := if_n h c2
    obtain ⟨r7, h_r7, h⟩ := ob_of h
    have hPc : va_P D CLS (wE a q) H := fun k q h => by simp [wE] at h
    have hd : va_D (fun _ => True) (dE a) := dE_D a
    have hKc : va_K D CLS (tE q) s := hK.sub (tys' := []) [] rfl
    have hF : ∀ x, va_A (dE a) H.size x → A x := fun x h9 => h9.elim (fun ⟨k, e, h⟩ => by simp [dE] at h) (fun g => hA _ (Nat.le_trans hS.1 g))
    refine va_callr (va_runS (As := []) (rest := []) ⟨hx, hb, hml, hown, hts⟩ (c_Cell_empty l D a q  hd H.size     r7 h_r7) (va_cwS 0 hts (gd_S (m_3 161 rfl rfl) (m_2 152 rfl rfl) (m_1 10 rfl rfl) (m_2 153 rfl rfl)) rfl rfl rfl (by decide +kernel) ⟨Nat.le_of_ble_eq_true rfl, Nat.le_of_ble_eq_true rfl⟩) ⟨fun a U g mk q => ⟨q.1, q.2.1, q.2.2.1, va_K.moved (u := U) (U := U.calling g mk a) (Vm.Alike.refl U.vm) q.2.2.2⟩, fun U hU hW => ⟨rfl, by rw [hU], by rw [hU]; exact hPc, va_K.moved hW.alike hKc⟩⟩ rfl rfl hl.1 rfl (lv_room (Nat.le_of_ble_eq_true rfl)) (dt_at dt_Div_value 3 rfl) ⟨Nat.le_of_ble_eq_true rfl, Nat.le_of_ble_eq_true rfl⟩) hS (fun x _ h9 => hF x h9) hF (fun uu y_r7 t H1 locs ht hvm hw hB hz1 hk1 hS => ?_)
    obtain ⟨hB, hc_r7, hq_r7⟩ := hB
    rw [ht] at hc_r7
    have hn_r7 : nin (dE a) y_r7 := nin_cases hq_r7 (fun g9 => nin_big hP g9 rfl) (fun g9 => by simp at g9)
    have hf_r7 : s.heap.size ≤ y_r7 ∨ y_r7 ∈ PL := nin_cases hq_r7 (fun g9 => Or.inl (Nat.le_trans hSz g9)) (fun g9 => by simp at g9)
    clear hq_r7
    have hc_v4 := isC.keptA hc_v4 hk1 (nin_E a y_v4)
    have hP := va_P.kept hP (fun k q hq => hk1 _ (hP k q hq).lt (not_AE (hP k q hq).lt))
    refine W.widen (k := 1) (n := 3) (Nat.le_of_ble_eq_true rfl) (Nat.le_of_ble_eq_true rfl) ?_
    have hSz : s.heap.size ≤ H1.size := hS.1
    clear hk1 hz1 hPc hF hB ht
    generalize H1 = H at hP hS hSz hc_v4 hc_r7 ⊢
    obtain rfl := os_of h
    refine W.widen (k := 2) (n := 6) (Nat.le_of_ble_eq_true rfl) (Nat.le_of_ble_eq_true rfl) ?_
    exact W.aret hx hb hr (Or.inl ⟨_, rfl⟩) (Or.inr ⟨_, rfl⟩) (fun t ht hW => ⟨⟨(), y_r7, rfl, trivial, (hPt hP ht), hPt hc_r7 ht, hf_r7⟩, hS.F ht⟩) hS.2.2 (dt_at dt_Div_value 4 rfl)
set_option maxRecDepth 100000 in
set_option maxHeartbeats 4000000 in
theorem c_Div_value (l : Launch) (D : va_G) (a : Nat → Nat) (q : Nat → ClassId) (hd : va_D (fun _ => True) (dE a)) (sz : Nat) (a0 : Int64) (a2 : Int64) (a4_l : Int64) (a4_h : Int64) (a4_m : Int32) (a5 : Int32)  (y_a4 : Nat) (hn_a4 : nin (dE a) y_a4) (r0 : Int64 × Int64 × Int32) (h : f_Div_value a0 a2 a4_l a4_h a4_m a5 = some r0) : Met l (⟨"OutwardTape$Division", "value", "(JJLOutwardTape$Cell;I)LOutwardTape$Cell;"⟩ : MethodName) (WSm (⟨"OutwardTape$Division", "value", "(JJLOutwardTape$Cell;I)LOutwardTape$Cell;"⟩ : MethodName) prog_3_method_2_code 8 (some (.object "OutwardTape$Cell"))) rm_Div_value (va_Pc [.long a0, .long a2, .ref y_a4, .int a5] (fun U => U.heap.size = sz ∧ va_P D CLS (wE a q ) U.heap ∧ va_K D CLS (tE q) U ∧ isC D U.heap y_a4 a4_l a4_h a4_m)) (va_Qr (fun _ : Unit => True) (fun _ ra t => (va_P D CLS (wE a q ) t.heap) ∧ isC D t.heap ra r0.1 r0.2.1 r0.2.2 ∧ (sz ≤ ra ∨ ra ∈ ([y_a4] : List Nat))) (va_A (dE a) sz)) 2 6 (va_A (dE a) sz) := by
  refine Met.ofW (cc := prog_3_method_2_code) (maxL := 8) (ret := (some (.object "OutwardTape$Cell"))) (by decide) rfl ?_
  intro p e s m args below meth c s₁ B hml hv
  obtain ⟨rfl, hsz, hP, hK, hc_a4⟩ := hv
  subst hsz
  have hC := CX.of B hml rfl
  have hl := lv_entry [.long a0, .long a2, .ref y_a4, .int a5] (n := 8) (Nat.le_of_ble_eq_true rfl)
  rw [lg_entry_eq]
  generalize (lg_sl [.long a0, .long a2, .ref y_a4, .int a5] ++ List.replicate (8 - (lg_sl [.long a0, .long a2, .ref y_a4, .int a5]).length) Slot.unset).toArray = ls at hl ⊢
  have hl : lv_has ls 8 [(0, .long a0), (2, .long a2), (4, .ref y_a4), (5, .int a5)] := hl
  exact k_Div_value_0 (PL := [y_a4]) hC (fun x h => Or.inr h) hK a0 a2 a4_l a4_h a4_m a5   y_a4 s.heap [] ls hP (dD hd.self rfl) va_S.rf  hc_a4 (Or.inr (by simp)) hn_a4  (lv_sub hl [0, 1, 2, 3] rfl) h
abbrev rm_One_root : Room := { frames := 4, cells := 2, slots := 6, locals := 107 }
set_option maxRecDepth 100000 in
set_option maxHeartbeats 4000000 in
theorem k_One_root_49 {p : Program} {l : Launch} {e : Env} {s : State} {m : MethodId} {args : Array Value} {below : List Frame} {meth : Method} {c : Code} {D : va_G} {a : Nat → Nat} {q : Nat → ClassId} {PL : List Nat} {A : Nat → Prop} (hC : CX p s m args meth c prog_7_method_4_code 3 "OutwardTape$OneOperand" (some (.object "OutwardTape$Cell"))) (hA : ∀ x, s.heap.size ≤ x → A x) (hK : va_K D CLS (tE q) s)  {r0 : Int64 × Int64 × Int32} : ∀ (s0 : Int32) (s1 : Int64) (s2 : Int64) (v0_l : Int64) (v0_h : Int64) (v0_m : Int32)  (y_v0 : Nat) (H : Heap) (locs : List Loc) (ls : Array Slot), va_P D CLS (wE a q ) H → va_D A (wE a q ) → va_S A s.heap H locs → isC D H y_v0 v0_l v0_h v0_m → (s.heap.size ≤ y_v0 ∨ y_v0 ∈ PL) → nin (dE a) y_v0 → lv_has ls 3 [(0, .ref y_v0)] → f_One_root_49  s0 s1 s2 v0_l v0_h v0_m = some r0 → W p l e rm_One_root s m args below meth c H locs 0 0 (MQ below (va_Qr (fun _ : Unit => True) (fun _ ra t => (va_P D CLS (wE a q ) t.heap) ∧ isC D t.heap ra r0.1 r0.2.1 r0.2.2 ∧ (s.heap.size ≤ ra ∨ ra ∈ PL)) A) args s 2 6 A) (F0 m 49 ls [.int s0, .long s1, .long s2]) := by
  obtain ⟨hx, hb, hml, hown, hts, hr, hlocks⟩ := id hC
  intro s0 s1 s2 v0_l v0_h v0_m y_v0 H locs ls hP hD hS hc_v0 hf_v0 hn_v0 hl h
  rw [f_One_root_49] at h
  have hSz : s.heap.size ≤ H.size := hS.1
  refine lv_aload_n hx hb (dt_at dt_One_root 27 rfl) rfl (lv_at hl 0 rfl) ?_
  refine va_get (D := D) (ci := 4) (v := .int v0_m) (C := "OutwardTape$Cell") (T := T_Cell) (N := 3) hx hb hts in_Cell hown hK hc_v0 0 rfl rfl 2 (by decide) (hts (Cond.fieldLink "OutwardTape$OneOperand" 7 "OutwardTape$Cell" "mark" "I") (m_2 132 rfl rfl)) (fun _ h9 => h9) rfl (dt_at dt_One_root 28 rfl) ?_
  obtain ⟨r1, h_r1, h⟩ := ob_of h
  have hPc : va_P D CLS (wE a q) H := fun k q h => by simp [wE] at h
  have hd : va_D (fun _ => True) (dE a) := dE_D a
  have hKc : va_K D CLS (tE q) s := hK.sub (tys' := []) [] rfl
  have hF : ∀ x, va_A (dE a) H.size x → A x := fun x h9 => h9.elim (fun ⟨k, e, h⟩ => by simp [dE] at h) (fun g => hA _ (Nat.le_trans hS.1 g))
  refine va_callr (va_runS (As := [.long s2, .long s1, .int s0, .int v0_m]) (rest := []) ⟨hx, hb, hml, hown, hts⟩ (c_Cell_value l D a q  hd H.size s2 s1 s0 v0_m    r1 h_r1) (va_cwS 4 hts (gd_S (m_3 129 rfl rfl) (m_2 219 rfl rfl) (m_1 10 rfl rfl) (m_2 220 rfl rfl)) rfl rfl rfl (by decide +kernel) ⟨Nat.le_of_ble_eq_true rfl, Nat.le_of_ble_eq_true rfl⟩) ⟨fun a U g mk q => ⟨q.1, q.2.1, q.2.2.1, va_K.moved (u := U) (U := U.calling g mk a) (Vm.Alike.refl U.vm) q.2.2.2⟩, fun U hU hW => ⟨rfl, by rw [hU], by rw [hU]; exact hPc, va_K.moved hW.alike hKc⟩⟩ rfl rfl hl.1 rfl (lv_room (Nat.le_of_ble_eq_true rfl)) (dt_at dt_One_root 29 rfl) ⟨Nat.le_of_ble_eq_true rfl, Nat.le_of_ble_eq_true rfl⟩) hS (fun x _ h9 => hF x h9) hF (fun uu y_r1 t H1 locs ht hvm hw hB hz1 hk1 hS => ?_)
  obtain ⟨hB, hc_r1, hq_r1⟩ := hB
  rw [ht] at hc_r1
  have hn_r1 : nin (dE a) y_r1 := nin_cases hq_r1 (fun g9 => nin_big hP g9 rfl) (fun g9 => by simp at g9)
  have hf_r1 : s.heap.size ≤ y_r1 ∨ y_r1 ∈ PL := nin_cases hq_r1 (fun g9 => Or.inl (Nat.le_trans hSz g9)) (fun g9 => by simp at g9)
  clear hq_r1
  have hc_v0 := isC.keptA hc_v0 hk1 (nin_E a y_v0)
  have hP := va_P.kept hP (fun k q hq => hk1 _ (hP k q hq).lt (not_AE (hP k q hq).lt))
  refine W.widen (k := 2) (n := 6) (Nat.le_of_ble_eq_true rfl) (Nat.le_of_ble_eq_true rfl) ?_
  have hSz : s.heap.size ≤ H1.size := hS.1
  clear hk1 hz1 hPc hF hB ht
  generalize H1 = H at hP hS hSz hc_v0 hc_r1 ⊢
  obtain rfl := os_of h
  exact W.aret hx hb hr (Or.inl ⟨_, rfl⟩) (Or.inr ⟨_, rfl⟩) (fun t ht hW => ⟨⟨(), y_r1, rfl, trivial, (hPt hP ht), hPt hc_r1 ht, hf_r1⟩, hS.F ht⟩) hS.2.2 (dt_at dt_One_root 30 rfl)
set_option maxRecDepth 100000 in
set_option maxHeartbeats 4000000 in
theorem k_One_root_0 {p : Program} {l : Launch} {e : Env} {s : State} {m : MethodId} {args : Array Value} {below : List Frame} {meth : Method} {c : Code} {D : va_G} {a : Nat → Nat} {q : Nat → ClassId} {PL : List Nat} {A : Nat → Prop} (hC : CX p s m args meth c prog_7_method_4_code 3 "OutwardTape$OneOperand" (some (.object "OutwardTape$Cell"))) (hA : ∀ x, s.heap.size ≤ x → A x) (hK : va_K D CLS (tE q) s)  {r0 : Int64 × Int64 × Int32} : ∀ (v0_l : Int64) (v0_h : Int64) (v0_m : Int32)  (y_v0 : Nat) (H : Heap) (locs : List Loc) (ls : Array Slot), va_P D CLS (wE a q ) H → va_D A (wE a q ) → va_S A s.heap H locs → isC D H y_v0 v0_l v0_h v0_m → (s.heap.size ≤ y_v0 ∨ y_v0 ∈ PL) → nin (dE a) y_v0 → lv_has ls 3 [(0, .ref y_v0)] → f_One_root_0  v0_l v0_h v0_m = some r0 → W p l e rm_One_root s m args below meth c H locs 0 0 (MQ below (va_Qr (fun _ : Unit => True) (fun _ ra t => (va_P D CLS (wE a q ) t.heap) ∧ isC D t.heap ra r0.1 r0.2.1 r0.2.2 ∧ (s.heap.size ≤ ra ∨ ra ∈ PL)) A) args s 2 6 A) (F0 m 0 ls []) := by
  obtain ⟨hx, hb, hml, hown, hts, hr, hlocks⟩ := id hC
  intro v0_l v0_h v0_m y_v0 H locs ls hP hD hS hc_v0 hf_v0 hn_v0 hl h
  rw [f_One_root_0] at h
  have hSz : s.heap.size ≤ H.size := hS.1
  refine lv_aload_n hx hb (dt_at dt_One_root 0 rfl) rfl (lv_at hl 0 rfl) ?_
  refine va_get (D := D) (ci := 4) (v := .long v0_h) (C := "OutwardTape$Cell") (T := T_Cell) (N := 3) hx hb hts in_Cell hown hK hc_v0 0 rfl rfl 1 (by decide) (hts (Cond.fieldLink "OutwardTape$OneOperand" 24 "OutwardTape$Cell" "high" "J") (m_2 126 rfl rfl)) (fun _ h9 => h9) rfl (dt_at dt_One_root 1 rfl) ?_
  refine lv_lconst (v := 0) hx hb (dt_at dt_One_root 2 rfl) (by decide) ?_
  refine lc_ge (tgt := 13) hx hb (dt_at dt_One_root 3 rfl) (dt_at dt_One_root 4 rfl) (by decide) (fun c1 => ?_) (fun c1 => ?_)
  · have h := if_p h c1
    refine lv_aload_n hx hb (dt_at dt_One_root 7 rfl) rfl (lv_at hl 0 rfl) ?_
    refine va_get (D := D) (ci := 4) (v := .long v0_l) (C := "OutwardTape$Cell") (T := T_Cell) (N := 3) hx hb hts in_Cell hown hK hc_v0 0 rfl rfl 0 (by decide) (hts (Cond.fieldLink "OutwardTape$OneOperand" 28 "OutwardTape$Cell" "low" "J") (m_2 119 rfl rfl)) (fun _ h9 => h9) rfl (dt_at dt_One_root 8 rfl) ?_
    refine lv_lconst (v := 0) hx hb (dt_at dt_One_root 9 rfl) (by decide) ?_
    obtain ⟨t2, e_t2, h⟩ := ol_of h
    refine va_mmax_long hx hb (hml.trans hl.1.symm) hown (hts (Cond.methodLink "OutwardTape$OneOperand" 80 Lib.MathLoose.max_long.x) (m_3 148 rfl rfl)) (hts (Cond.static Lib.MathLoose.max_long.x) (m_1 218 rfl rfl)) (hts (Cond.initialized "java/lang/Math") (m_1 9 rfl rfl)) (hts (Cond.code Lib.MathLoose.max_long.x Lib.MathLoose.max_long.code 4 (some .long)) (m_1 219 rfl rfl)) (Nat.le_of_ble_eq_true rfl) (Nat.le_of_ble_eq_true rfl) (Nat.le_of_ble_eq_true rfl) (Nat.le_of_ble_eq_true rfl) (dt_at dt_One_root 10 rfl) ?_
    refine lv_topl (fun u_t2 q_t2 => ?_)
    obtain rfl : t2 = u_t2 := e_t2.trans q_t2.symm
    refine lv_iconst (v := -1) hx hb (dt_at dt_One_root 11 rfl) (by decide) ?_
    obtain ⟨r3, h_r3, h⟩ := ob_of h
    refine vp_callSl (W.runS (As := [.long t2, .int (-1 : Int32)]) (rest := []) ⟨hx, hb, hml, hown, hts⟩ (c_Exact_root l t2 (-1 : Int32) r3 h_r3) (va_cwS 2 hts (gd_S (m_3 149 rfl rfl) (m_3 150 rfl rfl) (m_1 16 rfl rfl) (m_3 151 rfl rfl)) rfl rfl rfl (by decide +kernel) ⟨Nat.le_of_ble_eq_true rfl, Nat.le_of_ble_eq_true rfl⟩) ⟨fun _ _ _ _ q => q, fun U hU hW => ⟨rfl, trivial⟩⟩ rfl rfl hl.1 rfl (lv_room (Nat.le_of_ble_eq_true rfl)) (dt_at dt_One_root 12 rfl) ⟨Nat.le_of_ble_eq_true rfl, Nat.le_of_ble_eq_true rfl⟩) (fun u_r3 q_r3 => ?_)
    obtain rfl : r3 = u_r3 := q_r3.symm
    refine lv_lstore_n (lv' := [(1, .long r3), (0, .ref y_v0)]) hx hb (dt_at dt_One_root 13 rfl) rfl hl (by decide) rfl (fun ls hl => ?_)
    refine lv_lload_n hx hb (dt_at dt_One_root 14 rfl) rfl (lv_at hl 0 rfl) ?_
    refine lv_aload_n hx hb (dt_at dt_One_root 15 rfl) rfl (lv_at hl 1 rfl) ?_
    refine va_get (D := D) (ci := 4) (v := .long v0_h) (C := "OutwardTape$Cell") (T := T_Cell) (N := 3) hx hb hts in_Cell hown hK hc_v0 0 rfl rfl 1 (by decide) (hts (Cond.fieldLink "OutwardTape$OneOperand" 24 "OutwardTape$Cell" "high" "J") (m_2 126 rfl rfl)) (fun _ h9 => h9) rfl (dt_at dt_One_root 16 rfl) ?_
    refine lv_iconst (v := 1) hx hb (dt_at dt_One_root 17 rfl) (by decide) ?_
    obtain ⟨r4, h_r4, h⟩ := ob_of h
    refine vp_callSl (W.runS (As := [.long v0_h, .int (1 : Int32)]) (rest := [.long r3]) ⟨hx, hb, hml, hown, hts⟩ (c_Exact_root l v0_h (1 : Int32) r4 h_r4) (va_cwS 2 hts (gd_S (m_3 149 rfl rfl) (m_3 150 rfl rfl) (m_1 16 rfl rfl) (m_3 151 rfl rfl)) rfl rfl rfl (by decide +kernel) ⟨Nat.le_of_ble_eq_true rfl, Nat.le_of_ble_eq_true rfl⟩) ⟨fun _ _ _ _ q => q, fun U hU hW => ⟨rfl, trivial⟩⟩ rfl rfl hl.1 rfl (lv_room (Nat.le_of_ble_eq_true rfl)) (dt_at dt_One_root 18 rfl) ⟨Nat.le_of_ble_eq_true rfl, Nat.le_of_ble_eq_true rfl⟩) (fun u_r4 q_r4 => ?_)
    obtain rfl : r4 = u_r4 := q_r4.symm
    refine lv_aload_n hx hb (dt_at dt_One_root 19 rfl) rfl (lv_at hl 1 rfl) ?_
    refine va_get (D := D) (ci := 4) (v := .long v0_l) (C := "OutwardTape$Cell") (T := T_Cell) (N := 3) hx hb hts in_Cell hown hK hc_v0 0 rfl rfl 0 (by decide) (hts (Cond.fieldLink "OutwardTape$OneOperand" 28 "OutwardTape$Cell" "low" "J") (m_2 119 rfl rfl)) (fun _ h9 => h9) rfl (dt_at dt_One_root 20 rfl) ?_
    refine lv_lconst (v := 0) hx hb (dt_at dt_One_root 21 rfl) (by decide) ?_
    refine lc_ge (tgt := 48) hx hb (dt_at dt_One_root 22 rfl) (dt_at dt_One_root 23 rfl) (by decide) (fun c5 => ?_) (fun c5 => ?_)
    · have h := if_p h c5
      refine lv_iconst (v := 4) hx hb (dt_at dt_One_root 26 rfl) (by decide) ?_
      exact k_One_root_49 (PL := PL) hC hA hK   (4 : Int32) r4 r3 v0_l v0_h v0_m y_v0 H locs ls hP hD hS  hc_v0 hf_v0 hn_v0 (lv_sub hl [1] rfl) h
    · have h := if_n h c5
      refine lv_iconst (v := 1) hx hb (dt_at dt_One_root 24 rfl) (by decide) ?_
      refine lv_goto (tgt := 49) hx hb (dt_at dt_One_root 25 rfl) (by decide) ?_
      exact k_One_root_49 (PL := PL) hC hA hK   (1 : Int32) r4 r3 v0_l v0_h v0_m y_v0 H locs ls hP hD hS  hc_v0 hf_v0 hn_v0 (lv_sub hl [1] rfl) h
  · have h := if_n h c1
    obtain ⟨r6, h_r6, h⟩ := ob_of h
    have hPc : va_P D CLS (wE a q) H := fun k q h => by simp [wE] at h
    have hd : va_D (fun _ => True) (dE a) := dE_D a
    have hKc : va_K D CLS (tE q) s := hK.sub (tys' := []) [] rfl
    have hF : ∀ x, va_A (dE a) H.size x → A x := fun x h9 => h9.elim (fun ⟨k, e, h⟩ => by simp [dE] at h) (fun g => hA _ (Nat.le_trans hS.1 g))
    refine va_callr (va_runS (As := []) (rest := []) ⟨hx, hb, hml, hown, hts⟩ (c_Cell_empty l D a q  hd H.size     r6 h_r6) (va_cwS 0 hts (gd_S (m_3 128 rfl rfl) (m_2 152 rfl rfl) (m_1 10 rfl rfl) (m_2 153 rfl rfl)) rfl rfl rfl (by decide +kernel) ⟨Nat.le_of_ble_eq_true rfl, Nat.le_of_ble_eq_true rfl⟩) ⟨fun a U g mk q => ⟨q.1, q.2.1, q.2.2.1, va_K.moved (u := U) (U := U.calling g mk a) (Vm.Alike.refl U.vm) q.2.2.2⟩, fun U hU hW => ⟨rfl, by rw [hU], by rw [hU]; exact hPc, va_K.moved hW.alike hKc⟩⟩ rfl rfl hl.1 rfl (lv_room (Nat.le_of_ble_eq_true rfl)) (dt_at dt_One_root 5 rfl) ⟨Nat.le_of_ble_eq_true rfl, Nat.le_of_ble_eq_true rfl⟩) hS (fun x _ h9 => hF x h9) hF (fun uu y_r6 t H1 locs ht hvm hw hB hz1 hk1 hS => ?_)
    obtain ⟨hB, hc_r6, hq_r6⟩ := hB
    rw [ht] at hc_r6
    have hn_r6 : nin (dE a) y_r6 := nin_cases hq_r6 (fun g9 => nin_big hP g9 rfl) (fun g9 => by simp at g9)
    have hf_r6 : s.heap.size ≤ y_r6 ∨ y_r6 ∈ PL := nin_cases hq_r6 (fun g9 => Or.inl (Nat.le_trans hSz g9)) (fun g9 => by simp at g9)
    clear hq_r6
    have hc_v0 := isC.keptA hc_v0 hk1 (nin_E a y_v0)
    have hP := va_P.kept hP (fun k q hq => hk1 _ (hP k q hq).lt (not_AE (hP k q hq).lt))
    refine W.widen (k := 1) (n := 3) (Nat.le_of_ble_eq_true rfl) (Nat.le_of_ble_eq_true rfl) ?_
    have hSz : s.heap.size ≤ H1.size := hS.1
    clear hk1 hz1 hPc hF hB ht
    generalize H1 = H at hP hS hSz hc_v0 hc_r6 ⊢
    obtain rfl := os_of h
    refine W.widen (k := 2) (n := 6) (Nat.le_of_ble_eq_true rfl) (Nat.le_of_ble_eq_true rfl) ?_
    exact W.aret hx hb hr (Or.inl ⟨_, rfl⟩) (Or.inr ⟨_, rfl⟩) (fun t ht hW => ⟨⟨(), y_r6, rfl, trivial, (hPt hP ht), hPt hc_r6 ht, hf_r6⟩, hS.F ht⟩) hS.2.2 (dt_at dt_One_root 6 rfl)
set_option maxRecDepth 100000 in
set_option maxHeartbeats 4000000 in
theorem c_One_root (l : Launch) (D : va_G) (a : Nat → Nat) (q : Nat → ClassId) (hd : va_D (fun _ => True) (dE a)) (sz : Nat) (a0_l : Int64) (a0_h : Int64) (a0_m : Int32)  (y_a0 : Nat) (hn_a0 : nin (dE a) y_a0) (r0 : Int64 × Int64 × Int32) (h : f_One_root a0_l a0_h a0_m = some r0) : Met l (⟨"OutwardTape$OneOperand", "root", "(LOutwardTape$Cell;)LOutwardTape$Cell;"⟩ : MethodName) (WSm (⟨"OutwardTape$OneOperand", "root", "(LOutwardTape$Cell;)LOutwardTape$Cell;"⟩ : MethodName) prog_7_method_4_code 3 (some (.object "OutwardTape$Cell"))) rm_One_root (va_Pc [.ref y_a0] (fun U => U.heap.size = sz ∧ va_P D CLS (wE a q ) U.heap ∧ va_K D CLS (tE q) U ∧ isC D U.heap y_a0 a0_l a0_h a0_m)) (va_Qr (fun _ : Unit => True) (fun _ ra t => (va_P D CLS (wE a q ) t.heap) ∧ isC D t.heap ra r0.1 r0.2.1 r0.2.2 ∧ (sz ≤ ra ∨ ra ∈ ([y_a0] : List Nat))) (va_A (dE a) sz)) 2 6 (va_A (dE a) sz) := by
  refine Met.ofW (cc := prog_7_method_4_code) (maxL := 3) (ret := (some (.object "OutwardTape$Cell"))) (by decide) rfl ?_
  intro p e s m args below meth c s₁ B hml hv
  obtain ⟨rfl, hsz, hP, hK, hc_a0⟩ := hv
  subst hsz
  have hC := CX.of B hml rfl
  have hl := lv_entry [.ref y_a0] (n := 3) (Nat.le_of_ble_eq_true rfl)
  rw [lg_entry_eq]
  generalize (lg_sl [.ref y_a0] ++ List.replicate (3 - (lg_sl [.ref y_a0]).length) Slot.unset).toArray = ls at hl ⊢
  have hl : lv_has ls 3 [(0, .ref y_a0)] := hl
  exact k_One_root_0 (PL := [y_a0]) hC (fun x h => Or.inr h) hK a0_l a0_h a0_m   y_a0 s.heap [] ls hP (dD hd.self rfl) va_S.rf  hc_a0 (Or.inr (by simp)) hn_a0  (lv_sub hl [0] rfl) h
abbrev rm_One_square : Room := { frames := 4, cells := 2, slots := 6, locals := 115 }
set_option maxRecDepth 100000 in
set_option maxHeartbeats 4000000 in
theorem k_One_square_0 {p : Program} {l : Launch} {e : Env} {s : State} {m : MethodId} {args : Array Value} {below : List Frame} {meth : Method} {c : Code} {D : va_G} {a : Nat → Nat} {q : Nat → ClassId} {PL : List Nat} {A : Nat → Prop} (hC : CX p s m args meth c prog_7_method_3_code 7 "OutwardTape$OneOperand" (some (.object "OutwardTape$Cell"))) (hA : ∀ x, s.heap.size ≤ x → A x) (hK : va_K D CLS (tE q) s)  {r0 : Int64 × Int64 × Int32} : ∀ (v0_l : Int64) (v0_h : Int64) (v0_m : Int32)  (y_v0 : Nat) (H : Heap) (locs : List Loc) (ls : Array Slot), va_P D CLS (wE a q ) H → va_D A (wE a q ) → va_S A s.heap H locs → isC D H y_v0 v0_l v0_h v0_m → (s.heap.size ≤ y_v0 ∨ y_v0 ∈ PL) → nin (dE a) y_v0 → lv_has ls 7 [(0, .ref y_v0)] → f_One_square_0  v0_l v0_h v0_m = some r0 → W p l e rm_One_square s m args below meth c H locs 0 0 (MQ below (va_Qr (fun _ : Unit => True) (fun _ ra t => (va_P D CLS (wE a q ) t.heap) ∧ isC D t.heap ra r0.1 r0.2.1 r0.2.2 ∧ (s.heap.size ≤ ra ∨ ra ∈ PL)) A) args s 2 6 A) (F0 m 0 ls []) := by
  obtain ⟨hx, hb, hml, hown, hts, hr, hlocks⟩ := id hC
  intro v0_l v0_h v0_m y_v0 H locs ls hP hD hS hc_v0 hf_v0 hn_v0 hl h
  rw [f_One_square_0] at h
  have hSz : s.heap.size ≤ H.size := hS.1
  refine lv_aload_n hx hb (dt_at dt_One_square 0 rfl) rfl (lv_at hl 0 rfl) ?_
  obtain ⟨r1, h_r1, h⟩ := ob_of h
  have hPc : va_P D CLS (wE a q) H := fun k q h => by simp [wE] at h
  have hd : va_D (fun _ => True) (dE a) := dE_D a
  have hKc : va_K D CLS (tE q) s := hK.sub (tys' := []) [] rfl
  have hF : ∀ x, va_A (dE a) H.size x → A x := fun x h9 => h9.elim (fun ⟨k, e, h⟩ => by simp [dE] at h) (fun g => hA _ (Nat.le_trans hS.1 g))
  refine va_calll (va_runV (As := []) (rest := []) ⟨hx, hb, hml, hown, hts⟩ (c_Cell_mignitude l D a q  hd H.size v0_l v0_h v0_m  y_v0 (nin_E a y_v0) r1 h_r1) (cwV 0 hts (gd_V (m_3 130 rfl rfl) (m_1 221 rfl rfl) (m_1 222 rfl rfl) (m_1 10 rfl rfl) (m_1 223 rfl rfl)) rfl rfl rfl (by decide +kernel) ⟨Nat.le_of_ble_eq_true rfl, Nat.le_of_ble_eq_true rfl⟩) ⟨fun a U g mk q => ⟨q.1, q.2.1, q.2.2.1, va_K.moved (u := U) (U := U.calling g mk a) (Vm.Alike.refl U.vm) q.2.2.2.1, q.2.2.2.2⟩, va_recv hK hc_v0 (ci := 4) (q0 := 0) rfl rfl, fun U hU hW => ⟨rfl, by rw [hU], by rw [hU]; exact hPc, va_K.moved hW.alike hKc, by rw [hU]; exact hc_v0⟩⟩ rfl rfl hl.1 rfl (lv_room (Nat.le_of_ble_eq_true rfl)) (dt_at dt_One_square 1 rfl) ⟨Nat.le_of_ble_eq_true rfl, Nat.le_of_ble_eq_true rfl⟩) hS (fun x _ h9 => hF x h9) hF (fun u_r1 uu t H1 locs ht hvm hw hB hz1 hk1 hS => ?_)
  obtain rfl : r1 = u_r1 := hw.symm
  have hc_v0 := isC.keptA hc_v0 hk1 (nin_E a y_v0)
  have hP := va_P.kept hP (fun k q hq => hk1 _ (hP k q hq).lt (not_AE (hP k q hq).lt))
  have hSz : s.heap.size ≤ H1.size := hS.1
  clear hk1 hz1 hPc hF hB ht
  generalize H1 = H at hP hS hSz hc_v0 ⊢
  refine lv_lstore_n (lv' := [(1, .long r1), (0, .ref y_v0)]) hx hb (dt_at dt_One_square 2 rfl) rfl hl (by decide) rfl (fun ls hl => ?_)
  refine lv_aload_n hx hb (dt_at dt_One_square 3 rfl) rfl (lv_at hl 1 rfl) ?_
  obtain ⟨r2, h_r2, h⟩ := ob_of h
  have hPc : va_P D CLS (wE a q) H := fun k q h => by simp [wE] at h
  have hd : va_D (fun _ => True) (dE a) := dE_D a
  have hKc : va_K D CLS (tE q) s := hK.sub (tys' := []) [] rfl
  have hF : ∀ x, va_A (dE a) H.size x → A x := fun x h9 => h9.elim (fun ⟨k, e, h⟩ => by simp [dE] at h) (fun g => hA _ (Nat.le_trans hS.1 g))
  refine va_calll (va_runV (As := []) (rest := []) ⟨hx, hb, hml, hown, hts⟩ (c_Cell_magnitude l D a q  hd H.size v0_l v0_h v0_m  y_v0 (nin_E a y_v0) r2 h_r2) (cwV 0 hts (gd_V (m_3 131 rfl rfl) (m_1 213 rfl rfl) (m_1 214 rfl rfl) (m_1 10 rfl rfl) (m_1 215 rfl rfl)) rfl rfl rfl (by decide +kernel) ⟨Nat.le_of_ble_eq_true rfl, Nat.le_of_ble_eq_true rfl⟩) ⟨fun a U g mk q => ⟨q.1, q.2.1, q.2.2.1, va_K.moved (u := U) (U := U.calling g mk a) (Vm.Alike.refl U.vm) q.2.2.2.1, q.2.2.2.2⟩, va_recv hK hc_v0 (ci := 4) (q0 := 0) rfl rfl, fun U hU hW => ⟨rfl, by rw [hU], by rw [hU]; exact hPc, va_K.moved hW.alike hKc, by rw [hU]; exact hc_v0⟩⟩ rfl rfl hl.1 rfl (lv_room (Nat.le_of_ble_eq_true rfl)) (dt_at dt_One_square 4 rfl) ⟨Nat.le_of_ble_eq_true rfl, Nat.le_of_ble_eq_true rfl⟩) hS (fun x _ h9 => hF x h9) hF (fun u_r2 uu t H1 locs ht hvm hw hB hz1 hk1 hS => ?_)
  obtain rfl : r2 = u_r2 := hw.symm
  have hc_v0 := isC.keptA hc_v0 hk1 (nin_E a y_v0)
  have hP := va_P.kept hP (fun k q hq => hk1 _ (hP k q hq).lt (not_AE (hP k q hq).lt))
  have hSz : s.heap.size ≤ H1.size := hS.1
  clear hk1 hz1 hPc hF hB ht
  generalize H1 = H at hP hS hSz hc_v0 ⊢
  refine lv_lstore_n (lv' := [(3, .long r2), (1, .long r1), (0, .ref y_v0)]) hx hb (dt_at dt_One_square 5 rfl) rfl hl (by decide) rfl (fun ls hl => ?_)
  refine lv_lload_n hx hb (dt_at dt_One_square 6 rfl) rfl (lv_at hl 1 rfl) ?_
  refine lv_lload_n hx hb (dt_at dt_One_square 7 rfl) rfl (lv_at hl 1 rfl) ?_
  refine lv_iconst (v := -1) hx hb (dt_at dt_One_square 8 rfl) (by decide) ?_
  obtain ⟨r3, h_r3, h⟩ := ob_of h
  refine vp_callSl (W.runS (As := [.long r1, .long r1, .int (-1 : Int32)]) (rest := []) ⟨hx, hb, hml, hown, hts⟩ (c_Exact_product l r1 r1 (-1 : Int32) r3 h_r3) (va_cwS 3 hts (gd_S (m_3 135 rfl rfl) (m_3 136 rfl rfl) (m_1 16 rfl rfl) (m_3 137 rfl rfl)) rfl rfl rfl (by decide +kernel) ⟨Nat.le_of_ble_eq_true rfl, Nat.le_of_ble_eq_true rfl⟩) ⟨fun _ _ _ _ q => q, fun U hU hW => ⟨rfl, trivial⟩⟩ rfl rfl hl.1 rfl (lv_room (Nat.le_of_ble_eq_true rfl)) (dt_at dt_One_square 9 rfl) ⟨Nat.le_of_ble_eq_true rfl, Nat.le_of_ble_eq_true rfl⟩) (fun u_r3 q_r3 => ?_)
  obtain rfl : r3 = u_r3 := q_r3.symm
  refine lv_lstore (lv' := [(5, .long r3), (3, .long r2), (1, .long r1), (0, .ref y_v0)]) hx hb (dt_at dt_One_square 10 rfl) hl (by decide) rfl (fun ls hl => ?_)
  refine lv_lload hx hb (dt_at dt_One_square 11 rfl) (lv_at hl 0 rfl) ?_
  refine lv_lload_n hx hb (dt_at dt_One_square 12 rfl) rfl (lv_at hl 1 rfl) ?_
  refine lv_lload_n hx hb (dt_at dt_One_square 13 rfl) rfl (lv_at hl 1 rfl) ?_
  refine lv_iconst (v := 1) hx hb (dt_at dt_One_square 14 rfl) (by decide) ?_
  obtain ⟨r4, h_r4, h⟩ := ob_of h
  refine vp_callSl (W.runS (As := [.long r2, .long r2, .int (1 : Int32)]) (rest := [.long r3]) ⟨hx, hb, hml, hown, hts⟩ (c_Exact_product l r2 r2 (1 : Int32) r4 h_r4) (va_cwS 3 hts (gd_S (m_3 135 rfl rfl) (m_3 136 rfl rfl) (m_1 16 rfl rfl) (m_3 137 rfl rfl)) rfl rfl rfl (by decide +kernel) ⟨Nat.le_of_ble_eq_true rfl, Nat.le_of_ble_eq_true rfl⟩) ⟨fun _ _ _ _ q => q, fun U hU hW => ⟨rfl, trivial⟩⟩ rfl rfl hl.1 rfl (lv_room (Nat.le_of_ble_eq_true rfl)) (dt_at dt_One_square 15 rfl) ⟨Nat.le_of_ble_eq_true rfl, Nat.le_of_ble_eq_true rfl⟩) (fun u_r4 q_r4 => ?_)
  obtain rfl : r4 = u_r4 := q_r4.symm
  refine lv_iconst (v := 4) hx hb (dt_at dt_One_square 16 rfl) (by decide) ?_
  refine lv_aload_n hx hb (dt_at dt_One_square 17 rfl) rfl (lv_at hl 3 rfl) ?_
  refine va_get (D := D) (ci := 4) (v := .int v0_m) (C := "OutwardTape$Cell") (T := T_Cell) (N := 3) hx hb hts in_Cell hown hK hc_v0 0 rfl rfl 2 (by decide) (hts (Cond.fieldLink "OutwardTape$OneOperand" 7 "OutwardTape$Cell" "mark" "I") (m_2 132 rfl rfl)) (fun _ h9 => h9) rfl (dt_at dt_One_square 18 rfl) ?_
  obtain ⟨r5, h_r5, h⟩ := ob_of h
  have hPc : va_P D CLS (wE a q) H := fun k q h => by simp [wE] at h
  have hd : va_D (fun _ => True) (dE a) := dE_D a
  have hKc : va_K D CLS (tE q) s := hK.sub (tys' := []) [] rfl
  have hF : ∀ x, va_A (dE a) H.size x → A x := fun x h9 => h9.elim (fun ⟨k, e, h⟩ => by simp [dE] at h) (fun g => hA _ (Nat.le_trans hS.1 g))
  refine va_callr (va_runS (As := [.long r3, .long r4, .int (4 : Int32), .int v0_m]) (rest := []) ⟨hx, hb, hml, hown, hts⟩ (c_Cell_value l D a q  hd H.size r3 r4 (4 : Int32) v0_m    r5 h_r5) (va_cwS 4 hts (gd_S (m_3 129 rfl rfl) (m_2 219 rfl rfl) (m_1 10 rfl rfl) (m_2 220 rfl rfl)) rfl rfl rfl (by decide +kernel) ⟨Nat.le_of_ble_eq_true rfl, Nat.le_of_ble_eq_true rfl⟩) ⟨fun a U g mk q => ⟨q.1, q.2.1, q.2.2.1, va_K.moved (u := U) (U := U.calling g mk a) (Vm.Alike.refl U.vm) q.2.2.2⟩, fun U hU hW => ⟨rfl, by rw [hU], by rw [hU]; exact hPc, va_K.moved hW.alike hKc⟩⟩ rfl rfl hl.1 rfl (lv_room (Nat.le_of_ble_eq_true rfl)) (dt_at dt_One_square 19 rfl) ⟨Nat.le_of_ble_eq_true rfl, Nat.le_of_ble_eq_true rfl⟩) hS (fun x _ h9 => hF x h9) hF (fun uu y_r5 t H1 locs ht hvm hw hB hz1 hk1 hS => ?_)
  obtain ⟨hB, hc_r5, hq_r5⟩ := hB
  rw [ht] at hc_r5
  have hn_r5 : nin (dE a) y_r5 := nin_cases hq_r5 (fun g9 => nin_big hP g9 rfl) (fun g9 => by simp at g9)
  have hf_r5 : s.heap.size ≤ y_r5 ∨ y_r5 ∈ PL := nin_cases hq_r5 (fun g9 => Or.inl (Nat.le_trans hSz g9)) (fun g9 => by simp at g9)
  clear hq_r5
  have hc_v0 := isC.keptA hc_v0 hk1 (nin_E a y_v0)
  have hP := va_P.kept hP (fun k q hq => hk1 _ (hP k q hq).lt (not_AE (hP k q hq).lt))
  refine W.widen (k := 2) (n := 6) (Nat.le_of_ble_eq_true rfl) (Nat.le_of_ble_eq_true rfl) ?_
  have hSz : s.heap.size ≤ H1.size := hS.1
  clear hk1 hz1 hPc hF hB ht
  generalize H1 = H at hP hS hSz hc_v0 hc_r5 ⊢
  obtain rfl := os_of h
  exact W.aret hx hb hr (Or.inl ⟨_, rfl⟩) (Or.inr ⟨_, rfl⟩) (fun t ht hW => ⟨⟨(), y_r5, rfl, trivial, (hPt hP ht), hPt hc_r5 ht, hf_r5⟩, hS.F ht⟩) hS.2.2 (dt_at dt_One_square 20 rfl)
set_option maxRecDepth 100000 in
set_option maxHeartbeats 4000000 in
theorem c_One_square (l : Launch) (D : va_G) (a : Nat → Nat) (q : Nat → ClassId) (hd : va_D (fun _ => True) (dE a)) (sz : Nat) (a0_l : Int64) (a0_h : Int64) (a0_m : Int32)  (y_a0 : Nat) (hn_a0 : nin (dE a) y_a0) (r0 : Int64 × Int64 × Int32) (h : f_One_square a0_l a0_h a0_m = some r0) : Met l (⟨"OutwardTape$OneOperand", "square", "(LOutwardTape$Cell;)LOutwardTape$Cell;"⟩ : MethodName) (WSm (⟨"OutwardTape$OneOperand", "square", "(LOutwardTape$Cell;)LOutwardTape$Cell;"⟩ : MethodName) prog_7_method_3_code 7 (some (.object "OutwardTape$Cell"))) rm_One_square (va_Pc [.ref y_a0] (fun U => U.heap.size = sz ∧ va_P D CLS (wE a q ) U.heap ∧ va_K D CLS (tE q) U ∧ isC D U.heap y_a0 a0_l a0_h a0_m)) (va_Qr (fun _ : Unit => True) (fun _ ra t => (va_P D CLS (wE a q ) t.heap) ∧ isC D t.heap ra r0.1 r0.2.1 r0.2.2 ∧ (sz ≤ ra ∨ ra ∈ ([y_a0] : List Nat))) (va_A (dE a) sz)) 2 6 (va_A (dE a) sz) := by
  refine Met.ofW (cc := prog_7_method_3_code) (maxL := 7) (ret := (some (.object "OutwardTape$Cell"))) (by decide) rfl ?_
  intro p e s m args below meth c s₁ B hml hv
  obtain ⟨rfl, hsz, hP, hK, hc_a0⟩ := hv
  subst hsz
  have hC := CX.of B hml rfl
  have hl := lv_entry [.ref y_a0] (n := 7) (Nat.le_of_ble_eq_true rfl)
  rw [lg_entry_eq]
  generalize (lg_sl [.ref y_a0] ++ List.replicate (7 - (lg_sl [.ref y_a0]).length) Slot.unset).toArray = ls at hl ⊢
  have hl : lv_has ls 7 [(0, .ref y_a0)] := hl
  exact k_One_square_0 (PL := [y_a0]) hC (fun x h => Or.inr h) hK a0_l a0_h a0_m   y_a0 s.heap [] ls hP (dD hd.self rfl) va_S.rf  hc_a0 (Or.inr (by simp)) hn_a0  (lv_sub hl [0] rfl) h
abbrev rm_One_stepwise : Room := { frames := 3, cells := 2, slots := 6, locals := 67 }
set_option maxRecDepth 100000 in
set_option maxHeartbeats 4000000 in
theorem k_One_stepwise_13 {p : Program} {l : Launch} {e : Env} {s : State} {m : MethodId} {args : Array Value} {below : List Frame} {meth : Method} {c : Code} {D : va_G} {a : Nat → Nat} {q : Nat → ClassId} {PL : List Nat} {A : Nat → Prop} (hC : CX p s m args meth c prog_7_method_5_code 5 "OutwardTape$OneOperand" (some (.object "OutwardTape$Cell"))) (hA : ∀ x, s.heap.size ≤ x → A x) (hK : va_K D CLS (tE q) s)  {r0 : Int64 × Int64 × Int32} : ∀ (s0 : Int32) (s1 : Int64) (s2 : Int64) (v4 : Int32)  (H : Heap) (locs : List Loc) (ls : Array Slot), va_P D CLS (wE a q ) H → va_D A (wE a q ) → va_S A s.heap H locs → lv_has ls 5 [(4, .int v4)] → f_One_stepwise_13  s0 s1 s2 v4 = some r0 → W p l e rm_One_stepwise s m args below meth c H locs 0 0 (MQ below (va_Qr (fun _ : Unit => True) (fun _ ra t => (va_P D CLS (wE a q ) t.heap) ∧ isC D t.heap ra r0.1 r0.2.1 r0.2.2 ∧ (s.heap.size ≤ ra ∨ ra ∈ PL)) A) args s 2 6 A) (F0 m 13 ls [.int s0, .long s1, .long s2]) := by
  obtain ⟨hx, hb, hml, hown, hts, hr, hlocks⟩ := id hC
  intro s0 s1 s2 v4 H locs ls hP hD hS hl h
  rw [f_One_stepwise_13] at h
  have hSz : s.heap.size ≤ H.size := hS.1
  refine lv_iload hx hb (dt_at dt_One_stepwise 9 rfl) (lv_at hl 0 rfl) ?_
  obtain ⟨r1, h_r1, h⟩ := ob_of h
  have hPc : va_P D CLS (wE a q) H := fun k q h => by simp [wE] at h
  have hd : va_D (fun _ => True) (dE a) := dE_D a
  have hKc : va_K D CLS (tE q) s := hK.sub (tys' := []) [] rfl
  have hF : ∀ x, va_A (dE a) H.size x → A x := fun x h9 => h9.elim (fun ⟨k, e, h⟩ => by simp [dE] at h) (fun g => hA _ (Nat.le_trans hS.1 g))
  refine va_callr (va_runS (As := [.long s2, .long s1, .int s0, .int v4]) (rest := []) ⟨hx, hb, hml, hown, hts⟩ (c_Cell_value l D a q  hd H.size s2 s1 s0 v4    r1 h_r1) (va_cwS 4 hts (gd_S (m_3 129 rfl rfl) (m_2 219 rfl rfl) (m_1 10 rfl rfl) (m_2 220 rfl rfl)) rfl rfl rfl (by decide +kernel) ⟨Nat.le_of_ble_eq_true rfl, Nat.le_of_ble_eq_true rfl⟩) ⟨fun a U g mk q => ⟨q.1, q.2.1, q.2.2.1, va_K.moved (u := U) (U := U.calling g mk a) (Vm.Alike.refl U.vm) q.2.2.2⟩, fun U hU hW => ⟨rfl, by rw [hU], by rw [hU]; exact hPc, va_K.moved hW.alike hKc⟩⟩ rfl rfl hl.1 rfl (lv_room (Nat.le_of_ble_eq_true rfl)) (dt_at dt_One_stepwise 10 rfl) ⟨Nat.le_of_ble_eq_true rfl, Nat.le_of_ble_eq_true rfl⟩) hS (fun x _ h9 => hF x h9) hF (fun uu y_r1 t H1 locs ht hvm hw hB hz1 hk1 hS => ?_)
  obtain ⟨hB, hc_r1, hq_r1⟩ := hB
  rw [ht] at hc_r1
  have hn_r1 : nin (dE a) y_r1 := nin_cases hq_r1 (fun g9 => nin_big hP g9 rfl) (fun g9 => by simp at g9)
  have hf_r1 : s.heap.size ≤ y_r1 ∨ y_r1 ∈ PL := nin_cases hq_r1 (fun g9 => Or.inl (Nat.le_trans hSz g9)) (fun g9 => by simp at g9)
  clear hq_r1
  have hP := va_P.kept hP (fun k q hq => hk1 _ (hP k q hq).lt (not_AE (hP k q hq).lt))
  refine W.widen (k := 2) (n := 6) (Nat.le_of_ble_eq_true rfl) (Nat.le_of_ble_eq_true rfl) ?_
  have hSz : s.heap.size ≤ H1.size := hS.1
  clear hk1 hz1 hPc hF hB ht
  generalize H1 = H at hP hS hSz hc_r1 ⊢
  obtain rfl := os_of h
  exact W.aret hx hb hr (Or.inl ⟨_, rfl⟩) (Or.inr ⟨_, rfl⟩) (fun t ht hW => ⟨⟨(), y_r1, rfl, trivial, (hPt hP ht), hPt hc_r1 ht, hf_r1⟩, hS.F ht⟩) hS.2.2 (dt_at dt_One_stepwise 11 rfl)
set_option maxRecDepth 100000 in
set_option maxHeartbeats 4000000 in
theorem k_One_stepwise_0 {p : Program} {l : Launch} {e : Env} {s : State} {m : MethodId} {args : Array Value} {below : List Frame} {meth : Method} {c : Code} {D : va_G} {a : Nat → Nat} {q : Nat → ClassId} {PL : List Nat} {A : Nat → Prop} (hC : CX p s m args meth c prog_7_method_5_code 5 "OutwardTape$OneOperand" (some (.object "OutwardTape$Cell"))) (hA : ∀ x, s.heap.size ≤ x → A x) (hK : va_K D CLS (tE q) s)  {r0 : Int64 × Int64 × Int32} : ∀ (v0 : Int64) (v2 : Int64) (v4 : Int32)  (H : Heap) (locs : List Loc) (ls : Array Slot), va_P D CLS (wE a q ) H → va_D A (wE a q ) → va_S A s.heap H locs → lv_has ls 5 [(0, .long v0), (2, .long v2), (4, .int v4)] → f_One_stepwise_0  v0 v2 v4 = some r0 → W p l e rm_One_stepwise s m args below meth c H locs 0 0 (MQ below (va_Qr (fun _ : Unit => True) (fun _ ra t => (va_P D CLS (wE a q ) t.heap) ∧ isC D t.heap ra r0.1 r0.2.1 r0.2.2 ∧ (s.heap.size ≤ ra ∨ ra ∈ PL)) A) args s 2 6 A) (F0 m 0 ls []) := by
  obtain ⟨hx, hb, hml, hown, hts, hr, hlocks⟩ := id hC
  intro v0 v2 v4 H locs ls hP hD hS hl h
  rw [f_One_stepwise_0] at h
  have hSz : s.heap.size ≤ H.size := hS.1
  refine lv_lload_n hx hb (dt_at dt_One_stepwise 0 rfl) rfl (lv_at hl 0 rfl) ?_
  refine lv_lload_n hx hb (dt_at dt_One_stepwise 1 rfl) rfl (lv_at hl 1 rfl) ?_
  refine lv_lload_n hx hb (dt_at dt_One_stepwise 2 rfl) rfl (lv_at hl 0 rfl) ?_
  refine lv_lload_n hx hb (dt_at dt_One_stepwise 3 rfl) rfl (lv_at hl 1 rfl) ?_
  refine lc_ne (tgt := 12) hx hb (dt_at dt_One_stepwise 4 rfl) (dt_at dt_One_stepwise 5 rfl) (by decide) (fun c1 => ?_) (fun c1 => ?_)
  · have h := if_n h c1
    refine lv_iconst (v := 2) hx hb (dt_at dt_One_stepwise 8 rfl) (by decide) ?_
    exact k_One_stepwise_13 (PL := PL) hC hA hK   (2 : Int32) v2 v0 v4 H locs ls hP hD hS   (lv_sub hl [2] rfl) h
  · have h := if_p h c1
    refine lv_iconst (v := 4) hx hb (dt_at dt_One_stepwise 6 rfl) (by decide) ?_
    refine lv_goto (tgt := 13) hx hb (dt_at dt_One_stepwise 7 rfl) (by decide) ?_
    exact k_One_stepwise_13 (PL := PL) hC hA hK   (4 : Int32) v2 v0 v4 H locs ls hP hD hS   (lv_sub hl [2] rfl) h
set_option maxRecDepth 100000 in
set_option maxHeartbeats 4000000 in
theorem c_One_stepwise (l : Launch) (D : va_G) (a : Nat → Nat) (q : Nat → ClassId) (hd : va_D (fun _ => True) (dE a)) (sz : Nat) (a0 : Int64) (a2 : Int64) (a4 : Int32)    (r0 : Int64 × Int64 × Int32) (h : f_One_stepwise a0 a2 a4 = some r0) : Met l (⟨"OutwardTape$OneOperand", "stepwise", "(JJI)LOutwardTape$Cell;"⟩ : MethodName) (WSm (⟨"OutwardTape$OneOperand", "stepwise", "(JJI)LOutwardTape$Cell;"⟩ : MethodName) prog_7_method_5_code 5 (some (.object "OutwardTape$Cell"))) rm_One_stepwise (va_Pc [.long a0, .long a2, .int a4] (fun U => U.heap.size = sz ∧ va_P D CLS (wE a q ) U.heap ∧ va_K D CLS (tE q) U)) (va_Qr (fun _ : Unit => True) (fun _ ra t => (va_P D CLS (wE a q ) t.heap) ∧ isC D t.heap ra r0.1 r0.2.1 r0.2.2 ∧ (sz ≤ ra ∨ ra ∈ ([] : List Nat))) (va_A (dE a) sz)) 2 6 (va_A (dE a) sz) := by
  refine Met.ofW (cc := prog_7_method_5_code) (maxL := 5) (ret := (some (.object "OutwardTape$Cell"))) (by decide) rfl ?_
  intro p e s m args below meth c s₁ B hml hv
  obtain ⟨rfl, hsz, hP, hK⟩ := hv
  subst hsz
  have hC := CX.of B hml rfl
  have hl := lv_entry [.long a0, .long a2, .int a4] (n := 5) (Nat.le_of_ble_eq_true rfl)
  rw [lg_entry_eq]
  generalize (lg_sl [.long a0, .long a2, .int a4] ++ List.replicate (5 - (lg_sl [.long a0, .long a2, .int a4]).length) Slot.unset).toArray = ls at hl ⊢
  have hl : lv_has ls 5 [(0, .long a0), (2, .long a2), (4, .int a4)] := hl
  exact k_One_stepwise_0 (PL := []) hC (fun x h => Or.inr h) hK a0 a2 a4    s.heap [] ls hP (dD hd.self rfl) va_S.rf    (lv_sub hl [0, 1, 2] rfl) h
abbrev rm_One_value : Room := { frames := 6, cells := 2, slots := 6, locals := 166 }
set_option maxRecDepth 100000 in
set_option maxHeartbeats 4000000 in
theorem k_One_value_0 {p : Program} {l : Launch} {e : Env} {s : State} {m : MethodId} {args : Array Value} {below : List Frame} {meth : Method} {c : Code} {D : va_G} {a : Nat → Nat} {q : Nat → ClassId} {PL : List Nat} {A : Nat → Prop} (hC : CX p s m args meth c prog_7_method_2_code 2 "OutwardTape$OneOperand" (some (.object "OutwardTape$Cell"))) (hA : ∀ x, s.heap.size ≤ x → A x) (hK : va_K D CLS (tE q) s)  {r0 : Int64 × Int64 × Int32} : ∀ (v0 : Int32) (v1_l : Int64) (v1_h : Int64) (v1_m : Int32)  (y_v1 : Nat) (H : Heap) (locs : List Loc) (ls : Array Slot), va_P D CLS (wE a q ) H → va_D A (wE a q ) → va_S A s.heap H locs → isC D H y_v1 v1_l v1_h v1_m → (s.heap.size ≤ y_v1 ∨ y_v1 ∈ PL) → nin (dE a) y_v1 → lv_has ls 2 [(0, .int v0), (1, .ref y_v1)] → f_One_value_0  v0 v1_l v1_h v1_m = some r0 → W p l e rm_One_value s m args below meth c H locs 0 0 (MQ below (va_Qr (fun _ : Unit => True) (fun _ ra t => (va_P D CLS (wE a q ) t.heap) ∧ isC D t.heap ra r0.1 r0.2.1 r0.2.2 ∧ (s.heap.size ≤ ra ∨ ra ∈ PL)) A) args s 2 6 A) (F0 m 0 ls []) := by
  obtain ⟨hx, hb, hml, hown, hts, hr, hlocks⟩ := id hC
  intro v0 v1_l v1_h v1_m y_v1 H locs ls hP hD hS hc_v1 hf_v1 hn_v1 hl h
  rw [f_One_value_0] at h
  have hSz : s.heap.size ≤ H.size := hS.1
  refine lv_aload_n hx hb (dt_at dt_One_value 0 rfl) rfl (lv_at hl 1 rfl) ?_
  refine va_get (D := D) (ci := 4) (v := .int v1_m) (C := "OutwardTape$Cell") (T := T_Cell) (N := 3) hx hb hts in_Cell hown hK hc_v1 0 rfl rfl 2 (by decide) (hts (Cond.fieldLink "OutwardTape$OneOperand" 7 "OutwardTape$Cell" "mark" "I") (m_2 132 rfl rfl)) (fun _ h9 => h9) rfl (dt_at dt_One_value 1 rfl) ?_
  refine lv_if_ne (tgt := 11) hx hb (dt_at dt_One_value 2 rfl) (by decide) (fun c1 => ?_) (fun c1 => ?_)
  · have h := if_n h c1
    refine lv_aload_n hx hb (dt_at dt_One_value 5 rfl) rfl (lv_at hl 1 rfl) ?_
    obtain ⟨r2, h_r2, h⟩ := ob_of h
    have hPc : va_P D CLS (wE a q) H := fun k q h => by simp [wE] at h
    have hd : va_D (fun _ => True) (dE a) := dE_D a
    have hKc : va_K D CLS (tE q) s := hK.sub (tys' := []) [] rfl
    have hF : ∀ x, va_A (dE a) H.size x → A x := fun x h9 => h9.elim (fun ⟨k, e, h⟩ => by simp [dE] at h) (fun g => hA _ (Nat.le_trans hS.1 g))
    refine va_calli (va_runV (As := []) (rest := []) ⟨hx, hb, hml, hown, hts⟩ (c_Cell_hasNoPoint l D a q  hd H.size v1_l v1_h v1_m  y_v1 (nin_E a y_v1) r2 h_r2) (cwV 0 hts (gd_V (m_3 127 rfl rfl) (m_1 124 rfl rfl) (m_1 125 rfl rfl) (m_1 10 rfl rfl) (m_1 126 rfl rfl)) rfl rfl rfl (by decide +kernel) ⟨Nat.le_of_ble_eq_true rfl, Nat.le_of_ble_eq_true rfl⟩) ⟨fun a U g mk q => ⟨q.1, q.2.1, q.2.2.1, va_K.moved (u := U) (U := U.calling g mk a) (Vm.Alike.refl U.vm) q.2.2.2.1, q.2.2.2.2⟩, va_recv hK hc_v1 (ci := 4) (q0 := 0) rfl rfl, fun U hU hW => ⟨rfl, by rw [hU], by rw [hU]; exact hPc, va_K.moved hW.alike hKc, by rw [hU]; exact hc_v1⟩⟩ rfl rfl hl.1 rfl (lv_room (Nat.le_of_ble_eq_true rfl)) (dt_at dt_One_value 6 rfl) ⟨Nat.le_of_ble_eq_true rfl, Nat.le_of_ble_eq_true rfl⟩) hS (fun x _ h9 => hF x h9) hF (fun u_r2 uu t H1 locs ht hvm hw hB hz1 hk1 hS => ?_)
    obtain rfl : r2 = u_r2 := hw.symm
    have hc_v1 := isC.keptA hc_v1 hk1 (nin_E a y_v1)
    have hP := va_P.kept hP (fun k q hq => hk1 _ (hP k q hq).lt (not_AE (hP k q hq).lt))
    have hSz : s.heap.size ≤ H1.size := hS.1
    clear hk1 hz1 hPc hF hB ht
    generalize H1 = H at hP hS hSz hc_v1 ⊢
    refine lv_if_eq (tgt := 22) hx hb (dt_at dt_One_value 7 rfl) (by decide) (fun c3 => ?_) (fun c3 => ?_)
    · have h := if_p h c3
      refine lv_iload_n hx hb (dt_at dt_One_value 10 rfl) rfl (lv_at hl 0 rfl) ?_
      by_cases c4 : v0 = (0 : Int32)
      · have h := if_p h c4
        refine lv_tableIn (off := 49) (tgt := 72) hx hb (dt_at dt_One_value 11 rfl) (by rw [c4]; decide) (by rw [c4]; decide) (by rw [c4]; rfl) (by decide) ?_
        refine lv_aload_n hx hb (dt_at dt_One_value 12 rfl) rfl (lv_at hl 1 rfl) ?_
        refine va_get (D := D) (ci := 4) (v := .long v1_h) (C := "OutwardTape$Cell") (T := T_Cell) (N := 3) hx hb hts in_Cell hown hK hc_v1 0 rfl rfl 1 (by decide) (hts (Cond.fieldLink "OutwardTape$OneOperand" 24 "OutwardTape$Cell" "high" "J") (m_2 126 rfl rfl)) (fun _ h9 => h9) rfl (dt_at dt_One_value 13 rfl) ?_
        refine lv_lneg hx hb (dt_at dt_One_value 14 rfl) ?_
        refine lv_aload_n hx hb (dt_at dt_One_value 15 rfl) rfl (lv_at hl 1 rfl) ?_
        refine va_get (D := D) (ci := 4) (v := .long v1_l) (C := "OutwardTape$Cell") (T := T_Cell) (N := 3) hx hb hts in_Cell hown hK hc_v1 0 rfl rfl 0 (by decide) (hts (Cond.fieldLink "OutwardTape$OneOperand" 28 "OutwardTape$Cell" "low" "J") (m_2 119 rfl rfl)) (fun _ h9 => h9) rfl (dt_at dt_One_value 16 rfl) ?_
        refine lv_lneg hx hb (dt_at dt_One_value 17 rfl) ?_
        refine lv_iconst (v := 4) hx hb (dt_at dt_One_value 18 rfl) (by decide) ?_
        refine lv_aload_n hx hb (dt_at dt_One_value 19 rfl) rfl (lv_at hl 1 rfl) ?_
        refine va_get (D := D) (ci := 4) (v := .int v1_m) (C := "OutwardTape$Cell") (T := T_Cell) (N := 3) hx hb hts in_Cell hown hK hc_v1 0 rfl rfl 2 (by decide) (hts (Cond.fieldLink "OutwardTape$OneOperand" 7 "OutwardTape$Cell" "mark" "I") (m_2 132 rfl rfl)) (fun _ h9 => h9) rfl (dt_at dt_One_value 20 rfl) ?_
        obtain ⟨r5, h_r5, h⟩ := ob_of h
        have hPc : va_P D CLS (wE a q) H := fun k q h => by simp [wE] at h
        have hd : va_D (fun _ => True) (dE a) := dE_D a
        have hKc : va_K D CLS (tE q) s := hK.sub (tys' := []) [] rfl
        have hF : ∀ x, va_A (dE a) H.size x → A x := fun x h9 => h9.elim (fun ⟨k, e, h⟩ => by simp [dE] at h) (fun g => hA _ (Nat.le_trans hS.1 g))
        refine va_callr (va_runS (As := [.long (-v1_h), .long (-v1_l), .int (4 : Int32), .int v1_m]) (rest := []) ⟨hx, hb, hml, hown, hts⟩ (c_Cell_value l D a q  hd H.size (-v1_h) (-v1_l) (4 : Int32) v1_m    r5 h_r5) (va_cwS 4 hts (gd_S (m_3 129 rfl rfl) (m_2 219 rfl rfl) (m_1 10 rfl rfl) (m_2 220 rfl rfl)) rfl rfl rfl (by decide +kernel) ⟨Nat.le_of_ble_eq_true rfl, Nat.le_of_ble_eq_true rfl⟩) ⟨fun a U g mk q => ⟨q.1, q.2.1, q.2.2.1, va_K.moved (u := U) (U := U.calling g mk a) (Vm.Alike.refl U.vm) q.2.2.2⟩, fun U hU hW => ⟨rfl, by rw [hU], by rw [hU]; exact hPc, va_K.moved hW.alike hKc⟩⟩ rfl rfl hl.1 rfl (lv_room (Nat.le_of_ble_eq_true rfl)) (dt_at dt_One_value 21 rfl) ⟨Nat.le_of_ble_eq_true rfl, Nat.le_of_ble_eq_true rfl⟩) hS (fun x _ h9 => hF x h9) hF (fun uu y_r5 t H1 locs ht hvm hw hB hz1 hk1 hS => ?_)
        obtain ⟨hB, hc_r5, hq_r5⟩ := hB
        rw [ht] at hc_r5
        have hn_r5 : nin (dE a) y_r5 := nin_cases hq_r5 (fun g9 => nin_big hP g9 rfl) (fun g9 => by simp at g9)
        have hf_r5 : s.heap.size ≤ y_r5 ∨ y_r5 ∈ PL := nin_cases hq_r5 (fun g9 => Or.inl (Nat.le_trans hSz g9)) (fun g9 => by simp at g9)
        clear hq_r5
        have hc_v1 := isC.keptA hc_v1 hk1 (nin_E a y_v1)
        have hP := va_P.kept hP (fun k q hq => hk1 _ (hP k q hq).lt (not_AE (hP k q hq).lt))
        refine W.widen (k := 2) (n := 6) (Nat.le_of_ble_eq_true rfl) (Nat.le_of_ble_eq_true rfl) ?_
        have hSz : s.heap.size ≤ H1.size := hS.1
        clear hk1 hz1 hPc hF hB ht
        generalize H1 = H at hP hS hSz hc_v1 hc_r5 ⊢
        obtain rfl := os_of h
        exact W.aret hx hb hr (Or.inl ⟨_, rfl⟩) (Or.inr ⟨_, rfl⟩) (fun t ht hW => ⟨⟨(), y_r5, rfl, trivial, (hPt hP ht), hPt hc_r5 ht, hf_r5⟩, hS.F ht⟩) hS.2.2 (dt_at dt_One_value 22 rfl)
      · have h := if_n h c4
        by_cases c6 : v0 = (1 : Int32)
        · have h := if_p h c6
          refine lv_tableIn (off := 68) (tgt := 91) hx hb (dt_at dt_One_value 11 rfl) (by rw [c6]; decide) (by rw [c6]; decide) (by rw [c6]; rfl) (by decide) ?_
          refine lv_aload_n hx hb (dt_at dt_One_value 23 rfl) rfl (lv_at hl 1 rfl) ?_
          obtain ⟨r7, h_r7, h⟩ := ob_of h
          have hPc : va_P D CLS (wE a q) H := fun k q h => by simp [wE] at h
          have hd : va_D (fun _ => True) (dE a) := dE_D a
          have hKc : va_K D CLS (tE q) s := hK.sub (tys' := []) [] rfl
          have hF : ∀ x, va_A (dE a) H.size x → A x := fun x h9 => h9.elim (fun ⟨k, e, h⟩ => by simp [dE] at h) (fun g => hA _ (Nat.le_trans hS.1 g))
          refine va_calll (va_runV (As := []) (rest := []) ⟨hx, hb, hml, hown, hts⟩ (c_Cell_mignitude l D a q  hd H.size v1_l v1_h v1_m  y_v1 (nin_E a y_v1) r7 h_r7) (cwV 0 hts (gd_V (m_3 130 rfl rfl) (m_1 221 rfl rfl) (m_1 222 rfl rfl) (m_1 10 rfl rfl) (m_1 223 rfl rfl)) rfl rfl rfl (by decide +kernel) ⟨Nat.le_of_ble_eq_true rfl, Nat.le_of_ble_eq_true rfl⟩) ⟨fun a U g mk q => ⟨q.1, q.2.1, q.2.2.1, va_K.moved (u := U) (U := U.calling g mk a) (Vm.Alike.refl U.vm) q.2.2.2.1, q.2.2.2.2⟩, va_recv hK hc_v1 (ci := 4) (q0 := 0) rfl rfl, fun U hU hW => ⟨rfl, by rw [hU], by rw [hU]; exact hPc, va_K.moved hW.alike hKc, by rw [hU]; exact hc_v1⟩⟩ rfl rfl hl.1 rfl (lv_room (Nat.le_of_ble_eq_true rfl)) (dt_at dt_One_value 24 rfl) ⟨Nat.le_of_ble_eq_true rfl, Nat.le_of_ble_eq_true rfl⟩) hS (fun x _ h9 => hF x h9) hF (fun u_r7 uu t H1 locs ht hvm hw hB hz1 hk1 hS => ?_)
          obtain rfl : r7 = u_r7 := hw.symm
          have hc_v1 := isC.keptA hc_v1 hk1 (nin_E a y_v1)
          have hP := va_P.kept hP (fun k q hq => hk1 _ (hP k q hq).lt (not_AE (hP k q hq).lt))
          have hSz : s.heap.size ≤ H1.size := hS.1
          clear hk1 hz1 hPc hF hB ht
          generalize H1 = H at hP hS hSz hc_v1 ⊢
          refine lv_aload_n hx hb (dt_at dt_One_value 25 rfl) rfl (lv_at hl 1 rfl) ?_
          obtain ⟨r8, h_r8, h⟩ := ob_of h
          have hPc : va_P D CLS (wE a q) H := fun k q h => by simp [wE] at h
          have hd : va_D (fun _ => True) (dE a) := dE_D a
          have hKc : va_K D CLS (tE q) s := hK.sub (tys' := []) [] rfl
          have hF : ∀ x, va_A (dE a) H.size x → A x := fun x h9 => h9.elim (fun ⟨k, e, h⟩ => by simp [dE] at h) (fun g => hA _ (Nat.le_trans hS.1 g))
          refine va_calll (va_runV (As := []) (rest := [.long r7]) ⟨hx, hb, hml, hown, hts⟩ (c_Cell_magnitude l D a q  hd H.size v1_l v1_h v1_m  y_v1 (nin_E a y_v1) r8 h_r8) (cwV 0 hts (gd_V (m_3 131 rfl rfl) (m_1 213 rfl rfl) (m_1 214 rfl rfl) (m_1 10 rfl rfl) (m_1 215 rfl rfl)) rfl rfl rfl (by decide +kernel) ⟨Nat.le_of_ble_eq_true rfl, Nat.le_of_ble_eq_true rfl⟩) ⟨fun a U g mk q => ⟨q.1, q.2.1, q.2.2.1, va_K.moved (u := U) (U := U.calling g mk a) (Vm.Alike.refl U.vm) q.2.2.2.1, q.2.2.2.2⟩, va_recv hK hc_v1 (ci := 4) (q0 := 0) rfl rfl, fun U hU hW => ⟨rfl, by rw [hU], by rw [hU]; exact hPc, va_K.moved hW.alike hKc, by rw [hU]; exact hc_v1⟩⟩ rfl rfl hl.1 rfl (lv_room (Nat.le_of_ble_eq_true rfl)) (dt_at dt_One_value 26 rfl) ⟨Nat.le_of_ble_eq_true rfl, Nat.le_of_ble_eq_true rfl⟩) hS (fun x _ h9 => hF x h9) hF (fun u_r8 uu t H1 locs ht hvm hw hB hz1 hk1 hS => ?_)
          obtain rfl : r8 = u_r8 := hw.symm
          have hc_v1 := isC.keptA hc_v1 hk1 (nin_E a y_v1)
          have hP := va_P.kept hP (fun k q hq => hk1 _ (hP k q hq).lt (not_AE (hP k q hq).lt))
          have hSz : s.heap.size ≤ H1.size := hS.1
          clear hk1 hz1 hPc hF hB ht
          generalize H1 = H at hP hS hSz hc_v1 ⊢
          refine lv_iconst (v := 4) hx hb (dt_at dt_One_value 27 rfl) (by decide) ?_
          refine lv_aload_n hx hb (dt_at dt_One_value 28 rfl) rfl (lv_at hl 1 rfl) ?_
          refine va_get (D := D) (ci := 4) (v := .int v1_m) (C := "OutwardTape$Cell") (T := T_Cell) (N := 3) hx hb hts in_Cell hown hK hc_v1 0 rfl rfl 2 (by decide) (hts (Cond.fieldLink "OutwardTape$OneOperand" 7 "OutwardTape$Cell" "mark" "I") (m_2 132 rfl rfl)) (fun _ h9 => h9) rfl (dt_at dt_One_value 29 rfl) ?_
          obtain ⟨r9, h_r9, h⟩ := ob_of h
          have hPc : va_P D CLS (wE a q) H := fun k q h => by simp [wE] at h
          have hd : va_D (fun _ => True) (dE a) := dE_D a
          have hKc : va_K D CLS (tE q) s := hK.sub (tys' := []) [] rfl
          have hF : ∀ x, va_A (dE a) H.size x → A x := fun x h9 => h9.elim (fun ⟨k, e, h⟩ => by simp [dE] at h) (fun g => hA _ (Nat.le_trans hS.1 g))
          refine va_callr (va_runS (As := [.long r7, .long r8, .int (4 : Int32), .int v1_m]) (rest := []) ⟨hx, hb, hml, hown, hts⟩ (c_Cell_value l D a q  hd H.size r7 r8 (4 : Int32) v1_m    r9 h_r9) (va_cwS 4 hts (gd_S (m_3 129 rfl rfl) (m_2 219 rfl rfl) (m_1 10 rfl rfl) (m_2 220 rfl rfl)) rfl rfl rfl (by decide +kernel) ⟨Nat.le_of_ble_eq_true rfl, Nat.le_of_ble_eq_true rfl⟩) ⟨fun a U g mk q => ⟨q.1, q.2.1, q.2.2.1, va_K.moved (u := U) (U := U.calling g mk a) (Vm.Alike.refl U.vm) q.2.2.2⟩, fun U hU hW => ⟨rfl, by rw [hU], by rw [hU]; exact hPc, va_K.moved hW.alike hKc⟩⟩ rfl rfl hl.1 rfl (lv_room (Nat.le_of_ble_eq_true rfl)) (dt_at dt_One_value 30 rfl) ⟨Nat.le_of_ble_eq_true rfl, Nat.le_of_ble_eq_true rfl⟩) hS (fun x _ h9 => hF x h9) hF (fun uu y_r9 t H1 locs ht hvm hw hB hz1 hk1 hS => ?_)
          obtain ⟨hB, hc_r9, hq_r9⟩ := hB
          rw [ht] at hc_r9
          have hn_r9 : nin (dE a) y_r9 := nin_cases hq_r9 (fun g9 => nin_big hP g9 rfl) (fun g9 => by simp at g9)
          have hf_r9 : s.heap.size ≤ y_r9 ∨ y_r9 ∈ PL := nin_cases hq_r9 (fun g9 => Or.inl (Nat.le_trans hSz g9)) (fun g9 => by simp at g9)
          clear hq_r9
          have hc_v1 := isC.keptA hc_v1 hk1 (nin_E a y_v1)
          have hP := va_P.kept hP (fun k q hq => hk1 _ (hP k q hq).lt (not_AE (hP k q hq).lt))
          refine W.widen (k := 2) (n := 6) (Nat.le_of_ble_eq_true rfl) (Nat.le_of_ble_eq_true rfl) ?_
          have hSz : s.heap.size ≤ H1.size := hS.1
          clear hk1 hz1 hPc hF hB ht
          generalize H1 = H at hP hS hSz hc_v1 hc_r9 ⊢
          obtain rfl := os_of h
          exact W.aret hx hb hr (Or.inl ⟨_, rfl⟩) (Or.inr ⟨_, rfl⟩) (fun t ht hW => ⟨⟨(), y_r9, rfl, trivial, (hPt hP ht), hPt hc_r9 ht, hf_r9⟩, hS.F ht⟩) hS.2.2 (dt_at dt_One_value 31 rfl)
        · have h := if_n h c6
          by_cases c10 : v0 = (2 : Int32)
          · have h := if_p h c10
            refine lv_tableIn (off := 85) (tgt := 108) hx hb (dt_at dt_One_value 11 rfl) (by rw [c10]; decide) (by rw [c10]; decide) (by rw [c10]; rfl) (by decide) ?_
            refine lv_aload_n hx hb (dt_at dt_One_value 32 rfl) rfl (lv_at hl 1 rfl) ?_
            obtain ⟨r11, h_r11, h⟩ := ob_of h
            have hPc : va_P D CLS (wE a q) H := fun k q h => by simp [wE] at h
            have hd : va_D (fun _ => True) (dE a) := dE_D a
            have hKc : va_K D CLS (tE q) s := hK.sub (tys' := []) [] rfl
            have hF : ∀ x, va_A (dE a) H.size x → A x := fun x h9 => h9.elim (fun ⟨k, e, h⟩ => by simp [dE] at h) (fun g => hA _ (Nat.le_trans hS.1 g))
            refine va_callr (va_runS (As := [.ref y_v1]) (rest := []) ⟨hx, hb, hml, hown, hts⟩ (c_One_square l D a q  hd H.size v1_l v1_h v1_m  y_v1 (nin_E a y_v1) r11 h_r11) (va_cwS 1 hts (gd_S (m_3 132 rfl rfl) (m_3 133 rfl rfl) (m_1 19 rfl rfl) (m_3 134 rfl rfl)) rfl rfl rfl (by decide +kernel) ⟨Nat.le_of_ble_eq_true rfl, Nat.le_of_ble_eq_true rfl⟩) ⟨fun a U g mk q => ⟨q.1, q.2.1, q.2.2.1, va_K.moved (u := U) (U := U.calling g mk a) (Vm.Alike.refl U.vm) q.2.2.2.1, q.2.2.2.2⟩, fun U hU hW => ⟨rfl, by rw [hU], by rw [hU]; exact hPc, va_K.moved hW.alike hKc, by rw [hU]; exact hc_v1⟩⟩ rfl rfl hl.1 rfl (lv_room (Nat.le_of_ble_eq_true rfl)) (dt_at dt_One_value 33 rfl) ⟨Nat.le_of_ble_eq_true rfl, Nat.le_of_ble_eq_true rfl⟩) hS (fun x _ h9 => hF x h9) hF (fun uu y_r11 t H1 locs ht hvm hw hB hz1 hk1 hS => ?_)
            obtain ⟨hB, hc_r11, hq_r11⟩ := hB
            rw [ht] at hc_r11
            have hn_r11 : nin (dE a) y_r11 := nin_cases hq_r11 (fun g9 => nin_big hP g9 rfl) (fun g9 => by simp only [List.mem_cons, List.not_mem_nil, or_false] at g9; subst g9; assumption)
            have hf_r11 : s.heap.size ≤ y_r11 ∨ y_r11 ∈ PL := nin_cases hq_r11 (fun g9 => Or.inl (Nat.le_trans hSz g9)) (fun g9 => by simp only [List.mem_cons, List.not_mem_nil, or_false] at g9; subst g9; assumption)
            clear hq_r11
            have hc_v1 := isC.keptA hc_v1 hk1 (nin_E a y_v1)
            have hP := va_P.kept hP (fun k q hq => hk1 _ (hP k q hq).lt (not_AE (hP k q hq).lt))
            refine W.widen (k := 2) (n := 6) (Nat.le_of_ble_eq_true rfl) (Nat.le_of_ble_eq_true rfl) ?_
            have hSz : s.heap.size ≤ H1.size := hS.1
            clear hk1 hz1 hPc hF hB ht
            generalize H1 = H at hP hS hSz hc_v1 hc_r11 ⊢
            obtain rfl := os_of h
            exact W.aret hx hb hr (Or.inl ⟨_, rfl⟩) (Or.inr ⟨_, rfl⟩) (fun t ht hW => ⟨⟨(), y_r11, rfl, trivial, (hPt hP ht), hPt hc_r11 ht, hf_r11⟩, hS.F ht⟩) hS.2.2 (dt_at dt_One_value 34 rfl)
          · have h := if_n h c10
            by_cases c12 : v0 = (3 : Int32)
            · have h := if_p h c12
              refine lv_tableIn (off := 90) (tgt := 113) hx hb (dt_at dt_One_value 11 rfl) (by rw [c12]; decide) (by rw [c12]; decide) (by rw [c12]; rfl) (by decide) ?_
              refine lv_aload_n hx hb (dt_at dt_One_value 35 rfl) rfl (lv_at hl 1 rfl) ?_
              obtain ⟨r13, h_r13, h⟩ := ob_of h
              have hPc : va_P D CLS (wE a q) H := fun k q h => by simp [wE] at h
              have hd : va_D (fun _ => True) (dE a) := dE_D a
              have hKc : va_K D CLS (tE q) s := hK.sub (tys' := []) [] rfl
              have hF : ∀ x, va_A (dE a) H.size x → A x := fun x h9 => h9.elim (fun ⟨k, e, h⟩ => by simp [dE] at h) (fun g => hA _ (Nat.le_trans hS.1 g))
              refine va_callr (va_runS (As := [.ref y_v1]) (rest := []) ⟨hx, hb, hml, hown, hts⟩ (c_One_root l D a q  hd H.size v1_l v1_h v1_m  y_v1 (nin_E a y_v1) r13 h_r13) (va_cwS 1 hts (gd_S (m_3 145 rfl rfl) (m_3 146 rfl rfl) (m_1 19 rfl rfl) (m_3 147 rfl rfl)) rfl rfl rfl (by decide +kernel) ⟨Nat.le_of_ble_eq_true rfl, Nat.le_of_ble_eq_true rfl⟩) ⟨fun a U g mk q => ⟨q.1, q.2.1, q.2.2.1, va_K.moved (u := U) (U := U.calling g mk a) (Vm.Alike.refl U.vm) q.2.2.2.1, q.2.2.2.2⟩, fun U hU hW => ⟨rfl, by rw [hU], by rw [hU]; exact hPc, va_K.moved hW.alike hKc, by rw [hU]; exact hc_v1⟩⟩ rfl rfl hl.1 rfl (lv_room (Nat.le_of_ble_eq_true rfl)) (dt_at dt_One_value 36 rfl) ⟨Nat.le_of_ble_eq_true rfl, Nat.le_of_ble_eq_true rfl⟩) hS (fun x _ h9 => hF x h9) hF (fun uu y_r13 t H1 locs ht hvm hw hB hz1 hk1 hS => ?_)
              obtain ⟨hB, hc_r13, hq_r13⟩ := hB
              rw [ht] at hc_r13
              have hn_r13 : nin (dE a) y_r13 := nin_cases hq_r13 (fun g9 => nin_big hP g9 rfl) (fun g9 => by simp only [List.mem_cons, List.not_mem_nil, or_false] at g9; subst g9; assumption)
              have hf_r13 : s.heap.size ≤ y_r13 ∨ y_r13 ∈ PL := nin_cases hq_r13 (fun g9 => Or.inl (Nat.le_trans hSz g9)) (fun g9 => by simp only [List.mem_cons, List.not_mem_nil, or_false] at g9; subst g9; assumption)
              clear hq_r13
              have hc_v1 := isC.keptA hc_v1 hk1 (nin_E a y_v1)
              have hP := va_P.kept hP (fun k q hq => hk1 _ (hP k q hq).lt (not_AE (hP k q hq).lt))
              refine W.widen (k := 2) (n := 6) (Nat.le_of_ble_eq_true rfl) (Nat.le_of_ble_eq_true rfl) ?_
              have hSz : s.heap.size ≤ H1.size := hS.1
              clear hk1 hz1 hPc hF hB ht
              generalize H1 = H at hP hS hSz hc_v1 hc_r13 ⊢
              obtain rfl := os_of h
              exact W.aret hx hb hr (Or.inl ⟨_, rfl⟩) (Or.inr ⟨_, rfl⟩) (fun t ht hW => ⟨⟨(), y_r13, rfl, trivial, (hPt hP ht), hPt hc_r13 ht, hf_r13⟩, hS.F ht⟩) hS.2.2 (dt_at dt_One_value 37 rfl)
            · have h := if_n h c12
              by_cases c14 : v0 = (4 : Int32)
              · have h := if_p h c14
                refine lv_tableIn (off := 95) (tgt := 118) hx hb (dt_at dt_One_value 11 rfl) (by rw [c14]; decide) (by rw [c14]; decide) (by rw [c14]; rfl) (by decide) ?_
                refine lv_ldc2 (v := 4607182418800017408) hx hb hown (hts (Cond.constantLong "OutwardTape$OneOperand" 53 (4607182418800017408)) (m_3 153 rfl rfl)) (dt_at dt_One_value 38 rfl) ?_
                refine lv_ldc2 (v := 4607182418800017408) hx hb hown (hts (Cond.constantLong "OutwardTape$OneOperand" 53 (4607182418800017408)) (m_3 153 rfl rfl)) (dt_at dt_One_value 39 rfl) ?_
                refine lv_aload_n hx hb (dt_at dt_One_value 40 rfl) rfl (lv_at hl 1 rfl) ?_
                refine lv_aload_n hx hb (dt_at dt_One_value 41 rfl) rfl (lv_at hl 1 rfl) ?_
                refine va_get (D := D) (ci := 4) (v := .int v1_m) (C := "OutwardTape$Cell") (T := T_Cell) (N := 3) hx hb hts in_Cell hown hK hc_v1 0 rfl rfl 2 (by decide) (hts (Cond.fieldLink "OutwardTape$OneOperand" 7 "OutwardTape$Cell" "mark" "I") (m_2 132 rfl rfl)) (fun _ h9 => h9) rfl (dt_at dt_One_value 42 rfl) ?_
                obtain ⟨r15, h_r15, h⟩ := ob_of h
                have hPc : va_P D CLS (wE a q) H := fun k q h => by simp [wE] at h
                have hd : va_D (fun _ => True) (dE a) := dE_D a
                have hKc : va_K D CLS (tE q) s := hK.sub (tys' := []) [] rfl
                have hF : ∀ x, va_A (dE a) H.size x → A x := fun x h9 => h9.elim (fun ⟨k, e, h⟩ => by simp [dE] at h) (fun g => hA _ (Nat.le_trans hS.1 g))
                refine va_callr (va_runS (As := [.long (4607182418800017408 : Int64), .long (4607182418800017408 : Int64), .ref y_v1, .int v1_m]) (rest := []) ⟨hx, hb, hml, hown, hts⟩ (c_Div_value l D a q  hd H.size (4607182418800017408 : Int64) (4607182418800017408 : Int64) v1_l v1_h v1_m v1_m  y_v1 (nin_E a y_v1) r15 h_r15) (va_cwS 4 hts (gd_S (m_3 154 rfl rfl) (m_3 155 rfl rfl) (m_1 20 rfl rfl) (m_3 156 rfl rfl)) rfl rfl rfl (by decide +kernel) ⟨Nat.le_of_ble_eq_true rfl, Nat.le_of_ble_eq_true rfl⟩) ⟨fun a U g mk q => ⟨q.1, q.2.1, q.2.2.1, va_K.moved (u := U) (U := U.calling g mk a) (Vm.Alike.refl U.vm) q.2.2.2.1, q.2.2.2.2⟩, fun U hU hW => ⟨rfl, by rw [hU], by rw [hU]; exact hPc, va_K.moved hW.alike hKc, by rw [hU]; exact hc_v1⟩⟩ rfl rfl hl.1 rfl (lv_room (Nat.le_of_ble_eq_true rfl)) (dt_at dt_One_value 43 rfl) ⟨Nat.le_of_ble_eq_true rfl, Nat.le_of_ble_eq_true rfl⟩) hS (fun x _ h9 => hF x h9) hF (fun uu y_r15 t H1 locs ht hvm hw hB hz1 hk1 hS => ?_)
                obtain ⟨hB, hc_r15, hq_r15⟩ := hB
                rw [ht] at hc_r15
                have hn_r15 : nin (dE a) y_r15 := nin_cases hq_r15 (fun g9 => nin_big hP g9 rfl) (fun g9 => by simp only [List.mem_cons, List.not_mem_nil, or_false] at g9; subst g9; assumption)
                have hf_r15 : s.heap.size ≤ y_r15 ∨ y_r15 ∈ PL := nin_cases hq_r15 (fun g9 => Or.inl (Nat.le_trans hSz g9)) (fun g9 => by simp only [List.mem_cons, List.not_mem_nil, or_false] at g9; subst g9; assumption)
                clear hq_r15
                have hc_v1 := isC.keptA hc_v1 hk1 (nin_E a y_v1)
                have hP := va_P.kept hP (fun k q hq => hk1 _ (hP k q hq).lt (not_AE (hP k q hq).lt))
                refine W.widen (k := 2) (n := 6) (Nat.le_of_ble_eq_true rfl) (Nat.le_of_ble_eq_true rfl) ?_
                have hSz : s.heap.size ≤ H1.size := hS.1
                clear hk1 hz1 hPc hF hB ht
                generalize H1 = H at hP hS hSz hc_v1 hc_r15 ⊢
                obtain rfl := os_of h
                exact W.aret hx hb hr (Or.inl ⟨_, rfl⟩) (Or.inr ⟨_, rfl⟩) (fun t ht hW => ⟨⟨(), y_r15, rfl, trivial, (hPt hP ht), hPt hc_r15 ht, hf_r15⟩, hS.F ht⟩) hS.2.2 (dt_at dt_One_value 44 rfl)
              · have h := if_n h c14
                by_cases c16 : v0 = (5 : Int32)
                · have h := if_p h c16
                  refine lv_tableIn (off := 110) (tgt := 133) hx hb (dt_at dt_One_value 11 rfl) (by rw [c16]; decide) (by rw [c16]; decide) (by rw [c16]; rfl) (by decide) ?_
                  refine lv_aload_n hx hb (dt_at dt_One_value 45 rfl) rfl (lv_at hl 1 rfl) ?_
                  refine va_get (D := D) (ci := 4) (v := .long v1_l) (C := "OutwardTape$Cell") (T := T_Cell) (N := 3) hx hb hts in_Cell hown hK hc_v1 0 rfl rfl 0 (by decide) (hts (Cond.fieldLink "OutwardTape$OneOperand" 28 "OutwardTape$Cell" "low" "J") (m_2 119 rfl rfl)) (fun _ h9 => h9) rfl (dt_at dt_One_value 46 rfl) ?_
                  obtain ⟨r17, h_r17, h⟩ := ob_of h
                  refine vp_callSl (W.runS (As := [.long v1_l]) (rest := []) ⟨hx, hb, hml, hown, hts⟩ (c_Rank_floor l v1_l r17 h_r17) (va_cwS 1 hts (gd_S (m_3 170 rfl rfl) (m_3 171 rfl rfl) (m_1 15 rfl rfl) (m_3 172 rfl rfl)) rfl rfl rfl (by decide +kernel) ⟨Nat.le_of_ble_eq_true rfl, Nat.le_of_ble_eq_true rfl⟩) ⟨fun _ _ _ _ q => q, fun U hU hW => ⟨rfl, trivial⟩⟩ rfl rfl hl.1 rfl (lv_room (Nat.le_of_ble_eq_true rfl)) (dt_at dt_One_value 47 rfl) ⟨Nat.le_of_ble_eq_true rfl, Nat.le_of_ble_eq_true rfl⟩) (fun u_r17 q_r17 => ?_)
                  obtain rfl : r17 = u_r17 := q_r17.symm
                  refine lv_aload_n hx hb (dt_at dt_One_value 48 rfl) rfl (lv_at hl 1 rfl) ?_
                  refine va_get (D := D) (ci := 4) (v := .long v1_h) (C := "OutwardTape$Cell") (T := T_Cell) (N := 3) hx hb hts in_Cell hown hK hc_v1 0 rfl rfl 1 (by decide) (hts (Cond.fieldLink "OutwardTape$OneOperand" 24 "OutwardTape$Cell" "high" "J") (m_2 126 rfl rfl)) (fun _ h9 => h9) rfl (dt_at dt_One_value 49 rfl) ?_
                  obtain ⟨r18, h_r18, h⟩ := ob_of h
                  refine vp_callSl (W.runS (As := [.long v1_h]) (rest := [.long r17]) ⟨hx, hb, hml, hown, hts⟩ (c_Rank_floor l v1_h r18 h_r18) (va_cwS 1 hts (gd_S (m_3 170 rfl rfl) (m_3 171 rfl rfl) (m_1 15 rfl rfl) (m_3 172 rfl rfl)) rfl rfl rfl (by decide +kernel) ⟨Nat.le_of_ble_eq_true rfl, Nat.le_of_ble_eq_true rfl⟩) ⟨fun _ _ _ _ q => q, fun U hU hW => ⟨rfl, trivial⟩⟩ rfl rfl hl.1 rfl (lv_room (Nat.le_of_ble_eq_true rfl)) (dt_at dt_One_value 50 rfl) ⟨Nat.le_of_ble_eq_true rfl, Nat.le_of_ble_eq_true rfl⟩) (fun u_r18 q_r18 => ?_)
                  obtain rfl : r18 = u_r18 := q_r18.symm
                  refine lv_aload_n hx hb (dt_at dt_One_value 51 rfl) rfl (lv_at hl 1 rfl) ?_
                  refine va_get (D := D) (ci := 4) (v := .int v1_m) (C := "OutwardTape$Cell") (T := T_Cell) (N := 3) hx hb hts in_Cell hown hK hc_v1 0 rfl rfl 2 (by decide) (hts (Cond.fieldLink "OutwardTape$OneOperand" 7 "OutwardTape$Cell" "mark" "I") (m_2 132 rfl rfl)) (fun _ h9 => h9) rfl (dt_at dt_One_value 52 rfl) ?_
                  obtain ⟨r19, h_r19, h⟩ := ob_of h
                  have hPc : va_P D CLS (wE a q) H := fun k q h => by simp [wE] at h
                  have hd : va_D (fun _ => True) (dE a) := dE_D a
                  have hKc : va_K D CLS (tE q) s := hK.sub (tys' := []) [] rfl
                  have hF : ∀ x, va_A (dE a) H.size x → A x := fun x h9 => h9.elim (fun ⟨k, e, h⟩ => by simp [dE] at h) (fun g => hA _ (Nat.le_trans hS.1 g))
                  refine va_callr (va_runS (As := [.long r17, .long r18, .int v1_m]) (rest := []) ⟨hx, hb, hml, hown, hts⟩ (c_One_stepwise l D a q  hd H.size r17 r18 v1_m    r19 h_r19) (va_cwS 3 hts (gd_S (m_3 179 rfl rfl) (m_3 180 rfl rfl) (m_1 19 rfl rfl) (m_3 181 rfl rfl)) rfl rfl rfl (by decide +kernel) ⟨Nat.le_of_ble_eq_true rfl, Nat.le_of_ble_eq_true rfl⟩) ⟨fun a U g mk q => ⟨q.1, q.2.1, q.2.2.1, va_K.moved (u := U) (U := U.calling g mk a) (Vm.Alike.refl U.vm) q.2.2.2⟩, fun U hU hW => ⟨rfl, by rw [hU], by rw [hU]; exact hPc, va_K.moved hW.alike hKc⟩⟩ rfl rfl hl.1 rfl (lv_room (Nat.le_of_ble_eq_true rfl)) (dt_at dt_One_value 53 rfl) ⟨Nat.le_of_ble_eq_true rfl, Nat.le_of_ble_eq_true rfl⟩) hS (fun x _ h9 => hF x h9) hF (fun uu y_r19 t H1 locs ht hvm hw hB hz1 hk1 hS => ?_)
                  obtain ⟨hB, hc_r19, hq_r19⟩ := hB
                  rw [ht] at hc_r19
                  have hn_r19 : nin (dE a) y_r19 := nin_cases hq_r19 (fun g9 => nin_big hP g9 rfl) (fun g9 => by simp at g9)
                  have hf_r19 : s.heap.size ≤ y_r19 ∨ y_r19 ∈ PL := nin_cases hq_r19 (fun g9 => Or.inl (Nat.le_trans hSz g9)) (fun g9 => by simp at g9)
                  clear hq_r19
                  have hc_v1 := isC.keptA hc_v1 hk1 (nin_E a y_v1)
                  have hP := va_P.kept hP (fun k q hq => hk1 _ (hP k q hq).lt (not_AE (hP k q hq).lt))
                  refine W.widen (k := 2) (n := 6) (Nat.le_of_ble_eq_true rfl) (Nat.le_of_ble_eq_true rfl) ?_
                  have hSz : s.heap.size ≤ H1.size := hS.1
                  clear hk1 hz1 hPc hF hB ht
                  generalize H1 = H at hP hS hSz hc_v1 hc_r19 ⊢
                  obtain rfl := os_of h
                  exact W.aret hx hb hr (Or.inl ⟨_, rfl⟩) (Or.inr ⟨_, rfl⟩) (fun t ht hW => ⟨⟨(), y_r19, rfl, trivial, (hPt hP ht), hPt hc_r19 ht, hf_r19⟩, hS.F ht⟩) hS.2.2 (dt_at dt_One_value 54 rfl)
                · have h := if_n h c16
                  by_cases c20 : v0 = (6 : Int32)
                  · have h := if_p h c20
                    refine lv_tableIn (off := 132) (tgt := 155) hx hb (dt_at dt_One_value 11 rfl) (by rw [c20]; decide) (by rw [c20]; decide) (by rw [c20]; rfl) (by decide) ?_
                    refine lv_aload_n hx hb (dt_at dt_One_value 55 rfl) rfl (lv_at hl 1 rfl) ?_
                    refine va_get (D := D) (ci := 4) (v := .long v1_l) (C := "OutwardTape$Cell") (T := T_Cell) (N := 3) hx hb hts in_Cell hown hK hc_v1 0 rfl rfl 0 (by decide) (hts (Cond.fieldLink "OutwardTape$OneOperand" 28 "OutwardTape$Cell" "low" "J") (m_2 119 rfl rfl)) (fun _ h9 => h9) rfl (dt_at dt_One_value 56 rfl) ?_
                    refine lv_lneg hx hb (dt_at dt_One_value 57 rfl) ?_
                    obtain ⟨r21, h_r21, h⟩ := ob_of h
                    refine vp_callSl (W.runS (As := [.long (-v1_l)]) (rest := []) ⟨hx, hb, hml, hown, hts⟩ (c_Rank_floor l (-v1_l) r21 h_r21) (va_cwS 1 hts (gd_S (m_3 170 rfl rfl) (m_3 171 rfl rfl) (m_1 15 rfl rfl) (m_3 172 rfl rfl)) rfl rfl rfl (by decide +kernel) ⟨Nat.le_of_ble_eq_true rfl, Nat.le_of_ble_eq_true rfl⟩) ⟨fun _ _ _ _ q => q, fun U hU hW => ⟨rfl, trivial⟩⟩ rfl rfl hl.1 rfl (lv_room (Nat.le_of_ble_eq_true rfl)) (dt_at dt_One_value 58 rfl) ⟨Nat.le_of_ble_eq_true rfl, Nat.le_of_ble_eq_true rfl⟩) (fun u_r21 q_r21 => ?_)
                    obtain rfl : r21 = u_r21 := q_r21.symm
                    refine lv_lneg hx hb (dt_at dt_One_value 59 rfl) ?_
                    refine lv_aload_n hx hb (dt_at dt_One_value 60 rfl) rfl (lv_at hl 1 rfl) ?_
                    refine va_get (D := D) (ci := 4) (v := .long v1_h) (C := "OutwardTape$Cell") (T := T_Cell) (N := 3) hx hb hts in_Cell hown hK hc_v1 0 rfl rfl 1 (by decide) (hts (Cond.fieldLink "OutwardTape$OneOperand" 24 "OutwardTape$Cell" "high" "J") (m_2 126 rfl rfl)) (fun _ h9 => h9) rfl (dt_at dt_One_value 61 rfl) ?_
                    refine lv_lneg hx hb (dt_at dt_One_value 62 rfl) ?_
                    obtain ⟨r22, h_r22, h⟩ := ob_of h
                    refine vp_callSl (W.runS (As := [.long (-v1_h)]) (rest := [.long (-r21)]) ⟨hx, hb, hml, hown, hts⟩ (c_Rank_floor l (-v1_h) r22 h_r22) (va_cwS 1 hts (gd_S (m_3 170 rfl rfl) (m_3 171 rfl rfl) (m_1 15 rfl rfl) (m_3 172 rfl rfl)) rfl rfl rfl (by decide +kernel) ⟨Nat.le_of_ble_eq_true rfl, Nat.le_of_ble_eq_true rfl⟩) ⟨fun _ _ _ _ q => q, fun U hU hW => ⟨rfl, trivial⟩⟩ rfl rfl hl.1 rfl (lv_room (Nat.le_of_ble_eq_true rfl)) (dt_at dt_One_value 63 rfl) ⟨Nat.le_of_ble_eq_true rfl, Nat.le_of_ble_eq_true rfl⟩) (fun u_r22 q_r22 => ?_)
                    obtain rfl : r22 = u_r22 := q_r22.symm
                    refine lv_lneg hx hb (dt_at dt_One_value 64 rfl) ?_
                    refine lv_aload_n hx hb (dt_at dt_One_value 65 rfl) rfl (lv_at hl 1 rfl) ?_
                    refine va_get (D := D) (ci := 4) (v := .int v1_m) (C := "OutwardTape$Cell") (T := T_Cell) (N := 3) hx hb hts in_Cell hown hK hc_v1 0 rfl rfl 2 (by decide) (hts (Cond.fieldLink "OutwardTape$OneOperand" 7 "OutwardTape$Cell" "mark" "I") (m_2 132 rfl rfl)) (fun _ h9 => h9) rfl (dt_at dt_One_value 66 rfl) ?_
                    obtain ⟨r23, h_r23, h⟩ := ob_of h
                    have hPc : va_P D CLS (wE a q) H := fun k q h => by simp [wE] at h
                    have hd : va_D (fun _ => True) (dE a) := dE_D a
                    have hKc : va_K D CLS (tE q) s := hK.sub (tys' := []) [] rfl
                    have hF : ∀ x, va_A (dE a) H.size x → A x := fun x h9 => h9.elim (fun ⟨k, e, h⟩ => by simp [dE] at h) (fun g => hA _ (Nat.le_trans hS.1 g))
                    refine va_callr (va_runS (As := [.long (-r21), .long (-r22), .int v1_m]) (rest := []) ⟨hx, hb, hml, hown, hts⟩ (c_One_stepwise l D a q  hd H.size (-r21) (-r22) v1_m    r23 h_r23) (va_cwS 3 hts (gd_S (m_3 179 rfl rfl) (m_3 180 rfl rfl) (m_1 19 rfl rfl) (m_3 181 rfl rfl)) rfl rfl rfl (by decide +kernel) ⟨Nat.le_of_ble_eq_true rfl, Nat.le_of_ble_eq_true rfl⟩) ⟨fun a U g mk q => ⟨q.1, q.2.1, q.2.2.1, va_K.moved (u := U) (U := U.calling g mk a) (Vm.Alike.refl U.vm) q.2.2.2⟩, fun U hU hW => ⟨rfl, by rw [hU], by rw [hU]; exact hPc, va_K.moved hW.alike hKc⟩⟩ rfl rfl hl.1 rfl (lv_room (Nat.le_of_ble_eq_true rfl)) (dt_at dt_One_value 67 rfl) ⟨Nat.le_of_ble_eq_true rfl, Nat.le_of_ble_eq_true rfl⟩) hS (fun x _ h9 => hF x h9) hF (fun uu y_r23 t H1 locs ht hvm hw hB hz1 hk1 hS => ?_)
                    obtain ⟨hB, hc_r23, hq_r23⟩ := hB
                    rw [ht] at hc_r23
                    have hn_r23 : nin (dE a) y_r23 := nin_cases hq_r23 (fun g9 => nin_big hP g9 rfl) (fun g9 => by simp at g9)
                    have hf_r23 : s.heap.size ≤ y_r23 ∨ y_r23 ∈ PL := nin_cases hq_r23 (fun g9 => Or.inl (Nat.le_trans hSz g9)) (fun g9 => by simp at g9)
                    clear hq_r23
                    have hc_v1 := isC.keptA hc_v1 hk1 (nin_E a y_v1)
                    have hP := va_P.kept hP (fun k q hq => hk1 _ (hP k q hq).lt (not_AE (hP k q hq).lt))
                    refine W.widen (k := 2) (n := 6) (Nat.le_of_ble_eq_true rfl) (Nat.le_of_ble_eq_true rfl) ?_
                    have hSz : s.heap.size ≤ H1.size := hS.1
                    clear hk1 hz1 hPc hF hB ht
                    generalize H1 = H at hP hS hSz hc_v1 hc_r23 ⊢
                    obtain rfl := os_of h
                    exact W.aret hx hb hr (Or.inl ⟨_, rfl⟩) (Or.inr ⟨_, rfl⟩) (fun t ht hW => ⟨⟨(), y_r23, rfl, trivial, (hPt hP ht), hPt hc_r23 ht, hf_r23⟩, hS.F ht⟩) hS.2.2 (dt_at dt_One_value 68 rfl)
                  · have h := if_n h c20
                    by_cases c24 : v0 = (7 : Int32)
                    · have h := if_p h c24
                      refine lv_tableIn (off := 158) (tgt := 181) hx hb (dt_at dt_One_value 11 rfl) (by rw [c24]; decide) (by rw [c24]; decide) (by rw [c24]; rfl) (by decide) ?_
                      refine lv_aload_n hx hb (dt_at dt_One_value 69 rfl) rfl (lv_at hl 1 rfl) ?_
                      refine va_get (D := D) (ci := 4) (v := .long v1_l) (C := "OutwardTape$Cell") (T := T_Cell) (N := 3) hx hb hts in_Cell hown hK hc_v1 0 rfl rfl 0 (by decide) (hts (Cond.fieldLink "OutwardTape$OneOperand" 28 "OutwardTape$Cell" "low" "J") (m_2 119 rfl rfl)) (fun _ h9 => h9) rfl (dt_at dt_One_value 70 rfl) ?_
                      obtain ⟨r25, h_r25, h⟩ := ob_of h
                      refine vp_callSl (W.runS (As := [.long v1_l]) (rest := []) ⟨hx, hb, hml, hown, hts⟩ (c_Rank_towardsZero l v1_l r25 h_r25) (va_cwS 1 hts (gd_S (m_3 182 rfl rfl) (m_3 174 rfl rfl) (m_1 15 rfl rfl) (m_3 175 rfl rfl)) rfl rfl rfl (by decide +kernel) ⟨Nat.le_of_ble_eq_true rfl, Nat.le_of_ble_eq_true rfl⟩) ⟨fun _ _ _ _ q => q, fun U hU hW => ⟨rfl, trivial⟩⟩ rfl rfl hl.1 rfl (lv_room (Nat.le_of_ble_eq_true rfl)) (dt_at dt_One_value 71 rfl) ⟨Nat.le_of_ble_eq_true rfl, Nat.le_of_ble_eq_true rfl⟩) (fun u_r25 q_r25 => ?_)
                      obtain rfl : r25 = u_r25 := q_r25.symm
                      refine lv_aload_n hx hb (dt_at dt_One_value 72 rfl) rfl (lv_at hl 1 rfl) ?_
                      refine va_get (D := D) (ci := 4) (v := .long v1_h) (C := "OutwardTape$Cell") (T := T_Cell) (N := 3) hx hb hts in_Cell hown hK hc_v1 0 rfl rfl 1 (by decide) (hts (Cond.fieldLink "OutwardTape$OneOperand" 24 "OutwardTape$Cell" "high" "J") (m_2 126 rfl rfl)) (fun _ h9 => h9) rfl (dt_at dt_One_value 73 rfl) ?_
                      obtain ⟨r26, h_r26, h⟩ := ob_of h
                      refine vp_callSl (W.runS (As := [.long v1_h]) (rest := [.long r25]) ⟨hx, hb, hml, hown, hts⟩ (c_Rank_towardsZero l v1_h r26 h_r26) (va_cwS 1 hts (gd_S (m_3 182 rfl rfl) (m_3 174 rfl rfl) (m_1 15 rfl rfl) (m_3 175 rfl rfl)) rfl rfl rfl (by decide +kernel) ⟨Nat.le_of_ble_eq_true rfl, Nat.le_of_ble_eq_true rfl⟩) ⟨fun _ _ _ _ q => q, fun U hU hW => ⟨rfl, trivial⟩⟩ rfl rfl hl.1 rfl (lv_room (Nat.le_of_ble_eq_true rfl)) (dt_at dt_One_value 74 rfl) ⟨Nat.le_of_ble_eq_true rfl, Nat.le_of_ble_eq_true rfl⟩) (fun u_r26 q_r26 => ?_)
                      obtain rfl : r26 = u_r26 := q_r26.symm
                      refine lv_aload_n hx hb (dt_at dt_One_value 75 rfl) rfl (lv_at hl 1 rfl) ?_
                      refine va_get (D := D) (ci := 4) (v := .int v1_m) (C := "OutwardTape$Cell") (T := T_Cell) (N := 3) hx hb hts in_Cell hown hK hc_v1 0 rfl rfl 2 (by decide) (hts (Cond.fieldLink "OutwardTape$OneOperand" 7 "OutwardTape$Cell" "mark" "I") (m_2 132 rfl rfl)) (fun _ h9 => h9) rfl (dt_at dt_One_value 76 rfl) ?_
                      obtain ⟨r27, h_r27, h⟩ := ob_of h
                      have hPc : va_P D CLS (wE a q) H := fun k q h => by simp [wE] at h
                      have hd : va_D (fun _ => True) (dE a) := dE_D a
                      have hKc : va_K D CLS (tE q) s := hK.sub (tys' := []) [] rfl
                      have hF : ∀ x, va_A (dE a) H.size x → A x := fun x h9 => h9.elim (fun ⟨k, e, h⟩ => by simp [dE] at h) (fun g => hA _ (Nat.le_trans hS.1 g))
                      refine va_callr (va_runS (As := [.long r25, .long r26, .int v1_m]) (rest := []) ⟨hx, hb, hml, hown, hts⟩ (c_One_stepwise l D a q  hd H.size r25 r26 v1_m    r27 h_r27) (va_cwS 3 hts (gd_S (m_3 179 rfl rfl) (m_3 180 rfl rfl) (m_1 19 rfl rfl) (m_3 181 rfl rfl)) rfl rfl rfl (by decide +kernel) ⟨Nat.le_of_ble_eq_true rfl, Nat.le_of_ble_eq_true rfl⟩) ⟨fun a U g mk q => ⟨q.1, q.2.1, q.2.2.1, va_K.moved (u := U) (U := U.calling g mk a) (Vm.Alike.refl U.vm) q.2.2.2⟩, fun U hU hW => ⟨rfl, by rw [hU], by rw [hU]; exact hPc, va_K.moved hW.alike hKc⟩⟩ rfl rfl hl.1 rfl (lv_room (Nat.le_of_ble_eq_true rfl)) (dt_at dt_One_value 77 rfl) ⟨Nat.le_of_ble_eq_true rfl, Nat.le_of_ble_eq_true rfl⟩) hS (fun x _ h9 => hF x h9) hF (fun uu y_r27 t H1 locs ht hvm hw hB hz1 hk1 hS => ?_)
                      obtain ⟨hB, hc_r27, hq_r27⟩ := hB
                      rw [ht] at hc_r27
                      have hn_r27 : nin (dE a) y_r27 := nin_cases hq_r27 (fun g9 => nin_big hP g9 rfl) (fun g9 => by simp at g9)
                      have hf_r27 : s.heap.size ≤ y_r27 ∨ y_r27 ∈ PL := nin_cases hq_r27 (fun g9 => Or.inl (Nat.le_trans hSz g9)) (fun g9 => by simp at g9)
                      clear hq_r27
                      have hc_v1 := isC.keptA hc_v1 hk1 (nin_E a y_v1)
                      have hP := va_P.kept hP (fun k q hq => hk1 _ (hP k q hq).lt (not_AE (hP k q hq).lt))
                      refine W.widen (k := 2) (n := 6) (Nat.le_of_ble_eq_true rfl) (Nat.le_of_ble_eq_true rfl) ?_
                      have hSz : s.heap.size ≤ H1.size := hS.1
                      clear hk1 hz1 hPc hF hB ht
                      generalize H1 = H at hP hS hSz hc_v1 hc_r27 ⊢
                      obtain rfl := os_of h
                      exact W.aret hx hb hr (Or.inl ⟨_, rfl⟩) (Or.inr ⟨_, rfl⟩) (fun t ht hW => ⟨⟨(), y_r27, rfl, trivial, (hPt hP ht), hPt hc_r27 ht, hf_r27⟩, hS.F ht⟩) hS.2.2 (dt_at dt_One_value 78 rfl)
                    · have h := if_n h c24
                      by_cases c28 : v0 = (8 : Int32)
                      · have h := if_p h c28
                        refine lv_tableIn (off := 180) (tgt := 203) hx hb (dt_at dt_One_value 11 rfl) (by rw [c28]; decide) (by rw [c28]; decide) (by rw [c28]; rfl) (by decide) ?_
                        refine lv_aload_n hx hb (dt_at dt_One_value 79 rfl) rfl (lv_at hl 1 rfl) ?_
                        refine va_get (D := D) (ci := 4) (v := .long v1_l) (C := "OutwardTape$Cell") (T := T_Cell) (N := 3) hx hb hts in_Cell hown hK hc_v1 0 rfl rfl 0 (by decide) (hts (Cond.fieldLink "OutwardTape$OneOperand" 28 "OutwardTape$Cell" "low" "J") (m_2 119 rfl rfl)) (fun _ h9 => h9) rfl (dt_at dt_One_value 80 rfl) ?_
                        obtain ⟨r29, h_r29, h⟩ := ob_of h
                        refine vp_callSl (W.runS (As := [.long v1_l]) (rest := []) ⟨hx, hb, hml, hown, hts⟩ (c_Rank_sign l v1_l r29 h_r29) (va_cwS 1 hts (gd_S (m_3 183 rfl rfl) (m_3 184 rfl rfl) (m_1 15 rfl rfl) (m_3 185 rfl rfl)) rfl rfl rfl (by decide +kernel) ⟨Nat.le_of_ble_eq_true rfl, Nat.le_of_ble_eq_true rfl⟩) ⟨fun _ _ _ _ q => q, fun U hU hW => ⟨rfl, trivial⟩⟩ rfl rfl hl.1 rfl (lv_room (Nat.le_of_ble_eq_true rfl)) (dt_at dt_One_value 81 rfl) ⟨Nat.le_of_ble_eq_true rfl, Nat.le_of_ble_eq_true rfl⟩) (fun u_r29 q_r29 => ?_)
                        obtain rfl : r29 = u_r29 := q_r29.symm
                        refine lv_aload_n hx hb (dt_at dt_One_value 82 rfl) rfl (lv_at hl 1 rfl) ?_
                        refine va_get (D := D) (ci := 4) (v := .long v1_h) (C := "OutwardTape$Cell") (T := T_Cell) (N := 3) hx hb hts in_Cell hown hK hc_v1 0 rfl rfl 1 (by decide) (hts (Cond.fieldLink "OutwardTape$OneOperand" 24 "OutwardTape$Cell" "high" "J") (m_2 126 rfl rfl)) (fun _ h9 => h9) rfl (dt_at dt_One_value 83 rfl) ?_
                        obtain ⟨r30, h_r30, h⟩ := ob_of h
                        refine vp_callSl (W.runS (As := [.long v1_h]) (rest := [.long r29]) ⟨hx, hb, hml, hown, hts⟩ (c_Rank_sign l v1_h r30 h_r30) (va_cwS 1 hts (gd_S (m_3 183 rfl rfl) (m_3 184 rfl rfl) (m_1 15 rfl rfl) (m_3 185 rfl rfl)) rfl rfl rfl (by decide +kernel) ⟨Nat.le_of_ble_eq_true rfl, Nat.le_of_ble_eq_true rfl⟩) ⟨fun _ _ _ _ q => q, fun U hU hW => ⟨rfl, trivial⟩⟩ rfl rfl hl.1 rfl (lv_room (Nat.le_of_ble_eq_true rfl)) (dt_at dt_One_value 84 rfl) ⟨Nat.le_of_ble_eq_true rfl, Nat.le_of_ble_eq_true rfl⟩) (fun u_r30 q_r30 => ?_)
                        obtain rfl : r30 = u_r30 := q_r30.symm
                        refine lv_aload_n hx hb (dt_at dt_One_value 85 rfl) rfl (lv_at hl 1 rfl) ?_
                        refine va_get (D := D) (ci := 4) (v := .int v1_m) (C := "OutwardTape$Cell") (T := T_Cell) (N := 3) hx hb hts in_Cell hown hK hc_v1 0 rfl rfl 2 (by decide) (hts (Cond.fieldLink "OutwardTape$OneOperand" 7 "OutwardTape$Cell" "mark" "I") (m_2 132 rfl rfl)) (fun _ h9 => h9) rfl (dt_at dt_One_value 86 rfl) ?_
                        obtain ⟨r31, h_r31, h⟩ := ob_of h
                        have hPc : va_P D CLS (wE a q) H := fun k q h => by simp [wE] at h
                        have hd : va_D (fun _ => True) (dE a) := dE_D a
                        have hKc : va_K D CLS (tE q) s := hK.sub (tys' := []) [] rfl
                        have hF : ∀ x, va_A (dE a) H.size x → A x := fun x h9 => h9.elim (fun ⟨k, e, h⟩ => by simp [dE] at h) (fun g => hA _ (Nat.le_trans hS.1 g))
                        refine va_callr (va_runS (As := [.long r29, .long r30, .int v1_m]) (rest := []) ⟨hx, hb, hml, hown, hts⟩ (c_One_stepwise l D a q  hd H.size r29 r30 v1_m    r31 h_r31) (va_cwS 3 hts (gd_S (m_3 179 rfl rfl) (m_3 180 rfl rfl) (m_1 19 rfl rfl) (m_3 181 rfl rfl)) rfl rfl rfl (by decide +kernel) ⟨Nat.le_of_ble_eq_true rfl, Nat.le_of_ble_eq_true rfl⟩) ⟨fun a U g mk q => ⟨q.1, q.2.1, q.2.2.1, va_K.moved (u := U) (U := U.calling g mk a) (Vm.Alike.refl U.vm) q.2.2.2⟩, fun U hU hW => ⟨rfl, by rw [hU], by rw [hU]; exact hPc, va_K.moved hW.alike hKc⟩⟩ rfl rfl hl.1 rfl (lv_room (Nat.le_of_ble_eq_true rfl)) (dt_at dt_One_value 87 rfl) ⟨Nat.le_of_ble_eq_true rfl, Nat.le_of_ble_eq_true rfl⟩) hS (fun x _ h9 => hF x h9) hF (fun uu y_r31 t H1 locs ht hvm hw hB hz1 hk1 hS => ?_)
                        obtain ⟨hB, hc_r31, hq_r31⟩ := hB
                        rw [ht] at hc_r31
                        have hn_r31 : nin (dE a) y_r31 := nin_cases hq_r31 (fun g9 => nin_big hP g9 rfl) (fun g9 => by simp at g9)
                        have hf_r31 : s.heap.size ≤ y_r31 ∨ y_r31 ∈ PL := nin_cases hq_r31 (fun g9 => Or.inl (Nat.le_trans hSz g9)) (fun g9 => by simp at g9)
                        clear hq_r31
                        have hc_v1 := isC.keptA hc_v1 hk1 (nin_E a y_v1)
                        have hP := va_P.kept hP (fun k q hq => hk1 _ (hP k q hq).lt (not_AE (hP k q hq).lt))
                        refine W.widen (k := 2) (n := 6) (Nat.le_of_ble_eq_true rfl) (Nat.le_of_ble_eq_true rfl) ?_
                        have hSz : s.heap.size ≤ H1.size := hS.1
                        clear hk1 hz1 hPc hF hB ht
                        generalize H1 = H at hP hS hSz hc_v1 hc_r31 ⊢
                        obtain rfl := os_of h
                        exact W.aret hx hb hr (Or.inl ⟨_, rfl⟩) (Or.inr ⟨_, rfl⟩) (fun t ht hW => ⟨⟨(), y_r31, rfl, trivial, (hPt hP ht), hPt hc_r31 ht, hf_r31⟩, hS.F ht⟩) hS.2.2 (dt_at dt_One_value 88 rfl)
                      · have h := if_n h c28
                        have ho : (v0 : Int32).toInt < 0 ∨ 8 < (v0 : Int32).toInt := by
                          have n_c4 := ne_i c4 (show (0 : Int32).toInt = 0 by decide)
                          have n_c6 := ne_i c6 (show (1 : Int32).toInt = 1 by decide)
                          have n_c10 := ne_i c10 (show (2 : Int32).toInt = 2 by decide)
                          have n_c12 := ne_i c12 (show (3 : Int32).toInt = 3 by decide)
                          have n_c14 := ne_i c14 (show (4 : Int32).toInt = 4 by decide)
                          have n_c16 := ne_i c16 (show (5 : Int32).toInt = 5 by decide)
                          have n_c20 := ne_i c20 (show (6 : Int32).toInt = 6 by decide)
                          have n_c24 := ne_i c24 (show (7 : Int32).toInt = 7 by decide)
                          have n_c28 := ne_i c28 (show (8 : Int32).toInt = 8 by decide)
                          omega
                        refine lv_tableOut (tgt := 225) hx hb (dt_at dt_One_value 11 rfl) ho (by decide) ?_
                        obtain ⟨r32, h_r32, h⟩ := ob_of h
                        have hPc : va_P D CLS (wE a q) H := fun k q h => by simp [wE] at h
                        have hd : va_D (fun _ => True) (dE a) := dE_D a
                        have hKc : va_K D CLS (tE q) s := hK.sub (tys' := []) [] rfl
                        have hF : ∀ x, va_A (dE a) H.size x → A x := fun x h9 => h9.elim (fun ⟨k, e, h⟩ => by simp [dE] at h) (fun g => hA _ (Nat.le_trans hS.1 g))
                        refine va_callr (va_runS (As := []) (rest := []) ⟨hx, hb, hml, hown, hts⟩ (c_Cell_ill l D a q  hd H.size     r32 h_r32) (va_cwS 0 hts (gd_S (m_3 126 rfl rfl) (m_2 109 rfl rfl) (m_1 10 rfl rfl) (m_2 110 rfl rfl)) rfl rfl rfl (by decide +kernel) ⟨Nat.le_of_ble_eq_true rfl, Nat.le_of_ble_eq_true rfl⟩) ⟨fun a U g mk q => ⟨q.1, q.2.1, q.2.2.1, va_K.moved (u := U) (U := U.calling g mk a) (Vm.Alike.refl U.vm) q.2.2.2⟩, fun U hU hW => ⟨rfl, by rw [hU], by rw [hU]; exact hPc, va_K.moved hW.alike hKc⟩⟩ rfl rfl hl.1 rfl (lv_room (Nat.le_of_ble_eq_true rfl)) (dt_at dt_One_value 89 rfl) ⟨Nat.le_of_ble_eq_true rfl, Nat.le_of_ble_eq_true rfl⟩) hS (fun x _ h9 => hF x h9) hF (fun uu y_r32 t H1 locs ht hvm hw hB hz1 hk1 hS => ?_)
                        obtain ⟨hB, hc_r32, hq_r32⟩ := hB
                        rw [ht] at hc_r32
                        have hn_r32 : nin (dE a) y_r32 := nin_cases hq_r32 (fun g9 => nin_big hP g9 rfl) (fun g9 => by simp at g9)
                        have hf_r32 : s.heap.size ≤ y_r32 ∨ y_r32 ∈ PL := nin_cases hq_r32 (fun g9 => Or.inl (Nat.le_trans hSz g9)) (fun g9 => by simp at g9)
                        clear hq_r32
                        have hc_v1 := isC.keptA hc_v1 hk1 (nin_E a y_v1)
                        have hP := va_P.kept hP (fun k q hq => hk1 _ (hP k q hq).lt (not_AE (hP k q hq).lt))
                        refine W.widen (k := 1) (n := 3) (Nat.le_of_ble_eq_true rfl) (Nat.le_of_ble_eq_true rfl) ?_
                        have hSz : s.heap.size ≤ H1.size := hS.1
                        clear hk1 hz1 hPc hF hB ht
                        generalize H1 = H at hP hS hSz hc_v1 hc_r32 ⊢
                        obtain rfl := os_of h
                        refine W.widen (k := 2) (n := 6) (Nat.le_of_ble_eq_true rfl) (Nat.le_of_ble_eq_true rfl) ?_
                        exact W.aret hx hb hr (Or.inl ⟨_, rfl⟩) (Or.inr ⟨_, rfl⟩) (fun t ht hW => ⟨⟨(), y_r32, rfl, trivial, (hPt hP ht), hPt hc_r32 ht, hf_r32⟩, hS.F ht⟩) hS.2.2 (dt_at dt_One_value 90 rfl)
    · have h := if_n h c3
      obtain ⟨r33, h_r33, h⟩ := ob_of h
      have hPc : va_P D CLS (wE a q) H := fun k q h => by simp [wE] at h
      have hd : va_D (fun _ => True) (dE a) := dE_D a
      have hKc : va_K D CLS (tE q) s := hK.sub (tys' := []) [] rfl
      have hF : ∀ x, va_A (dE a) H.size x → A x := fun x h9 => h9.elim (fun ⟨k, e, h⟩ => by simp [dE] at h) (fun g => hA _ (Nat.le_trans hS.1 g))
      refine va_callr (va_runS (As := []) (rest := []) ⟨hx, hb, hml, hown, hts⟩ (c_Cell_empty l D a q  hd H.size     r33 h_r33) (va_cwS 0 hts (gd_S (m_3 128 rfl rfl) (m_2 152 rfl rfl) (m_1 10 rfl rfl) (m_2 153 rfl rfl)) rfl rfl rfl (by decide +kernel) ⟨Nat.le_of_ble_eq_true rfl, Nat.le_of_ble_eq_true rfl⟩) ⟨fun a U g mk q => ⟨q.1, q.2.1, q.2.2.1, va_K.moved (u := U) (U := U.calling g mk a) (Vm.Alike.refl U.vm) q.2.2.2⟩, fun U hU hW => ⟨rfl, by rw [hU], by rw [hU]; exact hPc, va_K.moved hW.alike hKc⟩⟩ rfl rfl hl.1 rfl (lv_room (Nat.le_of_ble_eq_true rfl)) (dt_at dt_One_value 8 rfl) ⟨Nat.le_of_ble_eq_true rfl, Nat.le_of_ble_eq_true rfl⟩) hS (fun x _ h9 => hF x h9) hF (fun uu y_r33 t H1 locs ht hvm hw hB hz1 hk1 hS => ?_)
      obtain ⟨hB, hc_r33, hq_r33⟩ := hB
      rw [ht] at hc_r33
      have hn_r33 : nin (dE a) y_r33 := nin_cases hq_r33 (fun g9 => nin_big hP g9 rfl) (fun g9 => by simp at g9)
      have hf_r33 : s.heap.size ≤ y_r33 ∨ y_r33 ∈ PL := nin_cases hq_r33 (fun g9 => Or.inl (Nat.le_trans hSz g9)) (fun g9 => by simp at g9)
      clear hq_r33
      have hc_v1 := isC.keptA hc_v1 hk1 (nin_E a y_v1)
      have hP := va_P.kept hP (fun k q hq => hk1 _ (hP k q hq).lt (not_AE (hP k q hq).lt))
      refine W.widen (k := 1) (n := 3) (Nat.le_of_ble_eq_true rfl) (Nat.le_of_ble_eq_true rfl) ?_
      have hSz : s.heap.size ≤ H1.size := hS.1
      clear hk1 hz1 hPc hF hB ht
      generalize H1 = H at hP hS hSz hc_v1 hc_r33 ⊢
      obtain rfl := os_of h
      refine W.widen (k := 2) (n := 6) (Nat.le_of_ble_eq_true rfl) (Nat.le_of_ble_eq_true rfl) ?_
      exact W.aret hx hb hr (Or.inl ⟨_, rfl⟩) (Or.inr ⟨_, rfl⟩) (fun t ht hW => ⟨⟨(), y_r33, rfl, trivial, (hPt hP ht), hPt hc_r33 ht, hf_r33⟩, hS.F ht⟩) hS.2.2 (dt_at dt_One_value 9 rfl)
  · have h := if_p h c1
    obtain ⟨r34, h_r34, h⟩ := ob_of h
    have hPc : va_P D CLS (wE a q) H := fun k q h => by simp [wE] at h
    have hd : va_D (fun _ => True) (dE a) := dE_D a
    have hKc : va_K D CLS (tE q) s := hK.sub (tys' := []) [] rfl
    have hF : ∀ x, va_A (dE a) H.size x → A x := fun x h9 => h9.elim (fun ⟨k, e, h⟩ => by simp [dE] at h) (fun g => hA _ (Nat.le_trans hS.1 g))
    refine va_callr (va_runS (As := []) (rest := []) ⟨hx, hb, hml, hown, hts⟩ (c_Cell_ill l D a q  hd H.size     r34 h_r34) (va_cwS 0 hts (gd_S (m_3 126 rfl rfl) (m_2 109 rfl rfl) (m_1 10 rfl rfl) (m_2 110 rfl rfl)) rfl rfl rfl (by decide +kernel) ⟨Nat.le_of_ble_eq_true rfl, Nat.le_of_ble_eq_true rfl⟩) ⟨fun a U g mk q => ⟨q.1, q.2.1, q.2.2.1, va_K.moved (u := U) (U := U.calling g mk a) (Vm.Alike.refl U.vm) q.2.2.2⟩, fun U hU hW => ⟨rfl, by rw [hU], by rw [hU]; exact hPc, va_K.moved hW.alike hKc⟩⟩ rfl rfl hl.1 rfl (lv_room (Nat.le_of_ble_eq_true rfl)) (dt_at dt_One_value 3 rfl) ⟨Nat.le_of_ble_eq_true rfl, Nat.le_of_ble_eq_true rfl⟩) hS (fun x _ h9 => hF x h9) hF (fun uu y_r34 t H1 locs ht hvm hw hB hz1 hk1 hS => ?_)
    obtain ⟨hB, hc_r34, hq_r34⟩ := hB
    rw [ht] at hc_r34
    have hn_r34 : nin (dE a) y_r34 := nin_cases hq_r34 (fun g9 => nin_big hP g9 rfl) (fun g9 => by simp at g9)
    have hf_r34 : s.heap.size ≤ y_r34 ∨ y_r34 ∈ PL := nin_cases hq_r34 (fun g9 => Or.inl (Nat.le_trans hSz g9)) (fun g9 => by simp at g9)
    clear hq_r34
    have hc_v1 := isC.keptA hc_v1 hk1 (nin_E a y_v1)
    have hP := va_P.kept hP (fun k q hq => hk1 _ (hP k q hq).lt (not_AE (hP k q hq).lt))
    refine W.widen (k := 1) (n := 3) (Nat.le_of_ble_eq_true rfl) (Nat.le_of_ble_eq_true rfl) ?_
    have hSz : s.heap.size ≤ H1.size := hS.1
    clear hk1 hz1 hPc hF hB ht
    generalize H1 = H at hP hS hSz hc_v1 hc_r34 ⊢
    obtain rfl := os_of h
    refine W.widen (k := 2) (n := 6) (Nat.le_of_ble_eq_true rfl) (Nat.le_of_ble_eq_true rfl) ?_
    exact W.aret hx hb hr (Or.inl ⟨_, rfl⟩) (Or.inr ⟨_, rfl⟩) (fun t ht hW => ⟨⟨(), y_r34, rfl, trivial, (hPt hP ht), hPt hc_r34 ht, hf_r34⟩, hS.F ht⟩) hS.2.2 (dt_at dt_One_value 4 rfl)
set_option maxRecDepth 100000 in
set_option maxHeartbeats 4000000 in
theorem c_One_value (l : Launch) (D : va_G) (a : Nat → Nat) (q : Nat → ClassId) (hd : va_D (fun _ => True) (dE a)) (sz : Nat) (a0 : Int32) (a1_l : Int64) (a1_h : Int64) (a1_m : Int32)  (y_a1 : Nat) (hn_a1 : nin (dE a) y_a1) (r0 : Int64 × Int64 × Int32) (h : f_One_value a0 a1_l a1_h a1_m = some r0) : Met l (⟨"OutwardTape$OneOperand", "value", "(ILOutwardTape$Cell;)LOutwardTape$Cell;"⟩ : MethodName) (WSm (⟨"OutwardTape$OneOperand", "value", "(ILOutwardTape$Cell;)LOutwardTape$Cell;"⟩ : MethodName) prog_7_method_2_code 2 (some (.object "OutwardTape$Cell"))) rm_One_value (va_Pc [.int a0, .ref y_a1] (fun U => U.heap.size = sz ∧ va_P D CLS (wE a q ) U.heap ∧ va_K D CLS (tE q) U ∧ isC D U.heap y_a1 a1_l a1_h a1_m)) (va_Qr (fun _ : Unit => True) (fun _ ra t => (va_P D CLS (wE a q ) t.heap) ∧ isC D t.heap ra r0.1 r0.2.1 r0.2.2 ∧ (sz ≤ ra ∨ ra ∈ ([y_a1] : List Nat))) (va_A (dE a) sz)) 2 6 (va_A (dE a) sz) := by
  refine Met.ofW (cc := prog_7_method_2_code) (maxL := 2) (ret := (some (.object "OutwardTape$Cell"))) (by decide) rfl ?_
  intro p e s m args below meth c s₁ B hml hv
  obtain ⟨rfl, hsz, hP, hK, hc_a1⟩ := hv
  subst hsz
  have hC := CX.of B hml rfl
  have hl := lv_entry [.int a0, .ref y_a1] (n := 2) (Nat.le_of_ble_eq_true rfl)
  rw [lg_entry_eq]
  generalize (lg_sl [.int a0, .ref y_a1] ++ List.replicate (2 - (lg_sl [.int a0, .ref y_a1]).length) Slot.unset).toArray = ls at hl ⊢
  have hl : lv_has ls 2 [(0, .int a0), (1, .ref y_a1)] := hl
  exact k_One_value_0 (PL := [y_a1]) hC (fun x h => Or.inr h) hK a0 a1_l a1_h a1_m   y_a1 s.heap [] ls hP (dD hd.self rfl) va_S.rf  hc_a1 (Or.inr (by simp)) hn_a1  (lv_sub hl [0, 1] rfl) h
abbrev rm_Two_hull : Room := { frames := 4, cells := 2, slots := 6, locals := 82 }
set_option maxRecDepth 100000 in
set_option maxHeartbeats 4000000 in
theorem k_Two_hull_18 {p : Program} {l : Launch} {e : Env} {s : State} {m : MethodId} {args : Array Value} {below : List Frame} {meth : Method} {c : Code} {D : va_G} {a : Nat → Nat} {q : Nat → ClassId} {PL : List Nat} {A : Nat → Prop} (hC : CX p s m args meth c prog_10_method_8_code 2 "OutwardTape$TwoOperands" (some (.object "OutwardTape$Cell"))) (hA : ∀ x, s.heap.size ≤ x → A x) (hK : va_K D CLS (tE q) s)  {r0 : Int64 × Int64 × Int32} : ∀ (v0_l : Int64) (v0_h : Int64) (v0_m : Int32) (v1_l : Int64) (v1_h : Int64) (v1_m : Int32)  (y_v0 : Nat) (y_v1 : Nat) (H : Heap) (locs : List Loc) (ls : Array Slot), va_P D CLS (wE a q ) H → va_D A (wE a q ) → va_S A s.heap H locs → isC D H y_v0 v0_l v0_h v0_m → (s.heap.size ≤ y_v0 ∨ y_v0 ∈ PL) → nin (dE a) y_v0 → isC D H y_v1 v1_l v1_h v1_m → (s.heap.size ≤ y_v1 ∨ y_v1 ∈ PL) → nin (dE a) y_v1 → lv_has ls 2 [(0, .ref y_v0), (1, .ref y_v1)] → f_Two_hull_18  v0_l v0_h v0_m v1_l v1_h v1_m = some r0 → W p l e rm_Two_hull s m args below meth c H locs 0 0 (MQ below (va_Qr (fun _ : Unit => True) (fun _ ra t => (va_P D CLS (wE a q ) t.heap) ∧ isC D t.heap ra r0.1 r0.2.1 r0.2.2 ∧ (s.heap.size ≤ ra ∨ ra ∈ PL)) A) args s 2 6 A) (F0 m 18 ls []) := by
  obtain ⟨hx, hb, hml, hown, hts, hr, hlocks⟩ := id hC
  intro v0_l v0_h v0_m v1_l v1_h v1_m y_v0 y_v1 H locs ls hP hD hS hc_v0 hf_v0 hn_v0 hc_v1 hf_v1 hn_v1 hl h
  rw [f_Two_hull_18] at h
  have hSz : s.heap.size ≤ H.size := hS.1
  refine lv_aload_n hx hb (dt_at dt_Two_hull 8 rfl) rfl (lv_at hl 0 rfl) ?_
  refine va_get (D := D) (ci := 4) (v := .long v0_l) (C := "OutwardTape$Cell") (T := T_Cell) (N := 3) hx hb hts in_Cell hown hK hc_v0 0 rfl rfl 0 (by decide) (hts (Cond.fieldLink "OutwardTape$TwoOperands" 36 "OutwardTape$Cell" "low" "J") (m_2 121 rfl rfl)) (fun _ h9 => h9) rfl (dt_at dt_Two_hull 9 rfl) ?_
  refine lv_aload_n hx hb (dt_at dt_Two_hull 10 rfl) rfl (lv_at hl 1 rfl) ?_
  refine va_get (D := D) (ci := 4) (v := .long v1_l) (C := "OutwardTape$Cell") (T := T_Cell) (N := 3) hx hb hts in_Cell hown hK hc_v1 0 rfl rfl 0 (by decide) (hts (Cond.fieldLink "OutwardTape$TwoOperands" 36 "OutwardTape$Cell" "low" "J") (m_2 121 rfl rfl)) (fun _ h9 => h9) rfl (dt_at dt_Two_hull 11 rfl) ?_
  obtain ⟨t1, e_t1, h⟩ := ol_of h
  refine va_mmin_long hx hb (hml.trans hl.1.symm) hown (hts (Cond.methodLink "OutwardTape$TwoOperands" 57 Lib.MathLoose.min_long.x) (m_3 203 rfl rfl)) (hts (Cond.static Lib.MathLoose.min_long.x) (m_1 225 rfl rfl)) (hts (Cond.initialized "java/lang/Math") (m_1 9 rfl rfl)) (hts (Cond.code Lib.MathLoose.min_long.x Lib.MathLoose.min_long.code 4 (some .long)) (m_1 226 rfl rfl)) (Nat.le_of_ble_eq_true rfl) (Nat.le_of_ble_eq_true rfl) (Nat.le_of_ble_eq_true rfl) (Nat.le_of_ble_eq_true rfl) (dt_at dt_Two_hull 12 rfl) ?_
  refine lv_topl (fun u_t1 q_t1 => ?_)
  obtain rfl : t1 = u_t1 := e_t1.trans q_t1.symm
  refine lv_aload_n hx hb (dt_at dt_Two_hull 13 rfl) rfl (lv_at hl 0 rfl) ?_
  refine va_get (D := D) (ci := 4) (v := .long v0_h) (C := "OutwardTape$Cell") (T := T_Cell) (N := 3) hx hb hts in_Cell hown hK hc_v0 0 rfl rfl 1 (by decide) (hts (Cond.fieldLink "OutwardTape$TwoOperands" 40 "OutwardTape$Cell" "high" "J") (m_2 128 rfl rfl)) (fun _ h9 => h9) rfl (dt_at dt_Two_hull 14 rfl) ?_
  refine lv_aload_n hx hb (dt_at dt_Two_hull 15 rfl) rfl (lv_at hl 1 rfl) ?_
  refine va_get (D := D) (ci := 4) (v := .long v1_h) (C := "OutwardTape$Cell") (T := T_Cell) (N := 3) hx hb hts in_Cell hown hK hc_v1 0 rfl rfl 1 (by decide) (hts (Cond.fieldLink "OutwardTape$TwoOperands" 40 "OutwardTape$Cell" "high" "J") (m_2 128 rfl rfl)) (fun _ h9 => h9) rfl (dt_at dt_Two_hull 16 rfl) ?_
  obtain ⟨t2, e_t2, h⟩ := ol_of h
  refine va_mmax_long hx hb (hml.trans hl.1.symm) hown (hts (Cond.methodLink "OutwardTape$TwoOperands" 63 Lib.MathLoose.max_long.x) (m_3 204 rfl rfl)) (hts (Cond.static Lib.MathLoose.max_long.x) (m_1 218 rfl rfl)) (hts (Cond.initialized "java/lang/Math") (m_1 9 rfl rfl)) (hts (Cond.code Lib.MathLoose.max_long.x Lib.MathLoose.max_long.code 4 (some .long)) (m_1 219 rfl rfl)) (Nat.le_of_ble_eq_true rfl) (Nat.le_of_ble_eq_true rfl) (Nat.le_of_ble_eq_true rfl) (Nat.le_of_ble_eq_true rfl) (dt_at dt_Two_hull 17 rfl) ?_
  refine lv_topl (fun u_t2 q_t2 => ?_)
  obtain rfl : t2 = u_t2 := e_t2.trans q_t2.symm
  refine lv_iconst (v := 1) hx hb (dt_at dt_Two_hull 18 rfl) (by decide) ?_
  obtain ⟨r3, h_r3, h⟩ := ob_of h
  have hPc : va_P D CLS (wE a q) H := fun k q h => by simp [wE] at h
  have hd : va_D (fun _ => True) (dE a) := dE_D a
  have hKc : va_K D CLS (tE q) s := hK.sub (tys' := []) [] rfl
  have hF : ∀ x, va_A (dE a) H.size x → A x := fun x h9 => h9.elim (fun ⟨k, e, h⟩ => by simp [dE] at h) (fun g => hA _ (Nat.le_trans hS.1 g))
  refine va_callr (va_runS (As := [.long t1, .long t2, .int (1 : Int32)]) (rest := []) ⟨hx, hb, hml, hown, hts⟩ (c_Cell_between l D a q  hd H.size t1 t2 (1 : Int32)    r3 h_r3) (va_cwS 3 hts (gd_S (m_3 205 rfl rfl) (m_3 65 rfl rfl) (m_1 10 rfl rfl) (m_3 66 rfl rfl)) rfl rfl rfl (by decide +kernel) ⟨Nat.le_of_ble_eq_true rfl, Nat.le_of_ble_eq_true rfl⟩) ⟨fun a U g mk q => ⟨q.1, q.2.1, q.2.2.1, va_K.moved (u := U) (U := U.calling g mk a) (Vm.Alike.refl U.vm) q.2.2.2⟩, fun U hU hW => ⟨rfl, by rw [hU], by rw [hU]; exact hPc, va_K.moved hW.alike hKc⟩⟩ rfl rfl hl.1 rfl (lv_room (Nat.le_of_ble_eq_true rfl)) (dt_at dt_Two_hull 19 rfl) ⟨Nat.le_of_ble_eq_true rfl, Nat.le_of_ble_eq_true rfl⟩) hS (fun x _ h9 => hF x h9) hF (fun uu y_r3 t H1 locs ht hvm hw hB hz1 hk1 hS => ?_)
  obtain ⟨hB, hc_r3, hq_r3⟩ := hB
  rw [ht] at hc_r3
  have hn_r3 : nin (dE a) y_r3 := nin_cases hq_r3 (fun g9 => nin_big hP g9 rfl) (fun g9 => by simp at g9)
  have hf_r3 : s.heap.size ≤ y_r3 ∨ y_r3 ∈ PL := nin_cases hq_r3 (fun g9 => Or.inl (Nat.le_trans hSz g9)) (fun g9 => by simp at g9)
  clear hq_r3
  have hc_v0 := isC.keptA hc_v0 hk1 (nin_E a y_v0)
  have hc_v1 := isC.keptA hc_v1 hk1 (nin_E a y_v1)
  have hP := va_P.kept hP (fun k q hq => hk1 _ (hP k q hq).lt (not_AE (hP k q hq).lt))
  refine W.widen (k := 2) (n := 6) (Nat.le_of_ble_eq_true rfl) (Nat.le_of_ble_eq_true rfl) ?_
  have hSz : s.heap.size ≤ H1.size := hS.1
  clear hk1 hz1 hPc hF hB ht
  generalize H1 = H at hP hS hSz hc_v0 hc_v1 hc_r3 ⊢
  obtain rfl := os_of h
  exact W.aret hx hb hr (Or.inl ⟨_, rfl⟩) (Or.inr ⟨_, rfl⟩) (fun t ht hW => ⟨⟨(), y_r3, rfl, trivial, (hPt hP ht), hPt hc_r3 ht, hf_r3⟩, hS.F ht⟩) hS.2.2 (dt_at dt_Two_hull 20 rfl)
set_option maxRecDepth 100000 in
set_option maxHeartbeats 4000000 in
theorem k_Two_hull_0 {p : Program} {l : Launch} {e : Env} {s : State} {m : MethodId} {args : Array Value} {below : List Frame} {meth : Method} {c : Code} {D : va_G} {a : Nat → Nat} {q : Nat → ClassId} {PL : List Nat} {A : Nat → Prop} (hC : CX p s m args meth c prog_10_method_8_code 2 "OutwardTape$TwoOperands" (some (.object "OutwardTape$Cell"))) (hA : ∀ x, s.heap.size ≤ x → A x) (hK : va_K D CLS (tE q) s)  {r0 : Int64 × Int64 × Int32} : ∀ (v0_l : Int64) (v0_h : Int64) (v0_m : Int32) (v1_l : Int64) (v1_h : Int64) (v1_m : Int32)  (y_v0 : Nat) (y_v1 : Nat) (H : Heap) (locs : List Loc) (ls : Array Slot), va_P D CLS (wE a q ) H → va_D A (wE a q ) → va_S A s.heap H locs → isC D H y_v0 v0_l v0_h v0_m → (s.heap.size ≤ y_v0 ∨ y_v0 ∈ PL) → nin (dE a) y_v0 → isC D H y_v1 v1_l v1_h v1_m → (s.heap.size ≤ y_v1 ∨ y_v1 ∈ PL) → nin (dE a) y_v1 → lv_has ls 2 [(0, .ref y_v0), (1, .ref y_v1)] → f_Two_hull_0  v0_l v0_h v0_m v1_l v1_h v1_m = some r0 → W p l e rm_Two_hull s m args below meth c H locs 0 0 (MQ below (va_Qr (fun _ : Unit => True) (fun _ ra t => (va_P D CLS (wE a q ) t.heap) ∧ isC D t.heap ra r0.1 r0.2.1 r0.2.2 ∧ (s.heap.size ≤ ra ∨ ra ∈ PL)) A) args s 2 6 A) (F0 m 0 ls []) := by
  obtain ⟨hx, hb, hml, hown, hts, hr, hlocks⟩ := id hC
  intro v0_l v0_h v0_m v1_l v1_h v1_m y_v0 y_v1 H locs ls hP hD hS hc_v0 hf_v0 hn_v0 hc_v1 hf_v1 hn_v1 hl h
  rw [f_Two_hull_0] at h
  have hSz : s.heap.size ≤ H.size := hS.1
  refine lv_aload_n hx hb (dt_at dt_Two_hull 0 rfl) rfl (lv_at hl 0 rfl) ?_
  obtain ⟨r1, h_r1, h⟩ := ob_of h
  have hPc : va_P D CLS (wE a q) H := fun k q h => by simp [wE] at h
  have hd : va_D (fun _ => True) (dE a) := dE_D a
  have hKc : va_K D CLS (tE q) s := hK.sub (tys' := []) [] rfl
  have hF : ∀ x, va_A (dE a) H.size x → A x := fun x h9 => h9.elim (fun ⟨k, e, h⟩ => by simp [dE] at h) (fun g => hA _ (Nat.le_trans hS.1 g))
  refine va_calli (va_runV (As := []) (rest := []) ⟨hx, hb, hml, hown, hts⟩ (c_Cell_hasNoPoint l D a q  hd H.size v0_l v0_h v0_m  y_v0 (nin_E a y_v0) r1 h_r1) (cwV 0 hts (gd_V (m_3 201 rfl rfl) (m_1 124 rfl rfl) (m_1 125 rfl rfl) (m_1 10 rfl rfl) (m_1 126 rfl rfl)) rfl rfl rfl (by decide +kernel) ⟨Nat.le_of_ble_eq_true rfl, Nat.le_of_ble_eq_true rfl⟩) ⟨fun a U g mk q => ⟨q.1, q.2.1, q.2.2.1, va_K.moved (u := U) (U := U.calling g mk a) (Vm.Alike.refl U.vm) q.2.2.2.1, q.2.2.2.2⟩, va_recv hK hc_v0 (ci := 4) (q0 := 0) rfl rfl, fun U hU hW => ⟨rfl, by rw [hU], by rw [hU]; exact hPc, va_K.moved hW.alike hKc, by rw [hU]; exact hc_v0⟩⟩ rfl rfl hl.1 rfl (lv_room (Nat.le_of_ble_eq_true rfl)) (dt_at dt_Two_hull 1 rfl) ⟨Nat.le_of_ble_eq_true rfl, Nat.le_of_ble_eq_true rfl⟩) hS (fun x _ h9 => hF x h9) hF (fun u_r1 uu t H1 locs ht hvm hw hB hz1 hk1 hS => ?_)
  obtain rfl : r1 = u_r1 := hw.symm
  have hc_v0 := isC.keptA hc_v0 hk1 (nin_E a y_v0)
  have hc_v1 := isC.keptA hc_v1 hk1 (nin_E a y_v1)
  have hP := va_P.kept hP (fun k q hq => hk1 _ (hP k q hq).lt (not_AE (hP k q hq).lt))
  have hSz : s.heap.size ≤ H1.size := hS.1
  clear hk1 hz1 hPc hF hB ht
  generalize H1 = H at hP hS hSz hc_v0 hc_v1 ⊢
  refine lv_if_eq (tgt := 18) hx hb (dt_at dt_Two_hull 2 rfl) (by decide) (fun c2 => ?_) (fun c2 => ?_)
  · have h := if_p h c2
    exact k_Two_hull_18 (PL := PL) hC hA hK   v0_l v0_h v0_m v1_l v1_h v1_m y_v0 y_v1 H locs ls hP hD hS  hc_v0 hf_v0 hn_v0 hc_v1 hf_v1 hn_v1 (lv_sub hl [0, 1] rfl) h
  · have h := if_n h c2
    refine lv_aload_n hx hb (dt_at dt_Two_hull 3 rfl) rfl (lv_at hl 1 rfl) ?_
    obtain ⟨r3, h_r3, h⟩ := ob_of h
    have hPc : va_P D CLS (wE a q) H := fun k q h => by simp [wE] at h
    have hd : va_D (fun _ => True) (dE a) := dE_D a
    have hKc : va_K D CLS (tE q) s := hK.sub (tys' := []) [] rfl
    have hF : ∀ x, va_A (dE a) H.size x → A x := fun x h9 => h9.elim (fun ⟨k, e, h⟩ => by simp [dE] at h) (fun g => hA _ (Nat.le_trans hS.1 g))
    refine va_calli (va_runV (As := []) (rest := []) ⟨hx, hb, hml, hown, hts⟩ (c_Cell_hasNoPoint l D a q  hd H.size v1_l v1_h v1_m  y_v1 (nin_E a y_v1) r3 h_r3) (cwV 0 hts (gd_V (m_3 201 rfl rfl) (m_1 124 rfl rfl) (m_1 125 rfl rfl) (m_1 10 rfl rfl) (m_1 126 rfl rfl)) rfl rfl rfl (by decide +kernel) ⟨Nat.le_of_ble_eq_true rfl, Nat.le_of_ble_eq_true rfl⟩) ⟨fun a U g mk q => ⟨q.1, q.2.1, q.2.2.1, va_K.moved (u := U) (U := U.calling g mk a) (Vm.Alike.refl U.vm) q.2.2.2.1, q.2.2.2.2⟩, va_recv hK hc_v1 (ci := 4) (q0 := 0) rfl rfl, fun U hU hW => ⟨rfl, by rw [hU], by rw [hU]; exact hPc, va_K.moved hW.alike hKc, by rw [hU]; exact hc_v1⟩⟩ rfl rfl hl.1 rfl (lv_room (Nat.le_of_ble_eq_true rfl)) (dt_at dt_Two_hull 4 rfl) ⟨Nat.le_of_ble_eq_true rfl, Nat.le_of_ble_eq_true rfl⟩) hS (fun x _ h9 => hF x h9) hF (fun u_r3 uu t H1 locs ht hvm hw hB hz1 hk1 hS => ?_)
    obtain rfl : r3 = u_r3 := hw.symm
    have hc_v0 := isC.keptA hc_v0 hk1 (nin_E a y_v0)
    have hc_v1 := isC.keptA hc_v1 hk1 (nin_E a y_v1)
    have hP := va_P.kept hP (fun k q hq => hk1 _ (hP k q hq).lt (not_AE (hP k q hq).lt))
    have hSz : s.heap.size ≤ H1.size := hS.1
    clear hk1 hz1 hPc hF hB ht
    generalize H1 = H at hP hS hSz hc_v0 hc_v1 ⊢
    refine lv_if_eq (tgt := 18) hx hb (dt_at dt_Two_hull 5 rfl) (by decide) (fun c4 => ?_) (fun c4 => ?_)
    · have h := if_p h c4
      exact k_Two_hull_18 (PL := PL) hC hA hK   v0_l v0_h v0_m v1_l v1_h v1_m y_v0 y_v1 H locs ls hP hD hS  hc_v0 hf_v0 hn_v0 hc_v1 hf_v1 hn_v1 (lv_sub hl [0, 1] rfl) h
    · have h := if_n h c4
      obtain ⟨r5, h_r5, h⟩ := ob_of h
      have hPc : va_P D CLS (wE a q) H := fun k q h => by simp [wE] at h
      have hd : va_D (fun _ => True) (dE a) := dE_D a
      have hKc : va_K D CLS (tE q) s := hK.sub (tys' := []) [] rfl
      have hF : ∀ x, va_A (dE a) H.size x → A x := fun x h9 => h9.elim (fun ⟨k, e, h⟩ => by simp [dE] at h) (fun g => hA _ (Nat.le_trans hS.1 g))
      refine va_callr (va_runS (As := []) (rest := []) ⟨hx, hb, hml, hown, hts⟩ (c_Cell_empty l D a q  hd H.size     r5 h_r5) (va_cwS 0 hts (gd_S (m_3 202 rfl rfl) (m_2 152 rfl rfl) (m_1 10 rfl rfl) (m_2 153 rfl rfl)) rfl rfl rfl (by decide +kernel) ⟨Nat.le_of_ble_eq_true rfl, Nat.le_of_ble_eq_true rfl⟩) ⟨fun a U g mk q => ⟨q.1, q.2.1, q.2.2.1, va_K.moved (u := U) (U := U.calling g mk a) (Vm.Alike.refl U.vm) q.2.2.2⟩, fun U hU hW => ⟨rfl, by rw [hU], by rw [hU]; exact hPc, va_K.moved hW.alike hKc⟩⟩ rfl rfl hl.1 rfl (lv_room (Nat.le_of_ble_eq_true rfl)) (dt_at dt_Two_hull 6 rfl) ⟨Nat.le_of_ble_eq_true rfl, Nat.le_of_ble_eq_true rfl⟩) hS (fun x _ h9 => hF x h9) hF (fun uu y_r5 t H1 locs ht hvm hw hB hz1 hk1 hS => ?_)
      obtain ⟨hB, hc_r5, hq_r5⟩ := hB
      rw [ht] at hc_r5
      have hn_r5 : nin (dE a) y_r5 := nin_cases hq_r5 (fun g9 => nin_big hP g9 rfl) (fun g9 => by simp at g9)
      have hf_r5 : s.heap.size ≤ y_r5 ∨ y_r5 ∈ PL := nin_cases hq_r5 (fun g9 => Or.inl (Nat.le_trans hSz g9)) (fun g9 => by simp at g9)
      clear hq_r5
      have hc_v0 := isC.keptA hc_v0 hk1 (nin_E a y_v0)
      have hc_v1 := isC.keptA hc_v1 hk1 (nin_E a y_v1)
      have hP := va_P.kept hP (fun k q hq => hk1 _ (hP k q hq).lt (not_AE (hP k q hq).lt))
      refine W.widen (k := 1) (n := 3) (Nat.le_of_ble_eq_true rfl) (Nat.le_of_ble_eq_true rfl) ?_
      have hSz : s.heap.size ≤ H1.size := hS.1
      clear hk1 hz1 hPc hF hB ht
      generalize H1 = H at hP hS hSz hc_v0 hc_v1 hc_r5 ⊢
      obtain rfl := os_of h
      refine W.widen (k := 2) (n := 6) (Nat.le_of_ble_eq_true rfl) (Nat.le_of_ble_eq_true rfl) ?_
      exact W.aret hx hb hr (Or.inl ⟨_, rfl⟩) (Or.inr ⟨_, rfl⟩) (fun t ht hW => ⟨⟨(), y_r5, rfl, trivial, (hPt hP ht), hPt hc_r5 ht, hf_r5⟩, hS.F ht⟩) hS.2.2 (dt_at dt_Two_hull 7 rfl)
set_option maxRecDepth 100000 in
set_option maxHeartbeats 4000000 in
theorem c_Two_hull (l : Launch) (D : va_G) (a : Nat → Nat) (q : Nat → ClassId) (hd : va_D (fun _ => True) (dE a)) (sz : Nat) (a0_l : Int64) (a0_h : Int64) (a0_m : Int32) (a1_l : Int64) (a1_h : Int64) (a1_m : Int32)  (y_a0 : Nat) (y_a1 : Nat) (hn_a0 : nin (dE a) y_a0) (hn_a1 : nin (dE a) y_a1) (r0 : Int64 × Int64 × Int32) (h : f_Two_hull a0_l a0_h a0_m a1_l a1_h a1_m = some r0) : Met l (⟨"OutwardTape$TwoOperands", "hull", "(LOutwardTape$Cell;LOutwardTape$Cell;)LOutwardTape$Cell;"⟩ : MethodName) (WSm (⟨"OutwardTape$TwoOperands", "hull", "(LOutwardTape$Cell;LOutwardTape$Cell;)LOutwardTape$Cell;"⟩ : MethodName) prog_10_method_8_code 2 (some (.object "OutwardTape$Cell"))) rm_Two_hull (va_Pc [.ref y_a0, .ref y_a1] (fun U => U.heap.size = sz ∧ va_P D CLS (wE a q ) U.heap ∧ va_K D CLS (tE q) U ∧ isC D U.heap y_a0 a0_l a0_h a0_m ∧ isC D U.heap y_a1 a1_l a1_h a1_m)) (va_Qr (fun _ : Unit => True) (fun _ ra t => (va_P D CLS (wE a q ) t.heap) ∧ isC D t.heap ra r0.1 r0.2.1 r0.2.2 ∧ (sz ≤ ra ∨ ra ∈ ([y_a0, y_a1] : List Nat))) (va_A (dE a) sz)) 2 6 (va_A (dE a) sz) := by
  refine Met.ofW (cc := prog_10_method_8_code) (maxL := 2) (ret := (some (.object "OutwardTape$Cell"))) (by decide) rfl ?_
  intro p e s m args below meth c s₁ B hml hv
  obtain ⟨rfl, hsz, hP, hK, hc_a0, hc_a1⟩ := hv
  subst hsz
  have hC := CX.of B hml rfl
  have hl := lv_entry [.ref y_a0, .ref y_a1] (n := 2) (Nat.le_of_ble_eq_true rfl)
  rw [lg_entry_eq]
  generalize (lg_sl [.ref y_a0, .ref y_a1] ++ List.replicate (2 - (lg_sl [.ref y_a0, .ref y_a1]).length) Slot.unset).toArray = ls at hl ⊢
  have hl : lv_has ls 2 [(0, .ref y_a0), (1, .ref y_a1)] := hl
  exact k_Two_hull_0 (PL := [y_a0, y_a1]) hC (fun x h => Or.inr h) hK a0_l a0_h a0_m a1_l a1_h a1_m   y_a0 y_a1 s.heap [] ls hP (dD hd.self rfl) va_S.rf  hc_a0 (Or.inr (by simp)) hn_a0 hc_a1 (Or.inr (by simp)) hn_a1  (lv_sub hl [0, 1] rfl) h
abbrev rm_Two_intersection : Room := { frames := 4, cells := 2, slots := 6, locals := 82 }
set_option maxRecDepth 100000 in
set_option maxHeartbeats 4000000 in
theorem k_Two_intersection_45 {p : Program} {l : Launch} {e : Env} {s : State} {m : MethodId} {args : Array Value} {below : List Frame} {meth : Method} {c : Code} {D : va_G} {a : Nat → Nat} {q : Nat → ClassId} {PL : List Nat} {A : Nat → Prop} (hC : CX p s m args meth c prog_10_method_7_code 6 "OutwardTape$TwoOperands" (some (.object "OutwardTape$Cell"))) (hA : ∀ x, s.heap.size ≤ x → A x) (hK : va_K D CLS (tE q) s)  {r0 : Int64 × Int64 × Int32} : ∀ (s0_l : Int64) (s0_h : Int64) (s0_m : Int32)  (y_s0 : Nat) (H : Heap) (locs : List Loc) (ls : Array Slot), va_P D CLS (wE a q ) H → va_D A (wE a q ) → va_S A s.heap H locs → isC D H y_s0 s0_l s0_h s0_m → (s.heap.size ≤ y_s0 ∨ y_s0 ∈ PL) → nin (dE a) y_s0 → lv_has ls 6 [] → f_Two_intersection_45  s0_l s0_h s0_m = some r0 → W p l e rm_Two_intersection s m args below meth c H locs 2 6 (MQ below (va_Qr (fun _ : Unit => True) (fun _ ra t => (va_P D CLS (wE a q ) t.heap) ∧ isC D t.heap ra r0.1 r0.2.1 r0.2.2 ∧ (s.heap.size ≤ ra ∨ ra ∈ PL)) A) args s 2 6 A) (F0 m 45 ls [.ref y_s0]) := by
  obtain ⟨hx, hb, hml, hown, hts, hr, hlocks⟩ := id hC
  intro s0_l s0_h s0_m y_s0 H locs ls hP hD hS hc_s0 hf_s0 hn_s0 hl h
  rw [f_Two_intersection_45] at h
  have hSz : s.heap.size ≤ H.size := hS.1
  obtain rfl := os_of h
  exact W.aret hx hb hr (Or.inl ⟨_, rfl⟩) (Or.inr ⟨_, rfl⟩) (fun t ht hW => ⟨⟨(), y_s0, rfl, trivial, (hPt hP ht), hPt hc_s0 ht, hf_s0⟩, hS.F ht⟩) hS.2.2 (dt_at dt_Two_intersection 22 rfl)
set_option maxRecDepth 100000 in
set_option maxHeartbeats 4000000 in
theorem k_Two_intersection_0 {p : Program} {l : Launch} {e : Env} {s : State} {m : MethodId} {args : Array Value} {below : List Frame} {meth : Method} {c : Code} {D : va_G} {a : Nat → Nat} {q : Nat → ClassId} {PL : List Nat} {A : Nat → Prop} (hC : CX p s m args meth c prog_10_method_7_code 6 "OutwardTape$TwoOperands" (some (.object "OutwardTape$Cell"))) (hA : ∀ x, s.heap.size ≤ x → A x) (hK : va_K D CLS (tE q) s)  {r0 : Int64 × Int64 × Int32} : ∀ (v0_l : Int64) (v0_h : Int64) (v0_m : Int32) (v1_l : Int64) (v1_h : Int64) (v1_m : Int32)  (y_v0 : Nat) (y_v1 : Nat) (H : Heap) (locs : List Loc) (ls : Array Slot), va_P D CLS (wE a q ) H → va_D A (wE a q ) → va_S A s.heap H locs → isC D H y_v0 v0_l v0_h v0_m → (s.heap.size ≤ y_v0 ∨ y_v0 ∈ PL) → nin (dE a) y_v0 → isC D H y_v1 v1_l v1_h v1_m → (s.heap.size ≤ y_v1 ∨ y_v1 ∈ PL) → nin (dE a) y_v1 → lv_has ls 6 [(0, .ref y_v0), (1, .ref y_v1)] → f_Two_intersection_0  v0_l v0_h v0_m v1_l v1_h v1_m = some r0 → W p l e rm_Two_intersection s m args below meth c H locs 0 0 (MQ below (va_Qr (fun _ : Unit => True) (fun _ ra t => (va_P D CLS (wE a q ) t.heap) ∧ isC D t.heap ra r0.1 r0.2.1 r0.2.2 ∧ (s.heap.size ≤ ra ∨ ra ∈ PL)) A) args s 2 6 A) (F0 m 0 ls []) := by
  obtain ⟨hx, hb, hml, hown, hts, hr, hlocks⟩ := id hC
  intro v0_l v0_h v0_m v1_l v1_h v1_m y_v0 y_v1 H locs ls hP hD hS hc_v0 hf_v0 hn_v0 hc_v1 hf_v1 hn_v1 hl h
  rw [f_Two_intersection_0] at h
  have hSz : s.heap.size ≤ H.size := hS.1
  refine lv_aload_n hx hb (dt_at dt_Two_intersection 0 rfl) rfl (lv_at hl 0 rfl) ?_
  refine va_get (D := D) (ci := 4) (v := .long v0_l) (C := "OutwardTape$Cell") (T := T_Cell) (N := 3) hx hb hts in_Cell hown hK hc_v0 0 rfl rfl 0 (by decide) (hts (Cond.fieldLink "OutwardTape$TwoOperands" 36 "OutwardTape$Cell" "low" "J") (m_2 121 rfl rfl)) (fun _ h9 => h9) rfl (dt_at dt_Two_intersection 1 rfl) ?_
  refine lv_aload_n hx hb (dt_at dt_Two_intersection 2 rfl) rfl (lv_at hl 1 rfl) ?_
  refine va_get (D := D) (ci := 4) (v := .long v1_l) (C := "OutwardTape$Cell") (T := T_Cell) (N := 3) hx hb hts in_Cell hown hK hc_v1 0 rfl rfl 0 (by decide) (hts (Cond.fieldLink "OutwardTape$TwoOperands" 36 "OutwardTape$Cell" "low" "J") (m_2 121 rfl rfl)) (fun _ h9 => h9) rfl (dt_at dt_Two_intersection 3 rfl) ?_
  obtain ⟨t1, e_t1, h⟩ := ol_of h
  refine va_mmax_long hx hb (hml.trans hl.1.symm) hown (hts (Cond.methodLink "OutwardTape$TwoOperands" 63 Lib.MathLoose.max_long.x) (m_3 204 rfl rfl)) (hts (Cond.static Lib.MathLoose.max_long.x) (m_1 218 rfl rfl)) (hts (Cond.initialized "java/lang/Math") (m_1 9 rfl rfl)) (hts (Cond.code Lib.MathLoose.max_long.x Lib.MathLoose.max_long.code 4 (some .long)) (m_1 219 rfl rfl)) (Nat.le_of_ble_eq_true rfl) (Nat.le_of_ble_eq_true rfl) (Nat.le_of_ble_eq_true rfl) (Nat.le_of_ble_eq_true rfl) (dt_at dt_Two_intersection 4 rfl) ?_
  refine lv_topl (fun u_t1 q_t1 => ?_)
  obtain rfl : t1 = u_t1 := e_t1.trans q_t1.symm
  refine lv_lstore_n (lv' := [(2, .long t1), (0, .ref y_v0), (1, .ref y_v1)]) hx hb (dt_at dt_Two_intersection 5 rfl) rfl hl (by decide) rfl (fun ls hl => ?_)
  refine lv_aload_n hx hb (dt_at dt_Two_intersection 6 rfl) rfl (lv_at hl 1 rfl) ?_
  refine va_get (D := D) (ci := 4) (v := .long v0_h) (C := "OutwardTape$Cell") (T := T_Cell) (N := 3) hx hb hts in_Cell hown hK hc_v0 0 rfl rfl 1 (by decide) (hts (Cond.fieldLink "OutwardTape$TwoOperands" 40 "OutwardTape$Cell" "high" "J") (m_2 128 rfl rfl)) (fun _ h9 => h9) rfl (dt_at dt_Two_intersection 7 rfl) ?_
  refine lv_aload_n hx hb (dt_at dt_Two_intersection 8 rfl) rfl (lv_at hl 2 rfl) ?_
  refine va_get (D := D) (ci := 4) (v := .long v1_h) (C := "OutwardTape$Cell") (T := T_Cell) (N := 3) hx hb hts in_Cell hown hK hc_v1 0 rfl rfl 1 (by decide) (hts (Cond.fieldLink "OutwardTape$TwoOperands" 40 "OutwardTape$Cell" "high" "J") (m_2 128 rfl rfl)) (fun _ h9 => h9) rfl (dt_at dt_Two_intersection 9 rfl) ?_
  obtain ⟨t2, e_t2, h⟩ := ol_of h
  refine va_mmin_long hx hb (hml.trans hl.1.symm) hown (hts (Cond.methodLink "OutwardTape$TwoOperands" 57 Lib.MathLoose.min_long.x) (m_3 203 rfl rfl)) (hts (Cond.static Lib.MathLoose.min_long.x) (m_1 225 rfl rfl)) (hts (Cond.initialized "java/lang/Math") (m_1 9 rfl rfl)) (hts (Cond.code Lib.MathLoose.min_long.x Lib.MathLoose.min_long.code 4 (some .long)) (m_1 226 rfl rfl)) (Nat.le_of_ble_eq_true rfl) (Nat.le_of_ble_eq_true rfl) (Nat.le_of_ble_eq_true rfl) (Nat.le_of_ble_eq_true rfl) (dt_at dt_Two_intersection 10 rfl) ?_
  refine lv_topl (fun u_t2 q_t2 => ?_)
  obtain rfl : t2 = u_t2 := e_t2.trans q_t2.symm
  refine lv_lstore (lv' := [(4, .long t2), (2, .long t1), (0, .ref y_v0), (1, .ref y_v1)]) hx hb (dt_at dt_Two_intersection 11 rfl) hl (by decide) rfl (fun ls hl => ?_)
  refine lv_lload_n hx hb (dt_at dt_Two_intersection 12 rfl) rfl (lv_at hl 1 rfl) ?_
  refine lv_lload hx hb (dt_at dt_Two_intersection 13 rfl) (lv_at hl 0 rfl) ?_
  refine lc_le (tgt := 38) hx hb (dt_at dt_Two_intersection 14 rfl) (dt_at dt_Two_intersection 15 rfl) (by decide) (fun c3 => ?_) (fun c3 => ?_)
  · have h := if_p h c3
    refine lv_lload_n hx hb (dt_at dt_Two_intersection 18 rfl) rfl (lv_at hl 1 rfl) ?_
    refine lv_lload hx hb (dt_at dt_Two_intersection 19 rfl) (lv_at hl 0 rfl) ?_
    refine lv_iconst (v := 1) hx hb (dt_at dt_Two_intersection 20 rfl) (by decide) ?_
    obtain ⟨r4, h_r4, h⟩ := ob_of h
    have hPc : va_P D CLS (wE a q) H := fun k q h => by simp [wE] at h
    have hd : va_D (fun _ => True) (dE a) := dE_D a
    have hKc : va_K D CLS (tE q) s := hK.sub (tys' := []) [] rfl
    have hF : ∀ x, va_A (dE a) H.size x → A x := fun x h9 => h9.elim (fun ⟨k, e, h⟩ => by simp [dE] at h) (fun g => hA _ (Nat.le_trans hS.1 g))
    refine va_callr (va_runS (As := [.long t1, .long t2, .int (1 : Int32)]) (rest := []) ⟨hx, hb, hml, hown, hts⟩ (c_Cell_between l D a q  hd H.size t1 t2 (1 : Int32)    r4 h_r4) (va_cwS 3 hts (gd_S (m_3 205 rfl rfl) (m_3 65 rfl rfl) (m_1 10 rfl rfl) (m_3 66 rfl rfl)) rfl rfl rfl (by decide +kernel) ⟨Nat.le_of_ble_eq_true rfl, Nat.le_of_ble_eq_true rfl⟩) ⟨fun a U g mk q => ⟨q.1, q.2.1, q.2.2.1, va_K.moved (u := U) (U := U.calling g mk a) (Vm.Alike.refl U.vm) q.2.2.2⟩, fun U hU hW => ⟨rfl, by rw [hU], by rw [hU]; exact hPc, va_K.moved hW.alike hKc⟩⟩ rfl rfl hl.1 rfl (lv_room (Nat.le_of_ble_eq_true rfl)) (dt_at dt_Two_intersection 21 rfl) ⟨Nat.le_of_ble_eq_true rfl, Nat.le_of_ble_eq_true rfl⟩) hS (fun x _ h9 => hF x h9) hF (fun uu y_r4 t H1 locs ht hvm hw hB hz1 hk1 hS => ?_)
    obtain ⟨hB, hc_r4, hq_r4⟩ := hB
    rw [ht] at hc_r4
    have hn_r4 : nin (dE a) y_r4 := nin_cases hq_r4 (fun g9 => nin_big hP g9 rfl) (fun g9 => by simp at g9)
    have hf_r4 : s.heap.size ≤ y_r4 ∨ y_r4 ∈ PL := nin_cases hq_r4 (fun g9 => Or.inl (Nat.le_trans hSz g9)) (fun g9 => by simp at g9)
    clear hq_r4
    have hc_v0 := isC.keptA hc_v0 hk1 (nin_E a y_v0)
    have hc_v1 := isC.keptA hc_v1 hk1 (nin_E a y_v1)
    have hP := va_P.kept hP (fun k q hq => hk1 _ (hP k q hq).lt (not_AE (hP k q hq).lt))
    refine W.widen (k := 2) (n := 6) (Nat.le_of_ble_eq_true rfl) (Nat.le_of_ble_eq_true rfl) ?_
    have hSz : s.heap.size ≤ H1.size := hS.1
    clear hk1 hz1 hPc hF hB ht
    generalize H1 = H at hP hS hSz hc_v0 hc_v1 hc_r4 ⊢
    exact k_Two_intersection_45 (PL := PL) hC hA hK   r4.1 r4.2.1 r4.2.2 y_r4 H locs ls hP hD hS  hc_r4 hf_r4 hn_r4 (lv_sub hl [] rfl) h
  · have h := if_n h c3
    obtain ⟨r5, h_r5, h⟩ := ob_of h
    have hPc : va_P D CLS (wE a q) H := fun k q h => by simp [wE] at h
    have hd : va_D (fun _ => True) (dE a) := dE_D a
    have hKc : va_K D CLS (tE q) s := hK.sub (tys' := []) [] rfl
    have hF : ∀ x, va_A (dE a) H.size x → A x := fun x h9 => h9.elim (fun ⟨k, e, h⟩ => by simp [dE] at h) (fun g => hA _ (Nat.le_trans hS.1 g))
    refine va_callr (va_runS (As := []) (rest := []) ⟨hx, hb, hml, hown, hts⟩ (c_Cell_empty l D a q  hd H.size     r5 h_r5) (va_cwS 0 hts (gd_S (m_3 202 rfl rfl) (m_2 152 rfl rfl) (m_1 10 rfl rfl) (m_2 153 rfl rfl)) rfl rfl rfl (by decide +kernel) ⟨Nat.le_of_ble_eq_true rfl, Nat.le_of_ble_eq_true rfl⟩) ⟨fun a U g mk q => ⟨q.1, q.2.1, q.2.2.1, va_K.moved (u := U) (U := U.calling g mk a) (Vm.Alike.refl U.vm) q.2.2.2⟩, fun U hU hW => ⟨rfl, by rw [hU], by rw [hU]; exact hPc, va_K.moved hW.alike hKc⟩⟩ rfl rfl hl.1 rfl (lv_room (Nat.le_of_ble_eq_true rfl)) (dt_at dt_Two_intersection 16 rfl) ⟨Nat.le_of_ble_eq_true rfl, Nat.le_of_ble_eq_true rfl⟩) hS (fun x _ h9 => hF x h9) hF (fun uu y_r5 t H1 locs ht hvm hw hB hz1 hk1 hS => ?_)
    obtain ⟨hB, hc_r5, hq_r5⟩ := hB
    rw [ht] at hc_r5
    have hn_r5 : nin (dE a) y_r5 := nin_cases hq_r5 (fun g9 => nin_big hP g9 rfl) (fun g9 => by simp at g9)
    have hf_r5 : s.heap.size ≤ y_r5 ∨ y_r5 ∈ PL := nin_cases hq_r5 (fun g9 => Or.inl (Nat.le_trans hSz g9)) (fun g9 => by simp at g9)
    clear hq_r5
    have hc_v0 := isC.keptA hc_v0 hk1 (nin_E a y_v0)
    have hc_v1 := isC.keptA hc_v1 hk1 (nin_E a y_v1)
    have hP := va_P.kept hP (fun k q hq => hk1 _ (hP k q hq).lt (not_AE (hP k q hq).lt))
    refine W.widen (k := 1) (n := 3) (Nat.le_of_ble_eq_true rfl) (Nat.le_of_ble_eq_true rfl) ?_
    have hSz : s.heap.size ≤ H1.size := hS.1
    clear hk1 hz1 hPc hF hB ht
    generalize H1 = H at hP hS hSz hc_v0 hc_v1 hc_r5 ⊢
    refine lv_goto (tgt := 45) hx hb (dt_at dt_Two_intersection 17 rfl) (by decide) ?_
    refine W.widen (k := 2) (n := 6) (Nat.le_of_ble_eq_true rfl) (Nat.le_of_ble_eq_true rfl) ?_
    exact k_Two_intersection_45 (PL := PL) hC hA hK   r5.1 r5.2.1 r5.2.2 y_r5 H locs ls hP hD hS  hc_r5 hf_r5 hn_r5 (lv_sub hl [] rfl) h
set_option maxRecDepth 100000 in
set_option maxHeartbeats 4000000 in
theorem c_Two_intersection (l : Launch) (D : va_G) (a : Nat → Nat) (q : Nat → ClassId) (hd : va_D (fun _ => True) (dE a)) (sz : Nat) (a0_l : Int64) (a0_h : Int64) (a0_m : Int32) (a1_l : Int64) (a1_h : Int64) (a1_m : Int32)  (y_a0 : Nat) (y_a1 : Nat) (hn_a0 : nin (dE a) y_a0) (hn_a1 : nin (dE a) y_a1) (r0 : Int64 × Int64 × Int32) (h : f_Two_intersection a0_l a0_h a0_m a1_l a1_h a1_m = some r0) : Met l (⟨"OutwardTape$TwoOperands", "intersection", "(LOutwardTape$Cell;LOutwardTape$Cell;)LOutwardTape$Cell;"⟩ : MethodName) (WSm (⟨"OutwardTape$TwoOperands", "intersection", "(LOutwardTape$Cell;LOutwardTape$Cell;)LOutwardTape$Cell;"⟩ : MethodName) prog_10_method_7_code 6 (some (.object "OutwardTape$Cell"))) rm_Two_intersection (va_Pc [.ref y_a0, .ref y_a1] (fun U => U.heap.size = sz ∧ va_P D CLS (wE a q ) U.heap ∧ va_K D CLS (tE q) U ∧ isC D U.heap y_a0 a0_l a0_h a0_m ∧ isC D U.heap y_a1 a1_l a1_h a1_m)) (va_Qr (fun _ : Unit => True) (fun _ ra t => (va_P D CLS (wE a q ) t.heap) ∧ isC D t.heap ra r0.1 r0.2.1 r0.2.2 ∧ (sz ≤ ra ∨ ra ∈ ([y_a0, y_a1] : List Nat))) (va_A (dE a) sz)) 2 6 (va_A (dE a) sz) := by
  refine Met.ofW (cc := prog_10_method_7_code) (maxL := 6) (ret := (some (.object "OutwardTape$Cell"))) (by decide) rfl ?_
  intro p e s m args below meth c s₁ B hml hv
  obtain ⟨rfl, hsz, hP, hK, hc_a0, hc_a1⟩ := hv
  subst hsz
  have hC := CX.of B hml rfl
  have hl := lv_entry [.ref y_a0, .ref y_a1] (n := 6) (Nat.le_of_ble_eq_true rfl)
  rw [lg_entry_eq]
  generalize (lg_sl [.ref y_a0, .ref y_a1] ++ List.replicate (6 - (lg_sl [.ref y_a0, .ref y_a1]).length) Slot.unset).toArray = ls at hl ⊢
  have hl : lv_has ls 6 [(0, .ref y_a0), (1, .ref y_a1)] := hl
  exact k_Two_intersection_0 (PL := [y_a0, y_a1]) hC (fun x h => Or.inr h) hK a0_l a0_h a0_m a1_l a1_h a1_m   y_a0 y_a1 s.heap [] ls hP (dD hd.self rfl) va_S.rf  hc_a0 (Or.inr (by simp)) hn_a0 hc_a1 (Or.inr (by simp)) hn_a1  (lv_sub hl [0, 1] rfl) h
abbrev rm_Two_greatestProduct : Room := { frames := 4, cells := 0, slots := 0, locals := 115 }
set_option maxRecDepth 100000 in
set_option maxHeartbeats 4000000 in
theorem k_Two_greatestProduct_0 {p : Program} {l : Launch} {e : Env} {s : State} {m : MethodId} {args : Array Value} {below : List Frame} {meth : Method} {c : Code} {D : va_G} {a : Nat → Nat} {q : Nat → ClassId} {A : Nat → Prop} (hC : CX p s m args meth c prog_10_method_6_code 3 "OutwardTape$TwoOperands" (some .long)) (hA : ∀ x, s.heap.size ≤ x → A x) (hK : va_K D CLS (tE q) s)  {r0 : Int64} : ∀ (v0 : Int64) (v2_l : Int64) (v2_h : Int64) (v2_m : Int32)  (y_v2 : Nat) (H : Heap) (locs : List Loc) (ls : Array Slot), va_P D CLS (wE a q ) H → va_D A (wE a q ) → va_S A s.heap H locs → isC D H y_v2 v2_l v2_h v2_m → nin (dE a) y_v2 → lv_has ls 3 [(0, .long v0), (2, .ref y_v2)] → f_Two_greatestProduct_0  v0 v2_l v2_h v2_m = some r0 → W p l e rm_Two_greatestProduct s m args below meth c H locs 0 0 (MQ below (va_Ql (fun (r : Int64) (_ : Unit) => r = r0) (fun _ t => va_P D CLS (wE a q ) t.heap) A) args s 0 0 A) (F0 m 0 ls []) := by
  obtain ⟨hx, hb, hml, hown, hts, hr, hlocks⟩ := id hC
  intro v0 v2_l v2_h v2_m y_v2 H locs ls hP hD hS hc_v2 hn_v2 hl h
  rw [f_Two_greatestProduct_0] at h
  have hSz : s.heap.size ≤ H.size := hS.1
  refine lv_lload_n hx hb (dt_at dt_Two_greatestProduct 0 rfl) rfl (lv_at hl 0 rfl) ?_
  refine lv_aload_n hx hb (dt_at dt_Two_greatestProduct 1 rfl) rfl (lv_at hl 1 rfl) ?_
  refine va_get (D := D) (ci := 4) (v := .long v2_l) (C := "OutwardTape$Cell") (T := T_Cell) (N := 3) hx hb hts in_Cell hown hK hc_v2 0 rfl rfl 0 (by decide) (hts (Cond.fieldLink "OutwardTape$TwoOperands" 36 "OutwardTape$Cell" "low" "J") (m_2 121 rfl rfl)) (fun _ h9 => h9) rfl (dt_at dt_Two_greatestProduct 2 rfl) ?_
  refine lv_iconst (v := 1) hx hb (dt_at dt_Two_greatestProduct 3 rfl) (by decide) ?_
  obtain ⟨r1, h_r1, h⟩ := ob_of h
  refine vp_callSl (W.runS (As := [.long v0, .long v2_l, .int (1 : Int32)]) (rest := []) ⟨hx, hb, hml, hown, hts⟩ (c_Exact_product l v0 v2_l (1 : Int32) r1 h_r1) (va_cwS 3 hts (gd_S (m_3 218 rfl rfl) (m_3 136 rfl rfl) (m_1 16 rfl rfl) (m_3 137 rfl rfl)) rfl rfl rfl (by decide +kernel) ⟨Nat.le_of_ble_eq_true rfl, Nat.le_of_ble_eq_true rfl⟩) ⟨fun _ _ _ _ q => q, fun U hU hW => ⟨rfl, trivial⟩⟩ rfl rfl hl.1 rfl (lv_room (Nat.le_of_ble_eq_true rfl)) (dt_at dt_Two_greatestProduct 4 rfl) ⟨Nat.le_of_ble_eq_true rfl, Nat.le_of_ble_eq_true rfl⟩) (fun u_r1 q_r1 => ?_)
  obtain rfl : r1 = u_r1 := q_r1.symm
  refine lv_lload_n hx hb (dt_at dt_Two_greatestProduct 5 rfl) rfl (lv_at hl 0 rfl) ?_
  refine lv_aload_n hx hb (dt_at dt_Two_greatestProduct 6 rfl) rfl (lv_at hl 1 rfl) ?_
  refine va_get (D := D) (ci := 4) (v := .long v2_h) (C := "OutwardTape$Cell") (T := T_Cell) (N := 3) hx hb hts in_Cell hown hK hc_v2 0 rfl rfl 1 (by decide) (hts (Cond.fieldLink "OutwardTape$TwoOperands" 40 "OutwardTape$Cell" "high" "J") (m_2 128 rfl rfl)) (fun _ h9 => h9) rfl (dt_at dt_Two_greatestProduct 7 rfl) ?_
  refine lv_iconst (v := 1) hx hb (dt_at dt_Two_greatestProduct 8 rfl) (by decide) ?_
  obtain ⟨r2, h_r2, h⟩ := ob_of h
  refine vp_callSl (W.runS (As := [.long v0, .long v2_h, .int (1 : Int32)]) (rest := [.long r1]) ⟨hx, hb, hml, hown, hts⟩ (c_Exact_product l v0 v2_h (1 : Int32) r2 h_r2) (va_cwS 3 hts (gd_S (m_3 218 rfl rfl) (m_3 136 rfl rfl) (m_1 16 rfl rfl) (m_3 137 rfl rfl)) rfl rfl rfl (by decide +kernel) ⟨Nat.le_of_ble_eq_true rfl, Nat.le_of_ble_eq_true rfl⟩) ⟨fun _ _ _ _ q => q, fun U hU hW => ⟨rfl, trivial⟩⟩ rfl rfl hl.1 rfl (lv_room (Nat.le_of_ble_eq_true rfl)) (dt_at dt_Two_greatestProduct 9 rfl) ⟨Nat.le_of_ble_eq_true rfl, Nat.le_of_ble_eq_true rfl⟩) (fun u_r2 q_r2 => ?_)
  obtain rfl : r2 = u_r2 := q_r2.symm
  obtain ⟨t3, e_t3, h⟩ := ol_of h
  refine va_mmax_long hx hb (hml.trans hl.1.symm) hown (hts (Cond.methodLink "OutwardTape$TwoOperands" 63 Lib.MathLoose.max_long.x) (m_3 204 rfl rfl)) (hts (Cond.static Lib.MathLoose.max_long.x) (m_1 218 rfl rfl)) (hts (Cond.initialized "java/lang/Math") (m_1 9 rfl rfl)) (hts (Cond.code Lib.MathLoose.max_long.x Lib.MathLoose.max_long.code 4 (some .long)) (m_1 219 rfl rfl)) (Nat.le_of_ble_eq_true rfl) (Nat.le_of_ble_eq_true rfl) (Nat.le_of_ble_eq_true rfl) (Nat.le_of_ble_eq_true rfl) (dt_at dt_Two_greatestProduct 10 rfl) ?_
  refine lv_topl (fun u_t3 q_t3 => ?_)
  obtain rfl : t3 = u_t3 := e_t3.trans q_t3.symm
  obtain rfl := os_of h
  exact W.lret (v := t3) hx hb hr (fun t ht hW => ⟨⟨_, (), rfl, rfl, (hPt hP ht)⟩, hS.F ht⟩) hS.2.2 (dt_at dt_Two_greatestProduct 11 rfl)
set_option maxRecDepth 100000 in
set_option maxHeartbeats 4000000 in
theorem c_Two_greatestProduct (l : Launch) (D : va_G) (a : Nat → Nat) (q : Nat → ClassId) (hd : va_D (fun _ => True) (dE a)) (sz : Nat) (a0 : Int64) (a2_l : Int64) (a2_h : Int64) (a2_m : Int32)  (y_a2 : Nat) (hn_a2 : nin (dE a) y_a2) (r0 : Int64) (h : f_Two_greatestProduct a0 a2_l a2_h a2_m = some r0) : Met l (⟨"OutwardTape$TwoOperands", "greatestProduct", "(JLOutwardTape$Cell;)J"⟩ : MethodName) (WSm (⟨"OutwardTape$TwoOperands", "greatestProduct", "(JLOutwardTape$Cell;)J"⟩ : MethodName) prog_10_method_6_code 3 (some .long)) rm_Two_greatestProduct (va_Pc [.long a0, .ref y_a2] (fun U => U.heap.size = sz ∧ va_P D CLS (wE a q ) U.heap ∧ va_K D CLS (tE q) U ∧ isC D U.heap y_a2 a2_l a2_h a2_m)) (va_Ql (fun (r : Int64) (_ : Unit) => r = r0) (fun _ t => va_P D CLS (wE a q ) t.heap) (va_A (dE a) sz)) 0 0 (va_A (dE a) sz) := by
  refine Met.ofW (cc := prog_10_method_6_code) (maxL := 3) (ret := (some .long)) (by decide) rfl ?_
  intro p e s m args below meth c s₁ B hml hv
  obtain ⟨rfl, hsz, hP, hK, hc_a2⟩ := hv
  subst hsz
  have hC := CX.of B hml rfl
  have hl := lv_entry [.long a0, .ref y_a2] (n := 3) (Nat.le_of_ble_eq_true rfl)
  rw [lg_entry_eq]
  generalize (lg_sl [.long a0, .ref y_a2] ++ List.replicate (3 - (lg_sl [.long a0, .ref y_a2]).length) Slot.unset).toArray = ls at hl ⊢
  have hl : lv_has ls 3 [(0, .long a0), (2, .ref y_a2)] := hl
  exact k_Two_greatestProduct_0  hC (fun x h => Or.inr h) hK a0 a2_l a2_h a2_m   y_a2 s.heap [] ls hP (dD hd.self rfl) va_S.rf  hc_a2  hn_a2  (lv_sub hl [0, 1] rfl) h
abbrev rm_Two_leastProduct : Room := { frames := 4, cells := 0, slots := 0, locals := 115 }
set_option maxRecDepth 100000 in
set_option maxHeartbeats 4000000 in
theorem k_Two_leastProduct_0 {p : Program} {l : Launch} {e : Env} {s : State} {m : MethodId} {args : Array Value} {below : List Frame} {meth : Method} {c : Code} {D : va_G} {a : Nat → Nat} {q : Nat → ClassId} {A : Nat → Prop} (hC : CX p s m args meth c prog_10_method_5_code 3 "OutwardTape$TwoOperands" (some .long)) (hA : ∀ x, s.heap.size ≤ x → A x) (hK : va_K D CLS (tE q) s)  {r0 : Int64} : ∀ (v0 : Int64) (v2_l : Int64) (v2_h : Int64) (v2_m : Int32)  (y_v2 : Nat) (H : Heap) (locs : List Loc) (ls : Array Slot), va_P D CLS (wE a q ) H → va_D A (wE a q ) → va_S A s.heap H locs → isC D H y_v2 v2_l v2_h v2_m → nin (dE a) y_v2 → lv_has ls 3 [(0, .long v0), (2, .ref y_v2)] → f_Two_leastProduct_0  v0 v2_l v2_h v2_m = some r0 → W p l e rm_Two_leastProduct s m args below meth c H locs 0 0 (MQ below (va_Ql (fun (r : Int64) (_ : Unit) => r = r0) (fun _ t => va_P D CLS (wE a q ) t.heap) A) args s 0 0 A) (F0 m 0 ls []) := by
  obtain ⟨hx, hb, hml, hown, hts, hr, hlocks⟩ := id hC
  intro v0 v2_l v2_h v2_m y_v2 H locs ls hP hD hS hc_v2 hn_v2 hl h
  rw [f_Two_leastProduct_0] at h
  have hSz : s.heap.size ≤ H.size := hS.1
  refine lv_lload_n hx hb (dt_at dt_Two_leastProduct 0 rfl) rfl (lv_at hl 0 rfl) ?_
  refine lv_aload_n hx hb (dt_at dt_Two_leastProduct 1 rfl) rfl (lv_at hl 1 rfl) ?_
  refine va_get (D := D) (ci := 4) (v := .long v2_l) (C := "OutwardTape$Cell") (T := T_Cell) (N := 3) hx hb hts in_Cell hown hK hc_v2 0 rfl rfl 0 (by decide) (hts (Cond.fieldLink "OutwardTape$TwoOperands" 36 "OutwardTape$Cell" "low" "J") (m_2 121 rfl rfl)) (fun _ h9 => h9) rfl (dt_at dt_Two_leastProduct 2 rfl) ?_
  refine lv_iconst (v := -1) hx hb (dt_at dt_Two_leastProduct 3 rfl) (by decide) ?_
  obtain ⟨r1, h_r1, h⟩ := ob_of h
  refine vp_callSl (W.runS (As := [.long v0, .long v2_l, .int (-1 : Int32)]) (rest := []) ⟨hx, hb, hml, hown, hts⟩ (c_Exact_product l v0 v2_l (-1 : Int32) r1 h_r1) (va_cwS 3 hts (gd_S (m_3 218 rfl rfl) (m_3 136 rfl rfl) (m_1 16 rfl rfl) (m_3 137 rfl rfl)) rfl rfl rfl (by decide +kernel) ⟨Nat.le_of_ble_eq_true rfl, Nat.le_of_ble_eq_true rfl⟩) ⟨fun _ _ _ _ q => q, fun U hU hW => ⟨rfl, trivial⟩⟩ rfl rfl hl.1 rfl (lv_room (Nat.le_of_ble_eq_true rfl)) (dt_at dt_Two_leastProduct 4 rfl) ⟨Nat.le_of_ble_eq_true rfl, Nat.le_of_ble_eq_true rfl⟩) (fun u_r1 q_r1 => ?_)
  obtain rfl : r1 = u_r1 := q_r1.symm
  refine lv_lload_n hx hb (dt_at dt_Two_leastProduct 5 rfl) rfl (lv_at hl 0 rfl) ?_
  refine lv_aload_n hx hb (dt_at dt_Two_leastProduct 6 rfl) rfl (lv_at hl 1 rfl) ?_
  refine va_get (D := D) (ci := 4) (v := .long v2_h) (C := "OutwardTape$Cell") (T := T_Cell) (N := 3) hx hb hts in_Cell hown hK hc_v2 0 rfl rfl 1 (by decide) (hts (Cond.fieldLink "OutwardTape$TwoOperands" 40 "OutwardTape$Cell" "high" "J") (m_2 128 rfl rfl)) (fun _ h9 => h9) rfl (dt_at dt_Two_leastProduct 7 rfl) ?_
  refine lv_iconst (v := -1) hx hb (dt_at dt_Two_leastProduct 8 rfl) (by decide) ?_
  obtain ⟨r2, h_r2, h⟩ := ob_of h
  refine vp_callSl (W.runS (As := [.long v0, .long v2_h, .int (-1 : Int32)]) (rest := [.long r1]) ⟨hx, hb, hml, hown, hts⟩ (c_Exact_product l v0 v2_h (-1 : Int32) r2 h_r2) (va_cwS 3 hts (gd_S (m_3 218 rfl rfl) (m_3 136 rfl rfl) (m_1 16 rfl rfl) (m_3 137 rfl rfl)) rfl rfl rfl (by decide +kernel) ⟨Nat.le_of_ble_eq_true rfl, Nat.le_of_ble_eq_true rfl⟩) ⟨fun _ _ _ _ q => q, fun U hU hW => ⟨rfl, trivial⟩⟩ rfl rfl hl.1 rfl (lv_room (Nat.le_of_ble_eq_true rfl)) (dt_at dt_Two_leastProduct 9 rfl) ⟨Nat.le_of_ble_eq_true rfl, Nat.le_of_ble_eq_true rfl⟩) (fun u_r2 q_r2 => ?_)
  obtain rfl : r2 = u_r2 := q_r2.symm
  obtain ⟨t3, e_t3, h⟩ := ol_of h
  refine va_mmin_long hx hb (hml.trans hl.1.symm) hown (hts (Cond.methodLink "OutwardTape$TwoOperands" 57 Lib.MathLoose.min_long.x) (m_3 203 rfl rfl)) (hts (Cond.static Lib.MathLoose.min_long.x) (m_1 225 rfl rfl)) (hts (Cond.initialized "java/lang/Math") (m_1 9 rfl rfl)) (hts (Cond.code Lib.MathLoose.min_long.x Lib.MathLoose.min_long.code 4 (some .long)) (m_1 226 rfl rfl)) (Nat.le_of_ble_eq_true rfl) (Nat.le_of_ble_eq_true rfl) (Nat.le_of_ble_eq_true rfl) (Nat.le_of_ble_eq_true rfl) (dt_at dt_Two_leastProduct 10 rfl) ?_
  refine lv_topl (fun u_t3 q_t3 => ?_)
  obtain rfl : t3 = u_t3 := e_t3.trans q_t3.symm
  obtain rfl := os_of h
  exact W.lret (v := t3) hx hb hr (fun t ht hW => ⟨⟨_, (), rfl, rfl, (hPt hP ht)⟩, hS.F ht⟩) hS.2.2 (dt_at dt_Two_leastProduct 11 rfl)
set_option maxRecDepth 100000 in
set_option maxHeartbeats 4000000 in
theorem c_Two_leastProduct (l : Launch) (D : va_G) (a : Nat → Nat) (q : Nat → ClassId) (hd : va_D (fun _ => True) (dE a)) (sz : Nat) (a0 : Int64) (a2_l : Int64) (a2_h : Int64) (a2_m : Int32)  (y_a2 : Nat) (hn_a2 : nin (dE a) y_a2) (r0 : Int64) (h : f_Two_leastProduct a0 a2_l a2_h a2_m = some r0) : Met l (⟨"OutwardTape$TwoOperands", "leastProduct", "(JLOutwardTape$Cell;)J"⟩ : MethodName) (WSm (⟨"OutwardTape$TwoOperands", "leastProduct", "(JLOutwardTape$Cell;)J"⟩ : MethodName) prog_10_method_5_code 3 (some .long)) rm_Two_leastProduct (va_Pc [.long a0, .ref y_a2] (fun U => U.heap.size = sz ∧ va_P D CLS (wE a q ) U.heap ∧ va_K D CLS (tE q) U ∧ isC D U.heap y_a2 a2_l a2_h a2_m)) (va_Ql (fun (r : Int64) (_ : Unit) => r = r0) (fun _ t => va_P D CLS (wE a q ) t.heap) (va_A (dE a) sz)) 0 0 (va_A (dE a) sz) := by
  refine Met.ofW (cc := prog_10_method_5_code) (maxL := 3) (ret := (some .long)) (by decide) rfl ?_
  intro p e s m args below meth c s₁ B hml hv
  obtain ⟨rfl, hsz, hP, hK, hc_a2⟩ := hv
  subst hsz
  have hC := CX.of B hml rfl
  have hl := lv_entry [.long a0, .ref y_a2] (n := 3) (Nat.le_of_ble_eq_true rfl)
  rw [lg_entry_eq]
  generalize (lg_sl [.long a0, .ref y_a2] ++ List.replicate (3 - (lg_sl [.long a0, .ref y_a2]).length) Slot.unset).toArray = ls at hl ⊢
  have hl : lv_has ls 3 [(0, .long a0), (2, .ref y_a2)] := hl
  exact k_Two_leastProduct_0  hC (fun x h => Or.inr h) hK a0 a2_l a2_h a2_m   y_a2 s.heap [] ls hP (dD hd.self rfl) va_S.rf  hc_a2  hn_a2  (lv_sub hl [0, 1] rfl) h
abbrev rm_Two_product : Room := { frames := 5, cells := 2, slots := 6, locals := 137 }
set_option maxRecDepth 100000 in
set_option maxHeartbeats 4000000 in
theorem k_Two_product_0 {p : Program} {l : Launch} {e : Env} {s : State} {m : MethodId} {args : Array Value} {below : List Frame} {meth : Method} {c : Code} {D : va_G} {a : Nat → Nat} {q : Nat → ClassId} {PL : List Nat} {A : Nat → Prop} (hC : CX p s m args meth c prog_10_method_4_code 7 "OutwardTape$TwoOperands" (some (.object "OutwardTape$Cell"))) (hA : ∀ x, s.heap.size ≤ x → A x) (hK : va_K D CLS (tE q) s)  {r0 : Int64 × Int64 × Int32} : ∀ (v0_l : Int64) (v0_h : Int64) (v0_m : Int32) (v1_l : Int64) (v1_h : Int64) (v1_m : Int32) (v2 : Int32)  (y_v0 : Nat) (y_v1 : Nat) (H : Heap) (locs : List Loc) (ls : Array Slot), va_P D CLS (wE a q ) H → va_D A (wE a q ) → va_S A s.heap H locs → isC D H y_v0 v0_l v0_h v0_m → (s.heap.size ≤ y_v0 ∨ y_v0 ∈ PL) → nin (dE a) y_v0 → isC D H y_v1 v1_l v1_h v1_m → (s.heap.size ≤ y_v1 ∨ y_v1 ∈ PL) → nin (dE a) y_v1 → lv_has ls 7 [(0, .ref y_v0), (1, .ref y_v1), (2, .int v2)] → f_Two_product_0  v0_l v0_h v0_m v1_l v1_h v1_m v2 = some r0 → W p l e rm_Two_product s m args below meth c H locs 0 0 (MQ below (va_Qr (fun _ : Unit => True) (fun _ ra t => (va_P D CLS (wE a q ) t.heap) ∧ isC D t.heap ra r0.1 r0.2.1 r0.2.2 ∧ (s.heap.size ≤ ra ∨ ra ∈ PL)) A) args s 2 6 A) (F0 m 0 ls []) := by
  obtain ⟨hx, hb, hml, hown, hts, hr, hlocks⟩ := id hC
  intro v0_l v0_h v0_m v1_l v1_h v1_m v2 y_v0 y_v1 H locs ls hP hD hS hc_v0 hf_v0 hn_v0 hc_v1 hf_v1 hn_v1 hl h
  rw [f_Two_product_0] at h
  have hSz : s.heap.size ≤ H.size := hS.1
  refine lv_aload_n hx hb (dt_at dt_Two_product 0 rfl) rfl (lv_at hl 0 rfl) ?_
  refine va_get (D := D) (ci := 4) (v := .long v0_l) (C := "OutwardTape$Cell") (T := T_Cell) (N := 3) hx hb hts in_Cell hown hK hc_v0 0 rfl rfl 0 (by decide) (hts (Cond.fieldLink "OutwardTape$TwoOperands" 36 "OutwardTape$Cell" "low" "J") (m_2 121 rfl rfl)) (fun _ h9 => h9) rfl (dt_at dt_Two_product 1 rfl) ?_
  refine lv_aload_n hx hb (dt_at dt_Two_product 2 rfl) rfl (lv_at hl 1 rfl) ?_
  obtain ⟨r1, h_r1, h⟩ := ob_of h
  have hPc : va_P D CLS (wE a q) H := fun k q h => by simp [wE] at h
  have hd : va_D (fun _ => True) (dE a) := dE_D a
  have hKc : va_K D CLS (tE q) s := hK.sub (tys' := []) [] rfl
  have hF : ∀ x, va_A (dE a) H.size x → A x := fun x h9 => h9.elim (fun ⟨k, e, h⟩ => by simp [dE] at h) (fun g => hA _ (Nat.le_trans hS.1 g))
  refine va_calll (va_runS (As := [.long v0_l, .ref y_v1]) (rest := []) ⟨hx, hb, hml, hown, hts⟩ (c_Two_leastProduct l D a q  hd H.size v0_l v1_l v1_h v1_m  y_v1 (nin_E a y_v1) r1 h_r1) (va_cwS 2 hts (gd_S (m_3 215 rfl rfl) (m_3 216 rfl rfl) (m_1 21 rfl rfl) (m_3 217 rfl rfl)) rfl rfl rfl (by decide +kernel) ⟨Nat.le_of_ble_eq_true rfl, Nat.le_of_ble_eq_true rfl⟩) ⟨fun a U g mk q => ⟨q.1, q.2.1, q.2.2.1, va_K.moved (u := U) (U := U.calling g mk a) (Vm.Alike.refl U.vm) q.2.2.2.1, q.2.2.2.2⟩, fun U hU hW => ⟨rfl, by rw [hU], by rw [hU]; exact hPc, va_K.moved hW.alike hKc, by rw [hU]; exact hc_v1⟩⟩ rfl rfl hl.1 rfl (lv_room (Nat.le_of_ble_eq_true rfl)) (dt_at dt_Two_product 3 rfl) ⟨Nat.le_of_ble_eq_true rfl, Nat.le_of_ble_eq_true rfl⟩) hS (fun x _ h9 => hF x h9) hF (fun u_r1 uu t H1 locs ht hvm hw hB hz1 hk1 hS => ?_)
  obtain rfl : r1 = u_r1 := hw.symm
  have hc_v0 := isC.keptA hc_v0 hk1 (nin_E a y_v0)
  have hc_v1 := isC.keptA hc_v1 hk1 (nin_E a y_v1)
  have hP := va_P.kept hP (fun k q hq => hk1 _ (hP k q hq).lt (not_AE (hP k q hq).lt))
  have hSz : s.heap.size ≤ H1.size := hS.1
  clear hk1 hz1 hPc hF hB ht
  generalize H1 = H at hP hS hSz hc_v0 hc_v1 ⊢
  refine lv_aload_n hx hb (dt_at dt_Two_product 4 rfl) rfl (lv_at hl 0 rfl) ?_
  refine va_get (D := D) (ci := 4) (v := .long v0_h) (C := "OutwardTape$Cell") (T := T_Cell) (N := 3) hx hb hts in_Cell hown hK hc_v0 0 rfl rfl 1 (by decide) (hts (Cond.fieldLink "OutwardTape$TwoOperands" 40 "OutwardTape$Cell" "high" "J") (m_2 128 rfl rfl)) (fun _ h9 => h9) rfl (dt_at dt_Two_product 5 rfl) ?_
  refine lv_aload_n hx hb (dt_at dt_Two_product 6 rfl) rfl (lv_at hl 1 rfl) ?_
  obtain ⟨r2, h_r2, h⟩ := ob_of h
  have hPc : va_P D CLS (wE a q) H := fun k q h => by simp [wE] at h
  have hd : va_D (fun _ => True) (dE a) := dE_D a
  have hKc : va_K D CLS (tE q) s := hK.sub (tys' := []) [] rfl
  have hF : ∀ x, va_A (dE a) H.size x → A x := fun x h9 => h9.elim (fun ⟨k, e, h⟩ => by simp [dE] at h) (fun g => hA _ (Nat.le_trans hS.1 g))
  refine va_calll (va_runS (As := [.long v0_h, .ref y_v1]) (rest := [.long r1]) ⟨hx, hb, hml, hown, hts⟩ (c_Two_leastProduct l D a q  hd H.size v0_h v1_l v1_h v1_m  y_v1 (nin_E a y_v1) r2 h_r2) (va_cwS 2 hts (gd_S (m_3 215 rfl rfl) (m_3 216 rfl rfl) (m_1 21 rfl rfl) (m_3 217 rfl rfl)) rfl rfl rfl (by decide +kernel) ⟨Nat.le_of_ble_eq_true rfl, Nat.le_of_ble_eq_true rfl⟩) ⟨fun a U g mk q => ⟨q.1, q.2.1, q.2.2.1, va_K.moved (u := U) (U := U.calling g mk a) (Vm.Alike.refl U.vm) q.2.2.2.1, q.2.2.2.2⟩, fun U hU hW => ⟨rfl, by rw [hU], by rw [hU]; exact hPc, va_K.moved hW.alike hKc, by rw [hU]; exact hc_v1⟩⟩ rfl rfl hl.1 rfl (lv_room (Nat.le_of_ble_eq_true rfl)) (dt_at dt_Two_product 7 rfl) ⟨Nat.le_of_ble_eq_true rfl, Nat.le_of_ble_eq_true rfl⟩) hS (fun x _ h9 => hF x h9) hF (fun u_r2 uu t H1 locs ht hvm hw hB hz1 hk1 hS => ?_)
  obtain rfl : r2 = u_r2 := hw.symm
  have hc_v0 := isC.keptA hc_v0 hk1 (nin_E a y_v0)
  have hc_v1 := isC.keptA hc_v1 hk1 (nin_E a y_v1)
  have hP := va_P.kept hP (fun k q hq => hk1 _ (hP k q hq).lt (not_AE (hP k q hq).lt))
  have hSz : s.heap.size ≤ H1.size := hS.1
  clear hk1 hz1 hPc hF hB ht
  generalize H1 = H at hP hS hSz hc_v0 hc_v1 ⊢
  obtain ⟨t3, e_t3, h⟩ := ol_of h
  refine va_mmin_long hx hb (hml.trans hl.1.symm) hown (hts (Cond.methodLink "OutwardTape$TwoOperands" 57 Lib.MathLoose.min_long.x) (m_3 203 rfl rfl)) (hts (Cond.static Lib.MathLoose.min_long.x) (m_1 225 rfl rfl)) (hts (Cond.initialized "java/lang/Math") (m_1 9 rfl rfl)) (hts (Cond.code Lib.MathLoose.min_long.x Lib.MathLoose.min_long.code 4 (some .long)) (m_1 226 rfl rfl)) (Nat.le_of_ble_eq_true rfl) (Nat.le_of_ble_eq_true rfl) (Nat.le_of_ble_eq_true rfl) (Nat.le_of_ble_eq_true rfl) (dt_at dt_Two_product 8 rfl) ?_
  refine lv_topl (fun u_t3 q_t3 => ?_)
  obtain rfl : t3 = u_t3 := e_t3.trans q_t3.symm
  refine lv_lstore_n (lv' := [(3, .long t3), (0, .ref y_v0), (1, .ref y_v1), (2, .int v2)]) hx hb (dt_at dt_Two_product 9 rfl) rfl hl (by decide) rfl (fun ls hl => ?_)
  refine lv_aload_n hx hb (dt_at dt_Two_product 10 rfl) rfl (lv_at hl 1 rfl) ?_
  refine va_get (D := D) (ci := 4) (v := .long v0_l) (C := "OutwardTape$Cell") (T := T_Cell) (N := 3) hx hb hts in_Cell hown hK hc_v0 0 rfl rfl 0 (by decide) (hts (Cond.fieldLink "OutwardTape$TwoOperands" 36 "OutwardTape$Cell" "low" "J") (m_2 121 rfl rfl)) (fun _ h9 => h9) rfl (dt_at dt_Two_product 11 rfl) ?_
  refine lv_aload_n hx hb (dt_at dt_Two_product 12 rfl) rfl (lv_at hl 2 rfl) ?_
  obtain ⟨r4, h_r4, h⟩ := ob_of h
  have hPc : va_P D CLS (wE a q) H := fun k q h => by simp [wE] at h
  have hd : va_D (fun _ => True) (dE a) := dE_D a
  have hKc : va_K D CLS (tE q) s := hK.sub (tys' := []) [] rfl
  have hF : ∀ x, va_A (dE a) H.size x → A x := fun x h9 => h9.elim (fun ⟨k, e, h⟩ => by simp [dE] at h) (fun g => hA _ (Nat.le_trans hS.1 g))
  refine va_calll (va_runS (As := [.long v0_l, .ref y_v1]) (rest := []) ⟨hx, hb, hml, hown, hts⟩ (c_Two_greatestProduct l D a q  hd H.size v0_l v1_l v1_h v1_m  y_v1 (nin_E a y_v1) r4 h_r4) (va_cwS 2 hts (gd_S (m_3 219 rfl rfl) (m_3 220 rfl rfl) (m_1 21 rfl rfl) (m_3 221 rfl rfl)) rfl rfl rfl (by decide +kernel) ⟨Nat.le_of_ble_eq_true rfl, Nat.le_of_ble_eq_true rfl⟩) ⟨fun a U g mk q => ⟨q.1, q.2.1, q.2.2.1, va_K.moved (u := U) (U := U.calling g mk a) (Vm.Alike.refl U.vm) q.2.2.2.1, q.2.2.2.2⟩, fun U hU hW => ⟨rfl, by rw [hU], by rw [hU]; exact hPc, va_K.moved hW.alike hKc, by rw [hU]; exact hc_v1⟩⟩ rfl rfl hl.1 rfl (lv_room (Nat.le_of_ble_eq_true rfl)) (dt_at dt_Two_product 13 rfl) ⟨Nat.le_of_ble_eq_true rfl, Nat.le_of_ble_eq_true rfl⟩) hS (fun x _ h9 => hF x h9) hF (fun u_r4 uu t H1 locs ht hvm hw hB hz1 hk1 hS => ?_)
  obtain rfl : r4 = u_r4 := hw.symm
  have hc_v0 := isC.keptA hc_v0 hk1 (nin_E a y_v0)
  have hc_v1 := isC.keptA hc_v1 hk1 (nin_E a y_v1)
  have hP := va_P.kept hP (fun k q hq => hk1 _ (hP k q hq).lt (not_AE (hP k q hq).lt))
  have hSz : s.heap.size ≤ H1.size := hS.1
  clear hk1 hz1 hPc hF hB ht
  generalize H1 = H at hP hS hSz hc_v0 hc_v1 ⊢
  refine lv_aload_n hx hb (dt_at dt_Two_product 14 rfl) rfl (lv_at hl 1 rfl) ?_
  refine va_get (D := D) (ci := 4) (v := .long v0_h) (C := "OutwardTape$Cell") (T := T_Cell) (N := 3) hx hb hts in_Cell hown hK hc_v0 0 rfl rfl 1 (by decide) (hts (Cond.fieldLink "OutwardTape$TwoOperands" 40 "OutwardTape$Cell" "high" "J") (m_2 128 rfl rfl)) (fun _ h9 => h9) rfl (dt_at dt_Two_product 15 rfl) ?_
  refine lv_aload_n hx hb (dt_at dt_Two_product 16 rfl) rfl (lv_at hl 2 rfl) ?_
  obtain ⟨r5, h_r5, h⟩ := ob_of h
  have hPc : va_P D CLS (wE a q) H := fun k q h => by simp [wE] at h
  have hd : va_D (fun _ => True) (dE a) := dE_D a
  have hKc : va_K D CLS (tE q) s := hK.sub (tys' := []) [] rfl
  have hF : ∀ x, va_A (dE a) H.size x → A x := fun x h9 => h9.elim (fun ⟨k, e, h⟩ => by simp [dE] at h) (fun g => hA _ (Nat.le_trans hS.1 g))
  refine va_calll (va_runS (As := [.long v0_h, .ref y_v1]) (rest := [.long r4]) ⟨hx, hb, hml, hown, hts⟩ (c_Two_greatestProduct l D a q  hd H.size v0_h v1_l v1_h v1_m  y_v1 (nin_E a y_v1) r5 h_r5) (va_cwS 2 hts (gd_S (m_3 219 rfl rfl) (m_3 220 rfl rfl) (m_1 21 rfl rfl) (m_3 221 rfl rfl)) rfl rfl rfl (by decide +kernel) ⟨Nat.le_of_ble_eq_true rfl, Nat.le_of_ble_eq_true rfl⟩) ⟨fun a U g mk q => ⟨q.1, q.2.1, q.2.2.1, va_K.moved (u := U) (U := U.calling g mk a) (Vm.Alike.refl U.vm) q.2.2.2.1, q.2.2.2.2⟩, fun U hU hW => ⟨rfl, by rw [hU], by rw [hU]; exact hPc, va_K.moved hW.alike hKc, by rw [hU]; exact hc_v1⟩⟩ rfl rfl hl.1 rfl (lv_room (Nat.le_of_ble_eq_true rfl)) (dt_at dt_Two_product 17 rfl) ⟨Nat.le_of_ble_eq_true rfl, Nat.le_of_ble_eq_true rfl⟩) hS (fun x _ h9 => hF x h9) hF (fun u_r5 uu t H1 locs ht hvm hw hB hz1 hk1 hS => ?_)
  obtain rfl : r5 = u_r5 := hw.symm
  have hc_v0 := isC.keptA hc_v0 hk1 (nin_E a y_v0)
  have hc_v1 := isC.keptA hc_v1 hk1 (nin_E a y_v1)
  have hP := va_P.kept hP (fun k q hq => hk1 _ (hP k q hq).lt (not_AE (hP k q hq).lt))
  have hSz : s.heap.size ≤ H1.size := hS.1
  clear hk1 hz1 hPc hF hB ht
  generalize H1 = H at hP hS hSz hc_v0 hc_v1 ⊢
  obtain ⟨t6, e_t6, h⟩ := ol_of h
  refine va_mmax_long hx hb (hml.trans hl.1.symm) hown (hts (Cond.methodLink "OutwardTape$TwoOperands" 63 Lib.MathLoose.max_long.x) (m_3 204 rfl rfl)) (hts (Cond.static Lib.MathLoose.max_long.x) (m_1 218 rfl rfl)) (hts (Cond.initialized "java/lang/Math") (m_1 9 rfl rfl)) (hts (Cond.code Lib.MathLoose.max_long.x Lib.MathLoose.max_long.code 4 (some .long)) (m_1 219 rfl rfl)) (Nat.le_of_ble_eq_true rfl) (Nat.le_of_ble_eq_true rfl) (Nat.le_of_ble_eq_true rfl) (Nat.le_of_ble_eq_true rfl) (dt_at dt_Two_product 18 rfl) ?_
  refine lv_topl (fun u_t6 q_t6 => ?_)
  obtain rfl : t6 = u_t6 := e_t6.trans q_t6.symm
  refine lv_lstore (lv' := [(5, .long t6), (3, .long t3), (0, .ref y_v0), (1, .ref y_v1), (2, .int v2)]) hx hb (dt_at dt_Two_product 19 rfl) hl (by decide) rfl (fun ls hl => ?_)
  refine lv_lload_n hx hb (dt_at dt_Two_product 20 rfl) rfl (lv_at hl 1 rfl) ?_
  refine lv_lload hx hb (dt_at dt_Two_product 21 rfl) (lv_at hl 0 rfl) ?_
  refine lv_iconst (v := 4) hx hb (dt_at dt_Two_product 22 rfl) (by decide) ?_
  refine lv_iload_n hx hb (dt_at dt_Two_product 23 rfl) rfl (lv_at hl 4 rfl) ?_
  obtain ⟨r7, h_r7, h⟩ := ob_of h
  have hPc : va_P D CLS (wE a q) H := fun k q h => by simp [wE] at h
  have hd : va_D (fun _ => True) (dE a) := dE_D a
  have hKc : va_K D CLS (tE q) s := hK.sub (tys' := []) [] rfl
  have hF : ∀ x, va_A (dE a) H.size x → A x := fun x h9 => h9.elim (fun ⟨k, e, h⟩ => by simp [dE] at h) (fun g => hA _ (Nat.le_trans hS.1 g))
  refine va_callr (va_runS (As := [.long t3, .long t6, .int (4 : Int32), .int v2]) (rest := []) ⟨hx, hb, hml, hown, hts⟩ (c_Cell_value l D a q  hd H.size t3 t6 (4 : Int32) v2    r7 h_r7) (va_cwS 4 hts (gd_S (m_3 211 rfl rfl) (m_2 219 rfl rfl) (m_1 10 rfl rfl) (m_2 220 rfl rfl)) rfl rfl rfl (by decide +kernel) ⟨Nat.le_of_ble_eq_true rfl, Nat.le_of_ble_eq_true rfl⟩) ⟨fun a U g mk q => ⟨q.1, q.2.1, q.2.2.1, va_K.moved (u := U) (U := U.calling g mk a) (Vm.Alike.refl U.vm) q.2.2.2⟩, fun U hU hW => ⟨rfl, by rw [hU], by rw [hU]; exact hPc, va_K.moved hW.alike hKc⟩⟩ rfl rfl hl.1 rfl (lv_room (Nat.le_of_ble_eq_true rfl)) (dt_at dt_Two_product 24 rfl) ⟨Nat.le_of_ble_eq_true rfl, Nat.le_of_ble_eq_true rfl⟩) hS (fun x _ h9 => hF x h9) hF (fun uu y_r7 t H1 locs ht hvm hw hB hz1 hk1 hS => ?_)
  obtain ⟨hB, hc_r7, hq_r7⟩ := hB
  rw [ht] at hc_r7
  have hn_r7 : nin (dE a) y_r7 := nin_cases hq_r7 (fun g9 => nin_big hP g9 rfl) (fun g9 => by simp at g9)
  have hf_r7 : s.heap.size ≤ y_r7 ∨ y_r7 ∈ PL := nin_cases hq_r7 (fun g9 => Or.inl (Nat.le_trans hSz g9)) (fun g9 => by simp at g9)
  clear hq_r7
  have hc_v0 := isC.keptA hc_v0 hk1 (nin_E a y_v0)
  have hc_v1 := isC.keptA hc_v1 hk1 (nin_E a y_v1)
  have hP := va_P.kept hP (fun k q hq => hk1 _ (hP k q hq).lt (not_AE (hP k q hq).lt))
  refine W.widen (k := 2) (n := 6) (Nat.le_of_ble_eq_true rfl) (Nat.le_of_ble_eq_true rfl) ?_
  have hSz : s.heap.size ≤ H1.size := hS.1
  clear hk1 hz1 hPc hF hB ht
  generalize H1 = H at hP hS hSz hc_v0 hc_v1 hc_r7 ⊢
  obtain rfl := os_of h
  exact W.aret hx hb hr (Or.inl ⟨_, rfl⟩) (Or.inr ⟨_, rfl⟩) (fun t ht hW => ⟨⟨(), y_r7, rfl, trivial, (hPt hP ht), hPt hc_r7 ht, hf_r7⟩, hS.F ht⟩) hS.2.2 (dt_at dt_Two_product 25 rfl)
set_option maxRecDepth 100000 in
set_option maxHeartbeats 4000000 in
theorem c_Two_product (l : Launch) (D : va_G) (a : Nat → Nat) (q : Nat → ClassId) (hd : va_D (fun _ => True) (dE a)) (sz : Nat) (a0_l : Int64) (a0_h : Int64) (a0_m : Int32) (a1_l : Int64) (a1_h : Int64) (a1_m : Int32) (a2 : Int32)  (y_a0 : Nat) (y_a1 : Nat) (hn_a0 : nin (dE a) y_a0) (hn_a1 : nin (dE a) y_a1) (r0 : Int64 × Int64 × Int32) (h : f_Two_product a0_l a0_h a0_m a1_l a1_h a1_m a2 = some r0) : Met l (⟨"OutwardTape$TwoOperands", "product", "(LOutwardTape$Cell;LOutwardTape$Cell;I)LOutwardTape$Cell;"⟩ : MethodName) (WSm (⟨"OutwardTape$TwoOperands", "product", "(LOutwardTape$Cell;LOutwardTape$Cell;I)LOutwardTape$Cell;"⟩ : MethodName) prog_10_method_4_code 7 (some (.object "OutwardTape$Cell"))) rm_Two_product (va_Pc [.ref y_a0, .ref y_a1, .int a2] (fun U => U.heap.size = sz ∧ va_P D CLS (wE a q ) U.heap ∧ va_K D CLS (tE q) U ∧ isC D U.heap y_a0 a0_l a0_h a0_m ∧ isC D U.heap y_a1 a1_l a1_h a1_m)) (va_Qr (fun _ : Unit => True) (fun _ ra t => (va_P D CLS (wE a q ) t.heap) ∧ isC D t.heap ra r0.1 r0.2.1 r0.2.2 ∧ (sz ≤ ra ∨ ra ∈ ([y_a0, y_a1] : List Nat))) (va_A (dE a) sz)) 2 6 (va_A (dE a) sz) := by
  refine Met.ofW (cc := prog_10_method_4_code) (maxL := 7) (ret := (some (.object "OutwardTape$Cell"))) (by decide) rfl ?_
  intro p e s m args below meth c s₁ B hml hv
  obtain ⟨rfl, hsz, hP, hK, hc_a0, hc_a1⟩ := hv
  subst hsz
  have hC := CX.of B hml rfl
  have hl := lv_entry [.ref y_a0, .ref y_a1, .int a2] (n := 7) (Nat.le_of_ble_eq_true rfl)
  rw [lg_entry_eq]
  generalize (lg_sl [.ref y_a0, .ref y_a1, .int a2] ++ List.replicate (7 - (lg_sl [.ref y_a0, .ref y_a1, .int a2]).length) Slot.unset).toArray = ls at hl ⊢
  have hl : lv_has ls 7 [(0, .ref y_a0), (1, .ref y_a1), (2, .int a2)] := hl
  exact k_Two_product_0 (PL := [y_a0, y_a1]) hC (fun x h => Or.inr h) hK a0_l a0_h a0_m a1_l a1_h a1_m a2   y_a0 y_a1 s.heap [] ls hP (dD hd.self rfl) va_S.rf  hc_a0 (Or.inr (by simp)) hn_a0 hc_a1 (Or.inr (by simp)) hn_a1  (lv_sub hl [0, 1, 2] rfl) h
abbrev rm_Two_sum : Room := { frames := 4, cells := 2, slots := 6, locals := 121 }
set_option maxRecDepth 100000 in
set_option maxHeartbeats 4000000 in
theorem k_Two_sum_0 {p : Program} {l : Launch} {e : Env} {s : State} {m : MethodId} {args : Array Value} {below : List Frame} {meth : Method} {c : Code} {D : va_G} {a : Nat → Nat} {q : Nat → ClassId} {PL : List Nat} {A : Nat → Prop} (hC : CX p s m args meth c prog_10_method_3_code 8 "OutwardTape$TwoOperands" (some (.object "OutwardTape$Cell"))) (hA : ∀ x, s.heap.size ≤ x → A x) (hK : va_K D CLS (tE q) s)  {r0 : Int64 × Int64 × Int32} : ∀ (v0_l : Int64) (v0_h : Int64) (v0_m : Int32) (v1 : Int64) (v3 : Int64) (v5 : Int32)  (y_v0 : Nat) (H : Heap) (locs : List Loc) (ls : Array Slot), va_P D CLS (wE a q ) H → va_D A (wE a q ) → va_S A s.heap H locs → isC D H y_v0 v0_l v0_h v0_m → (s.heap.size ≤ y_v0 ∨ y_v0 ∈ PL) → nin (dE a) y_v0 → lv_has ls 8 [(0, .ref y_v0), (1, .long v1), (3, .long v3), (5, .int v5)] → f_Two_sum_0  v0_l v0_h v0_m v1 v3 v5 = some r0 → W p l e rm_Two_sum s m args below meth c H locs 0 0 (MQ below (va_Qr (fun _ : Unit => True) (fun _ ra t => (va_P D CLS (wE a q ) t.heap) ∧ isC D t.heap ra r0.1 r0.2.1 r0.2.2 ∧ (s.heap.size ≤ ra ∨ ra ∈ PL)) A) args s 2 6 A) (F0 m 0 ls []) := by
  obtain ⟨hx, hb, hml, hown, hts, hr, hlocks⟩ := id hC
  intro v0_l v0_h v0_m v1 v3 v5 y_v0 H locs ls hP hD hS hc_v0 hf_v0 hn_v0 hl h
  rw [f_Two_sum_0] at h
  have hSz : s.heap.size ≤ H.size := hS.1
  refine lv_aload_n hx hb (dt_at dt_Two_sum 0 rfl) rfl (lv_at hl 0 rfl) ?_
  refine va_get (D := D) (ci := 4) (v := .long v0_l) (C := "OutwardTape$Cell") (T := T_Cell) (N := 3) hx hb hts in_Cell hown hK hc_v0 0 rfl rfl 0 (by decide) (hts (Cond.fieldLink "OutwardTape$TwoOperands" 36 "OutwardTape$Cell" "low" "J") (m_2 121 rfl rfl)) (fun _ h9 => h9) rfl (dt_at dt_Two_sum 1 rfl) ?_
  refine lv_lload_n hx hb (dt_at dt_Two_sum 2 rfl) rfl (lv_at hl 1 rfl) ?_
  refine lv_iconst (v := -1) hx hb (dt_at dt_Two_sum 3 rfl) (by decide) ?_
  obtain ⟨r1, h_r1, h⟩ := ob_of h
  refine vp_callSl (W.runS (As := [.long v0_l, .long v1, .int (-1 : Int32)]) (rest := []) ⟨hx, hb, hml, hown, hts⟩ (c_Exact_sum l v0_l v1 (-1 : Int32) r1 h_r1) (va_cwS 3 hts (gd_S (m_3 210 rfl rfl) (m_1 171 rfl rfl) (m_1 16 rfl rfl) (m_1 172 rfl rfl)) rfl rfl rfl (by decide +kernel) ⟨Nat.le_of_ble_eq_true rfl, Nat.le_of_ble_eq_true rfl⟩) ⟨fun _ _ _ _ q => q, fun U hU hW => ⟨rfl, trivial⟩⟩ rfl rfl hl.1 rfl (lv_room (Nat.le_of_ble_eq_true rfl)) (dt_at dt_Two_sum 4 rfl) ⟨Nat.le_of_ble_eq_true rfl, Nat.le_of_ble_eq_true rfl⟩) (fun u_r1 q_r1 => ?_)
  obtain rfl : r1 = u_r1 := q_r1.symm
  refine lv_lstore (lv' := [(6, .long r1), (0, .ref y_v0), (1, .long v1), (3, .long v3), (5, .int v5)]) hx hb (dt_at dt_Two_sum 5 rfl) hl (by decide) rfl (fun ls hl => ?_)
  refine lv_lload hx hb (dt_at dt_Two_sum 6 rfl) (lv_at hl 0 rfl) ?_
  refine lv_aload_n hx hb (dt_at dt_Two_sum 7 rfl) rfl (lv_at hl 1 rfl) ?_
  refine va_get (D := D) (ci := 4) (v := .long v0_h) (C := "OutwardTape$Cell") (T := T_Cell) (N := 3) hx hb hts in_Cell hown hK hc_v0 0 rfl rfl 1 (by decide) (hts (Cond.fieldLink "OutwardTape$TwoOperands" 40 "OutwardTape$Cell" "high" "J") (m_2 128 rfl rfl)) (fun _ h9 => h9) rfl (dt_at dt_Two_sum 8 rfl) ?_
  refine lv_lload_n hx hb (dt_at dt_Two_sum 9 rfl) rfl (lv_at hl 3 rfl) ?_
  refine lv_iconst (v := 1) hx hb (dt_at dt_Two_sum 10 rfl) (by decide) ?_
  obtain ⟨r2, h_r2, h⟩ := ob_of h
  refine vp_callSl (W.runS (As := [.long v0_h, .long v3, .int (1 : Int32)]) (rest := [.long r1]) ⟨hx, hb, hml, hown, hts⟩ (c_Exact_sum l v0_h v3 (1 : Int32) r2 h_r2) (va_cwS 3 hts (gd_S (m_3 210 rfl rfl) (m_1 171 rfl rfl) (m_1 16 rfl rfl) (m_1 172 rfl rfl)) rfl rfl rfl (by decide +kernel) ⟨Nat.le_of_ble_eq_true rfl, Nat.le_of_ble_eq_true rfl⟩) ⟨fun _ _ _ _ q => q, fun U hU hW => ⟨rfl, trivial⟩⟩ rfl rfl hl.1 rfl (lv_room (Nat.le_of_ble_eq_true rfl)) (dt_at dt_Two_sum 11 rfl) ⟨Nat.le_of_ble_eq_true rfl, Nat.le_of_ble_eq_true rfl⟩) (fun u_r2 q_r2 => ?_)
  obtain rfl : r2 = u_r2 := q_r2.symm
  refine lv_iconst (v := 4) hx hb (dt_at dt_Two_sum 12 rfl) (by decide) ?_
  refine lv_iload hx hb (dt_at dt_Two_sum 13 rfl) (lv_at hl 4 rfl) ?_
  obtain ⟨r3, h_r3, h⟩ := ob_of h
  have hPc : va_P D CLS (wE a q) H := fun k q h => by simp [wE] at h
  have hd : va_D (fun _ => True) (dE a) := dE_D a
  have hKc : va_K D CLS (tE q) s := hK.sub (tys' := []) [] rfl
  have hF : ∀ x, va_A (dE a) H.size x → A x := fun x h9 => h9.elim (fun ⟨k, e, h⟩ => by simp [dE] at h) (fun g => hA _ (Nat.le_trans hS.1 g))
  refine va_callr (va_runS (As := [.long r1, .long r2, .int (4 : Int32), .int v5]) (rest := []) ⟨hx, hb, hml, hown, hts⟩ (c_Cell_value l D a q  hd H.size r1 r2 (4 : Int32) v5    r3 h_r3) (va_cwS 4 hts (gd_S (m_3 211 rfl rfl) (m_2 219 rfl rfl) (m_1 10 rfl rfl) (m_2 220 rfl rfl)) rfl rfl rfl (by decide +kernel) ⟨Nat.le_of_ble_eq_true rfl, Nat.le_of_ble_eq_true rfl⟩) ⟨fun a U g mk q => ⟨q.1, q.2.1, q.2.2.1, va_K.moved (u := U) (U := U.calling g mk a) (Vm.Alike.refl U.vm) q.2.2.2⟩, fun U hU hW => ⟨rfl, by rw [hU], by rw [hU]; exact hPc, va_K.moved hW.alike hKc⟩⟩ rfl rfl hl.1 rfl (lv_room (Nat.le_of_ble_eq_true rfl)) (dt_at dt_Two_sum 14 rfl) ⟨Nat.le_of_ble_eq_true rfl, Nat.le_of_ble_eq_true rfl⟩) hS (fun x _ h9 => hF x h9) hF (fun uu y_r3 t H1 locs ht hvm hw hB hz1 hk1 hS => ?_)
  obtain ⟨hB, hc_r3, hq_r3⟩ := hB
  rw [ht] at hc_r3
  have hn_r3 : nin (dE a) y_r3 := nin_cases hq_r3 (fun g9 => nin_big hP g9 rfl) (fun g9 => by simp at g9)
  have hf_r3 : s.heap.size ≤ y_r3 ∨ y_r3 ∈ PL := nin_cases hq_r3 (fun g9 => Or.inl (Nat.le_trans hSz g9)) (fun g9 => by simp at g9)
  clear hq_r3
  have hc_v0 := isC.keptA hc_v0 hk1 (nin_E a y_v0)
  have hP := va_P.kept hP (fun k q hq => hk1 _ (hP k q hq).lt (not_AE (hP k q hq).lt))
  refine W.widen (k := 2) (n := 6) (Nat.le_of_ble_eq_true rfl) (Nat.le_of_ble_eq_true rfl) ?_
  have hSz : s.heap.size ≤ H1.size := hS.1
  clear hk1 hz1 hPc hF hB ht
  generalize H1 = H at hP hS hSz hc_v0 hc_r3 ⊢
  obtain rfl := os_of h
  exact W.aret hx hb hr (Or.inl ⟨_, rfl⟩) (Or.inr ⟨_, rfl⟩) (fun t ht hW => ⟨⟨(), y_r3, rfl, trivial, (hPt hP ht), hPt hc_r3 ht, hf_r3⟩, hS.F ht⟩) hS.2.2 (dt_at dt_Two_sum 15 rfl)
set_option maxRecDepth 100000 in
set_option maxHeartbeats 4000000 in
theorem c_Two_sum (l : Launch) (D : va_G) (a : Nat → Nat) (q : Nat → ClassId) (hd : va_D (fun _ => True) (dE a)) (sz : Nat) (a0_l : Int64) (a0_h : Int64) (a0_m : Int32) (a1 : Int64) (a3 : Int64) (a5 : Int32)  (y_a0 : Nat) (hn_a0 : nin (dE a) y_a0) (r0 : Int64 × Int64 × Int32) (h : f_Two_sum a0_l a0_h a0_m a1 a3 a5 = some r0) : Met l (⟨"OutwardTape$TwoOperands", "sum", "(LOutwardTape$Cell;JJI)LOutwardTape$Cell;"⟩ : MethodName) (WSm (⟨"OutwardTape$TwoOperands", "sum", "(LOutwardTape$Cell;JJI)LOutwardTape$Cell;"⟩ : MethodName) prog_10_method_3_code 8 (some (.object "OutwardTape$Cell"))) rm_Two_sum (va_Pc [.ref y_a0, .long a1, .long a3, .int a5] (fun U => U.heap.size = sz ∧ va_P D CLS (wE a q ) U.heap ∧ va_K D CLS (tE q) U ∧ isC D U.heap y_a0 a0_l a0_h a0_m)) (va_Qr (fun _ : Unit => True) (fun _ ra t => (va_P D CLS (wE a q ) t.heap) ∧ isC D t.heap ra r0.1 r0.2.1 r0.2.2 ∧ (sz ≤ ra ∨ ra ∈ ([y_a0] : List Nat))) (va_A (dE a) sz)) 2 6 (va_A (dE a) sz) := by
  refine Met.ofW (cc := prog_10_method_3_code) (maxL := 8) (ret := (some (.object "OutwardTape$Cell"))) (by decide) rfl ?_
  intro p e s m args below meth c s₁ B hml hv
  obtain ⟨rfl, hsz, hP, hK, hc_a0⟩ := hv
  subst hsz
  have hC := CX.of B hml rfl
  have hl := lv_entry [.ref y_a0, .long a1, .long a3, .int a5] (n := 8) (Nat.le_of_ble_eq_true rfl)
  rw [lg_entry_eq]
  generalize (lg_sl [.ref y_a0, .long a1, .long a3, .int a5] ++ List.replicate (8 - (lg_sl [.ref y_a0, .long a1, .long a3, .int a5]).length) Slot.unset).toArray = ls at hl ⊢
  have hl : lv_has ls 8 [(0, .ref y_a0), (1, .long a1), (3, .long a3), (5, .int a5)] := hl
  exact k_Two_sum_0 (PL := [y_a0]) hC (fun x h => Or.inr h) hK a0_l a0_h a0_m a1 a3 a5   y_a0 s.heap [] ls hP (dD hd.self rfl) va_S.rf  hc_a0 (Or.inr (by simp)) hn_a0  (lv_sub hl [0, 1, 2, 3] rfl) h
abbrev rm_Two_value : Room := { frames := 6, cells := 2, slots := 6, locals := 166 }
set_option maxRecDepth 100000 in
set_option maxHeartbeats 4000000 in
theorem k_Two_value_44 {p : Program} {l : Launch} {e : Env} {s : State} {m : MethodId} {args : Array Value} {below : List Frame} {meth : Method} {c : Code} {D : va_G} {a : Nat → Nat} {q : Nat → ClassId} {PL : List Nat} {A : Nat → Prop} (hC : CX p s m args meth c prog_10_method_2_code 4 "OutwardTape$TwoOperands" (some (.object "OutwardTape$Cell"))) (hA : ∀ x, s.heap.size ≤ x → A x) (hK : va_K D CLS (tE q) s)  {r0 : Int64 × Int64 × Int32} : ∀   (H : Heap) (locs : List Loc) (ls : Array Slot), va_P D CLS (wE a q ) H → va_D A (wE a q ) → va_S A s.heap H locs → lv_has ls 4 [] → f_Two_value_44   = some r0 → W p l e rm_Two_value s m args below meth c H locs 0 0 (MQ below (va_Qr (fun _ : Unit => True) (fun _ ra t => (va_P D CLS (wE a q ) t.heap) ∧ isC D t.heap ra r0.1 r0.2.1 r0.2.2 ∧ (s.heap.size ≤ ra ∨ ra ∈ PL)) A) args s 2 6 A) (F0 m 44 ls []) := by
  obtain ⟨hx, hb, hml, hown, hts, hr, hlocks⟩ := id hC
  intro H locs ls hP hD hS hl h
  rw [f_Two_value_44] at h
  have hSz : s.heap.size ≤ H.size := hS.1
  obtain ⟨r1, h_r1, h⟩ := ob_of h
  have hPc : va_P D CLS (wE a q) H := fun k q h => by simp [wE] at h
  have hd : va_D (fun _ => True) (dE a) := dE_D a
  have hKc : va_K D CLS (tE q) s := hK.sub (tys' := []) [] rfl
  have hF : ∀ x, va_A (dE a) H.size x → A x := fun x h9 => h9.elim (fun ⟨k, e, h⟩ => by simp [dE] at h) (fun g => hA _ (Nat.le_trans hS.1 g))
  refine va_callr (va_runS (As := []) (rest := []) ⟨hx, hb, hml, hown, hts⟩ (c_Cell_empty l D a q  hd H.size     r1 h_r1) (va_cwS 0 hts (gd_S (m_3 202 rfl rfl) (m_2 152 rfl rfl) (m_1 10 rfl rfl) (m_2 153 rfl rfl)) rfl rfl rfl (by decide +kernel) ⟨Nat.le_of_ble_eq_true rfl, Nat.le_of_ble_eq_true rfl⟩) ⟨fun a U g mk q => ⟨q.1, q.2.1, q.2.2.1, va_K.moved (u := U) (U := U.calling g mk a) (Vm.Alike.refl U.vm) q.2.2.2⟩, fun U hU hW => ⟨rfl, by rw [hU], by rw [hU]; exact hPc, va_K.moved hW.alike hKc⟩⟩ rfl rfl hl.1 rfl (lv_room (Nat.le_of_ble_eq_true rfl)) (dt_at dt_Two_value 21 rfl) ⟨Nat.le_of_ble_eq_true rfl, Nat.le_of_ble_eq_true rfl⟩) hS (fun x _ h9 => hF x h9) hF (fun uu y_r1 t H1 locs ht hvm hw hB hz1 hk1 hS => ?_)
  obtain ⟨hB, hc_r1, hq_r1⟩ := hB
  rw [ht] at hc_r1
  have hn_r1 : nin (dE a) y_r1 := nin_cases hq_r1 (fun g9 => nin_big hP g9 rfl) (fun g9 => by simp at g9)
  have hf_r1 : s.heap.size ≤ y_r1 ∨ y_r1 ∈ PL := nin_cases hq_r1 (fun g9 => Or.inl (Nat.le_trans hSz g9)) (fun g9 => by simp at g9)
  clear hq_r1
  have hP := va_P.kept hP (fun k q hq => hk1 _ (hP k q hq).lt (not_AE (hP k q hq).lt))
  refine W.widen (k := 1) (n := 3) (Nat.le_of_ble_eq_true rfl) (Nat.le_of_ble_eq_true rfl) ?_
  have hSz : s.heap.size ≤ H1.size := hS.1
  clear hk1 hz1 hPc hF hB ht
  generalize H1 = H at hP hS hSz hc_r1 ⊢
  obtain rfl := os_of h
  refine W.widen (k := 2) (n := 6) (Nat.le_of_ble_eq_true rfl) (Nat.le_of_ble_eq_true rfl) ?_
  exact W.aret hx hb hr (Or.inl ⟨_, rfl⟩) (Or.inr ⟨_, rfl⟩) (fun t ht hW => ⟨⟨(), y_r1, rfl, trivial, (hPt hP ht), hPt hc_r1 ht, hf_r1⟩, hS.F ht⟩) hS.2.2 (dt_at dt_Two_value 22 rfl)
set_option maxRecDepth 100000 in
set_option maxHeartbeats 4000000 in
theorem k_Two_value_14 {p : Program} {l : Launch} {e : Env} {s : State} {m : MethodId} {args : Array Value} {below : List Frame} {meth : Method} {c : Code} {D : va_G} {a : Nat → Nat} {q : Nat → ClassId} {PL : List Nat} {A : Nat → Prop} (hC : CX p s m args meth c prog_10_method_2_code 4 "OutwardTape$TwoOperands" (some (.object "OutwardTape$Cell"))) (hA : ∀ x, s.heap.size ≤ x → A x) (hK : va_K D CLS (tE q) s)  {r0 : Int64 × Int64 × Int32} : ∀   (H : Heap) (locs : List Loc) (ls : Array Slot), va_P D CLS (wE a q ) H → va_D A (wE a q ) → va_S A s.heap H locs → lv_has ls 4 [] → f_Two_value_14   = some r0 → W p l e rm_Two_value s m args below meth c H locs 0 0 (MQ below (va_Qr (fun _ : Unit => True) (fun _ ra t => (va_P D CLS (wE a q ) t.heap) ∧ isC D t.heap ra r0.1 r0.2.1 r0.2.2 ∧ (s.heap.size ≤ ra ∨ ra ∈ PL)) A) args s 2 6 A) (F0 m 14 ls []) := by
  obtain ⟨hx, hb, hml, hown, hts, hr, hlocks⟩ := id hC
  intro H locs ls hP hD hS hl h
  rw [f_Two_value_14] at h
  have hSz : s.heap.size ≤ H.size := hS.1
  obtain ⟨r1, h_r1, h⟩ := ob_of h
  have hPc : va_P D CLS (wE a q) H := fun k q h => by simp [wE] at h
  have hd : va_D (fun _ => True) (dE a) := dE_D a
  have hKc : va_K D CLS (tE q) s := hK.sub (tys' := []) [] rfl
  have hF : ∀ x, va_A (dE a) H.size x → A x := fun x h9 => h9.elim (fun ⟨k, e, h⟩ => by simp [dE] at h) (fun g => hA _ (Nat.le_trans hS.1 g))
  refine va_callr (va_runS (As := []) (rest := []) ⟨hx, hb, hml, hown, hts⟩ (c_Cell_ill l D a q  hd H.size     r1 h_r1) (va_cwS 0 hts (gd_S (m_3 197 rfl rfl) (m_2 109 rfl rfl) (m_1 10 rfl rfl) (m_2 110 rfl rfl)) rfl rfl rfl (by decide +kernel) ⟨Nat.le_of_ble_eq_true rfl, Nat.le_of_ble_eq_true rfl⟩) ⟨fun a U g mk q => ⟨q.1, q.2.1, q.2.2.1, va_K.moved (u := U) (U := U.calling g mk a) (Vm.Alike.refl U.vm) q.2.2.2⟩, fun U hU hW => ⟨rfl, by rw [hU], by rw [hU]; exact hPc, va_K.moved hW.alike hKc⟩⟩ rfl rfl hl.1 rfl (lv_room (Nat.le_of_ble_eq_true rfl)) (dt_at dt_Two_value 6 rfl) ⟨Nat.le_of_ble_eq_true rfl, Nat.le_of_ble_eq_true rfl⟩) hS (fun x _ h9 => hF x h9) hF (fun uu y_r1 t H1 locs ht hvm hw hB hz1 hk1 hS => ?_)
  obtain ⟨hB, hc_r1, hq_r1⟩ := hB
  rw [ht] at hc_r1
  have hn_r1 : nin (dE a) y_r1 := nin_cases hq_r1 (fun g9 => nin_big hP g9 rfl) (fun g9 => by simp at g9)
  have hf_r1 : s.heap.size ≤ y_r1 ∨ y_r1 ∈ PL := nin_cases hq_r1 (fun g9 => Or.inl (Nat.le_trans hSz g9)) (fun g9 => by simp at g9)
  clear hq_r1
  have hP := va_P.kept hP (fun k q hq => hk1 _ (hP k q hq).lt (not_AE (hP k q hq).lt))
  refine W.widen (k := 1) (n := 3) (Nat.le_of_ble_eq_true rfl) (Nat.le_of_ble_eq_true rfl) ?_
  have hSz : s.heap.size ≤ H1.size := hS.1
  clear hk1 hz1 hPc hF hB ht
  generalize H1 = H at hP hS hSz hc_r1 ⊢
  obtain rfl := os_of h
  refine W.widen (k := 2) (n := 6) (Nat.le_of_ble_eq_true rfl) (Nat.le_of_ble_eq_true rfl) ?_
  exact W.aret hx hb hr (Or.inl ⟨_, rfl⟩) (Or.inr ⟨_, rfl⟩) (fun t ht hW => ⟨⟨(), y_r1, rfl, trivial, (hPt hP ht), hPt hc_r1 ht, hf_r1⟩, hS.F ht⟩) hS.2.2 (dt_at dt_Two_value 7 rfl)
set_option maxRecDepth 100000 in
set_option maxHeartbeats 4000000 in
theorem k_Two_value_0 {p : Program} {l : Launch} {e : Env} {s : State} {m : MethodId} {args : Array Value} {below : List Frame} {meth : Method} {c : Code} {D : va_G} {a : Nat → Nat} {q : Nat → ClassId} {PL : List Nat} {A : Nat → Prop} (hC : CX p s m args meth c prog_10_method_2_code 4 "OutwardTape$TwoOperands" (some (.object "OutwardTape$Cell"))) (hA : ∀ x, s.heap.size ≤ x → A x) (hK : va_K D CLS (tE q) s)  {r0 : Int64 × Int64 × Int32} : ∀ (v0 : Int32) (v1_l : Int64) (v1_h : Int64) (v1_m : Int32) (v2_l : Int64) (v2_h : Int64) (v2_m : Int32)  (y_v1 : Nat) (y_v2 : Nat) (H : Heap) (locs : List Loc) (ls : Array Slot), va_P D CLS (wE a q ) H → va_D A (wE a q ) → va_S A s.heap H locs → isC D H y_v1 v1_l v1_h v1_m → (s.heap.size ≤ y_v1 ∨ y_v1 ∈ PL) → nin (dE a) y_v1 → isC D H y_v2 v2_l v2_h v2_m → (s.heap.size ≤ y_v2 ∨ y_v2 ∈ PL) → nin (dE a) y_v2 → lv_has ls 4 [(0, .int v0), (1, .ref y_v1), (2, .ref y_v2)] → f_Two_value_0  v0 v1_l v1_h v1_m v2_l v2_h v2_m = some r0 → W p l e rm_Two_value s m args below meth c H locs 0 0 (MQ below (va_Qr (fun _ : Unit => True) (fun _ ra t => (va_P D CLS (wE a q ) t.heap) ∧ isC D t.heap ra r0.1 r0.2.1 r0.2.2 ∧ (s.heap.size ≤ ra ∨ ra ∈ PL)) A) args s 2 6 A) (F0 m 0 ls []) := by
  obtain ⟨hx, hb, hml, hown, hts, hr, hlocks⟩ := id hC
  intro v0 v1_l v1_h v1_m v2_l v2_h v2_m y_v1 y_v2 H locs ls hP hD hS hc_v1 hf_v1 hn_v1 hc_v2 hf_v2 hn_v2 hl h
  rw [f_Two_value_0] at h
  have hSz : s.heap.size ≤ H.size := hS.1
  refine lv_aload_n hx hb (dt_at dt_Two_value 0 rfl) rfl (lv_at hl 1 rfl) ?_
  refine va_get (D := D) (ci := 4) (v := .int v1_m) (C := "OutwardTape$Cell") (T := T_Cell) (N := 3) hx hb hts in_Cell hown hK hc_v1 0 rfl rfl 2 (by decide) (hts (Cond.fieldLink "OutwardTape$TwoOperands" 7 "OutwardTape$Cell" "mark" "I") (m_2 133 rfl rfl)) (fun _ h9 => h9) rfl (dt_at dt_Two_value 1 rfl) ?_
  refine lv_if_eq (tgt := 14) hx hb (dt_at dt_Two_value 2 rfl) (by decide) (fun c1 => ?_) (fun c1 => ?_)
  · have h := if_p h c1
    exact k_Two_value_14 (PL := PL) hC hA hK   H locs ls hP hD hS   (lv_sub hl [] rfl) h
  · have h := if_n h c1
    refine lv_aload_n hx hb (dt_at dt_Two_value 3 rfl) rfl (lv_at hl 2 rfl) ?_
    refine va_get (D := D) (ci := 4) (v := .int v2_m) (C := "OutwardTape$Cell") (T := T_Cell) (N := 3) hx hb hts in_Cell hown hK hc_v2 0 rfl rfl 2 (by decide) (hts (Cond.fieldLink "OutwardTape$TwoOperands" 7 "OutwardTape$Cell" "mark" "I") (m_2 133 rfl rfl)) (fun _ h9 => h9) rfl (dt_at dt_Two_value 4 rfl) ?_
    refine lv_if_ne (tgt := 18) hx hb (dt_at dt_Two_value 5 rfl) (by decide) (fun c2 => ?_) (fun c2 => ?_)
    · have h := if_n h c2
      refine lv_iload_n hx hb (dt_at dt_Two_value 8 rfl) rfl (lv_at hl 0 rfl) ?_
      refine lv_bipush (v := 7) hx hb (dt_at dt_Two_value 9 rfl) (by decide) ?_
      refine lv_icmp_ne (tgt := 30) hx hb (dt_at dt_Two_value 10 rfl) (by decide) (fun c3 => ?_) (fun c3 => ?_)
      · have h := if_n h c3
        refine lv_aload_n hx hb (dt_at dt_Two_value 15 rfl) rfl (lv_at hl 1 rfl) ?_
        obtain ⟨r4, h_r4, h⟩ := ob_of h
        have hPc : va_P D CLS (wE a q) H := fun k q h => by simp [wE] at h
        have hd : va_D (fun _ => True) (dE a) := dE_D a
        have hKc : va_K D CLS (tE q) s := hK.sub (tys' := []) [] rfl
        have hF : ∀ x, va_A (dE a) H.size x → A x := fun x h9 => h9.elim (fun ⟨k, e, h⟩ => by simp [dE] at h) (fun g => hA _ (Nat.le_trans hS.1 g))
        refine va_calli (va_runV (As := []) (rest := []) ⟨hx, hb, hml, hown, hts⟩ (c_Cell_hasNoPoint l D a q  hd H.size v1_l v1_h v1_m  y_v1 (nin_E a y_v1) r4 h_r4) (cwV 0 hts (gd_V (m_3 201 rfl rfl) (m_1 124 rfl rfl) (m_1 125 rfl rfl) (m_1 10 rfl rfl) (m_1 126 rfl rfl)) rfl rfl rfl (by decide +kernel) ⟨Nat.le_of_ble_eq_true rfl, Nat.le_of_ble_eq_true rfl⟩) ⟨fun a U g mk q => ⟨q.1, q.2.1, q.2.2.1, va_K.moved (u := U) (U := U.calling g mk a) (Vm.Alike.refl U.vm) q.2.2.2.1, q.2.2.2.2⟩, va_recv hK hc_v1 (ci := 4) (q0 := 0) rfl rfl, fun U hU hW => ⟨rfl, by rw [hU], by rw [hU]; exact hPc, va_K.moved hW.alike hKc, by rw [hU]; exact hc_v1⟩⟩ rfl rfl hl.1 rfl (lv_room (Nat.le_of_ble_eq_true rfl)) (dt_at dt_Two_value 16 rfl) ⟨Nat.le_of_ble_eq_true rfl, Nat.le_of_ble_eq_true rfl⟩) hS (fun x _ h9 => hF x h9) hF (fun u_r4 uu t H1 locs ht hvm hw hB hz1 hk1 hS => ?_)
        obtain rfl : r4 = u_r4 := hw.symm
        have hc_v1 := isC.keptA hc_v1 hk1 (nin_E a y_v1)
        have hc_v2 := isC.keptA hc_v2 hk1 (nin_E a y_v2)
        have hP := va_P.kept hP (fun k q hq => hk1 _ (hP k q hq).lt (not_AE (hP k q hq).lt))
        have hSz : s.heap.size ≤ H1.size := hS.1
        clear hk1 hz1 hPc hF hB ht
        generalize H1 = H at hP hS hSz hc_v1 hc_v2 ⊢
        refine lv_if_ne (tgt := 44) hx hb (dt_at dt_Two_value 17 rfl) (by decide) (fun c5 => ?_) (fun c5 => ?_)
        · have h := if_n h c5
          exact k_Two_value_44 (PL := PL) hC hA hK   H locs ls hP hD hS   (lv_sub hl [] rfl) h
        · have h := if_p h c5
          refine lv_aload_n hx hb (dt_at dt_Two_value 18 rfl) rfl (lv_at hl 2 rfl) ?_
          obtain ⟨r6, h_r6, h⟩ := ob_of h
          have hPc : va_P D CLS (wE a q) H := fun k q h => by simp [wE] at h
          have hd : va_D (fun _ => True) (dE a) := dE_D a
          have hKc : va_K D CLS (tE q) s := hK.sub (tys' := []) [] rfl
          have hF : ∀ x, va_A (dE a) H.size x → A x := fun x h9 => h9.elim (fun ⟨k, e, h⟩ => by simp [dE] at h) (fun g => hA _ (Nat.le_trans hS.1 g))
          refine va_calli (va_runV (As := []) (rest := []) ⟨hx, hb, hml, hown, hts⟩ (c_Cell_hasNoPoint l D a q  hd H.size v2_l v2_h v2_m  y_v2 (nin_E a y_v2) r6 h_r6) (cwV 0 hts (gd_V (m_3 201 rfl rfl) (m_1 124 rfl rfl) (m_1 125 rfl rfl) (m_1 10 rfl rfl) (m_1 126 rfl rfl)) rfl rfl rfl (by decide +kernel) ⟨Nat.le_of_ble_eq_true rfl, Nat.le_of_ble_eq_true rfl⟩) ⟨fun a U g mk q => ⟨q.1, q.2.1, q.2.2.1, va_K.moved (u := U) (U := U.calling g mk a) (Vm.Alike.refl U.vm) q.2.2.2.1, q.2.2.2.2⟩, va_recv hK hc_v2 (ci := 4) (q0 := 0) rfl rfl, fun U hU hW => ⟨rfl, by rw [hU], by rw [hU]; exact hPc, va_K.moved hW.alike hKc, by rw [hU]; exact hc_v2⟩⟩ rfl rfl hl.1 rfl (lv_room (Nat.le_of_ble_eq_true rfl)) (dt_at dt_Two_value 19 rfl) ⟨Nat.le_of_ble_eq_true rfl, Nat.le_of_ble_eq_true rfl⟩) hS (fun x _ h9 => hF x h9) hF (fun u_r6 uu t H1 locs ht hvm hw hB hz1 hk1 hS => ?_)
          obtain rfl : r6 = u_r6 := hw.symm
          have hc_v1 := isC.keptA hc_v1 hk1 (nin_E a y_v1)
          have hc_v2 := isC.keptA hc_v2 hk1 (nin_E a y_v2)
          have hP := va_P.kept hP (fun k q hq => hk1 _ (hP k q hq).lt (not_AE (hP k q hq).lt))
          have hSz : s.heap.size ≤ H1.size := hS.1
          clear hk1 hz1 hPc hF hB ht
          generalize H1 = H at hP hS hSz hc_v1 hc_v2 ⊢
          refine lv_if_eq (tgt := 48) hx hb (dt_at dt_Two_value 20 rfl) (by decide) (fun c7 => ?_) (fun c7 => ?_)
          · have h := if_p h c7
            refine lv_aload_n hx hb (dt_at dt_Two_value 23 rfl) rfl (lv_at hl 1 rfl) ?_
            refine va_get (D := D) (ci := 4) (v := .int v1_m) (C := "OutwardTape$Cell") (T := T_Cell) (N := 3) hx hb hts in_Cell hown hK hc_v1 0 rfl rfl 2 (by decide) (hts (Cond.fieldLink "OutwardTape$TwoOperands" 7 "OutwardTape$Cell" "mark" "I") (m_2 133 rfl rfl)) (fun _ h9 => h9) rfl (dt_at dt_Two_value 24 rfl) ?_
            refine lv_aload_n hx hb (dt_at dt_Two_value 25 rfl) rfl (lv_at hl 2 rfl) ?_
            refine va_get (D := D) (ci := 4) (v := .int v2_m) (C := "OutwardTape$Cell") (T := T_Cell) (N := 3) hx hb hts in_Cell hown hK hc_v2 0 rfl rfl 2 (by decide) (hts (Cond.fieldLink "OutwardTape$TwoOperands" 7 "OutwardTape$Cell" "mark" "I") (m_2 133 rfl rfl)) (fun _ h9 => h9) rfl (dt_at dt_Two_value 26 rfl) ?_
            obtain ⟨t8, e_t8, h⟩ := ol_of h
            refine va_mmin hx hb (hml.trans hl.1.symm) hown (hts (Cond.methodLink "OutwardTape$TwoOperands" 30 Lib.Math.min.name) (m_3 206 rfl rfl)) (hts (Cond.static Lib.Math.min.name) (m_2 98 rfl rfl)) (hts (Cond.initialized "java/lang/Math") (m_1 9 rfl rfl)) (hts (Cond.code Lib.Math.min.name Lib.Math.min.code 2 (some .int)) (m_2 99 rfl rfl)) (Nat.le_of_ble_eq_true rfl) (Nat.le_of_ble_eq_true rfl) (Nat.le_of_ble_eq_true rfl) (Nat.le_of_ble_eq_true rfl) (dt_at dt_Two_value 27 rfl) ?_
            refine lv_topi (fun u_t8 q_t8 => ?_)
            obtain rfl : t8 = u_t8 := e_t8.trans q_t8.symm
            refine lv_istore_n (lv' := [(3, .int t8), (0, .int v0), (1, .ref y_v1), (2, .ref y_v2)]) hx hb (dt_at dt_Two_value 28 rfl) rfl hl (by decide) rfl (fun ls hl => ?_)
            refine lv_iload_n hx hb (dt_at dt_Two_value 29 rfl) rfl (lv_at hl 1 rfl) ?_
            by_cases c9 : v0 = (0 : Int32)
            · have h := if_p h c9
              refine lv_tableIn (off := 43) (tgt := 104) hx hb (dt_at dt_Two_value 30 rfl) (by rw [c9]; decide) (by rw [c9]; decide) (by rw [c9]; rfl) (by decide) ?_
              refine lv_aload_n hx hb (dt_at dt_Two_value 31 rfl) rfl (lv_at hl 2 rfl) ?_
              refine lv_aload_n hx hb (dt_at dt_Two_value 32 rfl) rfl (lv_at hl 3 rfl) ?_
              refine va_get (D := D) (ci := 4) (v := .long v2_l) (C := "OutwardTape$Cell") (T := T_Cell) (N := 3) hx hb hts in_Cell hown hK hc_v2 0 rfl rfl 0 (by decide) (hts (Cond.fieldLink "OutwardTape$TwoOperands" 36 "OutwardTape$Cell" "low" "J") (m_2 121 rfl rfl)) (fun _ h9 => h9) rfl (dt_at dt_Two_value 33 rfl) ?_
              refine lv_aload_n hx hb (dt_at dt_Two_value 34 rfl) rfl (lv_at hl 3 rfl) ?_
              refine va_get (D := D) (ci := 4) (v := .long v2_h) (C := "OutwardTape$Cell") (T := T_Cell) (N := 3) hx hb hts in_Cell hown hK hc_v2 0 rfl rfl 1 (by decide) (hts (Cond.fieldLink "OutwardTape$TwoOperands" 40 "OutwardTape$Cell" "high" "J") (m_2 128 rfl rfl)) (fun _ h9 => h9) rfl (dt_at dt_Two_value 35 rfl) ?_
              refine lv_iload_n hx hb (dt_at dt_Two_value 36 rfl) rfl (lv_at hl 0 rfl) ?_
              obtain ⟨r10, h_r10, h⟩ := ob_of h
              have hPc : va_P D CLS (wE a q) H := fun k q h => by simp [wE] at h
              have hd : va_D (fun _ => True) (dE a) := dE_D a
              have hKc : va_K D CLS (tE q) s := hK.sub (tys' := []) [] rfl
              have hF : ∀ x, va_A (dE a) H.size x → A x := fun x h9 => h9.elim (fun ⟨k, e, h⟩ => by simp [dE] at h) (fun g => hA _ (Nat.le_trans hS.1 g))
              refine va_callr (va_runS (As := [.ref y_v1, .long v2_l, .long v2_h, .int t8]) (rest := []) ⟨hx, hb, hml, hown, hts⟩ (c_Two_sum l D a q  hd H.size v1_l v1_h v1_m v2_l v2_h t8  y_v1 (nin_E a y_v1) r10 h_r10) (va_cwS 4 hts (gd_S (m_3 207 rfl rfl) (m_3 208 rfl rfl) (m_1 21 rfl rfl) (m_3 209 rfl rfl)) rfl rfl rfl (by decide +kernel) ⟨Nat.le_of_ble_eq_true rfl, Nat.le_of_ble_eq_true rfl⟩) ⟨fun a U g mk q => ⟨q.1, q.2.1, q.2.2.1, va_K.moved (u := U) (U := U.calling g mk a) (Vm.Alike.refl U.vm) q.2.2.2.1, q.2.2.2.2⟩, fun U hU hW => ⟨rfl, by rw [hU], by rw [hU]; exact hPc, va_K.moved hW.alike hKc, by rw [hU]; exact hc_v1⟩⟩ rfl rfl hl.1 rfl (lv_room (Nat.le_of_ble_eq_true rfl)) (dt_at dt_Two_value 37 rfl) ⟨Nat.le_of_ble_eq_true rfl, Nat.le_of_ble_eq_true rfl⟩) hS (fun x _ h9 => hF x h9) hF (fun uu y_r10 t H1 locs ht hvm hw hB hz1 hk1 hS => ?_)
              obtain ⟨hB, hc_r10, hq_r10⟩ := hB
              rw [ht] at hc_r10
              have hn_r10 : nin (dE a) y_r10 := nin_cases hq_r10 (fun g9 => nin_big hP g9 rfl) (fun g9 => by simp only [List.mem_cons, List.not_mem_nil, or_false] at g9; subst g9; assumption)
              have hf_r10 : s.heap.size ≤ y_r10 ∨ y_r10 ∈ PL := nin_cases hq_r10 (fun g9 => Or.inl (Nat.le_trans hSz g9)) (fun g9 => by simp only [List.mem_cons, List.not_mem_nil, or_false] at g9; subst g9; assumption)
              clear hq_r10
              have hc_v1 := isC.keptA hc_v1 hk1 (nin_E a y_v1)
              have hc_v2 := isC.keptA hc_v2 hk1 (nin_E a y_v2)
              have hP := va_P.kept hP (fun k q hq => hk1 _ (hP k q hq).lt (not_AE (hP k q hq).lt))
              refine W.widen (k := 2) (n := 6) (Nat.le_of_ble_eq_true rfl) (Nat.le_of_ble_eq_true rfl) ?_
              have hSz : s.heap.size ≤ H1.size := hS.1
              clear hk1 hz1 hPc hF hB ht
              generalize H1 = H at hP hS hSz hc_v1 hc_v2 hc_r10 ⊢
              obtain rfl := os_of h
              exact W.aret hx hb hr (Or.inl ⟨_, rfl⟩) (Or.inr ⟨_, rfl⟩) (fun t ht hW => ⟨⟨(), y_r10, rfl, trivial, (hPt hP ht), hPt hc_r10 ht, hf_r10⟩, hS.F ht⟩) hS.2.2 (dt_at dt_Two_value 38 rfl)
            · have h := if_n h c9
              by_cases c11 : v0 = (1 : Int32)
              · have h := if_p h c11
                refine lv_tableIn (off := 57) (tgt := 118) hx hb (dt_at dt_Two_value 30 rfl) (by rw [c11]; decide) (by rw [c11]; decide) (by rw [c11]; rfl) (by decide) ?_
                refine lv_aload_n hx hb (dt_at dt_Two_value 39 rfl) rfl (lv_at hl 2 rfl) ?_
                refine lv_aload_n hx hb (dt_at dt_Two_value 40 rfl) rfl (lv_at hl 3 rfl) ?_
                refine va_get (D := D) (ci := 4) (v := .long v2_h) (C := "OutwardTape$Cell") (T := T_Cell) (N := 3) hx hb hts in_Cell hown hK hc_v2 0 rfl rfl 1 (by decide) (hts (Cond.fieldLink "OutwardTape$TwoOperands" 40 "OutwardTape$Cell" "high" "J") (m_2 128 rfl rfl)) (fun _ h9 => h9) rfl (dt_at dt_Two_value 41 rfl) ?_
                refine lv_lneg hx hb (dt_at dt_Two_value 42 rfl) ?_
                refine lv_aload_n hx hb (dt_at dt_Two_value 43 rfl) rfl (lv_at hl 3 rfl) ?_
                refine va_get (D := D) (ci := 4) (v := .long v2_l) (C := "OutwardTape$Cell") (T := T_Cell) (N := 3) hx hb hts in_Cell hown hK hc_v2 0 rfl rfl 0 (by decide) (hts (Cond.fieldLink "OutwardTape$TwoOperands" 36 "OutwardTape$Cell" "low" "J") (m_2 121 rfl rfl)) (fun _ h9 => h9) rfl (dt_at dt_Two_value 44 rfl) ?_
                refine lv_lneg hx hb (dt_at dt_Two_value 45 rfl) ?_
                refine lv_iload_n hx hb (dt_at dt_Two_value 46 rfl) rfl (lv_at hl 0 rfl) ?_
                obtain ⟨r12, h_r12, h⟩ := ob_of h
                have hPc : va_P D CLS (wE a q) H := fun k q h => by simp [wE] at h
                have hd : va_D (fun _ => True) (dE a) := dE_D a
                have hKc : va_K D CLS (tE q) s := hK.sub (tys' := []) [] rfl
                have hF : ∀ x, va_A (dE a) H.size x → A x := fun x h9 => h9.elim (fun ⟨k, e, h⟩ => by simp [dE] at h) (fun g => hA _ (Nat.le_trans hS.1 g))
                refine va_callr (va_runS (As := [.ref y_v1, .long (-v2_h), .long (-v2_l), .int t8]) (rest := []) ⟨hx, hb, hml, hown, hts⟩ (c_Two_sum l D a q  hd H.size v1_l v1_h v1_m (-v2_h) (-v2_l) t8  y_v1 (nin_E a y_v1) r12 h_r12) (va_cwS 4 hts (gd_S (m_3 207 rfl rfl) (m_3 208 rfl rfl) (m_1 21 rfl rfl) (m_3 209 rfl rfl)) rfl rfl rfl (by decide +kernel) ⟨Nat.le_of_ble_eq_true rfl, Nat.le_of_ble_eq_true rfl⟩) ⟨fun a U g mk q => ⟨q.1, q.2.1, q.2.2.1, va_K.moved (u := U) (U := U.calling g mk a) (Vm.Alike.refl U.vm) q.2.2.2.1, q.2.2.2.2⟩, fun U hU hW => ⟨rfl, by rw [hU], by rw [hU]; exact hPc, va_K.moved hW.alike hKc, by rw [hU]; exact hc_v1⟩⟩ rfl rfl hl.1 rfl (lv_room (Nat.le_of_ble_eq_true rfl)) (dt_at dt_Two_value 47 rfl) ⟨Nat.le_of_ble_eq_true rfl, Nat.le_of_ble_eq_true rfl⟩) hS (fun x _ h9 => hF x h9) hF (fun uu y_r12 t H1 locs ht hvm hw hB hz1 hk1 hS => ?_)
                obtain ⟨hB, hc_r12, hq_r12⟩ := hB
                rw [ht] at hc_r12
                have hn_r12 : nin (dE a) y_r12 := nin_cases hq_r12 (fun g9 => nin_big hP g9 rfl) (fun g9 => by simp only [List.mem_cons, List.not_mem_nil, or_false] at g9; subst g9; assumption)
                have hf_r12 : s.heap.size ≤ y_r12 ∨ y_r12 ∈ PL := nin_cases hq_r12 (fun g9 => Or.inl (Nat.le_trans hSz g9)) (fun g9 => by simp only [List.mem_cons, List.not_mem_nil, or_false] at g9; subst g9; assumption)
                clear hq_r12
                have hc_v1 := isC.keptA hc_v1 hk1 (nin_E a y_v1)
                have hc_v2 := isC.keptA hc_v2 hk1 (nin_E a y_v2)
                have hP := va_P.kept hP (fun k q hq => hk1 _ (hP k q hq).lt (not_AE (hP k q hq).lt))
                refine W.widen (k := 2) (n := 6) (Nat.le_of_ble_eq_true rfl) (Nat.le_of_ble_eq_true rfl) ?_
                have hSz : s.heap.size ≤ H1.size := hS.1
                clear hk1 hz1 hPc hF hB ht
                generalize H1 = H at hP hS hSz hc_v1 hc_v2 hc_r12 ⊢
                obtain rfl := os_of h
                exact W.aret hx hb hr (Or.inl ⟨_, rfl⟩) (Or.inr ⟨_, rfl⟩) (fun t ht hW => ⟨⟨(), y_r12, rfl, trivial, (hPt hP ht), hPt hc_r12 ht, hf_r12⟩, hS.F ht⟩) hS.2.2 (dt_at dt_Two_value 48 rfl)
              · have h := if_n h c11
                by_cases c13 : v0 = (2 : Int32)
                · have h := if_p h c13
                  refine lv_tableIn (off := 73) (tgt := 134) hx hb (dt_at dt_Two_value 30 rfl) (by rw [c13]; decide) (by rw [c13]; decide) (by rw [c13]; rfl) (by decide) ?_
                  refine lv_aload_n hx hb (dt_at dt_Two_value 49 rfl) rfl (lv_at hl 2 rfl) ?_
                  refine lv_aload_n hx hb (dt_at dt_Two_value 50 rfl) rfl (lv_at hl 3 rfl) ?_
                  refine lv_iload_n hx hb (dt_at dt_Two_value 51 rfl) rfl (lv_at hl 0 rfl) ?_
                  obtain ⟨r14, h_r14, h⟩ := ob_of h
                  have hPc : va_P D CLS (wE a q) H := fun k q h => by simp [wE] at h
                  have hd : va_D (fun _ => True) (dE a) := dE_D a
                  have hKc : va_K D CLS (tE q) s := hK.sub (tys' := []) [] rfl
                  have hF : ∀ x, va_A (dE a) H.size x → A x := fun x h9 => h9.elim (fun ⟨k, e, h⟩ => by simp [dE] at h) (fun g => hA _ (Nat.le_trans hS.1 g))
                  refine va_callr (va_runS (As := [.ref y_v1, .ref y_v2, .int t8]) (rest := []) ⟨hx, hb, hml, hown, hts⟩ (c_Two_product l D a q  hd H.size v1_l v1_h v1_m v2_l v2_h v2_m t8  y_v1 y_v2 (nin_E a y_v1) (nin_E a y_v2) r14 h_r14) (va_cwS 3 hts (gd_S (m_3 212 rfl rfl) (m_3 213 rfl rfl) (m_1 21 rfl rfl) (m_3 214 rfl rfl)) rfl rfl rfl (by decide +kernel) ⟨Nat.le_of_ble_eq_true rfl, Nat.le_of_ble_eq_true rfl⟩) ⟨fun a U g mk q => ⟨q.1, q.2.1, q.2.2.1, va_K.moved (u := U) (U := U.calling g mk a) (Vm.Alike.refl U.vm) q.2.2.2.1, q.2.2.2.2.1, q.2.2.2.2.2⟩, fun U hU hW => ⟨rfl, by rw [hU], by rw [hU]; exact hPc, va_K.moved hW.alike hKc, by rw [hU]; exact hc_v1, by rw [hU]; exact hc_v2⟩⟩ rfl rfl hl.1 rfl (lv_room (Nat.le_of_ble_eq_true rfl)) (dt_at dt_Two_value 52 rfl) ⟨Nat.le_of_ble_eq_true rfl, Nat.le_of_ble_eq_true rfl⟩) hS (fun x _ h9 => hF x h9) hF (fun uu y_r14 t H1 locs ht hvm hw hB hz1 hk1 hS => ?_)
                  obtain ⟨hB, hc_r14, hq_r14⟩ := hB
                  rw [ht] at hc_r14
                  have hn_r14 : nin (dE a) y_r14 := nin_cases hq_r14 (fun g9 => nin_big hP g9 rfl) (fun g9 => by simp only [List.mem_cons, List.not_mem_nil, or_false] at g9; rcases g9 with g9 | g9 <;> (subst g9; assumption))
                  have hf_r14 : s.heap.size ≤ y_r14 ∨ y_r14 ∈ PL := nin_cases hq_r14 (fun g9 => Or.inl (Nat.le_trans hSz g9)) (fun g9 => by simp only [List.mem_cons, List.not_mem_nil, or_false] at g9; rcases g9 with g9 | g9 <;> (subst g9; assumption))
                  clear hq_r14
                  have hc_v1 := isC.keptA hc_v1 hk1 (nin_E a y_v1)
                  have hc_v2 := isC.keptA hc_v2 hk1 (nin_E a y_v2)
                  have hP := va_P.kept hP (fun k q hq => hk1 _ (hP k q hq).lt (not_AE (hP k q hq).lt))
                  refine W.widen (k := 2) (n := 6) (Nat.le_of_ble_eq_true rfl) (Nat.le_of_ble_eq_true rfl) ?_
                  have hSz : s.heap.size ≤ H1.size := hS.1
                  clear hk1 hz1 hPc hF hB ht
                  generalize H1 = H at hP hS hSz hc_v1 hc_v2 hc_r14 ⊢
                  obtain rfl := os_of h
                  exact W.aret hx hb hr (Or.inl ⟨_, rfl⟩) (Or.inr ⟨_, rfl⟩) (fun t ht hW => ⟨⟨(), y_r14, rfl, trivial, (hPt hP ht), hPt hc_r14 ht, hf_r14⟩, hS.F ht⟩) hS.2.2 (dt_at dt_Two_value 53 rfl)
                · have h := if_n h c13
                  by_cases c15 : v0 = (3 : Int32)
                  · have h := if_p h c15
                    refine lv_tableIn (off := 80) (tgt := 141) hx hb (dt_at dt_Two_value 30 rfl) (by rw [c15]; decide) (by rw [c15]; decide) (by rw [c15]; rfl) (by decide) ?_
                    refine lv_aload_n hx hb (dt_at dt_Two_value 54 rfl) rfl (lv_at hl 2 rfl) ?_
                    refine va_get (D := D) (ci := 4) (v := .long v1_l) (C := "OutwardTape$Cell") (T := T_Cell) (N := 3) hx hb hts in_Cell hown hK hc_v1 0 rfl rfl 0 (by decide) (hts (Cond.fieldLink "OutwardTape$TwoOperands" 36 "OutwardTape$Cell" "low" "J") (m_2 121 rfl rfl)) (fun _ h9 => h9) rfl (dt_at dt_Two_value 55 rfl) ?_
                    refine lv_aload_n hx hb (dt_at dt_Two_value 56 rfl) rfl (lv_at hl 2 rfl) ?_
                    refine va_get (D := D) (ci := 4) (v := .long v1_h) (C := "OutwardTape$Cell") (T := T_Cell) (N := 3) hx hb hts in_Cell hown hK hc_v1 0 rfl rfl 1 (by decide) (hts (Cond.fieldLink "OutwardTape$TwoOperands" 40 "OutwardTape$Cell" "high" "J") (m_2 128 rfl rfl)) (fun _ h9 => h9) rfl (dt_at dt_Two_value 57 rfl) ?_
                    refine lv_aload_n hx hb (dt_at dt_Two_value 58 rfl) rfl (lv_at hl 3 rfl) ?_
                    refine lv_iload_n hx hb (dt_at dt_Two_value 59 rfl) rfl (lv_at hl 0 rfl) ?_
                    obtain ⟨r16, h_r16, h⟩ := ob_of h
                    have hPc : va_P D CLS (wE a q) H := fun k q h => by simp [wE] at h
                    have hd : va_D (fun _ => True) (dE a) := dE_D a
                    have hKc : va_K D CLS (tE q) s := hK.sub (tys' := []) [] rfl
                    have hF : ∀ x, va_A (dE a) H.size x → A x := fun x h9 => h9.elim (fun ⟨k, e, h⟩ => by simp [dE] at h) (fun g => hA _ (Nat.le_trans hS.1 g))
                    refine va_callr (va_runS (As := [.long v1_l, .long v1_h, .ref y_v2, .int t8]) (rest := []) ⟨hx, hb, hml, hown, hts⟩ (c_Div_value l D a q  hd H.size v1_l v1_h v2_l v2_h v2_m t8  y_v2 (nin_E a y_v2) r16 h_r16) (va_cwS 4 hts (gd_S (m_3 222 rfl rfl) (m_3 155 rfl rfl) (m_1 20 rfl rfl) (m_3 156 rfl rfl)) rfl rfl rfl (by decide +kernel) ⟨Nat.le_of_ble_eq_true rfl, Nat.le_of_ble_eq_true rfl⟩) ⟨fun a U g mk q => ⟨q.1, q.2.1, q.2.2.1, va_K.moved (u := U) (U := U.calling g mk a) (Vm.Alike.refl U.vm) q.2.2.2.1, q.2.2.2.2⟩, fun U hU hW => ⟨rfl, by rw [hU], by rw [hU]; exact hPc, va_K.moved hW.alike hKc, by rw [hU]; exact hc_v2⟩⟩ rfl rfl hl.1 rfl (lv_room (Nat.le_of_ble_eq_true rfl)) (dt_at dt_Two_value 60 rfl) ⟨Nat.le_of_ble_eq_true rfl, Nat.le_of_ble_eq_true rfl⟩) hS (fun x _ h9 => hF x h9) hF (fun uu y_r16 t H1 locs ht hvm hw hB hz1 hk1 hS => ?_)
                    obtain ⟨hB, hc_r16, hq_r16⟩ := hB
                    rw [ht] at hc_r16
                    have hn_r16 : nin (dE a) y_r16 := nin_cases hq_r16 (fun g9 => nin_big hP g9 rfl) (fun g9 => by simp only [List.mem_cons, List.not_mem_nil, or_false] at g9; subst g9; assumption)
                    have hf_r16 : s.heap.size ≤ y_r16 ∨ y_r16 ∈ PL := nin_cases hq_r16 (fun g9 => Or.inl (Nat.le_trans hSz g9)) (fun g9 => by simp only [List.mem_cons, List.not_mem_nil, or_false] at g9; subst g9; assumption)
                    clear hq_r16
                    have hc_v1 := isC.keptA hc_v1 hk1 (nin_E a y_v1)
                    have hc_v2 := isC.keptA hc_v2 hk1 (nin_E a y_v2)
                    have hP := va_P.kept hP (fun k q hq => hk1 _ (hP k q hq).lt (not_AE (hP k q hq).lt))
                    refine W.widen (k := 2) (n := 6) (Nat.le_of_ble_eq_true rfl) (Nat.le_of_ble_eq_true rfl) ?_
                    have hSz : s.heap.size ≤ H1.size := hS.1
                    clear hk1 hz1 hPc hF hB ht
                    generalize H1 = H at hP hS hSz hc_v1 hc_v2 hc_r16 ⊢
                    obtain rfl := os_of h
                    exact W.aret hx hb hr (Or.inl ⟨_, rfl⟩) (Or.inr ⟨_, rfl⟩) (fun t ht hW => ⟨⟨(), y_r16, rfl, trivial, (hPt hP ht), hPt hc_r16 ht, hf_r16⟩, hS.F ht⟩) hS.2.2 (dt_at dt_Two_value 61 rfl)
                  · have h := if_n h c15
                    by_cases c17 : v0 = (4 : Int32)
                    · have h := if_p h c17
                      refine lv_tableIn (off := 94) (tgt := 155) hx hb (dt_at dt_Two_value 30 rfl) (by rw [c17]; decide) (by rw [c17]; decide) (by rw [c17]; rfl) (by decide) ?_
                      refine lv_aload_n hx hb (dt_at dt_Two_value 62 rfl) rfl (lv_at hl 2 rfl) ?_
                      refine va_get (D := D) (ci := 4) (v := .long v1_l) (C := "OutwardTape$Cell") (T := T_Cell) (N := 3) hx hb hts in_Cell hown hK hc_v1 0 rfl rfl 0 (by decide) (hts (Cond.fieldLink "OutwardTape$TwoOperands" 36 "OutwardTape$Cell" "low" "J") (m_2 121 rfl rfl)) (fun _ h9 => h9) rfl (dt_at dt_Two_value 63 rfl) ?_
                      refine lv_aload_n hx hb (dt_at dt_Two_value 64 rfl) rfl (lv_at hl 3 rfl) ?_
                      refine va_get (D := D) (ci := 4) (v := .long v2_l) (C := "OutwardTape$Cell") (T := T_Cell) (N := 3) hx hb hts in_Cell hown hK hc_v2 0 rfl rfl 0 (by decide) (hts (Cond.fieldLink "OutwardTape$TwoOperands" 36 "OutwardTape$Cell" "low" "J") (m_2 121 rfl rfl)) (fun _ h9 => h9) rfl (dt_at dt_Two_value 65 rfl) ?_
                      obtain ⟨t18, e_t18, h⟩ := ol_of h
                      refine va_mmin_long hx hb (hml.trans hl.1.symm) hown (hts (Cond.methodLink "OutwardTape$TwoOperands" 57 Lib.MathLoose.min_long.x) (m_3 203 rfl rfl)) (hts (Cond.static Lib.MathLoose.min_long.x) (m_1 225 rfl rfl)) (hts (Cond.initialized "java/lang/Math") (m_1 9 rfl rfl)) (hts (Cond.code Lib.MathLoose.min_long.x Lib.MathLoose.min_long.code 4 (some .long)) (m_1 226 rfl rfl)) (Nat.le_of_ble_eq_true rfl) (Nat.le_of_ble_eq_true rfl) (Nat.le_of_ble_eq_true rfl) (Nat.le_of_ble_eq_true rfl) (dt_at dt_Two_value 66 rfl) ?_
                      refine lv_topl (fun u_t18 q_t18 => ?_)
                      obtain rfl : t18 = u_t18 := e_t18.trans q_t18.symm
                      refine lv_aload_n hx hb (dt_at dt_Two_value 67 rfl) rfl (lv_at hl 2 rfl) ?_
                      refine va_get (D := D) (ci := 4) (v := .long v1_h) (C := "OutwardTape$Cell") (T := T_Cell) (N := 3) hx hb hts in_Cell hown hK hc_v1 0 rfl rfl 1 (by decide) (hts (Cond.fieldLink "OutwardTape$TwoOperands" 40 "OutwardTape$Cell" "high" "J") (m_2 128 rfl rfl)) (fun _ h9 => h9) rfl (dt_at dt_Two_value 68 rfl) ?_
                      refine lv_aload_n hx hb (dt_at dt_Two_value 69 rfl) rfl (lv_at hl 3 rfl) ?_
                      refine va_get (D := D) (ci := 4) (v := .long v2_h) (C := "OutwardTape$Cell") (T := T_Cell) (N := 3) hx hb hts in_Cell hown hK hc_v2 0 rfl rfl 1 (by decide) (hts (Cond.fieldLink "OutwardTape$TwoOperands" 40 "OutwardTape$Cell" "high" "J") (m_2 128 rfl rfl)) (fun _ h9 => h9) rfl (dt_at dt_Two_value 70 rfl) ?_
                      obtain ⟨t19, e_t19, h⟩ := ol_of h
                      refine va_mmin_long hx hb (hml.trans hl.1.symm) hown (hts (Cond.methodLink "OutwardTape$TwoOperands" 57 Lib.MathLoose.min_long.x) (m_3 203 rfl rfl)) (hts (Cond.static Lib.MathLoose.min_long.x) (m_1 225 rfl rfl)) (hts (Cond.initialized "java/lang/Math") (m_1 9 rfl rfl)) (hts (Cond.code Lib.MathLoose.min_long.x Lib.MathLoose.min_long.code 4 (some .long)) (m_1 226 rfl rfl)) (Nat.le_of_ble_eq_true rfl) (Nat.le_of_ble_eq_true rfl) (Nat.le_of_ble_eq_true rfl) (Nat.le_of_ble_eq_true rfl) (dt_at dt_Two_value 71 rfl) ?_
                      refine lv_topl (fun u_t19 q_t19 => ?_)
                      obtain rfl : t19 = u_t19 := e_t19.trans q_t19.symm
                      refine lv_iconst (v := 4) hx hb (dt_at dt_Two_value 72 rfl) (by decide) ?_
                      refine lv_iload_n hx hb (dt_at dt_Two_value 73 rfl) rfl (lv_at hl 0 rfl) ?_
                      obtain ⟨r20, h_r20, h⟩ := ob_of h
                      have hPc : va_P D CLS (wE a q) H := fun k q h => by simp [wE] at h
                      have hd : va_D (fun _ => True) (dE a) := dE_D a
                      have hKc : va_K D CLS (tE q) s := hK.sub (tys' := []) [] rfl
                      have hF : ∀ x, va_A (dE a) H.size x → A x := fun x h9 => h9.elim (fun ⟨k, e, h⟩ => by simp [dE] at h) (fun g => hA _ (Nat.le_trans hS.1 g))
                      refine va_callr (va_runS (As := [.long t18, .long t19, .int (4 : Int32), .int t8]) (rest := []) ⟨hx, hb, hml, hown, hts⟩ (c_Cell_value l D a q  hd H.size t18 t19 (4 : Int32) t8    r20 h_r20) (va_cwS 4 hts (gd_S (m_3 211 rfl rfl) (m_2 219 rfl rfl) (m_1 10 rfl rfl) (m_2 220 rfl rfl)) rfl rfl rfl (by decide +kernel) ⟨Nat.le_of_ble_eq_true rfl, Nat.le_of_ble_eq_true rfl⟩) ⟨fun a U g mk q => ⟨q.1, q.2.1, q.2.2.1, va_K.moved (u := U) (U := U.calling g mk a) (Vm.Alike.refl U.vm) q.2.2.2⟩, fun U hU hW => ⟨rfl, by rw [hU], by rw [hU]; exact hPc, va_K.moved hW.alike hKc⟩⟩ rfl rfl hl.1 rfl (lv_room (Nat.le_of_ble_eq_true rfl)) (dt_at dt_Two_value 74 rfl) ⟨Nat.le_of_ble_eq_true rfl, Nat.le_of_ble_eq_true rfl⟩) hS (fun x _ h9 => hF x h9) hF (fun uu y_r20 t H1 locs ht hvm hw hB hz1 hk1 hS => ?_)
                      obtain ⟨hB, hc_r20, hq_r20⟩ := hB
                      rw [ht] at hc_r20
                      have hn_r20 : nin (dE a) y_r20 := nin_cases hq_r20 (fun g9 => nin_big hP g9 rfl) (fun g9 => by simp at g9)
                      have hf_r20 : s.heap.size ≤ y_r20 ∨ y_r20 ∈ PL := nin_cases hq_r20 (fun g9 => Or.inl (Nat.le_trans hSz g9)) (fun g9 => by simp at g9)
                      clear hq_r20
                      have hc_v1 := isC.keptA hc_v1 hk1 (nin_E a y_v1)
                      have hc_v2 := isC.keptA hc_v2 hk1 (nin_E a y_v2)
                      have hP := va_P.kept hP (fun k q hq => hk1 _ (hP k q hq).lt (not_AE (hP k q hq).lt))
                      refine W.widen (k := 2) (n := 6) (Nat.le_of_ble_eq_true rfl) (Nat.le_of_ble_eq_true rfl) ?_
                      have hSz : s.heap.size ≤ H1.size := hS.1
                      clear hk1 hz1 hPc hF hB ht
                      generalize H1 = H at hP hS hSz hc_v1 hc_v2 hc_r20 ⊢
                      obtain rfl := os_of h
                      exact W.aret hx hb hr (Or.inl ⟨_, rfl⟩) (Or.inr ⟨_, rfl⟩) (fun t ht hW => ⟨⟨(), y_r20, rfl, trivial, (hPt hP ht), hPt hc_r20 ht, hf_r20⟩, hS.F ht⟩) hS.2.2 (dt_at dt_Two_value 75 rfl)
                    · have h := if_n h c17
                      by_cases c21 : v0 = (5 : Int32)
                      · have h := if_p h c21
                        refine lv_tableIn (off := 122) (tgt := 183) hx hb (dt_at dt_Two_value 30 rfl) (by rw [c21]; decide) (by rw [c21]; decide) (by rw [c21]; rfl) (by decide) ?_
                        refine lv_aload_n hx hb (dt_at dt_Two_value 76 rfl) rfl (lv_at hl 2 rfl) ?_
                        refine va_get (D := D) (ci := 4) (v := .long v1_l) (C := "OutwardTape$Cell") (T := T_Cell) (N := 3) hx hb hts in_Cell hown hK hc_v1 0 rfl rfl 0 (by decide) (hts (Cond.fieldLink "OutwardTape$TwoOperands" 36 "OutwardTape$Cell" "low" "J") (m_2 121 rfl rfl)) (fun _ h9 => h9) rfl (dt_at dt_Two_value 77 rfl) ?_
                        refine lv_aload_n hx hb (dt_at dt_Two_value 78 rfl) rfl (lv_at hl 3 rfl) ?_
                        refine va_get (D := D) (ci := 4) (v := .long v2_l) (C := "OutwardTape$Cell") (T := T_Cell) (N := 3) hx hb hts in_Cell hown hK hc_v2 0 rfl rfl 0 (by decide) (hts (Cond.fieldLink "OutwardTape$TwoOperands" 36 "OutwardTape$Cell" "low" "J") (m_2 121 rfl rfl)) (fun _ h9 => h9) rfl (dt_at dt_Two_value 79 rfl) ?_
                        obtain ⟨t22, e_t22, h⟩ := ol_of h
                        refine va_mmax_long hx hb (hml.trans hl.1.symm) hown (hts (Cond.methodLink "OutwardTape$TwoOperands" 63 Lib.MathLoose.max_long.x) (m_3 204 rfl rfl)) (hts (Cond.static Lib.MathLoose.max_long.x) (m_1 218 rfl rfl)) (hts (Cond.initialized "java/lang/Math") (m_1 9 rfl rfl)) (hts (Cond.code Lib.MathLoose.max_long.x Lib.MathLoose.max_long.code 4 (some .long)) (m_1 219 rfl rfl)) (Nat.le_of_ble_eq_true rfl) (Nat.le_of_ble_eq_true rfl) (Nat.le_of_ble_eq_true rfl) (Nat.le_of_ble_eq_true rfl) (dt_at dt_Two_value 80 rfl) ?_
                        refine lv_topl (fun u_t22 q_t22 => ?_)
                        obtain rfl : t22 = u_t22 := e_t22.trans q_t22.symm
                        refine lv_aload_n hx hb (dt_at dt_Two_value 81 rfl) rfl (lv_at hl 2 rfl) ?_
                        refine va_get (D := D) (ci := 4) (v := .long v1_h) (C := "OutwardTape$Cell") (T := T_Cell) (N := 3) hx hb hts in_Cell hown hK hc_v1 0 rfl rfl 1 (by decide) (hts (Cond.fieldLink "OutwardTape$TwoOperands" 40 "OutwardTape$Cell" "high" "J") (m_2 128 rfl rfl)) (fun _ h9 => h9) rfl (dt_at dt_Two_value 82 rfl) ?_
                        refine lv_aload_n hx hb (dt_at dt_Two_value 83 rfl) rfl (lv_at hl 3 rfl) ?_
                        refine va_get (D := D) (ci := 4) (v := .long v2_h) (C := "OutwardTape$Cell") (T := T_Cell) (N := 3) hx hb hts in_Cell hown hK hc_v2 0 rfl rfl 1 (by decide) (hts (Cond.fieldLink "OutwardTape$TwoOperands" 40 "OutwardTape$Cell" "high" "J") (m_2 128 rfl rfl)) (fun _ h9 => h9) rfl (dt_at dt_Two_value 84 rfl) ?_
                        obtain ⟨t23, e_t23, h⟩ := ol_of h
                        refine va_mmax_long hx hb (hml.trans hl.1.symm) hown (hts (Cond.methodLink "OutwardTape$TwoOperands" 63 Lib.MathLoose.max_long.x) (m_3 204 rfl rfl)) (hts (Cond.static Lib.MathLoose.max_long.x) (m_1 218 rfl rfl)) (hts (Cond.initialized "java/lang/Math") (m_1 9 rfl rfl)) (hts (Cond.code Lib.MathLoose.max_long.x Lib.MathLoose.max_long.code 4 (some .long)) (m_1 219 rfl rfl)) (Nat.le_of_ble_eq_true rfl) (Nat.le_of_ble_eq_true rfl) (Nat.le_of_ble_eq_true rfl) (Nat.le_of_ble_eq_true rfl) (dt_at dt_Two_value 85 rfl) ?_
                        refine lv_topl (fun u_t23 q_t23 => ?_)
                        obtain rfl : t23 = u_t23 := e_t23.trans q_t23.symm
                        refine lv_iconst (v := 4) hx hb (dt_at dt_Two_value 86 rfl) (by decide) ?_
                        refine lv_iload_n hx hb (dt_at dt_Two_value 87 rfl) rfl (lv_at hl 0 rfl) ?_
                        obtain ⟨r24, h_r24, h⟩ := ob_of h
                        have hPc : va_P D CLS (wE a q) H := fun k q h => by simp [wE] at h
                        have hd : va_D (fun _ => True) (dE a) := dE_D a
                        have hKc : va_K D CLS (tE q) s := hK.sub (tys' := []) [] rfl
                        have hF : ∀ x, va_A (dE a) H.size x → A x := fun x h9 => h9.elim (fun ⟨k, e, h⟩ => by simp [dE] at h) (fun g => hA _ (Nat.le_trans hS.1 g))
                        refine va_callr (va_runS (As := [.long t22, .long t23, .int (4 : Int32), .int t8]) (rest := []) ⟨hx, hb, hml, hown, hts⟩ (c_Cell_value l D a q  hd H.size t22 t23 (4 : Int32) t8    r24 h_r24) (va_cwS 4 hts (gd_S (m_3 211 rfl rfl) (m_2 219 rfl rfl) (m_1 10 rfl rfl) (m_2 220 rfl rfl)) rfl rfl rfl (by decide +kernel) ⟨Nat.le_of_ble_eq_true rfl, Nat.le_of_ble_eq_true rfl⟩) ⟨fun a U g mk q => ⟨q.1, q.2.1, q.2.2.1, va_K.moved (u := U) (U := U.calling g mk a) (Vm.Alike.refl U.vm) q.2.2.2⟩, fun U hU hW => ⟨rfl, by rw [hU], by rw [hU]; exact hPc, va_K.moved hW.alike hKc⟩⟩ rfl rfl hl.1 rfl (lv_room (Nat.le_of_ble_eq_true rfl)) (dt_at dt_Two_value 88 rfl) ⟨Nat.le_of_ble_eq_true rfl, Nat.le_of_ble_eq_true rfl⟩) hS (fun x _ h9 => hF x h9) hF (fun uu y_r24 t H1 locs ht hvm hw hB hz1 hk1 hS => ?_)
                        obtain ⟨hB, hc_r24, hq_r24⟩ := hB
                        rw [ht] at hc_r24
                        have hn_r24 : nin (dE a) y_r24 := nin_cases hq_r24 (fun g9 => nin_big hP g9 rfl) (fun g9 => by simp at g9)
                        have hf_r24 : s.heap.size ≤ y_r24 ∨ y_r24 ∈ PL := nin_cases hq_r24 (fun g9 => Or.inl (Nat.le_trans hSz g9)) (fun g9 => by simp at g9)
                        clear hq_r24
                        have hc_v1 := isC.keptA hc_v1 hk1 (nin_E a y_v1)
                        have hc_v2 := isC.keptA hc_v2 hk1 (nin_E a y_v2)
                        have hP := va_P.kept hP (fun k q hq => hk1 _ (hP k q hq).lt (not_AE (hP k q hq).lt))
                        refine W.widen (k := 2) (n := 6) (Nat.le_of_ble_eq_true rfl) (Nat.le_of_ble_eq_true rfl) ?_
                        have hSz : s.heap.size ≤ H1.size := hS.1
                        clear hk1 hz1 hPc hF hB ht
                        generalize H1 = H at hP hS hSz hc_v1 hc_v2 hc_r24 ⊢
                        obtain rfl := os_of h
                        exact W.aret hx hb hr (Or.inl ⟨_, rfl⟩) (Or.inr ⟨_, rfl⟩) (fun t ht hW => ⟨⟨(), y_r24, rfl, trivial, (hPt hP ht), hPt hc_r24 ht, hf_r24⟩, hS.F ht⟩) hS.2.2 (dt_at dt_Two_value 89 rfl)
                      · have h := if_n h c21
                        by_cases c25 : v0 = (6 : Int32)
                        · have h := if_p h c25
                          refine lv_tableIn (off := 150) (tgt := 211) hx hb (dt_at dt_Two_value 30 rfl) (by rw [c25]; decide) (by rw [c25]; decide) (by rw [c25]; rfl) (by decide) ?_
                          refine lv_aload_n hx hb (dt_at dt_Two_value 90 rfl) rfl (lv_at hl 2 rfl) ?_
                          refine lv_aload_n hx hb (dt_at dt_Two_value 91 rfl) rfl (lv_at hl 3 rfl) ?_
                          obtain ⟨r26, h_r26, h⟩ := ob_of h
                          have hPc : va_P D CLS (wE a q) H := fun k q h => by simp [wE] at h
                          have hd : va_D (fun _ => True) (dE a) := dE_D a
                          have hKc : va_K D CLS (tE q) s := hK.sub (tys' := []) [] rfl
                          have hF : ∀ x, va_A (dE a) H.size x → A x := fun x h9 => h9.elim (fun ⟨k, e, h⟩ => by simp [dE] at h) (fun g => hA _ (Nat.le_trans hS.1 g))
                          refine va_callr (va_runS (As := [.ref y_v1, .ref y_v2]) (rest := []) ⟨hx, hb, hml, hown, hts⟩ (c_Two_intersection l D a q  hd H.size v1_l v1_h v1_m v2_l v2_h v2_m  y_v1 y_v2 (nin_E a y_v1) (nin_E a y_v2) r26 h_r26) (va_cwS 2 hts (gd_S (m_3 223 rfl rfl) (m_3 224 rfl rfl) (m_1 21 rfl rfl) (m_3 225 rfl rfl)) rfl rfl rfl (by decide +kernel) ⟨Nat.le_of_ble_eq_true rfl, Nat.le_of_ble_eq_true rfl⟩) ⟨fun a U g mk q => ⟨q.1, q.2.1, q.2.2.1, va_K.moved (u := U) (U := U.calling g mk a) (Vm.Alike.refl U.vm) q.2.2.2.1, q.2.2.2.2.1, q.2.2.2.2.2⟩, fun U hU hW => ⟨rfl, by rw [hU], by rw [hU]; exact hPc, va_K.moved hW.alike hKc, by rw [hU]; exact hc_v1, by rw [hU]; exact hc_v2⟩⟩ rfl rfl hl.1 rfl (lv_room (Nat.le_of_ble_eq_true rfl)) (dt_at dt_Two_value 92 rfl) ⟨Nat.le_of_ble_eq_true rfl, Nat.le_of_ble_eq_true rfl⟩) hS (fun x _ h9 => hF x h9) hF (fun uu y_r26 t H1 locs ht hvm hw hB hz1 hk1 hS => ?_)
                          obtain ⟨hB, hc_r26, hq_r26⟩ := hB
                          rw [ht] at hc_r26
                          have hn_r26 : nin (dE a) y_r26 := nin_cases hq_r26 (fun g9 => nin_big hP g9 rfl) (fun g9 => by simp only [List.mem_cons, List.not_mem_nil, or_false] at g9; rcases g9 with g9 | g9 <;> (subst g9; assumption))
                          have hf_r26 : s.heap.size ≤ y_r26 ∨ y_r26 ∈ PL := nin_cases hq_r26 (fun g9 => Or.inl (Nat.le_trans hSz g9)) (fun g9 => by simp only [List.mem_cons, List.not_mem_nil, or_false] at g9; rcases g9 with g9 | g9 <;> (subst g9; assumption))
                          clear hq_r26
                          have hc_v1 := isC.keptA hc_v1 hk1 (nin_E a y_v1)
                          have hc_v2 := isC.keptA hc_v2 hk1 (nin_E a y_v2)
                          have hP := va_P.kept hP (fun k q hq => hk1 _ (hP k q hq).lt (not_AE (hP k q hq).lt))
                          refine W.widen (k := 2) (n := 6) (Nat.le_of_ble_eq_true rfl) (Nat.le_of_ble_eq_true rfl) ?_
                          have hSz : s.heap.size ≤ H1.size := hS.1
                          clear hk1 hz1 hPc hF hB ht
                          generalize H1 = H at hP hS hSz hc_v1 hc_v2 hc_r26 ⊢
                          obtain rfl := os_of h
                          exact W.aret hx hb hr (Or.inl ⟨_, rfl⟩) (Or.inr ⟨_, rfl⟩) (fun t ht hW => ⟨⟨(), y_r26, rfl, trivial, (hPt hP ht), hPt hc_r26 ht, hf_r26⟩, hS.F ht⟩) hS.2.2 (dt_at dt_Two_value 93 rfl)
                        · have h := if_n h c25
                          have ho : (v0 : Int32).toInt < 0 ∨ 6 < (v0 : Int32).toInt := by
                            have n_c9 := ne_i c9 (show (0 : Int32).toInt = 0 by decide)
                            have n_c11 := ne_i c11 (show (1 : Int32).toInt = 1 by decide)
                            have n_c13 := ne_i c13 (show (2 : Int32).toInt = 2 by decide)
                            have n_c15 := ne_i c15 (show (3 : Int32).toInt = 3 by decide)
                            have n_c17 := ne_i c17 (show (4 : Int32).toInt = 4 by decide)
                            have n_c21 := ne_i c21 (show (5 : Int32).toInt = 5 by decide)
                            have n_c25 := ne_i c25 (show (6 : Int32).toInt = 6 by decide)
                            omega
                          refine lv_tableOut (tgt := 217) hx hb (dt_at dt_Two_value 30 rfl) ho (by decide) ?_
                          obtain ⟨r27, h_r27, h⟩ := ob_of h
                          have hPc : va_P D CLS (wE a q) H := fun k q h => by simp [wE] at h
                          have hd : va_D (fun _ => True) (dE a) := dE_D a
                          have hKc : va_K D CLS (tE q) s := hK.sub (tys' := []) [] rfl
                          have hF : ∀ x, va_A (dE a) H.size x → A x := fun x h9 => h9.elim (fun ⟨k, e, h⟩ => by simp [dE] at h) (fun g => hA _ (Nat.le_trans hS.1 g))
                          refine va_callr (va_runS (As := []) (rest := []) ⟨hx, hb, hml, hown, hts⟩ (c_Cell_ill l D a q  hd H.size     r27 h_r27) (va_cwS 0 hts (gd_S (m_3 197 rfl rfl) (m_2 109 rfl rfl) (m_1 10 rfl rfl) (m_2 110 rfl rfl)) rfl rfl rfl (by decide +kernel) ⟨Nat.le_of_ble_eq_true rfl, Nat.le_of_ble_eq_true rfl⟩) ⟨fun a U g mk q => ⟨q.1, q.2.1, q.2.2.1, va_K.moved (u := U) (U := U.calling g mk a) (Vm.Alike.refl U.vm) q.2.2.2⟩, fun U hU hW => ⟨rfl, by rw [hU], by rw [hU]; exact hPc, va_K.moved hW.alike hKc⟩⟩ rfl rfl hl.1 rfl (lv_room (Nat.le_of_ble_eq_true rfl)) (dt_at dt_Two_value 94 rfl) ⟨Nat.le_of_ble_eq_true rfl, Nat.le_of_ble_eq_true rfl⟩) hS (fun x _ h9 => hF x h9) hF (fun uu y_r27 t H1 locs ht hvm hw hB hz1 hk1 hS => ?_)
                          obtain ⟨hB, hc_r27, hq_r27⟩ := hB
                          rw [ht] at hc_r27
                          have hn_r27 : nin (dE a) y_r27 := nin_cases hq_r27 (fun g9 => nin_big hP g9 rfl) (fun g9 => by simp at g9)
                          have hf_r27 : s.heap.size ≤ y_r27 ∨ y_r27 ∈ PL := nin_cases hq_r27 (fun g9 => Or.inl (Nat.le_trans hSz g9)) (fun g9 => by simp at g9)
                          clear hq_r27
                          have hc_v1 := isC.keptA hc_v1 hk1 (nin_E a y_v1)
                          have hc_v2 := isC.keptA hc_v2 hk1 (nin_E a y_v2)
                          have hP := va_P.kept hP (fun k q hq => hk1 _ (hP k q hq).lt (not_AE (hP k q hq).lt))
                          refine W.widen (k := 1) (n := 3) (Nat.le_of_ble_eq_true rfl) (Nat.le_of_ble_eq_true rfl) ?_
                          have hSz : s.heap.size ≤ H1.size := hS.1
                          clear hk1 hz1 hPc hF hB ht
                          generalize H1 = H at hP hS hSz hc_v1 hc_v2 hc_r27 ⊢
                          obtain rfl := os_of h
                          refine W.widen (k := 2) (n := 6) (Nat.le_of_ble_eq_true rfl) (Nat.le_of_ble_eq_true rfl) ?_
                          exact W.aret hx hb hr (Or.inl ⟨_, rfl⟩) (Or.inr ⟨_, rfl⟩) (fun t ht hW => ⟨⟨(), y_r27, rfl, trivial, (hPt hP ht), hPt hc_r27 ht, hf_r27⟩, hS.F ht⟩) hS.2.2 (dt_at dt_Two_value 95 rfl)
          · have h := if_n h c7
            exact k_Two_value_44 (PL := PL) hC hA hK   H locs ls hP hD hS   (lv_sub hl [] rfl) h
      · have h := if_p h c3
        refine lv_aload_n hx hb (dt_at dt_Two_value 11 rfl) rfl (lv_at hl 1 rfl) ?_
        refine lv_aload_n hx hb (dt_at dt_Two_value 12 rfl) rfl (lv_at hl 2 rfl) ?_
        obtain ⟨r28, h_r28, h⟩ := ob_of h
        have hPc : va_P D CLS (wE a q) H := fun k q h => by simp [wE] at h
        have hd : va_D (fun _ => True) (dE a) := dE_D a
        have hKc : va_K D CLS (tE q) s := hK.sub (tys' := []) [] rfl
        have hF : ∀ x, va_A (dE a) H.size x → A x := fun x h9 => h9.elim (fun ⟨k, e, h⟩ => by simp [dE] at h) (fun g => hA _ (Nat.le_trans hS.1 g))
        refine va_callr (va_runS (As := [.ref y_v1, .ref y_v2]) (rest := []) ⟨hx, hb, hml, hown, hts⟩ (c_Two_hull l D a q  hd H.size v1_l v1_h v1_m v2_l v2_h v2_m  y_v1 y_v2 (nin_E a y_v1) (nin_E a y_v2) r28 h_r28) (va_cwS 2 hts (gd_S (m_3 198 rfl rfl) (m_3 199 rfl rfl) (m_1 21 rfl rfl) (m_3 200 rfl rfl)) rfl rfl rfl (by decide +kernel) ⟨Nat.le_of_ble_eq_true rfl, Nat.le_of_ble_eq_true rfl⟩) ⟨fun a U g mk q => ⟨q.1, q.2.1, q.2.2.1, va_K.moved (u := U) (U := U.calling g mk a) (Vm.Alike.refl U.vm) q.2.2.2.1, q.2.2.2.2.1, q.2.2.2.2.2⟩, fun U hU hW => ⟨rfl, by rw [hU], by rw [hU]; exact hPc, va_K.moved hW.alike hKc, by rw [hU]; exact hc_v1, by rw [hU]; exact hc_v2⟩⟩ rfl rfl hl.1 rfl (lv_room (Nat.le_of_ble_eq_true rfl)) (dt_at dt_Two_value 13 rfl) ⟨Nat.le_of_ble_eq_true rfl, Nat.le_of_ble_eq_true rfl⟩) hS (fun x _ h9 => hF x h9) hF (fun uu y_r28 t H1 locs ht hvm hw hB hz1 hk1 hS => ?_)
        obtain ⟨hB, hc_r28, hq_r28⟩ := hB
        rw [ht] at hc_r28
        have hn_r28 : nin (dE a) y_r28 := nin_cases hq_r28 (fun g9 => nin_big hP g9 rfl) (fun g9 => by simp only [List.mem_cons, List.not_mem_nil, or_false] at g9; rcases g9 with g9 | g9 <;> (subst g9; assumption))
        have hf_r28 : s.heap.size ≤ y_r28 ∨ y_r28 ∈ PL := nin_cases hq_r28 (fun g9 => Or.inl (Nat.le_trans hSz g9)) (fun g9 => by simp only [List.mem_cons, List.not_mem_nil, or_false] at g9; rcases g9 with g9 | g9 <;> (subst g9; assumption))
        clear hq_r28
        have hc_v1 := isC.keptA hc_v1 hk1 (nin_E a y_v1)
        have hc_v2 := isC.keptA hc_v2 hk1 (nin_E a y_v2)
        have hP := va_P.kept hP (fun k q hq => hk1 _ (hP k q hq).lt (not_AE (hP k q hq).lt))
        refine W.widen (k := 2) (n := 6) (Nat.le_of_ble_eq_true rfl) (Nat.le_of_ble_eq_true rfl) ?_
        have hSz : s.heap.size ≤ H1.size := hS.1
        clear hk1 hz1 hPc hF hB ht
        generalize H1 = H at hP hS hSz hc_v1 hc_v2 hc_r28 ⊢
        obtain rfl := os_of h
        exact W.aret hx hb hr (Or.inl ⟨_, rfl⟩) (Or.inr ⟨_, rfl⟩) (fun t ht hW => ⟨⟨(), y_r28, rfl, trivial, (hPt hP ht), hPt hc_r28 ht, hf_r28⟩, hS.F ht⟩) hS.2.2 (dt_at dt_Two_value 14 rfl)
    · have h := if_p h c2
      exact k_Two_value_14 (PL := PL) hC hA hK   H locs ls hP hD hS   (lv_sub hl [] rfl) h
set_option maxRecDepth 100000 in
set_option maxHeartbeats 4000000 in
theorem c_Two_value (l : Launch) (D : va_G) (a : Nat → Nat) (q : Nat → ClassId) (hd : va_D (fun _ => True) (dE a)) (sz : Nat) (a0 : Int32) (a1_l : Int64) (a1_h : Int64) (a1_m : Int32) (a2_l : Int64) (a2_h : Int64) (a2_m : Int32)  (y_a1 : Nat) (y_a2 : Nat) (hn_a1 : nin (dE a) y_a1) (hn_a2 : nin (dE a) y_a2) (r0 : Int64 × Int64 × Int32) (h : f_Two_value a0 a1_l a1_h a1_m a2_l a2_h a2_m = some r0) : Met l (⟨"OutwardTape$TwoOperands", "value", "(ILOutwardTape$Cell;LOutwardTape$Cell;)LOutwardTape$Cell;"⟩ : MethodName) (WSm (⟨"OutwardTape$TwoOperands", "value", "(ILOutwardTape$Cell;LOutwardTape$Cell;)LOutwardTape$Cell;"⟩ : MethodName) prog_10_method_2_code 4 (some (.object "OutwardTape$Cell"))) rm_Two_value (va_Pc [.int a0, .ref y_a1, .ref y_a2] (fun U => U.heap.size = sz ∧ va_P D CLS (wE a q ) U.heap ∧ va_K D CLS (tE q) U ∧ isC D U.heap y_a1 a1_l a1_h a1_m ∧ isC D U.heap y_a2 a2_l a2_h a2_m)) (va_Qr (fun _ : Unit => True) (fun _ ra t => (va_P D CLS (wE a q ) t.heap) ∧ isC D t.heap ra r0.1 r0.2.1 r0.2.2 ∧ (sz ≤ ra ∨ ra ∈ ([y_a1, y_a2] : List Nat))) (va_A (dE a) sz)) 2 6 (va_A (dE a) sz) := by
  refine Met.ofW (cc := prog_10_method_2_code) (maxL := 4) (ret := (some (.object "OutwardTape$Cell"))) (by decide) rfl ?_
  intro p e s m args below meth c s₁ B hml hv
  obtain ⟨rfl, hsz, hP, hK, hc_a1, hc_a2⟩ := hv
  subst hsz
  have hC := CX.of B hml rfl
  have hl := lv_entry [.int a0, .ref y_a1, .ref y_a2] (n := 4) (Nat.le_of_ble_eq_true rfl)
  rw [lg_entry_eq]
  generalize (lg_sl [.int a0, .ref y_a1, .ref y_a2] ++ List.replicate (4 - (lg_sl [.int a0, .ref y_a1, .ref y_a2]).length) Slot.unset).toArray = ls at hl ⊢
  have hl : lv_has ls 4 [(0, .int a0), (1, .ref y_a1), (2, .ref y_a2)] := hl
  exact k_Two_value_0 (PL := [y_a1, y_a2]) hC (fun x h => Or.inr h) hK a0 a1_l a1_h a1_m a2_l a2_h a2_m   y_a1 y_a2 s.heap [] ls hP (dD hd.self rfl) va_S.rf  hc_a1 (Or.inr (by simp)) hn_a1 hc_a2 (Or.inr (by simp)) hn_a2  (lv_sub hl [0, 1, 2] rfl) h
abbrev rm_Rel_holds : Room := { frames := 2, cells := 0, slots := 0, locals := 44 }
set_option maxRecDepth 100000 in
set_option maxHeartbeats 4000000 in
theorem k_Rel_holds_363 {p : Program} {l : Launch} {e : Env} {s : State} {m : MethodId} {args : Array Value} {below : List Frame} {meth : Method} {c : Code} {D : va_G} {a : Nat → Nat} {q : Nat → ClassId} {A : Nat → Prop} (hC : CX p s m args meth c prog_9_method_2_code 5 "OutwardTape$Relations" (some .boolean)) (hA : ∀ x, s.heap.size ≤ x → A x) (hK : va_K D CLS (tE q) s)  {r0 : Int32} : ∀ (s0 : Int32)  (H : Heap) (locs : List Loc) (ls : Array Slot), va_P D CLS (wE a q ) H → va_D A (wE a q ) → va_S A s.heap H locs → lv_has ls 5 [] → f_Rel_holds_363  s0 = some r0 → W p l e rm_Rel_holds s m args below meth c H locs 0 0 (MQ below (va_Qi (fun (r : Int32) (_ : Unit) => r = r0) (fun _ t => va_P D CLS (wE a q ) t.heap) A) args s 0 0 A) (F0 m 363 ls [.int s0]) := by
  obtain ⟨hx, hb, hml, hown, hts, hr, hlocks⟩ := id hC
  intro s0 H locs ls hP hD hS hl h
  rw [f_Rel_holds_363] at h
  have hSz : s.heap.size ≤ H.size := hS.1
  obtain ⟨hz, h⟩ := og_of h
  obtain rfl := os_of h
  exact W.zret (v := s0) (ty := .boolean) hx hb hr (j_z_nar hz) (fun t ht hW => ⟨⟨_, (), rfl, rfl, (hPt hP ht)⟩, hS.F ht⟩) hS.2.2 (dt_at dt_Rel_holds 161 rfl)
set_option maxRecDepth 100000 in
set_option maxHeartbeats 4000000 in
theorem k_Rel_holds_358 {p : Program} {l : Launch} {e : Env} {s : State} {m : MethodId} {args : Array Value} {below : List Frame} {meth : Method} {c : Code} {D : va_G} {a : Nat → Nat} {q : Nat → ClassId} {A : Nat → Prop} (hC : CX p s m args meth c prog_9_method_2_code 5 "OutwardTape$Relations" (some .boolean)) (hA : ∀ x, s.heap.size ≤ x → A x) (hK : va_K D CLS (tE q) s)  {r0 : Int32} : ∀   (H : Heap) (locs : List Loc) (ls : Array Slot), va_P D CLS (wE a q ) H → va_D A (wE a q ) → va_S A s.heap H locs → lv_has ls 5 [] → f_Rel_holds_358   = some r0 → W p l e rm_Rel_holds s m args below meth c H locs 0 0 (MQ below (va_Qi (fun (r : Int32) (_ : Unit) => r = r0) (fun _ t => va_P D CLS (wE a q ) t.heap) A) args s 0 0 A) (F0 m 358 ls []) := by
  obtain ⟨hx, hb, hml, hown, hts, hr, hlocks⟩ := id hC
  intro H locs ls hP hD hS hl h
  rw [f_Rel_holds_358] at h
  have hSz : s.heap.size ≤ H.size := hS.1
  refine lv_iconst (v := 1) hx hb (dt_at dt_Rel_holds 158 rfl) (by decide) ?_
  refine lv_goto (tgt := 363) hx hb (dt_at dt_Rel_holds 159 rfl) (by decide) ?_
  exact k_Rel_holds_363 hC hA hK   (1 : Int32) H locs ls hP hD hS   (lv_sub hl [] rfl) h
set_option maxRecDepth 100000 in
set_option maxHeartbeats 4000000 in
theorem k_Rel_holds_329 {p : Program} {l : Launch} {e : Env} {s : State} {m : MethodId} {args : Array Value} {below : List Frame} {meth : Method} {c : Code} {D : va_G} {a : Nat → Nat} {q : Nat → ClassId} {A : Nat → Prop} (hC : CX p s m args meth c prog_9_method_2_code 5 "OutwardTape$Relations" (some .boolean)) (hA : ∀ x, s.heap.size ≤ x → A x) (hK : va_K D CLS (tE q) s)  {r0 : Int32} : ∀ (s0 : Int32)  (H : Heap) (locs : List Loc) (ls : Array Slot), va_P D CLS (wE a q ) H → va_D A (wE a q ) → va_S A s.heap H locs → lv_has ls 5 [] → f_Rel_holds_329  s0 = some r0 → W p l e rm_Rel_holds s m args below meth c H locs 0 0 (MQ below (va_Qi (fun (r : Int32) (_ : Unit) => r = r0) (fun _ t => va_P D CLS (wE a q ) t.heap) A) args s 0 0 A) (F0 m 329 ls [.int s0]) := by
  obtain ⟨hx, hb, hml, hown, hts, hr, hlocks⟩ := id hC
  intro s0 H locs ls hP hD hS hl h
  rw [f_Rel_holds_329] at h
  have hSz : s.heap.size ≤ H.size := hS.1
  obtain ⟨hz, h⟩ := og_of h
  obtain rfl := os_of h
  exact W.zret (v := s0) (ty := .boolean) hx hb hr (j_z_nar hz) (fun t ht hW => ⟨⟨_, (), rfl, rfl, (hPt hP ht)⟩, hS.F ht⟩) hS.2.2 (dt_at dt_Rel_holds 143 rfl)
set_option maxRecDepth 100000 in
set_option maxHeartbeats 4000000 in
theorem k_Rel_holds_324 {p : Program} {l : Launch} {e : Env} {s : State} {m : MethodId} {args : Array Value} {below : List Frame} {meth : Method} {c : Code} {D : va_G} {a : Nat → Nat} {q : Nat → ClassId} {A : Nat → Prop} (hC : CX p s m args meth c prog_9_method_2_code 5 "OutwardTape$Relations" (some .boolean)) (hA : ∀ x, s.heap.size ≤ x → A x) (hK : va_K D CLS (tE q) s)  {r0 : Int32} : ∀   (H : Heap) (locs : List Loc) (ls : Array Slot), va_P D CLS (wE a q ) H → va_D A (wE a q ) → va_S A s.heap H locs → lv_has ls 5 [] → f_Rel_holds_324   = some r0 → W p l e rm_Rel_holds s m args below meth c H locs 0 0 (MQ below (va_Qi (fun (r : Int32) (_ : Unit) => r = r0) (fun _ t => va_P D CLS (wE a q ) t.heap) A) args s 0 0 A) (F0 m 324 ls []) := by
  obtain ⟨hx, hb, hml, hown, hts, hr, hlocks⟩ := id hC
  intro H locs ls hP hD hS hl h
  rw [f_Rel_holds_324] at h
  have hSz : s.heap.size ≤ H.size := hS.1
  refine lv_iconst (v := 1) hx hb (dt_at dt_Rel_holds 140 rfl) (by decide) ?_
  refine lv_goto (tgt := 329) hx hb (dt_at dt_Rel_holds 141 rfl) (by decide) ?_
  exact k_Rel_holds_329 hC hA hK   (1 : Int32) H locs ls hP hD hS   (lv_sub hl [] rfl) h
set_option maxRecDepth 100000 in
set_option maxHeartbeats 4000000 in
theorem k_Rel_holds_307 {p : Program} {l : Launch} {e : Env} {s : State} {m : MethodId} {args : Array Value} {below : List Frame} {meth : Method} {c : Code} {D : va_G} {a : Nat → Nat} {q : Nat → ClassId} {A : Nat → Prop} (hC : CX p s m args meth c prog_9_method_2_code 5 "OutwardTape$Relations" (some .boolean)) (hA : ∀ x, s.heap.size ≤ x → A x) (hK : va_K D CLS (tE q) s)  {r0 : Int32} : ∀ (s0 : Int32)  (H : Heap) (locs : List Loc) (ls : Array Slot), va_P D CLS (wE a q ) H → va_D A (wE a q ) → va_S A s.heap H locs → lv_has ls 5 [] → f_Rel_holds_307  s0 = some r0 → W p l e rm_Rel_holds s m args below meth c H locs 0 0 (MQ below (va_Qi (fun (r : Int32) (_ : Unit) => r = r0) (fun _ t => va_P D CLS (wE a q ) t.heap) A) args s 0 0 A) (F0 m 307 ls [.int s0]) := by
  obtain ⟨hx, hb, hml, hown, hts, hr, hlocks⟩ := id hC
  intro s0 H locs ls hP hD hS hl h
  rw [f_Rel_holds_307] at h
  have hSz : s.heap.size ≤ H.size := hS.1
  obtain ⟨hz, h⟩ := og_of h
  obtain rfl := os_of h
  exact W.zret (v := s0) (ty := .boolean) hx hb hr (j_z_nar hz) (fun t ht hW => ⟨⟨_, (), rfl, rfl, (hPt hP ht)⟩, hS.F ht⟩) hS.2.2 (dt_at dt_Rel_holds 131 rfl)
set_option maxRecDepth 100000 in
set_option maxHeartbeats 4000000 in
theorem k_Rel_holds_306 {p : Program} {l : Launch} {e : Env} {s : State} {m : MethodId} {args : Array Value} {below : List Frame} {meth : Method} {c : Code} {D : va_G} {a : Nat → Nat} {q : Nat → ClassId} {A : Nat → Prop} (hC : CX p s m args meth c prog_9_method_2_code 5 "OutwardTape$Relations" (some .boolean)) (hA : ∀ x, s.heap.size ≤ x → A x) (hK : va_K D CLS (tE q) s)  {r0 : Int32} : ∀   (H : Heap) (locs : List Loc) (ls : Array Slot), va_P D CLS (wE a q ) H → va_D A (wE a q ) → va_S A s.heap H locs → lv_has ls 5 [] → f_Rel_holds_306   = some r0 → W p l e rm_Rel_holds s m args below meth c H locs 0 0 (MQ below (va_Qi (fun (r : Int32) (_ : Unit) => r = r0) (fun _ t => va_P D CLS (wE a q ) t.heap) A) args s 0 0 A) (F0 m 306 ls []) := by
  obtain ⟨hx, hb, hml, hown, hts, hr, hlocks⟩ := id hC
  intro H locs ls hP hD hS hl h
  rw [f_Rel_holds_306] at h
  have hSz : s.heap.size ≤ H.size := hS.1
  refine lv_iconst (v := 0) hx hb (dt_at dt_Rel_holds 130 rfl) (by decide) ?_
  exact k_Rel_holds_307 hC hA hK   (0 : Int32) H locs ls hP hD hS   (lv_sub hl [] rfl) h
set_option maxRecDepth 100000 in
set_option maxHeartbeats 4000000 in
theorem k_Rel_holds_302 {p : Program} {l : Launch} {e : Env} {s : State} {m : MethodId} {args : Array Value} {below : List Frame} {meth : Method} {c : Code} {D : va_G} {a : Nat → Nat} {q : Nat → ClassId} {A : Nat → Prop} (hC : CX p s m args meth c prog_9_method_2_code 5 "OutwardTape$Relations" (some .boolean)) (hA : ∀ x, s.heap.size ≤ x → A x) (hK : va_K D CLS (tE q) s)  {r0 : Int32} : ∀   (H : Heap) (locs : List Loc) (ls : Array Slot), va_P D CLS (wE a q ) H → va_D A (wE a q ) → va_S A s.heap H locs → lv_has ls 5 [] → f_Rel_holds_302   = some r0 → W p l e rm_Rel_holds s m args below meth c H locs 0 0 (MQ below (va_Qi (fun (r : Int32) (_ : Unit) => r = r0) (fun _ t => va_P D CLS (wE a q ) t.heap) A) args s 0 0 A) (F0 m 302 ls []) := by
  obtain ⟨hx, hb, hml, hown, hts, hr, hlocks⟩ := id hC
  intro H locs ls hP hD hS hl h
  rw [f_Rel_holds_302] at h
  have hSz : s.heap.size ≤ H.size := hS.1
  refine lv_iconst (v := 1) hx hb (dt_at dt_Rel_holds 128 rfl) (by decide) ?_
  refine lv_goto (tgt := 307) hx hb (dt_at dt_Rel_holds 129 rfl) (by decide) ?_
  exact k_Rel_holds_307 hC hA hK   (1 : Int32) H locs ls hP hD hS   (lv_sub hl [] rfl) h
set_option maxRecDepth 100000 in
set_option maxHeartbeats 4000000 in
theorem k_Rel_holds_264 {p : Program} {l : Launch} {e : Env} {s : State} {m : MethodId} {args : Array Value} {below : List Frame} {meth : Method} {c : Code} {D : va_G} {a : Nat → Nat} {q : Nat → ClassId} {A : Nat → Prop} (hC : CX p s m args meth c prog_9_method_2_code 5 "OutwardTape$Relations" (some .boolean)) (hA : ∀ x, s.heap.size ≤ x → A x) (hK : va_K D CLS (tE q) s)  {r0 : Int32} : ∀ (s0 : Int32)  (H : Heap) (locs : List Loc) (ls : Array Slot), va_P D CLS (wE a q ) H → va_D A (wE a q ) → va_S A s.heap H locs → lv_has ls 5 [] → f_Rel_holds_264  s0 = some r0 → W p l e rm_Rel_holds s m args below meth c H locs 0 0 (MQ below (va_Qi (fun (r : Int32) (_ : Unit) => r = r0) (fun _ t => va_P D CLS (wE a q ) t.heap) A) args s 0 0 A) (F0 m 264 ls [.int s0]) := by
  obtain ⟨hx, hb, hml, hown, hts, hr, hlocks⟩ := id hC
  intro s0 H locs ls hP hD hS hl h
  rw [f_Rel_holds_264] at h
  have hSz : s.heap.size ≤ H.size := hS.1
  obtain ⟨hz, h⟩ := og_of h
  obtain rfl := os_of h
  exact W.zret (v := s0) (ty := .boolean) hx hb hr (j_z_nar hz) (fun t ht hW => ⟨⟨_, (), rfl, rfl, (hPt hP ht)⟩, hS.F ht⟩) hS.2.2 (dt_at dt_Rel_holds 111 rfl)
set_option maxRecDepth 100000 in
set_option maxHeartbeats 4000000 in
theorem k_Rel_holds_259 {p : Program} {l : Launch} {e : Env} {s : State} {m : MethodId} {args : Array Value} {below : List Frame} {meth : Method} {c : Code} {D : va_G} {a : Nat → Nat} {q : Nat → ClassId} {A : Nat → Prop} (hC : CX p s m args meth c prog_9_method_2_code 5 "OutwardTape$Relations" (some .boolean)) (hA : ∀ x, s.heap.size ≤ x → A x) (hK : va_K D CLS (tE q) s)  {r0 : Int32} : ∀   (H : Heap) (locs : List Loc) (ls : Array Slot), va_P D CLS (wE a q ) H → va_D A (wE a q ) → va_S A s.heap H locs → lv_has ls 5 [] → f_Rel_holds_259   = some r0 → W p l e rm_Rel_holds s m args below meth c H locs 0 0 (MQ below (va_Qi (fun (r : Int32) (_ : Unit) => r = r0) (fun _ t => va_P D CLS (wE a q ) t.heap) A) args s 0 0 A) (F0 m 259 ls []) := by
  obtain ⟨hx, hb, hml, hown, hts, hr, hlocks⟩ := id hC
  intro H locs ls hP hD hS hl h
  rw [f_Rel_holds_259] at h
  have hSz : s.heap.size ≤ H.size := hS.1
  refine lv_iconst (v := 1) hx hb (dt_at dt_Rel_holds 108 rfl) (by decide) ?_
  refine lv_goto (tgt := 264) hx hb (dt_at dt_Rel_holds 109 rfl) (by decide) ?_
  exact k_Rel_holds_264 hC hA hK   (1 : Int32) H locs ls hP hD hS   (lv_sub hl [] rfl) h
set_option maxRecDepth 100000 in
set_option maxHeartbeats 4000000 in
theorem k_Rel_holds_242 {p : Program} {l : Launch} {e : Env} {s : State} {m : MethodId} {args : Array Value} {below : List Frame} {meth : Method} {c : Code} {D : va_G} {a : Nat → Nat} {q : Nat → ClassId} {A : Nat → Prop} (hC : CX p s m args meth c prog_9_method_2_code 5 "OutwardTape$Relations" (some .boolean)) (hA : ∀ x, s.heap.size ≤ x → A x) (hK : va_K D CLS (tE q) s)  {r0 : Int32} : ∀ (s0 : Int32)  (H : Heap) (locs : List Loc) (ls : Array Slot), va_P D CLS (wE a q ) H → va_D A (wE a q ) → va_S A s.heap H locs → lv_has ls 5 [] → f_Rel_holds_242  s0 = some r0 → W p l e rm_Rel_holds s m args below meth c H locs 0 0 (MQ below (va_Qi (fun (r : Int32) (_ : Unit) => r = r0) (fun _ t => va_P D CLS (wE a q ) t.heap) A) args s 0 0 A) (F0 m 242 ls [.int s0]) := by
  obtain ⟨hx, hb, hml, hown, hts, hr, hlocks⟩ := id hC
  intro s0 H locs ls hP hD hS hl h
  rw [f_Rel_holds_242] at h
  have hSz : s.heap.size ≤ H.size := hS.1
  obtain ⟨hz, h⟩ := og_of h
  obtain rfl := os_of h
  exact W.zret (v := s0) (ty := .boolean) hx hb hr (j_z_nar hz) (fun t ht hW => ⟨⟨_, (), rfl, rfl, (hPt hP ht)⟩, hS.F ht⟩) hS.2.2 (dt_at dt_Rel_holds 99 rfl)
set_option maxRecDepth 100000 in
set_option maxHeartbeats 4000000 in
theorem k_Rel_holds_241 {p : Program} {l : Launch} {e : Env} {s : State} {m : MethodId} {args : Array Value} {below : List Frame} {meth : Method} {c : Code} {D : va_G} {a : Nat → Nat} {q : Nat → ClassId} {A : Nat → Prop} (hC : CX p s m args meth c prog_9_method_2_code 5 "OutwardTape$Relations" (some .boolean)) (hA : ∀ x, s.heap.size ≤ x → A x) (hK : va_K D CLS (tE q) s)  {r0 : Int32} : ∀   (H : Heap) (locs : List Loc) (ls : Array Slot), va_P D CLS (wE a q ) H → va_D A (wE a q ) → va_S A s.heap H locs → lv_has ls 5 [] → f_Rel_holds_241   = some r0 → W p l e rm_Rel_holds s m args below meth c H locs 0 0 (MQ below (va_Qi (fun (r : Int32) (_ : Unit) => r = r0) (fun _ t => va_P D CLS (wE a q ) t.heap) A) args s 0 0 A) (F0 m 241 ls []) := by
  obtain ⟨hx, hb, hml, hown, hts, hr, hlocks⟩ := id hC
  intro H locs ls hP hD hS hl h
  rw [f_Rel_holds_241] at h
  have hSz : s.heap.size ≤ H.size := hS.1
  refine lv_iconst (v := 0) hx hb (dt_at dt_Rel_holds 98 rfl) (by decide) ?_
  exact k_Rel_holds_242 hC hA hK   (0 : Int32) H locs ls hP hD hS   (lv_sub hl [] rfl) h
set_option maxRecDepth 100000 in
set_option maxHeartbeats 4000000 in
theorem k_Rel_holds_237 {p : Program} {l : Launch} {e : Env} {s : State} {m : MethodId} {args : Array Value} {below : List Frame} {meth : Method} {c : Code} {D : va_G} {a : Nat → Nat} {q : Nat → ClassId} {A : Nat → Prop} (hC : CX p s m args meth c prog_9_method_2_code 5 "OutwardTape$Relations" (some .boolean)) (hA : ∀ x, s.heap.size ≤ x → A x) (hK : va_K D CLS (tE q) s)  {r0 : Int32} : ∀   (H : Heap) (locs : List Loc) (ls : Array Slot), va_P D CLS (wE a q ) H → va_D A (wE a q ) → va_S A s.heap H locs → lv_has ls 5 [] → f_Rel_holds_237   = some r0 → W p l e rm_Rel_holds s m args below meth c H locs 0 0 (MQ below (va_Qi (fun (r : Int32) (_ : Unit) => r = r0) (fun _ t => va_P D CLS (wE a q ) t.heap) A) args s 0 0 A) (F0 m 237 ls []) := by
  obtain ⟨hx, hb, hml, hown, hts, hr, hlocks⟩ := id hC
  intro H locs ls hP hD hS hl h
  rw [f_Rel_holds_237] at h
  have hSz : s.heap.size ≤ H.size := hS.1
  refine lv_iconst (v := 1) hx hb (dt_at dt_Rel_holds 96 rfl) (by decide) ?_
  refine lv_goto (tgt := 242) hx hb (dt_at dt_Rel_holds 97 rfl) (by decide) ?_
  exact k_Rel_holds_242 hC hA hK   (1 : Int32) H locs ls hP hD hS   (lv_sub hl [] rfl) h
set_option maxRecDepth 100000 in
set_option maxHeartbeats 4000000 in
theorem k_Rel_holds_203 {p : Program} {l : Launch} {e : Env} {s : State} {m : MethodId} {args : Array Value} {below : List Frame} {meth : Method} {c : Code} {D : va_G} {a : Nat → Nat} {q : Nat → ClassId} {A : Nat → Prop} (hC : CX p s m args meth c prog_9_method_2_code 5 "OutwardTape$Relations" (some .boolean)) (hA : ∀ x, s.heap.size ≤ x → A x) (hK : va_K D CLS (tE q) s)  {r0 : Int32} : ∀ (s0 : Int32)  (H : Heap) (locs : List Loc) (ls : Array Slot), va_P D CLS (wE a q ) H → va_D A (wE a q ) → va_S A s.heap H locs → lv_has ls 5 [] → f_Rel_holds_203  s0 = some r0 → W p l e rm_Rel_holds s m args below meth c H locs 0 0 (MQ below (va_Qi (fun (r : Int32) (_ : Unit) => r = r0) (fun _ t => va_P D CLS (wE a q ) t.heap) A) args s 0 0 A) (F0 m 203 ls [.int s0]) := by
  obtain ⟨hx, hb, hml, hown, hts, hr, hlocks⟩ := id hC
  intro s0 H locs ls hP hD hS hl h
  rw [f_Rel_holds_203] at h
  have hSz : s.heap.size ≤ H.size := hS.1
  obtain ⟨hz, h⟩ := og_of h
  obtain rfl := os_of h
  exact W.zret (v := s0) (ty := .boolean) hx hb hr (j_z_nar hz) (fun t ht hW => ⟨⟨_, (), rfl, rfl, (hPt hP ht)⟩, hS.F ht⟩) hS.2.2 (dt_at dt_Rel_holds 79 rfl)
set_option maxRecDepth 100000 in
set_option maxHeartbeats 4000000 in
theorem k_Rel_holds_202 {p : Program} {l : Launch} {e : Env} {s : State} {m : MethodId} {args : Array Value} {below : List Frame} {meth : Method} {c : Code} {D : va_G} {a : Nat → Nat} {q : Nat → ClassId} {A : Nat → Prop} (hC : CX p s m args meth c prog_9_method_2_code 5 "OutwardTape$Relations" (some .boolean)) (hA : ∀ x, s.heap.size ≤ x → A x) (hK : va_K D CLS (tE q) s)  {r0 : Int32} : ∀   (H : Heap) (locs : List Loc) (ls : Array Slot), va_P D CLS (wE a q ) H → va_D A (wE a q ) → va_S A s.heap H locs → lv_has ls 5 [] → f_Rel_holds_202   = some r0 → W p l e rm_Rel_holds s m args below meth c H locs 0 0 (MQ below (va_Qi (fun (r : Int32) (_ : Unit) => r = r0) (fun _ t => va_P D CLS (wE a q ) t.heap) A) args s 0 0 A) (F0 m 202 ls []) := by
  obtain ⟨hx, hb, hml, hown, hts, hr, hlocks⟩ := id hC
  intro H locs ls hP hD hS hl h
  rw [f_Rel_holds_202] at h
  have hSz : s.heap.size ≤ H.size := hS.1
  refine lv_iconst (v := 0) hx hb (dt_at dt_Rel_holds 78 rfl) (by decide) ?_
  exact k_Rel_holds_203 hC hA hK   (0 : Int32) H locs ls hP hD hS   (lv_sub hl [] rfl) h
set_option maxRecDepth 100000 in
set_option maxHeartbeats 4000000 in
theorem k_Rel_holds_198 {p : Program} {l : Launch} {e : Env} {s : State} {m : MethodId} {args : Array Value} {below : List Frame} {meth : Method} {c : Code} {D : va_G} {a : Nat → Nat} {q : Nat → ClassId} {A : Nat → Prop} (hC : CX p s m args meth c prog_9_method_2_code 5 "OutwardTape$Relations" (some .boolean)) (hA : ∀ x, s.heap.size ≤ x → A x) (hK : va_K D CLS (tE q) s)  {r0 : Int32} : ∀   (H : Heap) (locs : List Loc) (ls : Array Slot), va_P D CLS (wE a q ) H → va_D A (wE a q ) → va_S A s.heap H locs → lv_has ls 5 [] → f_Rel_holds_198   = some r0 → W p l e rm_Rel_holds s m args below meth c H locs 0 0 (MQ below (va_Qi (fun (r : Int32) (_ : Unit) => r = r0) (fun _ t => va_P D CLS (wE a q ) t.heap) A) args s 0 0 A) (F0 m 198 ls []) := by
  obtain ⟨hx, hb, hml, hown, hts, hr, hlocks⟩ := id hC
  intro H locs ls hP hD hS hl h
  rw [f_Rel_holds_198] at h
  have hSz : s.heap.size ≤ H.size := hS.1
  refine lv_iconst (v := 1) hx hb (dt_at dt_Rel_holds 76 rfl) (by decide) ?_
  refine lv_goto (tgt := 203) hx hb (dt_at dt_Rel_holds 77 rfl) (by decide) ?_
  exact k_Rel_holds_203 hC hA hK   (1 : Int32) H locs ls hP hD hS   (lv_sub hl [] rfl) h
set_option maxRecDepth 100000 in
set_option maxHeartbeats 4000000 in
theorem k_Rel_holds_158 {p : Program} {l : Launch} {e : Env} {s : State} {m : MethodId} {args : Array Value} {below : List Frame} {meth : Method} {c : Code} {D : va_G} {a : Nat → Nat} {q : Nat → ClassId} {A : Nat → Prop} (hC : CX p s m args meth c prog_9_method_2_code 5 "OutwardTape$Relations" (some .boolean)) (hA : ∀ x, s.heap.size ≤ x → A x) (hK : va_K D CLS (tE q) s)  {r0 : Int32} : ∀ (s0 : Int32)  (H : Heap) (locs : List Loc) (ls : Array Slot), va_P D CLS (wE a q ) H → va_D A (wE a q ) → va_S A s.heap H locs → lv_has ls 5 [] → f_Rel_holds_158  s0 = some r0 → W p l e rm_Rel_holds s m args below meth c H locs 0 0 (MQ below (va_Qi (fun (r : Int32) (_ : Unit) => r = r0) (fun _ t => va_P D CLS (wE a q ) t.heap) A) args s 0 0 A) (F0 m 158 ls [.int s0]) := by
  obtain ⟨hx, hb, hml, hown, hts, hr, hlocks⟩ := id hC
  intro s0 H locs ls hP hD hS hl h
  rw [f_Rel_holds_158] at h
  have hSz : s.heap.size ≤ H.size := hS.1
  obtain ⟨hz, h⟩ := og_of h
  obtain rfl := os_of h
  exact W.zret (v := s0) (ty := .boolean) hx hb hr (j_z_nar hz) (fun t ht hW => ⟨⟨_, (), rfl, rfl, (hPt hP ht)⟩, hS.F ht⟩) hS.2.2 (dt_at dt_Rel_holds 58 rfl)
set_option maxRecDepth 100000 in
set_option maxHeartbeats 4000000 in
theorem k_Rel_holds_157 {p : Program} {l : Launch} {e : Env} {s : State} {m : MethodId} {args : Array Value} {below : List Frame} {meth : Method} {c : Code} {D : va_G} {a : Nat → Nat} {q : Nat → ClassId} {A : Nat → Prop} (hC : CX p s m args meth c prog_9_method_2_code 5 "OutwardTape$Relations" (some .boolean)) (hA : ∀ x, s.heap.size ≤ x → A x) (hK : va_K D CLS (tE q) s)  {r0 : Int32} : ∀   (H : Heap) (locs : List Loc) (ls : Array Slot), va_P D CLS (wE a q ) H → va_D A (wE a q ) → va_S A s.heap H locs → lv_has ls 5 [] → f_Rel_holds_157   = some r0 → W p l e rm_Rel_holds s m args below meth c H locs 0 0 (MQ below (va_Qi (fun (r : Int32) (_ : Unit) => r = r0) (fun _ t => va_P D CLS (wE a q ) t.heap) A) args s 0 0 A) (F0 m 157 ls []) := by
  obtain ⟨hx, hb, hml, hown, hts, hr, hlocks⟩ := id hC
  intro H locs ls hP hD hS hl h
  rw [f_Rel_holds_157] at h
  have hSz : s.heap.size ≤ H.size := hS.1
  refine lv_iconst (v := 0) hx hb (dt_at dt_Rel_holds 57 rfl) (by decide) ?_
  exact k_Rel_holds_158 hC hA hK   (0 : Int32) H locs ls hP hD hS   (lv_sub hl [] rfl) h
set_option maxRecDepth 100000 in
set_option maxHeartbeats 4000000 in
theorem k_Rel_holds_153 {p : Program} {l : Launch} {e : Env} {s : State} {m : MethodId} {args : Array Value} {below : List Frame} {meth : Method} {c : Code} {D : va_G} {a : Nat → Nat} {q : Nat → ClassId} {A : Nat → Prop} (hC : CX p s m args meth c prog_9_method_2_code 5 "OutwardTape$Relations" (some .boolean)) (hA : ∀ x, s.heap.size ≤ x → A x) (hK : va_K D CLS (tE q) s)  {r0 : Int32} : ∀   (H : Heap) (locs : List Loc) (ls : Array Slot), va_P D CLS (wE a q ) H → va_D A (wE a q ) → va_S A s.heap H locs → lv_has ls 5 [] → f_Rel_holds_153   = some r0 → W p l e rm_Rel_holds s m args below meth c H locs 0 0 (MQ below (va_Qi (fun (r : Int32) (_ : Unit) => r = r0) (fun _ t => va_P D CLS (wE a q ) t.heap) A) args s 0 0 A) (F0 m 153 ls []) := by
  obtain ⟨hx, hb, hml, hown, hts, hr, hlocks⟩ := id hC
  intro H locs ls hP hD hS hl h
  rw [f_Rel_holds_153] at h
  have hSz : s.heap.size ≤ H.size := hS.1
  refine lv_iconst (v := 1) hx hb (dt_at dt_Rel_holds 55 rfl) (by decide) ?_
  refine lv_goto (tgt := 158) hx hb (dt_at dt_Rel_holds 56 rfl) (by decide) ?_
  exact k_Rel_holds_158 hC hA hK   (1 : Int32) H locs ls hP hD hS   (lv_sub hl [] rfl) h
set_option maxRecDepth 100000 in
set_option maxHeartbeats 4000000 in
theorem k_Rel_holds_117 {p : Program} {l : Launch} {e : Env} {s : State} {m : MethodId} {args : Array Value} {below : List Frame} {meth : Method} {c : Code} {D : va_G} {a : Nat → Nat} {q : Nat → ClassId} {A : Nat → Prop} (hC : CX p s m args meth c prog_9_method_2_code 5 "OutwardTape$Relations" (some .boolean)) (hA : ∀ x, s.heap.size ≤ x → A x) (hK : va_K D CLS (tE q) s)  {r0 : Int32} : ∀ (s0 : Int32)  (H : Heap) (locs : List Loc) (ls : Array Slot), va_P D CLS (wE a q ) H → va_D A (wE a q ) → va_S A s.heap H locs → lv_has ls 5 [] → f_Rel_holds_117  s0 = some r0 → W p l e rm_Rel_holds s m args below meth c H locs 0 0 (MQ below (va_Qi (fun (r : Int32) (_ : Unit) => r = r0) (fun _ t => va_P D CLS (wE a q ) t.heap) A) args s 0 0 A) (F0 m 117 ls [.int s0]) := by
  obtain ⟨hx, hb, hml, hown, hts, hr, hlocks⟩ := id hC
  intro s0 H locs ls hP hD hS hl h
  rw [f_Rel_holds_117] at h
  have hSz : s.heap.size ≤ H.size := hS.1
  obtain ⟨hz, h⟩ := og_of h
  obtain rfl := os_of h
  exact W.zret (v := s0) (ty := .boolean) hx hb hr (j_z_nar hz) (fun t ht hW => ⟨⟨_, (), rfl, rfl, (hPt hP ht)⟩, hS.F ht⟩) hS.2.2 (dt_at dt_Rel_holds 37 rfl)
set_option maxRecDepth 100000 in
set_option maxHeartbeats 4000000 in
theorem k_Rel_holds_116 {p : Program} {l : Launch} {e : Env} {s : State} {m : MethodId} {args : Array Value} {below : List Frame} {meth : Method} {c : Code} {D : va_G} {a : Nat → Nat} {q : Nat → ClassId} {A : Nat → Prop} (hC : CX p s m args meth c prog_9_method_2_code 5 "OutwardTape$Relations" (some .boolean)) (hA : ∀ x, s.heap.size ≤ x → A x) (hK : va_K D CLS (tE q) s)  {r0 : Int32} : ∀   (H : Heap) (locs : List Loc) (ls : Array Slot), va_P D CLS (wE a q ) H → va_D A (wE a q ) → va_S A s.heap H locs → lv_has ls 5 [] → f_Rel_holds_116   = some r0 → W p l e rm_Rel_holds s m args below meth c H locs 0 0 (MQ below (va_Qi (fun (r : Int32) (_ : Unit) => r = r0) (fun _ t => va_P D CLS (wE a q ) t.heap) A) args s 0 0 A) (F0 m 116 ls []) := by
  obtain ⟨hx, hb, hml, hown, hts, hr, hlocks⟩ := id hC
  intro H locs ls hP hD hS hl h
  rw [f_Rel_holds_116] at h
  have hSz : s.heap.size ≤ H.size := hS.1
  refine lv_iconst (v := 0) hx hb (dt_at dt_Rel_holds 36 rfl) (by decide) ?_
  exact k_Rel_holds_117 hC hA hK   (0 : Int32) H locs ls hP hD hS   (lv_sub hl [] rfl) h
set_option maxRecDepth 100000 in
set_option maxHeartbeats 4000000 in
theorem k_Rel_holds_39 {p : Program} {l : Launch} {e : Env} {s : State} {m : MethodId} {args : Array Value} {below : List Frame} {meth : Method} {c : Code} {D : va_G} {a : Nat → Nat} {q : Nat → ClassId} {A : Nat → Prop} (hC : CX p s m args meth c prog_9_method_2_code 5 "OutwardTape$Relations" (some .boolean)) (hA : ∀ x, s.heap.size ≤ x → A x) (hK : va_K D CLS (tE q) s)  {r0 : Int32} : ∀ (s0 : Int32) (v0 : Int32) (v1_l : Int64) (v1_h : Int64) (v1_m : Int32) (v2_l : Int64) (v2_h : Int64) (v2_m : Int32) (v3 : Int32)  (y_v1 : Nat) (y_v2 : Nat) (H : Heap) (locs : List Loc) (ls : Array Slot), va_P D CLS (wE a q ) H → va_D A (wE a q ) → va_S A s.heap H locs → isC D H y_v1 v1_l v1_h v1_m → nin (dE a) y_v1 → isC D H y_v2 v2_l v2_h v2_m → nin (dE a) y_v2 → lv_has ls 5 [(0, .int v0), (1, .ref y_v1), (2, .ref y_v2), (3, .int v3)] → f_Rel_holds_39  s0 v0 v1_l v1_h v1_m v2_l v2_h v2_m v3 = some r0 → W p l e rm_Rel_holds s m args below meth c H locs 0 0 (MQ below (va_Qi (fun (r : Int32) (_ : Unit) => r = r0) (fun _ t => va_P D CLS (wE a q ) t.heap) A) args s 0 0 A) (F0 m 39 ls [.int s0]) := by
  obtain ⟨hx, hb, hml, hown, hts, hr, hlocks⟩ := id hC
  intro s0 v0 v1_l v1_h v1_m v2_l v2_h v2_m v3 y_v1 y_v2 H locs ls hP hD hS hc_v1 hn_v1 hc_v2 hn_v2 hl h
  rw [f_Rel_holds_39] at h
  have hSz : s.heap.size ≤ H.size := hS.1
  refine lv_istore (lv' := [(4, .int s0), (0, .int v0), (1, .ref y_v1), (2, .ref y_v2), (3, .int v3)]) hx hb (dt_at dt_Rel_holds 19 rfl) hl (by decide) rfl (fun ls hl => ?_)
  refine lv_iload_n hx hb (dt_at dt_Rel_holds 20 rfl) rfl (lv_at hl 1 rfl) ?_
  by_cases c1 : v0 = (0 : Int32)
  · have h := if_p h c1
    refine lv_tableIn (off := 46) (tgt := 88) hx hb (dt_at dt_Rel_holds 21 rfl) (by rw [c1]; decide) (by rw [c1]; decide) (by rw [c1]; rfl) (by decide) ?_
    refine lv_aload_n hx hb (dt_at dt_Rel_holds 22 rfl) rfl (lv_at hl 2 rfl) ?_
    refine va_get (D := D) (ci := 4) (v := .long v1_l) (C := "OutwardTape$Cell") (T := T_Cell) (N := 3) hx hb hts in_Cell hown hK hc_v1 0 rfl rfl 0 (by decide) (hts (Cond.fieldLink "OutwardTape$Relations" 13 "OutwardTape$Cell" "low" "J") (m_2 120 rfl rfl)) (fun _ h9 => h9) rfl (dt_at dt_Rel_holds 23 rfl) ?_
    refine lv_aload_n hx hb (dt_at dt_Rel_holds 24 rfl) rfl (lv_at hl 3 rfl) ?_
    refine va_get (D := D) (ci := 4) (v := .long v2_l) (C := "OutwardTape$Cell") (T := T_Cell) (N := 3) hx hb hts in_Cell hown hK hc_v2 0 rfl rfl 0 (by decide) (hts (Cond.fieldLink "OutwardTape$Relations" 13 "OutwardTape$Cell" "low" "J") (m_2 120 rfl rfl)) (fun _ h9 => h9) rfl (dt_at dt_Rel_holds 25 rfl) ?_
    refine lc_ne (tgt := 116) hx hb (dt_at dt_Rel_holds 26 rfl) (dt_at dt_Rel_holds 27 rfl) (by decide) (fun c2 => ?_) (fun c2 => ?_)
    · have h := if_n h c2
      exact k_Rel_holds_116 hC hA hK   H locs ls hP hD hS   (lv_sub hl [] rfl) h
    · have h := if_p h c2
      refine lv_aload_n hx hb (dt_at dt_Rel_holds 28 rfl) rfl (lv_at hl 2 rfl) ?_
      refine va_get (D := D) (ci := 4) (v := .long v1_h) (C := "OutwardTape$Cell") (T := T_Cell) (N := 3) hx hb hts in_Cell hown hK hc_v1 0 rfl rfl 1 (by decide) (hts (Cond.fieldLink "OutwardTape$Relations" 17 "OutwardTape$Cell" "high" "J") (m_2 127 rfl rfl)) (fun _ h9 => h9) rfl (dt_at dt_Rel_holds 29 rfl) ?_
      refine lv_aload_n hx hb (dt_at dt_Rel_holds 30 rfl) rfl (lv_at hl 3 rfl) ?_
      refine va_get (D := D) (ci := 4) (v := .long v2_h) (C := "OutwardTape$Cell") (T := T_Cell) (N := 3) hx hb hts in_Cell hown hK hc_v2 0 rfl rfl 1 (by decide) (hts (Cond.fieldLink "OutwardTape$Relations" 17 "OutwardTape$Cell" "high" "J") (m_2 127 rfl rfl)) (fun _ h9 => h9) rfl (dt_at dt_Rel_holds 31 rfl) ?_
      refine lc_ne (tgt := 116) hx hb (dt_at dt_Rel_holds 32 rfl) (dt_at dt_Rel_holds 33 rfl) (by decide) (fun c3 => ?_) (fun c3 => ?_)
      · have h := if_n h c3
        exact k_Rel_holds_116 hC hA hK   H locs ls hP hD hS   (lv_sub hl [] rfl) h
      · have h := if_p h c3
        refine lv_iconst (v := 1) hx hb (dt_at dt_Rel_holds 34 rfl) (by decide) ?_
        refine lv_goto (tgt := 117) hx hb (dt_at dt_Rel_holds 35 rfl) (by decide) ?_
        exact k_Rel_holds_117 hC hA hK   (1 : Int32) H locs ls hP hD hS   (lv_sub hl [] rfl) h
  · have h := if_n h c1
    by_cases c4 : v0 = (1 : Int32)
    · have h := if_p h c4
      refine lv_tableIn (off := 76) (tgt := 118) hx hb (dt_at dt_Rel_holds 21 rfl) (by rw [c4]; decide) (by rw [c4]; decide) (by rw [c4]; rfl) (by decide) ?_
      refine lv_aload_n hx hb (dt_at dt_Rel_holds 38 rfl) rfl (lv_at hl 2 rfl) ?_
      obtain ⟨r5, h_r5, h⟩ := ob_of h
      have hPc : va_P D CLS (wE a q) H := fun k q h => by simp [wE] at h
      have hd : va_D (fun _ => True) (dE a) := dE_D a
      have hKc : va_K D CLS (tE q) s := hK.sub (tys' := []) [] rfl
      have hF : ∀ x, va_A (dE a) H.size x → A x := fun x h9 => h9.elim (fun ⟨k, e, h⟩ => by simp [dE] at h) (fun g => hA _ (Nat.le_trans hS.1 g))
      refine va_calli (va_runV (As := []) (rest := []) ⟨hx, hb, hml, hown, hts⟩ (c_Cell_hasNoPoint l D a q  hd H.size v1_l v1_h v1_m  y_v1 (nin_E a y_v1) r5 h_r5) (cwV 0 hts (gd_V (m_1 148 rfl rfl) (m_1 124 rfl rfl) (m_1 125 rfl rfl) (m_1 10 rfl rfl) (m_1 126 rfl rfl)) rfl rfl rfl (by decide +kernel) ⟨Nat.le_of_ble_eq_true rfl, Nat.le_of_ble_eq_true rfl⟩) ⟨fun a U g mk q => ⟨q.1, q.2.1, q.2.2.1, va_K.moved (u := U) (U := U.calling g mk a) (Vm.Alike.refl U.vm) q.2.2.2.1, q.2.2.2.2⟩, va_recv hK hc_v1 (ci := 4) (q0 := 0) rfl rfl, fun U hU hW => ⟨rfl, by rw [hU], by rw [hU]; exact hPc, va_K.moved hW.alike hKc, by rw [hU]; exact hc_v1⟩⟩ rfl rfl hl.1 rfl (lv_room (Nat.le_of_ble_eq_true rfl)) (dt_at dt_Rel_holds 39 rfl) ⟨Nat.le_of_ble_eq_true rfl, Nat.le_of_ble_eq_true rfl⟩) hS (fun x _ h9 => hF x h9) hF (fun u_r5 uu t H1 locs ht hvm hw hB hz1 hk1 hS => ?_)
      obtain rfl : r5 = u_r5 := hw.symm
      have hc_v1 := isC.keptA hc_v1 hk1 (nin_E a y_v1)
      have hc_v2 := isC.keptA hc_v2 hk1 (nin_E a y_v2)
      have hP := va_P.kept hP (fun k q hq => hk1 _ (hP k q hq).lt (not_AE (hP k q hq).lt))
      have hSz : s.heap.size ≤ H1.size := hS.1
      clear hk1 hz1 hPc hF hB ht
      generalize H1 = H at hP hS hSz hc_v1 hc_v2 ⊢
      refine lv_if_ne (tgt := 153) hx hb (dt_at dt_Rel_holds 40 rfl) (by decide) (fun c6 => ?_) (fun c6 => ?_)
      · have h := if_n h c6
        exact k_Rel_holds_153 hC hA hK   H locs ls hP hD hS   (lv_sub hl [] rfl) h
      · have h := if_p h c6
        refine lv_iload_n hx hb (dt_at dt_Rel_holds 41 rfl) rfl (lv_at hl 4 rfl) ?_
        refine lv_if_ne (tgt := 157) hx hb (dt_at dt_Rel_holds 42 rfl) (by decide) (fun c7 => ?_) (fun c7 => ?_)
        · have h := if_n h c7
          exact k_Rel_holds_157 hC hA hK   H locs ls hP hD hS   (lv_sub hl [] rfl) h
        · have h := if_p h c7
          refine lv_aload_n hx hb (dt_at dt_Rel_holds 43 rfl) rfl (lv_at hl 3 rfl) ?_
          refine va_get (D := D) (ci := 4) (v := .long v2_l) (C := "OutwardTape$Cell") (T := T_Cell) (N := 3) hx hb hts in_Cell hown hK hc_v2 0 rfl rfl 0 (by decide) (hts (Cond.fieldLink "OutwardTape$Relations" 13 "OutwardTape$Cell" "low" "J") (m_2 120 rfl rfl)) (fun _ h9 => h9) rfl (dt_at dt_Rel_holds 44 rfl) ?_
          refine lv_aload_n hx hb (dt_at dt_Rel_holds 45 rfl) rfl (lv_at hl 2 rfl) ?_
          refine va_get (D := D) (ci := 4) (v := .long v1_l) (C := "OutwardTape$Cell") (T := T_Cell) (N := 3) hx hb hts in_Cell hown hK hc_v1 0 rfl rfl 0 (by decide) (hts (Cond.fieldLink "OutwardTape$Relations" 13 "OutwardTape$Cell" "low" "J") (m_2 120 rfl rfl)) (fun _ h9 => h9) rfl (dt_at dt_Rel_holds 46 rfl) ?_
          refine lc_gt (tgt := 157) hx hb (dt_at dt_Rel_holds 47 rfl) (dt_at dt_Rel_holds 48 rfl) (by decide) (fun c8 => ?_) (fun c8 => ?_)
          · have h := if_p h c8
            exact k_Rel_holds_157 hC hA hK   H locs ls hP hD hS   (lv_sub hl [] rfl) h
          · have h := if_n h c8
            refine lv_aload_n hx hb (dt_at dt_Rel_holds 49 rfl) rfl (lv_at hl 2 rfl) ?_
            refine va_get (D := D) (ci := 4) (v := .long v1_h) (C := "OutwardTape$Cell") (T := T_Cell) (N := 3) hx hb hts in_Cell hown hK hc_v1 0 rfl rfl 1 (by decide) (hts (Cond.fieldLink "OutwardTape$Relations" 17 "OutwardTape$Cell" "high" "J") (m_2 127 rfl rfl)) (fun _ h9 => h9) rfl (dt_at dt_Rel_holds 50 rfl) ?_
            refine lv_aload_n hx hb (dt_at dt_Rel_holds 51 rfl) rfl (lv_at hl 3 rfl) ?_
            refine va_get (D := D) (ci := 4) (v := .long v2_h) (C := "OutwardTape$Cell") (T := T_Cell) (N := 3) hx hb hts in_Cell hown hK hc_v2 0 rfl rfl 1 (by decide) (hts (Cond.fieldLink "OutwardTape$Relations" 17 "OutwardTape$Cell" "high" "J") (m_2 127 rfl rfl)) (fun _ h9 => h9) rfl (dt_at dt_Rel_holds 52 rfl) ?_
            refine lc_gt (tgt := 157) hx hb (dt_at dt_Rel_holds 53 rfl) (dt_at dt_Rel_holds 54 rfl) (by decide) (fun c9 => ?_) (fun c9 => ?_)
            · have h := if_p h c9
              exact k_Rel_holds_157 hC hA hK   H locs ls hP hD hS   (lv_sub hl [] rfl) h
            · have h := if_n h c9
              exact k_Rel_holds_153 hC hA hK   H locs ls hP hD hS   (lv_sub hl [] rfl) h
    · have h := if_n h c4
      by_cases c10 : v0 = (2 : Int32)
      · have h := if_p h c10
        refine lv_tableIn (off := 117) (tgt := 159) hx hb (dt_at dt_Rel_holds 21 rfl) (by rw [c10]; decide) (by rw [c10]; decide) (by rw [c10]; rfl) (by decide) ?_
        refine lv_aload_n hx hb (dt_at dt_Rel_holds 59 rfl) rfl (lv_at hl 2 rfl) ?_
        obtain ⟨r11, h_r11, h⟩ := ob_of h
        have hPc : va_P D CLS (wE a q) H := fun k q h => by simp [wE] at h
        have hd : va_D (fun _ => True) (dE a) := dE_D a
        have hKc : va_K D CLS (tE q) s := hK.sub (tys' := []) [] rfl
        have hF : ∀ x, va_A (dE a) H.size x → A x := fun x h9 => h9.elim (fun ⟨k, e, h⟩ => by simp [dE] at h) (fun g => hA _ (Nat.le_trans hS.1 g))
        refine va_calli (va_runV (As := []) (rest := []) ⟨hx, hb, hml, hown, hts⟩ (c_Cell_hasNoPoint l D a q  hd H.size v1_l v1_h v1_m  y_v1 (nin_E a y_v1) r11 h_r11) (cwV 0 hts (gd_V (m_1 148 rfl rfl) (m_1 124 rfl rfl) (m_1 125 rfl rfl) (m_1 10 rfl rfl) (m_1 126 rfl rfl)) rfl rfl rfl (by decide +kernel) ⟨Nat.le_of_ble_eq_true rfl, Nat.le_of_ble_eq_true rfl⟩) ⟨fun a U g mk q => ⟨q.1, q.2.1, q.2.2.1, va_K.moved (u := U) (U := U.calling g mk a) (Vm.Alike.refl U.vm) q.2.2.2.1, q.2.2.2.2⟩, va_recv hK hc_v1 (ci := 4) (q0 := 0) rfl rfl, fun U hU hW => ⟨rfl, by rw [hU], by rw [hU]; exact hPc, va_K.moved hW.alike hKc, by rw [hU]; exact hc_v1⟩⟩ rfl rfl hl.1 rfl (lv_room (Nat.le_of_ble_eq_true rfl)) (dt_at dt_Rel_holds 60 rfl) ⟨Nat.le_of_ble_eq_true rfl, Nat.le_of_ble_eq_true rfl⟩) hS (fun x _ h9 => hF x h9) hF (fun u_r11 uu t H1 locs ht hvm hw hB hz1 hk1 hS => ?_)
        obtain rfl : r11 = u_r11 := hw.symm
        have hc_v1 := isC.keptA hc_v1 hk1 (nin_E a y_v1)
        have hc_v2 := isC.keptA hc_v2 hk1 (nin_E a y_v2)
        have hP := va_P.kept hP (fun k q hq => hk1 _ (hP k q hq).lt (not_AE (hP k q hq).lt))
        have hSz : s.heap.size ≤ H1.size := hS.1
        clear hk1 hz1 hPc hF hB ht
        generalize H1 = H at hP hS hSz hc_v1 hc_v2 ⊢
        refine lv_if_ne (tgt := 198) hx hb (dt_at dt_Rel_holds 61 rfl) (by decide) (fun c12 => ?_) (fun c12 => ?_)
        · have h := if_n h c12
          exact k_Rel_holds_198 hC hA hK   H locs ls hP hD hS   (lv_sub hl [] rfl) h
        · have h := if_p h c12
          refine lv_iload_n hx hb (dt_at dt_Rel_holds 62 rfl) rfl (lv_at hl 4 rfl) ?_
          refine lv_if_ne (tgt := 202) hx hb (dt_at dt_Rel_holds 63 rfl) (by decide) (fun c13 => ?_) (fun c13 => ?_)
          · have h := if_n h c13
            exact k_Rel_holds_202 hC hA hK   H locs ls hP hD hS   (lv_sub hl [] rfl) h
          · have h := if_p h c13
            refine lv_aload_n hx hb (dt_at dt_Rel_holds 64 rfl) rfl (lv_at hl 3 rfl) ?_
            refine va_get (D := D) (ci := 4) (v := .long v2_l) (C := "OutwardTape$Cell") (T := T_Cell) (N := 3) hx hb hts in_Cell hown hK hc_v2 0 rfl rfl 0 (by decide) (hts (Cond.fieldLink "OutwardTape$Relations" 13 "OutwardTape$Cell" "low" "J") (m_2 120 rfl rfl)) (fun _ h9 => h9) rfl (dt_at dt_Rel_holds 65 rfl) ?_
            refine lv_aload_n hx hb (dt_at dt_Rel_holds 66 rfl) rfl (lv_at hl 2 rfl) ?_
            refine va_get (D := D) (ci := 4) (v := .long v1_l) (C := "OutwardTape$Cell") (T := T_Cell) (N := 3) hx hb hts in_Cell hown hK hc_v1 0 rfl rfl 0 (by decide) (hts (Cond.fieldLink "OutwardTape$Relations" 13 "OutwardTape$Cell" "low" "J") (m_2 120 rfl rfl)) (fun _ h9 => h9) rfl (dt_at dt_Rel_holds 67 rfl) ?_
            obtain ⟨r14, h_r14, h⟩ := ob_of h
            refine vp_callSi (W.runS (As := [.long v2_l, .long v1_l]) (rest := []) ⟨hx, hb, hml, hown, hts⟩ (c_Rel_isBelow l v2_l v1_l r14 h_r14) (va_cwS 2 hts (gd_S (m_1 149 rfl rfl) (m_1 150 rfl rfl) (m_1 22 rfl rfl) (m_1 151 rfl rfl)) rfl rfl rfl (by decide +kernel) ⟨Nat.le_of_ble_eq_true rfl, Nat.le_of_ble_eq_true rfl⟩) ⟨fun _ _ _ _ q => q, fun U hU hW => ⟨rfl, trivial⟩⟩ rfl rfl hl.1 rfl (lv_room (Nat.le_of_ble_eq_true rfl)) (dt_at dt_Rel_holds 68 rfl) ⟨Nat.le_of_ble_eq_true rfl, Nat.le_of_ble_eq_true rfl⟩) (fun u_r14 q_r14 => ?_)
            obtain rfl : r14 = u_r14 := q_r14.symm
            refine lv_if_eq (tgt := 202) hx hb (dt_at dt_Rel_holds 69 rfl) (by decide) (fun c15 => ?_) (fun c15 => ?_)
            · have h := if_p h c15
              exact k_Rel_holds_202 hC hA hK   H locs ls hP hD hS   (lv_sub hl [] rfl) h
            · have h := if_n h c15
              refine lv_aload_n hx hb (dt_at dt_Rel_holds 70 rfl) rfl (lv_at hl 2 rfl) ?_
              refine va_get (D := D) (ci := 4) (v := .long v1_h) (C := "OutwardTape$Cell") (T := T_Cell) (N := 3) hx hb hts in_Cell hown hK hc_v1 0 rfl rfl 1 (by decide) (hts (Cond.fieldLink "OutwardTape$Relations" 17 "OutwardTape$Cell" "high" "J") (m_2 127 rfl rfl)) (fun _ h9 => h9) rfl (dt_at dt_Rel_holds 71 rfl) ?_
              refine lv_aload_n hx hb (dt_at dt_Rel_holds 72 rfl) rfl (lv_at hl 3 rfl) ?_
              refine va_get (D := D) (ci := 4) (v := .long v2_h) (C := "OutwardTape$Cell") (T := T_Cell) (N := 3) hx hb hts in_Cell hown hK hc_v2 0 rfl rfl 1 (by decide) (hts (Cond.fieldLink "OutwardTape$Relations" 17 "OutwardTape$Cell" "high" "J") (m_2 127 rfl rfl)) (fun _ h9 => h9) rfl (dt_at dt_Rel_holds 73 rfl) ?_
              obtain ⟨r16, h_r16, h⟩ := ob_of h
              refine vp_callSi (W.runS (As := [.long v1_h, .long v2_h]) (rest := []) ⟨hx, hb, hml, hown, hts⟩ (c_Rel_isBelow l v1_h v2_h r16 h_r16) (va_cwS 2 hts (gd_S (m_1 149 rfl rfl) (m_1 150 rfl rfl) (m_1 22 rfl rfl) (m_1 151 rfl rfl)) rfl rfl rfl (by decide +kernel) ⟨Nat.le_of_ble_eq_true rfl, Nat.le_of_ble_eq_true rfl⟩) ⟨fun _ _ _ _ q => q, fun U hU hW => ⟨rfl, trivial⟩⟩ rfl rfl hl.1 rfl (lv_room (Nat.le_of_ble_eq_true rfl)) (dt_at dt_Rel_holds 74 rfl) ⟨Nat.le_of_ble_eq_true rfl, Nat.le_of_ble_eq_true rfl⟩) (fun u_r16 q_r16 => ?_)
              obtain rfl : r16 = u_r16 := q_r16.symm
              refine lv_if_eq (tgt := 202) hx hb (dt_at dt_Rel_holds 75 rfl) (by decide) (fun c17 => ?_) (fun c17 => ?_)
              · have h := if_p h c17
                exact k_Rel_holds_202 hC hA hK   H locs ls hP hD hS   (lv_sub hl [] rfl) h
              · have h := if_n h c17
                exact k_Rel_holds_198 hC hA hK   H locs ls hP hD hS   (lv_sub hl [] rfl) h
      · have h := if_n h c10
        by_cases c18 : v0 = (3 : Int32)
        · have h := if_p h c18
          refine lv_tableIn (off := 162) (tgt := 204) hx hb (dt_at dt_Rel_holds 21 rfl) (by rw [c18]; decide) (by rw [c18]; decide) (by rw [c18]; rfl) (by decide) ?_
          refine lv_iload hx hb (dt_at dt_Rel_holds 80 rfl) (lv_at hl 0 rfl) ?_
          refine lv_if_ne (tgt := 237) hx hb (dt_at dt_Rel_holds 81 rfl) (by decide) (fun c19 => ?_) (fun c19 => ?_)
          · have h := if_n h c19
            exact k_Rel_holds_237 hC hA hK   H locs ls hP hD hS   (lv_sub hl [] rfl) h
          · have h := if_p h c19
            refine lv_iload_n hx hb (dt_at dt_Rel_holds 82 rfl) rfl (lv_at hl 4 rfl) ?_
            refine lv_if_ne (tgt := 241) hx hb (dt_at dt_Rel_holds 83 rfl) (by decide) (fun c20 => ?_) (fun c20 => ?_)
            · have h := if_n h c20
              exact k_Rel_holds_241 hC hA hK   H locs ls hP hD hS   (lv_sub hl [] rfl) h
            · have h := if_p h c20
              refine lv_aload_n hx hb (dt_at dt_Rel_holds 84 rfl) rfl (lv_at hl 2 rfl) ?_
              refine va_get (D := D) (ci := 4) (v := .long v1_l) (C := "OutwardTape$Cell") (T := T_Cell) (N := 3) hx hb hts in_Cell hown hK hc_v1 0 rfl rfl 0 (by decide) (hts (Cond.fieldLink "OutwardTape$Relations" 13 "OutwardTape$Cell" "low" "J") (m_2 120 rfl rfl)) (fun _ h9 => h9) rfl (dt_at dt_Rel_holds 85 rfl) ?_
              refine lv_aload_n hx hb (dt_at dt_Rel_holds 86 rfl) rfl (lv_at hl 3 rfl) ?_
              refine va_get (D := D) (ci := 4) (v := .long v2_l) (C := "OutwardTape$Cell") (T := T_Cell) (N := 3) hx hb hts in_Cell hown hK hc_v2 0 rfl rfl 0 (by decide) (hts (Cond.fieldLink "OutwardTape$Relations" 13 "OutwardTape$Cell" "low" "J") (m_2 120 rfl rfl)) (fun _ h9 => h9) rfl (dt_at dt_Rel_holds 87 rfl) ?_
              refine lc_gt (tgt := 241) hx hb (dt_at dt_Rel_holds 88 rfl) (dt_at dt_Rel_holds 89 rfl) (by decide) (fun c21 => ?_) (fun c21 => ?_)
              · have h := if_p h c21
                exact k_Rel_holds_241 hC hA hK   H locs ls hP hD hS   (lv_sub hl [] rfl) h
              · have h := if_n h c21
                refine lv_aload_n hx hb (dt_at dt_Rel_holds 90 rfl) rfl (lv_at hl 2 rfl) ?_
                refine va_get (D := D) (ci := 4) (v := .long v1_h) (C := "OutwardTape$Cell") (T := T_Cell) (N := 3) hx hb hts in_Cell hown hK hc_v1 0 rfl rfl 1 (by decide) (hts (Cond.fieldLink "OutwardTape$Relations" 17 "OutwardTape$Cell" "high" "J") (m_2 127 rfl rfl)) (fun _ h9 => h9) rfl (dt_at dt_Rel_holds 91 rfl) ?_
                refine lv_aload_n hx hb (dt_at dt_Rel_holds 92 rfl) rfl (lv_at hl 3 rfl) ?_
                refine va_get (D := D) (ci := 4) (v := .long v2_h) (C := "OutwardTape$Cell") (T := T_Cell) (N := 3) hx hb hts in_Cell hown hK hc_v2 0 rfl rfl 1 (by decide) (hts (Cond.fieldLink "OutwardTape$Relations" 17 "OutwardTape$Cell" "high" "J") (m_2 127 rfl rfl)) (fun _ h9 => h9) rfl (dt_at dt_Rel_holds 93 rfl) ?_
                refine lc_gt (tgt := 241) hx hb (dt_at dt_Rel_holds 94 rfl) (dt_at dt_Rel_holds 95 rfl) (by decide) (fun c22 => ?_) (fun c22 => ?_)
                · have h := if_p h c22
                  exact k_Rel_holds_241 hC hA hK   H locs ls hP hD hS   (lv_sub hl [] rfl) h
                · have h := if_n h c22
                  exact k_Rel_holds_237 hC hA hK   H locs ls hP hD hS   (lv_sub hl [] rfl) h
        · have h := if_n h c18
          by_cases c23 : v0 = (4 : Int32)
          · have h := if_p h c23
            refine lv_tableIn (off := 201) (tgt := 243) hx hb (dt_at dt_Rel_holds 21 rfl) (by rw [c23]; decide) (by rw [c23]; decide) (by rw [c23]; rfl) (by decide) ?_
            refine lv_iload_n hx hb (dt_at dt_Rel_holds 100 rfl) rfl (lv_at hl 4 rfl) ?_
            refine lv_if_ne (tgt := 259) hx hb (dt_at dt_Rel_holds 101 rfl) (by decide) (fun c24 => ?_) (fun c24 => ?_)
            · have h := if_n h c24
              exact k_Rel_holds_259 hC hA hK   H locs ls hP hD hS   (lv_sub hl [] rfl) h
            · have h := if_p h c24
              refine lv_aload_n hx hb (dt_at dt_Rel_holds 102 rfl) rfl (lv_at hl 2 rfl) ?_
              refine va_get (D := D) (ci := 4) (v := .long v1_h) (C := "OutwardTape$Cell") (T := T_Cell) (N := 3) hx hb hts in_Cell hown hK hc_v1 0 rfl rfl 1 (by decide) (hts (Cond.fieldLink "OutwardTape$Relations" 17 "OutwardTape$Cell" "high" "J") (m_2 127 rfl rfl)) (fun _ h9 => h9) rfl (dt_at dt_Rel_holds 103 rfl) ?_
              refine lv_aload_n hx hb (dt_at dt_Rel_holds 104 rfl) rfl (lv_at hl 3 rfl) ?_
              refine va_get (D := D) (ci := 4) (v := .long v2_l) (C := "OutwardTape$Cell") (T := T_Cell) (N := 3) hx hb hts in_Cell hown hK hc_v2 0 rfl rfl 0 (by decide) (hts (Cond.fieldLink "OutwardTape$Relations" 13 "OutwardTape$Cell" "low" "J") (m_2 120 rfl rfl)) (fun _ h9 => h9) rfl (dt_at dt_Rel_holds 105 rfl) ?_
              refine lc_gt (tgt := 263) hx hb (dt_at dt_Rel_holds 106 rfl) (dt_at dt_Rel_holds 107 rfl) (by decide) (fun c25 => ?_) (fun c25 => ?_)
              · have h := if_p h c25
                refine lv_iconst (v := 0) hx hb (dt_at dt_Rel_holds 110 rfl) (by decide) ?_
                exact k_Rel_holds_264 hC hA hK   (0 : Int32) H locs ls hP hD hS   (lv_sub hl [] rfl) h
              · have h := if_n h c25
                exact k_Rel_holds_259 hC hA hK   H locs ls hP hD hS   (lv_sub hl [] rfl) h
          · have h := if_n h c23
            by_cases c26 : v0 = (5 : Int32)
            · have h := if_p h c26
              refine lv_tableIn (off := 223) (tgt := 265) hx hb (dt_at dt_Rel_holds 21 rfl) (by rw [c26]; decide) (by rw [c26]; decide) (by rw [c26]; rfl) (by decide) ?_
              refine lv_iload hx hb (dt_at dt_Rel_holds 112 rfl) (lv_at hl 0 rfl) ?_
              refine lv_if_ne (tgt := 302) hx hb (dt_at dt_Rel_holds 113 rfl) (by decide) (fun c27 => ?_) (fun c27 => ?_)
              · have h := if_n h c27
                exact k_Rel_holds_302 hC hA hK   H locs ls hP hD hS   (lv_sub hl [] rfl) h
              · have h := if_p h c27
                refine lv_iload_n hx hb (dt_at dt_Rel_holds 114 rfl) rfl (lv_at hl 4 rfl) ?_
                refine lv_if_ne (tgt := 306) hx hb (dt_at dt_Rel_holds 115 rfl) (by decide) (fun c28 => ?_) (fun c28 => ?_)
                · have h := if_n h c28
                  exact k_Rel_holds_306 hC hA hK   H locs ls hP hD hS   (lv_sub hl [] rfl) h
                · have h := if_p h c28
                  refine lv_aload_n hx hb (dt_at dt_Rel_holds 116 rfl) rfl (lv_at hl 2 rfl) ?_
                  refine va_get (D := D) (ci := 4) (v := .long v1_l) (C := "OutwardTape$Cell") (T := T_Cell) (N := 3) hx hb hts in_Cell hown hK hc_v1 0 rfl rfl 0 (by decide) (hts (Cond.fieldLink "OutwardTape$Relations" 13 "OutwardTape$Cell" "low" "J") (m_2 120 rfl rfl)) (fun _ h9 => h9) rfl (dt_at dt_Rel_holds 117 rfl) ?_
                  refine lv_aload_n hx hb (dt_at dt_Rel_holds 118 rfl) rfl (lv_at hl 3 rfl) ?_
                  refine va_get (D := D) (ci := 4) (v := .long v2_l) (C := "OutwardTape$Cell") (T := T_Cell) (N := 3) hx hb hts in_Cell hown hK hc_v2 0 rfl rfl 0 (by decide) (hts (Cond.fieldLink "OutwardTape$Relations" 13 "OutwardTape$Cell" "low" "J") (m_2 120 rfl rfl)) (fun _ h9 => h9) rfl (dt_at dt_Rel_holds 119 rfl) ?_
                  obtain ⟨r29, h_r29, h⟩ := ob_of h
                  refine vp_callSi (W.runS (As := [.long v1_l, .long v2_l]) (rest := []) ⟨hx, hb, hml, hown, hts⟩ (c_Rel_isBelow l v1_l v2_l r29 h_r29) (va_cwS 2 hts (gd_S (m_1 149 rfl rfl) (m_1 150 rfl rfl) (m_1 22 rfl rfl) (m_1 151 rfl rfl)) rfl rfl rfl (by decide +kernel) ⟨Nat.le_of_ble_eq_true rfl, Nat.le_of_ble_eq_true rfl⟩) ⟨fun _ _ _ _ q => q, fun U hU hW => ⟨rfl, trivial⟩⟩ rfl rfl hl.1 rfl (lv_room (Nat.le_of_ble_eq_true rfl)) (dt_at dt_Rel_holds 120 rfl) ⟨Nat.le_of_ble_eq_true rfl, Nat.le_of_ble_eq_true rfl⟩) (fun u_r29 q_r29 => ?_)
                  obtain rfl : r29 = u_r29 := q_r29.symm
                  refine lv_if_eq (tgt := 306) hx hb (dt_at dt_Rel_holds 121 rfl) (by decide) (fun c30 => ?_) (fun c30 => ?_)
                  · have h := if_p h c30
                    exact k_Rel_holds_306 hC hA hK   H locs ls hP hD hS   (lv_sub hl [] rfl) h
                  · have h := if_n h c30
                    refine lv_aload_n hx hb (dt_at dt_Rel_holds 122 rfl) rfl (lv_at hl 2 rfl) ?_
                    refine va_get (D := D) (ci := 4) (v := .long v1_h) (C := "OutwardTape$Cell") (T := T_Cell) (N := 3) hx hb hts in_Cell hown hK hc_v1 0 rfl rfl 1 (by decide) (hts (Cond.fieldLink "OutwardTape$Relations" 17 "OutwardTape$Cell" "high" "J") (m_2 127 rfl rfl)) (fun _ h9 => h9) rfl (dt_at dt_Rel_holds 123 rfl) ?_
                    refine lv_aload_n hx hb (dt_at dt_Rel_holds 124 rfl) rfl (lv_at hl 3 rfl) ?_
                    refine va_get (D := D) (ci := 4) (v := .long v2_h) (C := "OutwardTape$Cell") (T := T_Cell) (N := 3) hx hb hts in_Cell hown hK hc_v2 0 rfl rfl 1 (by decide) (hts (Cond.fieldLink "OutwardTape$Relations" 17 "OutwardTape$Cell" "high" "J") (m_2 127 rfl rfl)) (fun _ h9 => h9) rfl (dt_at dt_Rel_holds 125 rfl) ?_
                    obtain ⟨r31, h_r31, h⟩ := ob_of h
                    refine vp_callSi (W.runS (As := [.long v1_h, .long v2_h]) (rest := []) ⟨hx, hb, hml, hown, hts⟩ (c_Rel_isBelow l v1_h v2_h r31 h_r31) (va_cwS 2 hts (gd_S (m_1 149 rfl rfl) (m_1 150 rfl rfl) (m_1 22 rfl rfl) (m_1 151 rfl rfl)) rfl rfl rfl (by decide +kernel) ⟨Nat.le_of_ble_eq_true rfl, Nat.le_of_ble_eq_true rfl⟩) ⟨fun _ _ _ _ q => q, fun U hU hW => ⟨rfl, trivial⟩⟩ rfl rfl hl.1 rfl (lv_room (Nat.le_of_ble_eq_true rfl)) (dt_at dt_Rel_holds 126 rfl) ⟨Nat.le_of_ble_eq_true rfl, Nat.le_of_ble_eq_true rfl⟩) (fun u_r31 q_r31 => ?_)
                    obtain rfl : r31 = u_r31 := q_r31.symm
                    refine lv_if_eq (tgt := 306) hx hb (dt_at dt_Rel_holds 127 rfl) (by decide) (fun c32 => ?_) (fun c32 => ?_)
                    · have h := if_p h c32
                      exact k_Rel_holds_306 hC hA hK   H locs ls hP hD hS   (lv_sub hl [] rfl) h
                    · have h := if_n h c32
                      exact k_Rel_holds_302 hC hA hK   H locs ls hP hD hS   (lv_sub hl [] rfl) h
            · have h := if_n h c26
              by_cases c33 : v0 = (6 : Int32)
              · have h := if_p h c33
                refine lv_tableIn (off := 266) (tgt := 308) hx hb (dt_at dt_Rel_holds 21 rfl) (by rw [c33]; decide) (by rw [c33]; decide) (by rw [c33]; rfl) (by decide) ?_
                refine lv_iload_n hx hb (dt_at dt_Rel_holds 132 rfl) rfl (lv_at hl 4 rfl) ?_
                refine lv_if_ne (tgt := 324) hx hb (dt_at dt_Rel_holds 133 rfl) (by decide) (fun c34 => ?_) (fun c34 => ?_)
                · have h := if_n h c34
                  exact k_Rel_holds_324 hC hA hK   H locs ls hP hD hS   (lv_sub hl [] rfl) h
                · have h := if_p h c34
                  refine lv_aload_n hx hb (dt_at dt_Rel_holds 134 rfl) rfl (lv_at hl 2 rfl) ?_
                  refine va_get (D := D) (ci := 4) (v := .long v1_h) (C := "OutwardTape$Cell") (T := T_Cell) (N := 3) hx hb hts in_Cell hown hK hc_v1 0 rfl rfl 1 (by decide) (hts (Cond.fieldLink "OutwardTape$Relations" 17 "OutwardTape$Cell" "high" "J") (m_2 127 rfl rfl)) (fun _ h9 => h9) rfl (dt_at dt_Rel_holds 135 rfl) ?_
                  refine lv_aload_n hx hb (dt_at dt_Rel_holds 136 rfl) rfl (lv_at hl 3 rfl) ?_
                  refine va_get (D := D) (ci := 4) (v := .long v2_l) (C := "OutwardTape$Cell") (T := T_Cell) (N := 3) hx hb hts in_Cell hown hK hc_v2 0 rfl rfl 0 (by decide) (hts (Cond.fieldLink "OutwardTape$Relations" 13 "OutwardTape$Cell" "low" "J") (m_2 120 rfl rfl)) (fun _ h9 => h9) rfl (dt_at dt_Rel_holds 137 rfl) ?_
                  refine lc_ge (tgt := 328) hx hb (dt_at dt_Rel_holds 138 rfl) (dt_at dt_Rel_holds 139 rfl) (by decide) (fun c35 => ?_) (fun c35 => ?_)
                  · have h := if_p h c35
                    refine lv_iconst (v := 0) hx hb (dt_at dt_Rel_holds 142 rfl) (by decide) ?_
                    exact k_Rel_holds_329 hC hA hK   (0 : Int32) H locs ls hP hD hS   (lv_sub hl [] rfl) h
                  · have h := if_n h c35
                    exact k_Rel_holds_324 hC hA hK   H locs ls hP hD hS   (lv_sub hl [] rfl) h
              · have h := if_n h c33
                by_cases c36 : v0 = (7 : Int32)
                · have h := if_p h c36
                  refine lv_tableIn (off := 288) (tgt := 330) hx hb (dt_at dt_Rel_holds 21 rfl) (by rw [c36]; decide) (by rw [c36]; decide) (by rw [c36]; rfl) (by decide) ?_
                  refine lv_iload_n hx hb (dt_at dt_Rel_holds 144 rfl) rfl (lv_at hl 4 rfl) ?_
                  refine lv_if_ne (tgt := 358) hx hb (dt_at dt_Rel_holds 145 rfl) (by decide) (fun c37 => ?_) (fun c37 => ?_)
                  · have h := if_n h c37
                    exact k_Rel_holds_358 hC hA hK   H locs ls hP hD hS   (lv_sub hl [] rfl) h
                  · have h := if_p h c37
                    refine lv_aload_n hx hb (dt_at dt_Rel_holds 146 rfl) rfl (lv_at hl 2 rfl) ?_
                    refine va_get (D := D) (ci := 4) (v := .long v1_h) (C := "OutwardTape$Cell") (T := T_Cell) (N := 3) hx hb hts in_Cell hown hK hc_v1 0 rfl rfl 1 (by decide) (hts (Cond.fieldLink "OutwardTape$Relations" 17 "OutwardTape$Cell" "high" "J") (m_2 127 rfl rfl)) (fun _ h9 => h9) rfl (dt_at dt_Rel_holds 147 rfl) ?_
                    refine lv_aload_n hx hb (dt_at dt_Rel_holds 148 rfl) rfl (lv_at hl 3 rfl) ?_
                    refine va_get (D := D) (ci := 4) (v := .long v2_l) (C := "OutwardTape$Cell") (T := T_Cell) (N := 3) hx hb hts in_Cell hown hK hc_v2 0 rfl rfl 0 (by decide) (hts (Cond.fieldLink "OutwardTape$Relations" 13 "OutwardTape$Cell" "low" "J") (m_2 120 rfl rfl)) (fun _ h9 => h9) rfl (dt_at dt_Rel_holds 149 rfl) ?_
                    refine lc_lt (tgt := 358) hx hb (dt_at dt_Rel_holds 150 rfl) (dt_at dt_Rel_holds 151 rfl) (by decide) (fun c38 => ?_) (fun c38 => ?_)
                    · have h := if_p h c38
                      exact k_Rel_holds_358 hC hA hK   H locs ls hP hD hS   (lv_sub hl [] rfl) h
                    · have h := if_n h c38
                      refine lv_aload_n hx hb (dt_at dt_Rel_holds 152 rfl) rfl (lv_at hl 3 rfl) ?_
                      refine va_get (D := D) (ci := 4) (v := .long v2_h) (C := "OutwardTape$Cell") (T := T_Cell) (N := 3) hx hb hts in_Cell hown hK hc_v2 0 rfl rfl 1 (by decide) (hts (Cond.fieldLink "OutwardTape$Relations" 17 "OutwardTape$Cell" "high" "J") (m_2 127 rfl rfl)) (fun _ h9 => h9) rfl (dt_at dt_Rel_holds 153 rfl) ?_
                      refine lv_aload_n hx hb (dt_at dt_Rel_holds 154 rfl) rfl (lv_at hl 2 rfl) ?_
                      refine va_get (D := D) (ci := 4) (v := .long v1_l) (C := "OutwardTape$Cell") (T := T_Cell) (N := 3) hx hb hts in_Cell hown hK hc_v1 0 rfl rfl 0 (by decide) (hts (Cond.fieldLink "OutwardTape$Relations" 13 "OutwardTape$Cell" "low" "J") (m_2 120 rfl rfl)) (fun _ h9 => h9) rfl (dt_at dt_Rel_holds 155 rfl) ?_
                      refine lc_ge (tgt := 362) hx hb (dt_at dt_Rel_holds 156 rfl) (dt_at dt_Rel_holds 157 rfl) (by decide) (fun c39 => ?_) (fun c39 => ?_)
                      · have h := if_p h c39
                        refine lv_iconst (v := 0) hx hb (dt_at dt_Rel_holds 160 rfl) (by decide) ?_
                        exact k_Rel_holds_363 hC hA hK   (0 : Int32) H locs ls hP hD hS   (lv_sub hl [] rfl) h
                      · have h := if_n h c39
                        exact k_Rel_holds_358 hC hA hK   H locs ls hP hD hS   (lv_sub hl [] rfl) h
                · have h := if_n h c36
                  have ho : (v0 : Int32).toInt < 0 ∨ 7 < (v0 : Int32).toInt := by
                    have n_c1 := ne_i c1 (show (0 : Int32).toInt = 0 by decide)
                    have n_c4 := ne_i c4 (show (1 : Int32).toInt = 1 by decide)
                    have n_c10 := ne_i c10 (show (2 : Int32).toInt = 2 by decide)
                    have n_c18 := ne_i c18 (show (3 : Int32).toInt = 3 by decide)
                    have n_c23 := ne_i c23 (show (4 : Int32).toInt = 4 by decide)
                    have n_c26 := ne_i c26 (show (5 : Int32).toInt = 5 by decide)
                    have n_c33 := ne_i c33 (show (6 : Int32).toInt = 6 by decide)
                    have n_c36 := ne_i c36 (show (7 : Int32).toInt = 7 by decide)
                    omega
                  refine lv_tableOut (tgt := 364) hx hb (dt_at dt_Rel_holds 21 rfl) ho (by decide) ?_
                  refine lv_iconst (v := 0) hx hb (dt_at dt_Rel_holds 162 rfl) (by decide) ?_
                  obtain rfl := os_of h
                  exact W.zret (v := (0 : Int32)) (ty := .boolean) hx hb hr (by decide) (fun t ht hW => ⟨⟨_, (), rfl, rfl, (hPt hP ht)⟩, hS.F ht⟩) hS.2.2 (dt_at dt_Rel_holds 163 rfl)
set_option maxRecDepth 100000 in
set_option maxHeartbeats 4000000 in
theorem k_Rel_holds_38 {p : Program} {l : Launch} {e : Env} {s : State} {m : MethodId} {args : Array Value} {below : List Frame} {meth : Method} {c : Code} {D : va_G} {a : Nat → Nat} {q : Nat → ClassId} {A : Nat → Prop} (hC : CX p s m args meth c prog_9_method_2_code 5 "OutwardTape$Relations" (some .boolean)) (hA : ∀ x, s.heap.size ≤ x → A x) (hK : va_K D CLS (tE q) s)  {r0 : Int32} : ∀ (v0 : Int32) (v1_l : Int64) (v1_h : Int64) (v1_m : Int32) (v2_l : Int64) (v2_h : Int64) (v2_m : Int32) (v3 : Int32)  (y_v1 : Nat) (y_v2 : Nat) (H : Heap) (locs : List Loc) (ls : Array Slot), va_P D CLS (wE a q ) H → va_D A (wE a q ) → va_S A s.heap H locs → isC D H y_v1 v1_l v1_h v1_m → nin (dE a) y_v1 → isC D H y_v2 v2_l v2_h v2_m → nin (dE a) y_v2 → lv_has ls 5 [(0, .int v0), (1, .ref y_v1), (2, .ref y_v2), (3, .int v3)] → f_Rel_holds_38  v0 v1_l v1_h v1_m v2_l v2_h v2_m v3 = some r0 → W p l e rm_Rel_holds s m args below meth c H locs 0 0 (MQ below (va_Qi (fun (r : Int32) (_ : Unit) => r = r0) (fun _ t => va_P D CLS (wE a q ) t.heap) A) args s 0 0 A) (F0 m 38 ls []) := by
  obtain ⟨hx, hb, hml, hown, hts, hr, hlocks⟩ := id hC
  intro v0 v1_l v1_h v1_m v2_l v2_h v2_m v3 y_v1 y_v2 H locs ls hP hD hS hc_v1 hn_v1 hc_v2 hn_v2 hl h
  rw [f_Rel_holds_38] at h
  have hSz : s.heap.size ≤ H.size := hS.1
  refine lv_iconst (v := 0) hx hb (dt_at dt_Rel_holds 18 rfl) (by decide) ?_
  exact k_Rel_holds_39 hC hA hK   (0 : Int32) v0 v1_l v1_h v1_m v2_l v2_h v2_m v3 y_v1 y_v2 H locs ls hP hD hS  hc_v1 hn_v1 hc_v2 hn_v2 (lv_sub hl [0, 1, 2, 3] rfl) h
set_option maxRecDepth 100000 in
set_option maxHeartbeats 4000000 in
theorem k_Rel_holds_19 {p : Program} {l : Launch} {e : Env} {s : State} {m : MethodId} {args : Array Value} {below : List Frame} {meth : Method} {c : Code} {D : va_G} {a : Nat → Nat} {q : Nat → ClassId} {A : Nat → Prop} (hC : CX p s m args meth c prog_9_method_2_code 5 "OutwardTape$Relations" (some .boolean)) (hA : ∀ x, s.heap.size ≤ x → A x) (hK : va_K D CLS (tE q) s)  {r0 : Int32} : ∀ (s0 : Int32) (v0 : Int32) (v1_l : Int64) (v1_h : Int64) (v1_m : Int32) (v2_l : Int64) (v2_h : Int64) (v2_m : Int32)  (y_v1 : Nat) (y_v2 : Nat) (H : Heap) (locs : List Loc) (ls : Array Slot), va_P D CLS (wE a q ) H → va_D A (wE a q ) → va_S A s.heap H locs → isC D H y_v1 v1_l v1_h v1_m → nin (dE a) y_v1 → isC D H y_v2 v2_l v2_h v2_m → nin (dE a) y_v2 → lv_has ls 5 [(0, .int v0), (1, .ref y_v1), (2, .ref y_v2)] → f_Rel_holds_19  s0 v0 v1_l v1_h v1_m v2_l v2_h v2_m = some r0 → W p l e rm_Rel_holds s m args below meth c H locs 0 0 (MQ below (va_Qi (fun (r : Int32) (_ : Unit) => r = r0) (fun _ t => va_P D CLS (wE a q ) t.heap) A) args s 0 0 A) (F0 m 19 ls [.int s0]) := by
  obtain ⟨hx, hb, hml, hown, hts, hr, hlocks⟩ := id hC
  intro s0 v0 v1_l v1_h v1_m v2_l v2_h v2_m y_v1 y_v2 H locs ls hP hD hS hc_v1 hn_v1 hc_v2 hn_v2 hl h
  rw [f_Rel_holds_19] at h
  have hSz : s.heap.size ≤ H.size := hS.1
  refine lv_istore_n (lv' := [(3, .int s0), (0, .int v0), (1, .ref y_v1), (2, .ref y_v2)]) hx hb (dt_at dt_Rel_holds 9 rfl) rfl hl (by decide) rfl (fun ls hl => ?_)
  refine lv_aload_n hx hb (dt_at dt_Rel_holds 10 rfl) rfl (lv_at hl 2 rfl) ?_
  obtain ⟨r1, h_r1, h⟩ := ob_of h
  have hPc : va_P D CLS (wE a q) H := fun k q h => by simp [wE] at h
  have hd : va_D (fun _ => True) (dE a) := dE_D a
  have hKc : va_K D CLS (tE q) s := hK.sub (tys' := []) [] rfl
  have hF : ∀ x, va_A (dE a) H.size x → A x := fun x h9 => h9.elim (fun ⟨k, e, h⟩ => by simp [dE] at h) (fun g => hA _ (Nat.le_trans hS.1 g))
  refine va_calli (va_runV (As := []) (rest := []) ⟨hx, hb, hml, hown, hts⟩ (c_Cell_hasNoPoint l D a q  hd H.size v1_l v1_h v1_m  y_v1 (nin_E a y_v1) r1 h_r1) (cwV 0 hts (gd_V (m_1 148 rfl rfl) (m_1 124 rfl rfl) (m_1 125 rfl rfl) (m_1 10 rfl rfl) (m_1 126 rfl rfl)) rfl rfl rfl (by decide +kernel) ⟨Nat.le_of_ble_eq_true rfl, Nat.le_of_ble_eq_true rfl⟩) ⟨fun a U g mk q => ⟨q.1, q.2.1, q.2.2.1, va_K.moved (u := U) (U := U.calling g mk a) (Vm.Alike.refl U.vm) q.2.2.2.1, q.2.2.2.2⟩, va_recv hK hc_v1 (ci := 4) (q0 := 0) rfl rfl, fun U hU hW => ⟨rfl, by rw [hU], by rw [hU]; exact hPc, va_K.moved hW.alike hKc, by rw [hU]; exact hc_v1⟩⟩ rfl rfl hl.1 rfl (lv_room (Nat.le_of_ble_eq_true rfl)) (dt_at dt_Rel_holds 11 rfl) ⟨Nat.le_of_ble_eq_true rfl, Nat.le_of_ble_eq_true rfl⟩) hS (fun x _ h9 => hF x h9) hF (fun u_r1 uu t H1 locs ht hvm hw hB hz1 hk1 hS => ?_)
  obtain rfl : r1 = u_r1 := hw.symm
  have hc_v1 := isC.keptA hc_v1 hk1 (nin_E a y_v1)
  have hc_v2 := isC.keptA hc_v2 hk1 (nin_E a y_v2)
  have hP := va_P.kept hP (fun k q hq => hk1 _ (hP k q hq).lt (not_AE (hP k q hq).lt))
  have hSz : s.heap.size ≤ H1.size := hS.1
  clear hk1 hz1 hPc hF hB ht
  generalize H1 = H at hP hS hSz hc_v1 hc_v2 ⊢
  refine lv_if_eq (tgt := 38) hx hb (dt_at dt_Rel_holds 12 rfl) (by decide) (fun c2 => ?_) (fun c2 => ?_)
  · have h := if_p h c2
    exact k_Rel_holds_38 hC hA hK   v0 v1_l v1_h v1_m v2_l v2_h v2_m s0 y_v1 y_v2 H locs ls hP hD hS  hc_v1 hn_v1 hc_v2 hn_v2 (lv_sub hl [1, 2, 3, 0] rfl) h
  · have h := if_n h c2
    refine lv_aload_n hx hb (dt_at dt_Rel_holds 13 rfl) rfl (lv_at hl 3 rfl) ?_
    obtain ⟨r3, h_r3, h⟩ := ob_of h
    have hPc : va_P D CLS (wE a q) H := fun k q h => by simp [wE] at h
    have hd : va_D (fun _ => True) (dE a) := dE_D a
    have hKc : va_K D CLS (tE q) s := hK.sub (tys' := []) [] rfl
    have hF : ∀ x, va_A (dE a) H.size x → A x := fun x h9 => h9.elim (fun ⟨k, e, h⟩ => by simp [dE] at h) (fun g => hA _ (Nat.le_trans hS.1 g))
    refine va_calli (va_runV (As := []) (rest := []) ⟨hx, hb, hml, hown, hts⟩ (c_Cell_hasNoPoint l D a q  hd H.size v2_l v2_h v2_m  y_v2 (nin_E a y_v2) r3 h_r3) (cwV 0 hts (gd_V (m_1 148 rfl rfl) (m_1 124 rfl rfl) (m_1 125 rfl rfl) (m_1 10 rfl rfl) (m_1 126 rfl rfl)) rfl rfl rfl (by decide +kernel) ⟨Nat.le_of_ble_eq_true rfl, Nat.le_of_ble_eq_true rfl⟩) ⟨fun a U g mk q => ⟨q.1, q.2.1, q.2.2.1, va_K.moved (u := U) (U := U.calling g mk a) (Vm.Alike.refl U.vm) q.2.2.2.1, q.2.2.2.2⟩, va_recv hK hc_v2 (ci := 4) (q0 := 0) rfl rfl, fun U hU hW => ⟨rfl, by rw [hU], by rw [hU]; exact hPc, va_K.moved hW.alike hKc, by rw [hU]; exact hc_v2⟩⟩ rfl rfl hl.1 rfl (lv_room (Nat.le_of_ble_eq_true rfl)) (dt_at dt_Rel_holds 14 rfl) ⟨Nat.le_of_ble_eq_true rfl, Nat.le_of_ble_eq_true rfl⟩) hS (fun x _ h9 => hF x h9) hF (fun u_r3 uu t H1 locs ht hvm hw hB hz1 hk1 hS => ?_)
    obtain rfl : r3 = u_r3 := hw.symm
    have hc_v1 := isC.keptA hc_v1 hk1 (nin_E a y_v1)
    have hc_v2 := isC.keptA hc_v2 hk1 (nin_E a y_v2)
    have hP := va_P.kept hP (fun k q hq => hk1 _ (hP k q hq).lt (not_AE (hP k q hq).lt))
    have hSz : s.heap.size ≤ H1.size := hS.1
    clear hk1 hz1 hPc hF hB ht
    generalize H1 = H at hP hS hSz hc_v1 hc_v2 ⊢
    refine lv_if_eq (tgt := 38) hx hb (dt_at dt_Rel_holds 15 rfl) (by decide) (fun c4 => ?_) (fun c4 => ?_)
    · have h := if_p h c4
      exact k_Rel_holds_38 hC hA hK   v0 v1_l v1_h v1_m v2_l v2_h v2_m s0 y_v1 y_v2 H locs ls hP hD hS  hc_v1 hn_v1 hc_v2 hn_v2 (lv_sub hl [1, 2, 3, 0] rfl) h
    · have h := if_n h c4
      refine lv_iconst (v := 1) hx hb (dt_at dt_Rel_holds 16 rfl) (by decide) ?_
      refine lv_goto (tgt := 39) hx hb (dt_at dt_Rel_holds 17 rfl) (by decide) ?_
      exact k_Rel_holds_39 hC hA hK   (1 : Int32) v0 v1_l v1_h v1_m v2_l v2_h v2_m s0 y_v1 y_v2 H locs ls hP hD hS  hc_v1 hn_v1 hc_v2 hn_v2 (lv_sub hl [1, 2, 3, 0] rfl) h
set_option maxRecDepth 100000 in
set_option maxHeartbeats 4000000 in
theorem k_Rel_holds_14 {p : Program} {l : Launch} {e : Env} {s : State} {m : MethodId} {args : Array Value} {below : List Frame} {meth : Method} {c : Code} {D : va_G} {a : Nat → Nat} {q : Nat → ClassId} {A : Nat → Prop} (hC : CX p s m args meth c prog_9_method_2_code 5 "OutwardTape$Relations" (some .boolean)) (hA : ∀ x, s.heap.size ≤ x → A x) (hK : va_K D CLS (tE q) s)  {r0 : Int32} : ∀ (v0 : Int32) (v1_l : Int64) (v1_h : Int64) (v1_m : Int32) (v2_l : Int64) (v2_h : Int64) (v2_m : Int32)  (y_v1 : Nat) (y_v2 : Nat) (H : Heap) (locs : List Loc) (ls : Array Slot), va_P D CLS (wE a q ) H → va_D A (wE a q ) → va_S A s.heap H locs → isC D H y_v1 v1_l v1_h v1_m → nin (dE a) y_v1 → isC D H y_v2 v2_l v2_h v2_m → nin (dE a) y_v2 → lv_has ls 5 [(0, .int v0), (1, .ref y_v1), (2, .ref y_v2)] → f_Rel_holds_14  v0 v1_l v1_h v1_m v2_l v2_h v2_m = some r0 → W p l e rm_Rel_holds s m args below meth c H locs 0 0 (MQ below (va_Qi (fun (r : Int32) (_ : Unit) => r = r0) (fun _ t => va_P D CLS (wE a q ) t.heap) A) args s 0 0 A) (F0 m 14 ls []) := by
  obtain ⟨hx, hb, hml, hown, hts, hr, hlocks⟩ := id hC
  intro v0 v1_l v1_h v1_m v2_l v2_h v2_m y_v1 y_v2 H locs ls hP hD hS hc_v1 hn_v1 hc_v2 hn_v2 hl h
  rw [f_Rel_holds_14] at h
  have hSz : s.heap.size ≤ H.size := hS.1
  refine lv_iconst (v := 1) hx hb (dt_at dt_Rel_holds 6 rfl) (by decide) ?_
  refine lv_goto (tgt := 19) hx hb (dt_at dt_Rel_holds 7 rfl) (by decide) ?_
  exact k_Rel_holds_19 hC hA hK   (1 : Int32) v0 v1_l v1_h v1_m v2_l v2_h v2_m y_v1 y_v2 H locs ls hP hD hS  hc_v1 hn_v1 hc_v2 hn_v2 (lv_sub hl [0, 1, 2] rfl) h
set_option maxRecDepth 100000 in
set_option maxHeartbeats 4000000 in
theorem k_Rel_holds_0 {p : Program} {l : Launch} {e : Env} {s : State} {m : MethodId} {args : Array Value} {below : List Frame} {meth : Method} {c : Code} {D : va_G} {a : Nat → Nat} {q : Nat → ClassId} {A : Nat → Prop} (hC : CX p s m args meth c prog_9_method_2_code 5 "OutwardTape$Relations" (some .boolean)) (hA : ∀ x, s.heap.size ≤ x → A x) (hK : va_K D CLS (tE q) s)  {r0 : Int32} : ∀ (v0 : Int32) (v1_l : Int64) (v1_h : Int64) (v1_m : Int32) (v2_l : Int64) (v2_h : Int64) (v2_m : Int32)  (y_v1 : Nat) (y_v2 : Nat) (H : Heap) (locs : List Loc) (ls : Array Slot), va_P D CLS (wE a q ) H → va_D A (wE a q ) → va_S A s.heap H locs → isC D H y_v1 v1_l v1_h v1_m → nin (dE a) y_v1 → isC D H y_v2 v2_l v2_h v2_m → nin (dE a) y_v2 → lv_has ls 5 [(0, .int v0), (1, .ref y_v1), (2, .ref y_v2)] → f_Rel_holds_0  v0 v1_l v1_h v1_m v2_l v2_h v2_m = some r0 → W p l e rm_Rel_holds s m args below meth c H locs 0 0 (MQ below (va_Qi (fun (r : Int32) (_ : Unit) => r = r0) (fun _ t => va_P D CLS (wE a q ) t.heap) A) args s 0 0 A) (F0 m 0 ls []) := by
  obtain ⟨hx, hb, hml, hown, hts, hr, hlocks⟩ := id hC
  intro v0 v1_l v1_h v1_m v2_l v2_h v2_m y_v1 y_v2 H locs ls hP hD hS hc_v1 hn_v1 hc_v2 hn_v2 hl h
  rw [f_Rel_holds_0] at h
  have hSz : s.heap.size ≤ H.size := hS.1
  refine lv_aload_n hx hb (dt_at dt_Rel_holds 0 rfl) rfl (lv_at hl 1 rfl) ?_
  obtain ⟨r1, h_r1, h⟩ := ob_of h
  have hPc : va_P D CLS (wE a q) H := fun k q h => by simp [wE] at h
  have hd : va_D (fun _ => True) (dE a) := dE_D a
  have hKc : va_K D CLS (tE q) s := hK.sub (tys' := []) [] rfl
  have hF : ∀ x, va_A (dE a) H.size x → A x := fun x h9 => h9.elim (fun ⟨k, e, h⟩ => by simp [dE] at h) (fun g => hA _ (Nat.le_trans hS.1 g))
  refine va_calli (va_runV (As := []) (rest := []) ⟨hx, hb, hml, hown, hts⟩ (c_Cell_hasNoPoint l D a q  hd H.size v1_l v1_h v1_m  y_v1 (nin_E a y_v1) r1 h_r1) (cwV 0 hts (gd_V (m_1 148 rfl rfl) (m_1 124 rfl rfl) (m_1 125 rfl rfl) (m_1 10 rfl rfl) (m_1 126 rfl rfl)) rfl rfl rfl (by decide +kernel) ⟨Nat.le_of_ble_eq_true rfl, Nat.le_of_ble_eq_true rfl⟩) ⟨fun a U g mk q => ⟨q.1, q.2.1, q.2.2.1, va_K.moved (u := U) (U := U.calling g mk a) (Vm.Alike.refl U.vm) q.2.2.2.1, q.2.2.2.2⟩, va_recv hK hc_v1 (ci := 4) (q0 := 0) rfl rfl, fun U hU hW => ⟨rfl, by rw [hU], by rw [hU]; exact hPc, va_K.moved hW.alike hKc, by rw [hU]; exact hc_v1⟩⟩ rfl rfl hl.1 rfl (lv_room (Nat.le_of_ble_eq_true rfl)) (dt_at dt_Rel_holds 1 rfl) ⟨Nat.le_of_ble_eq_true rfl, Nat.le_of_ble_eq_true rfl⟩) hS (fun x _ h9 => hF x h9) hF (fun u_r1 uu t H1 locs ht hvm hw hB hz1 hk1 hS => ?_)
  obtain rfl : r1 = u_r1 := hw.symm
  have hc_v1 := isC.keptA hc_v1 hk1 (nin_E a y_v1)
  have hc_v2 := isC.keptA hc_v2 hk1 (nin_E a y_v2)
  have hP := va_P.kept hP (fun k q hq => hk1 _ (hP k q hq).lt (not_AE (hP k q hq).lt))
  have hSz : s.heap.size ≤ H1.size := hS.1
  clear hk1 hz1 hPc hF hB ht
  generalize H1 = H at hP hS hSz hc_v1 hc_v2 ⊢
  refine lv_if_ne (tgt := 14) hx hb (dt_at dt_Rel_holds 2 rfl) (by decide) (fun c2 => ?_) (fun c2 => ?_)
  · have h := if_n h c2
    exact k_Rel_holds_14 hC hA hK   v0 v1_l v1_h v1_m v2_l v2_h v2_m y_v1 y_v2 H locs ls hP hD hS  hc_v1 hn_v1 hc_v2 hn_v2 (lv_sub hl [0, 1, 2] rfl) h
  · have h := if_p h c2
    refine lv_aload_n hx hb (dt_at dt_Rel_holds 3 rfl) rfl (lv_at hl 2 rfl) ?_
    obtain ⟨r3, h_r3, h⟩ := ob_of h
    have hPc : va_P D CLS (wE a q) H := fun k q h => by simp [wE] at h
    have hd : va_D (fun _ => True) (dE a) := dE_D a
    have hKc : va_K D CLS (tE q) s := hK.sub (tys' := []) [] rfl
    have hF : ∀ x, va_A (dE a) H.size x → A x := fun x h9 => h9.elim (fun ⟨k, e, h⟩ => by simp [dE] at h) (fun g => hA _ (Nat.le_trans hS.1 g))
    refine va_calli (va_runV (As := []) (rest := []) ⟨hx, hb, hml, hown, hts⟩ (c_Cell_hasNoPoint l D a q  hd H.size v2_l v2_h v2_m  y_v2 (nin_E a y_v2) r3 h_r3) (cwV 0 hts (gd_V (m_1 148 rfl rfl) (m_1 124 rfl rfl) (m_1 125 rfl rfl) (m_1 10 rfl rfl) (m_1 126 rfl rfl)) rfl rfl rfl (by decide +kernel) ⟨Nat.le_of_ble_eq_true rfl, Nat.le_of_ble_eq_true rfl⟩) ⟨fun a U g mk q => ⟨q.1, q.2.1, q.2.2.1, va_K.moved (u := U) (U := U.calling g mk a) (Vm.Alike.refl U.vm) q.2.2.2.1, q.2.2.2.2⟩, va_recv hK hc_v2 (ci := 4) (q0 := 0) rfl rfl, fun U hU hW => ⟨rfl, by rw [hU], by rw [hU]; exact hPc, va_K.moved hW.alike hKc, by rw [hU]; exact hc_v2⟩⟩ rfl rfl hl.1 rfl (lv_room (Nat.le_of_ble_eq_true rfl)) (dt_at dt_Rel_holds 4 rfl) ⟨Nat.le_of_ble_eq_true rfl, Nat.le_of_ble_eq_true rfl⟩) hS (fun x _ h9 => hF x h9) hF (fun u_r3 uu t H1 locs ht hvm hw hB hz1 hk1 hS => ?_)
    obtain rfl : r3 = u_r3 := hw.symm
    have hc_v1 := isC.keptA hc_v1 hk1 (nin_E a y_v1)
    have hc_v2 := isC.keptA hc_v2 hk1 (nin_E a y_v2)
    have hP := va_P.kept hP (fun k q hq => hk1 _ (hP k q hq).lt (not_AE (hP k q hq).lt))
    have hSz : s.heap.size ≤ H1.size := hS.1
    clear hk1 hz1 hPc hF hB ht
    generalize H1 = H at hP hS hSz hc_v1 hc_v2 ⊢
    refine lv_if_eq (tgt := 18) hx hb (dt_at dt_Rel_holds 5 rfl) (by decide) (fun c4 => ?_) (fun c4 => ?_)
    · have h := if_p h c4
      refine lv_iconst (v := 0) hx hb (dt_at dt_Rel_holds 8 rfl) (by decide) ?_
      exact k_Rel_holds_19 hC hA hK   (0 : Int32) v0 v1_l v1_h v1_m v2_l v2_h v2_m y_v1 y_v2 H locs ls hP hD hS  hc_v1 hn_v1 hc_v2 hn_v2 (lv_sub hl [0, 1, 2] rfl) h
    · have h := if_n h c4
      exact k_Rel_holds_14 hC hA hK   v0 v1_l v1_h v1_m v2_l v2_h v2_m y_v1 y_v2 H locs ls hP hD hS  hc_v1 hn_v1 hc_v2 hn_v2 (lv_sub hl [0, 1, 2] rfl) h
set_option maxRecDepth 100000 in
set_option maxHeartbeats 4000000 in
theorem c_Rel_holds (l : Launch) (D : va_G) (a : Nat → Nat) (q : Nat → ClassId) (hd : va_D (fun _ => True) (dE a)) (sz : Nat) (a0 : Int32) (a1_l : Int64) (a1_h : Int64) (a1_m : Int32) (a2_l : Int64) (a2_h : Int64) (a2_m : Int32)  (y_a1 : Nat) (y_a2 : Nat) (hn_a1 : nin (dE a) y_a1) (hn_a2 : nin (dE a) y_a2) (r0 : Int32) (h : f_Rel_holds a0 a1_l a1_h a1_m a2_l a2_h a2_m = some r0) : Met l (⟨"OutwardTape$Relations", "holds", "(ILOutwardTape$Cell;LOutwardTape$Cell;)Z"⟩ : MethodName) (WSm (⟨"OutwardTape$Relations", "holds", "(ILOutwardTape$Cell;LOutwardTape$Cell;)Z"⟩ : MethodName) prog_9_method_2_code 5 (some .boolean)) rm_Rel_holds (va_Pc [.int a0, .ref y_a1, .ref y_a2] (fun U => U.heap.size = sz ∧ va_P D CLS (wE a q ) U.heap ∧ va_K D CLS (tE q) U ∧ isC D U.heap y_a1 a1_l a1_h a1_m ∧ isC D U.heap y_a2 a2_l a2_h a2_m)) (va_Qi (fun (r : Int32) (_ : Unit) => r = r0) (fun _ t => va_P D CLS (wE a q ) t.heap) (va_A (dE a) sz)) 0 0 (va_A (dE a) sz) := by
  refine Met.ofW (cc := prog_9_method_2_code) (maxL := 5) (ret := (some .boolean)) (by decide) rfl ?_
  intro p e s m args below meth c s₁ B hml hv
  obtain ⟨rfl, hsz, hP, hK, hc_a1, hc_a2⟩ := hv
  subst hsz
  have hC := CX.of B hml rfl
  have hl := lv_entry [.int a0, .ref y_a1, .ref y_a2] (n := 5) (Nat.le_of_ble_eq_true rfl)
  rw [lg_entry_eq]
  generalize (lg_sl [.int a0, .ref y_a1, .ref y_a2] ++ List.replicate (5 - (lg_sl [.int a0, .ref y_a1, .ref y_a2]).length) Slot.unset).toArray = ls at hl ⊢
  have hl : lv_has ls 5 [(0, .int a0), (1, .ref y_a1), (2, .ref y_a2)] := hl
  exact k_Rel_holds_0  hC (fun x h => Or.inr h) hK a0 a1_l a1_h a1_m a2_l a2_h a2_m   y_a1 y_a2 s.heap [] ls hP (dD hd.self rfl) va_S.rf  hc_a1  hn_a1 hc_a2  hn_a2  (lv_sub hl [0, 1, 2] rfl) h
abbrev rm_Rd_marked : Room := { frames := 4, cells := 2, slots := 6, locals := 82 }
set_option maxRecDepth 100000 in
set_option maxHeartbeats 4000000 in
theorem k_Rd_marked_27 {p : Program} {l : Launch} {e : Env} {s : State} {m : MethodId} {args : Array Value} {below : List Frame} {meth : Method} {c : Code} {D : va_G} {a : Nat → Nat} {q : Nat → ClassId} {PL : List Nat} {A : Nat → Prop} (hC : CX p s m args meth c prog_5_method_4_code 2 "OutwardTape$LiteralReader" (some (.object "OutwardTape$Cell"))) (hA : ∀ x, s.heap.size ≤ x → A x) (hK : va_K D CLS (tE q) s)  {r0 : Int64 × Int64 × Int32} : ∀ (s0_l : Int64) (s0_h : Int64) (s0_m : Int32)  (y_s0 : Nat) (H : Heap) (locs : List Loc) (ls : Array Slot), va_P D CLS (wE a q ) H → va_D A (wE a q ) → va_S A s.heap H locs → isC D H y_s0 s0_l s0_h s0_m → (s.heap.size ≤ y_s0 ∨ y_s0 ∈ PL) → nin (dE a) y_s0 → lv_has ls 2 [] → f_Rd_marked_27  s0_l s0_h s0_m = some r0 → W p l e rm_Rd_marked s m args below meth c H locs 1 3 (MQ below (va_Qr (fun _ : Unit => True) (fun _ ra t => (va_P D CLS (wE a q ) t.heap) ∧ isC D t.heap ra r0.1 r0.2.1 r0.2.2 ∧ (s.heap.size ≤ ra ∨ ra ∈ PL)) A) args s 2 6 A) (F0 m 27 ls [.ref y_s0]) := by
  obtain ⟨hx, hb, hml, hown, hts, hr, hlocks⟩ := id hC
  intro s0_l s0_h s0_m y_s0 H locs ls hP hD hS hc_s0 hf_s0 hn_s0 hl h
  rw [f_Rd_marked_27] at h
  have hSz : s.heap.size ≤ H.size := hS.1
  obtain rfl := os_of h
  refine W.widen (k := 2) (n := 6) (Nat.le_of_ble_eq_true rfl) (Nat.le_of_ble_eq_true rfl) ?_
  exact W.aret hx hb hr (Or.inl ⟨_, rfl⟩) (Or.inr ⟨_, rfl⟩) (fun t ht hW => ⟨⟨(), y_s0, rfl, trivial, (hPt hP ht), hPt hc_s0 ht, hf_s0⟩, hS.F ht⟩) hS.2.2 (dt_at dt_Rd_marked 13 rfl)
set_option maxRecDepth 100000 in
set_option maxHeartbeats 4000000 in
theorem k_Rd_marked_0 {p : Program} {l : Launch} {e : Env} {s : State} {m : MethodId} {args : Array Value} {below : List Frame} {meth : Method} {c : Code} {D : va_G} {a : Nat → Nat} {q : Nat → ClassId} {PL : List Nat} {A : Nat → Prop} (hC : CX p s m args meth c prog_5_method_4_code 2 "OutwardTape$LiteralReader" (some (.object "OutwardTape$Cell"))) (hA : ∀ x, s.heap.size ≤ x → A x) (hK : va_K D CLS (tE q) s)  {r0 : Int64 × Int64 × Int32} : ∀ (v0_l : Int64) (v0_h : Int64) (v0_m : Int32) (v1 : Int32)  (y_v0 : Nat) (H : Heap) (locs : List Loc) (ls : Array Slot), va_P D CLS (wE a q ) H → va_D A (wE a q ) → va_S A s.heap H locs → isC D H y_v0 v0_l v0_h v0_m → (s.heap.size ≤ y_v0 ∨ y_v0 ∈ PL) → nin (dE a) y_v0 → lv_has ls 2 [(0, .ref y_v0), (1, .int v1)] → f_Rd_marked_0  v0_l v0_h v0_m v1 = some r0 → W p l e rm_Rd_marked s m args below meth c H locs 0 0 (MQ below (va_Qr (fun _ : Unit => True) (fun _ ra t => (va_P D CLS (wE a q ) t.heap) ∧ isC D t.heap ra r0.1 r0.2.1 r0.2.2 ∧ (s.heap.size ≤ ra ∨ ra ∈ PL)) A) args s 2 6 A) (F0 m 0 ls []) := by
  obtain ⟨hx, hb, hml, hown, hts, hr, hlocks⟩ := id hC
  intro v0_l v0_h v0_m v1 y_v0 H locs ls hP hD hS hc_v0 hf_v0 hn_v0 hl h
  rw [f_Rd_marked_0] at h
  have hSz : s.heap.size ≤ H.size := hS.1
  refine lv_iload_n hx hb (dt_at dt_Rd_marked 0 rfl) rfl (lv_at hl 1 rfl) ?_
  refine lv_if_ne (tgt := 8) hx hb (dt_at dt_Rd_marked 1 rfl) (by decide) (fun c1 => ?_) (fun c1 => ?_)
  · have h := if_n h c1
    refine lv_aload_n hx hb (dt_at dt_Rd_marked 4 rfl) rfl (lv_at hl 0 rfl) ?_
    obtain ⟨r2, h_r2, h⟩ := ob_of h
    have hPc : va_P D CLS (wE a q) H := fun k q h => by simp [wE] at h
    have hd : va_D (fun _ => True) (dE a) := dE_D a
    have hKc : va_K D CLS (tE q) s := hK.sub (tys' := []) [] rfl
    have hF : ∀ x, va_A (dE a) H.size x → A x := fun x h9 => h9.elim (fun ⟨k, e, h⟩ => by simp [dE] at h) (fun g => hA _ (Nat.le_trans hS.1 g))
    refine va_calli (va_runV (As := []) (rest := []) ⟨hx, hb, hml, hown, hts⟩ (c_Cell_hasNoPoint l D a q  hd H.size v0_l v0_h v0_m  y_v0 (nin_E a y_v0) r2 h_r2) (cwV 0 hts (gd_V (m_3 63 rfl rfl) (m_1 124 rfl rfl) (m_1 125 rfl rfl) (m_1 10 rfl rfl) (m_1 126 rfl rfl)) rfl rfl rfl (by decide +kernel) ⟨Nat.le_of_ble_eq_true rfl, Nat.le_of_ble_eq_true rfl⟩) ⟨fun a U g mk q => ⟨q.1, q.2.1, q.2.2.1, va_K.moved (u := U) (U := U.calling g mk a) (Vm.Alike.refl U.vm) q.2.2.2.1, q.2.2.2.2⟩, va_recv hK hc_v0 (ci := 4) (q0 := 0) rfl rfl, fun U hU hW => ⟨rfl, by rw [hU], by rw [hU]; exact hPc, va_K.moved hW.alike hKc, by rw [hU]; exact hc_v0⟩⟩ rfl rfl hl.1 rfl (lv_room (Nat.le_of_ble_eq_true rfl)) (dt_at dt_Rd_marked 5 rfl) ⟨Nat.le_of_ble_eq_true rfl, Nat.le_of_ble_eq_true rfl⟩) hS (fun x _ h9 => hF x h9) hF (fun u_r2 uu t H1 locs ht hvm hw hB hz1 hk1 hS => ?_)
    obtain rfl : r2 = u_r2 := hw.symm
    have hc_v0 := isC.keptA hc_v0 hk1 (nin_E a y_v0)
    have hP := va_P.kept hP (fun k q hq => hk1 _ (hP k q hq).lt (not_AE (hP k q hq).lt))
    have hSz : s.heap.size ≤ H1.size := hS.1
    clear hk1 hz1 hPc hF hB ht
    generalize H1 = H at hP hS hSz hc_v0 ⊢
    refine lv_if_eq (tgt := 28) hx hb (dt_at dt_Rd_marked 6 rfl) (by decide) (fun c3 => ?_) (fun c3 => ?_)
    · have h := if_p h c3
      refine lv_aload_n hx hb (dt_at dt_Rd_marked 14 rfl) rfl (lv_at hl 0 rfl) ?_
      refine va_get (D := D) (ci := 4) (v := .long v0_l) (C := "OutwardTape$Cell") (T := T_Cell) (N := 3) hx hb hts in_Cell hown hK hc_v0 0 rfl rfl 0 (by decide) (hts (Cond.fieldLink "OutwardTape$LiteralReader" 80 "OutwardTape$Cell" "low" "J") (m_2 122 rfl rfl)) (fun _ h9 => h9) rfl (dt_at dt_Rd_marked 15 rfl) ?_
      refine lv_aload_n hx hb (dt_at dt_Rd_marked 16 rfl) rfl (lv_at hl 0 rfl) ?_
      refine va_get (D := D) (ci := 4) (v := .long v0_h) (C := "OutwardTape$Cell") (T := T_Cell) (N := 3) hx hb hts in_Cell hown hK hc_v0 0 rfl rfl 1 (by decide) (hts (Cond.fieldLink "OutwardTape$LiteralReader" 84 "OutwardTape$Cell" "high" "J") (m_2 129 rfl rfl)) (fun _ h9 => h9) rfl (dt_at dt_Rd_marked 17 rfl) ?_
      refine lv_iload_n hx hb (dt_at dt_Rd_marked 18 rfl) rfl (lv_at hl 1 rfl) ?_
      obtain ⟨r4, h_r4, h⟩ := ob_of h
      have hPc : va_P D CLS (wE a q) H := fun k q h => by simp [wE] at h
      have hd : va_D (fun _ => True) (dE a) := dE_D a
      have hKc : va_K D CLS (tE q) s := hK.sub (tys' := []) [] rfl
      have hF : ∀ x, va_A (dE a) H.size x → A x := fun x h9 => h9.elim (fun ⟨k, e, h⟩ => by simp [dE] at h) (fun g => hA _ (Nat.le_trans hS.1 g))
      refine va_callr (va_runS (As := [.long v0_l, .long v0_h, .int v1]) (rest := []) ⟨hx, hb, hml, hown, hts⟩ (c_Cell_between l D a q  hd H.size v0_l v0_h v1    r4 h_r4) (va_cwS 3 hts (gd_S (m_3 64 rfl rfl) (m_3 65 rfl rfl) (m_1 10 rfl rfl) (m_3 66 rfl rfl)) rfl rfl rfl (by decide +kernel) ⟨Nat.le_of_ble_eq_true rfl, Nat.le_of_ble_eq_true rfl⟩) ⟨fun a U g mk q => ⟨q.1, q.2.1, q.2.2.1, va_K.moved (u := U) (U := U.calling g mk a) (Vm.Alike.refl U.vm) q.2.2.2⟩, fun U hU hW => ⟨rfl, by rw [hU], by rw [hU]; exact hPc, va_K.moved hW.alike hKc⟩⟩ rfl rfl hl.1 rfl (lv_room (Nat.le_of_ble_eq_true rfl)) (dt_at dt_Rd_marked 19 rfl) ⟨Nat.le_of_ble_eq_true rfl, Nat.le_of_ble_eq_true rfl⟩) hS (fun x _ h9 => hF x h9) hF (fun uu y_r4 t H1 locs ht hvm hw hB hz1 hk1 hS => ?_)
      obtain ⟨hB, hc_r4, hq_r4⟩ := hB
      rw [ht] at hc_r4
      have hn_r4 : nin (dE a) y_r4 := nin_cases hq_r4 (fun g9 => nin_big hP g9 rfl) (fun g9 => by simp at g9)
      have hf_r4 : s.heap.size ≤ y_r4 ∨ y_r4 ∈ PL := nin_cases hq_r4 (fun g9 => Or.inl (Nat.le_trans hSz g9)) (fun g9 => by simp at g9)
      clear hq_r4
      have hc_v0 := isC.keptA hc_v0 hk1 (nin_E a y_v0)
      have hP := va_P.kept hP (fun k q hq => hk1 _ (hP k q hq).lt (not_AE (hP k q hq).lt))
      refine W.widen (k := 2) (n := 6) (Nat.le_of_ble_eq_true rfl) (Nat.le_of_ble_eq_true rfl) ?_
      have hSz : s.heap.size ≤ H1.size := hS.1
      clear hk1 hz1 hPc hF hB ht
      generalize H1 = H at hP hS hSz hc_v0 hc_r4 ⊢
      obtain rfl := os_of h
      exact W.aret hx hb hr (Or.inl ⟨_, rfl⟩) (Or.inr ⟨_, rfl⟩) (fun t ht hW => ⟨⟨(), y_r4, rfl, trivial, (hPt hP ht), hPt hc_r4 ht, hf_r4⟩, hS.F ht⟩) hS.2.2 (dt_at dt_Rd_marked 20 rfl)
    · have h := if_n h c3
      refine lv_iload_n hx hb (dt_at dt_Rd_marked 7 rfl) rfl (lv_at hl 1 rfl) ?_
      refine lv_iconst (v := 1) hx hb (dt_at dt_Rd_marked 8 rfl) (by decide) ?_
      refine lv_icmp_ne (tgt := 24) hx hb (dt_at dt_Rd_marked 9 rfl) (by decide) (fun c5 => ?_) (fun c5 => ?_)
      · have h := if_n h c5
        obtain ⟨r6, h_r6, h⟩ := ob_of h
        have hPc : va_P D CLS (wE a q) H := fun k q h => by simp [wE] at h
        have hd : va_D (fun _ => True) (dE a) := dE_D a
        have hKc : va_K D CLS (tE q) s := hK.sub (tys' := []) [] rfl
        have hF : ∀ x, va_A (dE a) H.size x → A x := fun x h9 => h9.elim (fun ⟨k, e, h⟩ => by simp [dE] at h) (fun g => hA _ (Nat.le_trans hS.1 g))
        refine va_callr (va_runS (As := []) (rest := []) ⟨hx, hb, hml, hown, hts⟩ (c_Cell_ill l D a q  hd H.size     r6 h_r6) (va_cwS 0 hts (gd_S (m_2 108 rfl rfl) (m_2 109 rfl rfl) (m_1 10 rfl rfl) (m_2 110 rfl rfl)) rfl rfl rfl (by decide +kernel) ⟨Nat.le_of_ble_eq_true rfl, Nat.le_of_ble_eq_true rfl⟩) ⟨fun a U g mk q => ⟨q.1, q.2.1, q.2.2.1, va_K.moved (u := U) (U := U.calling g mk a) (Vm.Alike.refl U.vm) q.2.2.2⟩, fun U hU hW => ⟨rfl, by rw [hU], by rw [hU]; exact hPc, va_K.moved hW.alike hKc⟩⟩ rfl rfl hl.1 rfl (lv_room (Nat.le_of_ble_eq_true rfl)) (dt_at dt_Rd_marked 12 rfl) ⟨Nat.le_of_ble_eq_true rfl, Nat.le_of_ble_eq_true rfl⟩) hS (fun x _ h9 => hF x h9) hF (fun uu y_r6 t H1 locs ht hvm hw hB hz1 hk1 hS => ?_)
        obtain ⟨hB, hc_r6, hq_r6⟩ := hB
        rw [ht] at hc_r6
        have hn_r6 : nin (dE a) y_r6 := nin_cases hq_r6 (fun g9 => nin_big hP g9 rfl) (fun g9 => by simp at g9)
        have hf_r6 : s.heap.size ≤ y_r6 ∨ y_r6 ∈ PL := nin_cases hq_r6 (fun g9 => Or.inl (Nat.le_trans hSz g9)) (fun g9 => by simp at g9)
        clear hq_r6
        have hc_v0 := isC.keptA hc_v0 hk1 (nin_E a y_v0)
        have hP := va_P.kept hP (fun k q hq => hk1 _ (hP k q hq).lt (not_AE (hP k q hq).lt))
        refine W.widen (k := 1) (n := 3) (Nat.le_of_ble_eq_true rfl) (Nat.le_of_ble_eq_true rfl) ?_
        have hSz : s.heap.size ≤ H1.size := hS.1
        clear hk1 hz1 hPc hF hB ht
        generalize H1 = H at hP hS hSz hc_v0 hc_r6 ⊢
        exact k_Rd_marked_27 (PL := PL) hC hA hK   r6.1 r6.2.1 r6.2.2 y_r6 H locs ls hP hD hS  hc_r6 hf_r6 hn_r6 (lv_sub hl [] rfl) h
      · have h := if_p h c5
        refine lv_aload_n hx hb (dt_at dt_Rd_marked 10 rfl) rfl (lv_at hl 0 rfl) ?_
        refine lv_goto (tgt := 27) hx hb (dt_at dt_Rd_marked 11 rfl) (by decide) ?_
        refine W.widen (k := 1) (n := 3) (Nat.le_of_ble_eq_true rfl) (Nat.le_of_ble_eq_true rfl) ?_
        exact k_Rd_marked_27 (PL := PL) hC hA hK   v0_l v0_h v0_m y_v0 H locs ls hP hD hS  hc_v0 hf_v0 hn_v0 (lv_sub hl [] rfl) h
  · have h := if_p h c1
    obtain ⟨r7, h_r7, h⟩ := ob_of h
    have hPc : va_P D CLS (wE a q) H := fun k q h => by simp [wE] at h
    have hd : va_D (fun _ => True) (dE a) := dE_D a
    have hKc : va_K D CLS (tE q) s := hK.sub (tys' := []) [] rfl
    have hF : ∀ x, va_A (dE a) H.size x → A x := fun x h9 => h9.elim (fun ⟨k, e, h⟩ => by simp [dE] at h) (fun g => hA _ (Nat.le_trans hS.1 g))
    refine va_callr (va_runS (As := []) (rest := []) ⟨hx, hb, hml, hown, hts⟩ (c_Cell_ill l D a q  hd H.size     r7 h_r7) (va_cwS 0 hts (gd_S (m_2 108 rfl rfl) (m_2 109 rfl rfl) (m_1 10 rfl rfl) (m_2 110 rfl rfl)) rfl rfl rfl (by decide +kernel) ⟨Nat.le_of_ble_eq_true rfl, Nat.le_of_ble_eq_true rfl⟩) ⟨fun a U g mk q => ⟨q.1, q.2.1, q.2.2.1, va_K.moved (u := U) (U := U.calling g mk a) (Vm.Alike.refl U.vm) q.2.2.2⟩, fun U hU hW => ⟨rfl, by rw [hU], by rw [hU]; exact hPc, va_K.moved hW.alike hKc⟩⟩ rfl rfl hl.1 rfl (lv_room (Nat.le_of_ble_eq_true rfl)) (dt_at dt_Rd_marked 2 rfl) ⟨Nat.le_of_ble_eq_true rfl, Nat.le_of_ble_eq_true rfl⟩) hS (fun x _ h9 => hF x h9) hF (fun uu y_r7 t H1 locs ht hvm hw hB hz1 hk1 hS => ?_)
    obtain ⟨hB, hc_r7, hq_r7⟩ := hB
    rw [ht] at hc_r7
    have hn_r7 : nin (dE a) y_r7 := nin_cases hq_r7 (fun g9 => nin_big hP g9 rfl) (fun g9 => by simp at g9)
    have hf_r7 : s.heap.size ≤ y_r7 ∨ y_r7 ∈ PL := nin_cases hq_r7 (fun g9 => Or.inl (Nat.le_trans hSz g9)) (fun g9 => by simp at g9)
    clear hq_r7
    have hc_v0 := isC.keptA hc_v0 hk1 (nin_E a y_v0)
    have hP := va_P.kept hP (fun k q hq => hk1 _ (hP k q hq).lt (not_AE (hP k q hq).lt))
    refine W.widen (k := 1) (n := 3) (Nat.le_of_ble_eq_true rfl) (Nat.le_of_ble_eq_true rfl) ?_
    have hSz : s.heap.size ≤ H1.size := hS.1
    clear hk1 hz1 hPc hF hB ht
    generalize H1 = H at hP hS hSz hc_v0 hc_r7 ⊢
    obtain rfl := os_of h
    refine W.widen (k := 2) (n := 6) (Nat.le_of_ble_eq_true rfl) (Nat.le_of_ble_eq_true rfl) ?_
    exact W.aret hx hb hr (Or.inl ⟨_, rfl⟩) (Or.inr ⟨_, rfl⟩) (fun t ht hW => ⟨⟨(), y_r7, rfl, trivial, (hPt hP ht), hPt hc_r7 ht, hf_r7⟩, hS.F ht⟩) hS.2.2 (dt_at dt_Rd_marked 3 rfl)
set_option maxRecDepth 100000 in
set_option maxHeartbeats 4000000 in
theorem c_Rd_marked (l : Launch) (D : va_G) (a : Nat → Nat) (q : Nat → ClassId) (hd : va_D (fun _ => True) (dE a)) (sz : Nat) (a0_l : Int64) (a0_h : Int64) (a0_m : Int32) (a1 : Int32)  (y_a0 : Nat) (hn_a0 : nin (dE a) y_a0) (r0 : Int64 × Int64 × Int32) (h : f_Rd_marked a0_l a0_h a0_m a1 = some r0) : Met l (⟨"OutwardTape$LiteralReader", "marked", "(LOutwardTape$Cell;I)LOutwardTape$Cell;"⟩ : MethodName) (WSm (⟨"OutwardTape$LiteralReader", "marked", "(LOutwardTape$Cell;I)LOutwardTape$Cell;"⟩ : MethodName) prog_5_method_4_code 2 (some (.object "OutwardTape$Cell"))) rm_Rd_marked (va_Pc [.ref y_a0, .int a1] (fun U => U.heap.size = sz ∧ va_P D CLS (wE a q ) U.heap ∧ va_K D CLS (tE q) U ∧ isC D U.heap y_a0 a0_l a0_h a0_m)) (va_Qr (fun _ : Unit => True) (fun _ ra t => (va_P D CLS (wE a q ) t.heap) ∧ isC D t.heap ra r0.1 r0.2.1 r0.2.2 ∧ (sz ≤ ra ∨ ra ∈ ([y_a0] : List Nat))) (va_A (dE a) sz)) 2 6 (va_A (dE a) sz) := by
  refine Met.ofW (cc := prog_5_method_4_code) (maxL := 2) (ret := (some (.object "OutwardTape$Cell"))) (by decide) rfl ?_
  intro p e s m args below meth c s₁ B hml hv
  obtain ⟨rfl, hsz, hP, hK, hc_a0⟩ := hv
  subst hsz
  have hC := CX.of B hml rfl
  have hl := lv_entry [.ref y_a0, .int a1] (n := 2) (Nat.le_of_ble_eq_true rfl)
  rw [lg_entry_eq]
  generalize (lg_sl [.ref y_a0, .int a1] ++ List.replicate (2 - (lg_sl [.ref y_a0, .int a1]).length) Slot.unset).toArray = ls at hl ⊢
  have hl : lv_has ls 2 [(0, .ref y_a0), (1, .int a1)] := hl
  exact k_Rd_marked_0 (PL := [y_a0]) hC (fun x h => Or.inr h) hK a0_l a0_h a0_m a1   y_a0 s.heap [] ls hP (dD hd.self rfl) va_S.rf  hc_a0 (Or.inr (by simp)) hn_a0  (lv_sub hl [0, 1] rfl) h
abbrev rm_Rd_strongest : Room := { frames := 3, cells := 2, slots := 6, locals := 67 }
set_option maxRecDepth 100000 in
set_option maxHeartbeats 4000000 in
theorem k_Rd_strongest_0 {p : Program} {l : Launch} {e : Env} {s : State} {m : MethodId} {args : Array Value} {below : List Frame} {meth : Method} {c : Code} {D : va_G} {a : Nat → Nat} {q : Nat → ClassId} {PL : List Nat} {A : Nat → Prop} (hC : CX p s m args meth c prog_5_method_8_code 4 "OutwardTape$LiteralReader" (some (.object "OutwardTape$Cell"))) (hA : ∀ x, s.heap.size ≤ x → A x) (hK : va_K D CLS (tE q) s)  {r0 : Int64 × Int64 × Int32} : ∀ (v0 : Int64) (v2 : Int64)  (H : Heap) (locs : List Loc) (ls : Array Slot), va_P D CLS (wE a q ) H → va_D A (wE a q ) → va_S A s.heap H locs → lv_has ls 4 [(0, .long v0), (2, .long v2)] → f_Rd_strongest_0  v0 v2 = some r0 → W p l e rm_Rd_strongest s m args below meth c H locs 0 0 (MQ below (va_Qr (fun _ : Unit => True) (fun _ ra t => (va_P D CLS (wE a q ) t.heap) ∧ isC D t.heap ra r0.1 r0.2.1 r0.2.2 ∧ (s.heap.size ≤ ra ∨ ra ∈ PL)) A) args s 2 6 A) (F0 m 0 ls []) := by
  obtain ⟨hx, hb, hml, hown, hts, hr, hlocks⟩ := id hC
  intro v0 v2 H locs ls hP hD hS hl h
  rw [f_Rd_strongest_0] at h
  have hSz : s.heap.size ≤ H.size := hS.1
  refine lv_lload_n hx hb (dt_at dt_Rd_strongest 0 rfl) rfl (lv_at hl 0 rfl) ?_
  refine lv_lload_n hx hb (dt_at dt_Rd_strongest 1 rfl) rfl (lv_at hl 1 rfl) ?_
  refine lv_iconst (v := 4) hx hb (dt_at dt_Rd_strongest 2 rfl) (by decide) ?_
  refine lv_iconst (v := 4) hx hb (dt_at dt_Rd_strongest 3 rfl) (by decide) ?_
  obtain ⟨r1, h_r1, h⟩ := ob_of h
  have hPc : va_P D CLS (wE a q) H := fun k q h => by simp [wE] at h
  have hd : va_D (fun _ => True) (dE a) := dE_D a
  have hKc : va_K D CLS (tE q) s := hK.sub (tys' := []) [] rfl
  have hF : ∀ x, va_A (dE a) H.size x → A x := fun x h9 => h9.elim (fun ⟨k, e, h⟩ => by simp [dE] at h) (fun g => hA _ (Nat.le_trans hS.1 g))
  refine va_callr (va_runS (As := [.long v0, .long v2, .int (4 : Int32), .int (4 : Int32)]) (rest := []) ⟨hx, hb, hml, hown, hts⟩ (c_Cell_value l D a q  hd H.size v0 v2 (4 : Int32) (4 : Int32)    r1 h_r1) (va_cwS 4 hts (gd_S (m_2 218 rfl rfl) (m_2 219 rfl rfl) (m_1 10 rfl rfl) (m_2 220 rfl rfl)) rfl rfl rfl (by decide +kernel) ⟨Nat.le_of_ble_eq_true rfl, Nat.le_of_ble_eq_true rfl⟩) ⟨fun a U g mk q => ⟨q.1, q.2.1, q.2.2.1, va_K.moved (u := U) (U := U.calling g mk a) (Vm.Alike.refl U.vm) q.2.2.2⟩, fun U hU hW => ⟨rfl, by rw [hU], by rw [hU]; exact hPc, va_K.moved hW.alike hKc⟩⟩ rfl rfl hl.1 rfl (lv_room (Nat.le_of_ble_eq_true rfl)) (dt_at dt_Rd_strongest 4 rfl) ⟨Nat.le_of_ble_eq_true rfl, Nat.le_of_ble_eq_true rfl⟩) hS (fun x _ h9 => hF x h9) hF (fun uu y_r1 t H1 locs ht hvm hw hB hz1 hk1 hS => ?_)
  obtain ⟨hB, hc_r1, hq_r1⟩ := hB
  rw [ht] at hc_r1
  have hn_r1 : nin (dE a) y_r1 := nin_cases hq_r1 (fun g9 => nin_big hP g9 rfl) (fun g9 => by simp at g9)
  have hf_r1 : s.heap.size ≤ y_r1 ∨ y_r1 ∈ PL := nin_cases hq_r1 (fun g9 => Or.inl (Nat.le_trans hSz g9)) (fun g9 => by simp at g9)
  clear hq_r1
  have hP := va_P.kept hP (fun k q hq => hk1 _ (hP k q hq).lt (not_AE (hP k q hq).lt))
  refine W.widen (k := 2) (n := 6) (Nat.le_of_ble_eq_true rfl) (Nat.le_of_ble_eq_true rfl) ?_
  have hSz : s.heap.size ≤ H1.size := hS.1
  clear hk1 hz1 hPc hF hB ht
  generalize H1 = H at hP hS hSz hc_r1 ⊢
  obtain rfl := os_of h
  exact W.aret hx hb hr (Or.inl ⟨_, rfl⟩) (Or.inr ⟨_, rfl⟩) (fun t ht hW => ⟨⟨(), y_r1, rfl, trivial, (hPt hP ht), hPt hc_r1 ht, hf_r1⟩, hS.F ht⟩) hS.2.2 (dt_at dt_Rd_strongest 5 rfl)
set_option maxRecDepth 100000 in
set_option maxHeartbeats 4000000 in
theorem c_Rd_strongest (l : Launch) (D : va_G) (a : Nat → Nat) (q : Nat → ClassId) (hd : va_D (fun _ => True) (dE a)) (sz : Nat) (a0 : Int64) (a2 : Int64)    (r0 : Int64 × Int64 × Int32) (h : f_Rd_strongest a0 a2 = some r0) : Met l (⟨"OutwardTape$LiteralReader", "strongest", "(JJ)LOutwardTape$Cell;"⟩ : MethodName) (WSm (⟨"OutwardTape$LiteralReader", "strongest", "(JJ)LOutwardTape$Cell;"⟩ : MethodName) prog_5_method_8_code 4 (some (.object "OutwardTape$Cell"))) rm_Rd_strongest (va_Pc [.long a0, .long a2] (fun U => U.heap.size = sz ∧ va_P D CLS (wE a q ) U.heap ∧ va_K D CLS (tE q) U)) (va_Qr (fun _ : Unit => True) (fun _ ra t => (va_P D CLS (wE a q ) t.heap) ∧ isC D t.heap ra r0.1 r0.2.1 r0.2.2 ∧ (sz ≤ ra ∨ ra ∈ ([] : List Nat))) (va_A (dE a) sz)) 2 6 (va_A (dE a) sz) := by
  refine Met.ofW (cc := prog_5_method_8_code) (maxL := 4) (ret := (some (.object "OutwardTape$Cell"))) (by decide) rfl ?_
  intro p e s m args below meth c s₁ B hml hv
  obtain ⟨rfl, hsz, hP, hK⟩ := hv
  subst hsz
  have hC := CX.of B hml rfl
  have hl := lv_entry [.long a0, .long a2] (n := 4) (Nat.le_of_ble_eq_true rfl)
  rw [lg_entry_eq]
  generalize (lg_sl [.long a0, .long a2] ++ List.replicate (4 - (lg_sl [.long a0, .long a2]).length) Slot.unset).toArray = ls at hl ⊢
  have hl : lv_has ls 4 [(0, .long a0), (2, .long a2)] := hl
  exact k_Rd_strongest_0 (PL := []) hC (fun x h => Or.inr h) hK a0 a2    s.heap [] ls hP (dD hd.self rfl) va_S.rf    (lv_sub hl [0, 1] rfl) h
