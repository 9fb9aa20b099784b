-- written by wip/gen/start.py: the law's entry, its constructors, the claim
def T0 : TS := (0, 0, fun _ => 0, 0, 0, fun _ => 0, 0, 0, 0, 0, fun _ => 0, 0, 0, 0, 0, fun _ => 0, fun _ => none)
def M0 : RS := (0, fun _ => 0, fun _ => 0, fun _ => 0, fun _ => 0, 0, fun _ => 0, 0, fun _ => 0, 0, 0, 0, 0, 0, 0, 0, 0, 0, 0, 0)
theorem inv_0 : INV T0 M0 := ⟨0, 0, fun _ => none, fun _ => 0, false, false, by decide, rfl, rfl, ⟨by decide, fun _ => 0, fun k hk => absurd hk (Nat.not_lt_zero k)⟩, fun i hi => absurd hi (Nat.not_lt_zero i), rfl, rfl, fun z _ => ⟨Nat.pow_pos (by decide), fun k _ => by
  show (0 : Int32) = nI (0 / 65536 ^ k % 65536)
  rw [Nat.zero_div]
  rfl⟩, rfl, rfl⟩
theorem ap_of {A : Nat → Prop} {ws wd wt : va_W} (hD : va_D A ws) (is js : List Nat) (hi : is.map (fun i => (ws[i]?).map (·.1)) = wd.map (fun q => some q.1)) (hj : js.map (fun i => (ws[i]?).map (·.1)) = wt.map (fun q => some q.1)) (hdis : ∀ i ∈ is, i ∉ js) : apart wd wt := by
  have key : ∀ {is : List Nat} {w : va_W}, is.map (fun i => (ws[i]?).map (·.1)) = w.map (fun q => some q.1) → ∀ (k : Nat) (q : Nat × va_E), w[k]? = some q → ∃ i ∈ is, ∃ q', ws[i]? = some q' ∧ q'.1 = q.1 := by
    intro is w hs k q hq
    have h1 : (is.map (fun i => (ws[i]?).map (·.1)))[k]? = some (some q.1) := by rw [hs, List.getElem?_map, hq]; rfl
    rw [List.getElem?_map] at h1
    cases hk : is[k]? with
    | none => rw [hk] at h1; cases h1
    | some i =>
      rw [hk] at h1
      have h2 : (ws[i]?).map (·.1) = some q.1 := Option.some.inj h1
      cases hw : ws[i]? with
      | none => rw [hw] at h2; cases h2
      | some q' =>
        rw [hw] at h2
        exact ⟨i, List.mem_of_getElem? hk, q', hw, Option.some.inj h2⟩
  intro k q hq k' e he
  obtain ⟨i, hi1, q1, hw1, e1⟩ := key hi k q hq
  obtain ⟨j, hj1, q2, hw2, e2⟩ := key hj k' (q.1, e) he
  have := hD.1 i j q1 q2 hw1 hw2 (e1.trans e2.symm)
  subst this
  exact hdis i hi1 hj1
set_option maxRecDepth 100000 in
set_option maxHeartbeats 4000000 in
/-- from the entry, for every script of at most 3072 ints, the law comes to its end with true -/
theorem whole_start {p : Program} {e : Env} {s : State} {m : MethodId} {below : List Frame} {meth : Method} {c : Code} (l : Launch) (hfl : l.flags = flags0) {b L : Nat} {xs : Nat → Int32} (hL : L ≤ 3072) (C0 : lw_At p s m meth c b L xs) : W p l e room_1 s m #[Value.ref b] below meth c s.heap [] 0 0 (lw_Z below #[Value.ref b] s) (entryFrame m ([Value.ref b] : List Value).toArray 7) := by
  obtain ⟨hx, hb, hr, hml, hown, hts0, hX, hxl, hlocks, hg⟩ := C0
  have hts : ∀ w ∈ lw_G, w.before #[Value.ref b] s = true := fun w h => hts0 w (List.mem_filter.mp h).1
  obtain ⟨adK, adV, hSt, hN, hAO⟩ := en_S hts0 hg
  obtain ⟨D, hK⟩ := en_K hts
  have hA : ∀ y, s.heap.size ≤ y → LwA s y := fun y h => h
  have hS : va_S (LwA s) s.heap s.heap [] := va_S.rf
  have hP : va_P D CLS [] s.heap := fun k q h => by cases h
  have hD : va_D (LwA s) [] := ⟨fun i j p q h => (by cases h), fun k q h => (by cases h)⟩
  have hl := lv_entry [.ref b] (n := 7) (Nat.le_of_ble_eq_true rfl)
  rw [lg_entry_eq]
  generalize (lg_sl [.ref b] ++ List.replicate (7 - (lg_sl [.ref b]).length) Slot.unset).toArray = ls at hl ⊢
  have hl : lv_has ls 7 [(0, .ref b)] := hl
  refine va_new (ci := 1) (fs := [.null, .int 0, .null, .int 0, .null]) (C := "OutwardTape") (T := T_Tape) (N := 5) hx hb hts in_Tape ty_Tape tk_Tape hown (hts (Cond.classLink "OutwardTapeLaw" 8 "OutwardTape") (m_1 23 rfl rfl)) (hts (Cond.instantiable "OutwardTape" 5) (m_1 24 rfl rfl)) (hts (Cond.initialized "OutwardTape") (m_1 1 rfl rfl)) hK hP hD hS hA rfl (fun j hj => by rcases (show j = 0 ∨ j = 1 ∨ j = 2 ∨ j = 3 ∨ j = 4 by omega) with rfl | rfl | rfl | rfl | rfl <;> rfl) (Nat.le_of_ble_eq_true rfl) (Nat.le_of_ble_eq_true rfl) (dt_at dt_Law_law_0 0 rfl) (fun o H hP hD hS => ?_)
  have hP : va_P D CLS [(o, .inr (1, [.null, .int 0, .null, .int 0, .null]))] H := hP
  have hD : va_D (LwA s) [(o, .inr (1, [.null, .int 0, .null, .int 0, .null]))] := hD
  refine W.widen (k := 1) (n := 5) (Nat.le_of_ble_eq_true rfl) (Nat.le_of_ble_eq_true rfl) ?_
  refine lv_dup hx hb (dt_at dt_Law_law_0 1 rfl) rfl ?_
  have hFc := va_free (wc := [(o, .inr (1, [.null, .int 0, .null, .int 0, .null]))]) hD hS hA [0] rfl
  refine va_callv (va_runI (As := []) (rest := [.ref o]) ⟨hx, hb, hml, hown, hts⟩ (c_Tape_init l D o H.size) (cwI 0 hts (gd_c (m_1 27 rfl rfl)) rfl rfl rfl (hts (Cond.initialized "OutwardTape") (m_1 1 rfl rfl)) (hts (Cond.methodLink "OutwardTapeLaw" 35 (⟨"OutwardTape", "<init>", "()V"⟩ : MethodName)) (m_1 25 rfl rfl)) (hts (Cond.instanceMethod (⟨"OutwardTape", "<init>", "()V"⟩ : MethodName)) (m_1 26 rfl rfl)) rfl (by decide +kernel) ⟨(Nat.le_of_ble_eq_true rfl), (Nat.le_of_ble_eq_true rfl)⟩) ⟨fun a U g mk q => ⟨q.1, q.2.1, q.2.2.1, va_K.moved (u := U) (U := U.calling g mk a) (Vm.Alike.refl U.vm) q.2.2.2.1, va_AO.moved (u := U) (U := U.calling g mk a) (Vm.Alike.refl U.vm) q.2.2.2.2⟩, fun U hU hW => ⟨rfl, by rw [hU], by rw [hU]; exact hP, va_K.moved hW.alike hK, va_AO.moved hW.alike hAO⟩⟩ rfl rfl hl.1 rfl (lv_room (Nat.le_of_ble_eq_true rfl)) (dt_at dt_Law_law_0 2 rfl) ⟨(Nat.le_of_ble_eq_true rfl), (Nat.le_of_ble_eq_true rfl)⟩) hS (fun q _ h => hFc q h) hFc (fun uu t H1 locs ht hvm hw hB hz1 hk1 hS => ?_)
  obtain ⟨r1, r2, r3, r4, r5, r6, r7, r8, e1, e2, e9, e10, e11, hP1, hK1, hD1⟩ := hB
  rw [ht] at hP1
  have hK1 := va_K.moved hvm.symm hK1
  obtain ⟨hP, hD⟩ := va_join (wr := []) (w1 := [(o, .inr (1, [.ref r1, .int 0, .ref r2, .int 0, .ref r3])), (r1, .inl (e1, 60, .inl (fun _ => 0))), (r2, .inl (e2, 40, .inr (.inr (.inr (.inr (fun _ => none)))))), (r3, .inr (2, [.ref r4, .ref r6, .ref r8, .int 0, .int 0])), (r4, .inr (3, [.ref r5, .int 0, .long 0, .int 0, .int 0])), (r5, .inl (e9, 28, .inl (fun _ => 0))), (r6, .inr (3, [.ref r7, .int 0, .long 0, .int 0, .int 0])), (r7, .inl (e10, 28, .inl (fun _ => 0))), (r8, .inl (e11, 60, .inl (fun _ => 0)))]) hP hD [0] [] rfl rfl (by decide) (by decide) hk1 hFc hP1 hD1
  have hK := hK.app hK1
  clear hk1 hz1 hFc hP1 hD1 hK1 ht hvm hw
  generalize H1 = H at hP hS ⊢
  have hP : va_P D CLS [(o, .inr (1, [.ref r1, .int 0, .ref r2, .int 0, .ref r3])), (r1, .inl (e1, 60, .inl (fun _ => 0))), (r2, .inl (e2, 40, .inr (.inr (.inr (.inr (fun _ => none)))))), (r3, .inr (2, [.ref r4, .ref r6, .ref r8, .int 0, .int 0])), (r4, .inr (3, [.ref r5, .int 0, .long 0, .int 0, .int 0])), (r5, .inl (e9, 28, .inl (fun _ => 0))), (r6, .inr (3, [.ref r7, .int 0, .long 0, .int 0, .int 0])), (r7, .inl (e10, 28, .inl (fun _ => 0))), (r8, .inl (e11, 60, .inl (fun _ => 0)))] H := hP
  have hD : va_D (LwA s) [(o, .inr (1, [.ref r1, .int 0, .ref r2, .int 0, .ref r3])), (r1, .inl (e1, 60, .inl (fun _ => 0))), (r2, .inl (e2, 40, .inr (.inr (.inr (.inr (fun _ => none)))))), (r3, .inr (2, [.ref r4, .ref r6, .ref r8, .int 0, .int 0])), (r4, .inr (3, [.ref r5, .int 0, .long 0, .int 0, .int 0])), (r5, .inl (e9, 28, .inl (fun _ => 0))), (r6, .inr (3, [.ref r7, .int 0, .long 0, .int 0, .int 0])), (r7, .inl (e10, 28, .inl (fun _ => 0))), (r8, .inl (e11, 60, .inl (fun _ => 0)))] := hD
  have hK : va_K D CLS [(e1, .char), (e2, .object "OutwardTape$Cell"), (e9, .int), (e10, .int), (e11, .char)] s := hK
  refine W.widen (k := 9) (n := 236) (Nat.le_of_ble_eq_true rfl) (Nat.le_of_ble_eq_true rfl) ?_
  refine lv_astore_n hx hb (dt_at dt_Law_law_0 3 rfl) rfl hl (by decide) rfl (fun ls hl => ?_)
  refine va_new (ci := 0) (fs := [.int 0, .null, .null, .null, .null, .int 0, .null, .int 0, .null, .int 0, .long 0, .long 0, .int 0, .int 0, .int 0, .long 0, .int 0, .int 0, .long 0, .int 0]) (C := "OutwardTapeModel") (T := T_Ref) (N := 20) hx hb hts in_Ref ty_Ref tk_Ref hown (hts (Cond.classLink "OutwardTapeLaw" 36 "OutwardTapeModel") (m_3 233 rfl rfl)) (hts (Cond.instantiable "OutwardTapeModel" 20) (m_3 234 rfl rfl)) (hts (Cond.initialized "OutwardTapeModel") (m_1 4 rfl rfl)) hK hP hD hS hA rfl (fun j hj => by rcases (show j = 0 ∨ j = 1 ∨ j = 2 ∨ j = 3 ∨ j = 4 ∨ j = 5 ∨ j = 6 ∨ j = 7 ∨ j = 8 ∨ j = 9 ∨ j = 10 ∨ j = 11 ∨ j = 12 ∨ j = 13 ∨ j = 14 ∨ j = 15 ∨ j = 16 ∨ j = 17 ∨ j = 18 ∨ j = 19 by omega) with rfl | rfl | rfl | rfl | rfl | rfl | rfl | rfl | rfl | rfl | rfl | rfl | rfl | rfl | rfl | rfl | rfl | rfl | rfl | rfl <;> rfl) (Nat.le_of_ble_eq_true rfl) (Nat.le_of_ble_eq_true rfl) (dt_at dt_Law_law_0 4 rfl) (fun w H hP hD hS => ?_)
  have hP : va_P D CLS [(o, .inr (1, [.ref r1, .int 0, .ref r2, .int 0, .ref r3])), (r1, .inl (e1, 60, .inl (fun _ => 0))), (r2, .inl (e2, 40, .inr (.inr (.inr (.inr (fun _ => none)))))), (r3, .inr (2, [.ref r4, .ref r6, .ref r8, .int 0, .int 0])), (r4, .inr (3, [.ref r5, .int 0, .long 0, .int 0, .int 0])), (r5, .inl (e9, 28, .inl (fun _ => 0))), (r6, .inr (3, [.ref r7, .int 0, .long 0, .int 0, .int 0])), (r7, .inl (e10, 28, .inl (fun _ => 0))), (r8, .inl (e11, 60, .inl (fun _ => 0))), (w, .inr (0, [.int 0, .null, .null, .null, .null, .int 0, .null, .int 0, .null, .int 0, .long 0, .long 0, .int 0, .int 0, .int 0, .long 0, .int 0, .int 0, .long 0, .int 0]))] H := hP
  have hD : va_D (LwA s) [(o, .inr (1, [.ref r1, .int 0, .ref r2, .int 0, .ref r3])), (r1, .inl (e1, 60, .inl (fun _ => 0))), (r2, .inl (e2, 40, .inr (.inr (.inr (.inr (fun _ => none)))))), (r3, .inr (2, [.ref r4, .ref r6, .ref r8, .int 0, .int 0])), (r4, .inr (3, [.ref r5, .int 0, .long 0, .int 0, .int 0])), (r5, .inl (e9, 28, .inl (fun _ => 0))), (r6, .inr (3, [.ref r7, .int 0, .long 0, .int 0, .int 0])), (r7, .inl (e10, 28, .inl (fun _ => 0))), (r8, .inl (e11, 60, .inl (fun _ => 0))), (w, .inr (0, [.int 0, .null, .null, .null, .null, .int 0, .null, .int 0, .null, .int 0, .long 0, .long 0, .int 0, .int 0, .int 0, .long 0, .int 0, .int 0, .long 0, .int 0]))] := hD
  refine W.widen (k := 10) (n := 256) (Nat.le_of_ble_eq_true rfl) (Nat.le_of_ble_eq_true rfl) ?_
  refine lv_dup hx hb (dt_at dt_Law_law_0 5 rfl) rfl ?_
  have hPc := hP.sub (ws' := [(w, .inr (0, [.int 0, .null, .null, .null, .null, .int 0, .null, .int 0, .null, .int 0, .long 0, .long 0, .int 0, .int 0, .int 0, .long 0, .int 0, .int 0, .long 0, .int 0]))]) [9] rfl
  have hKc := hK.sub (tys' := []) [] rfl
  have hFc := va_free (wc := [(w, .inr (0, [.int 0, .null, .null, .null, .null, .int 0, .null, .int 0, .null, .int 0, .long 0, .long 0, .int 0, .int 0, .int 0, .long 0, .int 0, .int 0, .long 0, .int 0]))]) hD hS hA [9] rfl
  refine va_callv (va_runI (As := []) (rest := [.ref w]) ⟨hx, hb, hml, hown, hts⟩ (c_Ref_init l D w H.size) (cwI 0 hts (gd_c (m_3 237 rfl rfl)) rfl rfl rfl (hts (Cond.initialized "OutwardTapeModel") (m_1 4 rfl rfl)) (hts (Cond.methodLink "OutwardTapeLaw" 38 (⟨"OutwardTapeModel", "<init>", "()V"⟩ : MethodName)) (m_3 235 rfl rfl)) (hts (Cond.instanceMethod (⟨"OutwardTapeModel", "<init>", "()V"⟩ : MethodName)) (m_3 236 rfl rfl)) rfl (by decide +kernel) ⟨(Nat.le_of_ble_eq_true rfl), (Nat.le_of_ble_eq_true rfl)⟩) ⟨fun a U g mk q => ⟨q.1, q.2.1, q.2.2.1, va_K.moved (u := U) (U := U.calling g mk a) (Vm.Alike.refl U.vm) q.2.2.2⟩, fun U hU hW => ⟨rfl, by rw [hU], by rw [hU]; exact hPc, va_K.moved hW.alike hKc⟩⟩ rfl rfl hl.1 rfl (lv_room (Nat.le_of_ble_eq_true rfl)) (dt_at dt_Law_law_0 6 rfl) ⟨(Nat.le_of_ble_eq_true rfl), (Nat.le_of_ble_eq_true rfl)⟩) hS (fun q _ h => hFc q h) hFc (fun uu t H1 locs ht hvm hw hB hz1 hk1 hS => ?_)
  obtain ⟨s1, s2, s3, s4, s5, s6, d1, d2, d3, d4, d5, d6, hP1, hK1, hD1⟩ := hB
  rw [ht] at hP1
  have hK1 := va_K.moved hvm.symm hK1
  obtain ⟨hP, hD⟩ := va_join (wr := [(o, .inr (1, [.ref r1, .int 0, .ref r2, .int 0, .ref r3])), (r1, .inl (e1, 60, .inl (fun _ => 0))), (r2, .inl (e2, 40, .inr (.inr (.inr (.inr (fun _ => none)))))), (r3, .inr (2, [.ref r4, .ref r6, .ref r8, .int 0, .int 0])), (r4, .inr (3, [.ref r5, .int 0, .long 0, .int 0, .int 0])), (r5, .inl (e9, 28, .inl (fun _ => 0))), (r6, .inr (3, [.ref r7, .int 0, .long 0, .int 0, .int 0])), (r7, .inl (e10, 28, .inl (fun _ => 0))), (r8, .inl (e11, 60, .inl (fun _ => 0)))]) (w1 := [(w, .inr (0, [.int 0, .ref s1, .ref s2, .ref s3, .ref s4, .int 0, .ref s5, .int 0, .ref s6, .int 0, .long 0, .long 0, .int 0, .int 0, .int 0, .long 0, .int 0, .int 0, .long 0, .int 0])), (s1, .inl (d1, 40, .inl (fun _ => 0))), (s2, .inl (d2, 40, .inr (.inl (fun _ => 0)))), (s3, .inl (d3, 40, .inr (.inl (fun _ => 0)))), (s4, .inl (d4, 40, .inl (fun _ => 0))), (s5, .inl (d5, 60, .inl (fun _ => 0))), (s6, .inl (d6, 800, .inl (fun _ => 0)))]) hP hD [9] [0, 1, 2, 3, 4, 5, 6, 7, 8] rfl rfl (by decide) (by decide) hk1 hFc hP1 hD1
  have hK := hK.app hK1
  clear hk1 hz1 hFc hPc hP1 hD1 hK1 ht hvm hw
  generalize H1 = H at hP hS ⊢
  have hP : va_P D CLS [(o, .inr (1, [.ref r1, .int 0, .ref r2, .int 0, .ref r3])), (r1, .inl (e1, 60, .inl (fun _ => 0))), (r2, .inl (e2, 40, .inr (.inr (.inr (.inr (fun _ => none)))))), (r3, .inr (2, [.ref r4, .ref r6, .ref r8, .int 0, .int 0])), (r4, .inr (3, [.ref r5, .int 0, .long 0, .int 0, .int 0])), (r5, .inl (e9, 28, .inl (fun _ => 0))), (r6, .inr (3, [.ref r7, .int 0, .long 0, .int 0, .int 0])), (r7, .inl (e10, 28, .inl (fun _ => 0))), (r8, .inl (e11, 60, .inl (fun _ => 0))), (w, .inr (0, [.int 0, .ref s1, .ref s2, .ref s3, .ref s4, .int 0, .ref s5, .int 0, .ref s6, .int 0, .long 0, .long 0, .int 0, .int 0, .int 0, .long 0, .int 0, .int 0, .long 0, .int 0])), (s1, .inl (d1, 40, .inl (fun _ => 0))), (s2, .inl (d2, 40, .inr (.inl (fun _ => 0)))), (s3, .inl (d3, 40, .inr (.inl (fun _ => 0)))), (s4, .inl (d4, 40, .inl (fun _ => 0))), (s5, .inl (d5, 60, .inl (fun _ => 0))), (s6, .inl (d6, 800, .inl (fun _ => 0)))] H := hP
  have hD : va_D (LwA s) [(o, .inr (1, [.ref r1, .int 0, .ref r2, .int 0, .ref r3])), (r1, .inl (e1, 60, .inl (fun _ => 0))), (r2, .inl (e2, 40, .inr (.inr (.inr (.inr (fun _ => none)))))), (r3, .inr (2, [.ref r4, .ref r6, .ref r8, .int 0, .int 0])), (r4, .inr (3, [.ref r5, .int 0, .long 0, .int 0, .int 0])), (r5, .inl (e9, 28, .inl (fun _ => 0))), (r6, .inr (3, [.ref r7, .int 0, .long 0, .int 0, .int 0])), (r7, .inl (e10, 28, .inl (fun _ => 0))), (r8, .inl (e11, 60, .inl (fun _ => 0))), (w, .inr (0, [.int 0, .ref s1, .ref s2, .ref s3, .ref s4, .int 0, .ref s5, .int 0, .ref s6, .int 0, .long 0, .long 0, .int 0, .int 0, .int 0, .long 0, .int 0, .int 0, .long 0, .int 0])), (s1, .inl (d1, 40, .inl (fun _ => 0))), (s2, .inl (d2, 40, .inr (.inl (fun _ => 0)))), (s3, .inl (d3, 40, .inr (.inl (fun _ => 0)))), (s4, .inl (d4, 40, .inl (fun _ => 0))), (s5, .inl (d5, 60, .inl (fun _ => 0))), (s6, .inl (d6, 800, .inl (fun _ => 0)))] := hD
  have hK : va_K D CLS [(e1, .char), (e2, .object "OutwardTape$Cell"), (e9, .int), (e10, .int), (e11, .char), (d1, .int), (d2, .long), (d3, .long), (d4, .int), (d5, .int), (d6, .int)] s := hK
  refine W.widen (k := 16) (n := 1276) (Nat.le_of_ble_eq_true rfl) (Nat.le_of_ble_eq_true rfl) ?_
  refine lv_astore_n hx hb (dt_at dt_Law_law_0 7 rfl) rfl hl (by decide) rfl (fun ls hl => ?_)
  refine lv_iconst (v := 1) hx hb (dt_at dt_Law_law_0 8 rfl) (by decide) ?_
  refine va_newa (atype := .long) (ty := .long) (N' := 1) (a0 := (1, .inr (.inl (fun _ => 0)))) hx hb (hts (Cond.arrayClass .long) (m_4 60 rfl rfl)) rfl hK hP hD hS hA (fun _ => rfl) (by decide) (by decide) (by decide) (Nat.le_of_ble_eq_true rfl) (Nat.le_of_ble_eq_true rfl) (dt_at dt_Law_law_0 9 rfl) (fun u qu H hK hP hD hS => ?_)
  have hP : va_P D CLS [(o, .inr (1, [.ref r1, .int 0, .ref r2, .int 0, .ref r3])), (r1, .inl (e1, 60, .inl (fun _ => 0))), (r2, .inl (e2, 40, .inr (.inr (.inr (.inr (fun _ => none)))))), (r3, .inr (2, [.ref r4, .ref r6, .ref r8, .int 0, .int 0])), (r4, .inr (3, [.ref r5, .int 0, .long 0, .int 0, .int 0])), (r5, .inl (e9, 28, .inl (fun _ => 0))), (r6, .inr (3, [.ref r7, .int 0, .long 0, .int 0, .int 0])), (r7, .inl (e10, 28, .inl (fun _ => 0))), (r8, .inl (e11, 60, .inl (fun _ => 0))), (w, .inr (0, [.int 0, .ref s1, .ref s2, .ref s3, .ref s4, .int 0, .ref s5, .int 0, .ref s6, .int 0, .long 0, .long 0, .int 0, .int 0, .int 0, .long 0, .int 0, .int 0, .long 0, .int 0])), (s1, .inl (d1, 40, .inl (fun _ => 0))), (s2, .inl (d2, 40, .inr (.inl (fun _ => 0)))), (s3, .inl (d3, 40, .inr (.inl (fun _ => 0)))), (s4, .inl (d4, 40, .inl (fun _ => 0))), (s5, .inl (d5, 60, .inl (fun _ => 0))), (s6, .inl (d6, 800, .inl (fun _ => 0))), (u, .inl (qu, 1, .inr (.inl (fun _ => 0))))] H := hP
  have hD : va_D (LwA s) [(o, .inr (1, [.ref r1, .int 0, .ref r2, .int 0, .ref r3])), (r1, .inl (e1, 60, .inl (fun _ => 0))), (r2, .inl (e2, 40, .inr (.inr (.inr (.inr (fun _ => none)))))), (r3, .inr (2, [.ref r4, .ref r6, .ref r8, .int 0, .int 0])), (r4, .inr (3, [.ref r5, .int 0, .long 0, .int 0, .int 0])), (r5, .inl (e9, 28, .inl (fun _ => 0))), (r6, .inr (3, [.ref r7, .int 0, .long 0, .int 0, .int 0])), (r7, .inl (e10, 28, .inl (fun _ => 0))), (r8, .inl (e11, 60, .inl (fun _ => 0))), (w, .inr (0, [.int 0, .ref s1, .ref s2, .ref s3, .ref s4, .int 0, .ref s5, .int 0, .ref s6, .int 0, .long 0, .long 0, .int 0, .int 0, .int 0, .long 0, .int 0, .int 0, .long 0, .int 0])), (s1, .inl (d1, 40, .inl (fun _ => 0))), (s2, .inl (d2, 40, .inr (.inl (fun _ => 0)))), (s3, .inl (d3, 40, .inr (.inl (fun _ => 0)))), (s4, .inl (d4, 40, .inl (fun _ => 0))), (s5, .inl (d5, 60, .inl (fun _ => 0))), (s6, .inl (d6, 800, .inl (fun _ => 0))), (u, .inl (qu, 1, .inr (.inl (fun _ => 0))))] := hD
  have hK : va_K D CLS [(e1, .char), (e2, .object "OutwardTape$Cell"), (e9, .int), (e10, .int), (e11, .char), (d1, .int), (d2, .long), (d3, .long), (d4, .int), (d5, .int), (d6, .int), (qu, .long)] s := hK
  refine W.widen (k := 17) (n := 1277) (Nat.le_of_ble_eq_true rfl) (Nat.le_of_ble_eq_true rfl) ?_
  refine lv_astore_n hx hb (dt_at dt_Law_law_0 10 rfl) rfl hl (by decide) rfl (fun ls hl => ?_)
  refine lv_iconst (v := 0) hx hb (dt_at dt_Law_law_0 11 rfl) (by decide) ?_
  refine lv_istore hx hb (dt_at dt_Law_law_0 12 rfl) hl (by decide) rfl (fun ls hl => ?_)
  have hl : lv_has ls 7 [(0, .ref b), (1, .ref o), (2, .ref w), (3, .ref u), (4, .int 0)] := lv_sub hl [4, 3, 2, 1, 0] rfl
  obtain ⟨fa, hfa⟩ : ∃ fa : Nat → Nat, fa = fun k => match k with | 0 => o | 1 => r1 | 2 => r2 | 3 => r3 | 4 => r8 | 5 => r4 | 6 => r5 | 7 => r6 | _ => r7 := ⟨_, rfl⟩
  obtain ⟨fq, hfq⟩ : ∃ fq : Nat → ClassId, fq = fun k => match k with | 0 => e1 | 1 => e2 | 2 => e11 | 3 => e9 | _ => e10 := ⟨_, rfl⟩
  obtain ⟨fb, hfb⟩ : ∃ fb : Nat → Nat, fb = fun k => match k with | 0 => w | 1 => s1 | 2 => s2 | 3 => s3 | 4 => s4 | 5 => s5 | _ => s6 := ⟨_, rfl⟩
  obtain ⟨fr, hfr⟩ : ∃ fr : Nat → ClassId, fr = fun k => match k with | 0 => d1 | 1 => d2 | 2 => d3 | 3 => d4 | 4 => d5 | _ => d6 := ⟨_, rfl⟩
  have hDT : va_D (LwA s) (dT fa) := dD (hD.sub (ws' := [(o, .inr (1, [.ref r1, .int 0, .ref r2, .int 0, .ref r3])), (r1, .inl (e1, 60, .inl (fun _ => 0))), (r2, .inl (e2, 40, .inr (.inr (.inr (.inr (fun _ => none)))))), (r3, .inr (2, [.ref r4, .ref r6, .ref r8, .int 0, .int 0])), (r8, .inl (e11, 60, .inl (fun _ => 0))), (r4, .inr (3, [.ref r5, .int 0, .long 0, .int 0, .int 0])), (r5, .inl (e9, 28, .inl (fun _ => 0))), (r6, .inr (3, [.ref r7, .int 0, .long 0, .int 0, .int 0])), (r7, .inl (e10, 28, .inl (fun _ => 0)))]) [0, 1, 2, 3, 8, 4, 5, 6, 7] (by decide) rfl) (by subst hfa; rfl)
  have hDR : va_D (LwA s) (dR fb) := dD (hD.sub (ws' := [(w, .inr (0, [.int 0, .ref s1, .ref s2, .ref s3, .ref s4, .int 0, .ref s5, .int 0, .ref s6, .int 0, .long 0, .long 0, .int 0, .int 0, .int 0, .long 0, .int 0, .int 0, .long 0, .int 0])), (s1, .inl (d1, 40, .inl (fun _ => 0))), (s2, .inl (d2, 40, .inr (.inl (fun _ => 0)))), (s3, .inl (d3, 40, .inr (.inl (fun _ => 0)))), (s4, .inl (d4, 40, .inl (fun _ => 0))), (s5, .inl (d5, 60, .inl (fun _ => 0))), (s6, .inl (d6, 800, .inl (fun _ => 0)))]) [9, 10, 11, 12, 13, 14, 15] (by decide) rfl) (by subst hfb; rfl)
  have hDU : LwA s u := hD.2 16 _ rfl
  have hap1 : apart (dR fb) (dT fa) := ap_of hD [9, 10, 11, 12, 13, 14, 15] [0, 1, 2, 3, 8, 4, 5, 6, 7] (by subst hfb; rfl) (by subst hfa; rfl) (by decide)
  have hap2 : apart (dT fa) (dR fb) := ap_of hD [0, 1, 2, 3, 8, 4, 5, 6, 7] [9, 10, 11, 12, 13, 14, 15] (by subst hfa; rfl) (by subst hfb; rfl) (by decide)
  have hap3 : apart [(u, .inr (0, []))] (dT fa) := ap_of hD [16] [0, 1, 2, 3, 8, 4, 5, 6, 7] rfl (by subst hfa; rfl) (by decide)
  have hap4 : apart [(u, .inr (0, []))] (dR fb) := ap_of hD [16] [9, 10, 11, 12, 13, 14, 15] rfl (by subst hfb; rfl) (by decide)
  have hap5 : apart (dR fb) (dT fa ++ [(u, .inr (0, []))]) := ap_of hD [9, 10, 11, 12, 13, 14, 15] [0, 1, 2, 3, 8, 4, 5, 6, 7, 16] (by subst hfb; rfl) (by subst hfa; rfl) (by decide)
  have hKT : va_K D CLS (tT fq) s := hK.sub [0, 1, 4, 2, 3] (by subst hfq; rfl)
  have hKR : va_K D CLS (tR fr) s := hK.sub [5, 6, 7, 8, 9, 10] (by subst hfr; rfl)
  have hKU : va_K D CLS [(qu, .long)] s := hK.sub [11] rfl
  have hLS : LwS D fa fq fb fr u qu T0 M0 0 H := ⟨⟨fun _ => none, hP.sub [0, 1, 2, 3, 8, 4, 5, 6, 7] (by subst hfa hfq; rfl), fun i v hv => by cases hv⟩, hP.sub [9, 10, 11, 12, 13, 14, 15] (by subst hfb hfr; rfl), hP.sub [16] rfl⟩
  have hX0 : LwCX p l s m #[Value.ref b] meth c D fa fq fb fr u qu b L xs adK adV := ⟨⟨hx, hb, hml, hown, hts, hr, hlocks⟩, hfl, hKT, hKR, hKU, hSt, hN, hX, hxl, hDT, hDR, hDU, hap1, hap2, hap3 0 _ rfl, hap4 0 _ rfl, hap5⟩
  refine law_loop hX0 hL 512 0 rfl ls H locs T0 M0 0 ?_ hS hLS inv_0
  subst hfa hfb
  exact hl
set_option maxHeartbeats 4000000 in
theorem lw_walk (l : Launch) (hfl : l.flags = flags0) (b : Addr) (xs : List Int32) : MetFree l x (headSpec (Jvm.Cond.code x code maxLocals ret :: tables_1) room_1) (lw_P b xs) (fun _ _ _ _ _ => True) lw_Q := by
  refine MetFree.of_bodyS (code := code) (maxLocals := maxLocals) (ret := ret) (by decide) ?_ ?_
  · intro args s m h hn
    obtain ⟨meth, c, h1, h2, h3, h4, h5, h6, -, -⟩ := Cond.code_spec hn (atoms_spec (ws := Jvm.Cond.code x code maxLocals ret :: tables_1) h _ List.mem_cons_self)
    exact ⟨meth, c, h1, h2, h3, h4, h5, h6⟩
  · intro p e s m args below meth c s₁ B hml0 hP _
    obtain ⟨rfl, hx, hbd, hgv⟩ := hP
    obtain ⟨scr, harrAt, hlist, hof, hsmall⟩ := hx
    obtain ⟨hcb, hkn, -, -⟩ := State.arrayAt?_spec harrAt
    have hown : s.vm.findClass R_law = some m.cls := findClass_of_methodNamed B.named
    have hts0 : ∀ c ∈ (Jvm.Cond.code x code maxLocals ret :: tables_1), c.before #[Value.ref b] s = true := atoms_spec (ws := Jvm.Cond.code x code maxLocals ret :: tables_1) B.pre
    have hts : ∀ w ∈ lw_tbl, w.before #[Value.ref b] s = true := k2_hts_sels lw_privs (fun w hw => hts0 w (List.mem_cons_of_mem _ hw)) lw_privs_ok
    have hml : c.maxLocals = 7 := B.maxLocals_eq (hts0 _ List.mem_cons_self)
    have X₀ : Stand p l e room_1 s m #[Value.ref b] below meth c s₁ [] 0 0 := Stand.of_body B
    have hh0 : s₁.heap = s.heap := by rw [B.state]; rfl
    have hsz : scr.slots.size = xs.length := by rw [← Array.length_toList, hlist, List.length_map]
    have hval : ∀ j : Nat, j < xs.length → scr.slots[j]? = some (.int (xs.getD j 0)) := fun j hj => by
      rw [← Array.getElem?_toList, hlist]
      simp [hj]
    have hbl : b < s.heap.size := (Array.getElem?_eq_some_iff.mp hcb).1
    have hX : va_X b xs.length (fun j => xs.getD j 0) s s.heap := ⟨scr, hcb, hof, hkn, hsz, hval⟩
    have K : W p l e room_1 s m #[Value.ref b] below meth c s₁.heap [] 0 0 (lw_Z below #[Value.ref b] s) (entryFrame m ([Value.ref b] : List Value).toArray 7) := by
      rw [hh0]
      exact whole_start l hfl hbd ⟨B.exec, B.bytes, B.returns, hml, hown, hts, hX, hbl, B.notSynchronized, hgv⟩
    obtain ⟨t, a1, o, b1, b2, b3⟩ := K s₁ rfl X₀
    exact ⟨t, o, a1, b1, b2, b3⟩
theorem lw_pre_spec {args : Array Value} {s : State} (h : (Jvm.Cond.and given_1 narrow_1).before args s = true) (hr : rest_1_c.before args s = true) : ∃ (b : Addr) (xs : List Int32), lw_P b xs args s := by
  have hs := flat_of_before _ h
  have hq := flat_of_before _ hr
  have hc : (Cond.count 1).before args s = true := hs _ (by decide +kernel)
  have harr : (Cond.arrayOf (.arg 0) .int).before args s = true := hs _ (by decide +kernel)
  have hle : (Cond.le (.length (.arg 0)) (.int 3072)).before args s = true := hs _ (by decide +kernel)
  have hlen : (Cond.isInt (.length (.arg 0))).before args s = true := hq _ (by decide +kernel)
  have hall : (Cond.all (.arg 0) (.isInt (.elem (.arg 0) (.index 0)))).before args s = true := hq _ (by decide +kernel)
  obtain ⟨b, xs, hb, hx⟩ := State.ints_of_pre rfl harr hlen hall
  have hsm : xs.length < 2 ^ 31 := hx.choose_spec.2.2.2
  have hev : (Term.length (.arg 0)).eval args s none [] s = some (.int xs.length.toInt32) := hx.length_eval hb
  have hv := Cond.le_ints hev (show (Term.int 3072).eval args s none [] s = some (.int 3072) from rfl)
  have hd : xs.length.toInt32 ≤ 3072 := by
    simpa [Cond.before, Cond.holds, hv] using hle
  have hN : xs.length ≤ 3072 := (Int32.ofNat_le_ofNat hsm (by decide)).mp (show Int32.ofNat xs.length ≤ Int32.ofNat 3072 from hd)
  exact ⟨b, xs, Cond.one_arg hc (show args[0]? = some (.ref b) from hb), hx, hN, h⟩
theorem lw_comes (l : Launch) (hfl : l.flags = flags0) : Comes l x (Jvm.Cond.code x code maxLocals ret :: tables_1) room_1 (fun tb e args s => Calls_1 tb e args s ∧ rest_1 tb e args s ∧ Pre_1 tb e args s)
    (fun _ _ args s o t => lw_Q args s o t) := by
  intro p e ha hc hk s m args below hf hfit hheap happ hpre
  obtain ⟨b, xs, hP⟩ := lw_pre_spec hpre.2.2 hpre.2.1
  obtain ⟨k, o, h1, h2, h3, hQ⟩ := lw_walk l hfl b xs p e ha hc hk s m args below hf ((Spec.applies_iff_loose hf).mp happ).1 hP trivial
  exact ⟨k, o, h1, h2, h3, hQ⟩
theorem lw_frame {s t : State} {o : Outcome} {args : Array Value} (h : Framed s o t [] 601024 7293034) :
    Framed s o t (fieldLocs frame_1_writes args s ++ arrayLocs frame_1_arrays args s ++ staticLocs frame_1_statics s) 601024 7293034 := h
theorem lw_limb (L : Cond) (hL : ∀ (args : Array Value) (s t : State), L.after args s (.returned (some (.int 1))) t = true) :
    ArmFor flags0 classFile x code maxLocals ret World_1 tables_1 room_1 Calls_1 rest_1 Pre_1
      (fun tb e a s o t => postC L tb e a s o t ∧ Framed s o t (fieldLocs frame_1_writes a s ++ arrayLocs frame_1_arrays a s ++ staticLocs frame_1_statics s) 601024 7293034) := by
  intro l hfl _ _ p e ha hc hk s m args below hf hfit hheap happ hpre
  obtain ⟨k, o, h1, h2, h3, rfl, hF⟩ := lw_comes l hfl p e ha hc hk s m args below hf hfit hheap happ hpre
  exact ⟨k, _, h1, h2, h3, hL args s _, lw_frame hF⟩
theorem i_vc : Claimed_1_1 ∧ Claimed_1_2 := ⟨lw_limb limb_1_1 (fun args s t => by simp [limb_1_1, Cond.after, Cond.holds, Cond.value]), lw_limb limb_1_2 (fun args s t => Cond.after_iff.mpr (by
  first | (rw [show limb_1_2 = Cond.eq .result (.int 1) from rfl, Cond.eq_ints (x := 1) (y := 1) rfl rfl]; simp; done) | (simp [limb_1_2, Cond.value, Term.eval]; done)))⟩
