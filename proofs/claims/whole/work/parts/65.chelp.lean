-- cells that are made once and never changed; the empty world
def wE (_ : Nat → Nat) (_ : Nat → ClassId) : va_W := []
def tE (_ : Nat → ClassId) : List (ClassId × FieldType) := []
def dE (_ : Nat → Nat) : va_W := []
theorem dE_D (a : Nat → Nat) : va_D (fun _ => True) (dE a) := ⟨fun i j p q h => by simp [dE] at h, fun k q h => by simp [dE] at h⟩
abbrev isC (D : va_G) (H : Heap) (y : Nat) (l h : Int64) (m : Int32) : Prop := va_P D CLS [(y, .inr (4, [.long l, .long h, .int m]))] H
def nin (ws : va_W) (y : Nat) : Prop := ∀ (k : Nat) (e : va_E), ws[k]? = some (y, e) → False
theorem isC.lt {D : va_G} {H : Heap} {y : Nat} {l h : Int64} {m : Int32} (hc : isC D H y l h m) : y < H.size := (hc 0 _ rfl).lt
theorem isC.kept {D : va_G} {H H1 : Heap} {y : Nat} {l h : Int64} {m : Int32} (hc : isC D H y l h m) (e : H1[y]? = H[y]?) : isC D H1 y l h m :=
  va_P.kept hc (fun k q hq => by
    have hz : k < 1 := (List.getElem?_eq_some_iff.mp hq).1
    rw [show k = 0 by omega] at hq
    cases hq
    exact e)
theorem not_va_A {ws : va_W} {sz y : Nat} (hn : nin ws y) (h : y < sz) : ¬ va_A ws sz y := fun h9 => h9.elim (fun ⟨k, e, q⟩ => hn k e q) (fun g => absurd g (Nat.not_le.mpr h))
theorem isC.keptA {D : va_G} {H H1 : Heap} {y : Nat} {l h : Int64} {m : Int32} {ws : va_W} (hc : isC D H y l h m) (hk : ∀ q : Nat, q < H.size → ¬ va_A ws H.size q → H1[q]? = H[q]?) (hn : nin ws y) : isC D H1 y l h m :=
  hc.kept (hk y hc.lt (not_va_A hn hc.lt))
theorem nin_E (a : Nat → Nat) (y : Nat) : nin (dE a) y := fun k e h => by simp [dE] at h
theorem not_AE {a : Nat → Nat} {y sz : Nat} (h : y < sz) : ¬ va_A (dE a) sz y := not_va_A (nin_E a y) h
theorem nin_big {D : va_G} {cl : List vw_C} {ws ws' : va_W} {H : Heap} {y : Nat} (hP : va_P D cl ws H) (g : H.size ≤ y) (e : ws.map (·.1) = ws'.map (·.1)) : nin ws' y := by
  intro k x hx
  have h1 : (ws'.map (·.1))[k]? = some y := by rw [List.getElem?_map, hx]; rfl
  rw [← e, List.getElem?_map] at h1
  cases hw : ws[k]? with
  | none => rw [hw] at h1; cases h1
  | some q =>
    rw [hw] at h1
    have h2 : q.1 = y := Option.some.inj h1
    have h3 := (hP k q hw).lt
    omega
theorem nin_ne {ws ws' : va_W} {y k : Nat} {q : Nat × va_E} (hn : nin ws' y) (e : ws.map (·.1) = ws'.map (·.1)) (hq : ws[k]? = some q) : q.1 ≠ y := by
  intro h
  have h1 : (ws.map (·.1))[k]? = some y := by rw [List.getElem?_map, hq]; exact congrArg some h
  rw [e, List.getElem?_map] at h1
  cases hw : ws'[k]? with
  | none => rw [hw] at h1; cases h1
  | some q' =>
    rw [hw] at h1
    have h2 : q'.1 = y := Option.some.inj h1
    exact hn k q'.2 (by rw [hw, ← h2])
theorem nin_cases {p q r : Prop} (h : p ∨ q) (f : p → r) (g : q → r) : r := h.elim f g
section NW
variable {p : Program} {l : Launch} {e : Env} {R : Room} {s : State} {m : MethodId} {args : Array Value} {below : List Frame} {meth : Method} {c : Code} {H : Heap} {locs : List Loc} {cells slots : Nat} {Q : State → Prop}
variable {cc : ByteArray} {pc : Nat} {ls : Array Slot} {rest : List Value} {D : va_G} {cl : List vw_C} {A : Nat → Prop} {tys : List (ClassId × FieldType)} {H0 : Heap}
theorem nw_new (hexec : p.tables.exec = Jvm.exec) (hb : c.code = cc) {own C : String} {T : u_T} {N ci index : Nat} {Ts : List Cond} (hts : ∀ w ∈ Ts, w.before args s = true) (hin : ∀ w ∈ u_ws C T N, w ∈ Ts) (ty : Nat → FieldType) (hty : ∀ k, k < N → parseFieldDescriptor (T k).2.2.1 = some (ty k)) (hown : s.vm.findClass own = some m.cls) (hcl : (Cond.classLink own index C).before args s = true) (hinst : (Cond.instantiable C N).before args s = true) (hini : (Cond.initialized C).before args s = true)
    (hK : va_K D cl tys s) (hS : va_S A H0 H locs) (hc : cl[ci]? = some (C, T, N)) {fs : List Value} (hfs : ∀ j, j < N → defaultValue (ty j) = vp_V fs j) (hcells : cells + 1 ≤ R.cells) (hslots : slots + N ≤ R.slots) (hdg : decode cc pc = .ok (.new index, 3))
    (kk : ∀ (y : Nat) (H1 : Heap), y = H.size → (∀ x : Nat, x < H.size → H1[x]? = H[x]?) → va_P D cl [(y, .inr (ci, fs))] H1 → va_S A H0 H1 locs →
      W p l e R s m args below meth c H1 locs (cells + 1) (slots + N) Q (F0 m (pc + 3) ls (.ref y :: rest))) : W p l e R s m args below meth c H locs cells slots Q (F0 m pc ls rest) := by
  have hKn := hK.1 ci _ hc
  refine W.newcK hexec hb hown hcl hinst hini rfl hdg hcells hslots hKn.2.1 rfl fun H1 kC hkC e1 z1 o1 => ?_
  refine kk H.size H1 rfl o1 (fun k x hx => ?_) ⟨Nat.le_trans hS.1 (by omega), fun x h1 h2 => (o1 x (Nat.lt_of_lt_of_le h1 hS.1)).trans (hS.2.1 x h1 h2), hS.2.2⟩
  have hz : k < 1 := (List.getElem?_eq_some_iff.mp hx).1
  rw [show k = 0 by omega] at hx
  cases hx
  exact ⟨_, hc, (u_born ty hts hin hKn hkC e1 hty).to hfs⟩
end NW
abbrev rm_Cell_init : Room := { frames := 1, cells := 0, slots := 0, locals := 12 }
def dl_Cell_init : List (Nat × Instr × Nat) := [(0, .aload_n 0, 1), (1, .invokespecial 1, 3), (4, .aload_n 0, 1), (5, .lload_n 1, 1), (6, .putfield 7, 3), (9, .aload_n 0, 1), (10, .lload_n 3, 1), (11, .putfield 13, 3), (14, .aload_n 0, 1), (15, .iload 5, 2), (17, .putfield 16, 3), (20, .return_, 1)]
theorem dt_Cell_init : dtbl prog_2_method_1_code dl_Cell_init = true := by decide +kernel
set_option maxRecDepth 100000 in
set_option maxHeartbeats 4000000 in
theorem c_Cell_init (l : Launch) (D : va_G) (y : Nat) (sz : Nat) (lo hi : Int64) (mk : Int32) : Met l (⟨"OutwardTape$Cell", "<init>", "(JJI)V"⟩ : MethodName) (WSm (⟨"OutwardTape$Cell", "<init>", "(JJI)V"⟩ : MethodName) prog_2_method_1_code 6 none) rm_Cell_init (va_Pc [.ref y, .long lo, .long hi, .int mk] (fun U => U.heap.size = sz ∧ va_P D CLS [(y, .inr (4, [.long 0, .long 0, .int 0]))] U.heap ∧ va_K D CLS [] U)) (va_Qv (fun _ : Unit => True) (fun _ t => isC D t.heap y lo hi mk) (fun x => x = y ∨ sz ≤ x)) 0 0 (fun x => x = y ∨ sz ≤ x) := by
  refine Met.ofW (cc := prog_2_method_1_code) (maxL := 6) (ret := none) (by decide) rfl ?_
  intro p e s m args below meth c s₁ B hml hv
  obtain ⟨rfl, hsz, hP, hK⟩ := hv
  subst hsz
  obtain ⟨hx, hb, hml, hown, hts, hr, hlocks⟩ := CX.of B hml rfl
  have hin : meth.name = "<init>" := (name_of_methodNamed B.named B.method).1
  have hD : va_D (fun x => x = y ∨ s.heap.size ≤ x) [(y, .inr (4, [.long 0, .long 0, .int 0]))] := by
    refine ⟨?_, ?_⟩
    · intro i j p q hi hj _
      have h1 : i < 1 := (List.getElem?_eq_some_iff.mp hi).1
      have h2 : j < 1 := (List.getElem?_eq_some_iff.mp hj).1
      omega
    · intro k q hq
      have hz : k < 1 := (List.getElem?_eq_some_iff.mp hq).1
      rw [show k = 0 by omega] at hq
      cases hq
      exact Or.inl rfl
  have hS : va_S (fun x => x = y ∨ s.heap.size ≤ x) s.heap s.heap [] := va_S.rf
  have hl := lv_entry [.ref y, .long lo, .long hi, .int mk] (n := 6) (Nat.le_of_ble_eq_true rfl)
  rw [lg_entry_eq]
  generalize (lg_sl [.ref y, .long lo, .long hi, .int mk] ++ List.replicate (6 - (lg_sl [.ref y, .long lo, .long hi, .int mk]).length) Slot.unset).toArray = ls at hl ⊢
  have hl : lv_has ls 6 [(0, .ref y), (1, .long lo), (3, .long hi), (5, .int mk)] := hl
  refine lv_aload_n hx hb (dt_at dt_Cell_init 0 rfl) rfl (lv_at hl 0 rfl) ?_
  refine W.objInit hx hb hown (hts (Cond.methodLink "OutwardTape$Cell" 1 Lib.objectInit) (m_2 116 rfl rfl)) (hts (Cond.instanceMethod Lib.objectInit) (m_1 29 rfl rfl)) (hts (Cond.code Lib.objectInit ⟨#[0xb1]⟩ 1 none) (m_1 30 rfl rfl)) rfl (by rw [hml]; exact hl.1) rfl (dt_at dt_Cell_init 1 rfl) (Nat.le_of_ble_eq_true rfl) (Nat.le_of_ble_eq_true rfl) ?_
  refine W.eq (g2 := F0 m 4 ls []) rfl ?_
  refine lv_aload_n hx hb (dt_at dt_Cell_init 2 rfl) rfl (lv_at hl 0 rfl) ?_
  refine lv_lload_n hx hb (dt_at dt_Cell_init 3 rfl) rfl (lv_at hl 1 rfl) ?_
  refine va_putF (D := D) (ci := 4) (v := .long lo) (ty := .long) (C := "OutwardTape$Cell") (T := T_Cell) (N := 3) hx hb hts in_Cell ty_Cell tk_Cell nm_Cell hown hK hP hD hS 0 rfl rfl 0 (by decide) (hts (Cond.fieldLink "OutwardTape$Cell" 7 "OutwardTape$Cell" "low" "J") (m_2 117 rfl rfl)) (fun _ h9 => h9) rfl hin rfl (by decide +kernel) rfl rfl (Nat.le_of_ble_eq_true rfl) (dt_at dt_Cell_init 4 rfl) (fun H locs hP hD hS => ?_)
  have hP : va_P D CLS [(y, .inr (4, [.long lo, .long 0, .int 0]))] H := hP
  have hD := dD (ws' := [(y, .inr (4, [.long lo, .long 0, .int 0]))]) hD rfl
  refine lv_aload_n hx hb (dt_at dt_Cell_init 5 rfl) rfl (lv_at hl 0 rfl) ?_
  refine lv_lload_n hx hb (dt_at dt_Cell_init 6 rfl) rfl (lv_at hl 2 rfl) ?_
  refine va_putF (D := D) (ci := 4) (v := .long hi) (ty := .long) (C := "OutwardTape$Cell") (T := T_Cell) (N := 3) hx hb hts in_Cell ty_Cell tk_Cell nm_Cell hown hK hP hD hS 0 rfl rfl 1 (by decide) (hts (Cond.fieldLink "OutwardTape$Cell" 13 "OutwardTape$Cell" "high" "J") (m_2 124 rfl rfl)) (fun _ h9 => h9) rfl hin rfl (by decide +kernel) rfl rfl (Nat.le_of_ble_eq_true rfl) (dt_at dt_Cell_init 7 rfl) (fun H locs hP hD hS => ?_)
  have hP : va_P D CLS [(y, .inr (4, [.long lo, .long hi, .int 0]))] H := hP
  have hD := dD (ws' := [(y, .inr (4, [.long lo, .long hi, .int 0]))]) hD rfl
  refine lv_aload_n hx hb (dt_at dt_Cell_init 8 rfl) rfl (lv_at hl 0 rfl) ?_
  refine lv_iload hx hb (dt_at dt_Cell_init 9 rfl) (lv_at hl 3 rfl) ?_
  refine va_putF (D := D) (ci := 4) (v := .int mk) (ty := .int) (C := "OutwardTape$Cell") (T := T_Cell) (N := 3) hx hb hts in_Cell ty_Cell tk_Cell nm_Cell hown hK hP hD hS 0 rfl rfl 2 (by decide) (hts (Cond.fieldLink "OutwardTape$Cell" 16 "OutwardTape$Cell" "mark" "I") (m_2 131 rfl rfl)) (fun _ h9 => h9) rfl hin rfl (by decide +kernel) rfl rfl (Nat.le_of_ble_eq_true rfl) (dt_at dt_Cell_init 10 rfl) (fun H locs hP hD hS => ?_)
  have hP : va_P D CLS [(y, .inr (4, [.long lo, .long hi, .int mk]))] H := hP
  exact W.vret hx hb hr (fun t ht hW => ⟨⟨(), rfl, trivial, hPt hP ht⟩, hS.F ht⟩) hS.2.2 (dt_at dt_Cell_init 11 rfl)
