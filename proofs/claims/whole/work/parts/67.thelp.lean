-- the tape's world; its cells' picture; the String constants
def wT (a : Nat → Nat) (q : Nat → ClassId) (L : Nat) (R : Nat) (g0 : Int32) (g1 : Int32) (g2 : Nat → Int32) (g3 : Nat → Option Nat) (g4 : Int32) (g5 : Int32) (g6 : Nat → Int32) (g7 : Int32) (g8 : Int64) (g9 : Int32) (g10 : Int32) (g11 : Nat → Int32) (g12 : Int32) (g13 : Int64) (g14 : Int32) (g15 : Int32) (g16 : Nat → Int32) : va_W := [(a 0, .inr (1, [.ref (a 1), .int g0, .ref (a 2), .int g1, .ref (a 3)])), (a 1, .inl (q 0, 60, .inl g2)), (a 2, .inl (q 1, 40, .inr (.inr (.inr (.inr g3))))), (a 3, .inr (2, [.ref L, .ref R, .ref (a 4), .int g4, .int g5])), (a 4, .inl (q 2, 60, .inl g6)), (a 5, .inr (3, [.ref (a 6), .int g7, .long g8, .int g9, .int g10])), (a 6, .inl (q 3, 28, .inl g11)), (a 7, .inr (3, [.ref (a 8), .int g12, .long g13, .int g14, .int g15])), (a 8, .inl (q 4, 28, .inl g16))]
def tT (q : Nat → ClassId) : List (ClassId × FieldType) := [(q 0, .char), (q 1, .object "OutwardTape$Cell"), (q 2, .char), (q 3, .int), (q 4, .int)]
def dT (a : Nat → Nat) : va_W := [(a 0, .inr (0, [])), (a 1, .inr (0, [])), (a 2, .inr (0, [])), (a 3, .inr (0, [])), (a 4, .inr (0, [])), (a 5, .inr (0, [])), (a 6, .inr (0, [])), (a 7, .inr (0, [])), (a 8, .inr (0, []))]
def sw_a (a : Nat → Nat) : Nat → Nat := fun k => match k with
  | 5 => a 7
  | 6 => a 8
  | 7 => a 5
  | 8 => a 6
  | k => a k
def sw_q (q : Nat → ClassId) : Nat → ClassId := fun k => match k with
  | 3 => q 4
  | 4 => q 3
  | k => q k
def tapeC (D : va_G) (ws : va_W) (g3 : Nat → Option Nat) (g17 : Nat → Option (Int64 × Int64 × Int32)) (H : Heap) : Prop := ∀ (i : Nat) (v : Int64 × Int64 × Int32), g17 i = some v → ∃ y, g3 i = some y ∧ isC D H y v.1 v.2.1 v.2.2 ∧ nin ws y
theorem tapeC.t {D : va_G} {ws : va_W} {g3 : Nat → Option Nat} {g17 : Nat → Option (Int64 × Int64 × Int32)} {H : Heap} {t : State} (h : tapeC D ws g3 g17 H) (ht : t.heap = H) : tapeC D ws g3 g17 t.heap := ht ▸ h
theorem tapeC.kept {D : va_G} {ws : va_W} {g3 : Nat → Option Nat} {g17 : Nat → Option (Int64 × Int64 × Int32)} {H H1 : Heap} (h : tapeC D ws g3 g17 H) (hk : ∀ q : Nat, q < H.size → ¬ va_A ws H.size q → H1[q]? = H[q]?) : tapeC D ws g3 g17 H1 := fun i v hv => by
  obtain ⟨y, h1, h2, h3⟩ := h i v hv
  exact ⟨y, h1, h2.keptA hk h3, h3⟩
theorem tapeC.keptE {D : va_G} {ws : va_W} {g3 : Nat → Option Nat} {g17 : Nat → Option (Int64 × Int64 × Int32)} {a : Nat → Nat} {H H1 : Heap} (h : tapeC D ws g3 g17 H) (hk : ∀ q : Nat, q < H.size → ¬ va_A (dE a) H.size q → H1[q]? = H[q]?) : tapeC D ws g3 g17 H1 := fun i v hv => by
  obtain ⟨y, h1, h2, h3⟩ := h i v hv
  exact ⟨y, h1, h2.keptA hk (nin_E a y), h3⟩
theorem nin_sw {a : Nat → Nat} {y : Nat} (h : nin (dT a) y) : nin (dT (sw_a a)) y := by
  intro k e hk
  match k, hk with
  | 0, hk => cases hk; exact h 0 _ rfl
  | 1, hk => cases hk; exact h 1 _ rfl
  | 2, hk => cases hk; exact h 2 _ rfl
  | 3, hk => cases hk; exact h 3 _ rfl
  | 4, hk => cases hk; exact h 4 _ rfl
  | 5, hk => cases hk; exact h 7 _ rfl
  | 6, hk => cases hk; exact h 8 _ rfl
  | 7, hk => cases hk; exact h 5 _ rfl
  | 8, hk => cases hk; exact h 6 _ rfl
  | k + 9, hk => cases hk
theorem tapeC.keptS {D : va_G} {g3 : Nat → Option Nat} {g17 : Nat → Option (Int64 × Int64 × Int32)} {a : Nat → Nat} {H H1 : Heap} (h : tapeC D (dT a) g3 g17 H) (hk : ∀ q : Nat, q < H.size → ¬ va_A (dT (sw_a a)) H.size q → H1[q]? = H[q]?) : tapeC D (dT a) g3 g17 H1 := fun i v hv => by
  obtain ⟨y, h1, h2, h3⟩ := h i v hv
  exact ⟨y, h1, h2.keptA hk (nin_sw h3), h3⟩
section LDR
variable {p : Program} {l : Launch} {e : Env} {R : Room} {s : State} {m : MethodId} {args : Array Value} {below : List Frame} {meth : Method} {c : Code} {H : Heap} {locs : List Loc} {cells slots : Nat} {Q : State → Prop}
variable {cc : ByteArray} {pc : Nat} {ls : Array Slot} {rest : List Value} {D : va_G} {cl : List vw_C} {a : Nat} {tys : List (ClassId × FieldType)} {ws : va_W}
theorem ld_ref (hexec : p.tables.exec = Jvm.exec) (hb : c.code = cc) (hK : va_K D cl tys s) (hP : va_P D cl ws H) (q0 t0 : Nat) {cA : ClassId} {C : String} {n y : Nat} {f : Nat → Option Nat} (ha : ws[q0]? = some (a, .inl (cA, n, .inr (.inr (.inr (.inr f)))))) (ht : tys[t0]? = some (cA, .object C)) {i : Int32} (hin : vp_in i n) (hy : f i.toNatClampNeg = some y) (hdg : decode cc pc = .ok (.aaload, 1))
    (kk : W p l e R s m args below meth c H locs cells slots Q (F0 m (pc + 1) ls (.ref y :: rest))) : W p l e R s m args below meth c H locs cells slots Q (F0 m pc ls (.int i :: .ref a :: rest)) :=
  va_aldq hexec hb hK hP q0 t0 ha ht hin hdg (by rw [hy]; exact kk)
end LDR
def exW : List Cond := [.castable "java/lang/IllegalStateException" "java/lang/IllegalStateException", .castable "java/lang/IllegalArgumentException" "java/lang/IllegalArgumentException", .castable "java/lang/IndexOutOfBoundsException" "java/lang/IndexOutOfBoundsException", .declares ⟨"java/lang/RuntimeException", "<init>", "(Ljava/lang/String;)V"⟩, .declares ⟨"java/lang/Exception", "<init>", "(Ljava/lang/String;)V"⟩, .declares ⟨"java/lang/Throwable", "<init>", "(Ljava/lang/String;)V"⟩]
theorem exW_warm {s U : State} (hW : s.WarmedH U.vm) (h : ∀ w ∈ exW, va_Nw w s) : ∀ w ∈ exW, va_Nw w U := by
  intro w hw
  have h1 := h w hw
  simp only [exW, List.mem_cons, List.not_mem_nil, or_false] at hw
  rcases hw with rfl | rfl | rfl | rfl | rfl | rfl
  · exact va_Nw.warmC hW h1
  · exact va_Nw.warmC hW h1
  · exact va_Nw.warmC hW h1
  · exact va_Nw.warmD hW h1
  · exact va_Nw.warmD hW h1
  · exact va_Nw.warmD hW h1
theorem exW_same {s U : State} (hv : s.vm = U.vm) (h : ∀ w ∈ exW, va_Nw w s) : ∀ w ∈ exW, va_Nw w U := by
  intro w hw
  have h1 := h w hw
  simp only [exW, List.mem_cons, List.not_mem_nil, or_false] at hw
  rcases hw with rfl | rfl | rfl | rfl | rfl | rfl <;> exact va_Nw.same rfl hv h1
theorem lays_args {C n d : String} {A B : Array Value} {U : State} (h : (Cond.laysStatic C n d).before A U = true) : (Cond.laysStatic C n d).before B U = true := by
  obtain ⟨c, k, i, f, a, cell, hc, hi, hst, ha, hcell, hs, hcls, hlt, hty⟩ := Cond.laysStatic_spec h
  exact Cond.laysStatic_of hc hi hst ha hcell hs hcls hlt hty
theorem lays_go {C n d : String} {B : Nat → Prop} {s U : State} (hv : s.vm.Alike U.vm) (hk : ∀ a : Nat, a < s.heap.size → ¬ B a → U.heap[a]? = s.heap[a]?) (hz : va_Zq C n d B s s.heap) (h : (Cond.laysStatic C n d).before #[] s = true) : (Cond.laysStatic C n d).before #[] U = true := by
  obtain ⟨c, k, i, f, a, cell, hc, hi, hst, ha, hcell, hs, hcls, hlt, hty⟩ := Cond.laysStatic_spec h
  have hB : ¬ B a := by
    have key : ∀ v, va_Z C n d v B s s.heap → ¬ B a := by
      rintro v ⟨cf, kf, fi, f', a', cell', h1, h2, h3, h4, h5, h6, h7, h8⟩
      cases hi.symm.trans h1
      cases ha.symm.trans h4
      exact h8
    rcases hz with hz | ⟨t, hz⟩
    · exact key _ hz
    · exact key _ hz
  obtain ⟨k', hi', hek⟩ := State.fieldFound?_setVm hv hi
  exact Cond.laysStatic_of (s := U) (by rw [hv.findClass]; exact hc) hi' hst (by rw [hek]; exact ha) (by rw [hk a (Array.getElem?_eq_some_iff.mp hcell).1 hB]; exact hcell) hs hcls hlt (by rw [hek]; exact hty)
def isS (n0 : Nat) (adK adV : Nat → Nat) (U : State) : Prop := (∀ i, i < 12 → vk_R (strO i) (strI i) (strT i) (adK i) U) ∧ vk_S 12 lenJ bytJ adK adV (fun x => n0 ≤ x) U U.heap ∧ va_Z "java/lang/String" "COMPACT_STRINGS" "Z" (.int 1) (fun x => n0 ≤ x) U U.heap ∧ va_Zq "jdk/internal/util/Preconditions" "SIOOBE_FORMATTER" "Ljava/util/function/BiFunction;" (fun x => n0 ≤ x) U U.heap ∧ va_Zq "java/lang/Throwable" "UNASSIGNED_STACK" "[Ljava/lang/StackTraceElement;" (fun x => n0 ≤ x) U U.heap ∧ va_Zq "java/lang/Throwable" "SUPPRESSED_SENTINEL" "Ljava/util/List;" (fun x => n0 ≤ x) U U.heap ∧ (∀ w ∈ exW, va_Nw w U) ∧ (Cond.laysStatic "java/lang/Throwable" "UNASSIGNED_STACK" "[Ljava/lang/StackTraceElement;").before #[] U = true ∧ (Cond.laysStatic "java/lang/Throwable" "SUPPRESSED_SENTINEL" "Ljava/util/List;").before #[] U = true
theorem isS.go {n0 : Nat} {adK adV : Nat → Nat} {s U : State} {A : Nat → Prop} {H : Heap} {locs : List Loc} (h : isS n0 adK adV s) (hS : va_S A s.heap H locs) (hAn : ∀ x, A x → n0 ≤ x) (hU : U.heap = H) (hW : s.WarmedH U.vm) : isS n0 adK adV U := by
  have hk : ∀ a : Nat, a < s.heap.size → ¬ n0 ≤ a → U.heap[a]? = s.heap[a]? := fun a h1 h2 => by rw [hU]; exact hS.2.1 a h1 (fun h3 => h2 (hAn a h3))
  obtain ⟨h1, h2, h3, h4, h5, h6, h7, h8, h9⟩ := h
  exact ⟨fun i hi => vk_R.warm hW (h1 i hi), (h2.moved hW.alike).kept hk, (h3.moved hW.alike).kept hk, (h4.moved hW.alike).kept hk, (h5.moved hW.alike).kept hk, (h6.moved hW.alike).kept hk, exW_warm hW h7, lays_go hW.alike hk h5 h8, lays_go hW.alike hk h6 h9⟩
theorem isS.call {n0 : Nat} {adK adV : Nat → Nat} {U : State} {g : JFrame} {mk : MethodId} {a : Array Value} (h : isS n0 adK adV U) : isS n0 adK adV (U.calling g mk a) := by
  obtain ⟨h1, h2, h3, h4, h5, h6, h7, h8, h9⟩ := h
  have hv : U.vm.Alike (U.calling g mk a).vm := Vm.Alike.refl U.vm
  exact ⟨fun i hi => vk_R.same rfl (h1 i hi), h2.moved hv, h3.moved hv, h4.moved hv, h5.moved hv, h6.moved hv, exW_same (s := U) (U := U.calling g mk a) rfl h7, lays_go hv (fun _ _ _ => rfl) h5 h8, lays_go hv (fun _ _ _ => rfl) h6 h9⟩
