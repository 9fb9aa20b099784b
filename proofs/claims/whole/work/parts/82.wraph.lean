-- the law's wrappers: what their walks want
theorem CX.ofW {p : Program} {l : Launch} {y : MethodName} {b : ByteArray} {nL : Nat} {own : String} {ret : Option FieldType} {hh : List (Nat × Nat × Nat × Nat)} {rm : Room} {e : Env} {s : State} {m : MethodId} {args : Array Value} {below : List Frame} {meth : Method} {c : Code} {s₁ : State} (B : BodyLoose p l y (headSpec (Cond.codeWith y b nL ret hh :: lw_G) rm) b nL ret e s m args below meth c s₁) (hml : c.maxLocals = nL) (hy : y.cls = own) : CX p s m args meth c b nL own ret := by
  have hts := atoms_spec (ws := Cond.codeWith y b nL ret hh :: lw_G) B.pre
  subst hy
  exact ⟨B.exec, B.bytes, hml, findClass_of_methodNamed B.named, fun w h => hts w (List.mem_cons_of_mem _ h), B.returns, B.notSynchronized⟩
theorem tb_of {p : Program} {l : Launch} {y : MethodName} {b : ByteArray} {nL : Nat} {ret : Option FieldType} {hh : List (Nat × Nat × Nat × Nat)} {rm : Room} {e : Env} {s : State} {m : MethodId} {args : Array Value} {below : List Frame} {meth : Method} {c : Code} {s₁ : State} (B : BodyLoose p l y (headSpec (Cond.codeWith y b nL ret hh :: lw_G) rm) b nL ret e s m args below meth c s₁) : c.exceptionTable.toList.map (fun h => (h.startPc, h.endPc, h.handlerPc, h.catchType)) = hh := by
  obtain ⟨m9, meth', c', hn9, hm', hc', -, -, h6, -⟩ := Cond.codeWith_spec (atoms_spec (ws := Cond.codeWith y b nL ret hh :: lw_G) B.pre _ List.mem_cons_self)
  cases B.named.symm.trans hn9
  cases B.method.symm.trans hm'
  cases (Stand.of_body B).code.symm.trans hc'
  exact h6
theorem tb_inj {L L' : List ExceptionTableEntry} (h : L.map (fun h => (h.startPc, h.endPc, h.handlerPc, h.catchType)) = L'.map (fun h => (h.startPc, h.endPc, h.handlerPc, h.catchType))) : L = L' := by
  induction L generalizing L' with
  | nil =>
    cases L' with
    | nil => rfl
    | cons b t => simp at h
  | cons x t ih =>
    cases L' with
    | nil => simp at h
    | cons b t' =>
      simp only [List.map_cons, List.cons.injEq] at h
      obtain ⟨h1, h2⟩ := h
      obtain ⟨x1, x2, x3, x4⟩ := x
      obtain ⟨b1, b2, b3, b4⟩ := b
      simp only [Prod.mk.injEq] at h1
      obtain ⟨rfl, rfl, rfl, rfl⟩ := h1
      rw [ih h2]
def ncX (U : State) : Prop := va_Nc "java/lang/IllegalStateException" "java/lang/IllegalArgumentException" U ∧ va_Nc "java/lang/IllegalStateException" "java/lang/IndexOutOfBoundsException" U ∧ va_Nc "java/lang/IndexOutOfBoundsException" "java/lang/IllegalArgumentException" U
theorem ncX.moved {u U : State} (hvm : u.vm.Alike U.vm) (h : ncX u) : ncX U := ⟨h.1.moved hvm, h.2.1.moved hvm, h.2.2.moved hvm⟩
theorem nn_of {α : Type} {p : Prop} {z : α} (h : none = some z) : p := by cases h
theorem va_A_app {ws ws' : va_W} {sz x : Nat} (h : va_A ws sz x) : va_A (ws ++ ws') sz x := by
  rcases h with ⟨k, e, h⟩ | h
  · exact Or.inl ⟨k, e, by rw [List.getElem?_append_left (List.getElem?_eq_some_iff.mp h).1]; exact h⟩
  · exact Or.inr h
theorem va_A_u {ws : va_W} {sz u : Nat} {e : va_E} : va_A (ws ++ [(u, e)]) sz u := Or.inl ⟨ws.length, e, by simp⟩
theorem u1_nin {ws : va_W} {u k : Nat} {e : va_E} {q : Nat × va_E} (hu : nin ws u) (hq : [(u, e)][k]? = some q) : nin ws q.1 := by
  have hz : k < 1 := (List.getElem?_eq_some_iff.mp hq).1
  rw [show k = 0 by omega] at hq
  cases hq
  exact hu
theorem ob_ne_arr {D : va_G} {tys tys' : List (ClassId × FieldType)} {s : State} {H : Heap} {y u : Nat} {ci : Nat} {fs : List Value} {qu : ClassId} {x : vp_A} {ty : FieldType} {k : Nat} (hK : va_K D CLS tys s) (hKu : va_K D CLS tys' s) (ht : tys'[k]? = some (qu, ty)) (hy : va_at D CLS (y, .inr (ci, fs)) H) (hu : va_at D CLS (u, .inl (qu, x)) H) : y ≠ u := by
  rintro rfl
  obtain ⟨r, hr, cell, h1, h2, h3, -⟩ := hy
  have hu' : H[y]? = some (vp_cell qu x) := hu
  cases h1.symm.trans hu'
  obtain ⟨-, hcl, kC, hkC, hkind⟩ := hK.1 _ _ hr
  obtain ⟨-, k', hk', comp, hka⟩ := (hKu.2 _ _ ht).1 0 (fun _ => .null)
  have e1 : (vp_cell qu x).cls = qu := by
    obtain ⟨n, f⟩ := x
    rcases f with f | f | f | f | f <;> rfl
  have h2' : qu = D.1 ci := e1.symm.trans h2
  have hk2 : s.vm.classes[qu]? = some k' := hk'
  rw [h2', hkC] at hk2
  cases hk2
  rw [hkind] at hka
  cases hka
theorem ob_ne_ob {D : va_G} {tys : List (ClassId × FieldType)} {s : State} {H : Heap} {y u : Nat} {ci cj : Nat} {fs fs' : List Value} (hK : va_K D CLS tys s) (hy : va_at D CLS (y, .inr (ci, fs)) H) (hu : va_at D CLS (u, .inr (cj, fs')) H) {r r' : vw_C} (hr : CLS[ci]? = some r) (hr' : CLS[cj]? = some r') (hne : r.1 ≠ r'.1) : y ≠ u := by
  rintro rfl
  obtain ⟨r1, hr1, cell, h1, h2, h3, -⟩ := hy
  obtain ⟨r2, hr2, cell', g1, g2, g3, -⟩ := hu
  cases h1.symm.trans g1
  obtain ⟨-, hcl, -⟩ := hK.1 _ _ hr
  obtain ⟨-, hcl', -⟩ := hK.1 _ _ hr'
  rw [← h2] at hcl
  rw [← g2] at hcl'
  obtain ⟨k, hk, hn⟩ := Vm.findClass_spec hcl
  obtain ⟨k', hk', hn'⟩ := Vm.findClass_spec hcl'
  cases hk.symm.trans hk'
  exact hne (hn.symm.trans hn')
theorem tapeC.keptU {D : va_G} {tys : List (ClassId × FieldType)} {s : State} {ws : va_W} {g3 : Nat → Option Nat} {g17 : Nat → Option (Int64 × Int64 × Int32)} {H H1 : Heap} {u : Nat} {qu : ClassId} {x : vp_A} {ty : FieldType} (hK : va_K D CLS tys s) (hKu : va_K D CLS [(qu, ty)] s) (h : tapeC D ws g3 g17 H) (hu : va_at D CLS (u, .inl (qu, x)) H) (hk : ∀ q : Nat, q ≠ u → H1[q]? = H[q]?) : tapeC D ws g3 g17 H1 := fun i v hv => by
  obtain ⟨y, h1, h2, h3⟩ := h i v hv
  exact ⟨y, h1, h2.kept (hk y (ob_ne_arr hK hKu (k := 0) rfl (h2 0 _ rfl) hu)), h3⟩
