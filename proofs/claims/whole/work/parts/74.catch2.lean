theorem sb_heap {s s' : State} {k n : Nat} (h : s.sameButNew s' [] k n) : s.heap.size ≤ s'.heap.size ∧ ∀ q : Nat, q < s.heap.size → s'.heap[q]? = s.heap[q]? := by
  obtain ⟨-, h1, -, -, -, h5⟩ := h
  refine ⟨h1, fun q hq => ?_⟩
  obtain ⟨c, hc⟩ : ∃ c, s.heap[q]? = some c := ⟨_, Array.getElem?_eq_getElem hq⟩
  obtain ⟨c', hc', e1, -, e3⟩ := h5 q c hc
  have e4 : c'.slots = c.slots := Array.ext_getElem? fun i => e3 i List.not_mem_nil
  rw [hc', hc, e1, e4]
section CTH
variable {p : Program} {l : Launch} {e : Env} {R : Room} {s : State} {m : MethodId} {args : Array Value} {below : List Frame} {meth : Method} {c : Code} {T : State} {locs : List Loc} {cells slots : Nat}
set_option maxHeartbeats 4000000 in
theorem cthV (X : Stand p l e R s m args below meth c T locs cells slots) (hexec : p.tables.exec = Jvm.exec) {own C : String} {index : Nat} {y : MethodName} {bytes : ByteArray} {maxL : Nat} {ret : Option FieldType}
    (hown : s.vm.findClass own = some m.cls) (hlink : (Cond.methodLink own index y).before args s = true) (hinst : (Cond.instanceMethod y).before args s = true) (hsel : (Cond.selects C y y).before args s = true)
    (hcode : (Cond.code y bytes maxL ret).before args s = true) (hini : (Cond.initialized y.cls).before args s = true) (hy : y.cls ≠ "java/lang/invoke/MethodHandle" ∧ y.cls ≠ "java/lang/invoke/VarHandle")
    {ws : List Cond} {rm : Room} {Pc : Array Value → State → Prop} {Qt : Array Value → State → Addr → State → Prop} {mc ms : Nat} (hM : MetT l y ws rm Pc Qt mc ms) (hbl : FrameBlind Pc) (hrc : rm.cells = mc) (hrs : rm.slots = ms)
    (hfr : rm.frames + 1 ≤ R.frames) (hlo : 8 + (maxL + 11) + rm.locals ≤ R.locals) (hws : ∀ w ∈ ws, ∀ (a' : Array Value) (U : State), s.WarmedH U.vm → w.before a' U = true)
    {b : Addr} {cellB : Cell} (hcell : T.heap[b]? = some cellB) (hobj : cellB.vm.isStatics = false) (hcls : s.vm.findClass C = some cellB.cls)
    {g : JFrame} (hg : g.method = m) (hsize : g.locals.size = c.maxLocals) {argsL rest : List Value} (hlen : ∀ sig, parseMethodDescriptor y.desc = some sig → argsL.length = sig.parameters.length)
    (hstack : g.stack = argsL.reverse ++ .ref b :: rest) (hW : 2 * g.monitorRoom + (rest.map fun v => v.category).sum ≤ 8) (hdg : decode c.code g.pc = .ok (.invokevirtual index, 3))
    (hc1 : cells + mc ≤ R.cells) (hs1 : slots + ms ≤ R.slots) (hpre : ∀ vm₁, s.WarmedH vm₁ → Pc (Value.ref b :: argsL).toArray (T.setVm vm₁)) :
    ∃ (x : Addr) (st₀ t T' : State), st₀.heap = T.heap ∧ s.vm.Alike st₀.vm ∧ Stand p l e R s m args below meth c T' locs (cells + mc) (slots + ms) ∧ T'.heap = t.heap ∧ Qt (Value.ref b :: argsL).toArray st₀ x t ∧ T.heap.size ≤ T'.heap.size ∧ (∀ q : Nat, q < T.heap.size → T'.heap[q]? = T.heap[q]?) ∧
      ∀ target, Steps p.tables e below ((T'.setTop { g with stack := rest }).pushFrame (.throwing x)) target → Steps p.tables e below (T.setTop g) target := by
  obtain ⟨mk, methM, hnamed, hmethM, hstM, habM⟩ := Cond.instanceMethod_spec hinst
  obtain ⟨methM', cM, hmethM', hcM, -, hlM, -, -, -, hsigM⟩ := Cond.code_spec hnamed hcode
  cases hmethM.symm.trans hmethM'
  obtain ⟨c2, r2, m2, q1, q2, q3, q4, kP, hkP, hkPi⟩ := Cond.selects_spec hsel
  cases hcls.symm.trans q1
  cases (State.methodFound?_of_named hnamed hy).symm.trans q2
  cases hnamed.symm.trans q3
  have hselP : selectMethod e.platform s.vm cellB.cls mk = .method mk := by rw [Launch.admits_selectMethod X.admits]; exact q4
  obtain ⟨vm₁, X₁, hstep₁⟩ := X.invokevirtual hexec hown hlink hnamed hmethM hstM hkP hkPi hy (a := b) (cell := cellB) hcell
    (fun z h => by rw [h] at hobj; cases hobj) hselP hmethM habM hkP hkPi (g := g) hg (argsL := argsL) (rest := rest) (hlen _ hsigM) hstack hdg
  have hn : (T.setVm vm₁).methodNamed? y = some mk := X₁.named hnamed
  have hw1 : s.WarmedH (T.setVm vm₁).vm := X₁.warmed
  have hcode1 : (Cond.code y bytes maxL ret).before (Value.ref b :: argsL).toArray (T.setVm vm₁) = true := word_at (U := T.setVm vm₁) hw1 (Or.inl (by first | rfl | simp [Cond.onTables, Cond.keeps, Cond.steady])) hcode
  have hini1 : (Cond.initialized y.cls).before (Value.ref b :: argsL).toArray (T.setVm vm₁) = true := word_at (U := T.setVm vm₁) hw1 (Or.inl (by first | rfl | simp [Cond.onTables, Cond.keeps, Cond.steady])) hini
  obtain ⟨methY, cY, hmY, hcY, -, hlY, -, -, -, -⟩ := Cond.code_spec hn hcode1
  obtain ⟨kY, hkY, -⟩ := className_of_methodNamed hn
  have hinitY : kY.init = .initialized := Cond.initialized_spec (findClass_of_methodNamed hn) hkY hini1
  have hg2 : ({ g with stack := rest } : JFrame).method = m := hg
  have h : At (T.setVm vm₁) ({ g with stack := rest } : JFrame).method c below := by rw [hg2]; exact X₁.here
  have happ : (headSpec ws rm).appliesLoose y e.platform ((T.setVm vm₁).calling { g with stack := rest } mk (Value.ref b :: argsL).toArray) = true :=
    Spec.appliesLoose_calling (g := { g with stack := rest }) h hdg hn hkY hinitY
      (X₁.room_calling (g := { g with stack := rest }) (R' := rm) hsize hmY hcY hfr (by rw [hlY]; exact Nat.le_trans (Nat.add_le_add_right (Nat.add_le_add_right hW _) _) hlo) (by rw [hrc]; exact hc1) (by rw [hrs]; exact hs1)) (atoms_intro fun w hw => hws w hw _ _ hw1)
  obtain ⟨mid, hmid⟩ := h.above
  have hfr2 : ((T.setVm vm₁).setTop { g with stack := rest }).frames = (.java { g with stack := rest } :: mid) ++ below := by rw [State.frames_setTop' _ h.top, hmid]; rfl
  obtain ⟨o, s₂, hsteps, -, hend, x, rfl, hq, hW₂, hsame⟩ := Steps.callFree hM p X₁.admits X₁.cas X₁.clock (acts := []) hfr2 happ (hbl _ _ _ _ (hpre vm₁ hw1)) trivial
  have htl : ((T.setVm vm₁).setTop { g with stack := rest }).frames = .java { g with stack := rest } :: below := by rw [State.frames_setTop' _ h.top, X₁.tail]
  rw [htl] at hend
  obtain ⟨T', X', hW3, hs3, e3⟩ := X₁.outOfThrown (g := { g with stack := rest }) hg2 (mk := mk) (a := (Value.ref b :: argsL).toArray) hend hW₂ hsame
  rw [List.append_nil] at X'
  have hh : T'.heap = s₂.heap := by rw [e3, Stand.throwing_heap]
  obtain ⟨z1, z2⟩ := sb_heap hs3
  refine ⟨x, (T.setVm vm₁).calling { g with stack := rest } mk (Value.ref b :: argsL).toArray, s₂, T', rfl, hw1.alike, X', hh, hq, z1, z2, fun target ht => ?_⟩
  refine hstep₁ _ fun acts => ?_
  rw [doInvoke_state]
  rw [doInvoke_state] at hsteps
  exact hsteps.trans (by rw [e3]; exact ht)
end CTH
