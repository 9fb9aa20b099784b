-- a call that throws, caught in the caller; the caught class may be resolved on the way
section FH
variable {E : CtlPost} {e : Env} {d : Bool} {acts : List Action} {s : State} {f : JFrame} {a : Addr} {Q : Handler → Pre}
theorem fh_cold {x : ExceptionTableEntry} {t : List ExceptionTableEntry} {c : ClassId} {cell : Cell} {vm' : Vm} (hx : covers x f.pc = true) (h0 : x.catchType ≠ 0)
    (hg : (Jvm.resolveClass f.method.cls x.catchType).Gives e.toSetting s.vm (.ok c) vm') (hsz : vm'.classes.size ≤ s.vm.classes.size) (hcell : s.heap[a]? = some cell) (hobj : ∀ k, cell.vm ≠ .statics k)
    (hk : ∃ k, vm'.classes[cell.cls]? = some k) (hc : ∃ k, vm'.classes[c]? = some k) :
    wp (findHandler.go f a (x :: t)) Q E e d acts s ↔
      if vm'.assignable cell.cls c = true then Q (.found x.handlerPc) d acts (s.setVm vm') else wp (findHandler.go f a t) Q E e d acts (s.setVm vm') := by
  obtain ⟨ha, ht⟩ := hg.op (op := VmOp.resolveClass f.method.cls x.catchType) rfl
  simp only [covers] at hx
  cases hfit : vm'.assignable cell.cls c <;>
    simp [findHandler.go, hx, h0, ha, ht, hsz, hcell, hobj, hk, hc, hfit, VmOp.dirties, VmOp.acts]
end FH
def FGo (e : Env) (s : State) (f : JFrame) (a : Addr) (t : List ExceptionTableEntry) (h : Handler) (vm' : Vm) : Prop :=
  ∀ (Q : Handler → Pre) (E : CtlPost) (d : Bool) (acts : List Action), wp (findHandler.go f a t) Q E e d acts s ↔ Q h d acts (s.setVm vm')
theorem st_catchV {e : Env} {s : State} {a : Addr} {f : JFrame} {r : List Frame} {pc : Nat} {vm' : Vm} (hfind : ∀ (Q : Handler → Pre) (E : CtlPost) (d : Bool) (acts : List Action), wp (findHandler f a) Q E e d acts s ↔ Q (.found pc) d acts (s.setVm vm')) :
    (stepThrowing e s a (.java f :: r)).Is ((s.setVm vm').setFrames (.java { f with pc := pc, stack := [.ref a] } :: r)) [] := by
  simp only [stepThrowing, searchFrame, vmDo]
  generalize hr : Sem.go _ e false [] s = res
  obtain ⟨as, rfl, ha⟩ := Sem.eq_ok_of hr (a := Handler.found pc) (s' := s.setVm vm') (acts' := []) (by simp [hfind _ _ _ _])
  exact ⟨rfl, ha⟩
theorem caughtV {tb : Tables} {e : Env} {s target : State} {g : JFrame} {c : Code} {below : List Frame} {a : Addr} {vm' : Vm} (h : At s g.method c below) {pc : Nat}
    (hfind : ∀ (Q : Handler → Pre) (E : CtlPost) (d : Bool) (acts : List Action), wp (findHandler g a) Q E e d acts ((s.setTop g).pushFrame (.throwing a)) ↔ Q (.found pc) d acts (((s.setTop g).pushFrame (.throwing a)).setVm vm'))
    (hrest : Steps tb e below ((s.setVm vm').setTop { g with pc := pc, stack := [.ref a] }) target) :
    Steps tb e below ((s.setTop g).pushFrame (.throwing a)) target := by
  obtain ⟨hgo, hw⟩ := h.throwing a
  refine Steps.head hgo hw ?_
  rw [stepThread_throwing (frames_entered h.top _), (st_catchV (s := (s.setTop g).pushFrame (.throwing a)) hfind).1]
  obtain ⟨g₀, hg⟩ := Option.isSome_iff_exists.mp h.top
  obtain ⟨r, hr⟩ := State.topJava?_eq_some.mp hg
  have hr' : (s.setVm vm').frames = .java g₀ :: r := hr
  have e1 : ((s.setTop g).pushFrame (.throwing a)).setVm vm' = ((s.setVm vm').setTop g).pushFrame (.throwing a) := rfl
  rw [e1, State.pushFrame, State.setFrames_setFrames, State.setTop_of_frames _ hr', State.setFrames_setFrames]
  rw [State.setTop_of_frames _ hr'] at hrest
  rw [hr]
  exact hrest
section CAT
variable {p : Program} {l : Launch} {e : Env} {R : Room} {s : State} {m : MethodId} {args : Array Value} {below : List Frame} {meth : Method} {c : Code} {T : State} {locs : List Loc} {cells slots : Nat}
theorem cat_hit (X : Stand p l e R s m args below meth c T locs cells slots) {g : JFrame} (hg : g.method = m) {x : Addr} {ent : ExceptionTableEntry} (t : List ExceptionTableEntry) {own C : String} (hown : s.vm.findClass own = some m.cls)
    (hl : (Cond.classLink own ent.catchType C).before args s = true) (hcov : covers ent g.pc = true) (h0 : ent.catchType ≠ 0) {ce : Cell} (hce : T.heap[x]? = some ce) (hcls : s.vm.findClass C = some ce.cls) (hvm : ce.vm = .none) :
    ∃ vm', s.WarmedH vm' ∧ FGo e ((T.setTop g).pushFrame (.throwing x)) g x (ent :: t) (.found ent.handlerPc) vm' := by
  have hpl : e.platform.magicAccessors = ({} : Platform).magicAccessors := by rw [X.admits.platform]
  obtain ⟨cc, hfcc, hcl⟩ := Cond.classLink_spec hown hl e.platform hpl
  obtain ⟨hg₁, hwarm₁, hready₁⟩ := State.classEntry (e := e) X.warmed hcl
  cases hcls.symm.trans hfcc
  refine ⟨T.vm.noted m.cls ent.catchType (.cls ce.cls), hwarm₁, fun Q E d acts => ?_⟩
  obtain ⟨k, hk⟩ := Vm.classAt_of_findClass hcls
  obtain ⟨k₁, hk₁, -⟩ := hwarm₁.alike.2.2 _ _ hk
  rw [fh_cold (vm' := T.vm.noted m.cls ent.catchType (.cls ce.cls)) (c := ce.cls) (cell := ce) hcov h0 (by rw [Stand.throwing_vm, hg]; exact hg₁) (by rw [Stand.throwing_vm]; no_record) (by rw [Stand.throwing_heap]; exact hce) (fun k h => by rw [hvm] at h; cases h) ⟨k₁, hk₁⟩ ⟨k₁, hk₁⟩, if_pos (va_asg _ _)]
theorem cat_pass (X : Stand p l e R s m args below meth c T locs cells slots) {g : JFrame} (hg : g.method = m) {x : Addr} {ent : ExceptionTableEntry} {t : List ExceptionTableEntry} {own C Y : String} {h : Handler} (hown : s.vm.findClass own = some m.cls)
    (hl : (Cond.classLink own ent.catchType Y).before args s = true) (hcov : covers ent g.pc = true) (h0 : ent.catchType ≠ 0) {ce : Cell} (hce : T.heap[x]? = some ce) (hcls : s.vm.findClass C = some ce.cls) (hvm : ce.vm = .none) (hno : va_Nc C Y s)
    (hrest : ∀ T' : State, Stand p l e R s m args below meth c T' locs cells slots → T'.heap = T.heap → ∃ vm', s.WarmedH vm' ∧ FGo e ((T'.setTop g).pushFrame (.throwing x)) g x t h vm') :
    ∃ vm', s.WarmedH vm' ∧ FGo e ((T.setTop g).pushFrame (.throwing x)) g x (ent :: t) h vm' := by
  have hpl : e.platform.magicAccessors = ({} : Platform).magicAccessors := by rw [X.admits.platform]
  obtain ⟨cY, hfcc, hcl⟩ := Cond.classLink_spec hown hl e.platform hpl
  obtain ⟨hg₁, hwarm₁, hready₁⟩ := State.classEntry (e := e) X.warmed hcl
  obtain ⟨vm', hw', hgo⟩ := hrest (T.setVm (T.vm.noted m.cls ent.catchType (.cls cY))) (X.noted hwarm₁) rfl
  refine ⟨vm', hw', fun Q E d acts => ?_⟩
  obtain ⟨k, hk⟩ := Vm.classAt_of_findClass hcls
  obtain ⟨k₁, hk₁, -⟩ := hwarm₁.alike.2.2 _ _ hk
  obtain ⟨kY, hkY⟩ := Vm.classAt_of_findClass hfcc
  obtain ⟨kY₁, hkY₁, -⟩ := hwarm₁.alike.2.2 _ _ hkY
  obtain ⟨c9, t9, q1, q2, q3⟩ := va_Nc.moved (U := s.setVm (T.vm.noted m.cls ent.catchType (.cls cY))) hwarm₁.alike hno
  have q1' : (T.vm.noted m.cls ent.catchType (.cls cY)).findClass C = some c9 := q1
  have q2' : (T.vm.noted m.cls ent.catchType (.cls cY)).findClass Y = some t9 := q2
  rw [hwarm₁.alike.findClass] at q1' q2'
  cases hcls.symm.trans q1'
  cases hfcc.symm.trans q2'
  have q3' : (T.vm.noted m.cls ent.catchType (.cls cY)).assignable ce.cls cY = false := q3
  rw [fh_cold (vm' := T.vm.noted m.cls ent.catchType (.cls cY)) (c := cY) (cell := ce) hcov h0 (by rw [Stand.throwing_vm, hg]; exact hg₁) (by rw [Stand.throwing_vm]; no_record) (by rw [Stand.throwing_heap]; exact hce) (fun k h => by rw [hvm] at h; cases h) ⟨k₁, hk₁⟩ ⟨kY₁, hkY₁⟩, if_neg (by rw [q3']; decide)]
  exact hgo Q E d acts
end CAT
