set_option maxRecDepth 100000 in
set_option maxHeartbeats 4000000 in
theorem th_own {p : Program} {l : Launch} {e : Env} {R : Room} {s : State} {m : MethodId} {args : Array Value} {below : List Frame} {meth : Method} {c : Code} {cc : ByteArray} {nL : Nat} {ret : Option FieldType} {X tx : String} {ixC ixS ixI q pc : Nat} {ls : Array Slot}
    (hC : CX p s m args meth c cc nL "OutwardTape" ret) (hfl : l.flags = flags0) (hne : c.exceptionTable.isEmpty = true) (hls : ls.size = nL)
    (hX : Bundle.fit X = true) (hat : ∀ a ∈ Bundle.ownAtoms "OutwardTape" ixI X exN, a.before args s = true)
    (hlk : (Cond.classLink "OutwardTape" ixC X).before args s = true) (hin : (Cond.instantiable X 6).before args s = true) (hini : (Cond.initialized X).before args s = true)
    (hstr : vk_R "OutwardTape" ixS tx q s)
    (d0 : decode cc pc = .ok (.new ixC, 3)) (d1 : decode cc (pc + 3) = .ok (.dup, 1)) (d2 : decode cc (pc + 4) = .ok (.ldc ixS, 2)) (d3 : decode cc (pc + 6) = .ok (.invokespecial ixI, 3)) (d4 : decode cc (pc + 9) = .ok (.athrow, 1))
    (hf : 6 ≤ R.frames) (hlo : 90 ≤ R.locals) (hc1 : 1 ≤ R.cells) (hs1 : 6 ≤ R.slots) :
    W p l e R s m args below meth c s.heap [] 0 0 (MQT below (fun _ st x t => ∃ ce : Cell, t.heap[x]? = some ce ∧ st.vm.findClass X = some ce.cls ∧ ce.vm = .none) args s 1 6) (F0 m pc ls []) := by
  obtain ⟨hx, hb, hml, hown, hts, hr, hlocks⟩ := hC
  refine W.newc (n := 6) hx hb hown hlk hin hini rfl d0 (by omega) (by omega) (fun cC kC h1 h2 h3 h4 => ?_)
  refine W.eq (g2 := F0 m (pc + 3) ls [.ref s.heap.size]) rfl ?_
  refine lv_dup hx hb d1 rfl ?_
  refine va_ldcS hx hb hown hstr d2 ?_
  intro T hT Xs
  obtain ⟨U, hsteps, hrun, hend, hW, hsame, ce, hce, hoc⟩ := Xs.ctorThrowS hx (th_trace Xs.admits hfl) (own := "OutwardTape") (cls := X) (names := exN) (ic := ixI) hown hX (by decide +kernel) hat (fun x h => absurd h List.not_mem_nil) (a := s.heap.size) (cX := cC) (kX := kC) h1 h2 (by rw [hT]; simp) (Nat.le_refl _) (msg := .ref q) rfl (g := F0 m (pc + 3 + 1 + 2) ls [.ref q, .ref s.heap.size, .ref s.heap.size]) rfl (by show ls.size = c.maxLocals; rw [hml, hls]) rfl rfl (rest := []) rfl (by rw [hb]; exact d3) (by rw [hb]; exact d4) (fun x hx9 => by
      have h9 : c.exceptionTable = #[] := Array.isEmpty_iff.mp hne
      rw [h9] at hx9
      simp at hx9) (show exN.length + 3 < R.frames by show 2 + 3 < R.frames; omega) (by show 2 * 0 + (1 + 0) + (13 * (2 + 1) + 42) ≤ R.locals; omega) (hlocks := hlocks)
  exact ⟨U, hsteps, s.heap.size, hrun, hend, ⟨ce, hce, hoc.cls, hoc.vm⟩, hW, hsame⟩
