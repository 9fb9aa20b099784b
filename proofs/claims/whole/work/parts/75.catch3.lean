section CTR
variable {p : Program} {l : Launch} {e : Env} {R : Room} {s : State} {m : MethodId} {args : Array Value} {below : List Frame} {meth : Method} {c : Code} {H : Heap} {locs : List Loc} {cells slots : Nat} {Q : State → Prop}
set_option maxHeartbeats 4000000 in
/-- a call that throws: the walk goes on at the handler, the reference alone on the stack; what was there is as it was -/
theorem ct_row {Ts ws : List Cond} {cc bytes : ByteArray} {nL maxL index n mc ms pc hpc : Nat} {own C Cx : String} {y : MethodName} {ret : Option FieldType} {rm : Room} {Pc : Array Value → State → Prop} {Qt : Array Value → State → Addr → State → Prop} {b : Addr} {As rest st0 : List Value} {ls : Array Slot} {tb : List ExceptionTableEntry}
    (S : CallFix p m c cc nL s args Ts own) (hM : MetT l y ws rm Pc Qt mc ms) (cw : CallW R s args own C index y bytes maxL ret ws rm mc ms n) (hp : PreV s H C b Pc As) (hn : As.length = n) (hls : ls.size = nL) (hst : st0 = As.reverse ++ .ref b :: rest) (hW : (rest.map fun v => v.category).sum ≤ 8) (hdg : decode cc pc = .ok (.invokevirtual index, 3)) (hf : cells + mc ≤ R.cells ∧ slots + ms ≤ R.slots)
    (hq : ∀ a st x t, Qt a st x t → ∃ ce : Cell, t.heap[x]? = some ce ∧ st.vm.findClass Cx = some ce.cls ∧ ce.vm = .none) (htb : c.exceptionTable.toList = tb)
    (hgo : ∀ (T : State) (x : Addr) (ce : Cell), Stand p l e R s m args below meth c T locs (cells + mc) (slots + ms) → T.heap[x]? = some ce → s.vm.findClass Cx = some ce.cls → ce.vm = .none → ∃ vm', s.WarmedH vm' ∧ FGo e ((T.setTop (F0 m pc ls rest)).pushFrame (.throwing x)) (F0 m pc ls rest) x tb (.found hpc) vm')
    (kk : ∀ (x : Addr) (H1 : Heap), H.size ≤ H1.size → (∀ q : Nat, q < H.size → H1[q]? = H[q]?) → W p l e R s m args below meth c H1 locs (cells + mc) (slots + ms) Q (F0 m hpc ls [.ref x])) : W p l e R s m args below meth c H locs cells slots Q (F0 m pc ls st0) := by
  obtain ⟨⟨hrc, hrs, hfr, hlo, hws, -, hcode, hini, hy, hlen, hl⟩, hin, hse⟩ := cw
  obtain ⟨hx, hb, hml, ho, -⟩ := S
  obtain ⟨hbl, ⟨cellB, hcB, hoB, hclB⟩, hPc⟩ := hp
  subst hst
  intro T hT X
  obtain ⟨x, st₀, t, T', e1, hal, X', hh, hq1, z1, z2, st⟩ := cthV X hx ho hl hin hse hcode hini hy hM hbl hrc hrs hfr hlo hws (by rw [hT]; exact hcB) hoB hclB (g := F0 m pc ls (As.reverse ++ .ref b :: rest)) rfl (by show ls.size = c.maxLocals; rw [hls, hml]) (argsL := As) (rest := rest) (fun sig h => hn.trans (hlen sig h)) rfl (by show 2 * 0 + _ ≤ 8; omega) (by rw [hb]; exact hdg) hf.1 hf.2 (fun vm₁ hW₁ => hPc (T.setVm vm₁) hT hW₁)
  obtain ⟨ce, hce, hfc, hvm⟩ := hq _ _ _ _ hq1
  rw [hal.findClass] at hfc
  obtain ⟨vm', hw', hgo'⟩ := hgo T' x ce X' (by rw [hh]; exact hce) hfc hvm
  obtain ⟨t2, a1, b1⟩ := kk x T'.heap (by rw [← hT]; exact z1) (fun q h => by rw [← hT]; exact z2 q (by rw [hT]; exact h)) (T'.setVm vm') rfl (X'.noted hw')
  refine ⟨t2, st _ (caughtV (c := c) (g := F0 m pc ls rest) (vm' := vm') X'.here ?_ a1), b1⟩
  intro Q9 E9 d9 acts9
  rw [Jvm.W.findHandler_eq (meth := meth) (code := c) (by rw [Stand.throwing_vm]; exact X'.method') X'.code, htb]
  exact hgo' Q9 E9 d9 acts9
end CTR
