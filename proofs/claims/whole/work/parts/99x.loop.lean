-- written by wip/gen/loop.py: the law's turn and its loop
def R_law : String := "OutwardTapeLaw"
def lw_P (b : Addr) (xs : List Int32) (args : Array Value) (s : State) : Prop := args = #[.ref b] ∧ s.IntsAt b xs ∧ xs.length ≤ 3072 ∧ (Jvm.Cond.and given_1 narrow_1).before args s = true
def lw_Q (_ : Array Value) (s : State) (o : Outcome) (t : State) : Prop := o = .returned (some (.int 1)) ∧ Framed s o t [] 601024 7293034
def lw_Z (below : List Frame) (a : Array Value) (s : State) : State → Prop := fun t => ∃ o, t.status = .running ∧ Ended t below o ∧ lw_Q a s o t
/-- the law's own end, with 1 on the stack, nothing written that was there before, its room as the claim has it -/
theorem lw_ret {p : Program} {l : Launch} {e : Env} {s : State} {m : MethodId} {below : List Frame} {meth : Method} {c : Code} {b : Nat} (hx : p.tables.exec = Jvm.exec) (hb : c.code = code) (hr : meth.sig.returnType = ret) (hlocks : meth.locks = false) {pc : Nat} {H : Heap} {ls : Array Slot} (hdg : decode code pc = .ok (.ireturn, 1)) : W p l e room_1 s m #[Value.ref b] below meth c H [] 601024 7293034 (lw_Z below #[Value.ref b] s) (F0 m pc ls [.int 1]) := by
  intro T hT X
  obtain ⟨fs, hret, hrun, hended, hW, hframe⟩ := X.leave (v := some (.int 1)) (hlocks := hlocks) (fun h => by rw [hr] at h; cases h)
  have hmeth' : T.vm.method? m = some meth := X.method'
  refine ⟨T.setFrames fs, ?_, .returned (some (.int 1)), hrun, hended, rfl, ⟨_, rfl⟩, hW, hframe⟩
  jvm_step X.here [X.here.top, hx, hb, hdg, hmeth', hr, ret, narrow_b1]
  (try refine ⟨rfl, ?_⟩); (try refine ⟨rfl, ?_⟩)
  first | (intro acts; rw [hret _ acts rfl rfl rfl]) | rw [hret _ _ rfl rfl rfl]
  exact Steps.refl _
/-- what holds at the law's entry: the machine, the code, the tables' words (any of lw_tbl by 'hts w (by decide +kernel)'), the script of L ints xs at the cell b, what the Statement gives of the start (any of its parts by flat_of_before) -/
def lw_At (p : Program) (s : State) (m : MethodId) (meth : Method) (c : Code) (b L : Nat) (xs : Nat → Int32) : Prop :=
  p.tables.exec = Jvm.exec ∧ c.code = code ∧ meth.sig.returnType = ret ∧ c.maxLocals = 7 ∧ s.vm.findClass R_law = some m.cls ∧ (∀ w ∈ lw_tbl, w.before #[Value.ref b] s = true) ∧ va_X b L xs s s.heap ∧ b < s.heap.size ∧ meth.locks = false ∧ (Jvm.Cond.and given_1 narrow_1).before #[Value.ref b] s = true
section LOOP
variable {p : Program} {l : Launch} {e : Env} {s : State} {m : MethodId} {args : Array Value} {below : List Frame} {meth : Method} {c : Code} {Q : State → Prop} {D : va_G} {a : Nat → Nat} {q : Nat → ClassId} {b : Nat → Nat} {r : Nat → ClassId} {u : Nat} {qu : ClassId} {x L : Nat} {xs : Nat → Int32} {adK adV : Nat → Nat}
theorem law_turn {iv v0 v1 v2 v3 v4 v5 : Int32} {cells slots : Nat} {ls : Array Slot} {H : Heap} {locs : List Loc} {T : TS} {M : RS} {gu : Int64} {S1 : TS × RS × Int64} (hX0 : LwCX p l s m args meth c D a q b r u qu x L xs adK adV) (hv : LwV xs L iv v1 v2 v3 v4 v5) (hcc : cells + 4 ≤ room_1.cells ∧ slots + 12 ≤ room_1.slots) (hl : lv_has ls 7 [(0, .ref x), (1, .ref (a 0)), (2, .ref (b 0)), (3, .ref u), (4, .int iv)]) (hS : va_S (LwA s) s.heap H locs) (hLS : LwS D a q b r u qu T M gu H) (h : f_Law_step v0 v1 v2 v3 v4 v5 T M gu = some S1) (kk : ∀ (ls : Array Slot) (H : Heap) (locs : List Loc), lv_has ls 7 [(0, .ref x), (1, .ref (a 0)), (2, .ref (b 0)), (3, .ref u), (4, .int iv)] → va_S (LwA s) s.heap H locs → LwS D a q b r u qu S1.1 S1.2.1 S1.2.2 H → W p l e room_1 s m args below meth c H locs (cells + 4) (slots + 12) Q (F0 m 819 ls [])) : W p l e room_1 s m args below meth c H locs cells slots Q (F0 m 40 ls [.int (v0 &&& 15)]) := by
  have hx := hX0.1.1
  have hb := hX0.1.2.1
  obtain ⟨k, hk, ek⟩ := pk_andE v0 (m := (15 : Int32)) 4 (by decide)
  have ek : v0 &&& 15 = nI k := ek
  unfold f_Law_step at h
  rw [jl_, ek] at h
  rw [ek]
  have hc : k = 0 ∨ k = 1 ∨ k = 2 ∨ k = 3 ∨ k = 4 ∨ k = 5 ∨ k = 6 ∨ k = 7 ∨ k = 8 ∨ k = 9 ∨ k = 10 ∨ k = 11 ∨ k = 12 ∨ k = 13 ∨ k = 14 ∨ k = 15 := by omega
  rcases hc with e | e | e | e | e | e | e | e | e | e | e | e | e | e | e | e <;> subst e
  · rw [if_pos (show nI 0 = (0 : Int32) from rfl)] at h
    exact lv_tableIn (off := 80) (tgt := 120) hx hb (dt_at dt_Law_law_0 24 rfl) (by decide) (by decide) rfl (by decide) (k_Law_c0 hX0 hv hcc hl hS hLS h kk)
  · rw [if_neg (show ¬ nI 1 = (0 : Int32) by decide), if_pos (show nI 1 = (1 : Int32) from rfl)] at h
    exact lv_tableIn (off := 105) (tgt := 145) hx hb (dt_at dt_Law_law_0 24 rfl) (by decide) (by decide) rfl (by decide) (k_Law_c1 hX0 hv hcc hl hS hLS h kk)
  · rw [if_neg (show ¬ nI 2 = (0 : Int32) by decide), if_neg (show ¬ nI 2 = (1 : Int32) by decide), if_pos (show nI 2 = (2 : Int32) from rfl)] at h
    exact lv_tableIn (off := 116) (tgt := 156) hx hb (dt_at dt_Law_law_0 24 rfl) (by decide) (by decide) rfl (by decide) (k_Law_c2 hX0 hv hcc hl hS hLS h kk)
  · rw [if_neg (show ¬ nI 3 = (0 : Int32) by decide), if_neg (show ¬ nI 3 = (1 : Int32) by decide), if_neg (show ¬ nI 3 = (2 : Int32) by decide), if_pos (show nI 3 = (3 : Int32) from rfl)] at h
    exact lv_tableIn (off := 129) (tgt := 169) hx hb (dt_at dt_Law_law_0 24 rfl) (by decide) (by decide) rfl (by decide) (k_Law_c3 hX0 hv hcc hl hS hLS h kk)
  · rw [if_neg (show ¬ nI 4 = (0 : Int32) by decide), if_neg (show ¬ nI 4 = (1 : Int32) by decide), if_neg (show ¬ nI 4 = (2 : Int32) by decide), if_neg (show ¬ nI 4 = (3 : Int32) by decide), if_pos (show nI 4 = (4 : Int32) from rfl)] at h
    exact lv_tableIn (off := 173) (tgt := 213) hx hb (dt_at dt_Law_law_0 24 rfl) (by decide) (by decide) rfl (by decide) (k_Law_c4 hX0 hv hcc hl hS hLS h kk)
  · rw [if_neg (show ¬ nI 5 = (0 : Int32) by decide), if_neg (show ¬ nI 5 = (1 : Int32) by decide), if_neg (show ¬ nI 5 = (2 : Int32) by decide), if_neg (show ¬ nI 5 = (3 : Int32) by decide), if_neg (show ¬ nI 5 = (4 : Int32) by decide), if_pos (show nI 5 = (5 : Int32) from rfl)] at h
    exact lv_tableIn (off := 317) (tgt := 357) hx hb (dt_at dt_Law_law_0 24 rfl) (by decide) (by decide) rfl (by decide) (k_Law_c5 hX0 hv hcc hl hS hLS h kk)
  · rw [if_neg (show ¬ nI 6 = (0 : Int32) by decide), if_neg (show ¬ nI 6 = (1 : Int32) by decide), if_neg (show ¬ nI 6 = (2 : Int32) by decide), if_neg (show ¬ nI 6 = (3 : Int32) by decide), if_neg (show ¬ nI 6 = (4 : Int32) by decide), if_neg (show ¬ nI 6 = (5 : Int32) by decide), if_pos (show nI 6 = (6 : Int32) from rfl)] at h
    exact lv_tableIn (off := 385) (tgt := 425) hx hb (dt_at dt_Law_law_0 24 rfl) (by decide) (by decide) rfl (by decide) (k_Law_c6 hX0 hv hcc hl hS hLS h kk)
  · rw [if_neg (show ¬ nI 7 = (0 : Int32) by decide), if_neg (show ¬ nI 7 = (1 : Int32) by decide), if_neg (show ¬ nI 7 = (2 : Int32) by decide), if_neg (show ¬ nI 7 = (3 : Int32) by decide), if_neg (show ¬ nI 7 = (4 : Int32) by decide), if_neg (show ¬ nI 7 = (5 : Int32) by decide), if_neg (show ¬ nI 7 = (6 : Int32) by decide), if_pos (show nI 7 = (7 : Int32) from rfl)] at h
    exact lv_tableIn (off := 465) (tgt := 505) hx hb (dt_at dt_Law_law_0 24 rfl) (by decide) (by decide) rfl (by decide) (k_Law_c7 hX0 hv hcc hl hS hLS h kk)
  · rw [if_neg (show ¬ nI 8 = (0 : Int32) by decide), if_neg (show ¬ nI 8 = (1 : Int32) by decide), if_neg (show ¬ nI 8 = (2 : Int32) by decide), if_neg (show ¬ nI 8 = (3 : Int32) by decide), if_neg (show ¬ nI 8 = (4 : Int32) by decide), if_neg (show ¬ nI 8 = (5 : Int32) by decide), if_neg (show ¬ nI 8 = (6 : Int32) by decide), if_neg (show ¬ nI 8 = (7 : Int32) by decide), if_pos (show nI 8 = (8 : Int32) from rfl)] at h
    exact lv_tableIn (off := 478) (tgt := 518) hx hb (dt_at dt_Law_law_0 24 rfl) (by decide) (by decide) rfl (by decide) (k_Law_c8 hX0 hv hcc hl hS hLS h kk)
  · rw [if_neg (show ¬ nI 9 = (0 : Int32) by decide), if_neg (show ¬ nI 9 = (1 : Int32) by decide), if_neg (show ¬ nI 9 = (2 : Int32) by decide), if_neg (show ¬ nI 9 = (3 : Int32) by decide), if_neg (show ¬ nI 9 = (4 : Int32) by decide), if_neg (show ¬ nI 9 = (5 : Int32) by decide), if_neg (show ¬ nI 9 = (6 : Int32) by decide), if_neg (show ¬ nI 9 = (7 : Int32) by decide), if_neg (show ¬ nI 9 = (8 : Int32) by decide), if_pos (show nI 9 = (9 : Int32) from rfl)] at h
    exact lv_tableIn (off := 534) (tgt := 574) hx hb (dt_at dt_Law_law_0 24 rfl) (by decide) (by decide) rfl (by decide) (k_Law_c9 hX0 hv hcc hl hS hLS h kk)
  · rw [if_neg (show ¬ nI 10 = (0 : Int32) by decide), if_neg (show ¬ nI 10 = (1 : Int32) by decide), if_neg (show ¬ nI 10 = (2 : Int32) by decide), if_neg (show ¬ nI 10 = (3 : Int32) by decide), if_neg (show ¬ nI 10 = (4 : Int32) by decide), if_neg (show ¬ nI 10 = (5 : Int32) by decide), if_neg (show ¬ nI 10 = (6 : Int32) by decide), if_neg (show ¬ nI 10 = (7 : Int32) by decide), if_neg (show ¬ nI 10 = (8 : Int32) by decide), if_neg (show ¬ nI 10 = (9 : Int32) by decide), if_pos (show nI 10 = (10 : Int32) from rfl)] at h
    exact lv_tableIn (off := 559) (tgt := 599) hx hb (dt_at dt_Law_law_0 24 rfl) (by decide) (by decide) rfl (by decide) (k_Law_c10 hX0 hv hcc hl hS hLS h kk)
  · rw [if_neg (show ¬ nI 11 = (0 : Int32) by decide), if_neg (show ¬ nI 11 = (1 : Int32) by decide), if_neg (show ¬ nI 11 = (2 : Int32) by decide), if_neg (show ¬ nI 11 = (3 : Int32) by decide), if_neg (show ¬ nI 11 = (4 : Int32) by decide), if_neg (show ¬ nI 11 = (5 : Int32) by decide), if_neg (show ¬ nI 11 = (6 : Int32) by decide), if_neg (show ¬ nI 11 = (7 : Int32) by decide), if_neg (show ¬ nI 11 = (8 : Int32) by decide), if_neg (show ¬ nI 11 = (9 : Int32) by decide), if_neg (show ¬ nI 11 = (10 : Int32) by decide), if_pos (show nI 11 = (11 : Int32) from rfl)] at h
    exact lv_tableIn (off := 585) (tgt := 625) hx hb (dt_at dt_Law_law_0 24 rfl) (by decide) (by decide) rfl (by decide) (k_Law_c11 hX0 hv hcc hl hS hLS h kk)
  · rw [if_neg (show ¬ nI 12 = (0 : Int32) by decide), if_neg (show ¬ nI 12 = (1 : Int32) by decide), if_neg (show ¬ nI 12 = (2 : Int32) by decide), if_neg (show ¬ nI 12 = (3 : Int32) by decide), if_neg (show ¬ nI 12 = (4 : Int32) by decide), if_neg (show ¬ nI 12 = (5 : Int32) by decide), if_neg (show ¬ nI 12 = (6 : Int32) by decide), if_neg (show ¬ nI 12 = (7 : Int32) by decide), if_neg (show ¬ nI 12 = (8 : Int32) by decide), if_neg (show ¬ nI 12 = (9 : Int32) by decide), if_neg (show ¬ nI 12 = (10 : Int32) by decide), if_neg (show ¬ nI 12 = (11 : Int32) by decide), if_pos (show nI 12 = (12 : Int32) from rfl)] at h
    exact lv_tableIn (off := 611) (tgt := 651) hx hb (dt_at dt_Law_law_0 24 rfl) (by decide) (by decide) rfl (by decide) (k_Law_c12 hX0 hv hcc hl hS hLS h kk)
  · rw [if_neg (show ¬ nI 13 = (0 : Int32) by decide), if_neg (show ¬ nI 13 = (1 : Int32) by decide), if_neg (show ¬ nI 13 = (2 : Int32) by decide), if_neg (show ¬ nI 13 = (3 : Int32) by decide), if_neg (show ¬ nI 13 = (4 : Int32) by decide), if_neg (show ¬ nI 13 = (5 : Int32) by decide), if_neg (show ¬ nI 13 = (6 : Int32) by decide), if_neg (show ¬ nI 13 = (7 : Int32) by decide), if_neg (show ¬ nI 13 = (8 : Int32) by decide), if_neg (show ¬ nI 13 = (9 : Int32) by decide), if_neg (show ¬ nI 13 = (10 : Int32) by decide), if_neg (show ¬ nI 13 = (11 : Int32) by decide), if_neg (show ¬ nI 13 = (12 : Int32) by decide), if_pos (show nI 13 = (13 : Int32) from rfl)] at h
    exact lv_tableIn (off := 660) (tgt := 700) hx hb (dt_at dt_Law_law_0 24 rfl) (by decide) (by decide) rfl (by decide) (k_Law_c13 hX0 hv hcc hl hS hLS h kk)
  · rw [if_neg (show ¬ nI 14 = (0 : Int32) by decide), if_neg (show ¬ nI 14 = (1 : Int32) by decide), if_neg (show ¬ nI 14 = (2 : Int32) by decide), if_neg (show ¬ nI 14 = (3 : Int32) by decide), if_neg (show ¬ nI 14 = (4 : Int32) by decide), if_neg (show ¬ nI 14 = (5 : Int32) by decide), if_neg (show ¬ nI 14 = (6 : Int32) by decide), if_neg (show ¬ nI 14 = (7 : Int32) by decide), if_neg (show ¬ nI 14 = (8 : Int32) by decide), if_neg (show ¬ nI 14 = (9 : Int32) by decide), if_neg (show ¬ nI 14 = (10 : Int32) by decide), if_neg (show ¬ nI 14 = (11 : Int32) by decide), if_neg (show ¬ nI 14 = (12 : Int32) by decide), if_neg (show ¬ nI 14 = (13 : Int32) by decide), if_pos (show nI 14 = (14 : Int32) from rfl)] at h
    exact lv_tableIn (off := 698) (tgt := 738) hx hb (dt_at dt_Law_law_0 24 rfl) (by decide) (by decide) rfl (by decide) (k_Law_c14 hX0 hv hcc hl hS hLS h kk)
  · rw [if_neg (show ¬ nI 15 = (0 : Int32) by decide), if_neg (show ¬ nI 15 = (1 : Int32) by decide), if_neg (show ¬ nI 15 = (2 : Int32) by decide), if_neg (show ¬ nI 15 = (3 : Int32) by decide), if_neg (show ¬ nI 15 = (4 : Int32) by decide), if_neg (show ¬ nI 15 = (5 : Int32) by decide), if_neg (show ¬ nI 15 = (6 : Int32) by decide), if_neg (show ¬ nI 15 = (7 : Int32) by decide), if_neg (show ¬ nI 15 = (8 : Int32) by decide), if_neg (show ¬ nI 15 = (9 : Int32) by decide), if_neg (show ¬ nI 15 = (10 : Int32) by decide), if_neg (show ¬ nI 15 = (11 : Int32) by decide), if_neg (show ¬ nI 15 = (12 : Int32) by decide), if_neg (show ¬ nI 15 = (13 : Int32) by decide), if_neg (show ¬ nI 15 = (14 : Int32) by decide), if_pos (show nI 15 = (15 : Int32) from rfl)] at h
    exact lv_tableIn (off := 768) (tgt := 808) hx hb (dt_at dt_Law_law_0 24 rfl) (by decide) (by decide) rfl (by decide) (k_Law_c15 hX0 hv hcc hl hS hLS h kk)
theorem lp_gt {L k : Nat} (hL : L ≤ 3072) (hk : k ≤ 512) : (Int32.ofNat L - 6 < nI (6 * k)) ↔ L < 6 * k + 6 := by
  rw [Int32.lt_iff_toInt_lt, show Int32.ofNat L - 6 = nI L - nI 6 from rfl, pk_sub_toInt (by omega) (by decide), nI_toInt (by omega)]
  omega
theorem lp_in {i j L : Nat} (h : i + j < L) (hL : L ≤ 3072) : vp_in (nI i + nI j) L := by
  rw [nI_add]
  exact ji_ h (by omega)
theorem law_loop (hX0 : LwCX p l s m #[Value.ref x] meth c D a q b r u qu x L xs adK adV) (hL : L ≤ 3072) : ∀ (n k : Nat), k + n = 512 → ∀ (ls : Array Slot) (H : Heap) (locs : List Loc) (T : TS) (M : RS) (gu : Int64), lv_has ls 7 [(0, .ref x), (1, .ref (a 0)), (2, .ref (b 0)), (3, .ref u), (4, .int (nI (6 * k)))] → va_S (LwA s) s.heap H locs → LwS D a q b r u qu T M gu H → INV T M → W p l e room_1 s m #[Value.ref x] below meth c H locs (17 + 4 * k) (1277 + 12 * k) (lw_Z below #[Value.ref x] s) (F0 m 23 ls []) := by
  have hx := hX0.1.1
  have hb := hX0.1.2.1
  have hr := hX0.1.2.2.2.2.2.1
  have hlocks := hX0.1.2.2.2.2.2.2
  obtain ⟨-, -, -, -, -, -, -, hX, hxl, -⟩ := id hX0
  have hxA : ¬ LwA s x := fun h9 => absurd hxl (Nat.not_lt.mpr h9)
  intro n
  induction n with
  | zero =>
    intro k hk ls H locs T M gu hl hS hLS hI
    refine lv_iload hx hb (dt_at dt_Law_law_0 13 rfl) (lv_at hl 4 rfl) ?_
    refine lv_aload_n hx hb (dt_at dt_Law_law_0 14 rfl) rfl (lv_at hl 0 rfl) ?_
    refine va_slen hx hb hX hxl hxA hS (dt_at dt_Law_law_0 15 rfl) ?_
    refine lv_bipush (v := 6) hx hb (dt_at dt_Law_law_0 16 rfl) (by decide) ?_
    refine lv_isub hx hb (dt_at dt_Law_law_0 17 rfl) ?_
    refine lv_icmp_gt (tgt := 825) hx hb (dt_at dt_Law_law_0 18 rfl) (by decide) (fun c1 => ?_) (fun c1 => ?_)
    · refine lv_iconst (v := 1) hx hb (dt_at dt_Law_law_10 1 rfl) (by decide) ?_
      refine va_forget hS.2.2 ?_
      refine W.widen (k := 601024) (n := 7293034) (by omega) (by omega) ?_
      exact lw_ret hx hb hr hlocks (dt_at dt_Law_law_10 2 rfl)
    · rw [lp_gt hL (by omega)] at c1
      omega
  | succ n ih =>
    intro k hk ls H locs T M gu hl hS hLS hI
    refine lv_iload hx hb (dt_at dt_Law_law_0 13 rfl) (lv_at hl 4 rfl) ?_
    refine lv_aload_n hx hb (dt_at dt_Law_law_0 14 rfl) rfl (lv_at hl 0 rfl) ?_
    refine va_slen hx hb hX hxl hxA hS (dt_at dt_Law_law_0 15 rfl) ?_
    refine lv_bipush (v := 6) hx hb (dt_at dt_Law_law_0 16 rfl) (by decide) ?_
    refine lv_isub hx hb (dt_at dt_Law_law_0 17 rfl) ?_
    refine lv_icmp_gt (tgt := 825) hx hb (dt_at dt_Law_law_0 18 rfl) (by decide) (fun c1 => ?_) (fun c1 => ?_)
    · refine lv_iconst (v := 1) hx hb (dt_at dt_Law_law_10 1 rfl) (by decide) ?_
      refine va_forget hS.2.2 ?_
      refine W.widen (k := 601024) (n := 7293034) (by omega) (by omega) ?_
      exact lw_ret hx hb hr hlocks (dt_at dt_Law_law_10 2 rfl)
    · rw [lp_gt hL (by omega)] at c1
      refine lv_aload_n hx hb (dt_at dt_Law_law_0 19 rfl) rfl (lv_at hl 0 rfl) ?_
      refine lv_iload hx hb (dt_at dt_Law_law_0 20 rfl) (lv_at hl 4 rfl) ?_
      refine va_sld hx hb hX hxl hxA hS (ji_ (show 6 * k < L by omega) (by omega)) (dt_at dt_Law_law_0 21 rfl) ?_
      refine lv_bipush (v := 15) hx hb (dt_at dt_Law_law_0 22 rfl) (by decide) ?_
      refine lv_iand hx hb (dt_at dt_Law_law_0 23 rfl) ?_
      obtain ⟨T', M', gu', ee, hI'⟩ := ok_step (xs (nI (6 * k)).toNatClampNeg) (xs (nI (6 * k) + 1).toNatClampNeg) (xs (nI (6 * k) + 2).toNatClampNeg) (xs (nI (6 * k) + 3).toNatClampNeg) (xs (nI (6 * k) + 4).toNatClampNeg) (xs (nI (6 * k) + 5).toNatClampNeg) gu hI
      refine law_turn (iv := nI (6 * k)) hX0 ⟨lp_in (j := 1) (by omega) hL, lp_in (j := 2) (by omega) hL, lp_in (j := 3) (by omega) hL, lp_in (j := 4) (by omega) hL, lp_in (j := 5) (by omega) hL, rfl, rfl, rfl, rfl, rfl⟩ ⟨show 17 + 4 * k + 4 ≤ 601024 by omega, show 1277 + 12 * k + 12 ≤ 7293034 by omega⟩ hl hS hLS ee (fun ls H locs hl hS hLS => ?_)
      refine lv_iinc (k := 4) (v := nI (6 * (k + 1))) hx hb (dt_at dt_Law_law_9 49 rfl) hl rfl (nI_add (6 * k) 6) (by decide) rfl (fun ls hl => ?_)
      refine lv_goto (tgt := 23) hx hb (dt_at dt_Law_law_10 0 rfl) (by decide) ?_
      refine W.widen (k := 17 + 4 * (k + 1)) (n := 1277 + 12 * (k + 1)) (by omega) (by omega) ?_
      exact ih (k + 1) (by omega) _ _ _ _ _ _ (lv_sub hl [1, 2, 3, 4, 0] rfl) hS hLS hI'
end LOOP
