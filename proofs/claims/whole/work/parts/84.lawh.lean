-- the law's state: the tape, the reference, the row of one long; what a call leaves alone
def LwA (s : State) : Nat → Prop := fun y => s.heap.size ≤ y
def apart (wd ws : va_W) : Prop := ∀ (k : Nat) (q : Nat × va_E), wd[k]? = some q → nin ws q.1
def LwS (D : va_G) (a : Nat → Nat) (q : Nat → ClassId) (b : Nat → Nat) (r : Nat → ClassId) (u : Nat) (qu : ClassId) (T : TS) (M : RS) (gu : Int64) (H : Heap) : Prop :=
  (∃ g3 : Nat → Option Nat, va_P D CLS (wT a q (a 5) (a 7) T.1 T.2.1 T.2.2.1 g3 T.2.2.2.1 T.2.2.2.2.1 T.2.2.2.2.2.1 T.2.2.2.2.2.2.1 T.2.2.2.2.2.2.2.1 T.2.2.2.2.2.2.2.2.1 T.2.2.2.2.2.2.2.2.2.1 T.2.2.2.2.2.2.2.2.2.2.1 T.2.2.2.2.2.2.2.2.2.2.2.1 T.2.2.2.2.2.2.2.2.2.2.2.2.1 T.2.2.2.2.2.2.2.2.2.2.2.2.2.1 T.2.2.2.2.2.2.2.2.2.2.2.2.2.2.1 T.2.2.2.2.2.2.2.2.2.2.2.2.2.2.2.1) H ∧ tapeC D (dT a) g3 T.2.2.2.2.2.2.2.2.2.2.2.2.2.2.2.2 H) ∧
  va_P D CLS (wR b r M.1 M.2.1 M.2.2.1 M.2.2.2.1 M.2.2.2.2.1 M.2.2.2.2.2.1 M.2.2.2.2.2.2.1 M.2.2.2.2.2.2.2.1 M.2.2.2.2.2.2.2.2.1 M.2.2.2.2.2.2.2.2.2.1 M.2.2.2.2.2.2.2.2.2.2.1 M.2.2.2.2.2.2.2.2.2.2.2.1 M.2.2.2.2.2.2.2.2.2.2.2.2.1 M.2.2.2.2.2.2.2.2.2.2.2.2.2.1 M.2.2.2.2.2.2.2.2.2.2.2.2.2.2.1 M.2.2.2.2.2.2.2.2.2.2.2.2.2.2.2.1 M.2.2.2.2.2.2.2.2.2.2.2.2.2.2.2.2.1 M.2.2.2.2.2.2.2.2.2.2.2.2.2.2.2.2.2.1 M.2.2.2.2.2.2.2.2.2.2.2.2.2.2.2.2.2.2.1 M.2.2.2.2.2.2.2.2.2.2.2.2.2.2.2.2.2.2.2) H ∧
  va_P D CLS [(u, .inl (qu, 1, .inr (.inl (fun _ => gu))))] H
def LwCX (p : Program) (l : Launch) (s : State) (m : MethodId) (args : Array Value) (meth : Method) (c : Code) (D : va_G) (a : Nat → Nat) (q : Nat → ClassId) (b : Nat → Nat) (r : Nat → ClassId) (u : Nat) (qu : ClassId) (x L : Nat) (xs : Nat → Int32) (adK adV : Nat → Nat) : Prop :=
  CX p s m args meth c code 7 "OutwardTapeLaw" ret ∧ l.flags = flags0 ∧ va_K D CLS (tT q) s ∧ va_K D CLS (tR r) s ∧ va_K D CLS [(qu, .long)] s ∧ isS s.heap.size adK adV s ∧ ncX s ∧ va_X x L xs s s.heap ∧ x < s.heap.size ∧ va_D (LwA s) (dT a) ∧ va_D (LwA s) (dR b) ∧ LwA s u ∧ apart (dR b) (dT a) ∧ apart (dT a) (dR b) ∧ nin (dT a) u ∧ nin (dR b) u ∧ apart (dR b) (dT a ++ [(u, .inr (0, []))])
def LwV (xs : Nat → Int32) (L : Nat) (iv v1 v2 v3 v4 v5 : Int32) : Prop := vp_in (iv + 1) L ∧ vp_in (iv + 2) L ∧ vp_in (iv + 3) L ∧ vp_in (iv + 4) L ∧ vp_in (iv + 5) L ∧ xs (iv + 1).toNatClampNeg = v1 ∧ xs (iv + 2).toNatClampNeg = v2 ∧ xs (iv + 3).toNatClampNeg = v3 ∧ xs (iv + 4).toNatClampNeg = v4 ∧ xs (iv + 5).toNatClampNeg = v5
theorem kp_ap {D : va_G} {cl : List vw_C} {ws wd ws' : va_W} {H H1 : Heap} (hP : va_P D cl ws H) (e : ws.map (·.1) = wd.map (·.1)) (hd : apart wd ws') (hk : ∀ q : Nat, q < H.size → ¬ va_A ws' H.size q → H1[q]? = H[q]?) : va_P D cl ws H1 :=
  va_P.kept hP (fun k q hq => hk _ (hP k q hq).lt (not_va_A (by
    have h1 : (ws.map (·.1))[k]? = some q.1 := by rw [List.getElem?_map, hq]; rfl
    rw [e, List.getElem?_map] at h1
    cases hw : wd[k]? with
    | none => rw [hw] at h1; cases h1
    | some q' =>
      rw [hw] at h1
      have h2 : q'.1 = q.1 := Option.some.inj h1
      rw [← h2]
      exact hd k q' hw) (hP k q hq).lt))
theorem kp_u {D : va_G} {cl : List vw_C} {ws' : va_W} {H H1 : Heap} {u : Nat} {e : va_E} (hP : va_P D cl [(u, e)] H) (hu : nin ws' u) (hk : ∀ q : Nat, q < H.size → ¬ va_A ws' H.size q → H1[q]? = H[q]?) : va_P D cl [(u, e)] H1 :=
  va_P.kept hP (fun k q hq => hk _ (hP k q hq).lt (not_va_A (u1_nin hu hq) (hP k q hq).lt))
theorem fr_of {ws : va_W} {s : State} {H : Heap} {locs : List Loc} (hD : va_D (LwA s) ws) (hS : va_S (LwA s) s.heap H locs) : ∀ y, va_A ws H.size y → LwA s y := fun y h => by
  rcases h with ⟨k, e, h⟩ | h
  · exact hD.2 k _ h
  · exact Nat.le_trans hS.1 h
theorem fr_ofU {ws : va_W} {s : State} {H : Heap} {locs : List Loc} {u : Nat} {e : va_E} (hD : va_D (LwA s) ws) (hu : LwA s u) (hS : va_S (LwA s) s.heap H locs) : ∀ y, va_A (ws ++ [(u, e)]) H.size y → LwA s y := fun y h => by
  rcases h with ⟨k, e', h⟩ | h
  · rcases List.mem_append.mp (List.mem_of_getElem? h) with h1 | h1
    · obtain ⟨i, hi⟩ := List.getElem?_of_mem h1
      exact hD.2 i _ hi
    · cases List.mem_singleton.mp h1
      exact hu
  · exact Nat.le_trans hS.1 h
theorem cn_w {c k : Nat} (_ : 0 ≤ k) : c ≤ c + k := Nat.le_add_right c k
theorem cn_le {c k n N : Nat} (h : k ≤ n) (hc : c + n ≤ N) : c + k ≤ N := by omega
theorem tapeC.keptR {D : va_G} {tys : List (ClassId × FieldType)} {s : State} {ws : va_W} {g3 : Nat → Option Nat} {g17 : Nat → Option (Int64 × Int64 × Int32)} {H H1 : Heap} {b : Nat → Nat} {r : Nat → ClassId} {c0 : Int32} {c1 : Nat → Int32} {c2 c3 : Nat → Int64} {c4 : Nat → Int32} {c5 : Int32} {c6 : Nat → Int32} {c7 : Int32} {c8 : Nat → Int32} {c9 : Int32} {c10 c11 : Int64} {c12 c13 c14 : Int32} {c15 : Int64} {c16 c17 : Int32} {c18 : Int64} {c19 : Int32} (hK : va_K D CLS tys s) (hKR : va_K D CLS (tR r) s) (hP : va_P D CLS (wR b r c0 c1 c2 c3 c4 c5 c6 c7 c8 c9 c10 c11 c12 c13 c14 c15 c16 c17 c18 c19) H) (h : tapeC D ws g3 g17 H) (hk : ∀ q : Nat, q < H.size → ¬ va_A (dR b) H.size q → H1[q]? = H[q]?) : tapeC D ws g3 g17 H1 := fun i v hv => by
  obtain ⟨y, h1, h2, h3⟩ := h i v hv
  refine ⟨y, h1, h2.keptA hk ?_, h3⟩
  have ho := h2 0 _ rfl
  intro k e hk
  match k, hk with
  | 0, hk => cases hk; exact ob_ne_ob hK ho (hP 0 _ rfl) (r := _) (r' := _) rfl rfl (by decide) rfl
  | 1, hk => cases hk; exact ob_ne_arr hK hKR (k := 0) rfl ho (hP 1 _ rfl) rfl
  | 2, hk => cases hk; exact ob_ne_arr hK hKR (k := 1) rfl ho (hP 2 _ rfl) rfl
  | 3, hk => cases hk; exact ob_ne_arr hK hKR (k := 2) rfl ho (hP 3 _ rfl) rfl
  | 4, hk => cases hk; exact ob_ne_arr hK hKR (k := 3) rfl ho (hP 4 _ rfl) rfl
  | 5, hk => cases hk; exact ob_ne_arr hK hKR (k := 4) rfl ho (hP 5 _ rfl) rfl
  | 6, hk => cases hk; exact ob_ne_arr hK hKR (k := 5) rfl ho (hP 6 _ rfl) rfl
  | k + 7, hk => cases hk
