-- written by wip/gen/inv.py: the invariant between tape and reference, and the law's calls
def IV (t0 t1 : Int32) (t2 : Nat → Int32) (t17 : Nat → Option (Int64 × Int64 × Int32)) (m0 : Int32) (m1 : Nat → Int32) (m2 m3 : Nat → Int64) (m4 m6 : Nat → Int32) (m7 : Int32) (m8 : Nat → Int32) (m9 m14 : Int32) : Prop := ∃ (c S : Nat) (X : Nat → Option (Option (Int × Int × Nat))) (N : Nat → Nat) (ov b : Bool), c ≤ 40 ∧ t0 = nI S ∧ t1 = nI c ∧ Txt S t2 m6 ∧ (∀ i, i < c → t17 i = some (cc (X i)) ∧ CellOk (X i) ∧ AtR (X i) i m1 m2 m3 m4) ∧ m0 = nI c ∧ m7 = nI S ∧ Big m8 N ∧ m9 = bI ov ∧ m14 = bI b
def INV (T : TS) (M : RS) : Prop := match T, M with
  | (t0, t1, t2, t4, t5, t6, t7, t8, t9, t10, t11, t12, t13, t14, t15, t16, t17), (m0, m1, m2, m3, m4, m5, m6, m7, m8, m9, m10, m11, m12, m13, m14, m15, m16, m17, m18, m19) => IV t0 t1 t2 t17 m0 m1 m2 m3 m4 m6 m7 m8 m9 m14
theorem app_ok {c : Nat} (hc : c < 40) (a b : Int64) (m : Int32) (t17 : Nat → Option (Int64 × Int64 × Int32)) : f_Tape_append a b m (nI c) t17 = some (nI c, nI (c + 1), va_up t17 c (some (a, b, m))) := by
  unfold f_Tape_append
  rw [if_pos (ji_ hc (by decide)), nI_clamp (by omega), show nI c + 1 = nI (c + 1) from nI_add c 1, show nI (c + 1) - 1 = nI c from pk_sub (a := c + 1) (b := 1) (by omega)]
theorem add_X {c : Nat} {X : Nat → Option (Option (Int × Int × Nat))} {X0 : Option (Option (Int × Int × Nat))} {t17 : Nat → Option (Int64 × Int64 × Int32)} {m1 : Nat → Int32} {m2 m3 : Nat → Int64} {m4 : Nat → Int32} (hX : ∀ i, i < c → t17 i = some (cc (X i)) ∧ CellOk (X i) ∧ AtR (X i) i m1 m2 m3 m4) (h0 : CellOk X0) : ∀ i, i < c + 1 → va_up t17 c (some (cc X0)) i = some (cc (if i = c then X0 else X i)) ∧ CellOk (if i = c then X0 else X i) ∧ AtR (if i = c then X0 else X i) i (upd m1 c (kc X0).1) (vp_updL m2 c (kc X0).2.1) (vp_updL m3 c (kc X0).2.2.1) (upd m4 c (kc X0).2.2.2) := by
  intro i hi
  unfold va_up AtR
  by_cases e : i = c
  · subst e
    rw [if_pos rfl, if_pos rfl, pk_us, pk_uLs, pk_uLs, pk_us]
    exact ⟨rfl, h0, rfl, rfl, rfl, rfl⟩
  · rw [if_neg e, if_neg e, pk_un e, pk_uLn e, pk_uLn e, pk_un e]
    exact hX i (by omega)
theorem IV.add {t2 m6 m8 : Nat → Int32} {t17 : Nat → Option (Int64 × Int64 × Int32)} {m1 : Nat → Int32} {m2 m3 : Nat → Int64} {m4 : Nat → Int32} {c S : Nat} {X : Nat → Option (Option (Int × Int × Nat))} {N : Nat → Nat} {ov b : Bool} (hc : c < 40) (hT : Txt S t2 m6) (hX : ∀ i, i < c → t17 i = some (cc (X i)) ∧ CellOk (X i) ∧ AtR (X i) i m1 m2 m3 m4) (hB : Big m8 N) {X0 : Option (Option (Int × Int × Nat))} (h0 : CellOk X0) : IV (nI S) (nI (c + 1)) t2 (va_up t17 c (some (cc X0))) (nI (c + 1)) (upd m1 c (kc X0).1) (vp_updL m2 c (kc X0).2.1) (vp_updL m3 c (kc X0).2.2.1) (upd m4 c (kc X0).2.2.2) m6 (nI S) m8 (bI ov) (bI b) := ⟨c + 1, S, _, N, ov, b, by omega, rfl, rfl, hT, add_X hX h0, rfl, rfl, hB, rfl, rfl⟩
def OK (F : Option (TS × RS × Int64)) : Prop := ∃ T' M' gu', F = some (T', M', gu') ∧ INV T' M'
theorem lt40 {c : Nat} (hc : c ≤ 40) : (nI c < (40 : Int32) ↔ c < 40) ∧ (nI c = (40 : Int32) ↔ c = 40) := ⟨nI_ltI (b := 40) (by omega) (by decide), nI_eq (b := 40) (by omega) (by decide)⟩
theorem ok_c0 (v1 v2 v3 v4 v5 : Int32) {T : TS} {M : RS} (gu : Int64) (h : INV T M) : OK (f_Law_c0 v1 v2 v3 v4 v5 T M gu) := by
  obtain ⟨t0, t1, t2, t4, t5, t6, t7, t8, t9, t10, t11, t12, t13, t14, t15, t16, t17⟩ := T
  obtain ⟨m0, m1, m2, m3, m4, m5, m6, m7, m8, m9, m10, m11, m12, m13, m14, m15, m16, m17, m18, m19⟩ := M
  obtain ⟨c, S, X, N, ov, b, hc, e0, e1, hT, hX, f0, f7, hB, f9, f14⟩ := h
  replace e0 : t0 = nI S := e0
  replace e1 : t1 = nI c := e1
  replace f0 : m0 = nI c := f0
  replace f7 : m7 = nI S := f7
  replace f9 : m9 = bI ov := f9
  replace f14 : m14 = bI b := f14
  subst e0 e1 f0 f7 f9 f14
  obtain ⟨z, S', a', b', e1, e2, e3⟩ := type_ok (w := v1) (g5 := m5) hT
  unfold f_Law_c0
  dsimp only
  rw [e1, Option.bind_some, e2, Option.bind_some, if_pos rfl]
  exact ⟨_, _, _, rfl, c, S', X, N, ov, b, hc, rfl, rfl, e3, hX, rfl, rfl, hB, rfl, rfl⟩
theorem ok_c1 (v1 v2 v3 v4 v5 : Int32) {T : TS} {M : RS} (gu : Int64) (h : INV T M) : OK (f_Law_c1 v1 v2 v3 v4 v5 T M gu) := by
  obtain ⟨t0, t1, t2, t4, t5, t6, t7, t8, t9, t10, t11, t12, t13, t14, t15, t16, t17⟩ := T
  obtain ⟨m0, m1, m2, m3, m4, m5, m6, m7, m8, m9, m10, m11, m12, m13, m14, m15, m16, m17, m18, m19⟩ := M
  obtain ⟨c, S, X, N, ov, b, hc, e0, e1, hT, hX, f0, f7, hB, f9, f14⟩ := h
  replace e0 : t0 = nI S := e0
  replace e1 : t1 = nI c := e1
  replace f0 : m0 = nI c := f0
  replace f7 : m7 = nI S := f7
  replace f9 : m9 = bI ov := f9
  replace f14 : m14 = bI b := f14
  subst e0 e1 f0 f7 f9 f14
  exact ⟨_, _, _, rfl, c, 0, X, N, ov, b, hc, rfl, rfl, ⟨by decide, fun _ => 0, fun k hk => absurd hk (Nat.not_lt_zero _)⟩, hX, rfl, rfl, hB, rfl, rfl⟩
theorem ok_c2 (v1 v2 v3 v4 v5 : Int32) {T : TS} {M : RS} (gu : Int64) (h : INV T M) : OK (f_Law_c2 v1 v2 v3 v4 v5 T M gu) := by
  obtain ⟨t0, t1, t2, t4, t5, t6, t7, t8, t9, t10, t11, t12, t13, t14, t15, t16, t17⟩ := T
  obtain ⟨m0, m1, m2, m3, m4, m5, m6, m7, m8, m9, m10, m11, m12, m13, m14, m15, m16, m17, m18, m19⟩ := M
  obtain ⟨c, S, X, N, ov, b, hc, e0, e1, hT, hX, f0, f7, hB, f9, f14⟩ := h
  replace e0 : t0 = nI S := e0
  replace e1 : t1 = nI c := e1
  replace f0 : m0 = nI c := f0
  replace f7 : m7 = nI S := f7
  replace f9 : m9 = bI ov := f9
  replace f14 : m14 = bI b := f14
  subst e0 e1 f0 f7 f9 f14
  unfold f_Law_c2 f_Tape_length f_Tape_length_0 f_Ref_length f_Ref_length_0
  dsimp only
  rw [Option.bind_some, Option.bind_some, if_pos rfl]
  exact ⟨_, _, _, rfl, c, S, X, N, ov, b, hc, rfl, rfl, hT, hX, rfl, rfl, hB, rfl, rfl⟩
theorem ok_c3 (v1 v2 v3 v4 v5 : Int32) {T : TS} {M : RS} (gu : Int64) (h : INV T M) : OK (f_Law_c3 v1 v2 v3 v4 v5 T M gu) := by
  obtain ⟨t0, t1, t2, t4, t5, t6, t7, t8, t9, t10, t11, t12, t13, t14, t15, t16, t17⟩ := T
  obtain ⟨m0, m1, m2, m3, m4, m5, m6, m7, m8, m9, m10, m11, m12, m13, m14, m15, m16, m17, m18, m19⟩ := M
  obtain ⟨c, S, X, N, ov, b, hc, e0, e1, hT, hX, f0, f7, hB, f9, f14⟩ := h
  replace e0 : t0 = nI S := e0
  replace e1 : t1 = nI c := e1
  replace f0 : m0 = nI c := f0
  replace f7 : m7 = nI S := f7
  replace f9 : m9 = bI ov := f9
  replace f14 : m14 = bI b := f14
  subst e0 e1 f0 f7 f9 f14
  obtain ⟨hS, Tc, hTc⟩ := id hT
  unfold f_Law_c3 f_Law_literal f_Tape_literal f_Tape_literal_0 f_Ref_thrown f_Ref_thrown_0
  dsimp only
  by_cases h40 : c < 40
  · obtain ⟨r, e1⟩ := cread_ok hS (fun k hk => (hTc k hk).2.2) (fun k hk => (hTc k hk).1) t4 t5 t6 t7 t8 t9 t10 t11 t12 t13 t14 t15 t16
    have L := rlit_ok (g5 := m5) (g10 := m10) (g11 := m11) (g13 := m13) (g15 := m15) (g16 := m16) (g17 := m17) (g18 := m18) (g19 := m19) (b := b) (ov := ov) hS (fun k hk => (hTc k hk).2.2) (fun k hk => (hTc k hk).2.1) h40 (g1 := m1) (g2 := m2) (g3 := m3) (g4 := m4) hB
    obtain ⟨g8', N', ov', y10, y11, y13, b', r', e2, b2⟩ := L
    rw [if_pos ((lt40 hc).1.mpr h40), e1, Option.bind_some, app_ok h40, Option.bind_some, Option.bind_some]
    dsimp only
    rw [Option.bind_some, jl_, e2, Option.bind_some, jl_, Option.bind_some, if_pos rfl, if_pos rfl, if_pos rfl]
    exact ⟨_, _, _, rfl, IV.add h40 hT hX b2 (LIT_F (tx_T hS (fun k hk => (hTc k hk).2.2)))⟩
  · have hc40 : c = 40 := by omega
    subst hc40
    rw [if_neg (by decide)]
    show OK ((some ((1 : Int32), gu, nI 40, t4, t5, t6, t7, t8, t9, t10, t11, t12, t13, t14, t15, t16, t17)).bind _)
    rw [Option.bind_some, jl_, rlit_full, Option.bind_some, jl_, Option.bind_some, if_pos rfl, if_neg (show ¬ (1 : Int32) = 0 by decide)]
    exact ⟨_, _, _, rfl, 40, S, X, N, ov, b, hc, rfl, rfl, hT, hX, rfl, rfl, hB, rfl, rfl⟩
theorem big_v {v : Int32} {n : Nat} (hn : n + 1 < 2147483648) (h : nI (n + 1) ≤ v) : ¬ v < 0 ∧ ¬ v < nI (n + 1) ∧ ¬ v ≤ nI n := by
  have e1 : (nI (n + 1)).toInt = ((n + 1 : Nat) : Int) := by rw [z_nI]; exact z_ti (by omega) (by omega)
  have e2 : (nI n).toInt = (n : Int) := by rw [z_nI]; exact z_ti (by omega) (by omega)
  have e3 : (0 : Int32).toInt = 0 := by decide
  rw [Int32.le_iff_toInt_le] at h
  rw [Int32.lt_iff_toInt_lt, Int32.lt_iff_toInt_lt, Int32.le_iff_toInt_le]
  omega
theorem wb_k {c : Nat} {t17 : Nat → Option (Int64 × Int64 × Int32)} {gu : Int64} {v1 v3 : Int64} {v5 : Int32} {k : Nat} {q : Int32} (e : f_Tape_bounds v1 v3 v5 (nI c) t17 = some (.inl k)) (hk : (k = 0 ∧ q = (2 : Int32)) ∨ (k = 1 ∧ q = (1 : Int32))) : f_Law_bounds gu v1 v3 v5 (nI c) t17 = some (q, gu, nI c, t17) := by
  unfold f_Law_bounds
  rw [e, Option.bind_some]
  rcases hk with ⟨h1, h2⟩ | ⟨h1, h2⟩ <;> subst h1 h2 <;> rfl
theorem wu_k {c : Nat} {t17 : Nat → Option (Int64 × Int64 × Int32)} {gu : Int64} {v1 v2 : Int32} {k : Nat} {q : Int32} (e : f_Tape_unary v1 v2 (nI c) t17 = some (.inl k)) (hk : (k = 0 ∧ q = (3 : Int32)) ∨ (k = 1 ∧ q = (1 : Int32)) ∨ (k = 2 ∧ q = (2 : Int32))) : f_Law_unary gu v1 v2 (nI c) t17 = some (q, gu, nI c, t17) := by
  unfold f_Law_unary
  rw [e, Option.bind_some]
  rcases hk with ⟨h1, h2⟩ | ⟨h1, h2⟩ | ⟨h1, h2⟩ <;> subst h1 h2 <;> rfl
theorem w2_k {c : Nat} {t17 : Nat → Option (Int64 × Int64 × Int32)} {gu : Int64} {v1 v2 v3 : Int32} {k : Nat} {q : Int32} (e : f_Tape_binary v1 v2 v3 (nI c) t17 = some (.inl k)) (hk : (k = 0 ∧ q = (3 : Int32)) ∨ (k = 1 ∧ q = (1 : Int32)) ∨ (k = 2 ∧ q = (2 : Int32))) : f_Law_binary gu v1 v2 v3 (nI c) t17 = some (q, gu, nI c, t17) := by
  unfold f_Law_binary
  rw [e, Option.bind_some]
  rcases hk with ⟨h1, h2⟩ | ⟨h1, h2⟩ | ⟨h1, h2⟩ <;> subst h1 h2 <;> rfl
theorem ok_c5 (v1 v2 v3 v4 v5 : Int32) {T : TS} {M : RS} (gu : Int64) (h : INV T M) : OK (f_Law_c5 v1 v2 v3 v4 v5 T M gu) := by
  obtain ⟨t0, t1, t2, t4, t5, t6, t7, t8, t9, t10, t11, t12, t13, t14, t15, t16, t17⟩ := T
  obtain ⟨m0, m1, m2, m3, m4, m5, m6, m7, m8, m9, m10, m11, m12, m13, m14, m15, m16, m17, m18, m19⟩ := M
  obtain ⟨c, S, X, N, ov, b, hc, e0, e1, hT, hX, f0, f7, hB, f9, f14⟩ := h
  replace e0 : t0 = nI S := e0
  replace e1 : t1 = nI c := e1
  replace f0 : m0 = nI c := f0
  replace f7 : m7 = nI S := f7
  replace f9 : m9 = bI ov := f9
  replace f14 : m14 = bI b := f14
  subst e0 e1 f0 f7 f9 f14
  have THR : ∀ q : Int32, q ≠ 0 → f_Law_unary gu v1 v2 (nI c) t17 = some (q, gu, nI c, t17) → f_Ref_unary v1 v2 (nI c) m1 m2 m3 m4 m5 m8 (bI ov) m10 m11 m12 = some ((0 : Int32), nI c, m1, m2, m3, m4, q, m8, bI ov, m10, m11, m12) → OK (f_Law_c5 v1 v2 v3 v4 v5 (nI S, nI c, t2, t4, t5, t6, t7, t8, t9, t10, t11, t12, t13, t14, t15, t16, t17) (nI c, m1, m2, m3, m4, m5, m6, nI S, m8, bI ov, m10, m11, m12, m13, bI b, m15, m16, m17, m18, m19) gu) := fun q hq e1 e2 => by
    unfold f_Law_c5 f_Ref_thrown f_Ref_thrown_0
    dsimp only
    rw [e1, Option.bind_some, jl_, e2, Option.bind_some, jl_, Option.bind_some, if_pos rfl, if_neg hq]
    exact ⟨_, _, _, rfl, c, S, X, N, ov, b, hc, rfl, rfl, hT, hX, rfl, rfl, hB, rfl, rfl⟩
  have R41 : ∀ q : Int32, ¬ q ≤ 0 → f_Ref_unary_41 q v1 v2 (nI c) m1 m2 m3 m4 m5 m8 (bI ov) m10 m11 m12 = some ((0 : Int32), nI c, m1, m2, m3, m4, q, m8, bI ov, m10, m11, m12) := fun q hq => by
    unfold f_Ref_unary_41
    rw [if_neg hq]
  rcases pk_ix v1 (n := 9) (by decide) with hneg | hbig | ⟨f, hf, ef⟩
  · refine THR 1 (by decide) (wu_k (k := 1) ?_ (Or.inr (Or.inl ⟨rfl, rfl⟩))) ?_
    · unfold f_Tape_unary f_Tape_unary_0 f_Tape_unary_10
      rw [if_pos hneg]
    · unfold f_Ref_unary f_Ref_unary_0 f_Ref_unary_11
      rw [if_pos hneg, R41 1 (by decide)]
  · obtain ⟨hn, hb, hb2⟩ := big_v (n := 8) (by decide) hbig
    refine THR 1 (by decide) (wu_k (k := 1) ?_ (Or.inr (Or.inl ⟨rfl, rfl⟩))) ?_
    · unfold f_Tape_unary f_Tape_unary_0 f_Tape_unary_10
      rw [if_neg hn, if_neg (show ¬ v1 < (9 : Int32) from hb)]
    · unfold f_Ref_unary f_Ref_unary_0 f_Ref_unary_11
      rw [if_neg hn, if_neg (show ¬ v1 ≤ (8 : Int32) from hb2), R41 1 (by decide)]
  · subst ef
    have hn : ¬ nI f < 0 := nI_nlt (b := 0) (Nat.zero_le _) (by omega)
    have h9 : nI f < (9 : Int32) := nI_lt (b := 9) hf (by decide)
    have h8 : nI f ≤ (8 : Int32) := nI_le (b := 8) (by omega) (by decide)
    rcases there_ok hc v2 with ht | ⟨i, hi, ei, ht⟩
    · refine THR 2 (by decide) (wu_k (k := 2) ?_ (Or.inr (Or.inr ⟨rfl, rfl⟩))) ?_
      · unfold f_Tape_unary f_Tape_unary_0
        rw [if_neg hn, if_pos h9, there_eq, ht, Option.bind_some, if_pos rfl]
      · unfold f_Ref_unary f_Ref_unary_0
        rw [if_neg hn, if_pos h8, ht, Option.bind_some, if_pos rfl, R41 2 (by decide)]
    · subst ei
      by_cases h40 : c < 40
      · obtain ⟨x1, x2, x3⟩ := hX i hi
        obtain ⟨g8', N', ov', r', e2, b2⟩ := rone_all hf x2 (show i < 40 by omega) h40 x3 hB ov m5 m10 m11 m12
        have E1 : f_Law_unary gu (nI f) (nI i) (nI c) t17 = some ((0 : Int32), (nI c).toInt64, nI (c + 1), va_up t17 c (some (cc (ONEV f (X i))))) := by
          unfold f_Law_unary f_Tape_unary f_Tape_unary_0
          rw [if_neg hn, if_pos h9, there_eq, ht, Option.bind_some, if_neg (by decide), if_pos ((lt40 hc).1.mpr h40), if_pos (ji_ (by omega) (by decide)), nI_clamp (by omega), x1, Option.bind_some, cone_all hf x2, Option.bind_some, app_ok h40]
          rfl
        have E2 : f_Ref_unary (nI f) (nI i) (nI c) m1 m2 m3 m4 m5 m8 (bI ov) m10 m11 m12 = f_Ref_unary_41 (0 : Int32) (nI f) (nI i) (nI c) m1 m2 m3 m4 m5 m8 (bI ov) m10 m11 m12 := by
          unfold f_Ref_unary f_Ref_unary_0
          rw [if_neg hn, if_pos h8, ht, Option.bind_some, if_neg (by decide), if_neg (fun h9 => by have := (lt40 hc).2.mp h9; omega)]
        unfold f_Law_c5 f_Ref_thrown f_Ref_thrown_0
        dsimp only
        rw [E1, Option.bind_some, jl_, E2, e2, Option.bind_some, jl_, Option.bind_some, if_pos rfl, if_pos rfl, if_pos rfl]
        exact ⟨_, _, _, rfl, IV.add h40 hT hX b2 (ONEV_ok x2)⟩
      · refine THR 3 (by decide) (wu_k (k := 0) ?_ (Or.inl ⟨rfl, rfl⟩)) ?_
        · unfold f_Tape_unary f_Tape_unary_0
          rw [if_neg hn, if_pos h9, there_eq, ht, Option.bind_some, if_neg (by decide), if_neg (fun h9 => h40 ((lt40 hc).1.mp h9))]
        · unfold f_Ref_unary f_Ref_unary_0
          rw [if_neg hn, if_pos h8, ht, Option.bind_some, if_neg (by decide), if_pos ((lt40 hc).2.mpr (by omega)), R41 3 (by decide)]
theorem ok_c6 (v1 v2 v3 v4 v5 : Int32) {T : TS} {M : RS} (gu : Int64) (h : INV T M) : OK (f_Law_c6 v1 v2 v3 v4 v5 T M gu) := by
  obtain ⟨t0, t1, t2, t4, t5, t6, t7, t8, t9, t10, t11, t12, t13, t14, t15, t16, t17⟩ := T
  obtain ⟨m0, m1, m2, m3, m4, m5, m6, m7, m8, m9, m10, m11, m12, m13, m14, m15, m16, m17, m18, m19⟩ := M
  obtain ⟨c, S, X, N, ov, b, hc, e0, e1, hT, hX, f0, f7, hB, f9, f14⟩ := h
  replace e0 : t0 = nI S := e0
  replace e1 : t1 = nI c := e1
  replace f0 : m0 = nI c := f0
  replace f7 : m7 = nI S := f7
  replace f9 : m9 = bI ov := f9
  replace f14 : m14 = bI b := f14
  subst e0 e1 f0 f7 f9 f14
  have THR : ∀ q : Int32, q ≠ 0 → f_Law_binary gu v1 v2 v3 (nI c) t17 = some (q, gu, nI c, t17) → f_Ref_binary v1 v2 v3 (nI c) m1 m2 m3 m4 m5 m8 (bI ov) m10 m11 m12 = some ((0 : Int32), nI c, m1, m2, m3, m4, q, m8, bI ov, m10, m11, m12) → OK (f_Law_c6 v1 v2 v3 v4 v5 (nI S, nI c, t2, t4, t5, t6, t7, t8, t9, t10, t11, t12, t13, t14, t15, t16, t17) (nI c, m1, m2, m3, m4, m5, m6, nI S, m8, bI ov, m10, m11, m12, m13, bI b, m15, m16, m17, m18, m19) gu) := fun q hq e1 e2 => by
    unfold f_Law_c6 f_Ref_thrown f_Ref_thrown_0
    dsimp only
    rw [e1, Option.bind_some, jl_, e2, Option.bind_some, jl_, Option.bind_some, if_pos rfl, if_neg hq]
    exact ⟨_, _, _, rfl, c, S, X, N, ov, b, hc, rfl, rfl, hT, hX, rfl, rfl, hB, rfl, rfl⟩
  have R49 : ∀ q : Int32, ¬ q ≤ 0 → f_Ref_binary_49 q v1 v2 v3 (nI c) m1 m2 m3 m4 m5 m8 (bI ov) m10 m11 m12 = some ((0 : Int32), nI c, m1, m2, m3, m4, q, m8, bI ov, m10, m11, m12) := fun q hq => by
    unfold f_Ref_binary_49
    rw [if_neg hq]
  rcases pk_ix v1 (n := 8) (by decide) with hneg | hbig | ⟨f, hf, ef⟩
  · refine THR 1 (by decide) (w2_k (k := 1) ?_ (Or.inr (Or.inl ⟨rfl, rfl⟩))) ?_
    · unfold f_Tape_binary f_Tape_binary_0 f_Tape_binary_10
      rw [if_pos hneg]
    · unfold f_Ref_binary f_Ref_binary_0 f_Ref_binary_11
      rw [if_pos hneg, R49 1 (by decide)]
  · obtain ⟨hn, hb, hb2⟩ := big_v (n := 7) (by decide) hbig
    refine THR 1 (by decide) (w2_k (k := 1) ?_ (Or.inr (Or.inl ⟨rfl, rfl⟩))) ?_
    · unfold f_Tape_binary f_Tape_binary_0 f_Tape_binary_10
      rw [if_neg hn, if_neg (show ¬ v1 < (8 : Int32) from hb)]
    · unfold f_Ref_binary f_Ref_binary_0 f_Ref_binary_11
      rw [if_neg hn, if_neg (show ¬ v1 ≤ (7 : Int32) from hb2), R49 1 (by decide)]
  · subst ef
    have hn : ¬ nI f < 0 := nI_nlt (b := 0) (Nat.zero_le _) (by omega)
    have h9 : nI f < (8 : Int32) := nI_lt (b := 8) hf (by decide)
    have h8 : nI f ≤ (7 : Int32) := nI_le (b := 7) (by omega) (by decide)
    rcases there_ok hc v2 with ht | ⟨i, hi, ei, ht⟩
    · refine THR 2 (by decide) (w2_k (k := 2) ?_ (Or.inr (Or.inr ⟨rfl, rfl⟩))) ?_
      · unfold f_Tape_binary f_Tape_binary_0 f_Tape_binary_36
        rw [if_neg hn, if_pos h9, there_eq, ht, Option.bind_some, if_pos rfl]
      · unfold f_Ref_binary f_Ref_binary_0 f_Ref_binary_31
        rw [if_neg hn, if_pos h8, ht, Option.bind_some, if_pos rfl, R49 2 (by decide)]
    · subst ei
      rcases there_ok hc v3 with ht3 | ⟨j, hj, ej, ht3⟩
      · refine THR 2 (by decide) (w2_k (k := 2) ?_ (Or.inr (Or.inr ⟨rfl, rfl⟩))) ?_
        · unfold f_Tape_binary f_Tape_binary_0 f_Tape_binary_36
          rw [if_neg hn, if_pos h9, there_eq, ht, Option.bind_some, if_neg (by decide), there_eq, ht3, Option.bind_some, if_pos rfl]
        · unfold f_Ref_binary f_Ref_binary_0 f_Ref_binary_31
          rw [if_neg hn, if_pos h8, ht, Option.bind_some, if_neg (by decide), ht3, Option.bind_some, if_pos rfl, R49 2 (by decide)]
      · subst ej
        by_cases h40 : c < 40
        · obtain ⟨x1, x2, x3⟩ := hX i hi
          obtain ⟨y1, y2, y3⟩ := hX j hj
          obtain ⟨g8', N', ov', r', e2, b2⟩ := rtwo_all hf x2 y2 (show i < 40 by omega) (show j < 40 by omega) h40 x3 y3 hB ov m5 m10 m11 m12
          have E1 : f_Law_binary gu (nI f) (nI i) (nI j) (nI c) t17 = some ((0 : Int32), (nI c).toInt64, nI (c + 1), va_up t17 c (some (cc (TWOV f (X i) (X j))))) := by
            unfold f_Law_binary f_Tape_binary f_Tape_binary_0
            rw [if_neg hn, if_pos h9, there_eq, ht, Option.bind_some, if_neg (by decide), there_eq, ht3, Option.bind_some, if_neg (by decide), if_pos ((lt40 hc).1.mpr h40), if_pos (ji_ (by omega) (by decide)), nI_clamp (by omega), x1, Option.bind_some, if_pos (ji_ (by omega) (by decide)), nI_clamp (by omega), y1, Option.bind_some, ctwo_all hf x2 y2, Option.bind_some, app_ok h40]
            rfl
          have E2 : f_Ref_binary (nI f) (nI i) (nI j) (nI c) m1 m2 m3 m4 m5 m8 (bI ov) m10 m11 m12 = f_Ref_binary_49 (0 : Int32) (nI f) (nI i) (nI j) (nI c) m1 m2 m3 m4 m5 m8 (bI ov) m10 m11 m12 := by
            unfold f_Ref_binary f_Ref_binary_0
            rw [if_neg hn, if_pos h8, ht, Option.bind_some, if_neg (by decide), ht3, Option.bind_some, if_neg (by decide), if_neg (fun h9 => by have := (lt40 hc).2.mp h9; omega)]
          unfold f_Law_c6 f_Ref_thrown f_Ref_thrown_0
          dsimp only
          rw [E1, Option.bind_some, jl_, E2, e2, Option.bind_some, jl_, Option.bind_some, if_pos rfl, if_pos rfl, if_pos rfl]
          exact ⟨_, _, _, rfl, IV.add h40 hT hX b2 (TWOV_ok x2 y2)⟩
        · refine THR 3 (by decide) (w2_k (k := 0) ?_ (Or.inl ⟨rfl, rfl⟩)) ?_
          · unfold f_Tape_binary f_Tape_binary_0
            rw [if_neg hn, if_pos h9, there_eq, ht, Option.bind_some, if_neg (by decide), there_eq, ht3, Option.bind_some, if_neg (by decide), if_neg (fun h9 => h40 ((lt40 hc).1.mp h9))]
          · unfold f_Ref_binary f_Ref_binary_0
            rw [if_neg hn, if_pos h8, ht, Option.bind_some, if_neg (by decide), ht3, Option.bind_some, if_neg (by decide), if_pos ((lt40 hc).2.mpr (by omega)), R49 3 (by decide)]
theorem ok_c4 (v1 v2 v3 v4 v5 : Int32) {T : TS} {M : RS} (gu : Int64) (h : INV T M) : OK (f_Law_c4 v1 v2 v3 v4 v5 T M gu) := by
  obtain ⟨t0, t1, t2, t4, t5, t6, t7, t8, t9, t10, t11, t12, t13, t14, t15, t16, t17⟩ := T
  obtain ⟨m0, m1, m2, m3, m4, m5, m6, m7, m8, m9, m10, m11, m12, m13, m14, m15, m16, m17, m18, m19⟩ := M
  obtain ⟨c, S, X, N, ov, b, hc, e0, e1, hT, hX, f0, f7, hB, f9, f14⟩ := h
  replace e0 : t0 = nI S := e0
  replace e1 : t1 = nI c := e1
  replace f0 : m0 = nI c := f0
  replace f7 : m7 = nI S := f7
  replace f9 : m9 = bI ov := f9
  replace f14 : m14 = bI b := f14
  subst e0 e1 f0 f7 f9 f14
  obtain ⟨lo, hlo⟩ : ∃ lo, lo = (j_lshl (v1.toInt64) (32 : Int32)) ||| ((v2.toInt64) &&& (4294967295 : Int64)) := ⟨_, rfl⟩
  obtain ⟨hi', hhi⟩ : ∃ hi', hi' = (j_lshl (v3.toInt64) (32 : Int32)) ||| ((v4.toInt64) &&& (4294967295 : Int64)) := ⟨_, rfl⟩
  have THR : ∀ q : Int32, q ≠ 0 → f_Law_bounds gu lo hi' v5 (nI c) t17 = some (q, gu, nI c, t17) → f_Ref_bounds lo hi' v5 (nI c) m1 m2 m3 m4 m5 = some ((0 : Int32), nI c, m1, m2, m3, m4, q) → OK (f_Law_c4 v1 v2 v3 v4 v5 (nI S, nI c, t2, t4, t5, t6, t7, t8, t9, t10, t11, t12, t13, t14, t15, t16, t17) (nI c, m1, m2, m3, m4, m5, m6, nI S, m8, bI ov, m10, m11, m12, m13, bI b, m15, m16, m17, m18, m19) gu) := fun q hq e1 e2 => by
    unfold f_Law_c4 f_Ref_thrown f_Ref_thrown_0
    dsimp only
    rw [← hlo, ← hhi, e1, Option.bind_some, jl_, e2, Option.bind_some, jl_, Option.bind_some, if_pos rfl, if_neg hq]
    exact ⟨_, _, _, rfl, c, S, X, N, ov, b, hc, rfl, rfl, hT, hX, rfl, rfl, hB, rfl, rfl⟩
  have GOOD : ∀ X0 : Option (Option (Int × Int × Nat)), c < 40 → CellOk X0 → f_Law_bounds gu lo hi' v5 (nI c) t17 = some ((0 : Int32), (nI c).toInt64, nI (c + 1), va_up t17 c (some (cc X0))) → f_Ref_bounds lo hi' v5 (nI c) m1 m2 m3 m4 m5 = some (nI c, nI (c + 1), upd m1 c (kc X0).1, vp_updL m2 c (kc X0).2.1, vp_updL m3 c (kc X0).2.2.1, upd m4 c (kc X0).2.2.2, (0 : Int32)) → OK (f_Law_c4 v1 v2 v3 v4 v5 (nI S, nI c, t2, t4, t5, t6, t7, t8, t9, t10, t11, t12, t13, t14, t15, t16, t17) (nI c, m1, m2, m3, m4, m5, m6, nI S, m8, bI ov, m10, m11, m12, m13, bI b, m15, m16, m17, m18, m19) gu) := fun X0 h40 hx e1 e2 => by
    unfold f_Law_c4 f_Ref_thrown f_Ref_thrown_0
    dsimp only
    rw [← hlo, ← hhi, e1, Option.bind_some, jl_, e2, Option.bind_some, jl_, Option.bind_some, if_pos rfl, if_pos rfl, if_pos rfl]
    exact ⟨_, _, _, rfl, IV.add h40 hT hX hB hx⟩
  have R31 : ∀ q : Int32, ¬ q ≤ 0 → f_Ref_bounds_31 q lo hi' v5 (nI c) m1 m2 m3 m4 m5 = some ((0 : Int32), nI c, m1, m2, m3, m4, q) := fun q hq => by
    unfold f_Ref_bounds_31
    rw [if_neg hq]
  rcases pk_ix v5 (n := 5) (by decide) with hneg | hbig | ⟨d, hd, ed⟩
  · have h1 : v5 < (1 : Int32) := by
      rw [Int32.lt_iff_toInt_lt] at hneg ⊢
      have e1 : (0 : Int32).toInt = 0 := by decide
      have e2 : (1 : Int32).toInt = 1 := by decide
      omega
    refine THR 1 (by decide) (wb_k (k := 1) ?_ (Or.inr ⟨rfl, rfl⟩)) ?_
    · unfold f_Tape_bounds f_Tape_bounds_0 f_Tape_bounds_12
      rw [if_pos h1]
    · unfold f_Ref_bounds f_Ref_bounds_0 f_Ref_bounds_13
      rw [if_pos h1, R31 1 (by decide)]
  · obtain ⟨hn, hb, hb2⟩ := big_v (n := 4) (by decide) hbig
    have h1 : ¬ v5 < (1 : Int32) := by
      rw [Int32.lt_iff_toInt_lt]
      rw [Int32.le_iff_toInt_le] at hb2
      have e1 : (nI 4).toInt = 4 := by decide
      have e2 : (1 : Int32).toInt = 1 := by decide
      omega
    refine THR 1 (by decide) (wb_k (k := 1) ?_ (Or.inr ⟨rfl, rfl⟩)) ?_
    · unfold f_Tape_bounds f_Tape_bounds_0 f_Tape_bounds_12
      rw [if_neg h1, if_neg (show ¬ v5 ≤ (4 : Int32) from hb2)]
    · unfold f_Ref_bounds f_Ref_bounds_0 f_Ref_bounds_13
      rw [if_neg h1, if_neg (show ¬ v5 ≤ (4 : Int32) from hb2), R31 1 (by decide)]
  · subst ed
    by_cases hd0 : d = 0
    · subst hd0
      refine THR 1 (by decide) (wb_k (k := 1) ?_ (Or.inr ⟨rfl, rfl⟩)) ?_
      · unfold f_Tape_bounds f_Tape_bounds_0 f_Tape_bounds_12
        rw [if_pos (by decide)]
      · unfold f_Ref_bounds f_Ref_bounds_0 f_Ref_bounds_13
        rw [if_pos (by decide), R31 1 (by decide)]
    · have h1 : ¬ nI d < (1 : Int32) := nI_nlt (b := 1) (by omega) (by omega)
      have h4 : nI d ≤ (4 : Int32) := nI_le (b := 4) (by omega) (by decide)
      by_cases h40 : c < 40
      · have hc0 : ¬ nI c = (40 : Int32) := fun h9 => by have := (lt40 hc).2.mp h9; omega
        have ILLc : f_Tape_bounds_55 (nI c) t17 = some (.inr (nI c, nI (c + 1), va_up t17 c (some (cc none)))) := by
          unfold f_Tape_bounds_55 f_Cell_ill f_Cell_ill_0
          rw [Option.bind_some, app_ok h40, Option.bind_some]
          rfl
        have ILLr : ∀ v5' : Int32, f_Ref_bounds_71 lo hi' v5' (nI c) m1 m2 m3 m4 (0 : Int32) = some (nI c, nI (c + 1), upd m1 c (kc none).1, vp_updL m2 c (kc none).2.1, vp_updL m3 c (kc none).2.2.1, upd m4 c (kc none).2.2.2, (0 : Int32)) := fun v5' => by
          obtain ⟨a1, _, _, _, o1⟩ := bits_ok lo
          obtain ⟨a2, _, _, _, o2⟩ := bits_ok hi'
          unfold f_Ref_bounds_71 f_Ref_bounds_72 f_Ref_bounds_133 f_Ref_ill f_Ref_ill_0
          rw [o1, Option.bind_some, o2, Option.bind_some, if_pos rfl, rcell_ok h40, Option.bind_some, Option.bind_some]
          rfl
        rcases rank_ok lo with ⟨n1, n2⟩ | ⟨l, hl, n1, n2, n3, n4⟩
        · refine GOOD none h40 trivial ?_ ?_
          · unfold f_Law_bounds f_Tape_bounds f_Tape_bounds_0
            rw [if_neg h1, if_pos h4, if_pos ((lt40 hc).1.mpr h40), n1, Option.bind_some, if_pos rfl, ILLc]
            rfl
          · unfold f_Ref_bounds f_Ref_bounds_0 f_Ref_bounds_31
            rw [if_neg h1, if_pos h4, if_neg hc0, if_pos (by decide), if_pos n2, ILLr]
        · rcases rank_ok hi' with ⟨k1, k2⟩ | ⟨hh, hhl, k1, k2, k3, k4⟩
          · refine GOOD none h40 trivial ?_ ?_
            · unfold f_Law_bounds f_Tape_bounds f_Tape_bounds_0
              rw [if_neg h1, if_pos h4, if_pos ((lt40 hc).1.mpr h40), n1, Option.bind_some, if_neg (by decide), k1, Option.bind_some, if_pos rfl, ILLc]
              rfl
            · unfold f_Ref_bounds f_Ref_bounds_0 f_Ref_bounds_31
              rw [if_neg h1, if_pos h4, if_neg hc0, if_pos (by decide), if_neg n2, if_pos k2, ILLr]
          · refine GOOD (BND lo hi' l hh d) h40 (CellOk_BND hl hhl (by omega) (by omega)) ?_ ?_
            · unfold f_Law_bounds f_Tape_bounds f_Tape_bounds_0
              rw [if_neg h1, if_pos h4, if_pos ((lt40 hc).1.mpr h40), n1, Option.bind_some, if_neg (by decide), k1, Option.bind_some, if_neg (by decide), n3, Option.bind_some, k3, Option.bind_some, cbnd_ok (v1 := lo) (v3 := hi') hl hhl (by omega), Option.bind_some, app_ok h40]
              rfl
            · unfold f_Ref_bounds f_Ref_bounds_0 f_Ref_bounds_31
              rw [if_neg h1, if_pos h4, if_neg hc0, if_pos (by decide), if_neg n2, if_neg k2, rbd_ok hl hhl (by omega) h40 n4 k4]
      · refine THR 2 (by decide) (wb_k (k := 0) ?_ (Or.inl ⟨rfl, rfl⟩)) ?_
        · unfold f_Tape_bounds f_Tape_bounds_0
          rw [if_neg h1, if_pos h4, if_neg (fun h9 => h40 ((lt40 hc).1.mp h9))]
        · unfold f_Ref_bounds f_Ref_bounds_0
          rw [if_neg h1, if_pos h4, if_pos ((lt40 hc).2.mpr (by omega)), R31 2 (by decide)]
