-- written by wip/gen/inv2.py: the law's calls that only look
theorem hasI_ok {c : Nat} (hc : c ≤ 40) {X : Nat → Option (Option (Int × Int × Nat))} {t17 : Nat → Option (Int64 × Int64 × Int32)} (hX : ∀ i, i < c → t17 i = some (cc (X i)) ∧ CellOk (X i)) (v : Int32) : (f_Ref_there v (nI c) = some (0 : Int32) ∧ f_Tape_hasInterval v (nI c) t17 = some (0 : Int32)) ∨ ∃ i, i < c ∧ v = nI i ∧ f_Ref_there v (nI c) = some (1 : Int32) ∧ ((X i = none ∧ f_Tape_hasInterval v (nI c) t17 = some (0 : Int32)) ∨ (X i ≠ none ∧ f_Tape_hasInterval v (nI c) t17 = some (1 : Int32))) := by
  unfold f_Tape_hasInterval f_Tape_hasInterval_0 f_Tape_hasInterval_24 f_Tape_hasInterval_25
  rw [there_eq]
  rcases there_ok hc v with ht | ⟨i, hi, ei, ht⟩
  · left
    rw [ht, Option.bind_some, if_pos rfl, if_pos (by decide)]
    exact ⟨rfl, rfl⟩
  · right
    refine ⟨i, hi, ei, ht, ?_⟩
    obtain ⟨x1, x2⟩ := hX i hi
    rw [ht, Option.bind_some, if_neg (by decide), ei, if_pos (ji_ (by omega) (by decide)), nI_clamp (by omega), x1, Option.bind_some]
    cases hx : X i with
    | none =>
      left
      refine ⟨rfl, ?_⟩
      rw [if_pos (show (cc none).2.2 = 0 from rfl), if_pos (by decide)]
    | some q =>
      right
      refine ⟨by simp, ?_⟩
      rw [hx] at x2
      cases q with
      | none =>
        rw [if_neg (show ¬ (cc (some none)).2.2 = 0 by decide), if_pos (by decide)]
      | some t =>
        obtain ⟨l, h, m⟩ := t
        obtain ⟨_, _, _, _, _, a6, a7, _⟩ := x2
        rw [if_neg (show ¬ (cc (some (some (l, h, m)))).2.2 = 0 from fun h9 => by have := (i_eq0 (by omega)).mp (show nI m = 0 from h9); omega), if_pos (by decide)]
theorem ok_c7 (v1 v2 v3 v4 v5 : Int32) {T : TS} {M : RS} (gu : Int64) (h : INV T M) : OK (f_Law_c7 v1 v2 v3 v4 v5 T M gu) := by
  obtain ⟨t0, t1, t2, t4, t5, t6, t7, t8, t9, t10, t11, t12, t13, t14, t15, t16, t17⟩ := T
  obtain ⟨m0, m1, m2, m3, m4, m5, m6, m7, m8, m9, m10, m11, m12, m13, m14, m15, m16, m17, m18, m19⟩ := M
  obtain ⟨c, S, X, N, ov, b, hc, e0, e1, hT, hX, f0, f7, hB, f9, f14⟩ := h
  replace e0 : t0 = nI S := e0
  replace e1 : t1 = nI c := e1
  replace f0 : m0 = nI c := f0
  replace f7 : m7 = nI S := f7
  replace f9 : m9 = bI ov := f9
  replace f14 : m14 = bI b := f14
  subst e0 e1 f0 f7 f9 f14
  unfold f_Law_c7 f_Tape_filled f_Tape_filled_0 f_Ref_filled f_Ref_filled_0
  dsimp only
  rw [Option.bind_some, Option.bind_some, if_pos rfl]
  exact ⟨_, _, _, rfl, c, S, X, N, ov, b, hc, rfl, rfl, hT, hX, rfl, rfl, hB, rfl, rfl⟩
theorem ok_c15 (v1 v2 v3 v4 v5 : Int32) {T : TS} {M : RS} (gu : Int64) (h : INV T M) : OK (f_Law_c15 v1 v2 v3 v4 v5 T M gu) := by
  obtain ⟨t0, t1, t2, t4, t5, t6, t7, t8, t9, t10, t11, t12, t13, t14, t15, t16, t17⟩ := T
  obtain ⟨m0, m1, m2, m3, m4, m5, m6, m7, m8, m9, m10, m11, m12, m13, m14, m15, m16, m17, m18, m19⟩ := M
  obtain ⟨c, S, X, N, ov, b, hc, e0, e1, hT, hX, f0, f7, hB, f9, f14⟩ := h
  replace e0 : t0 = nI S := e0
  replace e1 : t1 = nI c := e1
  replace f0 : m0 = nI c := f0
  replace f7 : m7 = nI S := f7
  replace f9 : m9 = bI ov := f9
  replace f14 : m14 = bI b := f14
  subst e0 e1 f0 f7 f9 f14
  exact ⟨_, _, _, rfl, 0, S, X, N, ov, b, by decide, rfl, rfl, hT, fun i hi => absurd hi (Nat.not_lt_zero _), rfl, rfl, hB, rfl, rfl⟩
theorem ok_c8 (v1 v2 v3 v4 v5 : Int32) {T : TS} {M : RS} (gu : Int64) (h : INV T M) : OK (f_Law_c8 v1 v2 v3 v4 v5 T M gu) := by
  obtain ⟨t0, t1, t2, t4, t5, t6, t7, t8, t9, t10, t11, t12, t13, t14, t15, t16, t17⟩ := T
  obtain ⟨m0, m1, m2, m3, m4, m5, m6, m7, m8, m9, m10, m11, m12, m13, m14, m15, m16, m17, m18, m19⟩ := M
  obtain ⟨c, S, X, N, ov, b, hc, e0, e1, hT, hX, f0, f7, hB, f9, f14⟩ := h
  replace e0 : t0 = nI S := e0
  replace e1 : t1 = nI c := e1
  replace f0 : m0 = nI c := f0
  replace f7 : m7 = nI S := f7
  replace f9 : m9 = bI ov := f9
  replace f14 : m14 = bI b := f14
  subst e0 e1 f0 f7 f9 f14
  unfold f_Law_c8 f_Ref_thrown f_Ref_thrown_0
  dsimp only
  rcases there_ok hc v1 with ht | ⟨i, hi, ei, ht⟩
  · have E1 : f_Law_decoration gu v1 (nI c) t17 = some ((1 : Int32), gu) := by
      unfold f_Law_decoration f_Tape_decoration f_Tape_decoration_0
      rw [there_eq, ht, Option.bind_some, if_pos rfl]
      rfl
    have E2 : f_Ref_decoration v1 (nI c) m4 m5 = some ((0 : Int32), (1 : Int32)) := by
      unfold f_Ref_decoration f_Ref_decoration_0 f_Ref_decoration_14 f_Ref_decoration_35
      rw [ht, Option.bind_some, if_pos rfl, Option.bind_some, if_pos rfl]
    rw [E1, Option.bind_some, jl_, E2, Option.bind_some, jl_, Option.bind_some, if_pos rfl, if_neg (show ¬ (1 : Int32) = 0 by decide)]
    exact ⟨_, _, _, rfl, c, S, X, N, ov, b, hc, rfl, rfl, hT, hX, rfl, rfl, hB, rfl, rfl⟩
  · subst ei
    obtain ⟨x1, x2, x3⟩ := hX i hi
    have e4 : (cc (X i)).2.2 = (kc (X i)).2.2.2 := by
      cases X i with
      | none => rfl
      | some q => cases q <;> rfl
    have E1 : f_Law_decoration gu (nI i) (nI c) t17 = some ((0 : Int32), (cc (X i)).2.2.toInt64) := by
      unfold f_Law_decoration f_Tape_decoration f_Tape_decoration_0
      rw [there_eq, ht, Option.bind_some, if_neg (by decide), if_pos (ji_ (by omega) (by decide)), nI_clamp (by omega), x1]
      rfl
    have E2 : f_Ref_decoration (nI i) (nI c) m4 m5 = some ((cc (X i)).2.2, (0 : Int32)) := by
      unfold f_Ref_decoration f_Ref_decoration_0 f_Ref_decoration_14 f_Ref_decoration_35
      rw [ht, Option.bind_some, if_neg (by decide), Option.bind_some, if_neg (by decide), if_pos (ji_ (by omega) (by decide)), nI_clamp (by omega), x3.2.2.2, e4]
    rw [E1, Option.bind_some, jl_, E2, Option.bind_some, jl_, Option.bind_some, if_pos rfl, if_pos rfl, if_pos rfl]
    exact ⟨_, _, _, rfl, c, S, X, N, ov, b, hc, rfl, rfl, hT, hX, rfl, rfl, hB, rfl, rfl⟩
theorem ok_c9 (v1 v2 v3 v4 v5 : Int32) {T : TS} {M : RS} (gu : Int64) (h : INV T M) : OK (f_Law_c9 v1 v2 v3 v4 v5 T M gu) := by
  obtain ⟨t0, t1, t2, t4, t5, t6, t7, t8, t9, t10, t11, t12, t13, t14, t15, t16, t17⟩ := T
  obtain ⟨m0, m1, m2, m3, m4, m5, m6, m7, m8, m9, m10, m11, m12, m13, m14, m15, m16, m17, m18, m19⟩ := M
  obtain ⟨c, S, X, N, ov, b, hc, e0, e1, hT, hX, f0, f7, hB, f9, f14⟩ := h
  replace e0 : t0 = nI S := e0
  replace e1 : t1 = nI c := e1
  replace f0 : m0 = nI c := f0
  replace f7 : m7 = nI S := f7
  replace f9 : m9 = bI ov := f9
  replace f14 : m14 = bI b := f14
  subst e0 e1 f0 f7 f9 f14
  have J : ∃ z : Int32, f_Tape_isEmpty v1 (nI c) t17 = some z ∧ f_Ref_isEmpty v1 (nI c) m1 m5 = some (z, (0 : Int32)) := by
    rcases hasI_ok hc (fun i hi => ⟨(hX i hi).1, (hX i hi).2.1⟩) v1 with ⟨ht, hh⟩ | ⟨i, hi, ei, ht, hh⟩
    · refine ⟨0, ?_, ?_⟩
      · unfold f_Tape_isEmpty f_Tape_isEmpty_0
        rw [hh, Option.bind_some, if_pos rfl]
        rfl
      · unfold f_Ref_isEmpty f_Ref_isEmpty_0
        rw [ht, Option.bind_some, if_pos rfl]
        rfl
    · subst ei
      obtain ⟨x1, x2, x3⟩ := hX i hi
      have Ji := ji_ (show i < 40 by omega) (by decide : 40 < 2 ^ 31)
      have ci := nI_clamp (show i < 2 ^ 31 by omega)
      have E2 : f_Ref_isEmpty (nI i) (nI c) m1 m5 = if (kc (X i)).1 = (1 : Int32) then some ((1 : Int32), (0 : Int32)) else some ((0 : Int32), (0 : Int32)) := by
        unfold f_Ref_isEmpty f_Ref_isEmpty_0
        rw [ht, Option.bind_some, if_neg (show ¬ (1 : Int32) = 0 by decide), if_pos Ji]
        simp only [ci, x3.1]
        rfl
      rcases hh with ⟨hx, hh⟩ | ⟨hx, hh⟩
      · refine ⟨0, ?_, ?_⟩
        · unfold f_Tape_isEmpty f_Tape_isEmpty_0
          rw [hh, Option.bind_some, if_pos rfl]
          rfl
        · rw [E2, hx]
          rfl
      · have E1 : f_Tape_isEmpty (nI i) (nI c) t17 = (f_Cell_hasNoPoint (cc (X i)).1 (cc (X i)).2.1 (cc (X i)).2.2).bind fun r5 => (if r5 = 0 then some (0 : Int32) else some (1 : Int32)) := by
          unfold f_Tape_isEmpty f_Tape_isEmpty_0
          rw [hh, Option.bind_some, if_neg (show ¬ (1 : Int32) = 0 by decide), if_pos Ji]
          simp only [ci, x1, Option.bind_some]
          rfl
        rw [E1, E2]
        cases hq : X i with
        | none => exact absurd hq hx
        | some q =>
          rw [hq] at x2
          cases q with
          | none => exact ⟨1, by decide, rfl⟩
          | some t =>
            obtain ⟨l, h, m⟩ := t
            obtain ⟨a1, a2, a3, _⟩ := x2
            refine ⟨0, ?_, rfl⟩
            rw [show f_Cell_hasNoPoint (cc (some (some (l, h, m)))).1 (cc (some (some (l, h, m)))).2.1 (cc (some (some (l, h, m)))).2.2 = _ from nop_ok a1 a2, Option.bind_some, decide_eq_false (by omega)]
            rfl
  obtain ⟨z, e1, e2⟩ := J
  unfold f_Law_c9
  dsimp only
  rw [e1, Option.bind_some, e2, Option.bind_some, if_pos rfl]
  exact ⟨_, _, _, rfl, c, S, X, N, ov, b, hc, rfl, rfl, hT, hX, rfl, rfl, hB, rfl, rfl⟩
theorem ok_c10 (v1 v2 v3 v4 v5 : Int32) {T : TS} {M : RS} (gu : Int64) (h : INV T M) : OK (f_Law_c10 v1 v2 v3 v4 v5 T M gu) := by
  obtain ⟨t0, t1, t2, t4, t5, t6, t7, t8, t9, t10, t11, t12, t13, t14, t15, t16, t17⟩ := T
  obtain ⟨m0, m1, m2, m3, m4, m5, m6, m7, m8, m9, m10, m11, m12, m13, m14, m15, m16, m17, m18, m19⟩ := M
  obtain ⟨c, S, X, N, ov, b, hc, e0, e1, hT, hX, f0, f7, hB, f9, f14⟩ := h
  replace e0 : t0 = nI S := e0
  replace e1 : t1 = nI c := e1
  replace f0 : m0 = nI c := f0
  replace f7 : m7 = nI S := f7
  replace f9 : m9 = bI ov := f9
  replace f14 : m14 = bI b := f14
  subst e0 e1 f0 f7 f9 f14
  have J : ∃ z : Int64, f_Tape_lower v1 (nI c) t17 = some z ∧ f_Ref_lower v1 (nI c) m1 m2 m5 = some (z, (0 : Int32)) := by
    rcases hasI_ok hc (fun i hi => ⟨(hX i hi).1, (hX i hi).2.1⟩) v1 with ⟨ht, hh⟩ | ⟨i, hi, ei, ht, hh⟩
    · refine ⟨(9221120237041090560 : Int64), ?_, ?_⟩
      · unfold f_Tape_lower f_Tape_lower_0
        rw [hh, Option.bind_some, if_pos rfl]
      · unfold f_Ref_lower f_Ref_lower_0
        rw [ht, Option.bind_some, if_pos rfl]
        rfl
    · subst ei
      obtain ⟨x1, x2, x3⟩ := hX i hi
      have Ji := ji_ (show i < 40 by omega) (by decide : 40 < 2 ^ 31)
      have ci := nI_clamp (show i < 2 ^ 31 by omega)
      have E2 : f_Ref_lower (nI i) (nI c) m1 m2 m5 = if (kc (X i)).1 = 0 then some ((9221120237041090560 : Int64), (0 : Int32)) else if (kc (X i)).1 = (1 : Int32) then some ((9218868437227405312 : Int64), (0 : Int32)) else if (kc (X i)).2.1 = (0 : Int64) then some ((-9223372036854775808 : Int64), (0 : Int32)) else (f_Ref_bits (kc (X i)).2.1).bind fun r10 => some (r10, (0 : Int32)) := by
        unfold f_Ref_lower f_Ref_lower_0 f_Ref_lower_22 f_Ref_lower_68
        rw [ht, Option.bind_some, if_neg (show ¬ (1 : Int32) = 0 by decide), if_pos Ji]
        simp only [if_pos Ji, ci, x3.1, x3.2.1]
      rcases hh with ⟨hx, hh⟩ | ⟨hx, hh⟩
      · refine ⟨(9221120237041090560 : Int64), ?_, ?_⟩
        · unfold f_Tape_lower f_Tape_lower_0
          rw [hh, Option.bind_some, if_pos rfl]
        · rw [E2, hx]
          rfl
      · have E1 : f_Tape_lower (nI i) (nI c) t17 = if (cc (X i)).1 = (0 : Int64) then some (-9223372036854775808 : Int64) else (f_Ref_bits (cc (X i)).1).bind fun r7 => some r7 := by
          unfold f_Tape_lower f_Tape_lower_0 f_Tape_lower_38
          rw [hh, Option.bind_some, if_neg (show ¬ (1 : Int32) = 0 by decide), if_pos Ji]
          simp only [ci, x1, Option.bind_some, jl_, tb_eq]
        rw [E1, E2]
        cases hq : X i with
        | none => exact absurd hq hx
        | some q =>
          cases q with
          | none => exact ⟨(9218868437227405312 : Int64), by decide, rfl⟩
          | some t =>
            obtain ⟨l, h, m⟩ := t
            obtain ⟨bb, hbb⟩ := tb_some (lZ l)
            show ∃ z : Int64, (if lZ l = (0 : Int64) then some (-9223372036854775808 : Int64) else (f_Ref_bits (lZ l)).bind fun r7 => some r7) = some z ∧ (if lZ l = (0 : Int64) then some ((-9223372036854775808 : Int64), (0 : Int32)) else (f_Ref_bits (lZ l)).bind fun r10 => some (r10, (0 : Int32))) = some (z, (0 : Int32))
            rw [hbb]
            by_cases e : lZ l = (0 : Int64)
            · rw [if_pos e, if_pos e]
              exact ⟨_, rfl, rfl⟩
            · rw [if_neg e, if_neg e]
              exact ⟨_, rfl, rfl⟩
  obtain ⟨z, e1, e2⟩ := J
  unfold f_Law_c10
  dsimp only
  rw [e1, Option.bind_some, e2, Option.bind_some, if_pos rfl]
  exact ⟨_, _, _, rfl, c, S, X, N, ov, b, hc, rfl, rfl, hT, hX, rfl, rfl, hB, rfl, rfl⟩
theorem ok_c11 (v1 v2 v3 v4 v5 : Int32) {T : TS} {M : RS} (gu : Int64) (h : INV T M) : OK (f_Law_c11 v1 v2 v3 v4 v5 T M gu) := by
  obtain ⟨t0, t1, t2, t4, t5, t6, t7, t8, t9, t10, t11, t12, t13, t14, t15, t16, t17⟩ := T
  obtain ⟨m0, m1, m2, m3, m4, m5, m6, m7, m8, m9, m10, m11, m12, m13, m14, m15, m16, m17, m18, m19⟩ := M
  obtain ⟨c, S, X, N, ov, b, hc, e0, e1, hT, hX, f0, f7, hB, f9, f14⟩ := h
  replace e0 : t0 = nI S := e0
  replace e1 : t1 = nI c := e1
  replace f0 : m0 = nI c := f0
  replace f7 : m7 = nI S := f7
  replace f9 : m9 = bI ov := f9
  replace f14 : m14 = bI b := f14
  subst e0 e1 f0 f7 f9 f14
  have J : ∃ z : Int64, f_Tape_upper v1 (nI c) t17 = some z ∧ f_Ref_upper v1 (nI c) m1 m3 m5 = some (z, (0 : Int32)) := by
    rcases hasI_ok hc (fun i hi => ⟨(hX i hi).1, (hX i hi).2.1⟩) v1 with ⟨ht, hh⟩ | ⟨i, hi, ei, ht, hh⟩
    · refine ⟨(9221120237041090560 : Int64), ?_, ?_⟩
      · unfold f_Tape_upper f_Tape_upper_0
        rw [hh, Option.bind_some, if_pos rfl]
        rfl
      · unfold f_Ref_upper f_Ref_upper_0
        rw [ht, Option.bind_some, if_pos rfl]
        rfl
    · subst ei
      obtain ⟨x1, x2, x3⟩ := hX i hi
      have Ji := ji_ (show i < 40 by omega) (by decide : 40 < 2 ^ 31)
      have ci := nI_clamp (show i < 2 ^ 31 by omega)
      have E2 : f_Ref_upper (nI i) (nI c) m1 m3 m5 = if (kc (X i)).1 = 0 then some ((9221120237041090560 : Int64), (0 : Int32)) else if (kc (X i)).1 = (1 : Int32) then some ((-4503599627370496 : Int64), (0 : Int32)) else (f_Ref_bits (kc (X i)).2.2.1).bind fun r10 => some (r10, (0 : Int32)) := by
        unfold f_Ref_upper f_Ref_upper_0 f_Ref_upper_22 f_Ref_upper_54
        rw [ht, Option.bind_some, if_neg (show ¬ (1 : Int32) = 0 by decide), if_pos Ji]
        simp only [if_pos Ji, ci, x3.1, x3.2.2.1]
        rw [show f_Ref_bits (-9218868437227405312 : Int64) = some (-4503599627370496 : Int64) by decide, Option.bind_some]
      rcases hh with ⟨hx, hh⟩ | ⟨hx, hh⟩
      · refine ⟨(9221120237041090560 : Int64), ?_, ?_⟩
        · unfold f_Tape_upper f_Tape_upper_0
          rw [hh, Option.bind_some, if_pos rfl]
          rfl
        · rw [E2, hx]
          rfl
      · have E1 : f_Tape_upper (nI i) (nI c) t17 = (f_Ref_bits (cc (X i)).2.1).bind fun r7 => some r7 := by
          unfold f_Tape_upper f_Tape_upper_0 f_Tape_upper_26
          rw [hh, Option.bind_some, if_neg (show ¬ (1 : Int32) = 0 by decide), if_pos Ji]
          simp only [ci, x1, Option.bind_some, tb_eq]
        rw [E1, E2]
        cases hq : X i with
        | none => exact absurd hq hx
        | some q =>
          cases q with
          | none => exact ⟨(-4503599627370496 : Int64), by decide, rfl⟩
          | some t =>
            obtain ⟨l, h, m⟩ := t
            obtain ⟨bb, hbb⟩ := tb_some (lZ h)
            show ∃ z : Int64, ((f_Ref_bits (lZ h)).bind fun r7 => some r7) = some z ∧ ((f_Ref_bits (lZ h)).bind fun r10 => some (r10, (0 : Int32))) = some (z, (0 : Int32))
            rw [hbb]
            exact ⟨_, rfl, rfl⟩
  obtain ⟨z, e1, e2⟩ := J
  unfold f_Law_c11
  dsimp only
  rw [e1, Option.bind_some, e2, Option.bind_some, if_pos rfl]
  exact ⟨_, _, _, rfl, c, S, X, N, ov, b, hc, rfl, rfl, hT, hX, rfl, rfl, hB, rfl, rfl⟩
theorem hnp_some {X : Option (Option (Int × Int × Nat))} (h : CellOk X) : ∃ z : Bool, f_Cell_hasNoPoint (cc X).1 (cc X).2.1 (cc X).2.2 = some (bI z) := by
  cases X with
  | none => exact ⟨false, by decide⟩
  | some q =>
    cases q with
    | none => exact ⟨true, by decide⟩
    | some t =>
      obtain ⟨l, hh, m⟩ := t
      obtain ⟨a1, a2, _⟩ := h
      exact ⟨_, nop_ok a1 a2⟩
theorem rel_no {X Y : Option (Option (Int × Int × Nat))} (h1 : CellOk X) (h2 : CellOk Y) {v : Int32} (n0 : ¬ v = (0 : Int32)) (n1 : ¬ v = (1 : Int32)) (n2 : ¬ v = (2 : Int32)) (n3 : ¬ v = (3 : Int32)) (n4 : ¬ v = (4 : Int32)) (n5 : ¬ v = (5 : Int32)) (n6 : ¬ v = (6 : Int32)) (n7 : ¬ v = (7 : Int32)) : f_Rel_holds v (cc X).1 (cc X).2.1 (cc X).2.2 (cc Y).1 (cc Y).2.1 (cc Y).2.2 = some (0 : Int32) := by
  obtain ⟨z1, e1⟩ := hnp_some h1
  obtain ⟨z2, e2⟩ := hnp_some h2
  have K : ∀ s v3 : Int32, f_Rel_holds_39 s v (cc X).1 (cc X).2.1 (cc X).2.2 (cc Y).1 (cc Y).2.1 (cc Y).2.2 v3 = some (0 : Int32) := fun s v3 => by
    unfold f_Rel_holds_39
    rw [if_neg n0, if_neg n1, if_neg n2, if_neg n3, if_neg n4, if_neg n5, if_neg n6, if_neg n7]
  have K19 : ∀ s : Int32, f_Rel_holds_19 s v (cc X).1 (cc X).2.1 (cc X).2.2 (cc Y).1 (cc Y).2.1 (cc Y).2.2 = some (0 : Int32) := fun s => by
    unfold f_Rel_holds_19 f_Rel_holds_38
    rw [e1, Option.bind_some, e2, Option.bind_some, K, K]
    split
    · rfl
    · split <;> rfl
  unfold f_Rel_holds f_Rel_holds_0 f_Rel_holds_14
  rw [e1, Option.bind_some, e2, Option.bind_some, K19, K19]
  split
  · split <;> rfl
  · rfl
theorem ok_c12 (v1 v2 v3 v4 v5 : Int32) {T : TS} {M : RS} (gu : Int64) (h : INV T M) : OK (f_Law_c12 v1 v2 v3 v4 v5 T M gu) := by
  obtain ⟨t0, t1, t2, t4, t5, t6, t7, t8, t9, t10, t11, t12, t13, t14, t15, t16, t17⟩ := T
  obtain ⟨m0, m1, m2, m3, m4, m5, m6, m7, m8, m9, m10, m11, m12, m13, m14, m15, m16, m17, m18, m19⟩ := M
  obtain ⟨c, S, X, N, ov, b, hc, e0, e1, hT, hX, f0, f7, hB, f9, f14⟩ := h
  replace e0 : t0 = nI S := e0
  replace e1 : t1 = nI c := e1
  replace f0 : m0 = nI c := f0
  replace f7 : m7 = nI S := f7
  replace f9 : m9 = bI ov := f9
  replace f14 : m14 = bI b := f14
  subst e0 e1 f0 f7 f9 f14
  have J : ∃ z : Int32, f_Tape_relation v1 v2 v3 (nI c) t17 = some z ∧ f_Ref_relation v1 v2 v3 (nI c) m1 m2 m3 m5 = some (z, (0 : Int32)) := by
    unfold f_Tape_relation f_Tape_relation_0 f_Tape_relation_39 f_Tape_relation_40 f_Ref_relation f_Ref_relation_0 f_Ref_relation_49
    have HX := fun i hi => (⟨(hX i hi).1, (hX i hi).2.1⟩ : t17 i = some (cc (X i)) ∧ CellOk (X i))
    have Z : ∀ a b : Prop, [Decidable a] → [Decidable b] → True := fun _ _ _ _ => trivial
    have FALSE : ∀ (F : Option Int32) (G : Option (Int32 × Int32)), F = some (0 : Int32) → G = some ((0 : Int32), (0 : Int32)) → ∃ z : Int32, F = some z ∧ G = some (z, (0 : Int32)) := fun F G h1 h2 => ⟨_, h1, h2⟩
    have RZ : ∀ (w : Option Int32), w = some (0 : Int32) ∨ w = some (1 : Int32) → True := fun _ _ => trivial
    rcases hasI_ok hc HX v2 with ⟨ht, hh⟩ | ⟨i, hi, ei, ht, hh⟩
    · apply FALSE
      · rw [hh, Option.bind_some, if_pos rfl, if_pos (by decide)]
      · by_cases w1 : v1 < 0
        · rw [if_pos w1]
        · rw [if_neg w1]
          by_cases w2 : (7 : Int32) < v1
          · rw [if_pos w2]
          · rw [if_neg w2, ht, Option.bind_some, if_pos rfl]
    · subst ei
      have Ji := ji_ (show i < 40 by omega) (by decide : 40 < 2 ^ 31)
      have ci := nI_clamp (show i < 2 ^ 31 by omega)
      obtain ⟨x1, x2, x3⟩ := hX i hi
      rcases hasI_ok hc HX v3 with ⟨ht3, hh3⟩ | ⟨j, hj, ej, ht3, hh3⟩
      · apply FALSE
        · rcases hh with ⟨_, hh⟩ | ⟨_, hh⟩
          · rw [hh, Option.bind_some, if_pos rfl, if_pos (by decide)]
          · rw [hh, Option.bind_some, if_neg (by decide), hh3, Option.bind_some, if_pos rfl, if_pos (by decide)]
        · by_cases w1 : v1 < 0
          · rw [if_pos w1]
          · rw [if_neg w1]
            by_cases w2 : (7 : Int32) < v1
            · rw [if_pos w2]
            · rw [if_neg w2, ht, Option.bind_some, if_neg (show ¬ (1 : Int32) = 0 by decide), ht3, Option.bind_some, if_pos rfl]
      · subst ej
        have Jj := ji_ (show j < 40 by omega) (by decide : 40 < 2 ^ 31)
        have cj := nI_clamp (show j < 2 ^ 31 by omega)
        obtain ⟨y1, y2, y3⟩ := hX j hj
        rw [ht, Option.bind_some, if_neg (show ¬ (1 : Int32) = 0 by decide), ht3, Option.bind_some, if_neg (show ¬ (1 : Int32) = 0 by decide)]
        simp only [if_pos Ji, if_pos Jj, ci, cj, x3.1, y3.1]
        rcases hh with ⟨hx, hh⟩ | ⟨hx, hh⟩
        · apply FALSE
          · rw [hh, Option.bind_some, if_pos rfl, if_pos (by decide)]
          · have kx : (kc (X i)).1 = 0 := by rw [hx]; rfl
            by_cases w1 : v1 < 0
            · rw [if_pos w1]
            · rw [if_neg w1]
              by_cases w2 : (7 : Int32) < v1
              · rw [if_pos w2]
              · rw [if_neg w2, if_pos kx]
        · rcases hh3 with ⟨hy, hh3⟩ | ⟨hy, hh3⟩
          · apply FALSE
            · rw [hh, Option.bind_some, if_neg (by decide), hh3, Option.bind_some, if_pos rfl, if_pos (by decide)]
            · have ky : (kc (X j)).1 = 0 := by rw [hy]; rfl
              by_cases w1 : v1 < 0
              · rw [if_pos w1]
              · rw [if_neg w1]
                by_cases w2 : (7 : Int32) < v1
                · rw [if_pos w2]
                · rw [if_neg w2]
                  by_cases kx : (kc (X i)).1 = 0
                  · rw [if_pos kx]
                  · rw [if_neg kx, if_pos ky]
          · have nx : ¬ (kc (X i)).1 = 0 := by
              cases hq : X i with
              | none => exact absurd hq hx
              | some q =>
                cases q with
                | none => decide
                | some t => exact (by decide : ¬ (2 : Int32) = 0)
            have ny : ¬ (kc (X j)).1 = 0 := by
              cases hq : X j with
              | none => exact absurd hq hy
              | some q =>
                cases q with
                | none => decide
                | some t => exact (by decide : ¬ (2 : Int32) = 0)
            rw [hh, Option.bind_some, if_neg (show ¬ (1 : Int32) = 0 by decide), hh3, Option.bind_some, if_neg (show ¬ (1 : Int32) = 0 by decide), x1, Option.bind_some, y1, Option.bind_some, if_neg nx, if_neg ny]
            rcases pk_ix v1 (n := 8) (by decide) with hneg | hbig | ⟨k, hk, ek⟩
            · rw [if_pos hneg]
              have n0 : ∀ q : Int32, 0 ≤ q → ¬ v1 = q := fun q hq h9 => by
                rw [h9, Int32.lt_iff_toInt_lt] at hneg
                rw [Int32.le_iff_toInt_le] at hq
                omega
              have E : f_Rel_holds v1 (cc (X i)).1 (cc (X i)).2.1 (cc (X i)).2.2 (cc (X j)).1 (cc (X j)).2.1 (cc (X j)).2.2 = some (0 : Int32) := rel_no x2 y2 (n0 0 (by decide)) (n0 1 (by decide)) (n0 2 (by decide)) (n0 3 (by decide)) (n0 4 (by decide)) (n0 5 (by decide)) (n0 6 (by decide)) (n0 7 (by decide))
              rw [E, Option.bind_some, if_pos rfl, if_pos (by decide)]
              exact ⟨_, rfl, rfl⟩
            · obtain ⟨hn, _, hb2⟩ := big_v (n := 7) (by decide) hbig
              have n0 : ∀ q : Nat, q < 8 → ¬ v1 = nI q := fun q hq h9 => hb2 (by rw [h9]; exact nI_le (by omega) (by decide))
              have E : f_Rel_holds v1 (cc (X i)).1 (cc (X i)).2.1 (cc (X i)).2.2 (cc (X j)).1 (cc (X j)).2.1 (cc (X j)).2.2 = some (0 : Int32) := rel_no x2 y2 (n0 0 (by decide)) (n0 1 (by decide)) (n0 2 (by decide)) (n0 3 (by decide)) (n0 4 (by decide)) (n0 5 (by decide)) (n0 6 (by decide)) (n0 7 (by decide))
              rw [if_neg hn, if_pos (show (7 : Int32) < v1 by rw [Int32.lt_iff_toInt_lt]; rw [Int32.le_iff_toInt_le] at hb2; exact Int.not_le.mp hb2), E, Option.bind_some, if_pos rfl, if_pos (by decide)]
              exact ⟨_, rfl, rfl⟩
            · subst ek
              obtain ⟨z, r1, r2⟩ := rel_ok (c := c) hk hx hy x2 y2 (show i < 40 by omega) (show j < 40 by omega) x3 y3
              unfold RelR at r2
              rw [x3.1, y3.1] at r2
              rw [if_neg (show ¬ nI k < 0 from nI_nlt (b := 0) (Nat.zero_le _) (by omega)), if_neg (show ¬ (7 : Int32) < nI k from nI_nlt (a := 7) (by omega) (by decide)), r2, r1, Option.bind_some]
              cases z
              · rw [if_pos (show bI false = 0 from rfl), if_pos (by decide)]
                exact ⟨_, rfl, rfl⟩
              · rw [if_neg (show ¬ bI true = 0 by decide), if_pos (by decide)]
                exact ⟨_, rfl, rfl⟩
  obtain ⟨z, e1, e2⟩ := J
  unfold f_Law_c12
  dsimp only
  rw [e1, Option.bind_some, e2, Option.bind_some, if_pos rfl]
  exact ⟨_, _, _, rfl, c, S, X, N, ov, b, hc, rfl, rfl, hT, hX, rfl, rfl, hB, rfl, rfl⟩
