-- written by wip/gen/inv3.py: number, clamp, a turn of the law
theorem ok_c13 (v1 v2 v3 v4 v5 : Int32) {T : TS} {M : RS} (gu : Int64) (h : INV T M) : OK (f_Law_c13 v1 v2 v3 v4 v5 T M gu) := by
  obtain ⟨t0, t1, t2, t4, t5, t6, t7, t8, t9, t10, t11, t12, t13, t14, t15, t16, t17⟩ := T
  obtain ⟨m0, m1, m2, m3, m4, m5, m6, m7, m8, m9, m10, m11, m12, m13, m14, m15, m16, m17, m18, m19⟩ := M
  obtain ⟨c, S, X, N, ov, b, hc, e0, e1, hT, hX, f0, f7, hB, f9, f14⟩ := h
  replace e0 : t0 = nI S := e0
  replace e1 : t1 = nI c := e1
  replace f0 : m0 = nI c := f0
  replace f7 : m7 = nI S := f7
  replace f9 : m9 = bI ov := f9
  replace f14 : m14 = bI b := f14
  subst e0 e1 f0 f7 f9 f14
  have J : ∃ (z : Int64) (g' : Nat → Int32) (N' : Nat → Nat) (ov' : Bool), f_Tape_number v1 v2 (nI c) t17 = some z ∧ f_Ref_number v1 v2 (nI c) m1 m2 m3 m5 m8 (bI ov) = some (z, (0 : Int32), g', bI ov') ∧ Big g' N' := by
    have NAN : f_Tape_number v1 v2 (nI c) t17 = some (9221120237041090560 : Int64) → f_Ref_number v1 v2 (nI c) m1 m2 m3 m5 m8 (bI ov) = some ((9221120237041090560 : Int64), (0 : Int32), m8, bI ov) → ∃ (z : Int64) (g' : Nat → Int32) (N' : Nat → Nat) (ov' : Bool), f_Tape_number v1 v2 (nI c) t17 = some z ∧ f_Ref_number v1 v2 (nI c) m1 m2 m3 m5 m8 (bI ov) = some (z, (0 : Int32), g', bI ov') ∧ Big g' N' := fun h1 h2 => ⟨_, m8, N, ov, h1, h2, hB⟩
    have RN0 : f_Ref_there v2 (nI c) = some (0 : Int32) → f_Ref_number v1 v2 (nI c) m1 m2 m3 m5 m8 (bI ov) = some ((9221120237041090560 : Int64), (0 : Int32), m8, bI ov) := fun ht => by
      unfold f_Ref_number f_Ref_number_0 f_Ref_number_32
      by_cases w1 : v1 < 0
      · rw [if_pos w1]
      · rw [if_neg w1]
        by_cases w2 : (3 : Int32) < v1
        · rw [if_pos w2]
        · rw [if_neg w2, ht, Option.bind_some, if_pos rfl]
    rcases hasI_ok hc (fun i hi => ⟨(hX i hi).1, (hX i hi).2.1⟩) v2 with ⟨ht, hh⟩ | ⟨i, hi, ei, ht, hh⟩
    · refine NAN ?_ (RN0 ht)
      unfold f_Tape_number f_Tape_number_0
      rw [hh, Option.bind_some, if_pos rfl]
      rfl
    · subst ei
      obtain ⟨x1, x2, x3⟩ := hX i hi
      have Ji := ji_ (show i < 40 by omega) (by decide : 40 < 2 ^ 31)
      have ci := nI_clamp (show i < 2 ^ 31 by omega)
      have RN1 : ¬ (kc (X i)).1 = (2 : Int32) → f_Ref_number v1 (nI i) (nI c) m1 m2 m3 m5 m8 (bI ov) = some ((9221120237041090560 : Int64), (0 : Int32), m8, bI ov) := fun hk => by
        unfold f_Ref_number f_Ref_number_0 f_Ref_number_32
        by_cases w1 : v1 < 0
        · rw [if_pos w1]
        · rw [if_neg w1]
          by_cases w2 : (3 : Int32) < v1
          · rw [if_pos w2]
          · rw [if_neg w2, ht, Option.bind_some, if_neg (show ¬ (1 : Int32) = 0 by decide), if_pos Ji]
            rw [if_neg (show ¬ m1 (nI i).toNatClampNeg = (2 : Int32) by rw [ci, x3.1]; exact hk)]
      rcases hh with ⟨hx, hh⟩ | ⟨hx, hh⟩
      · refine NAN ?_ (RN1 (by rw [hx]; decide))
        unfold f_Tape_number f_Tape_number_0
        rw [hh, Option.bind_some, if_pos rfl]
        rfl
      · cases hq : X i with
        | none => exact absurd hq hx
        | some q =>
          rw [hq] at x1 x2 x3
          cases q with
          | none =>
            refine NAN ?_ (RN1 (by rw [hq]; decide))
            unfold f_Tape_number f_Tape_number_0
            rw [hh, Option.bind_some, if_neg (show ¬ (1 : Int32) = 0 by decide), if_pos Ji]
            rw [show t17 (nI i).toNatClampNeg = some (cc (some none)) by rw [ci]; exact x1, Option.bind_some, show f_Cell_hasNoPoint (cc (some none)).1 (cc (some none)).2.1 (cc (some none)).2.2 = some (1 : Int32) by decide, Option.bind_some, if_neg (show ¬ (1 : Int32) = 0 by decide)]
            rfl
          | some t =>
            obtain ⟨l, h, m⟩ := t
            obtain ⟨a1, a2, a3, a4, a5, _⟩ := x2
            have hi' : Iok l h := ⟨a1, a2, a3, a4, a5⟩
            have xt : t17 (nI i).toNatClampNeg = some (lZ l, lZ h, nI m) := by rw [ci]; exact x1
            have y1 : m1 (nI i).toNatClampNeg = (2 : Int32) := by rw [ci]; exact x3.1
            have y2 : m2 (nI i).toNatClampNeg = lZ l := by rw [ci]; exact x3.2.1
            have y3 : m3 (nI i).toNatClampNeg = lZ h := by rw [ci]; exact x3.2.2.1
            have np : f_Cell_hasNoPoint (lZ l) (lZ h) (nI m) = some (0 : Int32) := by rw [nop_ok a1 a2, decide_eq_false (by omega)]; rfl
            have E1 : ∀ w : Int32, f_Tape_number w (nI i) (nI c) t17 = if w = (0 : Int32) then (f_Cell_width (lZ l) (lZ h) (nI m)).bind fun r10 => (f_Rank_toBits r10).bind fun r11 => some r11 else if w = (1 : Int32) then (f_Cell_magnitude (lZ l) (lZ h) (nI m)).bind fun r15 => (f_Rank_toBits r15).bind fun r16 => some r16 else if w = (2 : Int32) then (f_Cell_mignitude (lZ l) (lZ h) (nI m)).bind fun r20 => (f_Rank_toBits r20).bind fun r21 => some r21 else if w = (3 : Int32) then (f_Cell_middle (lZ l) (lZ h) (nI m)).bind fun r25 => (f_Rank_toBits r25).bind fun r26 => some r26 else some (9221120237041090560 : Int64) := fun w => by
              unfold f_Tape_number f_Tape_number_0
              rw [hh, Option.bind_some, if_neg (show ¬ (1 : Int32) = 0 by decide), if_pos Ji, xt, Option.bind_some, np, Option.bind_some, if_pos rfl]
              simp only [if_pos Ji, xt, Option.bind_some]
            have NONE : (¬ v1 = (0 : Int32)) → (¬ v1 = (1 : Int32)) → (¬ v1 = (2 : Int32)) → (¬ v1 = (3 : Int32)) → f_Tape_number v1 (nI i) (nI c) t17 = some (9221120237041090560 : Int64) := fun n0 n1 n2 n3 => by
              rw [E1, if_neg n0, if_neg n1, if_neg n2, if_neg n3]
            rcases pk_ix v1 (n := 4) (by decide) with hneg | hbig | ⟨k, hk, ek⟩
            · have n0 : ∀ q : Int32, 0 ≤ q → ¬ v1 = q := fun q hq h9 => by
                rw [h9, Int32.lt_iff_toInt_lt] at hneg
                rw [Int32.le_iff_toInt_le] at hq
                omega
              refine NAN (NONE (n0 0 (by decide)) (n0 1 (by decide)) (n0 2 (by decide)) (n0 3 (by decide))) ?_
              unfold f_Ref_number f_Ref_number_0 f_Ref_number_32
              rw [if_pos hneg]
            · obtain ⟨hn, _, hb2⟩ := big_v (n := 3) (by decide) hbig
              have n0 : ∀ q : Nat, q < 4 → ¬ v1 = nI q := fun q hq h9 => hb2 (by rw [h9]; exact nI_le (by omega) (by decide))
              refine NAN (NONE (n0 0 (by decide)) (n0 1 (by decide)) (n0 2 (by decide)) (n0 3 (by decide))) ?_
              unfold f_Ref_number f_Ref_number_0 f_Ref_number_32
              rw [if_neg hn, if_pos (show (3 : Int32) < v1 by rw [Int32.lt_iff_toInt_lt]; rw [Int32.le_iff_toInt_le] at hb2; exact Int.not_le.mp hb2)]
            · subst ek
              obtain ⟨z, g', N', ov', r1, r2, r3⟩ := num_ok hk hi' (m := nI m) hB ov
              refine ⟨z, g', N', ov', ?_, ?_, r3⟩
              · rw [E1]
                exact r1
              · unfold f_Ref_number f_Ref_number_0
                rw [if_neg (show ¬ nI k < 0 from nI_nlt (b := 0) (Nat.zero_le _) (by omega)), if_neg (show ¬ (3 : Int32) < nI k from nI_nlt (a := 3) (by omega) (by decide)), ht, Option.bind_some, if_neg (show ¬ (1 : Int32) = 0 by decide), if_pos Ji, if_pos y1, if_pos Ji, jl_, if_pos Ji, jl_, y2, y3]
                exact r2
  obtain ⟨z, g', N', ov', e1, e2, e3⟩ := J
  unfold f_Law_c13
  dsimp only
  rw [e1, Option.bind_some, e2, Option.bind_some, if_pos rfl]
  exact ⟨_, _, _, rfl, c, S, X, N', ov', b, hc, rfl, rfl, hT, hX, rfl, rfl, e3, rfl, rfl⟩
theorem ok_c14 (v1 v2 v3 v4 v5 : Int32) {T : TS} {M : RS} (gu : Int64) (h : INV T M) : OK (f_Law_c14 v1 v2 v3 v4 v5 T M gu) := by
  obtain ⟨t0, t1, t2, t4, t5, t6, t7, t8, t9, t10, t11, t12, t13, t14, t15, t16, t17⟩ := T
  obtain ⟨m0, m1, m2, m3, m4, m5, m6, m7, m8, m9, m10, m11, m12, m13, m14, m15, m16, m17, m18, m19⟩ := M
  obtain ⟨c, S, X, N, ov, b, hc, e0, e1, hT, hX, f0, f7, hB, f9, f14⟩ := h
  replace e0 : t0 = nI S := e0
  replace e1 : t1 = nI c := e1
  replace f0 : m0 = nI c := f0
  replace f7 : m7 = nI S := f7
  replace f9 : m9 = bI ov := f9
  replace f14 : m14 = bI b := f14
  subst e0 e1 f0 f7 f9 f14
  obtain ⟨d, hd⟩ : ∃ d, d = (j_lshl (v2.toInt64) (32 : Int32)) ||| ((v3.toInt64) &&& (4294967295 : Int64)) := ⟨_, rfl⟩
  have J : ∃ z : Int64, f_Tape_clamp v1 d (nI c) t17 = some z ∧ f_Ref_clamp v1 d (nI c) m1 m2 m3 m5 = some (z, (0 : Int32)) := by
    rcases hasI_ok hc (fun i hi => ⟨(hX i hi).1, (hX i hi).2.1⟩) v1 with ⟨ht, hh⟩ | ⟨i, hi, ei, ht, hh⟩
    · refine ⟨(9221120237041090560 : Int64), ?_, ?_⟩
      · unfold f_Tape_clamp f_Tape_clamp_0
        rw [hh, Option.bind_some, if_pos rfl]
        rfl
      · unfold f_Ref_clamp f_Ref_clamp_0
        rw [ht, Option.bind_some, if_pos rfl]
        rfl
    · subst ei
      obtain ⟨x1, x2, x3⟩ := hX i hi
      have Ji := ji_ (show i < 40 by omega) (by decide : 40 < 2 ^ 31)
      have ci := nI_clamp (show i < 2 ^ 31 by omega)
      have RN1 : ¬ (kc (X i)).1 = (2 : Int32) → f_Ref_clamp (nI i) d (nI c) m1 m2 m3 m5 = some ((9221120237041090560 : Int64), (0 : Int32)) := fun hk => by
        unfold f_Ref_clamp f_Ref_clamp_0 f_Ref_clamp_35
        rw [ht, Option.bind_some, if_neg (show ¬ (1 : Int32) = 0 by decide), if_pos Ji, if_neg (show ¬ m1 (nI i).toNatClampNeg = (2 : Int32) by rw [ci, x3.1]; exact hk)]
      rcases hh with ⟨hx, hh⟩ | ⟨hx, hh⟩
      · refine ⟨_, ?_, RN1 (by rw [hx]; decide)⟩
        unfold f_Tape_clamp f_Tape_clamp_0
        rw [hh, Option.bind_some, if_pos rfl]
        rfl
      · cases hq : X i with
        | none => exact absurd hq hx
        | some q =>
          rw [hq] at x1 x2 x3
          cases q with
          | none =>
            refine ⟨_, ?_, RN1 (by rw [hq]; decide)⟩
            unfold f_Tape_clamp f_Tape_clamp_0
            rw [hh, Option.bind_some, if_neg (show ¬ (1 : Int32) = 0 by decide), if_pos Ji, show t17 (nI i).toNatClampNeg = some (cc (some none)) by rw [ci]; exact x1, Option.bind_some, show f_Cell_hasNoPoint (cc (some none)).1 (cc (some none)).2.1 (cc (some none)).2.2 = some (1 : Int32) by decide, Option.bind_some, if_neg (show ¬ (1 : Int32) = 0 by decide)]
            rfl
          | some t =>
            obtain ⟨l, h, m⟩ := t
            obtain ⟨a1, a2, a3, a4, a5, _⟩ := x2
            have hi' : Iok l h := ⟨a1, a2, a3, a4, a5⟩
            have xt : t17 (nI i).toNatClampNeg = some (lZ l, lZ h, nI m) := by rw [ci]; exact x1
            have y1 : m1 (nI i).toNatClampNeg = (2 : Int32) := by rw [ci]; exact x3.1
            have y2 : m2 (nI i).toNatClampNeg = lZ l := by rw [ci]; exact x3.2.1
            have y3 : m3 (nI i).toNatClampNeg = lZ h := by rw [ci]; exact x3.2.2.1
            have np : f_Cell_hasNoPoint (lZ l) (lZ h) (nI m) = some (0 : Int32) := by rw [nop_ok a1 a2, decide_eq_false (by omega)]; rfl
            rcases rank_ok d with ⟨n1, n2⟩ | ⟨r, hr, n1, n2, n3, n4⟩
            · refine ⟨(9221120237041090560 : Int64), ?_, ?_⟩
              · unfold f_Tape_clamp f_Tape_clamp_0
                rw [hh, Option.bind_some, if_neg (show ¬ (1 : Int32) = 0 by decide), if_pos Ji, xt, Option.bind_some, np, Option.bind_some, if_pos rfl, n1, Option.bind_some, if_pos rfl]
                rfl
              · unfold f_Ref_clamp f_Ref_clamp_0
                rw [ht, Option.bind_some, if_neg (show ¬ (1 : Int32) = 0 by decide), if_pos Ji, if_pos y1, if_neg (fun h9 => by rw [Int64.le_iff_toInt_le] at h9; rw [Int64.lt_iff_toInt_lt] at n2; omega)]
                rfl
            · obtain ⟨z, k1, k2⟩ := clamp_ok hi' hr
              refine ⟨z, ?_, ?_⟩
              · unfold f_Tape_clamp f_Tape_clamp_0
                rw [hh, Option.bind_some, if_neg (show ¬ (1 : Int32) = 0 by decide), if_pos Ji, xt, Option.bind_some, np, Option.bind_some, if_pos rfl, n1, Option.bind_some, if_neg (show ¬ (1 : Int32) = 0 by decide), if_pos Ji, Option.bind_some, n3, Option.bind_some, jl_, if_pos Ji, Option.bind_some, jl_, k1, Option.bind_some]
              · unfold f_Ref_clamp f_Ref_clamp_0 f_Ref_clamp_89
                rw [ht, Option.bind_some, if_neg (show ¬ (1 : Int32) = 0 by decide), if_pos Ji, if_pos y1, if_pos (show (d &&& (9223372036854775807 : Int64)) ≤ (9218868437227405312 : Int64) by rw [Int64.le_iff_toInt_le]; rw [Int64.lt_iff_toInt_lt] at n2; exact Int.not_lt.mp n2), n4, Option.bind_some, if_pos Ji, y2]
                by_cases h1 : lZ l ≤ lZ r
                · rw [if_pos h1] at k2 ⊢
                  rw [if_pos Ji, y3]
                  by_cases h2 : lZ r ≤ lZ h
                  · rw [if_pos h2] at k2 ⊢
                    rw [k2, Option.bind_some]
                  · rw [if_neg h2] at k2 ⊢
                    rw [if_pos Ji, k2, Option.bind_some]
                · rw [if_neg h1] at k2 ⊢
                  rw [if_pos Ji, k2, Option.bind_some]
  obtain ⟨z, e1, e2⟩ := J
  unfold f_Law_c14
  dsimp only
  rw [← hd, e1, Option.bind_some, e2, Option.bind_some, if_pos rfl]
  exact ⟨_, _, _, rfl, c, S, X, N, ov, b, hc, rfl, rfl, hT, hX, rfl, rfl, hB, rfl, rfl⟩
/-- a turn of the law -/
theorem ok_step (v0 v1 v2 v3 v4 v5 : Int32) {T : TS} {M : RS} (gu : Int64) (h : INV T M) : OK (f_Law_step v0 v1 v2 v3 v4 v5 T M gu) := by
  obtain ⟨k, hk, e⟩ := pk_andE v0 (m := (15 : Int32)) 4 (by decide)
  unfold f_Law_step
  rw [jl_, show v0 &&& 15 = nI k from e]
  have hc : k = 0 ∨ k = 1 ∨ k = 2 ∨ k = 3 ∨ k = 4 ∨ k = 5 ∨ k = 6 ∨ k = 7 ∨ k = 8 ∨ k = 9 ∨ k = 10 ∨ k = 11 ∨ k = 12 ∨ k = 13 ∨ k = 14 ∨ k = 15 := by omega
  rcases hc with e | e | e | e | e | e | e | e | e | e | e | e | e | e | e | e <;> subst e
  · rw [if_pos (show nI 0 = (0 : Int32) from rfl)]
    exact ok_c0 v1 v2 v3 v4 v5 gu h
  · rw [if_neg (show ¬ nI 1 = (0 : Int32) by decide), if_pos (show nI 1 = (1 : Int32) from rfl)]
    exact ok_c1 v1 v2 v3 v4 v5 gu h
  · rw [if_neg (show ¬ nI 2 = (0 : Int32) by decide), if_neg (show ¬ nI 2 = (1 : Int32) by decide), if_pos (show nI 2 = (2 : Int32) from rfl)]
    exact ok_c2 v1 v2 v3 v4 v5 gu h
  · rw [if_neg (show ¬ nI 3 = (0 : Int32) by decide), if_neg (show ¬ nI 3 = (1 : Int32) by decide), if_neg (show ¬ nI 3 = (2 : Int32) by decide), if_pos (show nI 3 = (3 : Int32) from rfl)]
    exact ok_c3 v1 v2 v3 v4 v5 gu h
  · rw [if_neg (show ¬ nI 4 = (0 : Int32) by decide), if_neg (show ¬ nI 4 = (1 : Int32) by decide), if_neg (show ¬ nI 4 = (2 : Int32) by decide), if_neg (show ¬ nI 4 = (3 : Int32) by decide), if_pos (show nI 4 = (4 : Int32) from rfl)]
    exact ok_c4 v1 v2 v3 v4 v5 gu h
  · rw [if_neg (show ¬ nI 5 = (0 : Int32) by decide), if_neg (show ¬ nI 5 = (1 : Int32) by decide), if_neg (show ¬ nI 5 = (2 : Int32) by decide), if_neg (show ¬ nI 5 = (3 : Int32) by decide), if_neg (show ¬ nI 5 = (4 : Int32) by decide), if_pos (show nI 5 = (5 : Int32) from rfl)]
    exact ok_c5 v1 v2 v3 v4 v5 gu h
  · rw [if_neg (show ¬ nI 6 = (0 : Int32) by decide), if_neg (show ¬ nI 6 = (1 : Int32) by decide), if_neg (show ¬ nI 6 = (2 : Int32) by decide), if_neg (show ¬ nI 6 = (3 : Int32) by decide), if_neg (show ¬ nI 6 = (4 : Int32) by decide), if_neg (show ¬ nI 6 = (5 : Int32) by decide), if_pos (show nI 6 = (6 : Int32) from rfl)]
    exact ok_c6 v1 v2 v3 v4 v5 gu h
  · rw [if_neg (show ¬ nI 7 = (0 : Int32) by decide), if_neg (show ¬ nI 7 = (1 : Int32) by decide), if_neg (show ¬ nI 7 = (2 : Int32) by decide), if_neg (show ¬ nI 7 = (3 : Int32) by decide), if_neg (show ¬ nI 7 = (4 : Int32) by decide), if_neg (show ¬ nI 7 = (5 : Int32) by decide), if_neg (show ¬ nI 7 = (6 : Int32) by decide), if_pos (show nI 7 = (7 : Int32) from rfl)]
    exact ok_c7 v1 v2 v3 v4 v5 gu h
  · rw [if_neg (show ¬ nI 8 = (0 : Int32) by decide), if_neg (show ¬ nI 8 = (1 : Int32) by decide), if_neg (show ¬ nI 8 = (2 : Int32) by decide), if_neg (show ¬ nI 8 = (3 : Int32) by decide), if_neg (show ¬ nI 8 = (4 : Int32) by decide), if_neg (show ¬ nI 8 = (5 : Int32) by decide), if_neg (show ¬ nI 8 = (6 : Int32) by decide), if_neg (show ¬ nI 8 = (7 : Int32) by decide), if_pos (show nI 8 = (8 : Int32) from rfl)]
    exact ok_c8 v1 v2 v3 v4 v5 gu h
  · rw [if_neg (show ¬ nI 9 = (0 : Int32) by decide), if_neg (show ¬ nI 9 = (1 : Int32) by decide), if_neg (show ¬ nI 9 = (2 : Int32) by decide), if_neg (show ¬ nI 9 = (3 : Int32) by decide), if_neg (show ¬ nI 9 = (4 : Int32) by decide), if_neg (show ¬ nI 9 = (5 : Int32) by decide), if_neg (show ¬ nI 9 = (6 : Int32) by decide), if_neg (show ¬ nI 9 = (7 : Int32) by decide), if_neg (show ¬ nI 9 = (8 : Int32) by decide), if_pos (show nI 9 = (9 : Int32) from rfl)]
    exact ok_c9 v1 v2 v3 v4 v5 gu h
  · rw [if_neg (show ¬ nI 10 = (0 : Int32) by decide), if_neg (show ¬ nI 10 = (1 : Int32) by decide), if_neg (show ¬ nI 10 = (2 : Int32) by decide), if_neg (show ¬ nI 10 = (3 : Int32) by decide), if_neg (show ¬ nI 10 = (4 : Int32) by decide), if_neg (show ¬ nI 10 = (5 : Int32) by decide), if_neg (show ¬ nI 10 = (6 : Int32) by decide), if_neg (show ¬ nI 10 = (7 : Int32) by decide), if_neg (show ¬ nI 10 = (8 : Int32) by decide), if_neg (show ¬ nI 10 = (9 : Int32) by decide), if_pos (show nI 10 = (10 : Int32) from rfl)]
    exact ok_c10 v1 v2 v3 v4 v5 gu h
  · rw [if_neg (show ¬ nI 11 = (0 : Int32) by decide), if_neg (show ¬ nI 11 = (1 : Int32) by decide), if_neg (show ¬ nI 11 = (2 : Int32) by decide), if_neg (show ¬ nI 11 = (3 : Int32) by decide), if_neg (show ¬ nI 11 = (4 : Int32) by decide), if_neg (show ¬ nI 11 = (5 : Int32) by decide), if_neg (show ¬ nI 11 = (6 : Int32) by decide), if_neg (show ¬ nI 11 = (7 : Int32) by decide), if_neg (show ¬ nI 11 = (8 : Int32) by decide), if_neg (show ¬ nI 11 = (9 : Int32) by decide), if_neg (show ¬ nI 11 = (10 : Int32) by decide), if_pos (show nI 11 = (11 : Int32) from rfl)]
    exact ok_c11 v1 v2 v3 v4 v5 gu h
  · rw [if_neg (show ¬ nI 12 = (0 : Int32) by decide), if_neg (show ¬ nI 12 = (1 : Int32) by decide), if_neg (show ¬ nI 12 = (2 : Int32) by decide), if_neg (show ¬ nI 12 = (3 : Int32) by decide), if_neg (show ¬ nI 12 = (4 : Int32) by decide), if_neg (show ¬ nI 12 = (5 : Int32) by decide), if_neg (show ¬ nI 12 = (6 : Int32) by decide), if_neg (show ¬ nI 12 = (7 : Int32) by decide), if_neg (show ¬ nI 12 = (8 : Int32) by decide), if_neg (show ¬ nI 12 = (9 : Int32) by decide), if_neg (show ¬ nI 12 = (10 : Int32) by decide), if_neg (show ¬ nI 12 = (11 : Int32) by decide), if_pos (show nI 12 = (12 : Int32) from rfl)]
    exact ok_c12 v1 v2 v3 v4 v5 gu h
  · rw [if_neg (show ¬ nI 13 = (0 : Int32) by decide), if_neg (show ¬ nI 13 = (1 : Int32) by decide), if_neg (show ¬ nI 13 = (2 : Int32) by decide), if_neg (show ¬ nI 13 = (3 : Int32) by decide), if_neg (show ¬ nI 13 = (4 : Int32) by decide), if_neg (show ¬ nI 13 = (5 : Int32) by decide), if_neg (show ¬ nI 13 = (6 : Int32) by decide), if_neg (show ¬ nI 13 = (7 : Int32) by decide), if_neg (show ¬ nI 13 = (8 : Int32) by decide), if_neg (show ¬ nI 13 = (9 : Int32) by decide), if_neg (show ¬ nI 13 = (10 : Int32) by decide), if_neg (show ¬ nI 13 = (11 : Int32) by decide), if_neg (show ¬ nI 13 = (12 : Int32) by decide), if_pos (show nI 13 = (13 : Int32) from rfl)]
    exact ok_c13 v1 v2 v3 v4 v5 gu h
  · rw [if_neg (show ¬ nI 14 = (0 : Int32) by decide), if_neg (show ¬ nI 14 = (1 : Int32) by decide), if_neg (show ¬ nI 14 = (2 : Int32) by decide), if_neg (show ¬ nI 14 = (3 : Int32) by decide), if_neg (show ¬ nI 14 = (4 : Int32) by decide), if_neg (show ¬ nI 14 = (5 : Int32) by decide), if_neg (show ¬ nI 14 = (6 : Int32) by decide), if_neg (show ¬ nI 14 = (7 : Int32) by decide), if_neg (show ¬ nI 14 = (8 : Int32) by decide), if_neg (show ¬ nI 14 = (9 : Int32) by decide), if_neg (show ¬ nI 14 = (10 : Int32) by decide), if_neg (show ¬ nI 14 = (11 : Int32) by decide), if_neg (show ¬ nI 14 = (12 : Int32) by decide), if_neg (show ¬ nI 14 = (13 : Int32) by decide), if_pos (show nI 14 = (14 : Int32) from rfl)]
    exact ok_c14 v1 v2 v3 v4 v5 gu h
  · rw [if_neg (show ¬ nI 15 = (0 : Int32) by decide), if_neg (show ¬ nI 15 = (1 : Int32) by decide), if_neg (show ¬ nI 15 = (2 : Int32) by decide), if_neg (show ¬ nI 15 = (3 : Int32) by decide), if_neg (show ¬ nI 15 = (4 : Int32) by decide), if_neg (show ¬ nI 15 = (5 : Int32) by decide), if_neg (show ¬ nI 15 = (6 : Int32) by decide), if_neg (show ¬ nI 15 = (7 : Int32) by decide), if_neg (show ¬ nI 15 = (8 : Int32) by decide), if_neg (show ¬ nI 15 = (9 : Int32) by decide), if_neg (show ¬ nI 15 = (10 : Int32) by decide), if_neg (show ¬ nI 15 = (11 : Int32) by decide), if_neg (show ¬ nI 15 = (12 : Int32) by decide), if_neg (show ¬ nI 15 = (13 : Int32) by decide), if_neg (show ¬ nI 15 = (14 : Int32) by decide), if_pos (show nI 15 = (15 : Int32) from rfl)]
    exact ok_c15 v1 v2 v3 v4 v5 gu h
