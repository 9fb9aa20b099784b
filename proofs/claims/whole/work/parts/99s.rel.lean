-- relations
theorem below_ok {a b : Int} (ha : a.natAbs ≤ INF) (hb : b.natAbs ≤ INF) : ∃ z : Bool, f_Rel_isBelow (lZ a) (lZ b) = some (bI z) ∧ f_Ref_under (lZ a) (lZ b) = some (bI z) := by
  have hI : INF = 9218868437227405312 := rfl
  unfold f_Rel_isBelow f_Rel_isBelow_0 f_Rel_isBelow_19 f_Rel_isBelow_23 f_Rel_isBelow_24 f_Ref_under f_Ref_under_0 f_Ref_under_19 f_Ref_under_23 f_Ref_under_24
  by_cases h1 : a < b
  · rw [if_pos ((l_lt (by omega) (by omega) (by omega) (by omega)).mpr h1), if_pos (by decide)]
    refine ⟨true, rfl, ?_⟩
    rw [if_pos ((l_lt (by omega) (by omega) (by omega) (by omega)).mpr h1)]
    rfl
  · have n1 : ¬ lZ a < lZ b := fun h9 => h1 ((l_lt (by omega) (by omega) (by omega) (by omega)).mp h9)
    rw [if_neg n1, if_neg n1]
    by_cases h2 : a = b
    · have e2 : lZ a = lZ b := by rw [h2]
      rw [if_pos e2, if_pos e2, isFin_ok ha, Option.bind_some, isInf_ok ha, Option.bind_some]
      by_cases h3 : a.natAbs = INF
      · rw [decide_eq_false (show ¬ a.natAbs < INF by omega), if_pos (show bI false = 0 from rfl), decide_eq_true h3, if_neg (show ¬ bI true = 0 by decide), if_pos (by decide)]
        exact ⟨true, rfl, rfl⟩
      · rw [decide_eq_true (show a.natAbs < INF by omega), if_neg (show ¬ bI true = 0 by decide), decide_eq_false h3, if_pos (show bI false = 0 from rfl), if_pos (by decide)]
        exact ⟨false, rfl, rfl⟩
    · have n2 : ¬ lZ a = lZ b := fun h9 => h2 ((l_eq (by omega) (by omega) (by omega) (by omega)).mp h9)
      rw [if_neg n2, if_neg n2, if_pos (by decide)]
      exact ⟨false, rfl, rfl⟩
def RelR (k i j c : Nat) (m1 : Nat → Int32) (m2 m3 : Nat → Int64) : Option (Int32 × Int32) := if m1 i = (2 : Int32) then (if m1 j = (2 : Int32) then (f_Ref_holds (nI k) (nI i) (nI j) m2 m3).bind fun r15 => (if j_z r15 then some (r15, (0 : Int32)) else none) else f_Ref_relation_79 (nI k) (nI i) (nI j) (nI c) m1 m2 m3 (0 : Int32)) else f_Ref_relation_79 (nI k) (nI i) (nI j) (nI c) m1 m2 m3 (0 : Int32)
theorem r121 {k c : Nat} (hk : k < 8) (first both : Bool) (m1 : Nat → Int32) (m2 m3 : Nat → Int64) : f_Ref_relation_121 (bI first) (nI k) (bI both) (nI c) m1 m2 m3 (0 : Int32) = some (bI (if k = 1 ∨ k = 2 then first else decide (k = 4 ∨ 5 < k) || both), (0 : Int32)) := by
  have hc : k = 0 ∨ k = 1 ∨ k = 2 ∨ k = 3 ∨ k = 4 ∨ k = 5 ∨ k = 6 ∨ k = 7 := by omega
  rcases hc with e | e | e | e | e | e | e | e <;> subst e <;> cases first <;> cases both <;> rfl
theorem rel_ok {k : Nat} (hk : k < 8) {X Y : Option (Option (Int × Int × Nat))} (hX0 : X ≠ none) (hY0 : Y ≠ none) (h1 : CellOk X) (h2 : CellOk Y) {i j c : Nat} (hi : i < 40) (hj : j < 40) {m1 : Nat → Int32} {m2 m3 : Nat → Int64} {m4 : Nat → Int32} (hA : AtR X i m1 m2 m3 m4) (hA2 : AtR Y j m1 m2 m3 m4) : ∃ z : Bool, f_Rel_holds (nI k) (cc X).1 (cc X).2.1 (cc X).2.2 (cc Y).1 (cc Y).2.1 (cc Y).2.2 = some (bI z) ∧ RelR k i j c m1 m2 m3 = some (bI z, (0 : Int32)) := by
  have hI : INF = 9218868437227405312 := rfl
  obtain ⟨p1, p2, p3, p4⟩ := hA
  obtain ⟨q1, q2, q3, q4⟩ := hA2
  have Ji := ji_ hi (by decide : 40 < 2 ^ 31)
  have Jj := ji_ hj (by decide : 40 < 2 ^ 31)
  have ci := nI_clamp (show i < 2 ^ 31 by omega)
  have cj := nI_clamp (show j < 2 ^ 31 by omega)
  have R79 : ∀ (fx fy : Bool), (kc X).1 = (if fx = true then (1 : Int32) else (2 : Int32)) → (kc Y).1 = (if fy = true then (1 : Int32) else (2 : Int32)) → f_Ref_relation_79 (nI k) (nI i) (nI j) (nI c) m1 m2 m3 (0 : Int32) = some (bI (if k = 1 ∨ k = 2 then fx else decide (k = 4 ∨ 5 < k) || (fx && fy)), (0 : Int32)) := fun fx fy ex ey => by
    unfold f_Ref_relation_79 f_Ref_relation_103 f_Ref_relation_104
    cases fx
    · replace ex : (kc X).1 = (2 : Int32) := ex
      simp only [if_pos Ji, if_pos Jj, ci, cj, p1, q1, ex, if_neg (show ¬ (2 : Int32) = 1 by decide)]
      exact r121 hk false false m1 m2 m3
    · replace ex : (kc X).1 = (1 : Int32) := ex
      cases fy
      · replace ey : (kc Y).1 = (2 : Int32) := ey
        simp only [if_pos Ji, if_pos Jj, ci, cj, p1, q1, ex, ey, if_neg (show ¬ (2 : Int32) = 1 by decide), if_true]
        exact r121 hk true false m1 m2 m3
      · replace ey : (kc Y).1 = (1 : Int32) := ey
        simp only [if_pos Ji, if_pos Jj, ci, cj, p1, q1, ex, ey, if_true]
        exact r121 hk true true m1 m2 m3
  have hc : k = 0 ∨ k = 1 ∨ k = 2 ∨ k = 3 ∨ k = 4 ∨ k = 5 ∨ k = 6 ∨ k = 7 := by omega
  unfold RelR
  rw [p1, q1]
  cases X with
  | none => exact absurd rfl hX0
  | some qx =>
    cases Y with
    | none => exact absurd rfl hY0
    | some qy =>
      cases qx with
      | none =>
        cases qy with
        | none =>
          rw [if_neg (by decide), R79 true true rfl rfl]
          rcases hc with e | e | e | e | e | e | e | e <;> subst e <;> exact ⟨_, by decide, rfl⟩
        | some ty =>
          obtain ⟨l, h, m⟩ := ty
          obtain ⟨a1, a2, a3, a4, a5, a6, a7, a8⟩ := h2
          rw [if_neg (by decide), R79 true false rfl rfl]
          show ∃ z : Bool, f_Rel_holds (nI k) (9218868437227405312 : Int64) (-9218868437227405312 : Int64) (1 : Int32) (lZ l) (lZ h) (nI m) = some (bI z) ∧ _
          have ne : ¬ (9218868437227405312 : Int64) = lZ l := by
            rw [show (9218868437227405312 : Int64) = lZ (INF : Int) by decide]
            exact fun h9 => by have := (l_eq (by omega) (by omega) (by omega) (by omega)).mp h9; omega
          unfold f_Rel_holds f_Rel_holds_0 f_Rel_holds_14 f_Rel_holds_19 f_Rel_holds_38
          rw [show f_Cell_hasNoPoint (9218868437227405312 : Int64) (-9218868437227405312 : Int64) (1 : Int32) = some (1 : Int32) by decide, Option.bind_some, if_neg (by decide), Option.bind_some, if_neg (by decide), nop_ok a1 a2, Option.bind_some, decide_eq_false (by omega), if_pos (show bI false = 0 from rfl)]
          unfold f_Rel_holds_39
          rcases hc with e | e | e | e | e | e | e | e <;> subst e
          · rw [if_pos (by decide), if_neg ne]; exact ⟨_, rfl, rfl⟩
          · rw [if_neg (by decide), if_pos (by decide), show f_Cell_hasNoPoint (9218868437227405312 : Int64) (-9218868437227405312 : Int64) (1 : Int32) = some (1 : Int32) by decide]; exact ⟨_, rfl, rfl⟩
          · rw [if_neg (by decide), if_neg (by decide), if_pos (by decide), show f_Cell_hasNoPoint (9218868437227405312 : Int64) (-9218868437227405312 : Int64) (1 : Int32) = some (1 : Int32) by decide]; exact ⟨_, rfl, rfl⟩
          · exact ⟨_, rfl, rfl⟩
          · exact ⟨_, rfl, rfl⟩
          · exact ⟨_, rfl, rfl⟩
          · exact ⟨_, rfl, rfl⟩
          · exact ⟨_, rfl, rfl⟩
      | some tx0 =>
        cases qy with
        | none =>
          obtain ⟨l, h, m⟩ := tx0
          obtain ⟨a1, a2, a3, a4, a5, a6, a7, a8⟩ := h1
          rw [if_pos (show (kc (some (some (l, h, m)))).1 = (2 : Int32) from rfl), if_neg (show ¬ (kc (some none)).1 = (2 : Int32) by decide), R79 false true rfl rfl]
          show ∃ z : Bool, f_Rel_holds (nI k) (lZ l) (lZ h) (nI m) (9218868437227405312 : Int64) (-9218868437227405312 : Int64) (1 : Int32) = some (bI z) ∧ _
          have ne : ¬ lZ l = (9218868437227405312 : Int64) := by
            rw [show (9218868437227405312 : Int64) = lZ (INF : Int) by decide]
            exact fun h9 => by have := (l_eq (by omega) (by omega) (by omega) (by omega)).mp h9; omega
          have np : f_Cell_hasNoPoint (lZ l) (lZ h) (nI m) = some (0 : Int32) := by rw [nop_ok a1 a2, decide_eq_false (by omega)]; rfl
          unfold f_Rel_holds f_Rel_holds_0 f_Rel_holds_14 f_Rel_holds_19 f_Rel_holds_38
          rw [np, Option.bind_some, if_pos rfl, show f_Cell_hasNoPoint (9218868437227405312 : Int64) (-9218868437227405312 : Int64) (1 : Int32) = some (1 : Int32) by decide, Option.bind_some, if_neg (by decide), Option.bind_some, if_pos rfl]
          unfold f_Rel_holds_39
          rcases hc with e | e | e | e | e | e | e | e <;> subst e
          · rw [if_pos (by decide), if_neg ne]; exact ⟨_, rfl, rfl⟩
          · rw [if_neg (by decide), if_pos (by decide), np]; exact ⟨_, rfl, rfl⟩
          · rw [if_neg (by decide), if_neg (by decide), if_pos (by decide), np]; exact ⟨_, rfl, rfl⟩
          · exact ⟨_, rfl, rfl⟩
          · exact ⟨_, rfl, rfl⟩
          · exact ⟨_, rfl, rfl⟩
          · exact ⟨_, rfl, rfl⟩
          · exact ⟨_, rfl, rfl⟩
        | some ty =>
          obtain ⟨a, b, n1⟩ := tx0
          obtain ⟨cc1, d, n2⟩ := ty
          obtain ⟨a1, a2, a3, a4, a5, a6, a7, a8⟩ := h1
          obtain ⟨c1, c2, c3, c4, c5, c6, c7, c8⟩ := h2
          rw [if_pos (show (kc (some (some (a, b, n1)))).1 = (2 : Int32) from rfl), if_pos (show (kc (some (some (cc1, d, n2)))).1 = (2 : Int32) from rfl)]
          show ∃ z : Bool, f_Rel_holds (nI k) (lZ a) (lZ b) (nI n1) (lZ cc1) (lZ d) (nI n2) = some (bI z) ∧ _
          have np : f_Cell_hasNoPoint (lZ a) (lZ b) (nI n1) = some (0 : Int32) := by rw [nop_ok a1 a2, decide_eq_false (by omega)]; rfl
          have np2 : f_Cell_hasNoPoint (lZ cc1) (lZ d) (nI n2) = some (0 : Int32) := by rw [nop_ok c1 c2, decide_eq_false (by omega)]; rfl
          have E : f_Rel_holds (nI k) (lZ a) (lZ b) (nI n1) (lZ cc1) (lZ d) (nI n2) = f_Rel_holds_39 (0 : Int32) (nI k) (lZ a) (lZ b) (nI n1) (lZ cc1) (lZ d) (nI n2) (0 : Int32) := by
            unfold f_Rel_holds f_Rel_holds_0 f_Rel_holds_14 f_Rel_holds_19 f_Rel_holds_38
            rw [np, Option.bind_some, if_pos rfl, np2, Option.bind_some, if_pos rfl, Option.bind_some, if_pos rfl]
          have E2 : f_Ref_holds (nI k) (nI i) (nI j) m2 m3 = f_Ref_holds_0 (nI k) (nI i) (nI j) m2 m3 := rfl
          rw [E, E2]
          unfold f_Ref_holds_0
          simp only [if_pos Ji, if_pos Jj, jl_, ci, cj, p2, p3, q2, q3]
          show ∃ z : Bool, _ ∧ (Option.bind (if nI k = (0 : Int32) then (if lZ a = lZ cc1 then (if lZ b = lZ d then f_Ref_holds_97 (1 : Int32) m2 m3 else f_Ref_holds_96 m2 m3) else f_Ref_holds_96 m2 m3) else (if nI k = (1 : Int32) then (if lZ a < lZ cc1 then f_Ref_holds_118 m2 m3 else (if lZ d < lZ b then f_Ref_holds_118 m2 m3 else f_Ref_holds_119 (1 : Int32) m2 m3)) else (if nI k = (2 : Int32) then (f_Ref_under (lZ cc1) (lZ a)).bind fun r16 => (if r16 = 0 then f_Ref_holds_144 m2 m3 else (f_Ref_under (lZ b) (lZ d)).bind fun r18 => (if r18 = 0 then f_Ref_holds_144 m2 m3 else f_Ref_holds_145 (1 : Int32) m2 m3)) else (if nI k = (3 : Int32) then (if lZ cc1 < lZ a then f_Ref_holds_166 m2 m3 else (if lZ d < lZ b then f_Ref_holds_166 m2 m3 else f_Ref_holds_167 (1 : Int32) m2 m3)) else (if nI k = (4 : Int32) then (if lZ cc1 < lZ b then f_Ref_holds_181 (0 : Int32) m2 m3 else f_Ref_holds_181 (1 : Int32) m2 m3) else (if nI k = (5 : Int32) then (f_Ref_under (lZ a) (lZ cc1)).bind fun r26 => (if r26 = 0 then f_Ref_holds_206 m2 m3 else (f_Ref_under (lZ b) (lZ d)).bind fun r28 => (if r28 = 0 then f_Ref_holds_206 m2 m3 else f_Ref_holds_207 (1 : Int32) m2 m3)) else (if nI k = (6 : Int32) then (if lZ cc1 ≤ lZ b then f_Ref_holds_221 (0 : Int32) m2 m3 else f_Ref_holds_221 (1 : Int32) m2 m3) else (if lZ b < lZ cc1 then f_Ref_holds_238 m2 m3 else (if lZ a ≤ lZ d then f_Ref_holds_243 (0 : Int32) m2 m3 else f_Ref_holds_238 m2 m3))))))))) _) = _
          unfold f_Rel_holds_39
          obtain ⟨z1, b1, b2⟩ := below_ok c1 a1
          obtain ⟨z2, b3, b4⟩ := below_ok a2 c2
          obtain ⟨z3, b5, b6⟩ := below_ok a1 c1
          rcases hc with e | e | e | e | e | e | e | e <;> subst e
          · rw [if_pos (show nI 0 = (0 : Int32) from rfl), if_pos (show nI 0 = (0 : Int32) from rfl)]
            by_cases e1 : lZ a = lZ cc1
            · rw [if_pos e1, if_pos e1]
              by_cases e2 : lZ b = lZ d
              · rw [if_pos e2, if_pos e2]; exact ⟨true, rfl, rfl⟩
              · rw [if_neg e2, if_neg e2]; exact ⟨false, rfl, rfl⟩
            · rw [if_neg e1, if_neg e1]; exact ⟨false, rfl, rfl⟩
          · rw [if_neg (show ¬ nI 1 = (0 : Int32) by decide), if_neg (show ¬ nI 1 = (0 : Int32) by decide), if_pos (show nI 1 = (1 : Int32) from rfl), if_pos (show nI 1 = (1 : Int32) from rfl), np, Option.bind_some, if_pos rfl, if_pos rfl]
            by_cases e1 : lZ a < lZ cc1
            · rw [if_pos e1, if_pos e1]; exact ⟨false, rfl, rfl⟩
            · rw [if_neg e1, if_neg e1]
              by_cases e2 : lZ d < lZ b
              · rw [if_pos e2, if_pos e2]; exact ⟨false, rfl, rfl⟩
              · rw [if_neg e2, if_neg e2]; exact ⟨true, rfl, rfl⟩
          · rw [if_neg (show ¬ nI 2 = (0 : Int32) by decide), if_neg (show ¬ nI 2 = (0 : Int32) by decide), if_neg (show ¬ nI 2 = (1 : Int32) by decide), if_neg (show ¬ nI 2 = (1 : Int32) by decide), if_pos (show nI 2 = (2 : Int32) from rfl), if_pos (show nI 2 = (2 : Int32) from rfl), np, Option.bind_some, if_pos rfl, if_pos rfl, b1, b2, Option.bind_some, Option.bind_some]
            cases z1
            · exact ⟨false, rfl, rfl⟩
            · rw [if_neg (show ¬ bI true = 0 by decide), if_neg (show ¬ bI true = 0 by decide), b3, b4, Option.bind_some, Option.bind_some]
              cases z2
              · exact ⟨false, rfl, rfl⟩
              · exact ⟨true, rfl, rfl⟩
          · rw [if_neg (show ¬ nI 3 = (0 : Int32) by decide), if_neg (show ¬ nI 3 = (0 : Int32) by decide), if_neg (show ¬ nI 3 = (1 : Int32) by decide), if_neg (show ¬ nI 3 = (1 : Int32) by decide), if_neg (show ¬ nI 3 = (2 : Int32) by decide), if_neg (show ¬ nI 3 = (2 : Int32) by decide), if_pos (show nI 3 = (3 : Int32) from rfl), if_pos (show nI 3 = (3 : Int32) from rfl), if_pos rfl, if_pos rfl]
            by_cases e1 : lZ cc1 < lZ a
            · rw [if_pos e1, if_pos e1]; exact ⟨false, rfl, rfl⟩
            · rw [if_neg e1, if_neg e1]
              by_cases e2 : lZ d < lZ b
              · rw [if_pos e2, if_pos e2]; exact ⟨false, rfl, rfl⟩
              · rw [if_neg e2, if_neg e2]; exact ⟨true, rfl, rfl⟩
          · rw [if_neg (show ¬ nI 4 = (0 : Int32) by decide), if_neg (show ¬ nI 4 = (0 : Int32) by decide), if_neg (show ¬ nI 4 = (1 : Int32) by decide), if_neg (show ¬ nI 4 = (1 : Int32) by decide), if_neg (show ¬ nI 4 = (2 : Int32) by decide), if_neg (show ¬ nI 4 = (2 : Int32) by decide), if_neg (show ¬ nI 4 = (3 : Int32) by decide), if_neg (show ¬ nI 4 = (3 : Int32) by decide), if_pos (show nI 4 = (4 : Int32) from rfl), if_pos (show nI 4 = (4 : Int32) from rfl), if_pos rfl]
            by_cases e1 : lZ cc1 < lZ b
            · rw [if_pos e1, if_pos e1]; exact ⟨false, rfl, rfl⟩
            · rw [if_neg e1, if_neg e1]; exact ⟨true, rfl, rfl⟩
          · rw [if_neg (show ¬ nI 5 = (0 : Int32) by decide), if_neg (show ¬ nI 5 = (0 : Int32) by decide), if_neg (show ¬ nI 5 = (1 : Int32) by decide), if_neg (show ¬ nI 5 = (1 : Int32) by decide), if_neg (show ¬ nI 5 = (2 : Int32) by decide), if_neg (show ¬ nI 5 = (2 : Int32) by decide), if_neg (show ¬ nI 5 = (3 : Int32) by decide), if_neg (show ¬ nI 5 = (3 : Int32) by decide), if_neg (show ¬ nI 5 = (4 : Int32) by decide), if_neg (show ¬ nI 5 = (4 : Int32) by decide), if_pos (show nI 5 = (5 : Int32) from rfl), if_pos (show nI 5 = (5 : Int32) from rfl), if_pos rfl, if_pos rfl, b5, b6, Option.bind_some, Option.bind_some]
            cases z3
            · exact ⟨false, rfl, rfl⟩
            · rw [if_neg (show ¬ bI true = 0 by decide), if_neg (show ¬ bI true = 0 by decide), b3, b4, Option.bind_some, Option.bind_some]
              cases z2
              · exact ⟨false, rfl, rfl⟩
              · exact ⟨true, rfl, rfl⟩
          · rw [if_neg (show ¬ nI 6 = (0 : Int32) by decide), if_neg (show ¬ nI 6 = (0 : Int32) by decide), if_neg (show ¬ nI 6 = (1 : Int32) by decide), if_neg (show ¬ nI 6 = (1 : Int32) by decide), if_neg (show ¬ nI 6 = (2 : Int32) by decide), if_neg (show ¬ nI 6 = (2 : Int32) by decide), if_neg (show ¬ nI 6 = (3 : Int32) by decide), if_neg (show ¬ nI 6 = (3 : Int32) by decide), if_neg (show ¬ nI 6 = (4 : Int32) by decide), if_neg (show ¬ nI 6 = (4 : Int32) by decide), if_neg (show ¬ nI 6 = (5 : Int32) by decide), if_neg (show ¬ nI 6 = (5 : Int32) by decide), if_pos (show nI 6 = (6 : Int32) from rfl), if_pos (show nI 6 = (6 : Int32) from rfl), if_pos rfl]
            by_cases e1 : lZ cc1 ≤ lZ b
            · rw [if_pos e1, if_pos e1]; exact ⟨false, rfl, rfl⟩
            · rw [if_neg e1, if_neg e1]; exact ⟨true, rfl, rfl⟩
          · rw [if_neg (show ¬ nI 7 = (0 : Int32) by decide), if_neg (show ¬ nI 7 = (0 : Int32) by decide), if_neg (show ¬ nI 7 = (1 : Int32) by decide), if_neg (show ¬ nI 7 = (1 : Int32) by decide), if_neg (show ¬ nI 7 = (2 : Int32) by decide), if_neg (show ¬ nI 7 = (2 : Int32) by decide), if_neg (show ¬ nI 7 = (3 : Int32) by decide), if_neg (show ¬ nI 7 = (3 : Int32) by decide), if_neg (show ¬ nI 7 = (4 : Int32) by decide), if_neg (show ¬ nI 7 = (4 : Int32) by decide), if_neg (show ¬ nI 7 = (5 : Int32) by decide), if_neg (show ¬ nI 7 = (5 : Int32) by decide), if_neg (show ¬ nI 7 = (6 : Int32) by decide), if_neg (show ¬ nI 7 = (6 : Int32) by decide), if_pos (show nI 7 = (7 : Int32) from rfl), if_pos rfl]
            by_cases e1 : lZ b < lZ cc1
            · rw [if_pos e1, if_pos e1]; exact ⟨true, rfl, rfl⟩
            · rw [if_neg e1, if_neg e1]
              by_cases e2 : lZ a ≤ lZ d
              · rw [if_pos e2, if_pos e2]; exact ⟨false, rfl, rfl⟩
              · rw [if_neg e2, if_neg e2]; exact ⟨true, rfl, rfl⟩
