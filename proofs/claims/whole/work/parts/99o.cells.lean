-- cells: functions of one and of two
noncomputable def ONEV (f : Nat) (X : Option (Option (Int × Int × Nat))) : Option (Option (Int × Int × Nat)) := match X with
  | none => none
  | some none => some none
  | some (some (l, h, m)) => fo (U1 f l h) m
theorem ONEV_ok {f : Nat} {X : Option (Option (Int × Int × Nat))} (h : CellOk X) : CellOk (ONEV f X) := by
  match X, h with
  | none, _ => trivial
  | some none, _ => trivial
  | some (some (l, hh, m)), ⟨a1, a2, a3, a4, a5, a6, a7, _⟩ => exact fo_ok (U1_ok ⟨a1, a2, a3, a4, a5⟩) a6 a7
theorem cone_all {f : Nat} (hf : f < 9) {X : Option (Option (Int × Int × Nat))} (h : CellOk X) : f_One_value (nI f) (cc X).1 (cc X).2.1 (cc X).2.2 = some (cc (ONEV f X)) := by
  have hI : INF = 9218868437227405312 := rfl
  match X, h with
  | none, _ => rfl
  | some none, _ =>
    unfold f_One_value f_One_value_0
    show (if (1 : Int32) = 0 then _ else _) = _
    rw [if_neg (by decide), show f_Cell_hasNoPoint (cc (some none)).1 (cc (some none)).2.1 (cc (some none)).2.2 = some (1 : Int32) by decide, Option.bind_some, if_neg (by decide)]
    rfl
  | some (some (l, hh, m)), ⟨a1, a2, a3, a4, a5, a6, a7, _⟩ => exact cone_ok hf ⟨a1, a2, a3, a4, a5⟩ a6 a7
/-- the cell i as the reference holds it -/
def AtR (X : Option (Option (Int × Int × Nat))) (i : Nat) (m1 : Nat → Int32) (m2 m3 : Nat → Int64) (m4 : Nat → Int32) : Prop := m1 i = (kc X).1 ∧ m2 i = (kc X).2.1 ∧ m3 i = (kc X).2.2.1 ∧ m4 i = (kc X).2.2.2
def CellR (K : Int32 × Int64 × Int64 × Int32) (c : Nat) (g1 : Nat → Int32) (g2 g3 : Nat → Int64) (g4 : Nat → Int32) (F : Option (Int32 × Int32 × (Nat → Int32) × (Nat → Int64) × (Nat → Int64) × (Nat → Int32) × Int32 × (Nat → Int32) × Int32 × Int64 × Int64 × Int32)) : Prop := ∃ g8' N' ov' r, F = some (nI c, nI (c + 1), upd g1 c K.1, vp_updL g2 c K.2.1, vp_updL g3 c K.2.2.1, upd g4 c K.2.2.2, (0 : Int32), g8', bI ov', r) ∧ Big g8' N'
theorem rone_all {f : Nat} (hf : f < 9) {X : Option (Option (Int × Int × Nat))} (h : CellOk X) {i c : Nat} (hi : i < 40) (hc : c < 40) {m1 : Nat → Int32} {m2 m3 : Nat → Int64} {m4 : Nat → Int32} (hA : AtR X i m1 m2 m3 m4) {g8 : Nat → Int32} {N : Nat → Nat} (hB : Big g8 N) (ov : Bool) (g5 : Int32) (x y : Int64) (w : Int32) : CellR (kc (ONEV f X)) c m1 m2 m3 m4 (f_Ref_unary_41 (0 : Int32) (nI f) (nI i) (nI c) m1 m2 m3 m4 g5 g8 (bI ov) x y w) := by
  obtain ⟨h1, h2, h3, h4⟩ := hA
  have J := ji_ hi (by decide : 40 < 2 ^ 31)
  unfold f_Ref_unary_41 f_Ref_unary_87
  rw [if_pos (by decide), if_pos J]
  simp only [nI_clamp (show i < 2 ^ 31 by omega), h1, h2, h3, h4]
  match X, h with
  | none, _ =>
    rw [if_neg (show ¬ (kc none).1 = (2 : Int32) by decide), if_pos J, if_pos (show (kc none).1 = 0 from rfl)]
    unfold f_Ref_ill f_Ref_ill_0
    rw [rcell_ok hc, Option.bind_some, Option.bind_some]
    exact ⟨g8, N, ov, _, rfl, hB⟩
  | some none, _ =>
    rw [if_neg (show ¬ (kc (some none)).1 = (2 : Int32) by decide), if_pos J, if_neg (show ¬ (kc (some none)).1 = 0 by decide), rcell_ok hc, Option.bind_some]
    exact ⟨g8, N, ov, _, rfl, hB⟩
  | some (some (l, hh, m)), ⟨a1, a2, a3, a4, a5, a6, a7, a8⟩ =>
    have hi' : Iok l hh := ⟨a1, a2, a3, a4, a5⟩
    obtain ⟨z, g', N', ov', x', y', w', e, b', q⟩ := rone_ok hf hi' hB ov x y
    rw [if_pos (show (kc (some (some (l, hh, m)))).1 = (2 : Int32) from rfl), if_pos J, if_pos J, show f_Ref_ofOne (nI f) (kc (some (some (l, hh, m)))).2.1 (kc (some (some (l, hh, m)))).2.2.1 g8 (bI ov) x y (0 : Int32) = _ from e, Option.bind_some, jl_, if_pos J, if_pos J, show f_Ref_bounded (kc (some (some (l, hh, m)))).2.1 (kc (some (some (l, hh, m)))).2.2.1 = _ from rbnd_ok a1 a2, Option.bind_some, if_pos J]
    rw [show f_Ref_keep z (bI (decide (BM l hh = 4))) (kc (some (some (l, hh, m)))).2.2.2 (nI c) m1 m2 m3 m4 x' y' w' = _ from keep_ok (U1_ok hi') q a6 a7 (fun h9 => decide_eq_true (a8 h9)) hc m1 m2 m3 m4, Option.bind_some]
    exact ⟨g', N', ov', _, rfl, b'⟩
-- two
def mn2 (a b : Nat) : Nat := if a ≤ b then a else b
def TWOV (f : Nat) (X Y : Option (Option (Int × Int × Nat))) : Option (Option (Int × Int × Nat)) := match X, Y with
  | none, _ => none
  | some _, none => none
  | some none, some none => some none
  | some none, some (some (l, h, _)) => if f = 7 then some (some (l, h, 1)) else some none
  | some (some (l, h, _)), some none => if f = 7 then some (some (l, h, 1)) else some none
  | some (some (a, b, m1)), some (some (c, d, m2)) => if f = 7 then some (some (MN a c, MX b d, 1)) else if f = 6 then (if MX a c ≤ MN b d then some (some (MX a c, MN b d, 1)) else some none) else fo (U2 f a b c d) (mn2 m1 m2)
theorem TWOV_ok {f : Nat} {X Y : Option (Option (Int × Int × Nat))} (h1 : CellOk X) (h2 : CellOk Y) : CellOk (TWOV f X Y) := by
  match X, Y, h1, h2 with
  | none, _, _, _ => trivial
  | some _, none, _, _ => trivial
  | some none, some none, _, _ => trivial
  | some none, some (some (l, h, m)), _, ⟨a1, a2, a3, a4, a5, a6, a7, _⟩ =>
    show CellOk (if f = 7 then some (some (l, h, 1)) else some none)
    split
    · exact ⟨a1, a2, a3, a4, a5, by decide, by decide, fun h9 => absurd h9 (by decide)⟩
    · trivial
  | some (some (l, h, m)), some none, ⟨a1, a2, a3, a4, a5, a6, a7, _⟩, _ =>
    show CellOk (if f = 7 then some (some (l, h, 1)) else some none)
    split
    · exact ⟨a1, a2, a3, a4, a5, by decide, by decide, fun h9 => absurd h9 (by decide)⟩
    · trivial
  | some (some (a, b, m1)), some (some (c, d, m2)), ⟨a1, a2, a3, a4, a5, a6, a7, _⟩, ⟨c1, c2, c3, c4, c5, c6, c7, _⟩ =>
    show CellOk (if f = 7 then some (some (MN a c, MX b d, 1)) else if f = 6 then (if MX a c ≤ MN b d then some (some (MX a c, MN b d, 1)) else some none) else fo (U2 f a b c d) (mn2 m1 m2))
    have n1 := MN_le a c
    have n2 := MX_ge b d
    have n3 := MX_ge a c
    have n4 := MN_le b d
    split
    · exact ⟨by omega, by omega, by omega, by omega, by omega, by decide, by decide, fun h9 => absurd h9 (by decide)⟩
    · split
      · split
        · exact ⟨by omega, by omega, by omega, by omega, by omega, by decide, by decide, fun h9 => absurd h9 (by decide)⟩
        · trivial
      · exact fo_ok (U2_ok ⟨a1, a2, a3, a4, a5⟩ ⟨c1, c2, c3, c4, c5⟩) (by unfold mn2; split <;> omega) (by unfold mn2; split <;> omega)
theorem btw1 {l h : Int} (hi : Iok l h) : f_Cell_between (lZ l) (lZ h) (1 : Int32) = some (lZ l, lZ h, (1 : Int32)) := by
  have := between_ok (m := 1) hi.1 hi.2.1 hi.2.2.1 hi.2.2.2.1 hi.2.2.2.2 (by decide)
  rw [if_neg (fun h9 => absurd h9.1 (by decide))] at this
  exact this
theorem ctwo_all {f : Nat} (hf : f < 8) {X Y : Option (Option (Int × Int × Nat))} (h1 : CellOk X) (h2 : CellOk Y) : f_Two_value (nI f) (cc X).1 (cc X).2.1 (cc X).2.2 (cc Y).1 (cc Y).2.1 (cc Y).2.2 = some (cc (TWOV f X Y)) := by
  have hI : INF = 9218868437227405312 := rfl
  have pI : (9218868437227405312 : Int64) = lZ (INF : Int) := by decide
  have mI : (-9218868437227405312 : Int64) = lZ (-(INF : Int)) := by decide
  have n7 : nI f = (7 : Int32) ↔ f = 7 := nI_eq (b := 7) (by omega) (by decide)
  have n6 : nI f = (6 : Int32) ↔ f = 6 := nI_eq (b := 6) (by omega) (by decide)
  match X, Y, h1, h2 with
  | none, _, _, _ => rfl
  | some q, none, hq1, _ =>
    unfold f_Two_value f_Two_value_0
    have hq : ¬ (cc (some q)).2.2 = 0 := by
      match q, hq1 with
      | none, _ => decide
      | some (l, h, m), ⟨_, _, _, _, _, a6, a7, _⟩ =>
        show ¬ nI m = 0
        intro h9
        have := (i_eq0 (by omega)).mp h9
        omega
    rw [if_neg hq, if_pos (show (cc none).2.2 = 0 from rfl)]
    cases q <;> rfl
  | some none, some none, _, _ =>
    unfold f_Two_value f_Two_value_0 f_Two_value_44 f_Two_hull f_Two_hull_0
    rw [if_neg (show ¬ (cc (some none)).2.2 = 0 by decide), if_neg (show ¬ (cc (some none)).2.2 = 0 by decide), show f_Cell_hasNoPoint (cc (some none)).1 (cc (some none)).2.1 (cc (some none)).2.2 = some (1 : Int32) by decide]
    by_cases e : f = 7
    · rw [if_pos (n7.mpr e), Option.bind_some, if_neg (by decide), Option.bind_some, if_neg (by decide)]
      rfl
    · rw [if_neg (fun h9 => e (n7.mp h9)), Option.bind_some, if_neg (by decide)]
      rfl
  | some none, some (some (l, h, m)), _, ⟨a1, a2, a3, a4, a5, a6, a7, _⟩ =>
    have hm : ¬ nI m = 0 := fun h9 => by have := (i_eq0 (by omega)).mp h9; omega
    show f_Two_value (nI f) (9218868437227405312 : Int64) (-9218868437227405312 : Int64) (1 : Int32) (lZ l) (lZ h) (nI m) = some (cc (if f = 7 then some (some (l, h, 1)) else some none))
    unfold f_Two_value f_Two_value_0 f_Two_value_44 f_Two_hull f_Two_hull_0 f_Two_hull_18
    rw [if_neg (by decide), if_neg hm, show f_Cell_hasNoPoint (9218868437227405312 : Int64) (-9218868437227405312 : Int64) (1 : Int32) = some (1 : Int32) by decide]
    by_cases e : f = 7
    · rw [if_pos (n7.mpr e), Option.bind_some, if_neg (by decide), nop_ok a1 a2, Option.bind_some, decide_eq_false (by omega), if_pos (show bI false = 0 from rfl), mI, pI, lmin (by omega) a1, lmax (by omega) a2, jl_, jl_, show MN (INF : Int) l = l by unfold MN; split <;> omega, show MX (-(INF : Int)) h = h by unfold MX; split <;> omega, btw1 ⟨a1, a2, a3, a4, a5⟩, Option.bind_some, Option.bind_some, if_pos e]
      rfl
    · rw [if_neg (fun h9 => e (n7.mp h9)), Option.bind_some, if_neg (by decide), if_neg e]
      rfl
  | some (some (l, h, m)), some none, ⟨a1, a2, a3, a4, a5, a6, a7, _⟩, _ =>
    have hm : ¬ nI m = 0 := fun h9 => by have := (i_eq0 (by omega)).mp h9; omega
    show f_Two_value (nI f) (lZ l) (lZ h) (nI m) (9218868437227405312 : Int64) (-9218868437227405312 : Int64) (1 : Int32) = some (cc (if f = 7 then some (some (l, h, 1)) else some none))
    unfold f_Two_value f_Two_value_0 f_Two_value_44 f_Two_hull f_Two_hull_0 f_Two_hull_18
    rw [if_neg hm, if_neg (by decide), nop_ok a1 a2, decide_eq_false (by omega), show f_Cell_hasNoPoint (9218868437227405312 : Int64) (-9218868437227405312 : Int64) (1 : Int32) = some (1 : Int32) by decide]
    by_cases e : f = 7
    · rw [if_pos (n7.mpr e), Option.bind_some, if_pos (show bI false = 0 from rfl), mI, pI, lmin a1 (by omega), lmax a2 (by omega), jl_, jl_, show MN l (INF : Int) = l by unfold MN; split <;> omega, show MX h (-(INF : Int)) = h by unfold MX; split <;> omega, btw1 ⟨a1, a2, a3, a4, a5⟩, Option.bind_some, Option.bind_some, if_pos e]
      rfl
    · rw [if_neg (fun h9 => e (n7.mp h9)), Option.bind_some, if_pos (show bI false = 0 from rfl), Option.bind_some, if_neg (by decide), if_neg e]
      rfl
  | some (some (a, b, m1)), some (some (c, d, m2)), ⟨a1, a2, a3, a4, a5, a6, a7, _⟩, ⟨c1, c2, c3, c4, c5, c6, c7, _⟩ =>
    have hm1 : ¬ nI m1 = 0 := fun h9 => by have := (i_eq0 (by omega)).mp h9; omega
    have hm2 : ¬ nI m2 = 0 := fun h9 => by have := (i_eq0 (by omega)).mp h9; omega
    have n1 := MN_le a c
    have n2 := MX_ge b d
    have n3 := MX_ge a c
    have n4 := MN_le b d
    show f_Two_value (nI f) (lZ a) (lZ b) (nI m1) (lZ c) (lZ d) (nI m2) = some (cc (if f = 7 then some (some (MN a c, MX b d, 1)) else if f = 6 then (if MX a c ≤ MN b d then some (some (MX a c, MN b d, 1)) else some none) else fo (U2 f a b c d) (mn2 m1 m2)))
    by_cases e : f = 7
    · unfold f_Two_value f_Two_value_0 f_Two_hull f_Two_hull_0 f_Two_hull_18
      rw [if_neg hm1, if_neg hm2, if_pos (n7.mpr e), nop_ok a1 a2, Option.bind_some, decide_eq_false (by omega), if_pos (show bI false = 0 from rfl), lmin a1 c1, lmax a2 c2, jl_, jl_, btw1 ⟨by omega, by omega, by omega, by omega, by omega⟩, Option.bind_some, Option.bind_some, if_pos e]
      rfl
    · by_cases e6 : f = 6
      · subst e6
        unfold f_Two_value f_Two_value_0 f_Two_intersection f_Two_intersection_0 f_Two_intersection_45
        rw [if_neg hm1, if_neg hm2, if_neg (by decide), nop_ok a1 a2, Option.bind_some, decide_eq_false (by omega), if_pos (show bI false = 0 from rfl), nop_ok c1 c2, Option.bind_some, decide_eq_false (by omega), if_pos (show bI false = 0 from rfl), jl_, if_neg (by decide), if_neg (by decide), if_neg (by decide), if_neg (by decide), if_neg (by decide), if_neg (by decide), if_pos (show nI 6 = (6 : Int32) from rfl), lmax a1 c1, lmin a2 c2, jl_, jl_, if_neg (show ¬ (6 : Nat) = 7 by decide), if_pos (show (6 : Nat) = 6 from rfl)]
        by_cases hle : MX a c ≤ MN b d
        · rw [if_pos ((l_le (by omega) (by omega) (by omega) (by omega)).mpr hle), btw1 ⟨by omega, by omega, by omega, by omega, by omega⟩, Option.bind_some, Option.bind_some, if_pos hle]
          rfl
        · rw [if_neg (fun h9 => hle ((l_le (by omega) (by omega) (by omega) (by omega)).mp h9)), if_neg hle]
          rfl
      · rw [if_neg e, if_neg e6]
        exact ctwo_ok (by omega) ⟨a1, a2, a3, a4, a5⟩ ⟨c1, c2, c3, c4, c5⟩ a6 a7 c6 c7
theorem rtwo_all {f : Nat} (hf : f < 8) {X Y : Option (Option (Int × Int × Nat))} (h1 : CellOk X) (h2 : CellOk Y) {i j c : Nat} (hi : i < 40) (hj : j < 40) (hc : c < 40) {m1 : Nat → Int32} {m2 m3 : Nat → Int64} {m4 : Nat → Int32} (hA : AtR X i m1 m2 m3 m4) (hA2 : AtR Y j m1 m2 m3 m4) {g8 : Nat → Int32} {N : Nat → Nat} (hB : Big g8 N) (ov : Bool) (g5 : Int32) (x y : Int64) (w : Int32) : CellR (kc (TWOV f X Y)) c m1 m2 m3 m4 (f_Ref_binary_49 (0 : Int32) (nI f) (nI i) (nI j) (nI c) m1 m2 m3 m4 g5 g8 (bI ov) x y w) := by
  have hI : INF = 9218868437227405312 := rfl
  obtain ⟨p1, p2, p3, p4⟩ := hA
  obtain ⟨q1, q2, q3, q4⟩ := hA2
  have Ji := ji_ hi (by decide : 40 < 2 ^ 31)
  have Jj := ji_ hj (by decide : 40 < 2 ^ 31)
  have ci := nI_clamp (show i < 2 ^ 31 by omega)
  have cj := nI_clamp (show j < 2 ^ 31 by omega)
  have n6 : nI f = (6 : Int32) ↔ f = 6 := nI_eq (b := 6) (by omega) (by decide)
  have n5 : nI f ≤ (5 : Int32) ↔ f ≤ 5 := nI_leI (b := 5) (by omega) (by decide)
  have ILL : CellR (kc none) c m1 m2 m3 m4 (f_Ref_binary_79 (nI c) m1 m2 m3 m4 (0 : Int32) g8 (bI ov) x y w) := by
    unfold f_Ref_binary_79 f_Ref_ill f_Ref_ill_0
    rw [rcell_ok hc, Option.bind_some, Option.bind_some]
    exact ⟨g8, N, ov, _, rfl, hB⟩
  have EMP : CellR (kc (some none)) c m1 m2 m3 m4 (f_Ref_binary_131 (nI c) m1 m2 m3 m4 (0 : Int32) g8 (bI ov) x y w) := by
    unfold f_Ref_binary_131
    rw [rcell_ok hc, Option.bind_some]
    exact ⟨g8, N, ov, _, rfl, hB⟩
  unfold f_Ref_binary_49
  rw [if_pos (by decide), if_pos Ji, if_pos Jj]
  simp only [ci, cj, p1, p2, p3, p4, q1, q2, q3, q4]
  by_cases hX0 : X = none
  · subst hX0
    rw [if_pos (show (kc none).1 = 0 from rfl)]
    exact ILL
  by_cases hY0 : Y = none
  · subst hY0
    have : kc (TWOV f X none) = kc none := by
      cases X with
      | none => rfl
      | some q => cases q <;> rfl
    rw [this]
    have hx : ¬ (kc X).1 = 0 := by
      match X, hX0 with
      | some none, _ => decide
      | some (some (l, h, m)), _ => exact (by decide : ¬ (2 : Int32) = 0)
    rw [if_neg hx, if_pos (show (kc none).1 = 0 from rfl)]
    exact ILL
  have hx : ¬ (kc X).1 = 0 := by
    match X, hX0 with
    | some none, _ => decide
    | some (some (l, h, m)), _ => exact (by decide : ¬ (2 : Int32) = 0)
  have hy : ¬ (kc Y).1 = 0 := by
    match Y, hY0 with
    | some none, _ => decide
    | some (some (l, h, m)), _ => exact (by decide : ¬ (2 : Int32) = 0)
  rw [if_neg hx, if_neg hy]
  have CELL : ∀ (k : Int32) (l h : Int64) (m : Int32) (X0 : Option (Option (Int × Int × Nat))), kc X0 = (k, l, h, m) → CellR (kc X0) c m1 m2 m3 m4 (f_Ref_binary_110 (nI c) (nI (c + 1)) (upd m1 c k) (vp_updL m2 c l) (vp_updL m3 c h) (upd m4 c m) (0 : Int32) g8 (bI ov) x y w) := fun k l h m X0 e => by
    rw [e]
    exact ⟨g8, N, ov, _, rfl, hB⟩
  by_cases hf5 : f ≤ 5
  · rw [if_pos (n5.mpr hf5)]
    by_cases hXe : X = some none
    · subst hXe
      have : kc (TWOV f (some none) Y) = kc (some none) := by
        match Y, hY0 with
        | some none, _ => rfl
        | some (some (l, h, m)), _ =>
          show kc (if f = 7 then some (some (l, h, 1)) else some none) = _
          rw [if_neg (by omega)]
      rw [this, if_pos Ji, if_pos (show (kc (some none)).1 = (1 : Int32) from rfl)]
      exact EMP
    by_cases hYe : Y = some none
    · subst hYe
      match X, hX0, hXe, h1 with
      | some (some (l, h, m)), _, _, _ =>
        have : kc (TWOV f (some (some (l, h, m))) (some none)) = kc (some none) := by
          show kc (if f = 7 then some (some (l, h, 1)) else some none) = _
          rw [if_neg (by omega)]
        rw [this, if_pos Ji, if_neg (show ¬ (kc (some (some (l, h, m)))).1 = (1 : Int32) from (by decide : ¬ (2 : Int32) = 1)), if_pos Jj, if_pos (show (kc (some none)).1 = (1 : Int32) from rfl)]
        exact EMP
    match X, hX0, hXe, h1, p4 with
    | some (some (a, b, k1)), _, _, ⟨a1, a2, a3, a4, a5, a6, a7, a8⟩, p4 =>
      match Y, hY0, hYe, h2, q4 with
      | some (some (cc1, d, k2)), _, _, ⟨c1, c2, c3, c4, c5, c6, c7, c8⟩, q4 =>
        have hU : U2 f a b cc1 d = U2 f a b cc1 d := rfl
        obtain ⟨z, g', N', ov', x', y', w', e, b', q⟩ := rtwo_ok (f := f) (by omega) ⟨a1, a2, a3, a4, a5⟩ ⟨c1, c2, c3, c4, c5⟩ hB ov x y
        have hT : kc (TWOV f (some (some (a, b, k1))) (some (some (cc1, d, k2)))) = kc (fo (U2 f a b cc1 d) (mn2 k1 k2)) := by
          show kc (if f = 7 then some (some (MN a cc1, MX b d, 1)) else if f = 6 then (if MX a cc1 ≤ MN b d then some (some (MX a cc1, MN b d, 1)) else some none) else fo (U2 f a b cc1 d) (mn2 k1 k2)) = _
          rw [if_neg (by omega), if_neg (by omega)]
        rw [hT, if_pos Ji, if_neg (show ¬ (kc (some (some (a, b, k1)))).1 = (1 : Int32) from (by decide : ¬ (2 : Int32) = 1)), if_pos Jj, if_neg (show ¬ (kc (some (some (cc1, d, k2)))).1 = (1 : Int32) from (by decide : ¬ (2 : Int32) = 1)), if_pos Ji, if_pos Ji, if_pos Jj, if_pos Jj, show f_Ref_ofTwo (nI f) (kc (some (some (a, b, k1)))).2.1 (kc (some (some (a, b, k1)))).2.2.1 (kc (some (some (cc1, d, k2)))).2.1 (kc (some (some (cc1, d, k2)))).2.2.1 g8 (bI ov) x y (0 : Int32) = _ from e, Option.bind_some, jl_, if_pos Ji, if_pos Ji, show f_Ref_bounded (kc (some (some (a, b, k1)))).2.1 (kc (some (some (a, b, k1)))).2.2.1 = _ from rbnd_ok a1 a2, Option.bind_some]
        have E220 : ∀ all : Bool, (mn2 k1 k2 = 4 → all = true) → CellR (kc (fo (U2 f a b cc1 d) (mn2 k1 k2))) c m1 m2 m3 m4 (f_Ref_binary_220 (bI all) z (nI i) (nI j) (nI c) m1 m2 m3 m4 (0 : Int32) g' (bI ov') x' y' w') := fun all ha => by
          have hl : f_Ref_least (m4 i) (m4 j) = some (nI (mn2 k1 k2)) := by
            rw [p4, q4]
            show f_Ref_least (nI k1) (nI k2) = _
            unfold f_Ref_least f_Ref_least_0 f_Ref_least_10 mn2
            by_cases h9 : k2 ≤ k1
            · rw [if_pos (nI_le h9 (by omega))]
              by_cases h8 : k1 ≤ k2
              · rw [if_pos h8, show k1 = k2 by omega]
              · rw [if_neg h8]
            · rw [if_neg (nI_ge (by omega) (by omega)), if_pos (by omega)]
          unfold f_Ref_binary_220
          rw [if_pos Ji, if_pos Jj, ci, cj, hl, Option.bind_some, keep_ok (U2_ok ⟨a1, a2, a3, a4, a5⟩ ⟨c1, c2, c3, c4, c5⟩) q (by unfold mn2; split <;> omega) (by unfold mn2; split <;> omega) ha hc, Option.bind_some]
          exact ⟨g', N', ov', _, rfl, b'⟩
        unfold f_Ref_binary_219
        by_cases hb1 : BM a b = 4
        · rw [decide_eq_true hb1, if_neg (show ¬ bI true = 0 by decide), if_pos Jj, if_pos Jj, show f_Ref_bounded (kc (some (some (cc1, d, k2)))).2.1 (kc (some (some (cc1, d, k2)))).2.2.1 = _ from rbnd_ok c1 c2, Option.bind_some]
          by_cases hb2 : BM cc1 d = 4
          · rw [decide_eq_true hb2, if_neg (show ¬ bI true = 0 by decide)]
            exact E220 true (fun _ => rfl)
          · rw [decide_eq_false hb2, if_pos (show bI false = 0 from rfl)]
            exact E220 false (fun h9 => absurd (c8 (by unfold mn2 at h9; split at h9 <;> omega)) hb2)
        · rw [decide_eq_false hb1, if_pos (show bI false = 0 from rfl)]
          exact E220 false (fun h9 => absurd (a8 (by unfold mn2 at h9; split at h9 <;> omega)) hb1)
  · rw [if_neg (fun h9 => hf5 (n5.mp h9))]
    by_cases hf6 : f = 6
    · subst hf6
      rw [if_pos (show nI 6 = (6 : Int32) from rfl)]
      unfold f_Ref_meet f_Ref_meet_0
      rw [if_pos Ji, if_pos Jj]
      simp only [ci, cj, p1, p2, p3, q1, q2, q3]
      have E64 : ∀ u v : Int64, CellR (kc (some none)) c m1 m2 m3 m4 ((f_Ref_meet_64 u v (nI c) m1 m2 m3 m4).bind fun r27 => f_Ref_binary_110 r27.1 r27.2.1 r27.2.2.1 r27.2.2.2.1 r27.2.2.2.2.1 r27.2.2.2.2.2 (0 : Int32) g8 (bI ov) x y w) := fun u v => by
        unfold f_Ref_meet_64 f_Ref_meet_65 f_Ref_meet_92
        rw [if_pos rfl, rcell_ok hc, Option.bind_some, Option.bind_some]
        exact CELL _ _ _ _ (some none) rfl
      have bX : ∃ l h, (kc X).2.1 = lZ l ∧ (kc X).2.2.1 = lZ h ∧ l.natAbs ≤ INF ∧ h.natAbs ≤ INF := by
        match X, hX0, h1 with
        | some none, _, _ => exact ⟨0, 0, rfl, rfl, by decide, by decide⟩
        | some (some (l, h, m)), _, ⟨a1, a2, _⟩ => exact ⟨l, h, rfl, rfl, a1, a2⟩
      have bY : ∃ l h, (kc Y).2.1 = lZ l ∧ (kc Y).2.2.1 = lZ h ∧ l.natAbs ≤ INF ∧ h.natAbs ≤ INF := by
        match Y, hY0, h2 with
        | some none, _, _ => exact ⟨0, 0, rfl, rfl, by decide, by decide⟩
        | some (some (l, h, m)), _, ⟨a1, a2, _⟩ => exact ⟨l, h, rfl, rfl, a1, a2⟩
      obtain ⟨la, ha, x1, x2, x3, x4⟩ := bX
      obtain ⟨lb, hb, y1, y2, y3, y4⟩ := bY
      rw [x1, x2, y1, y2, rgr x3 y3, Option.bind_some, if_pos Ji, if_pos Jj, rls x4 y4, Option.bind_some, if_pos Ji, if_pos Jj]
      match X, hX0, h1, x1, x2 with
      | some none, _, _, _, _ =>
        have : kc (TWOV 6 (some none) Y) = kc (some none) := by
          match Y, hY0 with
          | some none, _ => rfl
          | some (some (l, h, m)), _ => rfl
        rw [this, if_neg (show ¬ (kc (some none)).1 = (2 : Int32) by decide)]
        exact E64 _ _
      | some (some (a, b, k1)), _, ⟨a1, a2, a3, a4, a5, a6, a7, a8⟩, x1, x2 =>
        rw [if_pos (show (kc (some (some (a, b, k1)))).1 = (2 : Int32) from rfl)]
        match Y, hY0, h2, y1, y2 with
        | some none, _, _, _, _ =>
          rw [if_neg (show ¬ (kc (some none)).1 = (2 : Int32) by decide)]
          exact E64 _ _
        | some (some (cc1, d, k2)), _, ⟨c1, c2, c3, c4, c5, c6, c7, c8⟩, y1, y2 =>
          have z1 : la = a := ((l_eq (by omega) (by omega) (by omega) (by omega)).mp (show lZ a = lZ la from x1)).symm
          have z2 : ha = b := ((l_eq (by omega) (by omega) (by omega) (by omega)).mp (show lZ b = lZ ha from x2)).symm
          have z3 : lb = cc1 := ((l_eq (by omega) (by omega) (by omega) (by omega)).mp (show lZ cc1 = lZ lb from y1)).symm
          have z4 : hb = d := ((l_eq (by omega) (by omega) (by omega) (by omega)).mp (show lZ d = lZ hb from y2)).symm
          subst z1 z2 z3 z4
          have n3 := MX_ge la lb
          have n4 := MN_le ha hb
          rw [if_pos (show (kc (some (some (lb, hb, k2)))).1 = (2 : Int32) from rfl)]
          have hT : TWOV 6 (some (some (la, ha, k1))) (some (some (lb, hb, k2))) = if MX la lb ≤ MN ha hb then some (some (MX la lb, MN ha hb, 1)) else some none := rfl
          rw [hT]
          by_cases hle : MX la lb ≤ MN ha hb
          · rw [if_neg (show ¬ lZ (MN ha hb) < lZ (MX la lb) from fun h9 => by have := (l_lt (by omega) (by omega) (by omega) (by omega)).mp h9; omega), if_pos hle]
            unfold f_Ref_meet_65 f_Ref_meet_92
            rw [if_neg (by decide), rcell_ok hc, Option.bind_some, Option.bind_some]
            exact CELL _ _ _ _ (some (some (MX la lb, MN ha hb, 1))) rfl
          · rw [if_pos (show lZ (MN ha hb) < lZ (MX la lb) from (l_lt (by omega) (by omega) (by omega) (by omega)).mpr (by omega)), if_neg hle]
            exact E64 _ _
    · have hf7 : f = 7 := by omega
      subst hf7
      rw [if_neg (show ¬ nI 7 = (6 : Int32) by decide)]
      unfold f_Ref_hull f_Ref_hull_0 f_Ref_hull_20 f_Ref_hull_35
      rw [if_pos Ji, if_pos Jj, if_pos Ji, if_pos Jj, if_pos Ji, if_pos Jj]
      simp only [if_pos Ji, if_pos Jj, ci, cj, p1, p2, p3, q1, q2, q3]
      match X, hX0, h1 with
      | some none, _, _ =>
        rw [if_pos (show (kc (some none)).1 = (1 : Int32) from rfl), if_pos (show (kc (some none)).1 = (1 : Int32) from rfl), rcell_ok hc, Option.bind_some, Option.bind_some]
        match Y, hY0, h2 with
        | some none, _, _ => exact CELL _ _ _ _ (some none) rfl
        | some (some (l, h, m)), _, _ => exact CELL _ _ _ _ (some (some (l, h, 1))) rfl
      | some (some (a, b, k1)), _, ⟨a1, a2, a3, a4, a5, a6, a7, a8⟩ =>
        rw [if_neg (show ¬ (kc (some (some (a, b, k1)))).1 = (1 : Int32) from (by decide : ¬ (2 : Int32) = 1)), if_neg (show ¬ (kc (some (some (a, b, k1)))).1 = (1 : Int32) from (by decide : ¬ (2 : Int32) = 1))]
        match Y, hY0, h2 with
        | some none, _, _ =>
          rw [if_pos (show (kc (some none)).1 = (1 : Int32) from rfl), rcell_ok hc, Option.bind_some, Option.bind_some]
          exact CELL _ _ _ _ (some (some (a, b, 1))) rfl
        | some (some (cc1, d, k2)), _, ⟨c1, c2, c3, c4, c5, c6, c7, c8⟩ =>
          rw [if_neg (show ¬ (kc (some (some (cc1, d, k2)))).1 = (1 : Int32) from (by decide : ¬ (2 : Int32) = 1)), show f_Ref_less (kc (some (some (a, b, k1)))).2.1 (kc (some (some (cc1, d, k2)))).2.1 = _ from rls a1 c1, Option.bind_some, show f_Ref_greater (kc (some (some (a, b, k1)))).2.2.1 (kc (some (some (cc1, d, k2)))).2.2.1 = _ from rgr a2 c2, Option.bind_some, rcell_ok hc, Option.bind_some, Option.bind_some]
          exact CELL _ _ _ _ (some (some (MN a cc1, MX b d, 1))) rfl
