-- functions of one interval, the reference
def RL (loc : Nat) : Nat := if loc = 4 then 3 else loc
def RQ (x : Option (Int × Int × Nat)) (x' y' : Int64) (w' : Int32) : Prop := match x with
  | none => w' = (1 : Int32)
  | some (l, h, _) => w' = (0 : Int32) ∧ x' = lZ l ∧ y' = lZ h
def RQ3 (x : Option (Int × Int × Nat)) (z : Int32) (x' y' : Int64) (w' : Int32) : Prop := match x with
  | none => w' = (1 : Int32)
  | some (l, h, loc) => w' = (0 : Int32) ∧ x' = lZ l ∧ y' = lZ h ∧ z = nI (RL loc)
theorem rparts_ok {a b c d : Int} (h1 : Iok a b) (h2 : Iok c d) (hc : 0 ≤ c) (hd : 0 < d) {g : Nat → Int32} {N : Nat → Nat} (hB : Big g N) (ov : Bool) (x y : Int64) : ∃ g' N' ov', f_Ref_parts (lZ a) (lZ b) (lZ c) (lZ d) g (bI ov) x y = some (g', bI ov', lZ (PLO a c d), lZ (PHI b c d)) ∧ Big g' N' := by
  have hI : INF = 9218868437227405312 := rfl
  obtain ⟨a1, a2, a3, a4, a5⟩ := h1
  obtain ⟨c1, c2, c3, c4, c5⟩ := h2
  have E45 : ∀ (l : Int) (g : Nat → Int32) (N : Nat → Nat) (ov : Bool), Big g N → ∃ g' N' ov', f_Ref_parts_45 (lZ l) (lZ b) (lZ c) (lZ d) g (bI ov) x y = some (g', bI ov', lZ l, lZ (PHI b c d)) ∧ Big g' N' := fun l g N ov hB => by
    unfold f_Ref_parts_45 f_Ref_parts_78 f_Ref_parts_92 PHI
    have fin : ∀ (g : Nat → Int32) (ov : Bool) (h : Int), ((f_Ref_result (lZ l) (lZ h) x y).bind fun r1 => some (g, bI ov, r1.1, r1.2)) = some (g, bI ov, lZ l, lZ h) := fun g ov h => rfl
    have finI : ((f_Ref_result (lZ l) (9218868437227405312 : Int64) x y).bind fun r1 => some (g, bI ov, r1.1, r1.2)) = some (g, bI ov, lZ l, lZ (INF : Int)) := rfl
    by_cases h0 : b ≤ 0
    · obtain ⟨g', N', ov', e, b'⟩ := rquot_all (x := b) (y := d) (how := 1) (by decide) a2 c2 (by omega) hB ov
      rw [if_neg (show ¬ (0 : Int64) < lZ b from fun h9 => by have := (l_lt (a := 0) (by decide) (by decide) (by omega) (by omega)).mp h9; omega), show f_Ref_quotient (lZ b) (lZ d) (1 : Int32) g (bI ov) = _ from e, Option.bind_some, if_pos h0]
      exact ⟨g', N', ov', fin g' ov' _, b'⟩
    · rw [if_pos (show (0 : Int64) < lZ b from (l_lt (a := 0) (by decide) (by decide) (by omega) (by omega)).mpr (by omega)), if_neg h0]
      by_cases hc0 : c = 0
      · rw [if_pos ((l_eq0 (by omega) (by omega)).mpr hc0), if_pos (Or.inl hc0)]
        exact ⟨g, N, ov, finI, hB⟩
      · rw [if_neg (fun h9 => hc0 ((l_eq0 (by omega) (by omega)).mp h9)), isInf_ok a2, Option.bind_some]
        by_cases hi : b.natAbs = INF
        · rw [decide_eq_true hi, if_neg (show ¬ bI true = 0 by decide), if_pos (Or.inr hi)]
          exact ⟨g, N, ov, finI, hB⟩
        · obtain ⟨g', N', ov', e, b'⟩ := rquot_all (x := b) (y := c) (how := 1) (by decide) a2 c1 hc0 hB ov
          rw [decide_eq_false hi, if_pos (show bI false = 0 from rfl), show f_Ref_quotient (lZ b) (lZ c) (1 : Int32) g (bI ov) = _ from e, Option.bind_some, if_neg (by omega)]
          exact ⟨g', N', ov', fin g' ov' _, b'⟩
  unfold f_Ref_parts f_Ref_parts_0 f_Ref_parts_31
  unfold PLO
  rw [show (-9218868437227405312 : Int64) = lZ (-(INF : Int)) by decide]
  by_cases h0 : 0 ≤ a
  · obtain ⟨g', N', ov', e, b'⟩ := rquot_all (x := a) (y := d) (how := 0) (by decide) a1 c2 (by omega) hB ov
    rw [if_neg (fun h9 => by have := (l_lt0 (by omega) (by omega)).mp h9; omega), show f_Ref_quotient (lZ a) (lZ d) (0 : Int32) g (bI ov) = _ from e, Option.bind_some, if_pos h0]
    exact E45 _ g' N' ov' b'
  · rw [if_pos ((l_lt0 (by omega) (by omega)).mpr (by omega)), if_neg h0]
    by_cases hc0 : c = 0
    · rw [if_pos ((l_eq0 (by omega) (by omega)).mpr hc0), if_pos (Or.inl hc0)]
      exact E45 _ g N ov hB
    · rw [if_neg (fun h9 => hc0 ((l_eq0 (by omega) (by omega)).mp h9)), isInf_ok a1, Option.bind_some]
      by_cases hi : a.natAbs = INF
      · rw [decide_eq_true hi, if_neg (show ¬ bI true = 0 by decide), if_pos (Or.inr hi)]
        exact E45 _ g N ov hB
      · obtain ⟨g', N', ov', e, b'⟩ := rquot_all (x := a) (y := c) (how := 0) (by decide) a1 c1 hc0 hB ov
        rw [decide_eq_false hi, if_pos (show bI false = 0 from rfl), show f_Ref_quotient (lZ a) (lZ c) (0 : Int32) g (bI ov) = _ from e, Option.bind_some, if_neg (by omega)]
        exact E45 _ g' N' ov' b'
theorem PLO_0 (c d : Int) : PLO 0 c d = 0 ∧ PHI 0 c d = 0 := by
  constructor
  · unfold PLO
    rw [if_pos (show (0 : Int) ≤ 0 by decide)]
    unfold QUOT
    rw [if_pos (Or.inl rfl)]
  · unfold PHI
    rw [if_pos (show (0 : Int) ≤ 0 by decide)]
    unfold QUOT
    rw [if_pos (Or.inl rfl)]
theorem rquots_ok {a b c d : Int} (h1 : Iok a b) (h2 : Iok c d) {g : Nat → Int32} {N : Nat → Nat} (hB : Big g N) (ov : Bool) (x y : Int64) (w : Int32) : ∃ g' N' ov' x' y' w', f_Ref_quotients (lZ a) (lZ b) (lZ c) (lZ d) g (bI ov) x y w = some (g', bI ov', x', y', w') ∧ Big g' N' ∧ RQ (DV a b c d) x' y' w' := by
  have hI : INF = 9218868437227405312 := rfl
  have hh1 := h1
  have hh2 := h2
  obtain ⟨a1, a2, a3, a4, a5⟩ := h1
  obtain ⟨c1, c2, c3, c4, c5⟩ := h2
  have E42 : ∀ s : Int32, f_Ref_quotients_42 g (bI ov) x y s = some (g, bI ov, (0 : Int64), (0 : Int64), s) := fun s => rfl
  unfold f_Ref_quotients f_Ref_quotients_0 f_Ref_quotients_19
  by_cases hz : c = 0 ∧ d = 0
  · have e : DV a b c d = none := by unfold DV; rw [if_pos hz]
    rw [if_pos ((l_eq0 (by omega) (by omega)).mpr hz.1), if_pos ((l_eq0 (by omega) (by omega)).mpr hz.2), e]
    unfold f_Ref_quotients_20
    rw [if_pos (by decide), if_neg (by decide), E42]
    exact ⟨g, N, ov, _, _, _, rfl, hB, rfl⟩
  · have E20 : ∃ g' N' ov' x' y' w', f_Ref_quotients_20 (0 : Int32) (lZ a) (lZ b) (lZ c) (lZ d) g (bI ov) x y w = some (g', bI ov', x', y', w') ∧ Big g' N' ∧ RQ (DV a b c d) x' y' w' := by
      have E51 : ¬ (a = 0 ∧ b = 0) → ∃ g' N' ov' x' y' w', f_Ref_quotients_51 (lZ a) (lZ b) (lZ c) (lZ d) g (bI ov) x y (0 : Int32) = some (g', bI ov', x', y', w') ∧ Big g' N' ∧ RQ (DV a b c d) x' y' w' := fun hab => by
        unfold f_Ref_quotients_51 f_Ref_quotients_112
        have E78 : ¬ (c < 0 ∧ 0 < d) → ∃ g' N' ov' x' y' w', f_Ref_quotients_78 (lZ a) (lZ b) (lZ c) (lZ d) g (bI ov) x y (0 : Int32) = some (g', bI ov', x', y', w') ∧ Big g' N' ∧ RQ (DV a b c d) x' y' w' := fun hs => by
          unfold f_Ref_quotients_78 f_Ref_quotients_112
          by_cases hc : 0 ≤ c
          · obtain ⟨g', N', ov', e, b'⟩ := rparts_ok hh1 hh2 hc (by omega) hB ov x y
            have ed : DV a b c d = some (PLO a c d, PHI b c d, if c = 0 then 1 else 4) := by unfold DV; rw [if_neg hz, if_neg hs, if_pos hc]
            rw [if_neg (fun h9 => by have := (l_lt0 (by omega) (by omega)).mp h9; omega), e, Option.bind_some, ed]
            exact ⟨g', N', ov', _, _, _, rfl, b', rfl, rfl, rfl⟩
          · obtain ⟨g', N', ov', e, b'⟩ := rparts_ok (a := -b) (b := -a) (c := -d) (d := -c) ⟨by omega, by omega, by omega, by omega, by omega⟩ ⟨by omega, by omega, by omega, by omega, by omega⟩ (by omega) (by omega) hB ov x y
            have ed : DV a b c d = some (PLO (-b) (-d) (-c), PHI (-a) (-d) (-c), if d = 0 then 1 else 4) := by unfold DV; rw [if_neg hz, if_neg hs, if_neg hc]
            rw [if_pos ((l_lt0 (by omega) (by omega)).mpr (by omega)), lZ_neg, lZ_neg, lZ_neg, lZ_neg, e, Option.bind_some, ed]
            exact ⟨g', N', ov', _, _, _, rfl, b', rfl, rfl, rfl⟩
        by_cases hc : 0 ≤ c
        · rw [if_pos ((l_le0 (by omega) (by omega)).mpr hc)]
          exact E78 (by omega)
        · rw [if_neg (fun h9 => hc ((l_le0 (by omega) (by omega)).mp h9))]
          by_cases hd : d ≤ 0
          · rw [if_pos (show lZ d ≤ (0 : Int64) from (l_le (b := 0) (by omega) (by omega) (by decide) (by decide)).mpr hd)]
            exact E78 (by omega)
          · have ed : DV a b c d = some (-(INF : Int), (INF : Int), 1) := by unfold DV; rw [if_neg hz, if_pos (by omega), if_neg hab]
            rw [if_neg (show ¬ lZ d ≤ (0 : Int64) from fun h9 => hd ((l_le (b := 0) (by omega) (by omega) (by decide) (by decide)).mp h9)), ed]
            exact ⟨g, N, ov, _, _, _, rfl, hB, rfl, by decide, by decide⟩
      unfold f_Ref_quotients_20
      rw [if_pos (by decide), if_pos (show (0 : Int32) = 0 from rfl)]
      by_cases e1 : a = 0
      · rw [if_pos ((l_eq0 (by omega) (by omega)).mpr e1)]
        by_cases e2 : b = 0
        · rw [if_pos ((l_eq0 (by omega) (by omega)).mpr e2), E42]
          refine ⟨g, N, ov, _, _, _, rfl, hB, ?_⟩
          subst e1 e2
          unfold DV
          rw [if_neg hz]
          have p1 := PLO_0 c d
          have p2 := PLO_0 (-d) (-c)
          split
          · rw [if_pos ⟨rfl, rfl⟩]
            exact ⟨rfl, rfl, rfl⟩
          · split
            · rw [p1.1, p1.2]
              exact ⟨rfl, rfl, rfl⟩
            · rw [show (-0 : Int) = 0 from rfl, p2.1, p2.2]
              exact ⟨rfl, rfl, rfl⟩
        · rw [if_neg (fun h9 => e2 ((l_eq0 (by omega) (by omega)).mp h9))]
          exact E51 (fun h => e2 h.2)
      · rw [if_neg (fun h9 => e1 ((l_eq0 (by omega) (by omega)).mp h9))]
        exact E51 (fun h => e1 h.1)
    by_cases e1 : c = 0
    · rw [if_pos ((l_eq0 (by omega) (by omega)).mpr e1), if_neg (fun h9 => hz ⟨e1, (l_eq0 (by omega) (by omega)).mp h9⟩)]
      exact E20
    · rw [if_neg (fun h9 => e1 ((l_eq0 (by omega) (by omega)).mp h9))]
      exact E20
theorem DV_loc {a b c d l h : Int} {loc : Nat} (hcd : c ≤ d) (e : DV a b c d = some (l, h, loc)) : RL loc = if c ≤ 0 ∧ 0 ≤ d then 1 else 3 := by
  unfold DV at e
  split at e
  · cases e
  · next hz =>
    split at e
    · next hs =>
      split at e
      · cases e
        rw [if_pos (by omega)]
        rfl
      · cases e
        rw [if_pos (by omega)]
        rfl
    · next hs =>
      split at e
      · next hc =>
        cases e
        by_cases h0 : c = 0
        · rw [if_pos h0, if_pos (by omega)]
          rfl
        · rw [if_neg h0, if_neg (by omega)]
          rfl
      · next hc =>
        cases e
        by_cases h0 : d = 0
        · rw [if_pos h0, if_pos (by omega)]
          rfl
        · rw [if_neg h0, if_neg (by omega)]
          rfl
def OF (F : Option (Int32 × (Nat → Int32) × Int32 × Int64 × Int64 × Int32)) (x : Option (Int × Int × Nat)) : Prop := ∃ z g' N' ov' x' y' w', F = some (z, g', bI ov', x', y', w') ∧ Big g' N' ∧ RQ3 x z x' y' w'
theorem r278_ok {l h : Int} (hi : Iok l h) {g : Nat → Int32} {N : Nat → Nat} (hB : Big g N) (ov : Bool) : OF (f_Ref_ofOne_278 g (bI ov) (lZ l) (lZ h) (0 : Int32)) (STP l h) := by
  have hI : INF = 9218868437227405312 := rfl
  obtain ⟨a1, a2, a3, a4, a5⟩ := hi
  unfold f_Ref_ofOne_278 f_Ref_ofOne_295 STP
  by_cases e : l = h
  · rw [if_pos (show lZ l = lZ h by rw [e]), if_pos e]
    exact ⟨_, g, N, ov, _, _, _, rfl, hB, rfl, rfl, rfl, rfl⟩
  · rw [if_neg (fun h9 => e ((l_eq (by omega) (by omega) (by omega) (by omega)).mp h9)), if_neg e]
    exact ⟨_, g, N, ov, _, _, _, rfl, hB, rfl, rfl, rfl, rfl⟩
theorem rone_ok {f : Nat} {l h : Int} (hf : f < 9) (hi : Iok l h) {g : Nat → Int32} {N : Nat → Nat} (hB : Big g N) (ov : Bool) (x y : Int64) : OF (f_Ref_ofOne (nI f) (lZ l) (lZ h) g (bI ov) x y (0 : Int32)) (U1 f l h) := by
  have hI : INF = 9218868437227405312 := rfl
  have ho := U1_ok (f := f) hi
  obtain ⟨a1, a2, a3, a4, a5⟩ := id hi
  have mb := mag_b a1 a2
  unfold f_Ref_ofOne f_Ref_ofOne_0
  have hc : f = 0 ∨ f = 1 ∨ f = 2 ∨ f = 3 ∨ f = 4 ∨ f = 5 ∨ f = 6 ∨ f = 7 ∨ f = 8 := by omega
  rcases hc with e | e | e | e | e | e | e | e | e <;> subst e
  · have U : U1 0 l h = some (-h, -l, 4) := rfl
    rw [U]
    rw [if_pos (show nI 0 = (0 : Int32) from rfl), lZ_neg, lZ_neg]
    exact ⟨_, g, N, ov, _, _, _, rfl, hB, rfl, rfl, rfl, rfl⟩
  · have U : U1 1 l h = some (MIG l h, MAG l h, 4) := rfl
    rw [U]
    rw [if_neg (by decide), if_pos (show nI 1 = (1 : Int32) from rfl), rmig_ok a1 a2, Option.bind_some, rmag_ok a1 a2, Option.bind_some]
    exact ⟨_, g, N, ov, _, _, _, rfl, hB, rfl, rfl, rfl, rfl⟩
  · have U : U1 2 l h = some (PROD (MIG l h) (MIG l h) 0, PROD (MAG l h) (MAG l h) 1, 4) := rfl
    rw [U]
    obtain ⟨g1, N1, o1, e1, b1⟩ := rprod_all (x := MIG l h) (y := MIG l h) (how := 0) (by decide) (by omega) (by omega) hB ov
    obtain ⟨g2, N2, o2, e2, b2⟩ := rprod_all (x := MAG l h) (y := MAG l h) (how := 1) (by decide) (by omega) (by omega) b1 o1
    rw [if_neg (by decide), if_neg (by decide), if_pos (show nI 2 = (2 : Int32) from rfl), rmig_ok a1 a2, Option.bind_some, rmag_ok a1 a2, Option.bind_some, show f_Ref_product (lZ (MIG l h)) (lZ (MIG l h)) (0 : Int32) g (bI ov) = _ from e1, Option.bind_some, show f_Ref_product (lZ (MAG l h)) (lZ (MAG l h)) (1 : Int32) g1 (bI o1) = _ from e2, Option.bind_some]
    exact ⟨_, g2, N2, o2, _, _, _, rfl, b2, rfl, rfl, rfl, rfl⟩
  · have U : U1 3 l h = if h < 0 then none else some (ROOT (MX l 0) 0, ROOT h 1, if l < 0 then 1 else 4) := rfl
    rw [U]
    have hmx : 0 ≤ MX l 0 ∧ (MX l 0).natAbs ≤ INF := by unfold MX; split <;> omega
    have hmx2 : 0 ≤ MX h 0 ∧ (MX h 0).natAbs ≤ INF := by unfold MX; split <;> omega
    obtain ⟨g1, N1, o1, e1, b1⟩ := rroot_all (x := MX l 0) (how := 0) (by decide) hmx.1 hmx.2 hB ov
    obtain ⟨g2, N2, o2, e2, b2⟩ := rroot_all (x := MX h 0) (how := 1) (by decide) hmx2.1 hmx2.2 b1 o1
    have E130 : ∀ s : Bool, ∃ z, f_Ref_ofOne_130 (bI s) (lZ l) (lZ h) g (bI ov) x y (0 : Int32) = some (z, g2, bI o2, lZ (ROOT (MX l 0) 0), lZ (ROOT (MX h 0) 1), bI s) ∧ z = nI (if l < 0 then 1 else 3) := fun s => by
      unfold f_Ref_ofOne_130 f_Ref_ofOne_169
      rw [if_pos (bz s), show (0 : Int64) = lZ 0 from rfl, rgr a1 (by decide), Option.bind_some, show f_Ref_root (lZ (MX l 0)) (0 : Int32) g (bI ov) = _ from e1, Option.bind_some, rgr a2 (by decide), Option.bind_some, show f_Ref_root (lZ (MX h 0)) (1 : Int32) g1 (bI o1) = _ from e2, Option.bind_some]
      by_cases hl : l < 0
      · rw [show lZ 0 = (0 : Int64) from rfl, if_pos hl]
        refine ⟨_, ?_, rfl⟩
        rw [show ((f_Ref_result (lZ (ROOT (MX l 0) 0)) (lZ (ROOT (MX h 0) 1)) x y).bind fun r6 => if lZ l < (0 : Int64) then some ((1 : Int32), g2, bI o2, r6.1, r6.2, bI s) else some ((3 : Int32), g2, bI o2, r6.1, r6.2, bI s)) = (if lZ l < (0 : Int64) then some ((1 : Int32), g2, bI o2, lZ (ROOT (MX l 0) 0), lZ (ROOT (MX h 0) 1), bI s) else some ((3 : Int32), g2, bI o2, lZ (ROOT (MX l 0) 0), lZ (ROOT (MX h 0) 1), bI s)) from rfl, if_pos ((l_lt0 (by omega) (by omega)).mpr hl)]
        rfl
      · rw [show lZ 0 = (0 : Int64) from rfl, if_neg hl]
        refine ⟨_, ?_, rfl⟩
        rw [show ((f_Ref_result (lZ (ROOT (MX l 0) 0)) (lZ (ROOT (MX h 0) 1)) x y).bind fun r6 => if lZ l < (0 : Int64) then some ((1 : Int32), g2, bI o2, r6.1, r6.2, bI s) else some ((3 : Int32), g2, bI o2, r6.1, r6.2, bI s)) = (if lZ l < (0 : Int64) then some ((1 : Int32), g2, bI o2, lZ (ROOT (MX l 0) 0), lZ (ROOT (MX h 0) 1), bI s) else some ((3 : Int32), g2, bI o2, lZ (ROOT (MX l 0) 0), lZ (ROOT (MX h 0) 1), bI s)) from rfl, if_neg (fun h9 => hl ((l_lt0 (by omega) (by omega)).mp h9))]
        rfl
    rw [if_neg (by decide), if_neg (by decide), if_neg (by decide), if_pos (show nI 3 = (3 : Int32) from rfl)]
    by_cases hh : h < 0
    · obtain ⟨z, e, _⟩ := E130 true
      rw [if_neg (fun h9 => by have := (l_le0 (by omega) (by omega)).mp h9; omega), if_pos hh, show f_Ref_ofOne_130 (1 : Int32) (lZ l) (lZ h) g (bI ov) x y (0 : Int32) = _ from e]
      exact ⟨_, g2, N2, o2, _, _, _, rfl, b2, rfl⟩
    · obtain ⟨z, e, ez⟩ := E130 false
      have emx : MX h 0 = h := by unfold MX; split <;> omega
      rw [emx] at e
      rw [if_pos ((l_le0 (by omega) (by omega)).mpr (by omega)), if_neg hh, show f_Ref_ofOne_130 (0 : Int32) (lZ l) (lZ h) g (bI ov) x y (0 : Int32) = _ from e]
      refine ⟨_, g2, N2, o2, _, _, _, rfl, b2, rfl, rfl, rfl, ?_⟩
      rw [ez]
      by_cases hl : l < 0
      · rw [if_pos hl, if_pos hl]; rfl
      · rw [if_neg hl, if_neg hl]; rfl
  · have U : U1 4 l h = DV (ONE : Int) (ONE : Int) l h := rfl
    rw [U]
    obtain ⟨g', N', ov', x', y', w', e, b', q⟩ := rquots_ok ONE_i hi hB ov x y (0 : Int32)
    unfold f_Ref_ofOne_203 f_Ref_ofOne_204
    rw [if_neg (by decide), if_neg (by decide), if_neg (by decide), if_neg (by decide), if_pos (show nI 4 = (4 : Int32) from rfl), show f_Ref_quotients (4607182418800017408 : Int64) (4607182418800017408 : Int64) (lZ l) (lZ h) g (bI ov) x y (0 : Int32) = _ from e, Option.bind_some]
    have Fin : ∀ z : Int32, z = nI (if l ≤ 0 ∧ 0 ≤ h then 1 else 3) → OF (some (z, g', bI ov', x', y', w')) (DV (ONE : Int) (ONE : Int) l h) := fun z hz => by
      refine ⟨z, g', N', ov', x', y', w', rfl, b', ?_⟩
      cases hd : DV (ONE : Int) (ONE : Int) l h with
      | none =>
        rw [hd] at q
        exact q
      | some t =>
        obtain ⟨l', h', loc⟩ := t
        rw [hd] at q
        refine ⟨q.1, q.2.1, q.2.2, ?_⟩
        rw [DV_loc a3 hd, hz]
    by_cases h1 : 0 < l
    · rw [if_pos (show (0 : Int64) < lZ l from (l_lt (a := 0) (by decide) (by decide) (by omega) (by omega)).mpr h1)]
      exact Fin _ (by rw [if_neg (by omega)]; rfl)
    · rw [if_neg (show ¬ (0 : Int64) < lZ l from fun h9 => h1 ((l_lt (a := 0) (by decide) (by decide) (by omega) (by omega)).mp h9))]
      by_cases h2 : h < 0
      · rw [if_pos ((l_lt0 (by omega) (by omega)).mpr h2)]
        exact Fin _ (by rw [if_neg (by omega)]; rfl)
      · rw [if_neg (fun h9 => h2 ((l_lt0 (by omega) (by omega)).mp h9))]
        exact Fin _ (by rw [if_pos (by omega)]; rfl)
  · have U : U1 5 l h = STP (STEP l 0) (STEP h 0) := rfl
    rw [U]
    obtain ⟨g1, N1, o1, e1, b1⟩ := rstep_ok (v := l) (how := 0) (by decide) a1 hB (bI ov)
    obtain ⟨g2, N2, o2, e2, b2⟩ := rstep_ok (v := h) (how := 0) (by decide) a2 b1 (bI o1)
    rw [if_neg (by decide), if_neg (by decide), if_neg (by decide), if_neg (by decide), if_neg (by decide), if_pos (show nI 5 = (5 : Int32) from rfl), show f_Ref_step (lZ l) (0 : Int32) g (bI ov) = _ from e1, Option.bind_some, show f_Ref_step (lZ h) (0 : Int32) g1 (bI o1) = _ from e2, Option.bind_some]
    exact r278_ok (step_i (by decide) hi) b2 o2
  · have U : U1 6 l h = STP (STEP l 1) (STEP h 1) := rfl
    rw [U]
    obtain ⟨g1, N1, o1, e1, b1⟩ := rstep_ok (v := l) (how := 1) (by decide) a1 hB (bI ov)
    obtain ⟨g2, N2, o2, e2, b2⟩ := rstep_ok (v := h) (how := 1) (by decide) a2 b1 (bI o1)
    rw [if_neg (by decide), if_neg (by decide), if_neg (by decide), if_neg (by decide), if_neg (by decide), if_neg (by decide), if_pos (show nI 6 = (6 : Int32) from rfl), show f_Ref_step (lZ l) (1 : Int32) g (bI ov) = _ from e1, Option.bind_some, show f_Ref_step (lZ h) (1 : Int32) g1 (bI o1) = _ from e2, Option.bind_some]
    exact r278_ok (step_i (by decide) hi) b2 o2
  · have U : U1 7 l h = STP (STEP l 2) (STEP h 2) := rfl
    rw [U]
    obtain ⟨g1, N1, o1, e1, b1⟩ := rstep_ok (v := l) (how := 2) (by decide) a1 hB (bI ov)
    obtain ⟨g2, N2, o2, e2, b2⟩ := rstep_ok (v := h) (how := 2) (by decide) a2 b1 (bI o1)
    rw [if_neg (by decide), if_neg (by decide), if_neg (by decide), if_neg (by decide), if_neg (by decide), if_neg (by decide), if_neg (by decide), if_pos (show nI 7 = (7 : Int32) from rfl), show f_Ref_step (lZ l) (2 : Int32) g (bI ov) = _ from e1, Option.bind_some, show f_Ref_step (lZ h) (2 : Int32) g1 (bI o1) = _ from e2, Option.bind_some]
    exact r278_ok (step_i (by decide) hi) b2 o2
  · have U : U1 8 l h = STP (SG l) (SG h) := rfl
    rw [U] at ho ⊢
    rw [if_neg (by decide), if_neg (by decide), if_neg (by decide), if_neg (by decide), if_neg (by decide), if_neg (by decide), if_neg (by decide), if_neg (by decide), rsg_ok a1, Option.bind_some, rsg_ok a2, Option.bind_some]
    exact r278_ok ho.1 hB ov
theorem keep_ok {x : Option (Int × Int × Nat)} {z : Int32} {x' y' : Int64} {w' : Int32} (hx : OpOk x) (hq : RQ3 x z x' y' w') {all : Bool} {m : Nat} (h1 : 1 ≤ m) (h4 : m ≤ 4) (hall : m = 4 → all = true) {c : Nat} (hc : c < 40) (g1 : Nat → Int32) (g2 g3 : Nat → Int64) (g4 : Nat → Int32) : f_Ref_keep z (bI all) (nI m) (nI c) g1 g2 g3 g4 x' y' w' = some (nI c, nI (c + 1), upd g1 c (kc (fo x m)).1, vp_updL g2 c (kc (fo x m)).2.1, vp_updL g3 c (kc (fo x m)).2.2.1, upd g4 c (kc (fo x m)).2.2.2) := by
  unfold f_Ref_keep f_Ref_keep_0 f_Ref_keep_43
  cases x with
  | none =>
    have e : w' = (1 : Int32) := hq
    rw [e, if_neg (by decide), rcell_ok hc, Option.bind_some]
    rfl
  | some q =>
    obtain ⟨l, h, loc⟩ := q
    obtain ⟨q1, q2, q3, q4⟩ := hq
    obtain ⟨hi, hloc⟩ := hx
    have b := BM_b l h
    have L : ∀ k : Nat, k ≤ 4 → f_Ref_keep_44 (nI k) (nI m) (nI c) g1 g2 g3 g4 (lZ l) (lZ h) (0 : Int32) = some (nI c, nI (c + 1), upd g1 c (2 : Int32), vp_updL g2 c (lZ l), vp_updL g3 c (lZ h), upd g4 c (nI (if m ≤ k then m else k))) := fun k hk => by
      unfold f_Ref_keep_44 f_Ref_least f_Ref_least_0 f_Ref_least_10
      by_cases e : m ≤ k
      · rw [if_pos (nI_le e (by omega)), Option.bind_some, rcell_ok hc, Option.bind_some, if_pos e]
      · rw [if_neg (nI_ge (by omega) (by omega)), Option.bind_some, rcell_ok hc, Option.bind_some, if_neg e]
    have Fin : ∀ k : Nat, k ≤ 4 → (if m ≤ k then m else k) = VM l h loc m → f_Ref_keep_44 (nI k) (nI m) (nI c) g1 g2 g3 g4 (lZ l) (lZ h) (0 : Int32) = some (nI c, nI (c + 1), upd g1 c (kc (fo (some (l, h, loc)) m)).1, vp_updL g2 c (kc (fo (some (l, h, loc)) m)).2.1, vp_updL g3 c (kc (fo (some (l, h, loc)) m)).2.2.1, upd g4 c (kc (fo (some (l, h, loc)) m)).2.2.2) := fun k hk e => by
      rw [L k hk, e]
      rfl
    rw [q1, q2, q3, q4, if_pos rfl]
    rcases hloc with e | e | e
    · subst e
      rw [show RL 1 = 1 from rfl, if_neg (by decide)]
      exact Fin 1 (by decide) (by unfold VM; split <;> split <;> (try split) <;> omega)
    · subst e
      rw [show RL 2 = 2 from rfl, if_neg (by decide)]
      exact Fin 2 (by decide) (by unfold VM; split <;> split <;> (try split) <;> omega)
    · subst e
      rw [show RL 4 = 3 from rfl, if_pos (show nI 3 = (3 : Int32) from rfl)]
      cases all
      · rw [if_pos (show bI false = 0 from rfl)]
        have hm : m ≠ 4 := fun h9 => by have := hall h9; cases this
        exact Fin 3 (by decide) (by unfold VM; split <;> split <;> (try split) <;> omega)
      · rw [if_neg (show ¬ bI true = 0 by decide), rbnd_ok hi.1 hi.2.1, Option.bind_some]
        by_cases hb : BM l h = 4
        · rw [decide_eq_true hb, if_neg (show ¬ bI true = 0 by decide)]
          exact Fin 4 (by decide) (by unfold VM; split <;> split <;> (try split) <;> omega)
        · rw [decide_eq_false hb, if_pos (show bI false = 0 from rfl)]
          exact Fin 3 (by decide) (by unfold VM; split <;> split <;> (try split) <;> omega)
