-- functions of one interval
def MX (a b : Int) : Int := if a ≤ b then b else a
def MN (a b : Int) : Int := if a ≤ b then a else b
def VM (l h : Int) (loc m : Nat) : Nat := if loc ≤ m then (if loc = 4 ∧ BM l h ≠ 4 then 3 else loc) else (if m = 4 ∧ BM l h ≠ 4 then 3 else m)
def fo (x : Option (Int × Int × Nat)) (m : Nat) : Option (Option (Int × Int × Nat)) := match x with
  | none => some none
  | some (l, h, loc) => some (some (l, h, VM l h loc m))
def Iok (l h : Int) : Prop := l.natAbs ≤ INF ∧ h.natAbs ≤ INF ∧ l ≤ h ∧ l < INF ∧ -(INF : Int) < h
def OpOk (x : Option (Int × Int × Nat)) : Prop := match x with
  | none => True
  | some (l, h, loc) => Iok l h ∧ (loc = 1 ∨ loc = 2 ∨ loc = 4)
theorem fo_ok {x : Option (Int × Int × Nat)} {m : Nat} (hx : OpOk x) (h1 : 1 ≤ m) (h4 : m ≤ 4) : CellOk (fo x m) := by
  cases x with
  | none => trivial
  | some q =>
    obtain ⟨l, h, loc⟩ := q
    obtain ⟨⟨a1, a2, a3, a4, a5⟩, hl⟩ := hx
    have b := BM_b l h
    refine ⟨a1, a2, a3, a4, a5, ?_, ?_, ?_⟩
    · unfold VM; split <;> split <;> omega
    · unfold VM; split <;> split <;> omega
    · unfold VM; split <;> split <;> omega
theorem lmax {a b : Int} (ha : a.natAbs ≤ INF) (hb : b.natAbs ≤ INF) : j_maxL (lZ a) (lZ b) = lZ (MX a b) := by
  have hI : INF = 9218868437227405312 := rfl
  unfold j_maxL MX
  by_cases h : a ≤ b
  · rw [if_neg (fun h9 => by have := (l_lt (by omega) (by omega) (by omega) (by omega)).mp h9; omega), if_pos h]
  · rw [if_pos ((l_lt (by omega) (by omega) (by omega) (by omega)).mpr (by omega)), if_neg h]
theorem lmin {a b : Int} (ha : a.natAbs ≤ INF) (hb : b.natAbs ≤ INF) : j_minL (lZ a) (lZ b) = lZ (MN a b) := by
  have hI : INF = 9218868437227405312 := rfl
  unfold j_minL MN
  by_cases h : a ≤ b
  · rw [if_neg (fun h9 => by have := (l_lt (by omega) (by omega) (by omega) (by omega)).mp h9; omega), if_pos h]
  · rw [if_pos ((l_lt (by omega) (by omega) (by omega) (by omega)).mpr (by omega)), if_neg h]
theorem rgr {a b : Int} (ha : a.natAbs ≤ INF) (hb : b.natAbs ≤ INF) : f_Ref_greater (lZ a) (lZ b) = some (lZ (MX a b)) := by
  have hI : INF = 9218868437227405312 := rfl
  unfold f_Ref_greater f_Ref_greater_0 f_Ref_greater_11 MX
  by_cases h : a ≤ b
  · rw [if_pos ((l_le (by omega) (by omega) (by omega) (by omega)).mpr h), if_pos h]
  · rw [if_neg (fun h9 => h ((l_le (by omega) (by omega) (by omega) (by omega)).mp h9)), if_neg h]
theorem rls {a b : Int} (ha : a.natAbs ≤ INF) (hb : b.natAbs ≤ INF) : f_Ref_less (lZ a) (lZ b) = some (lZ (MN a b)) := by
  have hI : INF = 9218868437227405312 := rfl
  unfold f_Ref_less f_Ref_less_0 f_Ref_less_11 MN
  by_cases h : a ≤ b
  · by_cases h2 : b ≤ a
    · have : a = b := by omega
      subst this
      rw [if_pos ((l_le (by omega) (by omega) (by omega) (by omega)).mpr h2), if_pos h]
    · rw [if_neg (fun h9 => h2 ((l_le (by omega) (by omega) (by omega) (by omega)).mp h9)), if_pos h]
  · rw [if_pos ((l_le (by omega) (by omega) (by omega) (by omega)).mpr (by omega)), if_neg h]
def MAG (l h : Int) : Int := MX l.natAbs h.natAbs
def MIG (l h : Int) : Int := if 0 < l then MN l.natAbs h.natAbs else if h < 0 then MN l.natAbs h.natAbs else 0
theorem mag_b {l h : Int} (hl : l.natAbs ≤ INF) (hh : h.natAbs ≤ INF) : 0 ≤ MAG l h ∧ MAG l h ≤ INF ∧ 0 ≤ MIG l h ∧ MIG l h ≤ MAG l h := by
  unfold MAG MIG MX MN
  split <;> split <;> (try split) <;> omega
theorem cmag_ok {l h : Int} {m : Int32} (hl : l.natAbs ≤ INF) (hh : h.natAbs ≤ INF) : f_Cell_magnitude (lZ l) (lZ h) m = some (lZ (MAG l h)) := by
  have hI : INF = 9218868437227405312 := rfl
  unfold f_Cell_magnitude f_Cell_magnitude_0 MAG
  rw [abs_l (by omega), abs_l (by omega), jl_, jl_, lN_Z, lN_Z, lmax (by omega) (by omega), jl_]
theorem cmig_ok {l h : Int} {m : Int32} (hl : l.natAbs ≤ INF) (hh : h.natAbs ≤ INF) : f_Cell_mignitude (lZ l) (lZ h) m = some (lZ (MIG l h)) := by
  have hI : INF = 9218868437227405312 := rfl
  have K : f_Cell_mignitude_22 (lZ l) (lZ h) m = some (lZ (MN l.natAbs h.natAbs)) := by
    unfold f_Cell_mignitude_22 f_Cell_mignitude_39
    rw [abs_l (by omega), abs_l (by omega), jl_, jl_, lN_Z, lN_Z, lmin (by omega) (by omega), jl_]
  unfold f_Cell_mignitude f_Cell_mignitude_0 MIG
  by_cases h1 : 0 < l
  · rw [if_pos (show (0 : Int64) < lZ l from (l_lt (a := 0) (by decide) (by decide) (by omega) (by omega)).mpr h1), if_pos h1, K]
  · rw [if_neg (show ¬ (0 : Int64) < lZ l from fun h9 => h1 ((l_lt (a := 0) (by decide) (by decide) (by omega) (by omega)).mp h9)), if_neg h1]
    by_cases h2 : h < 0
    · rw [if_pos ((l_lt0 (by omega) (by omega)).mpr h2), if_pos h2, K]
    · rw [if_neg (fun h9 => h2 ((l_lt0 (by omega) (by omega)).mp h9)), if_neg h2]
      rfl
theorem rmag_ok {l h : Int} (hl : l.natAbs ≤ INF) (hh : h.natAbs ≤ INF) : f_Ref_magnitude (lZ l) (lZ h) = some (lZ (MAG l h)) := by
  have hI : INF = 9218868437227405312 := rfl
  unfold f_Ref_magnitude f_Ref_magnitude_0 MAG
  rw [abs_r (by omega), Option.bind_some, abs_r (by omega), Option.bind_some, lN_Z, lN_Z, rgr (by omega) (by omega), Option.bind_some]
theorem rmig_ok {l h : Int} (hl : l.natAbs ≤ INF) (hh : h.natAbs ≤ INF) : f_Ref_mignitude (lZ l) (lZ h) = some (lZ (MIG l h)) := by
  have hI : INF = 9218868437227405312 := rfl
  have K : f_Ref_mignitude_16 (lZ l) (lZ h) = some (lZ (MN l.natAbs h.natAbs)) := by
    unfold f_Ref_mignitude_16 f_Ref_mignitude_27
    rw [abs_r (by omega), Option.bind_some, abs_r (by omega), Option.bind_some, lN_Z, lN_Z, rls (by omega) (by omega), Option.bind_some]
  unfold f_Ref_mignitude f_Ref_mignitude_0 MIG
  by_cases h1 : 0 < l
  · rw [if_pos (show (0 : Int64) < lZ l from (l_lt (a := 0) (by decide) (by decide) (by omega) (by omega)).mpr h1), if_pos h1, K]
  · rw [if_neg (show ¬ (0 : Int64) < lZ l from fun h9 => h1 ((l_lt (a := 0) (by decide) (by decide) (by omega) (by omega)).mp h9)), if_neg h1]
    by_cases h2 : h < 0
    · rw [if_pos ((l_lt0 (by omega) (by omega)).mpr h2), if_pos h2, K]
    · rw [if_neg (fun h9 => h2 ((l_lt0 (by omega) (by omega)).mp h9)), if_neg h2]
      rfl
theorem val_ok {l h : Int} {loc m : Nat} (hi : Iok l h) (hl : loc ≤ 4) (hm : m ≤ 4) : f_Cell_value (lZ l) (lZ h) (nI loc) (nI m) = some (lZ l, lZ h, nI (VM l h loc m)) := by
  have b := BM_b l h
  have e : j_minI (nI loc) (nI m) = nI (if loc ≤ m then loc else m) := by
    unfold j_minI
    by_cases h1 : loc ≤ m
    · rw [if_neg (nI_nlt h1 (by omega)), if_pos h1]
    · rw [if_pos (nI_lt (by omega) (by omega)), if_neg h1]
  obtain ⟨q, hq⟩ : ∃ q, q = if loc ≤ m then loc else m := ⟨_, rfl⟩
  have hq4 : q ≤ 4 := by rw [hq]; split <;> omega
  have ev : VM l h loc m = if q = 4 ∧ BM l h ≠ 4 then 3 else q := by
    unfold VM
    rw [hq]
    by_cases h1 : loc ≤ m
    · rw [if_pos h1, if_pos h1]
    · rw [if_neg h1, if_neg h1]
  unfold f_Cell_value f_Cell_value_0 f_Cell_value_48 f_Cell_value_50
  rw [e, jl_, ← hq, ev]
  by_cases h4 : q = 4
  · rw [if_pos (show nI q = (4 : Int32) by rw [h4]; rfl), bnd_ok hi.1 hi.2.1 hi.2.2.1, Option.bind_some]
    by_cases hb : l.natAbs < INF ∧ h.natAbs < INF
    · rw [decide_eq_true hb, if_neg (show ¬ bI true = 0 by decide), if_neg (fun h9 => h9.2 (by unfold BM; rw [if_pos hb]))]
    · rw [decide_eq_false hb, if_pos (show bI false = 0 from rfl), if_pos ⟨h4, by unfold BM; rw [if_neg hb]; decide⟩]
      rfl
  · rw [if_neg (show ¬ nI q = (4 : Int32) from fun h9 => h4 ((nI_eq (b := 4) (by omega) (by decide)).mp h9)), if_neg (fun h9 => h4 h9.1)]
-- division
def DV (a b c d : Int) : Option (Int × Int × Nat) := if c = 0 ∧ d = 0 then none else if c < 0 ∧ 0 < d then (if a = 0 ∧ b = 0 then some (0, 0, 1) else some (-(INF : Int), (INF : Int), 1)) else if 0 ≤ c then some (PLO a c d, PHI b c d, if c = 0 then 1 else 4) else some (PLO (-b) (-d) (-c), PHI (-a) (-d) (-c), if d = 0 then 1 else 4)
theorem DV_ok {a b c d : Int} (h1 : Iok a b) (h2 : Iok c d) : OpOk (DV a b c d) := by
  have hI : INF = 9218868437227405312 := rfl
  obtain ⟨a1, a2, a3, a4, a5⟩ := h1
  obtain ⟨c1, c2, c3, c4, c5⟩ := h2
  unfold DV
  split
  · trivial
  · next hz =>
    split
    · split
      · exact ⟨⟨by decide, by decide, by decide, by decide, by decide⟩, Or.inl rfl⟩
      · exact ⟨⟨by omega, by omega, by omega, by omega, by omega⟩, Or.inl rfl⟩
    · next hs =>
      split
      · next hc =>
        obtain ⟨m1, m2, m3, m4, m5⟩ := parts_mono (a := a) (b := b) (c := c) (d := d) a3 c3 hc (by omega) (by omega) a4 a5 (by omega) c4 (by omega)
        refine ⟨⟨m4, m5, m1, m2, m3⟩, ?_⟩
        split
        · exact Or.inl rfl
        · exact Or.inr (Or.inr rfl)
      · next hc =>
        obtain ⟨m1, m2, m3, m4, m5⟩ := parts_mono (a := -b) (b := -a) (c := -d) (d := -c) (by omega) (by omega) (by omega) (by omega) (by omega) (by omega) (by omega) (by omega) (by omega) (by omega)
        refine ⟨⟨m4, m5, m1, m2, m3⟩, ?_⟩
        split
        · exact Or.inl rfl
        · exact Or.inr (Or.inr rfl)
theorem cpos_ok {a b c d : Int} {m : Nat} (h1 : Iok a b) (h2 : Iok c d) (hc : 0 ≤ c) (hd : 0 < d) (hm : m ≤ 4) : f_Div_byPositive (lZ a) (lZ b) (lZ c) (lZ d) (nI m) = some (lZ (PLO a c d), lZ (PHI b c d), nI (VM (PLO a c d) (PHI b c d) (if c = 0 then 1 else 4) m)) := by
  have hI : INF = 9218868437227405312 := rfl
  obtain ⟨a1, a2, a3, a4, a5⟩ := h1
  obtain ⟨c1, c2, c3, c4, c5⟩ := h2
  obtain ⟨m1, m2, m3, m4, m5⟩ := parts_mono (a := a) (b := b) (c := c) (d := d) a3 c3 hc hd (by omega) a4 a5 (by omega) c4 (by omega)
  have hV : ∀ loc : Nat, loc ≤ 4 → f_Div_byPositive_56 (nI loc) (lZ (PHI b c d)) (lZ (PLO a c d)) (nI m) = some (lZ (PLO a c d), lZ (PHI b c d), nI (VM (PLO a c d) (PHI b c d) loc m)) := fun loc hl => by
    unfold f_Div_byPositive_56
    rw [val_ok ⟨m4, m5, m1, m2, m3⟩ hl hm, Option.bind_some]
  have L : f_Exact_quotient (lZ a) (if 0 ≤ a then lZ d else lZ c) (-1 : Int32) = some (lZ (PLO a c d)) := by
    unfold PLO
    by_cases h0 : 0 ≤ a
    · rw [if_pos h0, if_pos h0]
      exact cquot_all (how := 0) (by decide) a1 c2 (by omega)
    · rw [if_neg h0, if_neg h0]
      by_cases hc0 : c = 0
      · rw [if_pos (Or.inl hc0), hc0]
        have := cquot_0 (a := a) (how := 0) a1 (by omega)
        rw [decide_eq_true (show a < 0 by omega)] at this
        exact this
      · have := cquot_all (a := a) (b := c) (how := 0) (by decide) a1 c1 hc0
        by_cases hi : a.natAbs = INF
        · rw [if_pos (Or.inr hi)]
          have e : QUOT a c 0 = -(INF : Int) := by
            unfold QUOT
            rw [if_neg (by omega), if_pos hi]
            unfold sgn pneg
            rw [d_lt1.mpr (show a < 0 by omega), d_lt0.mpr hc]
            rfl
          rw [e] at this
          exact this
        · rw [if_neg (by omega)]
          exact this
  have H : f_Exact_quotient (lZ b) (if b ≤ 0 then lZ d else lZ c) (1 : Int32) = some (lZ (PHI b c d)) := by
    unfold PHI
    by_cases h0 : b ≤ 0
    · rw [if_pos h0, if_pos h0]
      exact cquot_all (how := 1) (by decide) a2 c2 (by omega)
    · rw [if_neg h0, if_neg h0]
      by_cases hc0 : c = 0
      · rw [if_pos (Or.inl hc0), hc0]
        have := cquot_0 (a := b) (how := 1) a2 (by omega)
        rw [decide_eq_false (show ¬ b < 0 by omega)] at this
        exact this
      · have := cquot_all (a := b) (b := c) (how := 1) (by decide) a2 c1 hc0
        by_cases hi : b.natAbs = INF
        · rw [if_pos (Or.inr hi)]
          have e : QUOT b c 1 = (INF : Int) := by
            unfold QUOT
            rw [if_neg (by omega), if_pos hi]
            unfold sgn pneg
            rw [d_lt0.mpr (show 0 ≤ b by omega), d_lt0.mpr hc]
            rfl
          rw [e] at this
          exact this
        · rw [if_neg (by omega)]
          exact this
  have E34 : f_Div_byPositive_34 (if b ≤ 0 then lZ d else lZ c) (lZ b) (lZ c) (nI m) (lZ (PLO a c d)) = some (lZ (PLO a c d), lZ (PHI b c d), nI (VM (PLO a c d) (PHI b c d) (if c = 0 then 1 else 4) m)) := by
    unfold f_Div_byPositive_34
    rw [H, Option.bind_some]
    by_cases hc0 : c = 0
    · rw [if_pos ((l_eq0 (by omega) (by omega)).mpr hc0), if_pos hc0]
      exact hV 1 (by decide)
    · rw [if_neg (fun h9 => hc0 ((l_eq0 (by omega) (by omega)).mp h9)), if_neg hc0]
      exact hV 4 (by decide)
  have E14 : f_Div_byPositive_14 (if 0 ≤ a then lZ d else lZ c) (lZ a) (lZ b) (lZ c) (lZ d) (nI m) = some (lZ (PLO a c d), lZ (PHI b c d), nI (VM (PLO a c d) (PHI b c d) (if c = 0 then 1 else 4) m)) := by
    unfold f_Div_byPositive_14
    rw [L, Option.bind_some]
    by_cases h0 : b ≤ 0
    · rw [if_pos (show lZ b ≤ (0 : Int64) from (l_le (b := 0) (by omega) (by omega) (by decide) (by decide)).mpr h0)]
      rw [if_pos h0] at E34
      exact E34
    · rw [if_neg (show ¬ lZ b ≤ (0 : Int64) from fun h9 => h0 ((l_le (b := 0) (by omega) (by omega) (by decide) (by decide)).mp h9))]
      rw [if_neg h0] at E34
      exact E34
  unfold f_Div_byPositive f_Div_byPositive_0
  by_cases h0 : 0 ≤ a
  · rw [if_pos ((l_le0 (by omega) (by omega)).mpr h0)]
    rw [if_pos h0] at E14
    exact E14
  · rw [if_neg (fun h9 => h0 ((l_le0 (by omega) (by omega)).mp h9))]
    rw [if_neg h0] at E14
    exact E14
theorem cdiv_ok {a b c d : Int} {m : Nat} {m2 : Int32} (h1 : Iok a b) (h2 : Iok c d) (hm : m ≤ 4) : f_Div_value (lZ a) (lZ b) (lZ c) (lZ d) m2 (nI m) = some (cc (fo (DV a b c d) m)) := by
  have hI : INF = 9218868437227405312 := rfl
  have hh1 := h1
  have hh2 := h2
  obtain ⟨a1, a2, a3, a4, a5⟩ := h1
  obtain ⟨c1, c2, c3, c4, c5⟩ := h2
  have Z : f_Cell_isZero (lZ c) (lZ d) m2 = some (bI (decide (c = 0 ∧ d = 0))) := by
    unfold f_Cell_isZero f_Cell_isZero_0 f_Cell_isZero_22 f_Cell_isZero_23
    by_cases e1 : c = 0
    · rw [if_pos ((l_eq0 (by omega) (by omega)).mpr e1)]
      by_cases e2 : d = 0
      · rw [if_pos ((l_eq0 (by omega) (by omega)).mpr e2), if_pos (by decide), decide_eq_true ⟨e1, e2⟩]
        rfl
      · rw [if_neg (fun h9 => e2 ((l_eq0 (by omega) (by omega)).mp h9)), if_pos (by decide), decide_eq_false (fun h => e2 h.2)]
        rfl
    · rw [if_neg (fun h9 => e1 ((l_eq0 (by omega) (by omega)).mp h9)), if_pos (by decide), decide_eq_false (fun h => e1 h.1)]
      rfl
  have E51 : ∀ n : Nat, n ≤ INF → f_Div_value_51 (lZ (n : Int)) (nI m) = some (lZ (-(n : Int)), lZ (n : Int), nI (VM (-(n : Int)) n 1 m)) := fun n hn => by
    unfold f_Div_value_51
    rw [lZ_neg, show (1 : Int32) = nI 1 from rfl, val_ok ⟨by omega, by omega, by omega, by omega, by omega⟩ (by decide) hm, Option.bind_some]
  unfold f_Div_value f_Div_value_0 DV
  rw [Z, Option.bind_some]
  by_cases hz : c = 0 ∧ d = 0
  · rw [decide_eq_true hz, if_neg (show ¬ bI true = 0 by decide), if_pos hz]
    rfl
  · have E65 : ¬ (c < 0 ∧ 0 < d) → f_Div_value_65 (lZ a) (lZ b) (lZ c) (lZ d) m2 (nI m) = some (cc (fo (if 0 ≤ c then some (PLO a c d, PHI b c d, if c = 0 then 1 else 4) else some (PLO (-b) (-d) (-c), PHI (-a) (-d) (-c), if d = 0 then 1 else 4)) m)) := fun hs => by
      unfold f_Div_value_65
      by_cases hc : 0 ≤ c
      · rw [if_pos ((l_le0 (by omega) (by omega)).mpr hc), if_pos hc, cpos_ok hh1 hh2 hc (by omega) hm, Option.bind_some]
        rfl
      · have P := cpos_ok (a := -b) (b := -a) (c := -d) (d := -c) ⟨by omega, by omega, by omega, by omega, by omega⟩ ⟨by omega, by omega, by omega, by omega, by omega⟩ (by omega) (by omega) hm
        rw [if_neg (fun h9 => hc ((l_le0 (by omega) (by omega)).mp h9)), if_neg hc, lZ_neg, lZ_neg, lZ_neg, lZ_neg, P, Option.bind_some]
        by_cases hd0 : d = 0
        · rw [if_pos (show -d = 0 by omega), if_pos hd0]
          rfl
        · rw [if_neg (show ¬ -d = 0 by omega), if_neg hd0]
          rfl
    rw [decide_eq_false hz, if_pos (show bI false = 0 from rfl), if_neg hz]
    by_cases hc : 0 ≤ c
    · rw [if_pos ((l_le0 (by omega) (by omega)).mpr hc), if_neg (show ¬ (c < 0 ∧ 0 < d) by omega)]
      exact E65 (by omega)
    · rw [if_neg (fun h9 => hc ((l_le0 (by omega) (by omega)).mp h9))]
      by_cases hd : d ≤ 0
      · rw [if_pos (show lZ d ≤ (0 : Int64) from (l_le (b := 0) (by omega) (by omega) (by decide) (by decide)).mpr hd), if_neg (show ¬ (c < 0 ∧ 0 < d) by omega)]
        exact E65 (by omega)
      · rw [if_neg (show ¬ lZ d ≤ (0 : Int64) from fun h9 => hd ((l_le (b := 0) (by omega) (by omega) (by decide) (by decide)).mp h9)), if_pos (show c < 0 ∧ 0 < d by omega)]
        unfold f_Div_value_48
        by_cases e1 : a = 0
        · rw [if_pos ((l_eq0 (by omega) (by omega)).mpr e1)]
          by_cases e2 : b = 0
          · rw [if_pos ((l_eq0 (by omega) (by omega)).mpr e2), if_pos (show a = 0 ∧ b = 0 from ⟨e1, e2⟩)]
            exact E51 0 (by decide)
          · rw [if_neg (fun h9 => e2 ((l_eq0 (by omega) (by omega)).mp h9)), if_neg (show ¬ (a = 0 ∧ b = 0) from fun h => e2 h.2)]
            exact E51 INF (Nat.le_refl _)
        · rw [if_neg (fun h9 => e1 ((l_eq0 (by omega) (by omega)).mp h9)), if_neg (show ¬ (a = 0 ∧ b = 0) from fun h => e1 h.1)]
          exact E51 INF (Nat.le_refl _)
