-- functions of one interval, both sides
def SG (r : Int) : Int := if r < 0 then -(ONE : Int) else if 0 < r then (ONE : Int) else 0
def STP (l h : Int) : Option (Int × Int × Nat) := some (l, h, if l = h then 4 else 2)
noncomputable def U1 (f : Nat) (l h : Int) : Option (Int × Int × Nat) :=
  if f = 0 then some (-h, -l, 4) else if f = 1 then some (MIG l h, MAG l h, 4) else if f = 2 then some (PROD (MIG l h) (MIG l h) 0, PROD (MAG l h) (MAG l h) 1, 4)
  else if f = 3 then (if h < 0 then none else some (ROOT (MX l 0) 0, ROOT h 1, if l < 0 then 1 else 4)) else if f = 4 then DV (ONE : Int) (ONE : Int) l h
  else if f = 5 then STP (STEP l 0) (STEP h 0) else if f = 6 then STP (STEP l 1) (STEP h 1) else if f = 7 then STP (STEP l 2) (STEP h 2) else STP (SG l) (SG h)
theorem ONE_i : Iok (ONE : Int) (ONE : Int) := ⟨by decide, by decide, by decide, by decide, by decide⟩
theorem MIG_lt {l h : Int} (hi : Iok l h) : MIG l h < INF := by
  have hI : INF = 9218868437227405312 := rfl
  obtain ⟨a1, a2, a3, a4, a5⟩ := hi
  unfold MIG MN
  split
  · split <;> omega
  · split
    · split <;> omega
    · omega
theorem SG_b (r : Int) : (SG r).natAbs < INF := by
  unfold SG
  split
  · decide
  · split
    · decide
    · decide
theorem STP_ok {l h : Int} (hi : Iok l h) : OpOk (STP l h) := by
  refine ⟨hi, ?_⟩
  split
  · exact Or.inr (Or.inr rfl)
  · exact Or.inr (Or.inl rfl)
theorem step_i {l h : Int} {how : Nat} (hh : how < 3) (hi : Iok l h) : Iok (STEP l how) (STEP h how) := by
  have hI : INF = 9218868437227405312 := rfl
  obtain ⟨a1, a2, a3, a4, a5⟩ := hi
  obtain ⟨b1, b2⟩ := STEP_abs (how := how) a1
  obtain ⟨c1, c2⟩ := STEP_abs (how := how) a2
  have hm : STEP l how ≤ STEP h how := by
    have : how = 0 ∨ how = 1 ∨ how = 2 := by omega
    rcases this with e | e | e
    · subst e; exact step_mono0 a3
    · subst e; exact step_mono1 a3
    · subst e; exact step_mono2 a3
  have neg : ∀ v : Int, v ≤ 0 → STEP v how ≤ 0 := fun v hv => by
    unfold STEP
    by_cases h0 : v = 0
    · subst h0
      have : wt (0 : Int).natAbs = (0 : Int).natAbs := by decide
      rw [if_neg (fun h9 => h9.1 this), if_neg (by decide), this]
      decide
    · split
      · rw [if_pos (by omega)]; omega
      · rw [if_pos (by omega)]; omega
  have pos : ∀ v : Int, 0 ≤ v → 0 ≤ STEP v how := fun v hv => by
    unfold STEP
    split
    · rw [if_neg (by omega)]; omega
    · rw [if_neg (by omega)]; omega
  refine ⟨b1, c1, hm, ?_, ?_⟩
  · by_cases h9 : l.natAbs < INF
    · have := b2 h9
      omega
    · have := neg l (by omega)
      omega
  · by_cases h9 : h.natAbs < INF
    · have := c2 h9
      omega
    · have := pos h (by omega)
      omega
theorem U1_ok {f : Nat} {l h : Int} (hi : Iok l h) : OpOk (U1 f l h) := by
  have hI : INF = 9218868437227405312 := rfl
  have hi' := hi
  obtain ⟨a1, a2, a3, a4, a5⟩ := hi
  have mb := mag_b a1 a2
  unfold U1
  split
  · exact ⟨⟨by omega, by omega, by omega, by omega, by omega⟩, Or.inr (Or.inr rfl)⟩
  · split
    · have := MIG_lt hi'
      exact ⟨⟨by omega, by omega, by omega, by omega, by omega⟩, Or.inr (Or.inr rfl)⟩
    · split
      · have hlt := MIG_lt hi'
        obtain ⟨n, hn⟩ : ∃ n : Nat, MIG l h = n := ⟨(MIG l h).toNat, by omega⟩
        obtain ⟨m, hm⟩ : ∃ m : Nat, MAG l h = m := ⟨(MAG l h).toNat, by omega⟩
        have sm := square_mono (m := n) (n := m) (by omega) (by omega)
        have p1 := PROD_abs (n : Int) n 0
        have p2 := PROD_abs (m : Int) m 1
        have p3 := PROD_f0 (x := (n : Int)) (y := (n : Int)) (by omega) (by omega)
        have p4 := PROD_p (x := (m : Int)) (y := (m : Int)) (how := 1) (Or.inl ⟨by omega, by omega⟩)
        rw [hn, hm]
        exact ⟨⟨p1, p2, sm, p3, by omega⟩, Or.inr (Or.inr rfl)⟩
      · split
        · split
          · trivial
          · next hh =>
            have hmx : 0 ≤ MX l 0 ∧ MX l 0 ≤ h ∧ MX l 0 < INF := by unfold MX; split <;> omega
            obtain ⟨n, hn⟩ : ∃ n : Nat, MX l 0 = n := ⟨(MX l 0).toNat, by omega⟩
            obtain ⟨m, hm⟩ : ∃ m : Nat, h = m := ⟨h.toNat, by omega⟩
            have rm := root_mono (m := n) (n := m) (by omega) (by omega)
            have r1 := ROOT_abs (x := (n : Int)) (how := 0) (by omega)
            have r2 := ROOT_abs (x := (m : Int)) (how := 1) (by omega)
            have r3 := ROOT_lt (x := (n : Int)) (by omega) (by omega)
            have r4 := ROOT_p (x := (m : Int)) (how := 1) (by omega)
            rw [hn, hm]
            refine ⟨⟨r1, r2, rm, r3, by omega⟩, ?_⟩
            split
            · exact Or.inl rfl
            · exact Or.inr (Or.inr rfl)
        · split
          · exact DV_ok ONE_i hi'
          · split
            · exact STP_ok (step_i (by decide) hi')
            · split
              · exact STP_ok (step_i (by decide) hi')
              · split
                · exact STP_ok (step_i (by decide) hi')
                · have s1 := SG_b l
                  have s2 := SG_b h
                  have s3 : SG l ≤ SG h := by
                    have hO : (ONE : Int) = 4607182418800017408 := rfl
                    unfold SG
                    split
                    · split <;> (try split) <;> omega
                    · split <;> split <;> (try split) <;> omega
                  exact STP_ok ⟨by omega, by omega, s3, by omega, by omega⟩
theorem cstp_ok {l h : Int} {m : Nat} (hi : Iok l h) (hm : m ≤ 4) : f_One_stepwise (lZ l) (lZ h) (nI m) = some (cc (fo (STP l h) m)) := by
  have hI : INF = 9218868437227405312 := rfl
  obtain ⟨a1, a2, a3, a4, a5⟩ := id hi
  unfold f_One_stepwise f_One_stepwise_0 f_One_stepwise_13 STP
  by_cases e : l = h
  · rw [if_pos (show lZ l = lZ h by rw [e]), show (4 : Int32) = nI 4 from rfl, val_ok hi (by decide) hm, Option.bind_some, if_pos e]
    rfl
  · rw [if_neg (fun h9 => e ((l_eq (by omega) (by omega) (by omega) (by omega)).mp h9)), show (2 : Int32) = nI 2 from rfl, val_ok hi (by decide) hm, Option.bind_some, if_neg e]
    rfl
theorem csg_ok {r : Int} (h : r.natAbs ≤ INF) : f_Rank_sign (lZ r) = some (lZ (SG r)) := by
  have hI : INF = 9218868437227405312 := rfl
  unfold f_Rank_sign f_Rank_sign_0 f_Rank_sign_25 SG
  by_cases h1 : r < 0
  · rw [if_neg (fun h9 => by have := (l_le0 (by omega) (by omega)).mp h9; omega), if_pos h1, show (-4607182418800017408 : Int64) = lZ (-(ONE : Int)) by decide]
  · rw [if_pos ((l_le0 (by omega) (by omega)).mpr (by omega)), if_neg h1]
    by_cases h2 : 0 < r
    · rw [if_neg (show ¬ lZ r ≤ (0 : Int64) from fun h9 => by have := (l_le (b := 0) (by omega) (by omega) (by decide) (by decide)).mp h9; omega), if_pos h2]
      rfl
    · rw [if_pos (show lZ r ≤ (0 : Int64) from (l_le (b := 0) (by omega) (by omega) (by decide) (by decide)).mpr (by omega)), if_neg h2]
      rfl
theorem rsg_ok {r : Int} (h : r.natAbs ≤ INF) : f_Ref_signOf (lZ r) = some (lZ (SG r)) := by
  have hI : INF = 9218868437227405312 := rfl
  unfold f_Ref_signOf f_Ref_signOf_0 f_Ref_signOf_26 SG
  by_cases h2 : 0 < r
  · rw [if_neg (show ¬ lZ r ≤ (0 : Int64) from fun h9 => by have := (l_le (b := 0) (by omega) (by omega) (by decide) (by decide)).mp h9; omega), if_neg (by omega), if_pos h2]
    rfl
  · rw [if_pos (show lZ r ≤ (0 : Int64) from (l_le (b := 0) (by omega) (by omega) (by decide) (by decide)).mpr (by omega))]
    by_cases h1 : r < 0
    · rw [if_neg (fun h9 => by have := (l_le0 (by omega) (by omega)).mp h9; omega), if_pos h1]
      rfl
    · rw [if_pos ((l_le0 (by omega) (by omega)).mpr (by omega)), if_neg h1, if_neg h2]
      rfl
theorem cone_ok {f : Nat} {l h : Int} {m : Nat} (hf : f < 9) (hi : Iok l h) (h1 : 1 ≤ m) (hm : m ≤ 4) : f_One_value (nI f) (lZ l) (lZ h) (nI m) = some (cc (fo (U1 f l h) m)) := by
  have hI : INF = 9218868437227405312 := rfl
  have ho := U1_ok (f := f) hi
  obtain ⟨a1, a2, a3, a4, a5⟩ := id hi
  have mb := mag_b a1 a2
  unfold f_One_value f_One_value_0
  rw [if_neg (fun h9 => by have := (i_eq0 (by omega)).mp h9; omega), nop_ok a1 a2, Option.bind_some, decide_eq_false (by omega), if_pos (show bI false = 0 from rfl)]
  have hc : f = 0 ∨ f = 1 ∨ f = 2 ∨ f = 3 ∨ f = 4 ∨ f = 5 ∨ f = 6 ∨ f = 7 ∨ f = 8 := by omega
  rcases hc with e | e | e | e | e | e | e | e | e <;> subst e
  · have U : U1 0 l h = some (-h, -l, 4) := rfl
    rw [U] at ho ⊢
    rw [if_pos (show nI 0 = (0 : Int32) from rfl), lZ_neg, lZ_neg, show (4 : Int32) = nI 4 from rfl, val_ok ho.1 (by decide) hm, Option.bind_some]
    rfl
  · have U : U1 1 l h = some (MIG l h, MAG l h, 4) := rfl
    rw [U] at ho ⊢
    rw [if_neg (by decide), if_pos (show nI 1 = (1 : Int32) from rfl), cmig_ok a1 a2, Option.bind_some, cmag_ok a1 a2, Option.bind_some, show (4 : Int32) = nI 4 from rfl, val_ok ho.1 (by decide) hm, Option.bind_some]
    rfl
  · have U : U1 2 l h = some (PROD (MIG l h) (MIG l h) 0, PROD (MAG l h) (MAG l h) 1, 4) := rfl
    rw [U] at ho ⊢
    rw [if_neg (by decide), if_neg (by decide), if_pos (show nI 2 = (2 : Int32) from rfl)]
    unfold f_One_square f_One_square_0
    rw [cmig_ok a1 a2, Option.bind_some, cmag_ok a1 a2, Option.bind_some, show f_Exact_product (lZ (MIG l h)) (lZ (MIG l h)) (-1 : Int32) = _ from cprod_all (how := 0) (by decide) (by omega) (by omega), Option.bind_some, show f_Exact_product (lZ (MAG l h)) (lZ (MAG l h)) (1 : Int32) = _ from cprod_all (how := 1) (by decide) (by omega) (by omega), Option.bind_some, show (4 : Int32) = nI 4 from rfl, val_ok ho.1 (by decide) hm, Option.bind_some, Option.bind_some]
    rfl
  · have U : U1 3 l h = if h < 0 then none else some (ROOT (MX l 0) 0, ROOT h 1, if l < 0 then 1 else 4) := rfl
    rw [U] at ho ⊢
    rw [if_neg (by decide), if_neg (by decide), if_neg (by decide), if_pos (show nI 3 = (3 : Int32) from rfl)]
    unfold f_One_root f_One_root_0 f_One_root_49
    by_cases hh : h < 0
    · rw [if_neg (fun h9 => by have := (l_le0 (by omega) (by omega)).mp h9; omega), if_pos hh]
      rfl
    · rw [if_neg hh] at ho
      have hmx : 0 ≤ MX l 0 ∧ MX l 0 ≤ h := by unfold MX; split <;> omega
      rw [if_pos ((l_le0 (by omega) (by omega)).mpr (by omega)), if_neg hh, show (0 : Int64) = lZ 0 from rfl, lmax a1 (by decide), jl_, show f_Exact_root (lZ (MX l 0)) (-1 : Int32) = _ from croot_all (how := 0) (by decide) hmx.1 (by omega), Option.bind_some, show f_Exact_root (lZ h) (1 : Int32) = _ from croot_all (how := 1) (by decide) (by omega) a2, Option.bind_some]
      by_cases hl : l < 0
      · rw [if_neg (fun h9 => by have := (l_le (a := 0) (by decide) (by decide) (by omega) (by omega)).mp h9; omega), show (1 : Int32) = nI 1 from rfl, val_ok ho.1 (by decide) hm, Option.bind_some, Option.bind_some, if_pos hl]
        rfl
      · rw [if_pos ((l_le (a := 0) (by decide) (by decide) (by omega) (by omega)).mpr (by omega)), show (4 : Int32) = nI 4 from rfl, val_ok ho.1 (by decide) hm, Option.bind_some, Option.bind_some, if_neg hl]
        rfl
  · have U : U1 4 l h = DV (ONE : Int) (ONE : Int) l h := rfl
    rw [U]
    rw [if_neg (by decide), if_neg (by decide), if_neg (by decide), if_neg (by decide), if_pos (show nI 4 = (4 : Int32) from rfl), show (4607182418800017408 : Int64) = lZ (ONE : Int) from rfl, cdiv_ok ONE_i hi hm, Option.bind_some]
  · have U : U1 5 l h = STP (STEP l 0) (STEP h 0) := rfl
    rw [U]
    rw [if_neg (by decide), if_neg (by decide), if_neg (by decide), if_neg (by decide), if_neg (by decide), if_pos (show nI 5 = (5 : Int32) from rfl), fl_ok a1, Option.bind_some, fl_ok a2, Option.bind_some, cstp_ok (step_i (by decide) hi) hm, Option.bind_some]
  · have U : U1 6 l h = STP (STEP l 1) (STEP h 1) := rfl
    rw [U]
    rw [if_neg (by decide), if_neg (by decide), if_neg (by decide), if_neg (by decide), if_neg (by decide), if_neg (by decide), if_pos (show nI 6 = (6 : Int32) from rfl), lZ_neg, lZ_neg, fl_ok (by omega), Option.bind_some, fl_ok (by omega), Option.bind_some, lZ_neg, lZ_neg, ← STEP_1, ← STEP_1, cstp_ok (step_i (by decide) hi) hm, Option.bind_some]
  · have U : U1 7 l h = STP (STEP l 2) (STEP h 2) := rfl
    rw [U]
    rw [if_neg (by decide), if_neg (by decide), if_neg (by decide), if_neg (by decide), if_neg (by decide), if_neg (by decide), if_neg (by decide), if_pos (show nI 7 = (7 : Int32) from rfl), tz_ok a1, Option.bind_some, tz_ok a2, Option.bind_some, cstp_ok (step_i (by decide) hi) hm, Option.bind_some]
  · have U : U1 8 l h = STP (SG l) (SG h) := rfl
    rw [U] at ho ⊢
    rw [if_neg (by decide), if_neg (by decide), if_neg (by decide), if_neg (by decide), if_neg (by decide), if_neg (by decide), if_neg (by decide), if_neg (by decide), if_pos (show nI 8 = (8 : Int32) from rfl), csg_ok a1, Option.bind_some, csg_ok a2, Option.bind_some, cstp_ok ho.1 hm, Option.bind_some]
