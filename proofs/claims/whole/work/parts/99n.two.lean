-- functions of two intervals
def ADL (a c : Int) : Int := if a.natAbs = INF ∨ c.natAbs = INF then -(INF : Int) else SUM a c 0
def ADH (b d : Int) : Int := if b.natAbs = INF ∨ d.natAbs = INF then (INF : Int) else SUM b d 1
def PLW (a b c d : Int) : Int := MN (MN (PROD a c 0) (PROD a d 0)) (MN (PROD b c 0) (PROD b d 0))
def PHW (a b c d : Int) : Int := MX (MX (PROD a c 1) (PROD a d 1)) (MX (PROD b c 1) (PROD b d 1))
def U2 (f : Nat) (a b c d : Int) : Option (Int × Int × Nat) := if f = 0 then some (ADL a c, ADH b d, 4) else if f = 1 then some (ADL a (-d), ADH b (-c), 4) else if f = 2 then some (PLW a b c d, PHW a b c d, 4) else if f = 3 then DV a b c d else if f = 4 then some (MN a c, MN b d, 4) else some (MX a c, MX b d, 4)
theorem SUM_b (x y : Int) (how : Nat) : (SUM x y how).natAbs ≤ INF := RND_abs _ _ _ _ _
theorem AD_ok {a b c d : Int} (h1 : Iok a b) (h2 : Iok c d) : Iok (ADL a c) (ADH b d) := by
  have hI : INF = 9218868437227405312 := rfl
  obtain ⟨a1, a2, a3, a4, a5⟩ := h1
  obtain ⟨c1, c2, c3, c4, c5⟩ := h2
  have s1 := SUM_b a c 0
  have s2 := SUM_b b d 1
  have s3 : SUM a c 0 < INF := RND_lt0 _ _ _ _
  have s4 : -(INF : Int) < SUM b d 1 := RND_gt1 _ _ _ _
  have s5 := sum_mono a3 c3
  unfold ADL ADH
  refine ⟨?_, ?_, ?_, ?_, ?_⟩
  · split <;> omega
  · split <;> omega
  · split <;> split <;> omega
  · split <;> omega
  · split <;> omega
theorem MN_le (a b : Int) : MN a b ≤ a ∧ MN a b ≤ b ∧ (MN a b = a ∨ MN a b = b) := by unfold MN; split <;> omega
theorem MX_ge (a b : Int) : a ≤ MX a b ∧ b ≤ MX a b ∧ (MX a b = a ∨ MX a b = b) := by unfold MX; split <;> omega
theorem mn4 (p q r s : Int) : MN (MN p q) (MN r s) ≤ p ∧ MN (MN p q) (MN r s) ≤ q ∧ MN (MN p q) (MN r s) ≤ r ∧ MN (MN p q) (MN r s) ≤ s ∧ (MN (MN p q) (MN r s) = p ∨ MN (MN p q) (MN r s) = q ∨ MN (MN p q) (MN r s) = r ∨ MN (MN p q) (MN r s) = s) := by
  have h1 := MN_le p q
  have h2 := MN_le r s
  have h3 := MN_le (MN p q) (MN r s)
  generalize MN (MN p q) (MN r s) = x at *
  generalize MN p q = y at *
  generalize MN r s = z at *
  refine ⟨by omega, by omega, by omega, by omega, by omega⟩
theorem mx4 (p q r s : Int) : p ≤ MX (MX p q) (MX r s) ∧ q ≤ MX (MX p q) (MX r s) ∧ r ≤ MX (MX p q) (MX r s) ∧ s ≤ MX (MX p q) (MX r s) ∧ (MX (MX p q) (MX r s) = p ∨ MX (MX p q) (MX r s) = q ∨ MX (MX p q) (MX r s) = r ∨ MX (MX p q) (MX r s) = s) := by
  have h1 := MX_ge p q
  have h2 := MX_ge r s
  have h3 := MX_ge (MX p q) (MX r s)
  generalize MX (MX p q) (MX r s) = x at *
  generalize MX p q = y at *
  generalize MX r s = z at *
  refine ⟨by omega, by omega, by omega, by omega, by omega⟩
theorem lt0I {x : Int} (h : x ≤ 0) : x < INF := by
  have hI : INF = 9218868437227405312 := rfl
  omega
theorem gt0I {x : Int} (h : 0 ≤ x) : -(INF : Int) < x := by
  have hI : INF = 9218868437227405312 := rfl
  omega
theorem PW_lt {a b c d : Int} (h1 : Iok a b) (h2 : Iok c d) : PROD a c 0 < INF ∨ PROD a d 0 < INF ∨ PROD b c 0 < INF ∨ PROD b d 0 < INF := by
  have hI : INF = 9218868437227405312 := rfl
  obtain ⟨a1, a2, a3, a4, a5⟩ := h1
  obtain ⟨c1, c2, c3, c4, c5⟩ := h2
  by_cases ha : a.natAbs < INF
  · by_cases hc : c.natAbs < INF
    · exact Or.inl (PROD_f0 ha hc)
    · by_cases hb : 0 ≤ b
      · exact Or.inr (Or.inr (Or.inl (lt0I (PROD_n (Or.inr ⟨hb, by omega⟩)))))
      · by_cases hd : d.natAbs < INF
        · exact Or.inr (Or.inr (Or.inr (PROD_f0 (by omega) hd)))
        · exact Or.inr (Or.inr (Or.inr (lt0I (PROD_n (Or.inl ⟨by omega, by omega⟩)))))
  · by_cases hd0 : 0 ≤ d
    · exact Or.inr (Or.inl (lt0I (PROD_n (Or.inl ⟨by omega, hd0⟩))))
    · by_cases hb : b.natAbs < INF
      · exact Or.inr (Or.inr (Or.inr (PROD_f0 hb (by omega))))
      · exact Or.inr (Or.inr (Or.inr (lt0I (PROD_n (Or.inr ⟨by omega, by omega⟩)))))
theorem PW_gt {a b c d : Int} (h1 : Iok a b) (h2 : Iok c d) : -(INF : Int) < PROD a c 1 ∨ -(INF : Int) < PROD a d 1 ∨ -(INF : Int) < PROD b c 1 ∨ -(INF : Int) < PROD b d 1 := by
  have hI : INF = 9218868437227405312 := rfl
  obtain ⟨a1, a2, a3, a4, a5⟩ := h1
  obtain ⟨c1, c2, c3, c4, c5⟩ := h2
  by_cases hb : b.natAbs < INF
  · by_cases hd : d.natAbs < INF
    · exact Or.inr (Or.inr (Or.inr (PROD_f1 hb hd)))
    · by_cases hb0 : 0 ≤ b
      · exact Or.inr (Or.inr (Or.inr (gt0I (PROD_p (Or.inl ⟨hb0, by omega⟩)))))
      · by_cases hc : c.natAbs < INF
        · exact Or.inr (Or.inr (Or.inl (PROD_f1 hb hc)))
        · exact Or.inr (Or.inr (Or.inl (gt0I (PROD_p (Or.inr ⟨by omega, by omega⟩)))))
  · by_cases hd0 : 0 ≤ d
    · exact Or.inr (Or.inr (Or.inr (gt0I (PROD_p (Or.inl ⟨by omega, hd0⟩)))))
    · by_cases ha : a.natAbs < INF
      · exact Or.inr (Or.inl (PROD_f1 ha (by omega)))
      · exact Or.inr (Or.inl (gt0I (PROD_p (Or.inr ⟨by omega, by omega⟩))))
theorem PW_ok {a b c d : Int} (h1 : Iok a b) (h2 : Iok c d) : Iok (PLW a b c d) (PHW a b c d) := by
  have lt := PW_lt h1 h2
  have gt := PW_gt h1 h2
  have p1 := PROD_abs a c 0
  have p2 := PROD_abs a d 0
  have p3 := PROD_abs b c 0
  have p4 := PROD_abs b d 0
  have q1 := PROD_abs a c 1
  have q2 := PROD_abs a d 1
  have q3 := PROD_abs b c 1
  have q4 := PROD_abs b d 1
  have sm := PROD_same a c
  obtain ⟨l1, l2, l3, l4, l5⟩ := mn4 (PROD a c 0) (PROD a d 0) (PROD b c 0) (PROD b d 0)
  obtain ⟨u1, u2, u3, u4, u5⟩ := mx4 (PROD a c 1) (PROD a d 1) (PROD b c 1) (PROD b d 1)
  unfold PLW PHW
  obtain ⟨m, hm⟩ : ∃ m, m = MN (MN (PROD a c 0) (PROD a d 0)) (MN (PROD b c 0) (PROD b d 0)) := ⟨_, rfl⟩
  obtain ⟨M, hM⟩ : ∃ M, M = MX (MX (PROD a c 1) (PROD a d 1)) (MX (PROD b c 1) (PROD b d 1)) := ⟨_, rfl⟩
  rw [← hm] at l1 l2 l3 l4 l5
  rw [← hM] at u1 u2 u3 u4 u5
  rw [← hm, ← hM]
  clear hm hM h1 h2
  refine ⟨?_, ?_, ?_, ?_, ?_⟩
  · rcases l5 with e | e | e | e <;> rw [e] <;> assumption
  · rcases u5 with e | e | e | e <;> rw [e] <;> assumption
  · exact Int.le_trans l1 (Int.le_trans sm u1)
  · rcases lt with e | e | e | e
    · exact Int.lt_of_le_of_lt l1 e
    · exact Int.lt_of_le_of_lt l2 e
    · exact Int.lt_of_le_of_lt l3 e
    · exact Int.lt_of_le_of_lt l4 e
  · rcases gt with e | e | e | e
    · exact Int.lt_of_lt_of_le e u1
    · exact Int.lt_of_lt_of_le e u2
    · exact Int.lt_of_lt_of_le e u3
    · exact Int.lt_of_lt_of_le e u4
theorem U2_ok {f : Nat} {a b c d : Int} (h1 : Iok a b) (h2 : Iok c d) : OpOk (U2 f a b c d) := by
  have hI : INF = 9218868437227405312 := rfl
  have hh1 := h1
  have hh2 := h2
  obtain ⟨a1, a2, a3, a4, a5⟩ := h1
  obtain ⟨c1, c2, c3, c4, c5⟩ := h2
  unfold U2
  split
  · exact ⟨AD_ok hh1 hh2, Or.inr (Or.inr rfl)⟩
  · split
    · exact ⟨AD_ok hh1 ⟨by omega, by omega, by omega, by omega, by omega⟩, Or.inr (Or.inr rfl)⟩
    · split
      · exact ⟨PW_ok hh1 hh2, Or.inr (Or.inr rfl)⟩
      · split
        · exact DV_ok hh1 hh2
        · split
          · have m1 := MN_le a c
            have m2 := MN_le b d
            exact ⟨⟨by omega, by omega, by omega, by omega, by omega⟩, Or.inr (Or.inr rfl)⟩
          · have m1 := MX_ge a c
            have m2 := MX_ge b d
            exact ⟨⟨by omega, by omega, by omega, by omega, by omega⟩, Or.inr (Or.inr rfl)⟩
theorem csumL {a c : Int} (ha : a.natAbs ≤ INF) (hc : c.natAbs ≤ INF) (ha2 : a < INF) (hc2 : c < INF) : f_Exact_sum (lZ a) (lZ c) (-1 : Int32) = some (lZ (ADL a c)) := by
  unfold ADL
  by_cases h1 : a.natAbs = INF
  · rw [csum_inf1 h1, if_pos (Or.inl h1), show a = -(INF : Int) by omega]
  · by_cases h2 : c.natAbs = INF
    · rw [csum_inf2 (by omega) h2, if_pos (Or.inr h2), show c = -(INF : Int) by omega]
    · rw [show (-1 : Int32) = wI 0 from rfl, csum_ok (by decide) (by omega) (by omega), if_neg (by omega)]
      rfl
theorem csumH {a c : Int} (ha : a.natAbs ≤ INF) (hc : c.natAbs ≤ INF) (ha2 : -(INF : Int) < a) (hc2 : -(INF : Int) < c) : f_Exact_sum (lZ a) (lZ c) (1 : Int32) = some (lZ (ADH a c)) := by
  unfold ADH
  by_cases h1 : a.natAbs = INF
  · rw [csum_inf1 h1, if_pos (Or.inl h1), show a = (INF : Int) by omega]
  · by_cases h2 : c.natAbs = INF
    · rw [csum_inf2 (by omega) h2, if_pos (Or.inr h2), show c = (INF : Int) by omega]
    · rw [show (1 : Int32) = wI 1 from rfl, csum_ok (by decide) (by omega) (by omega), if_neg (by omega)]
      rfl
theorem ctwo_ok {f : Nat} {a b c d : Int} {m1 m2 : Nat} (hf : f < 6) (h1 : Iok a b) (h2 : Iok c d) (k1 : 1 ≤ m1) (k2 : m1 ≤ 4) (k3 : 1 ≤ m2) (k4 : m2 ≤ 4) : f_Two_value (nI f) (lZ a) (lZ b) (nI m1) (lZ c) (lZ d) (nI m2) = some (cc (fo (U2 f a b c d) (if m1 ≤ m2 then m1 else m2))) := by
  have hI : INF = 9218868437227405312 := rfl
  have ho := U2_ok (f := f) h1 h2
  obtain ⟨a1, a2, a3, a4, a5⟩ := id h1
  obtain ⟨c1, c2, c3, c4, c5⟩ := id h2
  obtain ⟨m, hm⟩ : ∃ m, m = if m1 ≤ m2 then m1 else m2 := ⟨_, rfl⟩
  have hm4 : m ≤ 4 := by rw [hm]; split <;> omega
  have em : j_minI (nI m1) (nI m2) = nI m := by
    unfold j_minI
    rw [hm]
    by_cases e : m1 ≤ m2
    · rw [if_neg (nI_nlt e (by omega)), if_pos e]
    · rw [if_pos (nI_lt (by omega) (by omega)), if_neg e]
  unfold f_Two_value f_Two_value_0
  rw [← hm, if_neg (fun h9 => by have := (i_eq0 (by omega)).mp h9; omega), if_neg (fun h9 => by have := (i_eq0 (by omega)).mp h9; omega), if_neg (show ¬ nI f = (7 : Int32) from fun h9 => by have := (nI_eq (b := 7) (by omega) (by decide)).mp h9; omega), nop_ok a1 a2, Option.bind_some, decide_eq_false (by omega), if_pos (show bI false = 0 from rfl), nop_ok c1 c2, Option.bind_some, decide_eq_false (by omega), if_pos (show bI false = 0 from rfl), em, jl_]
  have hc : f = 0 ∨ f = 1 ∨ f = 2 ∨ f = 3 ∨ f = 4 ∨ f = 5 := by omega
  rcases hc with e | e | e | e | e | e <;> subst e
  · have U : U2 0 a b c d = some (ADL a c, ADH b d, 4) := rfl
    rw [U] at ho ⊢
    unfold f_Two_sum f_Two_sum_0
    rw [if_pos (show nI 0 = (0 : Int32) from rfl), csumL a1 c1 a4 c4, Option.bind_some, csumH a2 c2 a5 c5, Option.bind_some, show (4 : Int32) = nI 4 from rfl, val_ok ho.1 (by decide) hm4, Option.bind_some, Option.bind_some]
    rfl
  · have U : U2 1 a b c d = some (ADL a (-d), ADH b (-c), 4) := rfl
    rw [U] at ho ⊢
    unfold f_Two_sum f_Two_sum_0
    rw [if_neg (by decide), if_pos (show nI 1 = (1 : Int32) from rfl), lZ_neg, lZ_neg, csumL a1 (by omega) a4 (by omega), Option.bind_some, csumH a2 (by omega) a5 (by omega), Option.bind_some, show (4 : Int32) = nI 4 from rfl, val_ok ho.1 (by decide) hm4, Option.bind_some, Option.bind_some]
    rfl
  · have U : U2 2 a b c d = some (PLW a b c d, PHW a b c d, 4) := rfl
    rw [U] at ho ⊢
    have pL : ∀ x : Int, x.natAbs ≤ INF → f_Two_leastProduct (lZ x) (lZ c) (lZ d) (nI m2) = some (lZ (MN (PROD x c 0) (PROD x d 0))) := fun x hx => by
      unfold f_Two_leastProduct f_Two_leastProduct_0
      rw [show f_Exact_product (lZ x) (lZ c) (-1 : Int32) = _ from cprod_all (how := 0) (by decide) hx c1, Option.bind_some, show f_Exact_product (lZ x) (lZ d) (-1 : Int32) = _ from cprod_all (how := 0) (by decide) hx c2, Option.bind_some, lmin (PROD_abs _ _ _) (PROD_abs _ _ _), jl_]
    have pH : ∀ x : Int, x.natAbs ≤ INF → f_Two_greatestProduct (lZ x) (lZ c) (lZ d) (nI m2) = some (lZ (MX (PROD x c 1) (PROD x d 1))) := fun x hx => by
      unfold f_Two_greatestProduct f_Two_greatestProduct_0
      rw [show f_Exact_product (lZ x) (lZ c) (1 : Int32) = _ from cprod_all (how := 1) (by decide) hx c1, Option.bind_some, show f_Exact_product (lZ x) (lZ d) (1 : Int32) = _ from cprod_all (how := 1) (by decide) hx c2, Option.bind_some, lmax (PROD_abs _ _ _) (PROD_abs _ _ _), jl_]
    have b1 : ∀ x : Int, (MN (PROD x c 0) (PROD x d 0)).natAbs ≤ INF ∧ (MX (PROD x c 1) (PROD x d 1)).natAbs ≤ INF := fun x => by
      have := MN_le (PROD x c 0) (PROD x d 0)
      have := MX_ge (PROD x c 1) (PROD x d 1)
      have := PROD_abs x c 0
      have := PROD_abs x d 0
      have := PROD_abs x c 1
      have := PROD_abs x d 1
      omega
    unfold f_Two_product f_Two_product_0
    rw [if_neg (by decide), if_neg (by decide), if_pos (show nI 2 = (2 : Int32) from rfl), pL a a1, Option.bind_some, pL b a2, Option.bind_some, lmin (b1 a).1 (b1 b).1, jl_, pH a a1, Option.bind_some, pH b a2, Option.bind_some, lmax (b1 a).2 (b1 b).2, jl_, show (4 : Int32) = nI 4 from rfl]
    rw [show f_Cell_value (lZ (MN (MN (PROD a c 0) (PROD a d 0)) (MN (PROD b c 0) (PROD b d 0)))) (lZ (MX (MX (PROD a c 1) (PROD a d 1)) (MX (PROD b c 1) (PROD b d 1)))) (nI 4) (nI m) = _ from val_ok ho.1 (by decide) hm4, Option.bind_some, Option.bind_some]
    rfl
  · have U : U2 3 a b c d = DV a b c d := rfl
    rw [U]
    rw [if_neg (by decide), if_neg (by decide), if_neg (by decide), if_pos (show nI 3 = (3 : Int32) from rfl), cdiv_ok h1 h2 hm4, Option.bind_some]
  · have U : U2 4 a b c d = some (MN a c, MN b d, 4) := rfl
    rw [U] at ho ⊢
    rw [if_neg (by decide), if_neg (by decide), if_neg (by decide), if_neg (by decide), if_pos (show nI 4 = (4 : Int32) from rfl), lmin a1 c1, lmin a2 c2, jl_, jl_, show (4 : Int32) = nI 4 from rfl, val_ok ho.1 (by decide) hm4, Option.bind_some]
    rfl
  · have U : U2 5 a b c d = some (MX a c, MX b d, 4) := rfl
    rw [U] at ho ⊢
    rw [if_neg (by decide), if_neg (by decide), if_neg (by decide), if_neg (by decide), if_neg (by decide), if_pos (show nI 5 = (5 : Int32) from rfl), lmax a1 c1, lmax a2 c2, jl_, jl_, show (4 : Int32) = nI 4 from rfl, val_ok ho.1 (by decide) hm4, Option.bind_some]
    rfl
theorem rsumL {a c : Int} (ha : a.natAbs < INF) (hc : c.natAbs < INF) {how : Nat} (hh : how < 3) {g : Nat → Int32} {N : Nat → Nat} (hB : Big g N) (ov : Int32) : ∃ g' N', f_Ref_sum (lZ a) (lZ c) (0 : Int32) (nI how) g ov = some (lZ (SUM a c how), g', bI false) ∧ Big g' N' := by
  obtain ⟨g', N', e, b⟩ := rsum_ok (x := a) (y := c) (how := how) (hf := 0) hh ha hc (by decide) (by decide) hB ov
  exact ⟨g', N', e, b⟩
theorem rtwo_ok {f : Nat} {a b c d : Int} (hf : f < 6) (h1 : Iok a b) (h2 : Iok c d) {g : Nat → Int32} {N : Nat → Nat} (hB : Big g N) (ov : Bool) (x y : Int64) : OF (f_Ref_ofTwo (nI f) (lZ a) (lZ b) (lZ c) (lZ d) g (bI ov) x y (0 : Int32)) (U2 f a b c d) := by
  have hI : INF = 9218868437227405312 := rfl
  obtain ⟨a1, a2, a3, a4, a5⟩ := id h1
  obtain ⟨c1, c2, c3, c4, c5⟩ := id h2
  have mi : (-9218868437227405312 : Int64) = lZ (-(INF : Int)) := by decide
  have pi : (9218868437227405312 : Int64) = lZ (INF : Int) := by decide
  have fin : ∀ (g : Nat → Int32) (N : Nat → Nat) (ov : Bool) (l h : Int), Big g N → OF ((f_Ref_result (lZ l) (lZ h) x y).bind fun r1 => some ((3 : Int32), g, bI ov, r1.1, r1.2, (0 : Int32))) (some (l, h, 4)) := fun g N ov l h hB => ⟨_, g, N, ov, _, _, _, rfl, hB, rfl, rfl, rfl, rfl⟩
  unfold f_Ref_ofTwo f_Ref_ofTwo_0
  have hc : f = 0 ∨ f = 1 ∨ f = 2 ∨ f = 3 ∨ f = 4 ∨ f = 5 := by omega
  rcases hc with e | e | e | e | e | e <;> subst e
  · have U : U2 0 a b c d = some (ADL a c, ADH b d, 4) := rfl
    rw [U]
    have E67 : ∀ (l : Int) (g : Nat → Int32) (N : Nat → Nat) (ov : Bool), Big g N → OF (f_Ref_ofTwo_67 (lZ l) (lZ b) (lZ d) g (bI ov) x y (0 : Int32)) (some (l, ADH b d, 4)) := fun l g N ov hB => by
      unfold f_Ref_ofTwo_67 f_Ref_ofTwo_83 f_Ref_ofTwo_99 ADH
      rw [isInf_ok a2, Option.bind_some, pi]
      by_cases i1 : b.natAbs = INF
      · rw [decide_eq_true i1, if_neg (show ¬ bI true = 0 by decide), if_pos (Or.inl i1)]
        exact fin g N ov l _ hB
      · rw [decide_eq_false i1, if_pos (show bI false = 0 from rfl), isInf_ok c2, Option.bind_some]
        by_cases i2 : d.natAbs = INF
        · rw [decide_eq_true i2, if_neg (show ¬ bI true = 0 by decide), if_pos (Or.inr i2)]
          exact fin g N ov l _ hB
        · obtain ⟨g', N', e, b'⟩ := rsumL (a := b) (c := d) (how := 1) (by omega) (by omega) (by decide) hB (bI ov)
          rw [decide_eq_false i2, if_pos (show bI false = 0 from rfl), show f_Ref_sum (lZ b) (lZ d) (0 : Int32) (1 : Int32) g (bI ov) = _ from e, Option.bind_some, if_neg (by omega)]
          exact fin g' N' false l _ b'
    unfold f_Ref_ofTwo_52
    rw [if_pos (show nI 0 = (0 : Int32) from rfl), isInf_ok a1, Option.bind_some, mi]
    unfold ADL
    by_cases i1 : a.natAbs = INF
    · rw [decide_eq_true i1, if_neg (show ¬ bI true = 0 by decide), if_pos (Or.inl i1)]
      exact E67 _ g N ov hB
    · rw [decide_eq_false i1, if_pos (show bI false = 0 from rfl), isInf_ok c1, Option.bind_some]
      by_cases i2 : c.natAbs = INF
      · rw [decide_eq_true i2, if_neg (show ¬ bI true = 0 by decide), if_pos (Or.inr i2)]
        exact E67 _ g N ov hB
      · obtain ⟨g', N', e, b'⟩ := rsumL (a := a) (c := c) (how := 0) (by omega) (by omega) (by decide) hB (bI ov)
        rw [decide_eq_false i2, if_pos (show bI false = 0 from rfl), show f_Ref_sum (lZ a) (lZ c) (0 : Int32) (0 : Int32) g (bI ov) = _ from e, Option.bind_some, if_neg (by omega)]
        exact E67 _ g' N' false b'
  · have U : U2 1 a b c d = some (ADL a (-d), ADH b (-c), 4) := rfl
    rw [U]
    have E136 : ∀ (l : Int) (g : Nat → Int32) (N : Nat → Nat) (ov : Bool), Big g N → OF (f_Ref_ofTwo_136 (lZ l) (lZ b) (lZ c) g (bI ov) x y (0 : Int32)) (some (l, ADH b (-c), 4)) := fun l g N ov hB => by
      unfold f_Ref_ofTwo_136 f_Ref_ofTwo_152 f_Ref_ofTwo_169 ADH
      rw [isInf_ok a2, Option.bind_some, pi]
      by_cases i1 : b.natAbs = INF
      · rw [decide_eq_true i1, if_neg (show ¬ bI true = 0 by decide), if_pos (Or.inl i1)]
        exact fin g N ov l _ hB
      · rw [decide_eq_false i1, if_pos (show bI false = 0 from rfl), isInf_ok c1, Option.bind_some]
        by_cases i2 : c.natAbs = INF
        · rw [decide_eq_true i2, if_neg (show ¬ bI true = 0 by decide), if_pos (Or.inr (by omega))]
          exact fin g N ov l _ hB
        · obtain ⟨g', N', e, b'⟩ := rsumL (a := b) (c := -c) (how := 1) (by omega) (by omega) (by decide) hB (bI ov)
          rw [decide_eq_false i2, if_pos (show bI false = 0 from rfl), lZ_neg, show f_Ref_sum (lZ b) (lZ (-c)) (0 : Int32) (1 : Int32) g (bI ov) = _ from e, Option.bind_some, if_neg (by omega)]
          exact fin g' N' false l _ b'
    unfold f_Ref_ofTwo_120
    rw [if_neg (by decide), if_pos (show nI 1 = (1 : Int32) from rfl), isInf_ok a1, Option.bind_some, mi]
    unfold ADL
    by_cases i1 : a.natAbs = INF
    · rw [decide_eq_true i1, if_neg (show ¬ bI true = 0 by decide), if_pos (Or.inl i1)]
      exact E136 _ g N ov hB
    · rw [decide_eq_false i1, if_pos (show bI false = 0 from rfl), isInf_ok c2, Option.bind_some]
      by_cases i2 : d.natAbs = INF
      · rw [decide_eq_true i2, if_neg (show ¬ bI true = 0 by decide), if_pos (Or.inr (by omega))]
        exact E136 _ g N ov hB
      · obtain ⟨g', N', e, b'⟩ := rsumL (a := a) (c := -d) (how := 0) (by omega) (by omega) (by decide) hB (bI ov)
        rw [decide_eq_false i2, if_pos (show bI false = 0 from rfl), lZ_neg, show f_Ref_sum (lZ a) (lZ (-d)) (0 : Int32) (0 : Int32) g (bI ov) = _ from e, Option.bind_some, if_neg (by omega)]
        exact E136 _ g' N' false b'
  · have U : U2 2 a b c d = some (PLW a b c d, PHW a b c d, 4) := rfl
    rw [U]
    obtain ⟨g1, N1, o1, e1, b1⟩ := rprod_all (x := a) (y := c) (how := 0) (by decide) a1 c1 hB ov
    obtain ⟨g2, N2, o2, e2, b2⟩ := rprod_all (x := a) (y := d) (how := 0) (by decide) a1 c2 b1 o1
    obtain ⟨g3, N3, o3, e3, b3⟩ := rprod_all (x := b) (y := c) (how := 0) (by decide) a2 c1 b2 o2
    obtain ⟨g4, N4, o4, e4, b4⟩ := rprod_all (x := b) (y := d) (how := 0) (by decide) a2 c2 b3 o3
    obtain ⟨g5, N5, o5, e5, b5⟩ := rprod_all (x := a) (y := c) (how := 1) (by decide) a1 c1 b4 o4
    obtain ⟨g6, N6, o6, e6, b6⟩ := rprod_all (x := a) (y := d) (how := 1) (by decide) a1 c2 b5 o5
    obtain ⟨g7, N7, o7, e7, b7⟩ := rprod_all (x := b) (y := c) (how := 1) (by decide) a2 c1 b6 o6
    obtain ⟨g8, N8, o8, e8, b8⟩ := rprod_all (x := b) (y := d) (how := 1) (by decide) a2 c2 b7 o7
    have bb : ∀ x : Int, (MN (PROD x c 0) (PROD x d 0)).natAbs ≤ INF ∧ (MX (PROD x c 1) (PROD x d 1)).natAbs ≤ INF := fun x => by
      have := MN_le (PROD x c 0) (PROD x d 0)
      have := MX_ge (PROD x c 1) (PROD x d 1)
      have := PROD_abs x c 0
      have := PROD_abs x d 0
      have := PROD_abs x c 1
      have := PROD_abs x d 1
      omega
    unfold f_Ref_products f_Ref_products_0
    rw [if_neg (by decide), if_neg (by decide), if_pos (show nI 2 = (2 : Int32) from rfl)]
    rw [show f_Ref_product (lZ a) (lZ c) (0 : Int32) g (bI ov) = _ from e1, Option.bind_some, show f_Ref_product (lZ a) (lZ d) (0 : Int32) g1 (bI o1) = _ from e2, Option.bind_some, rls (PROD_abs _ _ _) (PROD_abs _ _ _), Option.bind_some, show f_Ref_product (lZ b) (lZ c) (0 : Int32) g2 (bI o2) = _ from e3, Option.bind_some, show f_Ref_product (lZ b) (lZ d) (0 : Int32) g3 (bI o3) = _ from e4, Option.bind_some, rls (PROD_abs _ _ _) (PROD_abs _ _ _), Option.bind_some, rls (bb a).1 (bb b).1, Option.bind_some]
    rw [show f_Ref_product (lZ a) (lZ c) (1 : Int32) g4 (bI o4) = _ from e5, Option.bind_some, show f_Ref_product (lZ a) (lZ d) (1 : Int32) g5 (bI o5) = _ from e6, Option.bind_some, rgr (PROD_abs _ _ _) (PROD_abs _ _ _), Option.bind_some, show f_Ref_product (lZ b) (lZ c) (1 : Int32) g6 (bI o6) = _ from e7, Option.bind_some, show f_Ref_product (lZ b) (lZ d) (1 : Int32) g7 (bI o7) = _ from e8, Option.bind_some, rgr (PROD_abs _ _ _) (PROD_abs _ _ _), Option.bind_some, rgr (bb a).2 (bb b).2, Option.bind_some]
    exact ⟨_, g8, N8, o8, _, _, _, rfl, b8, rfl, rfl, rfl, rfl⟩
  · have U : U2 3 a b c d = DV a b c d := rfl
    rw [U]
    obtain ⟨g', N', ov', x', y', w', e, b', q⟩ := rquots_ok h1 h2 hB ov x y (0 : Int32)
    unfold f_Ref_ofTwo_216 f_Ref_ofTwo_217
    rw [if_neg (by decide), if_neg (by decide), if_neg (by decide), if_pos (show nI 3 = (3 : Int32) from rfl), e, Option.bind_some]
    have Fin : ∀ z : Int32, z = nI (if c ≤ 0 ∧ 0 ≤ d then 1 else 3) → OF (some (z, g', bI ov', x', y', w')) (DV a b c d) := fun z hz => by
      refine ⟨z, g', N', ov', x', y', w', rfl, b', ?_⟩
      cases hd : DV a b c d with
      | none =>
        rw [hd] at q
        exact q
      | some t =>
        obtain ⟨l', h', loc⟩ := t
        rw [hd] at q
        refine ⟨q.1, q.2.1, q.2.2, ?_⟩
        rw [DV_loc c3 hd, hz]
    by_cases i1 : 0 < c
    · rw [if_pos (show (0 : Int64) < lZ c from (l_lt (a := 0) (by decide) (by decide) (by omega) (by omega)).mpr i1)]
      exact Fin _ (by rw [if_neg (by omega)]; rfl)
    · rw [if_neg (show ¬ (0 : Int64) < lZ c from fun h9 => i1 ((l_lt (a := 0) (by decide) (by decide) (by omega) (by omega)).mp h9))]
      by_cases i2 : d < 0
      · rw [if_pos ((l_lt0 (by omega) (by omega)).mpr i2)]
        exact Fin _ (by rw [if_neg (by omega)]; rfl)
      · rw [if_neg (fun h9 => i2 ((l_lt0 (by omega) (by omega)).mp h9))]
        exact Fin _ (by rw [if_pos (by omega)]; rfl)
  · have U : U2 4 a b c d = some (MN a c, MN b d, 4) := rfl
    rw [U]
    rw [if_neg (by decide), if_neg (by decide), if_neg (by decide), if_neg (by decide), if_pos (show nI 4 = (4 : Int32) from rfl), rls a1 c1, Option.bind_some, rls a2 c2, Option.bind_some]
    exact fin g N ov _ _ hB
  · have U : U2 5 a b c d = some (MX a c, MX b d, 4) := rfl
    rw [U]
    rw [if_neg (by decide), if_neg (by decide), if_neg (by decide), if_neg (by decide), if_neg (by decide), rgr a1 c1, Option.bind_some, rgr a2 c2, Option.bind_some]
    exact fin g N ov _ _ hB
