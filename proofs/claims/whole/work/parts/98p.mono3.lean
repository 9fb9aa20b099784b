-- quotients and decimals keep the order
theorem q_lo {x y K : Nat} (hK : 4000 ≤ K) (hy : y < INF) (hx : x < INF) (y0 : y ≠ 0) : VV K (mt x * 2 ^ 120 / mt y) (ex x - ex y - 120) * RV y ≤ RV x * 2 ^ K ∧ RV x * 2 ^ K < VV K (mt x * 2 ^ 120 / mt y + 1) (ex x - ex y - 120) * RV y := by
  have h1 := ex_ge x
  have h2 := ex_ge y
  have h3 := ex_le hy
  have h4 := ex_le hx
  have hm : 0 < mt y := by have := mt_0 y0; omega
  obtain ⟨T, hT⟩ : ∃ T : Nat, T = 120 := ⟨_, rfl⟩
  rw [← hT]
  have e : ∀ X : Nat, VV K X (ex x - ex y - 120) * RV y = X * mt y * 2 ^ ((ex x + 1074).toNat + K - T) := fun X => by
    unfold VV RV
    rw [Nat.mul_mul_mul_comm, ← Nat.pow_add]
    congr 2
    omega
  have e2 : RV x * 2 ^ K = mt x * 2 ^ T * 2 ^ ((ex x + 1074).toNat + K - T) := by
    unfold RV
    rw [Nat.mul_assoc, Nat.mul_assoc, ← Nat.pow_add, ← Nat.pow_add]
    congr 2
    omega
  rw [e, e, e2]
  constructor
  · exact Nat.mul_le_mul_right _ (Nat.div_mul_le_self _ _)
  · apply Nat.mul_lt_mul_of_pos_right _ (p2 _)
    have h5 := Nat.div_add_mod (mt x * 2 ^ T) (mt y)
    have h6 := Nat.mod_lt (mt x * 2 ^ T) hm
    rw [Nat.add_mul, Nat.one_mul, Nat.mul_comm (_ / _)]
    omega
theorem quot_mono {x1 y1 x2 y2 : Nat} (hx : x1 ≤ x2) (hy : y2 ≤ y1) (a2 : x2 < INF) (b1 : y1 < INF) (x20 : x2 ≠ 0) (y20 : y2 ≠ 0) : TR (mt x1 * 2 ^ 120 / mt y1) (ex x1 - ex y1 - 120) ≤ TR (mt x2 * 2 ^ 120 / mt y2) (ex x2 - ex y2 - 120) := by
  have a1 := ex_ge x1
  have c1 := ex_le b1
  have a3 := ex_ge x2
  have c3 := ex_le (n := y2) (by omega)
  apply TR_mono (K := 4000) (by decide) (by omega) (by omega)
  right
  constructor
  · apply Nat.le_trans _ (bl_of_le (k := 66) ?_)
    · decide
    · have hm : 0 < mt y2 := by have := mt_0 y20; omega
      have hm2 : 0 < mt x2 := by have := mt_0 x20; omega
      rw [Nat.le_div_iff_mul_le hm]
      have h1 : 2 ^ 66 * mt y2 ≤ 2 ^ 66 * 2 ^ 53 := Nat.mul_le_mul_left _ (Nat.le_of_lt (mt_lt _))
      have h2 : 1 * 2 ^ 120 ≤ mt x2 * 2 ^ 120 := Nat.mul_le_mul_right _ hm2
      exact Nat.le_trans h1 (Nat.le_trans (by decide) h2)
  · have l1 := (q_lo (K := 4000) (x := x1) (y := y1) (by decide) b1 (by omega) (by omega)).1
    have l2 := (q_lo (K := 4000) (x := x2) (y := y2) (by decide) (by omega) a2 y20).2
    have r1 := RV_le.mpr hx
    have r2 := RV_le.mpr hy
    have r3 : 0 < RV y2 := by have := RV_lt (show 0 < y2 by omega); omega
    have r4 : 0 < RV y1 := by omega
    obtain ⟨A, hA⟩ : ∃ A, A = VV 4000 (mt x1 * 2 ^ 120 / mt y1) (ex x1 - ex y1 - 120) := ⟨_, rfl⟩
    obtain ⟨B, hB⟩ : ∃ B, B = VV 4000 (mt x2 * 2 ^ 120 / mt y2 + 1) (ex x2 - ex y2 - 120) := ⟨_, rfl⟩
    obtain ⟨Z, hZ⟩ : ∃ Z : Nat, Z = 2 ^ 4000 := ⟨_, rfl⟩
    rw [← hA, ← hZ] at l1
    rw [← hB, ← hZ] at l2
    rw [← hA, ← hB]
    apply Nat.lt_of_mul_lt_mul_right (a := RV y1 * RV y2)
    have s1 : A * (RV y1 * RV y2) ≤ RV x1 * Z * RV y2 := by rw [← Nat.mul_assoc]; exact Nat.mul_le_mul_right _ l1
    have s2 : RV x1 * Z * RV y2 ≤ RV x2 * Z * RV y1 := Nat.mul_le_mul (Nat.mul_le_mul_right _ r1) r2
    have s3 : RV x2 * Z * RV y1 < B * (RV y1 * RV y2) := by
      rw [Nat.mul_comm (RV y1), ← Nat.mul_assoc]
      exact Nat.mul_lt_mul_of_pos_right l2 r4
    omega
def PLO (a c d : Int) : Int := if 0 ≤ a then QUOT a d 0 else if c = 0 ∨ a.natAbs = INF then -(INF : Int) else QUOT a c 0
def PHI (b c d : Int) : Int := if b ≤ 0 then QUOT b d 1 else if c = 0 ∨ b.natAbs = INF then (INF : Int) else QUOT b c 1
theorem QUOT_abs (x y : Int) (how : Nat) : (QUOT x y how).natAbs ≤ INF := by
  have hI : INF = 9218868437227405312 := rfl
  unfold QUOT
  split
  · omega
  · split
    · unfold sgn
      split <;> omega
    · exact RND_abs _ _ _ _ _
theorem QUOT_n {x y : Int} {how : Nat} (h : (x ≤ 0 ∧ 0 ≤ y) ∨ (0 ≤ x ∧ y < 0)) : QUOT x y how ≤ 0 := by
  unfold QUOT
  split
  · exact Int.le_refl _
  · next h0 =>
    have : pneg x y = true := by
      unfold pneg
      rcases h with ⟨h1, h2⟩ | ⟨h1, h2⟩
      · rw [d_lt1.mpr (show x < 0 by omega), d_lt0.mpr h2]; rfl
      · rw [d_lt1.mpr h2, d_lt0.mpr h1]; rfl
    rw [this]
    split
    · unfold sgn
      rw [if_pos rfl]
      omega
    · exact RND_m _ _ _ _
theorem QUOT_p {x y : Int} {how : Nat} (h : 0 ≤ x ∧ 0 ≤ y) : 0 ≤ QUOT x y how := by
  unfold QUOT
  split
  · exact Int.le_refl _
  · next h0 =>
    have : pneg x y = false := by
      unfold pneg
      rw [d_lt0.mpr h.1, d_lt0.mpr h.2]; rfl
    rw [this]
    split
    · unfold sgn
      rw [if_neg (by decide)]
      omega
    · exact RND_p _ _ _ _
theorem QUOT_f {x y : Int} (hx : x.natAbs < INF) : QUOT x y 0 < INF ∧ -(INF : Int) < QUOT x y 1 := by
  have hI : INF = 9218868437227405312 := rfl
  unfold QUOT
  split
  · omega
  · rw [if_neg (by omega), if_neg (by omega)]
    exact ⟨RND_lt0 _ _ _ _, RND_gt1 _ _ _ _⟩
theorem QUOT_pos {x y : Int} {how : Nat} (h1 : 0 < x) (h2 : x.natAbs < INF) (h3 : 0 < y) (h4 : y.natAbs < INF) : QUOT x y how = RND false (mt x.natAbs * 2 ^ 120 / mt y.natAbs) (mt x.natAbs * 2 ^ 120 % mt y.natAbs != 0) (ex x.natAbs - ex y.natAbs - 120) how := by
  unfold QUOT
  rw [if_neg (by omega), if_neg (by omega), show pneg x y = false by unfold pneg; rw [d_lt0.mpr (show 0 ≤ x by omega), d_lt0.mpr (show 0 ≤ y by omega)]; rfl]
theorem QUOT_neg {x y : Int} {how : Nat} (h1 : x < 0) (h2 : x.natAbs < INF) (h3 : 0 < y) (h4 : y.natAbs < INF) : QUOT x y how = RND true (mt x.natAbs * 2 ^ 120 / mt y.natAbs) (mt x.natAbs * 2 ^ 120 % mt y.natAbs != 0) (ex x.natAbs - ex y.natAbs - 120) how := by
  unfold QUOT
  rw [if_neg (by omega), if_neg (by omega), show pneg x y = true by unfold pneg; rw [d_lt1.mpr (show x < 0 by omega), d_lt0.mpr (show 0 ≤ y by omega)]; rfl]
theorem parts_mono {a b c d : Int} (hab : a ≤ b) (hcd : c ≤ d) (hc : 0 ≤ c) (hd : 0 < d) (a1 : -(INF : Int) ≤ a) (a2 : a < INF) (b1 : -(INF : Int) < b) (b2 : b ≤ INF) (c2 : c < INF) (d2 : d ≤ INF) : PLO a c d ≤ PHI b c d ∧ PLO a c d < INF ∧ -(INF : Int) < PHI b c d ∧ (PLO a c d).natAbs ≤ INF ∧ (PHI b c d).natAbs ≤ INF := by
  have hI : INF = 9218868437227405312 := rfl
  have lo : (PLO a c d).natAbs ≤ INF := by
    unfold PLO
    split
    · exact QUOT_abs _ _ _
    · split
      · omega
      · exact QUOT_abs _ _ _
  have hi : (PHI b c d).natAbs ≤ INF := by
    unfold PHI
    split
    · exact QUOT_abs _ _ _
    · split
      · omega
      · exact QUOT_abs _ _ _
  refine ⟨?_, ?_, ?_, lo, hi⟩
  · by_cases h0 : 0 ≤ a
    · by_cases hb0 : b ≤ 0
      · have e : a = 0 := by omega
        have e2 : b = 0 := by omega
        subst e e2
        unfold PLO PHI
        rw [if_pos (by decide), if_pos (by decide)]
        unfold QUOT
        rw [if_pos (Or.inl rfl), if_pos (Or.inl rfl)]
        exact Int.le_refl _
      · by_cases hci : c = 0 ∨ b.natAbs = INF
        · have : PHI b c d = INF := by unfold PHI; rw [if_neg hb0, if_pos hci]
          omega
        · have e1 : PLO a c d = QUOT a d 0 := by unfold PLO; rw [if_pos h0]
          have e2 : PHI b c d = QUOT b c 1 := by unfold PHI; rw [if_neg hb0, if_neg hci]
          rw [e1, e2]
          by_cases hz : a = 0 ∨ d.natAbs = INF
          · have : QUOT a d 0 = 0 := by unfold QUOT; rw [if_pos hz]
            rw [this]
            exact QUOT_p ⟨by omega, hc⟩
          · rw [QUOT_pos (by omega) (by omega) hd (by omega), QUOT_pos (by omega) (by omega) (by omega) (by omega)]
            exact RND_nn (quot_mono (by omega) (by omega) (by omega) (by omega) (by omega) (by omega))
    · by_cases hb0 : 0 < b
      · have e1 : PLO a c d ≤ 0 := by
          unfold PLO
          rw [if_neg h0]
          split
          · omega
          · exact QUOT_n (Or.inl ⟨by omega, hc⟩)
        have e2 : 0 ≤ PHI b c d := by
          unfold PHI
          rw [if_neg (by omega)]
          split
          · omega
          · exact QUOT_p ⟨by omega, hc⟩
        omega
      · have e2 : PHI b c d = QUOT b d 1 := by unfold PHI; rw [if_pos (by omega)]
        by_cases hci : c = 0 ∨ a.natAbs = INF
        · have : PLO a c d = -(INF : Int) := by unfold PLO; rw [if_neg h0, if_pos hci]
          omega
        · have e1 : PLO a c d = QUOT a c 0 := by unfold PLO; rw [if_neg h0, if_neg hci]
          rw [e1, e2]
          by_cases hz : b = 0 ∨ d.natAbs = INF
          · have : QUOT b d 1 = 0 := by unfold QUOT; rw [if_pos hz]
            rw [this]
            exact QUOT_n (Or.inl ⟨by omega, hc⟩)
          · rw [QUOT_neg (by omega) (by omega) hd (by omega), QUOT_neg (by omega) (by omega) (by omega) (by omega)]
            exact RND_mm (quot_mono (by omega) (by omega) (by omega) (by omega) (by omega) (by omega))
  · unfold PLO
    split
    · exact (QUOT_f (by omega)).1
    · split
      · omega
      · have := QUOT_n (x := a) (y := c) (how := 0) (Or.inl ⟨by omega, hc⟩)
        omega
  · unfold PHI
    split
    · exact (QUOT_f (by omega)).2
    · split
      · omega
      · have := QUOT_p (x := b) (y := c) (how := 1) ⟨by omega, hc⟩
        omega
-- decimals
def dN (D : Nat) (p : Int) : Nat := if 0 ≤ p then D * 10 ^ p.toNat else D * 2 ^ 260 / 10 ^ (-p).toNat
def dS (p : Int) : Int := if 0 ≤ p then 0 else -260
theorem DEC_N (neg : Bool) (D : Nat) (p : Int) (how : Nat) : ∃ o, DEC neg D p how = RND neg (dN D p) o (dS p) how := by
  unfold DEC dN dS
  split
  · exact ⟨_, rfl⟩
  · exact ⟨_, rfl⟩
theorem dN_0 (p : Int) : dN 0 p = 0 := by
  unfold dN
  split
  · exact Nat.zero_mul _
  · rw [Nat.zero_mul, Nat.zero_div]
theorem dec_VV {D K : Nat} {p : Int} (hK : 4000 ≤ K) (h1 : -40 ≤ p) : VV K (dN D p) (dS p) * 10 ^ 40 ≤ D * 10 ^ (p + 40).toNat * 2 ^ K ∧ ((0 ≤ p ∧ D * 10 ^ (p + 40).toNat * 2 ^ K = VV K (dN D p) (dS p) * 10 ^ 40) ∨ (p < 0 ∧ D * 10 ^ (p + 40).toNat * 2 ^ K < VV K (dN D p + 1) (dS p) * 10 ^ 40)) := by
  obtain ⟨F, hF⟩ : ∃ F : Nat, F = 40 := ⟨_, rfl⟩
  obtain ⟨T, hT⟩ : ∃ T : Nat, T = 260 := ⟨_, rfl⟩
  rw [← hF]
  unfold VV dN dS
  rw [← hT]
  by_cases hp : 0 ≤ p
  · rw [if_pos hp, if_pos hp, show (0 + (K : Int)).toNat = K by omega, show (p + 40).toNat = p.toNat + F by omega, Nat.pow_add, ← Nat.mul_assoc, Nat.mul_right_comm]
    exact ⟨Nat.le_refl _, Or.inl ⟨hp, rfl⟩⟩
  · rw [if_neg hp, if_neg hp, show ((-260 : Int) + K).toNat = K - T by omega]
    obtain ⟨k, hk⟩ : ∃ k, k = (-p).toNat := ⟨_, rfl⟩
    rw [← hk, show (p + 40).toNat = F - k by omega]
    have eF : 10 ^ F = 10 ^ k * 10 ^ (F - k) := by rw [← Nat.pow_add]; congr 1; omega
    have eK : D * 10 ^ (F - k) * 2 ^ K = D * 2 ^ T * (2 ^ (K - T) * 10 ^ (F - k)) := by
      rw [show (2 : Nat) ^ K = 2 ^ T * 2 ^ (K - T) by rw [← Nat.pow_add]; congr 1; omega]
      simp only [Nat.mul_assoc, Nat.mul_comm, Nat.mul_left_comm]
    have eX : ∀ X : Nat, X * 2 ^ (K - T) * (10 ^ k * 10 ^ (F - k)) = X * 10 ^ k * (2 ^ (K - T) * 10 ^ (F - k)) := fun X => by
      rw [Nat.mul_mul_mul_comm]
    have p10 : 0 < 10 ^ k := Nat.pow_pos (by decide)
    rw [eF, eK, eX, eX]
    refine ⟨Nat.mul_le_mul_right _ (Nat.div_mul_le_self _ _), Or.inr ⟨by omega, ?_⟩⟩
    apply Nat.mul_lt_mul_of_pos_right _ (Nat.mul_pos (p2 _) (Nat.pow_pos (by decide)))
    have h5 := Nat.div_add_mod (D * 2 ^ T) (10 ^ k)
    have h6 := Nat.mod_lt (D * 2 ^ T) p10
    rw [Nat.add_mul, Nat.one_mul, Nat.mul_comm (_ / _)]
    omega
theorem dec_TR {D1 D2 : Nat} {q1 q2 : Int} (h1 : -40 ≤ q1) (h2 : -40 ≤ q2) (k2 : q2 ≤ 40) (hD : D2 ≠ 0) (h : D1 * 10 ^ (q1 + 40).toNat ≤ D2 * 10 ^ (q2 + 40).toNat) : TR (dN D1 q1) (dS q1) ≤ TR (dN D2 q2) (dS q2) := by
  have s1 : -4000 ≤ dS q1 := by unfold dS; split <;> omega
  have s2 : -4000 ≤ dS q2 := by unfold dS; split <;> omega
  obtain ⟨K, hK⟩ : ∃ K : Nat, K = 4000 := ⟨_, rfl⟩
  apply TR_mono (K := K) (by omega) s1 s2
  have a := (dec_VV (D := D1) (K := K) (by omega) h1).1
  have b := (dec_VV (D := D2) (K := K) (by omega) h2).2
  have m := Nat.mul_le_mul_right (2 ^ K) h
  have p10 : 0 < 10 ^ 40 := by decide
  rcases b with ⟨b0, b⟩ | ⟨b0, b⟩
  · left
    exact Nat.le_of_mul_le_mul_right (Nat.le_trans a (Nat.le_trans m (Nat.le_of_eq b))) p10
  · right
    constructor
    · apply Nat.le_trans _ (bl_of_le (k := 66) ?_)
      · decide
      · unfold dN
        rw [if_neg (by omega), Nat.le_div_iff_mul_le (Nat.pow_pos (by decide))]
        have h3 : 2 ^ 66 * 10 ^ (-q2).toNat ≤ 2 ^ 66 * 10 ^ 40 := Nat.mul_le_mul_left _ (Nat.pow_le_pow_right (by decide) (by omega))
        have h4 : 1 * 2 ^ 260 ≤ D2 * 2 ^ 260 := Nat.mul_le_mul_right _ (by omega)
        exact Nat.le_trans h3 (Nat.le_trans (by decide) h4)
    · exact Nat.lt_of_mul_lt_mul_right (a := 10 ^ 40) (Nat.lt_of_le_of_lt a (Nat.lt_of_le_of_lt m b))
theorem DEC_abs (neg : Bool) (D : Nat) (p : Int) (how : Nat) : (DEC neg D p how).natAbs ≤ INF := by
  obtain ⟨o, e⟩ := DEC_N neg D p how
  rw [e]
  exact RND_abs _ _ _ _ _
theorem DEC_lt0 (neg : Bool) (D : Nat) (p : Int) : DEC neg D p 0 < INF := by
  obtain ⟨o, e⟩ := DEC_N neg D p 0
  rw [e]
  exact RND_lt0 _ _ _ _
theorem DEC_gt1 (neg : Bool) (D : Nat) (p : Int) : -(INF : Int) < DEC neg D p 1 := by
  obtain ⟨o, e⟩ := DEC_N neg D p 1
  rw [e]
  exact RND_gt1 _ _ _ _
theorem DEC_same (neg : Bool) (D : Nat) (p : Int) : DEC neg D p 0 ≤ DEC neg D p 1 := by
  obtain ⟨o, e⟩ := DEC_N neg D p 0
  obtain ⟨o', e'⟩ := DEC_N neg D p 1
  rw [e, e']
  exact RND_same _ _ _ _ _
def fst0 (neg : Bool) (D : Nat) : Bool := neg && decide (0 < D)
def ORD (n1 : Bool) (D1 : Nat) (q1 : Int) (n2 : Bool) (D2 : Nat) (q2 : Int) : Bool := if fst0 n1 D1 = fst0 n2 D2 then (if fst0 n1 D1 = true then decide (D2 * 10 ^ (q2 + 40).toNat ≤ D1 * 10 ^ (q1 + 40).toNat) else decide (D1 * 10 ^ (q1 + 40).toNat ≤ D2 * 10 ^ (q2 + 40).toNat)) else fst0 n1 D1
theorem DEC_0 (neg : Bool) (p : Int) (how : Nat) : DEC neg 0 p how = 0 := by
  obtain ⟨o, e⟩ := DEC_N neg 0 p how
  rw [e, dN_0, RND_0]
theorem DEC_sg {neg : Bool} {D : Nat} {p : Int} {how : Nat} : (fst0 neg D = false → 0 ≤ DEC neg D p how) ∧ (fst0 neg D = true → DEC neg D p how ≤ 0) := by
  obtain ⟨o, e⟩ := DEC_N neg D p how
  constructor
  · intro h
    cases neg
    · rw [e]
      exact RND_p _ _ _ _
    · have : D = 0 := by
        unfold fst0 at h
        simp at h
        exact h
      rw [this, DEC_0]
      exact Int.le_refl _
  · intro h
    cases neg
    · exact absurd h (by unfold fst0; simp)
    · rw [e]
      exact RND_m _ _ _ _
theorem dec_mono {n1 n2 : Bool} {D1 D2 : Nat} {q1 q2 : Int} (h1 : -40 ≤ q1) (k1 : q1 ≤ 40) (h2 : -40 ≤ q2) (k2 : q2 ≤ 40) (h : ORD n1 D1 q1 n2 D2 q2 = true) : DEC n1 D1 q1 0 ≤ DEC n2 D2 q2 1 := by
  unfold ORD at h
  have p10 : ∀ q : Int, 0 < 10 ^ (q + 40).toNat := fun q => Nat.pow_pos (by decide)
  by_cases hf : fst0 n1 D1 = fst0 n2 D2
  · rw [if_pos hf] at h
    by_cases ht : fst0 n1 D1 = true
    · rw [if_pos ht] at h
      have h := of_decide_eq_true h
      have t2 : fst0 n2 D2 = true := by rw [← hf]; exact ht
      have e1 : n1 = true ∧ 0 < D1 := by unfold fst0 at ht; simp at ht; exact ht
      have e2 : n2 = true ∧ 0 < D2 := by unfold fst0 at t2; simp at t2; exact t2
      obtain ⟨o, e⟩ := DEC_N n1 D1 q1 0
      obtain ⟨o', e'⟩ := DEC_N n2 D2 q2 1
      rw [e, e', e1.1, e2.1]
      exact RND_mm (dec_TR h2 h1 k1 (by omega) h)
    · rw [if_neg ht] at h
      have h := of_decide_eq_true h
      have f1 : fst0 n1 D1 = false := by cases hh : fst0 n1 D1; rfl; exact absurd hh ht
      have f2 : fst0 n2 D2 = false := by rw [← hf]; exact f1
      by_cases hz : D1 = 0
      · rw [hz, DEC_0]
        exact DEC_sg.1 f2
      · have hD2 : D2 ≠ 0 := by
          intro h9
          rw [h9, Nat.zero_mul] at h
          have := Nat.mul_pos (show 0 < D1 by omega) (p10 q1)
          omega
        have e1 : n1 = false := by
          cases n1
          · rfl
          · unfold fst0 at f1; simp at f1; omega
        have e2 : n2 = false := by
          cases n2
          · rfl
          · unfold fst0 at f2; simp at f2; omega
        obtain ⟨o, e⟩ := DEC_N n1 D1 q1 0
        obtain ⟨o', e'⟩ := DEC_N n2 D2 q2 1
        rw [e, e', e1, e2]
        exact RND_nn (dec_TR h1 h2 k2 hD2 h)
  · rw [if_neg hf] at h
    have f2 : fst0 n2 D2 = false := by cases hh : fst0 n2 D2; rfl; exact absurd (by rw [h, hh]) hf
    exact Int.le_trans (DEC_sg.2 h) (DEC_sg.1 f2)
