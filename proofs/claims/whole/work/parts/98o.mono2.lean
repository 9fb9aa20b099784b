-- sums, products, roots keep the order
def SV (r : Int) : Int := if r < 0 then -(RV r.natAbs : Int) else RV r.natAbs
def SUM (x y : Int) (how : Nat) : Int := RND (sneg x y) (sabs x y) false (-1074) how
theorem RV_0 : RV 0 = 0 := RV_sub (by decide)
theorem SV_mono {a b : Int} (h : a ≤ b) : SV a ≤ SV b := by
  unfold SV
  by_cases ha : a < 0
  · rw [if_pos ha]
    by_cases hb : b < 0
    · rw [if_pos hb]
      have := RV_le.mpr (show b.natAbs ≤ a.natAbs by omega)
      omega
    · rw [if_neg hb]
      omega
  · rw [if_neg ha, if_neg (by omega)]
    have := RV_le.mpr (show a.natAbs ≤ b.natAbs by omega)
    omega
theorem SV_lt {a b : Int} (h : SV a ≤ SV b) : a ≤ b := by
  apply Int.not_lt.mp
  intro h9
  unfold SV at h
  by_cases ha : a < 0
  · rw [if_pos ha, if_pos (by omega)] at h
    have := RV_lt (show a.natAbs < b.natAbs by omega)
    omega
  · rw [if_neg ha] at h
    by_cases hb : b < 0
    · rw [if_pos hb] at h
      have := RV_lt (show 0 < b.natAbs by omega)
      rw [RV_0] at this
      omega
    · rw [if_neg hb] at h
      have := RV_lt (show b.natAbs < a.natAbs by omega)
      omega
theorem SV_neg (r : Int) : SV (-r) = - SV r := by
  unfold SV
  by_cases h0 : r = 0
  · subst h0
    rw [show ((0 : Int)).natAbs = 0 from rfl, show ((-0 : Int)).natAbs = 0 from rfl, RV_0]
    decide
  · by_cases h : r < 0
    · rw [if_pos h, if_neg (by omega), Int.natAbs_neg, Int.neg_neg]
    · rw [if_neg h, if_pos (by omega), Int.natAbs_neg]
theorem sabs_S (x y : Int) : sabs x y = (SV x + SV y).natAbs ∧ (sneg x y = true → SV x + SV y ≤ 0) ∧ (sneg x y = false → 0 ≤ SV x + SV y) := by
  unfold sabs sneg SV
  by_cases hx : x < 0 <;> by_cases hy : y < 0 <;> by_cases h : RV y.natAbs ≤ RV x.natAbs <;> simp only [hx, hy, h, decide_true, decide_false, if_true, if_false, reduceCtorEq] <;> refine ⟨by omega, fun hh => ?_, fun hh => ?_⟩ <;> first | omega | exact hh.elim
theorem sum_mono {x1 x2 y1 y2 : Int} (hx : x1 ≤ x2) (hy : y1 ≤ y2) : SUM x1 y1 0 ≤ SUM x2 y2 1 := by
  obtain ⟨a1, b1, c1⟩ := sabs_S x1 y1
  obtain ⟨a2, b2, c2⟩ := sabs_S x2 y2
  have m1 := SV_mono hx
  have m2 := SV_mono hy
  unfold SUM
  have M : ∀ {N1 N2 : Nat}, N1 ≤ N2 → TR N1 (-1074) ≤ TR N2 (-1074) := fun h => TR_mono (K := 4000) (by decide) (by decide) (by decide) (Or.inl (Nat.mul_le_mul_right _ h))
  cases h1 : sneg x1 y1
  · cases h2 : sneg x2 y2
    · have := c1 h1
      have := c2 h2
      exact RND_nn (M (by omega))
    · have := c1 h1
      have := b2 h2
      rw [show sabs x1 y1 = 0 by omega, RND_0, show sabs x2 y2 = 0 by omega, RND_0]
      exact Int.le_refl _
  · cases h2 : sneg x2 y2
    · exact Int.le_trans (RND_m _ _ _ _) (RND_p _ _ _ _)
    · have := b1 h1
      have := b2 h2
      exact RND_mm (M (by omega))
theorem PROD_abs (x y : Int) (how : Nat) : (PROD x y how).natAbs ≤ INF := by
  have hI : INF = 9218868437227405312 := rfl
  unfold PROD
  split
  · omega
  · split
    · unfold sgn
      split <;> omega
    · exact RND_abs _ _ _ _ _
theorem PROD_same (x y : Int) : PROD x y 0 ≤ PROD x y 1 := by
  unfold PROD
  split
  · exact Int.le_refl _
  · split
    · exact Int.le_refl _
    · exact RND_same _ _ _ _ _
theorem PROD_f0 {x y : Int} (hx : x.natAbs < INF) (hy : y.natAbs < INF) : PROD x y 0 < INF := by
  have hI : INF = 9218868437227405312 := rfl
  unfold PROD
  split
  · omega
  · rw [if_neg (by omega)]
    exact RND_lt0 _ _ _ _
theorem PROD_f1 {x y : Int} (hx : x.natAbs < INF) (hy : y.natAbs < INF) : -(INF : Int) < PROD x y 1 := by
  have hI : INF = 9218868437227405312 := rfl
  unfold PROD
  split
  · omega
  · rw [if_neg (by omega)]
    exact RND_gt1 _ _ _ _
theorem PROD_n {x y : Int} {how : Nat} (h : (x ≤ 0 ∧ 0 ≤ y) ∨ (0 ≤ x ∧ y ≤ 0)) : PROD x y how ≤ 0 := by
  unfold PROD
  split
  · exact Int.le_refl _
  · next h0 =>
    have : pneg x y = true := by
      unfold pneg
      rcases h with ⟨h1, h2⟩ | ⟨h1, h2⟩
      · rw [d_lt1.mpr (show x < 0 by omega), d_lt0.mpr h2]; rfl
      · rw [d_lt1.mpr (show y < 0 by omega), d_lt0.mpr h1]; rfl
    rw [this]
    split
    · unfold sgn
      rw [if_pos rfl]
      omega
    · exact RND_m _ _ _ _
theorem PROD_p {x y : Int} {how : Nat} (h : (0 ≤ x ∧ 0 ≤ y) ∨ (x ≤ 0 ∧ y ≤ 0)) : 0 ≤ PROD x y how := by
  unfold PROD
  split
  · exact Int.le_refl _
  · next h0 =>
    have : pneg x y = false := by
      unfold pneg
      rcases h with ⟨h1, h2⟩ | ⟨h1, h2⟩
      · rw [d_lt0.mpr h1, d_lt0.mpr h2]; rfl
      · rw [d_lt1.mpr (show x < 0 by omega), d_lt1.mpr (show y < 0 by omega)]; rfl
    rw [this]
    split
    · unfold sgn
      rw [if_neg (by decide)]
      omega
    · exact RND_p _ _ _ _
theorem sq_VV {n K : Nat} (hK : 4000 ≤ K) : VV K (mt n * mt n) (ex n + ex n) = RV n * RV n * 2 ^ (K - 2148) := by
  have := ex_ge n
  unfold VV RV
  rw [show (ex n + ex n + K).toNat = (ex n + 1074).toNat + (ex n + 1074).toNat + (K - 2148) by omega, Nat.pow_add, Nat.pow_add, Nat.mul_mul_mul_comm (mt n) (2 ^ _) (mt n), ← Nat.mul_assoc]
theorem square_mono {m n : Nat} (hmn : m ≤ n) (hn : n ≤ INF) : PROD (m : Int) m 0 ≤ PROD (n : Int) n 1 := by
  have hI : INF = 9218868437227405312 := rfl
  by_cases h0 : m = 0
  · subst h0
    have : PROD ((0 : Nat) : Int) ((0 : Nat) : Int) 0 = 0 := by unfold PROD; rw [if_pos (by omega)]
    rw [this]
    exact PROD_p (by omega)
  by_cases hni : n = INF
  · have : PROD (n : Int) n 1 = INF := by
      unfold PROD
      rw [if_neg (by omega), if_pos (by omega)]
      unfold sgn pneg
      rw [bne_self_eq_false, if_neg (by decide)]
    rw [this]
    have := PROD_abs (m : Int) m 0
    omega
  · have e : ∀ k : Nat, k ≠ 0 → k < INF → ∀ how, PROD (k : Int) k how = RND false (mt k * mt k) false (ex k + ex k) how := fun k hk hk2 how => by
      unfold PROD
      rw [if_neg (by omega), if_neg (by omega)]
      unfold pneg pabs pexp
      rw [bne_self_eq_false, Int.natAbs_natCast]
    rw [e m h0 (by omega), e n (by omega) (by omega)]
    apply RND_nn
    have := ex_ge m
    have := ex_ge n
    apply TR_mono (K := 4000) (by decide) (by omega) (by omega)
    left
    rw [sq_VV (by decide), sq_VV (by decide)]
    exact Nat.mul_le_mul_right _ (sq_mono (RV_le.mpr hmn))
theorem ROOT_abs {x : Int} {how : Nat} (h : x.natAbs ≤ INF) : (ROOT x how).natAbs ≤ INF := by
  unfold ROOT
  split
  · exact h
  · exact RND_abs _ _ _ _ _
theorem ROOT_p {x : Int} {how : Nat} (h : 0 ≤ x) : 0 ≤ ROOT x how := by
  unfold ROOT
  split
  · exact h
  · exact RND_p _ _ _ _
theorem ROOT_lt {x : Int} (h0 : 0 ≤ x) (h : x < INF) : ROOT x 0 < INF := by
  unfold ROOT
  split
  · exact h
  · exact RND_lt0 _ _ _ _
theorem root_VV {n K : Nat} {X : Nat} (hK : 4000 ≤ K) : VV K X ((ex n - tt n) / 2) * VV K X ((ex n - tt n) / 2) * 2 ^ tt n = X * X * 2 ^ (ex n + (K + K)).toNat := by
  have h1 := ex_ge n
  have h2 := tt_b n
  have h3 : (tt n : Int) % 2 = ex n % 2 := by
    unfold tt
    split <;> omega
  unfold VV
  rw [Nat.mul_mul_mul_comm, Nat.mul_assoc, ← Nat.pow_add, ← Nat.pow_add]
  congr 2
  omega
theorem root_mono {m n : Nat} (hmn : m ≤ n) (hn : n ≤ INF) : ROOT (m : Int) 0 ≤ ROOT (n : Int) 1 := by
  have hI : INF = 9218868437227405312 := rfl
  by_cases h0 : m = 0
  · subst h0
    have : ROOT ((0 : Nat) : Int) 0 = 0 := by unfold ROOT; rw [if_pos (by omega)]; rfl
    rw [this]
    exact ROOT_p (by omega)
  by_cases hni : n = INF
  · have : ROOT (n : Int) 1 = INF := by
      unfold ROOT
      rw [if_pos (Or.inr (by omega)), hni]
    rw [this]
    have := ROOT_abs (x := (m : Int)) (how := 0) (by omega)
    omega
  · have e : ∀ k : Nat, k ≠ 0 → k < INF → ∀ how, ROOT (k : Int) how = RND false (sq 85 (mt k * 2 ^ tt k)) (sq 85 (mt k * 2 ^ tt k) * sq 85 (mt k * 2 ^ tt k) != mt k * 2 ^ tt k) ((ex k - tt k) / 2) how := fun k hk hk2 how => by
      unfold ROOT
      rw [if_neg (by omega), Int.natAbs_natCast]
    rw [e m h0 (by omega), e n (by omega) (by omega)]
    apply RND_nn
    have a1 := ex_ge m
    have a2 := ex_ge n
    have t1 := tt_b m
    have t2 := tt_b n
    have hlt : ∀ k, mt k * 2 ^ tt k < 4 ^ 85 := fun k => by
      have h1 : (2 : Nat) ^ tt k ≤ 2 ^ 113 := Nat.pow_le_pow_right (by decide) (by have := tt_b k; omega)
      have h2 : mt k * 2 ^ tt k ≤ 2 ^ 53 * 2 ^ 113 := Nat.mul_le_mul (Nat.le_of_lt (mt_lt _)) h1
      exact Nat.lt_of_le_of_lt h2 (by decide)
    obtain ⟨p1, q1⟩ := sq_ok 85 _ (hlt m)
    obtain ⟨p3, q3⟩ := sq_ok 85 _ (hlt n)
    apply TR_mono (K := 4000) (by decide) (by omega) (by omega)
    right
    constructor
    · have hm := mt_0 (n := n) (by omega)
      apply Nat.le_trans _ (bl_of_le (k := 52) ?_)
      · decide
      · apply Nat.le_of_not_lt
        intro h9
        have h8 := sq_mono (show sq 85 (mt n * 2 ^ tt n) + 1 ≤ 2 ^ 52 from h9)
        have h7 : 1 * 2 ^ 112 ≤ mt n * 2 ^ tt n := Nat.mul_le_mul (by omega) (Nat.pow_le_pow_right (by decide) (by omega))
        have h6 : (2 : Nat) ^ 52 * 2 ^ 52 ≤ 1 * 2 ^ 112 := by decide
        have h5 := Nat.lt_of_lt_of_le q3 (Nat.le_trans h8 (Nat.le_trans h6 h7))
        exact Nat.lt_irrefl _ h5
    · apply sq_lt
      obtain ⟨Q, hQ⟩ : ∃ Q : Nat, Q = 6926 := ⟨_, rfl⟩
      have key : ∀ k : Nat, mt k * 2 ^ tt k * 2 ^ (ex k + (((4000 : Nat) : Int) + ((4000 : Nat) : Int))).toNat = RV k * 2 ^ Q * 2 ^ tt k := fun k => by
        have := ex_ge k
        unfold RV
        rw [show (ex k + (((4000 : Nat) : Int) + ((4000 : Nat) : Int))).toNat = (ex k + 1074).toNat + Q by omega, Nat.pow_add 2 (ex k + 1074).toNat, Nat.mul_right_comm (mt k), ← Nat.mul_assoc (mt k)]
      have l1 : VV 4000 (sq 85 (mt m * 2 ^ tt m)) ((ex m - tt m) / 2) * VV 4000 (sq 85 (mt m * 2 ^ tt m)) ((ex m - tt m) / 2) ≤ RV m * 2 ^ Q := by
        apply Nat.le_of_mul_le_mul_right _ (p2 (tt m))
        rw [root_VV (by decide), ← key m]
        exact Nat.mul_le_mul_right _ p1
      have l2 : RV n * 2 ^ Q < VV 4000 (sq 85 (mt n * 2 ^ tt n) + 1) ((ex n - tt n) / 2) * VV 4000 (sq 85 (mt n * 2 ^ tt n) + 1) ((ex n - tt n) / 2) := by
        apply Nat.lt_of_mul_lt_mul_right (a := 2 ^ tt n)
        rw [root_VV (by decide), ← key n]
        exact Nat.mul_lt_mul_of_pos_right q3 (p2 _)
      have l3 : RV m * 2 ^ Q ≤ RV n * 2 ^ Q := Nat.mul_le_mul_right _ (RV_le.mpr hmn)
      exact Nat.lt_of_le_of_lt l1 (Nat.lt_of_le_of_lt l3 l2)
