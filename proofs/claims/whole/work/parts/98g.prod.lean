-- products
theorem lift_loop {S : Nat} (h0 : S ≠ 0) (hS : S < 2 ^ 53) : ∀ (d k n : Nat), bl S + k + d = 53 → d < n → f_Exact_lift_11 n (lN (S * 2 ^ k)) (nI k) (nI k) = some (nI (53 - bl S)) := by
  intro d
  have hl := bl_lt S
  have hle := bl_le h0
  have hp := bl_pos h0
  induction d with
  | zero =>
    intro k n hk hn
    obtain ⟨n', rfl⟩ : ∃ n', n = n' + 1 := ⟨n - 1, by omega⟩
    have b1 : S * 2 ^ k < 2 ^ 53 := by
      have : S * 2 ^ k < 2 ^ bl S * 2 ^ k := Nat.mul_lt_mul_of_pos_right hl (p2 _)
      rw [← Nat.pow_add, show bl S + k = 53 by omega] at this
      exact this
    have b2 : 2 ^ 52 ≤ S * 2 ^ k := by
      have : 2 ^ (bl S - 1) * 2 ^ k ≤ S * 2 ^ k := Nat.mul_le_mul_right _ hle
      rw [← Nat.pow_add, show bl S - 1 + k = 52 by omega] at this
      exact this
    rw [f_Exact_lift_11]
    unfold f_Exact_lift_39
    rw [show 53 - bl S = k by omega]
    by_cases h52 : (52 : Int32) ≤ nI k
    · rw [if_pos h52]
    · rw [if_neg h52, if_pos (show (4503599627370496 : Int64) ≤ lN (S * 2 ^ k) from (pk_lLE (a := 4503599627370496) (by decide) (by omega)).mpr b2)]
  | succ d ih =>
    intro k n hk hn
    obtain ⟨n', rfl⟩ : ∃ n', n = n' + 1 := ⟨n - 1, by omega⟩
    have b1 : S * 2 ^ k < 2 ^ 52 := by
      have : S * 2 ^ k < 2 ^ bl S * 2 ^ k := Nat.mul_lt_mul_of_pos_right hl (p2 _)
      rw [← Nat.pow_add] at this
      exact Nat.lt_of_lt_of_le this (Nat.pow_le_pow_right (by decide) (by omega))
    have h := ih (k + 1) n' (by omega) (by omega)
    rw [f_Exact_lift_11, if_neg (show ¬ (52 : Int32) ≤ nI k from nI_ge (b := 52) (by omega) (by decide)), if_neg (show ¬ (4503599627370496 : Int64) ≤ lN (S * 2 ^ k) from fun h9 => by have := (pk_lLE (a := 4503599627370496) (b := S * 2 ^ k) (by decide) (by omega)).mp h9; omega), jl_, jl_, jl_, show (1 : Int32) = nI 1 from rfl, q_shl (by decide), nI_add, Nat.pow_one]
    rw [Nat.pow_succ, ← Nat.mul_assoc] at h
    exact h
def lf (n : Nat) : Nat := 53 - bl (mt n)
theorem mt_0 {n : Nat} (h : n ≠ 0) : mt n ≠ 0 := by
  unfold mt
  split <;> omega
theorem lift_ok {a : Int} (h0 : a ≠ 0) (ha : a.natAbs < 2 ^ 63) : f_Exact_lift (lZ a) = some (nI (lf a.natAbs)) := by
  unfold f_Exact_lift f_Exact_lift_0
  rw [sg_c ha, Option.bind_some]
  have hm := mt_lt a.natAbs
  have h := lift_loop (mt_0 (n := a.natAbs) (by omega)) hm (53 - bl (mt a.natAbs)) 0 5000 (by have := bl_of_lt hm; omega) (by omega)
  rw [Nat.pow_zero, Nat.mul_one] at h
  exact h
theorem nrm {n : Nat} (h0 : n ≠ 0) : 2 ^ 52 ≤ mt n * 2 ^ lf n ∧ mt n * 2 ^ lf n < 2 ^ 53 ∧ lf n ≤ 52 := by
  have hm := mt_0 h0
  have hl := bl_lt (mt n)
  have hle := bl_le hm
  have hp := bl_pos hm
  have h53 := bl_of_lt (mt_lt n)
  refine ⟨?_, ?_, by unfold lf; omega⟩
  · have : 2 ^ (bl (mt n) - 1) * 2 ^ lf n ≤ mt n * 2 ^ lf n := Nat.mul_le_mul_right _ hle
    rw [← Nat.pow_add, show bl (mt n) - 1 + lf n = 52 by unfold lf; omega] at this
    exact this
  · have : mt n * 2 ^ lf n < 2 ^ bl (mt n) * 2 ^ lf n := Nat.mul_lt_mul_of_pos_right hl (p2 _)
    rw [← Nat.pow_add, show bl (mt n) + lf n = 53 by unfold lf; omega] at this
    exact this
theorem stk_63 {n : Nat} (b : Bool) (h : n < 2 ^ 63) : stk n b < 2 ^ 63 := by
  unfold stk
  split <;> omega
theorem halves {m n : Nat} (hm : m < 2 ^ 53) (hn : n < 2 ^ 53) :
    (m / 2 ^ 26 * (n % 2 ^ 26) + m % 2 ^ 26 * (n / 2 ^ 26) < 2 ^ 55) ∧
    ((m / 2 ^ 26 * (n % 2 ^ 26) + m % 2 ^ 26 * (n / 2 ^ 26)) % 2 ^ 26 * 2 ^ 26 + m % 2 ^ 26 * (n % 2 ^ 26) < 2 ^ 53) ∧
    (m / 2 ^ 26 * (n / 2 ^ 26) + (m / 2 ^ 26 * (n % 2 ^ 26) + m % 2 ^ 26 * (n / 2 ^ 26)) / 2 ^ 26 + ((m / 2 ^ 26 * (n % 2 ^ 26) + m % 2 ^ 26 * (n / 2 ^ 26)) % 2 ^ 26 * 2 ^ 26 + m % 2 ^ 26 * (n % 2 ^ 26)) / 2 ^ 52) * 2 ^ 52 + ((m / 2 ^ 26 * (n % 2 ^ 26) + m % 2 ^ 26 * (n / 2 ^ 26)) % 2 ^ 26 * 2 ^ 26 + m % 2 ^ 26 * (n % 2 ^ 26)) % 2 ^ 52 = m * n := by
  have e : m * n = m / 2 ^ 26 * (n / 2 ^ 26) * 2 ^ 52 + (m / 2 ^ 26 * (n % 2 ^ 26) + m % 2 ^ 26 * (n / 2 ^ 26)) * 2 ^ 26 + m % 2 ^ 26 * (n % 2 ^ 26) := by
    conv => lhs; rw [← Nat.div_add_mod m (2 ^ 26), ← Nat.div_add_mod n (2 ^ 26)]
    generalize m / 2 ^ 26 = a
    generalize m % 2 ^ 26 = b
    generalize n / 2 ^ 26 = c
    generalize n % 2 ^ 26 = d
    rw [Nat.add_mul, Nat.mul_add, Nat.mul_add]
    have h1 : 2 ^ 26 * a * (2 ^ 26 * c) = a * c * 2 ^ 52 := by
      rw [Nat.mul_comm (2 ^ 26) a, Nat.mul_assoc, ← Nat.mul_assoc (2 ^ 26), Nat.mul_comm _ c, ← Nat.mul_assoc]
    have h2 : 2 ^ 26 * a * d = a * d * 2 ^ 26 := by rw [Nat.mul_assoc, Nat.mul_comm]
    have h3 : b * (2 ^ 26 * c) = b * c * 2 ^ 26 := by rw [Nat.mul_left_comm, Nat.mul_comm]
    rw [h1, h2, h3, Nat.add_mul]
    omega
  have b1 : m / 2 ^ 26 < 2 ^ 27 := by omega
  have b2 : n / 2 ^ 26 < 2 ^ 27 := by omega
  have b3 : m % 2 ^ 26 < 2 ^ 26 := Nat.mod_lt _ (by decide)
  have b4 : n % 2 ^ 26 < 2 ^ 26 := Nat.mod_lt _ (by decide)
  rw [e]
  generalize m / 2 ^ 26 = a at *
  generalize m % 2 ^ 26 = b at *
  generalize n / 2 ^ 26 = c at *
  generalize n % 2 ^ 26 = d at *
  have p1 : a * d ≤ 2 ^ 27 * 2 ^ 26 := Nat.mul_le_mul (by omega) (by omega)
  have p2' : b * c ≤ 2 ^ 26 * 2 ^ 27 := Nat.mul_le_mul (by omega) (by omega)
  have p3 : b * d ≤ (2 ^ 26 - 1) * (2 ^ 26 - 1) := Nat.mul_le_mul (by omega) (by omega)
  have p4 : a * c ≤ 2 ^ 27 * 2 ^ 27 := Nat.mul_le_mul (by omega) (by omega)
  generalize a * d = X at *
  generalize b * c = Y at *
  generalize b * d = Z at *
  generalize a * c = W at *
  refine ⟨by omega, by omega, by omega⟩
theorem prod_core {m n : Nat} (hm1 : 2 ^ 52 ≤ m) (hm : m < 2 ^ 53) (hn1 : 2 ^ 52 ≤ n) (hn : n < 2 ^ 53) (neg : Bool) (e : Int) (how : Nat) : RND neg (stk (m * n / 2 ^ 43) (m * n % 2 ^ 43 != 0)) false (e + 43) how = RND neg (m * n) false e how := by
  have hp : 2 ^ 52 * 2 ^ 52 ≤ m * n := Nat.mul_le_mul hm1 hn1
  apply RND_of
  have := rmag_sticky neg (m * n) 43 false e how (bl_of_le (k := 54) (by omega))
  rw [Bool.or_false] at this
  exact this.symm
def pneg (x y : Int) : Bool := decide (x < 0) != decide (y < 0)
def pabs (x y : Int) : Nat := mt x.natAbs * mt y.natAbs
def pexp (x y : Int) : Int := ex x.natAbs + ex y.natAbs
theorem cprod_ok {a b : Int} {how : Nat} (hh : how < 3) (ha : a.natAbs < INF) (hb : b.natAbs < INF) (a0 : a ≠ 0) (b0 : b ≠ 0) : f_Exact_product (lZ a) (lZ b) (wI how) = some (lZ (RND (pneg a b) (pabs a b) false (pexp a b) how)) := by
  have hI : INF = 9218868437227405312 := rfl
  obtain ⟨m1, m2, m3⟩ := nrm (n := a.natAbs) (by omega)
  obtain ⟨n1, n2, n3⟩ := nrm (n := b.natAbs) (by omega)
  have ea1 := ex_ge a.natAbs
  have ea2 := ex_le ha
  have eb1 := ex_ge b.natAbs
  have eb2 := ex_le hb
  have K : ∀ neg : Bool, f_Exact_product_44 (bI neg) (lZ a) (lZ b) (wI how) = some (lZ (RND neg (pabs a b) false (pexp a b) how)) := by
    intro neg
    unfold f_Exact_product_44
    rw [isFin_ok (by omega), Option.bind_some, if_neg (by rw [show decide (a.natAbs < INF) = true by simp [ha]]; decide), isFin_ok (by omega), Option.bind_some, if_neg (by rw [show decide (b.natAbs < INF) = true by simp [hb]]; decide), lift_ok a0 (by omega), Option.bind_some, lift_ok b0 (by omega), Option.bind_some, sg_c (by omega), Option.bind_some, jl_, q_shl (by omega), sg_c (by omega), Option.bind_some, jl_, q_shl (by omega), ex_c (by omega), Option.bind_some, ex_c (by omega), Option.bind_some, jl_]
    have er : RND neg (pabs a b) false (pexp a b) how = RND neg (mt a.natAbs * 2 ^ lf a.natAbs * (mt b.natAbs * 2 ^ lf b.natAbs)) false (ex a.natAbs - lf a.natAbs + ex b.natAbs - lf b.natAbs) how := by
      apply RND_of
      unfold pabs pexp
      rw [← rmag_scale neg (mt a.natAbs * mt b.natAbs) (lf a.natAbs + lf b.natAbs) (ex a.natAbs + ex b.natAbs) how, Nat.pow_add]
      have e1 : mt a.natAbs * mt b.natAbs * (2 ^ lf a.natAbs * 2 ^ lf b.natAbs) = mt a.natAbs * 2 ^ lf a.natAbs * (mt b.natAbs * 2 ^ lf b.natAbs) := by
        simp only [Nat.mul_assoc, Nat.mul_comm, Nat.mul_left_comm]
      rw [e1]
      congr 1
      omega
    rw [er, ← prod_core m1 m2 n1 n2 neg _ how]
    have e13 : ((zI (ex a.natAbs) - nI (lf a.natAbs)) + zI (ex b.natAbs)) - nI (lf b.natAbs) = zI (ex a.natAbs - lf a.natAbs + ex b.natAbs - lf b.natAbs) := by
      rw [z_nI, z_nI, z_sub, z_add, z_sub]
    rw [e13]
    have hE1 : -3000 ≤ ex a.natAbs - lf a.natAbs + ex b.natAbs - lf b.natAbs := by omega
    have hE2 : ex a.natAbs - lf a.natAbs + ex b.natAbs - lf b.natAbs ≤ 3000 := by omega
    generalize ex a.natAbs - lf a.natAbs + ex b.natAbs - lf b.natAbs = E at *
    obtain ⟨h1, h2, h3⟩ := halves m2 n2
    have hPl : mt a.natAbs * 2 ^ lf a.natAbs * (mt b.natAbs * 2 ^ lf b.natAbs) < 2 ^ 53 * 2 ^ 53 := Nat.mul_lt_mul_of_lt_of_lt m2 n2
    generalize mt a.natAbs * 2 ^ lf a.natAbs = m at *
    generalize mt b.natAbs * 2 ^ lf b.natAbs = n at *
    have hw : m / 2 ^ 26 * (n / 2 ^ 26) ≤ 2 ^ 27 * 2 ^ 27 := Nat.mul_le_mul (by omega) (by omega)
    rw [jl_, show (26 : Int32) = nI 26 from rfl, q_ushr (n := m) (by decide) (by omega), q_ushr (n := n) (by decide) (by omega), q_and (n := m) (by omega) 26 (by decide), q_and (n := n) (by omega) 26 (by decide), lN_mul, lN_mul, lN_mul, lN_mul, lN_add]
    obtain ⟨mid, hmid⟩ : ∃ v, v = m / 2 ^ 26 * (n % 2 ^ 26) + m % 2 ^ 26 * (n / 2 ^ 26) := ⟨_, rfl⟩
    rw [← hmid] at h1 h2 h3 ⊢
    rw [jl_, q_and (n := mid) (by omega) 26 (by decide), q_shl (by decide), lN_add]
    obtain ⟨tail, htail⟩ : ∃ v, v = mid % 2 ^ 26 * 2 ^ 26 + m % 2 ^ 26 * (n % 2 ^ 26) := ⟨_, rfl⟩
    rw [← htail] at h2 h3 ⊢
    rw [jl_, q_ushr (n := mid) (by decide) (by omega), lN_add, show (52 : Int32) = nI 52 from rfl, q_ushr (n := tail) (by decide) (by omega), lN_add]
    obtain ⟨head, hhead⟩ : ∃ v, v = m / 2 ^ 26 * (n / 2 ^ 26) + mid / 2 ^ 26 + tail / 2 ^ 52 := ⟨_, rfl⟩
    rw [← hhead] at h3 ⊢
    clear hmid htail hhead hw
    rw [jl_, q_and (n := tail) (by omega) 52 (by decide)]
    have hr : tail % 2 ^ 52 < 2 ^ 52 := Nat.mod_lt _ (by decide)
    generalize tail % 2 ^ 52 = rest at *
    rw [show (43 : Int32) = nI 43 from rfl, and_mask (by omega) (by decide), show (9 : Int32) = nI 9 from rfl, q_shl (n := head) (by decide), q_ushr (n := rest) (by decide) (by omega)]
    have hhd : head < 2 ^ 54 := by
      generalize m * n = P at *
      omega
    rw [q_orD (by omega) (by omega)]
    have f1 : m * n / 2 ^ 43 = head * 2 ^ 9 + rest / 2 ^ 43 := by
      generalize m * n = P at *
      omega
    have f2 : m * n % 2 ^ 43 = rest % 2 ^ 43 := by
      generalize m * n = P at *
      omega
    rw [f1, f2]
    have F : ∀ b : Bool, f_Exact_product_241 (bI b) (lN (head * 2 ^ 9 + rest / 2 ^ 43)) (wI how) (bI neg) (zI E) (nI 43) = some (lZ (RND neg (stk (head * 2 ^ 9 + rest / 2 ^ 43) b) false (E + 43) how)) := fun b => by
      unfold f_Exact_product_241
      have hlt := stk_63 (n := head * 2 ^ 9 + rest / 2 ^ 43) b (by omega)
      rw [traced_ok b (by omega), Option.bind_some, show zI E + nI 43 = zI (E + 43) by rw [z_nI, z_add]; rfl, rcls_ok hh hlt (by omega) (by omega)]
      rfl
    by_cases h0 : rest % 2 ^ 43 = 0
    · rw [h0, if_pos (by decide)]
      exact F false
    · rw [if_neg (fun h9 => h0 ((q_eq0 (by omega)).mp h9)), show (rest % 2 ^ 43 != 0) = true from bne_iff_ne.mpr h0]
      exact F true
  have K36 : ∀ b1 b2 : Bool, f_Exact_product_36 (bI b2) (bI b1) (lZ a) (lZ b) (wI how) = some (lZ (RND (b1 != b2) (pabs a b) false (pexp a b) how)) := by
    intro b1 b2
    unfold f_Exact_product_36
    by_cases hb : b1 = b2
    · rw [if_pos (bI_eq.mpr hb), show (b1 != b2) = false by simp [hb]]
      exact K false
    · rw [if_neg (fun h9 => hb (bI_eq.mp h9)), show (b1 != b2) = true from bne_iff_ne.mpr hb]
      exact K true
  have K25 : ∀ b1 : Bool, f_Exact_product_25 (bI b1) (lZ a) (lZ b) (wI how) = some (lZ (RND (b1 != decide (b < 0)) (pabs a b) false (pexp a b) how)) := by
    intro b1
    unfold f_Exact_product_25
    by_cases h9 : 0 ≤ b
    · rw [if_pos ((l_le0 (by omega) (by omega)).mpr h9), d_lt0.mpr h9]
      exact K36 b1 false
    · rw [if_neg (fun h8 => h9 ((l_le0 (by omega) (by omega)).mp h8)), d_lt1.mpr (by omega)]
      exact K36 b1 true
  unfold f_Exact_product f_Exact_product_0
  rw [if_neg (fun h9 => a0 ((l_eq0 (by omega) (by omega)).mp h9)), if_neg (fun h9 => b0 ((l_eq0 (by omega) (by omega)).mp h9))]
  unfold pneg
  by_cases h9 : 0 ≤ a
  · rw [if_pos ((l_le0 (by omega) (by omega)).mpr h9), d_lt0.mpr h9]
    exact K25 false
  · rw [if_neg (fun h8 => h9 ((l_le0 (by omega) (by omega)).mp h8)), d_lt1.mpr (by omega)]
    exact K25 true
