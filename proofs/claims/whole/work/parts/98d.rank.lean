-- a double by its rank: significand, exponent, value
def mt (n : Nat) : Nat := if n < 2 ^ 52 then n else n % 2 ^ 52 + 2 ^ 52
def ex (n : Nat) : Int := if n < 2 ^ 52 then -1074 else ((n / 2 ^ 52 : Nat) : Int) - 1075
theorem l_ti {a : Int} (h1 : -9223372036854775808 ≤ a) (h2 : a < 9223372036854775808) : (lZ a).toInt = a := Int64.toInt_ofInt_of_le h1 h2
theorem l_lt {a b : Int} (ha : -9223372036854775808 ≤ a) (ha' : a < 9223372036854775808) (hb : -9223372036854775808 ≤ b) (hb' : b < 9223372036854775808) : lZ a < lZ b ↔ a < b := by
  rw [Int64.lt_iff_toInt_lt, l_ti ha ha', l_ti hb hb']
theorem l_le {a b : Int} (ha : -9223372036854775808 ≤ a) (ha' : a < 9223372036854775808) (hb : -9223372036854775808 ≤ b) (hb' : b < 9223372036854775808) : lZ a ≤ lZ b ↔ a ≤ b := by
  rw [Int64.le_iff_toInt_le, l_ti ha ha', l_ti hb hb']
theorem l_eq {a b : Int} (ha : -9223372036854775808 ≤ a) (ha' : a < 9223372036854775808) (hb : -9223372036854775808 ≤ b) (hb' : b < 9223372036854775808) : lZ a = lZ b ↔ a = b := by
  constructor
  · intro h
    have h1 := congrArg Int64.toInt h
    rwa [l_ti ha ha', l_ti hb hb'] at h1
  · rintro rfl; rfl
theorem l_of (x : Int64) : x = lZ x.toInt := Int64.toInt_inj.1 (by rw [l_ti (Int64.le_toInt x) (Int64.toInt_lt x)])
theorem l_le0 {a : Int} (ha : -9223372036854775808 ≤ a) (ha' : a < 9223372036854775808) : (0 : Int64) ≤ lZ a ↔ 0 ≤ a := l_le (a := 0) (by decide) (by decide) ha ha'
theorem l_lt0 {a : Int} (ha : -9223372036854775808 ≤ a) (ha' : a < 9223372036854775808) : lZ a < (0 : Int64) ↔ a < 0 := l_lt (b := 0) ha ha' (by decide) (by decide)
theorem l_eq0 {a : Int} (ha : -9223372036854775808 ≤ a) (ha' : a < 9223372036854775808) : lZ a = (0 : Int64) ↔ a = 0 := l_eq (b := 0) ha ha' (by decide) (by decide)
theorem abs_l {r : Int} (h : r.natAbs < 2 ^ 63) : j_absL (lZ r) = lN r.natAbs := by
  unfold j_absL
  by_cases hr : 0 < r
  · rw [if_pos (show (0 : Int64) < lZ r from (l_lt (a := 0) (by decide) (by decide) (by omega) (by omega)).mpr hr), lZ_N]
    congr 1
    omega
  · rw [if_neg (show ¬ (0 : Int64) < lZ r from fun h9 => hr ((l_lt (a := 0) (by decide) (by decide) (by omega) (by omega)).mp h9)), lZ_neg, lZ_N]
    congr 1
    omega
theorem abs_r {r : Int} (h : r.natAbs < 2 ^ 63) : f_Ref_absolute (lZ r) = some (lN r.natAbs) := by
  unfold f_Ref_absolute f_Ref_absolute_0 f_Ref_absolute_12
  by_cases hr : 0 ≤ r
  · rw [if_pos ((l_le0 (by omega) (by omega)).mpr hr), lZ_N]
    congr 2
    omega
  · rw [if_neg (fun h9 => hr ((l_le0 (by omega) (by omega)).mp h9)), lZ_neg, lZ_N]
    congr 2
    omega
theorem mt_r {n : Nat} (h : n < 2 ^ 63) : f_Ref_mantissa (lN n) = some (lN (mt n)) := by
  unfold f_Ref_mantissa f_Ref_mantissa_0 f_Ref_mantissa_29 mt
  rw [jl_, jl_, show (52 : Int32) = nI 52 from rfl, q_shr (by decide) h, q_and (by omega) 52 (by decide)]
  by_cases h1 : n < 2 ^ 52
  · rw [if_pos h1, Nat.div_eq_of_lt h1, if_pos (by decide), Nat.mod_eq_of_lt h1]
  · have : n / 2 ^ 52 ≠ 0 := by omega
    rw [if_neg h1, if_neg (fun h9 => this ((q_eq0 (by omega)).mp h9))]
    have e := q_orD (a := 1) (k := 52) (b := n % 2 ^ 52) (Nat.mod_lt _ (by decide)) (by omega)
    have e2 : lN (n % 2 ^ 52) ||| (4503599627370496 : Int64) = lN (1 * 2 ^ 52) ||| lN (n % 2 ^ 52) := by
      show lN (n % 2 ^ 52) ||| lN 4503599627370496 = lN (1 * 2 ^ 52) ||| lN (n % 2 ^ 52)
      rw [q_or (by omega) (by decide), q_or (by decide) (by omega), Nat.or_comm]
    rw [e2, e, Nat.one_mul, Nat.add_comm]
theorem ex_r {n : Nat} (h : n < 2 ^ 63) : f_Ref_exponent (lN n) = some (zI (ex n)) := by
  unfold f_Ref_exponent f_Ref_exponent_0 f_Ref_exponent_21 ex
  rw [jl_, show (52 : Int32) = nI 52 from rfl, q_shr (by decide) h, lN_i]
  by_cases h1 : n < 2 ^ 52
  · rw [if_pos h1, Nat.div_eq_of_lt h1, if_pos (by decide)]
    rfl
  · have : 0 < n / 2 ^ 52 := by omega
    rw [if_neg h1, if_neg (nI_ne0 this (by omega)), z_nI, show (1075 : Int32) = zI 1075 by decide, z_sub]
theorem sg_c {r : Int} (h : r.natAbs < 2 ^ 63) : f_Rank_significand (lZ r) = some (lN (mt r.natAbs)) := by
  unfold f_Rank_significand f_Rank_significand_0 f_Rank_significand_26 mt
  rw [jl_, abs_l h]
  generalize r.natAbs = n at *
  by_cases h1 : n < 2 ^ 52
  · rw [if_pos h1, if_neg (show ¬ (4503599627370496 : Int64) ≤ lN n from fun h9 => by have := (pk_lLE (a := 4503599627370496) (by decide) h).mp h9; omega)]
  · rw [if_neg h1, if_pos (show (4503599627370496 : Int64) ≤ lN n from (pk_lLE (a := 4503599627370496) (by decide) h).mpr (by omega)), q_and (by omega) 52 (by decide)]
    have e := q_orD (a := 1) (k := 52) (b := n % 2 ^ 52) (Nat.mod_lt _ (by decide)) (by omega)
    have e2 : lN (n % 2 ^ 52) ||| (4503599627370496 : Int64) = lN (1 * 2 ^ 52) ||| lN (n % 2 ^ 52) := by
      show lN (n % 2 ^ 52) ||| lN 4503599627370496 = lN (1 * 2 ^ 52) ||| lN (n % 2 ^ 52)
      rw [q_or (by omega) (by decide), q_or (by decide) (by omega), Nat.or_comm]
    rw [e2, e, Nat.one_mul, Nat.add_comm]
theorem ex_c {r : Int} (h : r.natAbs < 2 ^ 63) : f_Rank_exponent (lZ r) = some (zI (ex r.natAbs)) := by
  unfold f_Rank_exponent f_Rank_exponent_0 ex
  rw [jl_, abs_l h]
  generalize r.natAbs = n at *
  rw [jl_, jl_, show (52 : Int32) = nI 52 from rfl, q_ushr (by decide) (by omega), lN_i]
  unfold j_maxI
  by_cases h1 : n < 2 ^ 52
  · rw [if_pos h1, Nat.div_eq_of_lt h1, if_pos (by decide)]
    rfl
  · have : 0 < n / 2 ^ 52 := by omega
    rw [if_neg h1, if_neg (show ¬ nI (n / 2 ^ 52) < (1 : Int32) from nI_nlt (b := 1) this (by omega)), z_nI, show (1 : Int32) = zI 1 by decide, z_sub, show (-1074 : Int32) = zI (-1074) by decide, z_add]
    congr 2
    omega
theorem mt_lt (n : Nat) : mt n < 2 ^ 53 := by
  unfold mt
  split <;> omega
theorem ex_ge (n : Nat) : -1074 ≤ ex n := by
  unfold ex
  split <;> omega
theorem ex_le {n : Nat} (h : n < INF) : ex n ≤ 971 := by
  unfold ex INF at *
  split <;> omega
/-- the value, in units of 2 to -1074 -/
def RV (n : Nat) : Nat := mt n * 2 ^ (ex n + 1074).toNat
theorem RV_sub {n : Nat} (h : n < 2 ^ 52) : RV n = n := by
  unfold RV mt ex
  rw [if_pos h, if_pos h]
  simp
theorem RV_nor {f q : Nat} (hf : f < 2 ^ 52) : RV ((q + 1) * 2 ^ 52 + f) = (2 ^ 52 + f) * 2 ^ q := by
  unfold RV mt ex
  have h1 : ¬ (q + 1) * 2 ^ 52 + f < 2 ^ 52 := by omega
  have h2 : ((q + 1) * 2 ^ 52 + f) / 2 ^ 52 = q + 1 := by omega
  have h3 : ((q + 1) * 2 ^ 52 + f) % 2 ^ 52 = f := by omega
  rw [if_neg h1, if_neg h1, h2, h3, Nat.add_comm f, show (((q + 1 : Nat) : Int) - 1075 + 1074).toNat = q by omega]
theorem RV_s (n : Nat) : RV n < RV (n + 1) := by
  by_cases h : n + 1 < 2 ^ 52
  · rw [RV_sub h, RV_sub (by omega)]; omega
  · by_cases h0 : n + 1 = 2 ^ 52
    · rw [RV_sub (n := n) (by omega)]
      have := RV_nor (f := 0) (q := 0) (by decide)
      rw [show (0 + 1) * 2 ^ 52 + 0 = n + 1 by omega] at this
      rw [this]
      omega
    · obtain ⟨q, f, hf, rfl⟩ : ∃ q f, f < 2 ^ 52 ∧ n = (q + 1) * 2 ^ 52 + f := ⟨n / 2 ^ 52 - 1, n % 2 ^ 52, Nat.mod_lt _ (by decide), by omega⟩
      rw [RV_nor hf]
      have hp := p2 q
      by_cases h2 : f + 1 < 2 ^ 52
      · rw [Nat.add_assoc, RV_nor h2]
        exact Nat.mul_lt_mul_of_pos_right (by omega) hp
      · rw [show (q + 1) * 2 ^ 52 + f + 1 = (q + 1 + 1) * 2 ^ 52 + 0 by omega, RV_nor (by decide), Nat.pow_succ, show f = 2 ^ 52 - 1 by omega]
        omega
theorem RV_lt {a b : Nat} (h : a < b) : RV a < RV b := by
  induction b with
  | zero => omega
  | succ b ih =>
    by_cases e : a = b
    · subst e; exact RV_s a
    · exact Nat.lt_trans (ih (by omega)) (RV_s b)
theorem RV_le {a b : Nat} : RV a ≤ RV b ↔ a ≤ b := by
  constructor
  · intro h
    apply Nat.le_of_not_lt
    intro h9
    have := RV_lt h9
    omega
  · intro h
    rcases Nat.lt_or_eq_of_le h with h | h
    · exact Nat.le_of_lt (RV_lt h)
    · rw [h]; exact Nat.le_refl _
theorem ex_mono {a b : Nat} (h : a ≤ b) : ex a ≤ ex b := by
  unfold ex
  split <;> split <;> omega
theorem mt_nor {n : Nat} (h : -1074 < ex n) : 2 ^ 52 ≤ mt n := by
  unfold ex at h
  unfold mt
  split
  · next h9 => rw [if_pos h9] at h; omega
  · omega
theorem RV_bl {n : Nat} (h : n < INF) : bl (RV n) ≤ 2098 := by
  apply bl_of_lt
  unfold RV
  have h1 := mt_lt n
  have h2 := ex_le h
  have h3 := ex_ge n
  have : mt n * 2 ^ (ex n + 1074).toNat < 2 ^ 53 * 2 ^ (ex n + 1074).toNat := Nat.mul_lt_mul_of_pos_right h1 (p2 _)
  rw [← Nat.pow_add] at this
  exact Nat.lt_of_lt_of_le this (Nat.pow_le_pow_right (by decide) (by omega))
