-- numbers: Int64 and Int32 out of natural numbers, shifts, masks
theorem q_tn {n : Nat} (h : n < 2 ^ 64) : (lN n).toBitVec.toNat = n := by
  show (BitVec.ofNat 64 n).toNat = n
  rw [BitVec.toNat_ofNat]
  exact Nat.mod_eq_of_lt h
theorem q_tnm (n : Nat) : (lN n).toBitVec.toNat = n % 2 ^ 64 := by
  show (BitVec.ofNat 64 n).toNat = _
  rw [BitVec.toNat_ofNat]
theorem q_ext {x : Int64} {n : Nat} (h : x.toBitVec.toNat = n % 2 ^ 64) : x = lN n :=
  Int64.toBitVec_inj.1 (BitVec.eq_of_toNat_eq (by rw [h, q_tnm]))
theorem q_sm : ∀ j : Nat, j < 64 → ((((nI j).toInt64 &&& 63).toBitVec.smod 64).toNat) = j := by decide +kernel
theorem q_smu : ∀ j : Nat, j < 64 → (((nI j).toInt64.toUInt64 &&& Int64.toUInt64 63).toBitVec % 64).toNat = j := by decide +kernel
theorem q_shl {n j : Nat} (hj : j < 64) : j_lshl (lN n) (nI j) = lN (n * 2 ^ j) := by
  apply q_ext
  show ((lN n).toBitVec <<< (((nI j).toInt64 &&& 63).toBitVec.smod 64)).toNat = _
  rw [BitVec.shiftLeft_eq', BitVec.toNat_shiftLeft, q_sm j hj, q_tnm, Nat.shiftLeft_eq]
  exact Nat.mod_mul_mod _ _ _
theorem q_ushr {n j : Nat} (hj : j < 64) (hn : n < 2 ^ 64) : j_lushr (lN n) (nI j) = lN (n / 2 ^ j) := by
  apply q_ext
  show ((lN n).toBitVec >>> (((nI j).toInt64.toUInt64 &&& Int64.toUInt64 63).toBitVec % 64)).toNat = _
  rw [BitVec.ushiftRight_eq', BitVec.toNat_ushiftRight, q_smu j hj, q_tn hn, Nat.shiftRight_eq_div_pow]
  exact (Nat.mod_eq_of_lt (Nat.lt_of_le_of_lt (Nat.div_le_self _ _) hn)).symm
theorem q_ti {n : Nat} (h : n < 2 ^ 63) : (lN n).toInt = (n : Int) := pk_lT h
theorem q_shr {n j : Nat} (hj : j < 64) (hn : n < 2 ^ 63) : j_lshr (lN n) (nI j) = lN (n / 2 ^ j) := by
  apply Int64.toInt_inj.1
  show ((lN n).toBitVec.sshiftRight' (((nI j).toInt64 &&& 63).toBitVec.smod 64)).toInt = _
  rw [BitVec.sshiftRight_eq', BitVec.toInt_sshiftRight, q_sm j hj]
  rw [q_ti (Nat.lt_of_le_of_lt (Nat.div_le_self _ _) hn)]
  show (lN n).toInt >>> j = _
  rw [q_ti hn, Int.shiftRight_eq_div_pow]
  simp
theorem q_and {n : Nat} (hn : n < 2 ^ 64) {m : Int64} (k : Nat) (hm : m.toBitVec.toNat = 2 ^ k - 1) : lN n &&& m = lN (n % 2 ^ k) := by
  apply q_ext
  show ((lN n).toBitVec &&& m.toBitVec).toNat = _
  rw [BitVec.toNat_and, hm, q_tn hn, Nat.and_two_pow_sub_one_eq_mod]
  exact (Nat.mod_eq_of_lt (Nat.lt_of_le_of_lt (Nat.mod_le _ _) hn)).symm
theorem q_or {a b : Nat} (ha : a < 2 ^ 64) (hb : b < 2 ^ 64) : lN a ||| lN b = lN (a ||| b) := by
  apply q_ext
  show ((lN a).toBitVec ||| (lN b).toBitVec).toNat = _
  rw [BitVec.toNat_or, q_tn ha, q_tn hb]
  exact (Nat.mod_eq_of_lt (Nat.or_lt_two_pow ha hb)).symm
theorem q_orD {a b k : Nat} (hb : b < 2 ^ k) (h : a * 2 ^ k + b < 2 ^ 64) : lN (a * 2 ^ k) ||| lN b = lN (a * 2 ^ k + b) := by
  rw [q_or (by omega) (by omega), Nat.mul_comm a, Nat.two_pow_add_eq_or_of_lt hb]
theorem n_or1 (n : Nat) : n ||| 1 = n / 2 * 2 + 1 := by
  have h := Nat.two_pow_add_eq_or_of_lt (i := 1) (b := 1) (by decide) (n / 2)
  have h2 : n = 2 ^ 1 * (n / 2) + n % 2 := by omega
  rcases Nat.mod_two_eq_zero_or_one n with h0 | h0
  · have h3 : 2 ^ 1 * (n / 2) = n := by omega
    rw [h3] at h
    omega
  · have h5 := Nat.two_pow_add_eq_or_of_lt (i := 1) (b := 1) (by decide) (n / 2)
    have h6 : n = 2 ^ 1 * (n / 2) ||| 1 := by omega
    rw [h6, Nat.or_assoc, Nat.or_self, ← h6]
    omega
theorem q_or1 {n : Nat} (hn : n < 2 ^ 64) : lN n ||| 1 = lN (n / 2 * 2 + 1) := by
  rw [← n_or1]
  exact q_or hn (by decide)
theorem q_eq0 {n : Nat} (h : n < 2 ^ 63) : lN n = 0 ↔ n = 0 := pk_lEQ (b := 0) h (by decide)
theorem q_neg {n : Nat} : -(lN n) = Int64.ofInt (-(n : Int)) := by
  show -(Int64.ofInt (n : Int)) = _
  rw [Int64.ofInt_neg]
-- ints that may be negative
def zI (i : Int) : Int32 := Int32.ofInt i
theorem z_nI (n : Nat) : nI n = zI (n : Int) := rfl
theorem z_add (a b : Int) : zI a + zI b = zI (a + b) := (Int32.ofInt_add a b).symm
theorem z_sub (a b : Int) : zI a - zI b = zI (a - b) := (Int32.ofInt_sub a b).symm
theorem z_neg (a : Int) : - zI a = zI (-a) := (Int32.ofInt_neg a).symm
theorem z_ti {a : Int} (h1 : -2147483648 ≤ a) (h2 : a < 2147483648) : (zI a).toInt = a := Int32.toInt_ofInt_of_le h1 h2
theorem z_lt {a b : Int} (ha : -2147483648 ≤ a) (ha' : a < 2147483648) (hb : -2147483648 ≤ b) (hb' : b < 2147483648) : zI a < zI b ↔ a < b := by
  rw [Int32.lt_iff_toInt_lt, z_ti ha ha', z_ti hb hb']
theorem z_le {a b : Int} (ha : -2147483648 ≤ a) (ha' : a < 2147483648) (hb : -2147483648 ≤ b) (hb' : b < 2147483648) : zI a ≤ zI b ↔ a ≤ b := by
  rw [Int32.le_iff_toInt_le, z_ti ha ha', z_ti hb hb']
theorem z_eq {a b : Int} (ha : -2147483648 ≤ a) (ha' : a < 2147483648) (hb : -2147483648 ≤ b) (hb' : b < 2147483648) : zI a = zI b ↔ a = b := by
  constructor
  · intro h
    have h1 := congrArg Int32.toInt h
    rwa [z_ti ha ha', z_ti hb hb'] at h1
  · rintro rfl; rfl
theorem z_of (x : Int32) : x = zI x.toInt := Int32.toInt_inj.1 (by rw [z_ti (Int32.le_toInt x) (Int32.toInt_lt x)])
theorem z_cl {a : Int} (h1 : 0 ≤ a) (h2 : a < 2147483648) : (zI a).toNatClampNeg = a.toNat := by
  obtain ⟨n, rfl⟩ := Int.eq_ofNat_of_zero_le h1
  show (nI n).toNatClampNeg = _
  rw [nI_clamp (by omega)]
  rfl
