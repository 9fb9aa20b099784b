-- the order of decimals, both sides
def P40 (D : Nat) (q : Int) : Nat := D * 10 ^ (q + 40).toNat
theorem P40_sh {D : Nat} {q r : Int} (h : r ≤ q) (hr : -40 ≤ r) : P40 D q = D * 10 ^ (q - r).toNat * 10 ^ (r + 40).toNat := by
  unfold P40
  rw [Nat.mul_assoc, ← Nat.pow_add, show (q - r).toNat + (r + 40).toNat = (q + 40).toNat by omega]
theorem p10 (k : Nat) : 0 < 10 ^ k := Nat.pow_pos (by decide)
theorem P40_lt {D1 D2 : Nat} {q1 q2 r : Int} (h1 : r ≤ q1) (h2 : r ≤ q2) (hr : -40 ≤ r) : P40 D1 q1 < P40 D2 q2 ↔ D1 * 10 ^ (q1 - r).toNat < D2 * 10 ^ (q2 - r).toNat := by
  rw [P40_sh h1 hr, P40_sh h2 hr]
  exact Nat.mul_lt_mul_right (p10 _)
theorem big_18 {A g : Nat} (hA : 100000000000000000 ≤ A) (hg : 0 < g) : 1000000000000000000 ≤ A * 10 ^ g := by
  obtain ⟨e, rfl⟩ : ∃ e, g = e + 1 := ⟨g - 1, by omega⟩
  have : A * 10 ^ 1 ≤ A * 10 ^ (e + 1) := Nat.mul_le_mul_left _ (Nat.pow_le_pow_right (by decide) (by omega))
  omega
theorem L101 {a b : Nat} {gap : Int} (ha : a < 2 ^ 62) (hb : b < 2 ^ 62) (h1 : -1000 ≤ gap) (h2 : gap ≤ 1000) {x1 x3 : Int64} {x2 x4 : Int32} : f_Num_isLargerThan_101 (lN a) (lN b) (zI gap) x1 x2 x3 x4 = some (bI (if gap = 0 then decide (b < a) else decide (0 < gap))) := by
  unfold f_Num_isLargerThan_101 f_Num_isLargerThan_131
  by_cases h0 : gap = 0
  · subst h0
    rw [if_pos (show zI 0 = 0 by decide), if_pos rfl]
    by_cases h : a ≤ b
    · rw [if_pos ((pk_lLE (by omega) (by omega)).mpr h), show decide (b < a) = false from decide_eq_false (by omega), if_pos (by decide)]
      rfl
    · rw [if_neg (fun h9 => h ((pk_lLE (by omega) (by omega)).mp h9)), show decide (b < a) = true from decide_eq_true (by omega), if_pos (by decide)]
      rfl
  · rw [if_neg (show ¬ zI gap = 0 from fun h9 => h0 ((z_eq (b := 0) (by omega) (by omega) (by decide) (by decide)).mp h9)), if_neg h0]
    by_cases h : gap ≤ 0
    · rw [if_pos (show zI gap ≤ 0 from (z_le (b := 0) (by omega) (by omega) (by decide) (by decide)).mpr h), show decide (0 < gap) = false from decide_eq_false (by omega), if_pos (by decide)]
      rfl
    · rw [if_neg (show ¬ zI gap ≤ 0 from fun h9 => h ((z_le (b := 0) (by omega) (by omega) (by decide) (by decide)).mp h9)), show decide (0 < gap) = true from decide_eq_true (by omega), if_pos (by decide)]
      rfl
theorem pow_s (i : Nat) : 10 ^ (i + 1) = 10 ^ i * 10 := Nat.pow_succ 10 i
theorem L63 {a : Nat} (ha : a < 1000000000000000000) {x1 x3 : Int64} {x2 x4 : Int32} : ∀ (d i n b : Nat) (gap : Int), i + d = 18 → d < n → gap ≤ 0 → -1000 ≤ gap → b < 1000000000000000000 → 10 ^ i ≤ b → f_Num_isLargerThan_63 n (lN a) (lN b) (zI gap) (nI i) x1 x2 x3 x4 = some (bI (decide (b * 10 ^ (-gap).toNat < a))) := by
  intro d
  induction d with
  | zero =>
    intro i n b gap hi hn hg hg2 hb hi2
    have : i = 18 := by omega
    subst this
    omega
  | succ d ih =>
    intro i n b gap hi hn hg hg2 hb hi2
    obtain ⟨m, rfl⟩ : ∃ m, n = m + 1 := ⟨n - 1, by omega⟩
    rw [f_Num_isLargerThan_63, if_neg (show ¬ (18 : Int32) ≤ nI i from lt_c (n := 18) (by omega) (by decide))]
    by_cases h0 : gap = 0
    · subst h0
      rw [if_pos (by decide), L101 (by omega) (by omega) (by decide) (by decide), if_pos rfl]
      simp
    · rw [if_neg (fun h9 => h0 (by have := (z_le0 (by omega) (by omega)).mp h9; omega))]
      by_cases hl : 100000000000000000 ≤ b
      · rw [if_pos (show (100000000000000000 : Int64) ≤ lN b from (pk_lLE (a := 100000000000000000) (by decide) (by omega)).mpr hl), L101 (by omega) (by omega) (by omega) (by omega), if_neg h0]
        have := big_18 (g := (-gap).toNat) hl (by omega)
        rw [show decide (0 < gap) = false from decide_eq_false (by omega), show decide (b * 10 ^ (-gap).toNat < a) = false from decide_eq_false (by omega)]
      · rw [if_neg (show ¬ (100000000000000000 : Int64) ≤ lN b from fun h9 => hl ((pk_lLE (a := 100000000000000000) (by decide) (by omega)).mp h9)), show (10 : Int64) = lN 10 from rfl, lN_mul, jl_, jl_, jl_, show (1 : Int32) = zI 1 by decide, z_add, show nI i + zI 1 = nI (i + 1) from nI_add i 1]
        rw [ih (i + 1) m (b * 10) (gap + 1) (by omega) (by omega) (by omega) (by omega) (by omega) (by rw [pow_s]; omega)]
        have : b * 10 * 10 ^ (-(gap + 1)).toNat = b * 10 ^ (-gap).toNat := by
          rw [show (-gap).toNat = (-(gap + 1)).toNat + 1 by omega, pow_s, Nat.mul_assoc, Nat.mul_comm 10]
        rw [this]
theorem L25 {b : Nat} (hb : b < 1000000000000000000) (hb0 : 0 < b) {x1 x3 : Int64} {x2 x4 : Int32} : ∀ (d i n a : Nat) (gap : Int), i + d = 18 → d < n → -1000 ≤ gap → gap ≤ 1000 → a < 1000000000000000000 → 10 ^ i ≤ a → f_Num_isLargerThan_25 n (lN a) (lN b) (zI gap) (nI i) x1 x2 x3 x4 = some (bI (decide (b * 10 ^ (-gap).toNat < a * 10 ^ gap.toNat))) := by
  intro d
  induction d with
  | zero =>
    intro i n a gap hi hn hg hg2 ha hi2
    have : i = 18 := by omega
    subst this
    omega
  | succ d ih =>
    intro i n a gap hi hn hg hg2 ha hi2
    obtain ⟨m, rfl⟩ : ∃ m, n = m + 1 := ⟨n - 1, by omega⟩
    rw [f_Num_isLargerThan_25, if_neg (show ¬ (18 : Int32) ≤ nI i from lt_c (n := 18) (by omega) (by decide))]
    unfold f_Num_isLargerThan_60
    by_cases h0 : gap ≤ 0
    · rw [if_pos (show zI gap ≤ 0 from (z_le (b := 0) (by omega) (by omega) (by decide) (by decide)).mpr h0), show (0 : Int32) = nI 0 from rfl, L63 ha 18 0 5000 b gap (by decide) (by decide) h0 hg hb (show 10 ^ 0 ≤ b by rw [Nat.pow_zero]; exact hb0), show gap.toNat = 0 by omega, Nat.pow_zero, Nat.mul_one]
    · rw [if_neg (show ¬ zI gap ≤ 0 from fun h9 => h0 ((z_le (b := 0) (by omega) (by omega) (by decide) (by decide)).mp h9))]
      rw [show (-gap).toNat = 0 by omega, Nat.pow_zero, Nat.mul_one]
      by_cases hl : 100000000000000000 ≤ a
      · rw [if_pos (show (100000000000000000 : Int64) ≤ lN a from (pk_lLE (a := 100000000000000000) (by decide) (by omega)).mpr hl)]
        have := big_18 (g := gap.toNat) hl (by omega)
        rw [show (5000 : Nat) = 4999 + 1 from rfl, f_Num_isLargerThan_63, if_neg (by decide), if_pos ((z_le0 (by omega) (by omega)).mpr (by omega)), L101 (by omega) (by omega) (by omega) (by omega), if_neg (by omega), show decide (0 < gap) = true from decide_eq_true (by omega), show decide (b < a * 10 ^ gap.toNat) = true from decide_eq_true (by omega)]
      · rw [if_neg (show ¬ (100000000000000000 : Int64) ≤ lN a from fun h9 => hl ((pk_lLE (a := 100000000000000000) (by decide) (by omega)).mp h9)), show (10 : Int64) = lN 10 from rfl, lN_mul, jl_, jl_, jl_, z_m1, show (1 : Int32) = nI 1 from rfl, nI_add]
        rw [ih (i + 1) m (a * 10) (gap - 1) (by omega) (by omega) (by omega) (by omega) (by omega) (by rw [pow_s]; omega)]
        have : a * 10 * 10 ^ (gap - 1).toNat = a * 10 ^ gap.toNat := by
          rw [show gap.toNat = (gap - 1).toNat + 1 by omega, pow_s, Nat.mul_assoc, Nat.mul_comm 10]
        rw [this, show (-(gap - 1)).toNat = 0 by omega, Nat.pow_zero, Nat.mul_one]
theorem larger_ok {D1 D2 : Nat} {q1 q2 : Int} (h1 : D1 < 1000000000000000000) (h2 : D2 < 1000000000000000000) (h10 : 0 < D1) (h20 : 0 < D2) (a1 : -40 ≤ q1) (b1 : q1 ≤ 40) (a2 : -40 ≤ q2) (b2 : q2 ≤ 40) : f_Num_isLargerThan (lN D1) (zI q1) (lN D2) (zI q2) = some (bI (decide (P40 D2 q2 < P40 D1 q1))) := by
  unfold f_Num_isLargerThan f_Num_isLargerThan_0
  rw [z_sub, jl_, show (0 : Int32) = nI 0 from rfl, L25 h2 h20 18 0 5000 D1 (q1 - q2) (by decide) (by decide) (by omega) (by omega) h1 (show 10 ^ 0 ≤ D1 by rw [Nat.pow_zero]; exact h10)]
  congr 2
  apply decide_eq_decide.mpr
  by_cases h : q1 ≤ q2
  · rw [P40_lt (r := q1) h (by omega) a1, show (q1 - q1).toNat = 0 by omega, show (q1 - q2).toNat = 0 by omega, show (-(q1 - q2)).toNat = (q2 - q1).toNat by omega]
  · rw [P40_lt (r := q2) (by omega) (by omega) a2, show (q2 - q2).toNat = 0 by omega, show (-(q1 - q2)).toNat = 0 by omega]
def sgI (neg : Bool) (D : Nat) : Int := if D = 0 then 0 else if neg = true then -1 else 1
theorem signum_ok {neg : Bool} {D : Nat} (hD : D < 2 ^ 62) : f_Num_signum (bI neg) (lN D) = some (zI (sgI neg D)) := by
  unfold f_Num_signum f_Num_signum_0 f_Num_signum_25 sgI
  by_cases h : D = 0
  · subst h
    rw [if_pos (by decide), if_pos rfl]
    rfl
  · rw [if_neg (fun h9 => h ((q_eq0 (by omega)).mp h9)), if_neg h]
    cases neg
    · rw [if_pos (by decide), if_neg (by decide)]
      rfl
    · rw [if_neg (by decide), if_pos rfl]
      rfl
theorem ORD_P (n1 : Bool) (D1 : Nat) (q1 : Int) (n2 : Bool) (D2 : Nat) (q2 : Int) : ORD n1 D1 q1 n2 D2 q2 = if fst0 n1 D1 = fst0 n2 D2 then (if fst0 n1 D1 = true then decide (P40 D2 q2 ≤ P40 D1 q1) else decide (P40 D1 q1 ≤ P40 D2 q2)) else fst0 n1 D1 := rfl
theorem P40_0 (q : Int) : P40 0 q = 0 := Nat.zero_mul _
theorem P40_p {D : Nat} {q : Int} (h : 0 < D) : 0 < P40 D q := Nat.mul_pos h (p10 _)
theorem greater_ok {n1 n2 : Bool} {D1 D2 : Nat} {q1 q2 : Int} (h1 : D1 < 1000000000000000000) (h2 : D2 < 1000000000000000000) (a1 : -40 ≤ q1) (b1 : q1 ≤ 40) (a2 : -40 ≤ q2) (b2 : q2 ≤ 40) : f_Num_isGreaterThan (bI n1) (lN D1) (zI q1) (bI n2) (lN D2) (zI q2) = some (bI (!ORD n1 D1 q1 n2 D2 q2)) := by
  unfold f_Num_isGreaterThan f_Num_isGreaterThan_0 f_Num_isGreaterThan_54 f_Num_isGreaterThan_55 f_Num_isGreaterThan_25
  rw [signum_ok (by omega), Option.bind_some, signum_ok (by omega), Option.bind_some, ORD_P]
  have z1 := P40_p (D := D1) (q := q1)
  have z2 := P40_p (D := D2) (q := q2)
  by_cases d1 : D1 = 0
  · subst d1
    have s1 : sgI n1 0 = 0 := by unfold sgI; rw [if_pos rfl]
    have f1 : fst0 n1 0 = false := by unfold fst0; simp
    rw [s1, f1, P40_0]
    by_cases d2 : D2 = 0
    · subst d2
      have s2 : sgI n2 0 = 0 := by unfold sgI; rw [if_pos rfl]
      have f2 : fst0 n2 0 = false := by unfold fst0; simp
      rw [s2, f2, P40_0]
      rfl
    · cases n2
      · have s2 : sgI false D2 = 1 := by unfold sgI; rw [if_neg d2, if_neg (by decide)]
        have f2 : fst0 false D2 = false := by unfold fst0; simp
        rw [s2, f2, if_pos rfl, if_neg (by decide), show decide (0 ≤ P40 D2 q2) = true from decide_eq_true (Nat.zero_le _)]
        rfl
      · have s2 : sgI true D2 = -1 := by unfold sgI; rw [if_neg d2, if_pos rfl]
        have f2 : fst0 true D2 = true := by unfold fst0; simp; omega
        rw [s2, f2, if_neg (show ¬ false = true by decide)]
        rfl
  · cases n1
    · have s1 : sgI false D1 = 1 := by unfold sgI; rw [if_neg d1, if_neg (by decide)]
      have f1 : fst0 false D1 = false := by unfold fst0; simp
      rw [s1, f1]
      by_cases d2 : D2 = 0
      · subst d2
        have s2 : sgI n2 0 = 0 := by unfold sgI; rw [if_pos rfl]
        have f2 : fst0 n2 0 = false := by unfold fst0; simp
        rw [s2, f2, P40_0, if_pos (show false = false from rfl), if_neg (show ¬ false = true by decide), show decide (P40 D1 q1 ≤ 0) = false from decide_eq_false (by have := z1 (by omega); omega)]
        rfl
      · cases n2
        · have s2 : sgI false D2 = 1 := by unfold sgI; rw [if_neg d2, if_neg (by decide)]
          have f2 : fst0 false D2 = false := by unfold fst0; simp
          rw [s2, f2, if_pos rfl, if_pos (by decide), if_neg (by decide), larger_ok h1 h2 (by omega) (by omega) a1 b1 a2 b2, Option.bind_some, if_pos (show false = false from rfl), if_neg (show ¬ false = true by decide)]
          by_cases hp : P40 D2 q2 < P40 D1 q1
          · rw [show decide (P40 D2 q2 < P40 D1 q1) = true from decide_eq_true hp, show decide (P40 D1 q1 ≤ P40 D2 q2) = false from decide_eq_false (by omega)]
            rfl
          · rw [show decide (P40 D2 q2 < P40 D1 q1) = false from decide_eq_false hp, show decide (P40 D1 q1 ≤ P40 D2 q2) = true from decide_eq_true (by omega)]
            rfl
        · have s2 : sgI true D2 = -1 := by unfold sgI; rw [if_neg d2, if_pos rfl]
          have f2 : fst0 true D2 = true := by unfold fst0; simp; omega
          rw [s2, f2, if_neg (show ¬ false = true by decide)]
          rfl
    · have s1 : sgI true D1 = -1 := by unfold sgI; rw [if_neg d1, if_pos rfl]
      have f1 : fst0 true D1 = true := by unfold fst0; simp; omega
      rw [s1, f1]
      by_cases d2 : D2 = 0
      · subst d2
        have s2 : sgI n2 0 = 0 := by unfold sgI; rw [if_pos rfl]
        have f2 : fst0 n2 0 = false := by unfold fst0; simp
        rw [s2, f2, if_neg (show ¬ true = false by decide)]
        rfl
      · cases n2
        · have s2 : sgI false D2 = 1 := by unfold sgI; rw [if_neg d2, if_neg (by decide)]
          have f2 : fst0 false D2 = false := by unfold fst0; simp
          rw [s2, f2, if_neg (show ¬ true = false by decide)]
          rfl
        · have s2 : sgI true D2 = -1 := by unfold sgI; rw [if_neg d2, if_pos rfl]
          have f2 : fst0 true D2 = true := by unfold fst0; simp; omega
          rw [s2, f2, if_pos rfl, if_neg (by decide), larger_ok h2 h1 (by omega) (by omega) a2 b2 a1 b1, Option.bind_some, if_pos (show true = true from rfl), if_pos (show true = true from rfl)]
          by_cases hp : P40 D1 q1 < P40 D2 q2
          · rw [show decide (P40 D1 q1 < P40 D2 q2) = true from decide_eq_true hp, show decide (P40 D2 q2 ≤ P40 D1 q1) = false from decide_eq_false (by omega)]
            rfl
          · rw [show decide (P40 D1 q1 < P40 D2 q2) = false from decide_eq_false hp, show decide (P40 D2 q2 ≤ P40 D1 q1) = true from decide_eq_true (by omega)]
            rfl
theorem io103 {f1 f2 : Bool} {A B : Nat} {g : Nat → Int32} {x1 x3 : Int32} {x2 : Int64} : f_Ref_inOrder_103 (bI f2) (cmpI A B) (bI f1) g x1 x2 x3 = some (bI (if f1 = f2 then (if f1 = true then decide (B ≤ A) else decide (A ≤ B)) else f1), g) := by
  unfold f_Ref_inOrder_103 f_Ref_inOrder_145
  by_cases hf : f1 = f2
  · rw [if_pos (bI_eq.mpr hf), if_pos hf]
    cases f1
    · rw [if_pos (show bI false = 0 from rfl), if_neg (show ¬ false = true by decide)]
      by_cases h : A ≤ B
      · rw [if_neg (show ¬ (0 : Int32) < cmpI A B by
          unfold cmpI
          split
          · decide
          · rw [if_pos (by omega)]; decide), show decide (A ≤ B) = true from decide_eq_true h, if_pos (by decide)]
        rfl
      · rw [if_pos (show (0 : Int32) < cmpI A B by
          unfold cmpI
          rw [if_neg (by omega), if_neg (by omega)]; decide), show decide (A ≤ B) = false from decide_eq_false h, if_pos (by decide)]
        rfl
    · rw [if_neg (show ¬ bI true = 0 by decide), if_pos (show true = true from rfl)]
      by_cases h : A < B
      · rw [if_pos (cmpI_lt.mpr h), show decide (B ≤ A) = false from decide_eq_false (by omega), if_pos (by decide)]
        rfl
      · rw [if_neg (fun h9 => h (cmpI_lt.mp h9)), show decide (B ≤ A) = true from decide_eq_true (by omega), if_pos (by decide)]
        rfl
  · rw [if_neg (fun h9 => hf (bI_eq.mp h9)), if_neg hf, if_pos (by cases f1; exact Or.inl rfl; exact Or.inr rfl)]
theorem io86 {f1 n2 : Bool} {D2 : Nat} (hD : D2 < 2 ^ 62) {A B : Nat} {g : Nat → Int32} {x1 x3 : Int32} {x2 : Int64} : f_Ref_inOrder_86 (bI f1) (bI n2) (lN D2) (cmpI A B) g x1 x2 x3 = some (bI (if f1 = fst0 n2 D2 then (if f1 = true then decide (B ≤ A) else decide (A ≤ B)) else f1), g) := by
  unfold f_Ref_inOrder_86 f_Ref_inOrder_102
  cases n2
  · rw [if_pos (by decide), show (0 : Int32) = bI false from rfl, io103]
    have f2 : fst0 false D2 = false := by unfold fst0; simp
    rw [f2]
  · rw [if_neg (by decide)]
    by_cases h : D2 = 0
    · rw [if_pos (show lN D2 ≤ (0 : Int64) from (pk_lLE (b := 0) (by omega) (by decide)).mpr (by omega)), show (0 : Int32) = bI false from rfl, io103]
      have f2 : fst0 true D2 = false := by unfold fst0; simp; exact h
      rw [f2]
    · rw [if_neg (show ¬ lN D2 ≤ (0 : Int64) from fun h9 => by have := (pk_lLE (b := 0) (by omega) (by decide)).mp h9; omega), show (1 : Int32) = bI true from rfl, io103]
      have f2 : fst0 true D2 = true := by unfold fst0; simp; omega
      rw [f2]
theorem inord_ok {n1 n2 : Bool} {D1 D2 : Nat} {q1 q2 : Int} (h1 : D1 < 1000000000000000000) (h2 : D2 < 1000000000000000000) (a1 : -40 ≤ q1) (b1 : q1 ≤ 40) (a2 : -40 ≤ q2) (b2 : q2 ≤ 40) {g : Nat → Int32} {N : Nat → Nat} (hB : Big g N) : ∃ g' N', f_Ref_inOrder (bI n2) (lN D2) (zI q2) g (bI n1) (lN D1) (zI q1) = some (bI (ORD n1 D1 q1 n2 D2 q2), g') ∧ Big g' N' := by
  obtain ⟨r, hr⟩ : ∃ r : Int, r = if q2 ≤ q1 then q2 else q1 := ⟨_, rfl⟩
  have hr1 : r ≤ q1 := by rw [hr]; split <;> omega
  have hr2 : r ≤ q2 := by rw [hr]; split <;> omega
  have hr0 : -40 ≤ r := by rw [hr]; split <;> omega
  have fit : ∀ (D k : Nat), D < 1000000000000000000 → k ≤ 80 → D * 10 ^ k < 65536 ^ 160 := fun D k hD hk => by
    refine big_of_bl (k := 400) (bl_of_lt ?_) (by decide)
    have : D * 10 ^ k ≤ 2 ^ 60 * 10 ^ 80 := Nat.mul_le_mul (by omega) (Nat.pow_le_pow_right (by decide) hk)
    exact Nat.lt_of_le_of_lt this (by decide)
  have K : ∃ g' N', f_Ref_inOrder_18 (zI r) (bI n2) (lN D2) (zI q2) g (bI n1) (lN D1) (zI q1) = some (bI (ORD n1 D1 q1 n2 D2 q2), g') ∧ Big g' N' := by
    obtain ⟨g1, e1, c1⟩ := put_ok (z := 0) (v := D1) (by decide) (by omega) hB
    obtain ⟨g2, e2, c2⟩ := ten_ok (z := 0) (p := (q1 - r).toNat) (by decide) (by omega) c1 (by rw [uN_s]; exact fit _ _ h1 (by omega))
    rw [uN_s, uN_uN] at c2
    obtain ⟨g3, e3, c3⟩ := put_ok (z := 1) (v := D2) (by decide) (by omega) c2
    obtain ⟨g4, e4, c4⟩ := ten_ok (z := 1) (p := (q2 - r).toNat) (by decide) (by omega) c3 (by rw [uN_s]; exact fit _ _ h2 (by omega))
    rw [uN_s, uN_uN] at c4
    have c := compare_ok (x := 0) (y := 1) (by decide) (by decide) c4
    rw [uN_s, uN_n (by decide), uN_s] at c
    refine ⟨g4, _, ?_, c4⟩
    unfold f_Ref_inOrder_18 f_Ref_inOrder_85
    have z1 : zI q1 - zI r = nI (q1 - r).toNat := by rw [z_sub, z_nI]; exact congrArg zI (by omega)
    have z2 : zI q2 - zI r = nI (q2 - r).toNat := by rw [z_sub, z_nI]; exact congrArg zI (by omega)
    rw [show f_Ref_put (0 : Int32) (lN D1) g = some g1 from e1, Option.bind_some, z1, show f_Ref_tenTimes (0 : Int32) (nI (q1 - r).toNat) g1 = some g2 from e2, Option.bind_some, show f_Ref_put (1 : Int32) (lN D2) g2 = some g3 from e3, Option.bind_some, z2, show f_Ref_tenTimes (1 : Int32) (nI (q2 - r).toNat) g3 = some g4 from e4, Option.bind_some, show f_Ref_compare (0 : Int32) (1 : Int32) g4 = _ from c, Option.bind_some]
    have p1 : (P40 D2 q2 ≤ P40 D1 q1) ↔ (D2 * 10 ^ (q2 - r).toNat ≤ D1 * 10 ^ (q1 - r).toNat) := by
      rw [P40_sh hr1 hr0, P40_sh hr2 hr0]
      exact Nat.mul_le_mul_right_iff (p10 _)
    have p2 : (P40 D1 q1 ≤ P40 D2 q2) ↔ (D1 * 10 ^ (q1 - r).toNat ≤ D2 * 10 ^ (q2 - r).toNat) := by
      rw [P40_sh hr1 hr0, P40_sh hr2 hr0]
      exact Nat.mul_le_mul_right_iff (p10 _)
    have fin : ∀ f1 : Bool, f1 = fst0 n1 D1 → f_Ref_inOrder_86 (bI f1) (bI n2) (lN D2) (cmpI (D1 * 10 ^ (q1 - r).toNat) (D2 * 10 ^ (q2 - r).toNat)) g4 (bI n1) (lN D1) (zI q1) = some (bI (ORD n1 D1 q1 n2 D2 q2), g4) := fun f1 hf => by
      rw [io86 (by omega), ORD_P, hf]
      simp only [p1, p2]
    cases n1
    · rw [if_pos (show bI false = 0 from rfl)]
      exact fin false (by unfold fst0; simp)
    · rw [if_neg (show ¬ bI true = 0 by decide)]
      by_cases h : D1 = 0
      · rw [if_pos (show lN D1 ≤ (0 : Int64) from (pk_lLE (b := 0) (by omega) (by decide)).mpr (by omega))]
        exact fin false (by unfold fst0; simp; exact h)
      · rw [if_neg (show ¬ lN D1 ≤ (0 : Int64) from fun h9 => by have := (pk_lLE (b := 0) (by omega) (by decide)).mp h9; omega)]
        exact fin true (by unfold fst0; simp; omega)
  unfold f_Ref_inOrder f_Ref_inOrder_0
  by_cases h : q2 ≤ q1
  · rw [if_pos ((z_le (by omega) (by omega) (by omega) (by omega)).mpr h)]
    rw [hr, if_pos h] at K
    exact K
  · rw [if_neg (fun h9 => h ((z_le (by omega) (by omega) (by omega) (by omega)).mp h9))]
    rw [hr, if_neg h] at K
    exact K
