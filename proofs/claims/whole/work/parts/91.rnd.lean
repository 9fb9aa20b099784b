-- rounding, over natural numbers: a value is N times 2 to s, perhaps a little more (o)
theorem p2 (k : Nat) : 0 < 2 ^ k := Nat.two_pow_pos k
def bl (n : Nat) : Nat := if n = 0 then 0 else Nat.log2 n + 1
theorem bl_0 : bl 0 = 0 := rfl
theorem bl_lt (n : Nat) : n < 2 ^ bl n := by
  unfold bl
  split
  · next h => subst h; decide
  · exact Nat.lt_log2_self
theorem bl_pos {n : Nat} (h : n ≠ 0) : 0 < bl n := by
  unfold bl
  rw [if_neg h]
  omega
theorem bl_le {n : Nat} (h : n ≠ 0) : 2 ^ (bl n - 1) ≤ n := by
  unfold bl
  rw [if_neg h]
  exact Nat.log2_self_le h
theorem bl_eq {n k : Nat} (h1 : 2 ^ k ≤ n) (h2 : n < 2 ^ (k + 1)) : bl n = k + 1 := by
  have h : n ≠ 0 := by
    intro h
    have := p2 k
    omega
  unfold bl
  rw [if_neg h, (Nat.log2_eq_iff h).mpr ⟨h1, h2⟩]
theorem bl_of_lt {n k : Nat} (h : n < 2 ^ k) : bl n ≤ k := by
  by_cases h0 : n = 0
  · subst h0; exact Nat.zero_le _
  · have h1 := bl_le h0
    have h2 := bl_pos h0
    have h3 : 2 ^ (bl n - 1) < 2 ^ k := Nat.lt_of_le_of_lt h1 h
    have h4 := (Nat.pow_lt_pow_iff_right (a := 2) (by decide)).mp h3
    omega
theorem bl_of_le {n k : Nat} (h : 2 ^ k ≤ n) : k + 1 ≤ bl n := by
  have h1 : 2 ^ k < 2 ^ bl n := Nat.lt_of_le_of_lt h (bl_lt n)
  have h2 := (Nat.pow_lt_pow_iff_right (a := 2) (by decide)).mp h1
  omega
theorem bl_mono {a b : Nat} (h : a ≤ b) : bl a ≤ bl b := bl_of_lt (Nat.lt_of_le_of_lt h (bl_lt b))
theorem bl_mul {n : Nat} (k : Nat) (h : n ≠ 0) : bl (n * 2 ^ k) = bl n + k := by
  have h1 := bl_le h
  have h2 := bl_lt n
  have h3 := bl_pos h
  have h4 : 2 ^ (bl n - 1 + k) ≤ n * 2 ^ k := by
    rw [Nat.pow_add]; exact Nat.mul_le_mul_right _ h1
  have h5 : n * 2 ^ k < 2 ^ (bl n - 1 + k + 1) := by
    rw [show bl n - 1 + k + 1 = bl n + k by omega, Nat.pow_add]
    exact Nat.mul_lt_mul_of_pos_right h2 (p2 k)
  rw [bl_eq h4 h5]
  omega
theorem bl_div {n j : Nat} (h : n / 2 ^ j ≠ 0) : bl (n / 2 ^ j) + j = bl n := by
  have h1 := bl_le h
  have h2 := bl_lt (n / 2 ^ j)
  have h3 := bl_pos h
  have h4 : 2 ^ (bl (n / 2 ^ j) - 1 + j) ≤ n := by
    rw [Nat.pow_add]
    exact Nat.le_trans (Nat.mul_le_mul_right _ h1) (Nat.div_mul_le_self _ _)
  have h5 : n < 2 ^ (bl (n / 2 ^ j) - 1 + j + 1) := by
    rw [show bl (n / 2 ^ j) - 1 + j + 1 = bl (n / 2 ^ j) + j by omega, Nat.pow_add]
    exact (Nat.div_lt_iff_lt_mul (p2 j)).mp h2
  rw [bl_eq h4 h5]
  omega
def qf (N : Nat) (c : Int) : Nat := if c ≤ 0 then N * 2 ^ (-c).toNat else N / 2 ^ c.toNat
/-- 0: nothing is left over; 1: less than half a unit; 2: half; 3: more -/
def kp (N : Nat) (o : Bool) (c : Int) : Nat :=
  if c ≤ 0 then (if o = true then 1 else 0) else
  if N % 2 ^ c.toNat = 0 ∧ o = false then 0 else if N % 2 ^ c.toNat < 2 ^ (c.toNat - 1) then 1 else if N % 2 ^ c.toNat = 2 ^ (c.toNat - 1) ∧ o = false then 2 else 3
def INF : Nat := 9218868437227405312
def upQ (how : Nat) (aw : Bool) (q k : Nat) : Bool := if how = 2 then k == 3 || (k == 2 && q % 2 == 1) else k != 0 && aw
def mag (how : Nat) (aw : Bool) (u : Int) (q k : Nat) : Nat :=
  if 971 < u then (if aw = true then INF else INF - 1)
  else if (u + 1074).toNat * 2 ^ 52 + (if upQ how aw q k = true then q + 1 else q) < INF then (u + 1074).toNat * 2 ^ 52 + (if upQ how aw q k = true then q + 1 else q)
  else if aw = true then INF else INF - 1
def awy (neg : Bool) (how : Nat) : Bool := if how = 2 then false else (how == 1) != neg
def un (N : Nat) (s : Int) : Int := if (bl N : Int) - 53 + s ≤ -1074 then -1074 else (bl N : Int) - 53 + s
def rmag (neg : Bool) (N : Nat) (o : Bool) (s : Int) (how : Nat) : Nat := if N = 0 then 0 else mag how (awy neg how) (un N s) (qf N (un N s - s)) (kp N o (un N s - s))
def RND (neg : Bool) (N : Nat) (o : Bool) (s : Int) (how : Nat) : Int := if neg = true then -(rmag neg N o s how : Int) else rmag neg N o s how
theorem qf_pos {N c : Nat} (h : 0 < c) : qf N (c : Int) = N / 2 ^ c := by
  unfold qf
  rw [if_neg (by omega)]
  rfl
theorem kp_pos {N c : Nat} {o : Bool} (h : 0 < c) : kp N o (c : Int) = if N % 2 ^ c = 0 ∧ o = false then 0 else if N % 2 ^ c < 2 ^ (c - 1) then 1 else if N % 2 ^ c = 2 ^ (c - 1) ∧ o = false then 2 else 3 := by
  unfold kp
  rw [if_neg (by omega)]
  rfl
theorem qf_np {N : Nat} {c : Int} (h : c ≤ 0) : qf N c = N * 2 ^ (-c).toNat := by
  unfold qf
  rw [if_pos h]
theorem kp_np {N : Nat} {c : Int} {o : Bool} (h : c ≤ 0) : kp N o c = if o = true then 1 else 0 := by
  unfold kp
  rw [if_pos h]
theorem qf_scale (N k : Nat) (c : Int) : qf (N * 2 ^ k) (c + k) = qf N c := by
  by_cases h : c ≤ 0
  · rw [qf_np h]
    by_cases h2 : c + k ≤ 0
    · rw [qf_np h2, Nat.mul_assoc, ← Nat.pow_add]
      congr 2
      omega
    · obtain ⟨d, hd⟩ := Int.eq_ofNat_of_zero_le (show 0 ≤ c + k by omega)
      rw [hd, qf_pos (by omega), show k = d + (-c).toNat by omega, Nat.pow_add, Nat.mul_left_comm, Nat.mul_comm, Nat.mul_div_cancel _ (p2 d)]
  · obtain ⟨d, hd⟩ := Int.eq_ofNat_of_zero_le (show 0 ≤ c by omega)
    rw [hd, qf_pos (by omega), show ((d : Int) + (k : Int)) = ((d + k : Nat) : Int) by omega, qf_pos (by omega), Nat.pow_add, Nat.mul_div_mul_right _ _ (p2 k)]
theorem kp_scale (N k : Nat) (c : Int) : kp (N * 2 ^ k) false (c + k) = kp N false c := by
  by_cases h : c ≤ 0
  · rw [kp_np h]
    by_cases h2 : c + k ≤ 0
    · rw [kp_np h2]
    · obtain ⟨d, hd⟩ := Int.eq_ofNat_of_zero_le (show 0 ≤ c + k by omega)
      rw [hd, kp_pos (by omega)]
      rw [show k = (-c).toNat + d by omega, Nat.pow_add, ← Nat.mul_assoc, Nat.mul_mod_left]
      simp
  · obtain ⟨d, hd⟩ := Int.eq_ofNat_of_zero_le (show 0 ≤ c by omega)
    have hd0 : 0 < d := by omega
    rw [hd, kp_pos hd0, show ((d : Int) + (k : Int)) = ((d + k : Nat) : Int) by omega, kp_pos (by omega), Nat.pow_add, Nat.mul_mod_mul_right, show d + k - 1 = d - 1 + k by omega, Nat.pow_add]
    have hk := p2 k
    generalize N % 2 ^ d = r
    generalize 2 ^ (d - 1) = hh
    have e1 : (r * 2 ^ k = 0) = (r = 0) := by
      apply propext
      constructor
      · intro h; rcases Nat.mul_eq_zero.mp h with h | h
        · exact h
        · omega
      · rintro rfl; exact Nat.zero_mul _
    have e2 : (r * 2 ^ k < hh * 2 ^ k) = (r < hh) := propext (Nat.mul_lt_mul_right hk)
    have e3 : (r * 2 ^ k = hh * 2 ^ k) = (r = hh) := propext ⟨fun h => Nat.eq_of_mul_eq_mul_right hk h, fun h => by rw [h]⟩
    simp only [e1, e2, e3]
theorem un_scale {N : Nat} (k : Nat) (s : Int) (h : N ≠ 0) : un (N * 2 ^ k) (s - k) = un N s := by
  unfold un
  rw [bl_mul k h]
  have : ((bl N + k : Nat) : Int) - 53 + (s - k) = (bl N : Int) - 53 + s := by omega
  rw [this]
theorem rmag_scale (neg : Bool) (N k : Nat) (s : Int) (how : Nat) : rmag neg (N * 2 ^ k) false (s - k) how = rmag neg N false s how := by
  unfold rmag
  by_cases h : N = 0
  · subst h; simp
  · have h2 : N * 2 ^ k ≠ 0 := by
      have := p2 k
      intro h9
      rcases Nat.mul_eq_zero.mp h9 with h9 | h9 <;> omega
    rw [if_neg h, if_neg h2, un_scale k s h, show un N s - (s - k) = un N s - s + k by omega, qf_scale, kp_scale]
def stk (n : Nat) (b : Bool) : Nat := if b = true then n / 2 * 2 + 1 else n
theorem stk_bl {n : Nat} (b : Bool) (h : n ≠ 0) : bl (stk n b) = bl n := by
  unfold stk
  split
  · have h1 := bl_le h
    have h2 := bl_lt n
    have h3 := bl_pos h
    by_cases h4 : bl n = 1
    · rw [h4] at h2
      have : n = 1 := by omega
      subst this
      rfl
    · have h5 : 2 ^ (bl n - 1) = 2 * 2 ^ (bl n - 2) := by
        rw [show bl n - 1 = (bl n - 2) + 1 by omega, Nat.pow_succ]; omega
      have h6 : 2 ^ bl n = 2 * 2 ^ (bl n - 1) := by
        rw [show bl n = (bl n - 1) + 1 by omega, Nat.pow_succ]
        rw [Nat.add_sub_cancel]; omega
      have := bl_eq (n := n / 2 * 2 + 1) (k := bl n - 1) (by omega) (by rw [show bl n - 1 + 1 = bl n by omega]; omega)
      omega
  · rfl
theorem stk_q {n c : Nat} (b : Bool) (h : 0 < c) : stk n b / 2 ^ c = n / 2 ^ c := by
  unfold stk
  split
  · have e : (2 : Nat) ^ c = 2 * 2 ^ (c - 1) := by
      rw [show c = (c - 1) + 1 by omega, Nat.pow_succ, Nat.add_sub_cancel]; omega
    rw [e, ← Nat.div_div_eq_div_mul, ← Nat.div_div_eq_div_mul]
    congr 1
    omega
  · rfl
theorem stick_core {a b J h h2 : Nat} (o : Bool) (hJ : 0 < J) (hb : b < J) (hh : h = 2 * h2) (hp : 0 < h) : (if a * J + b = 0 ∧ o = false then 0 else if a * J + b < h * J then 1 else if a * J + b = h * J ∧ o = false then 2 else 3) = (if (if (b != 0 || o) = true then a / 2 * 2 + 1 else a) = 0 ∧ false = false then 0 else if (if (b != 0 || o) = true then a / 2 * 2 + 1 else a) < h then 1 else if (if (b != 0 || o) = true then a / 2 * 2 + 1 else a) = h ∧ false = false then 2 else 3) := by
  have m1 : a < h → a * J + b < h * J := fun h9 => by
    have := Nat.mul_le_mul_right J (show a + 1 ≤ h from h9)
    rw [Nat.add_mul] at this
    omega
  have m2 : ¬ a < h → ¬ a * J + b < h * J := fun h9 => by
    have := Nat.mul_le_mul_right J (show h ≤ a by omega)
    omega
  have m3 : h < a → h * J + J ≤ a * J := fun h9 => by
    have := Nat.mul_le_mul_right J (show h + 1 ≤ a from h9)
    rw [Nat.add_mul] at this
    omega
  have m0 : a * J = 0 → a = 0 := fun h9 => by rcases Nat.mul_eq_zero.mp h9 with h9 | h9 <;> omega
  by_cases hs : (b != 0 || o) = true
  · have hs' : b ≠ 0 ∨ o = true := by
      cases o
      · left; intro h9; subst h9; simp at hs
      · exact Or.inr rfl
    simp only [hs, if_true, and_true]
    have c1 : ¬ (a * J + b = 0 ∧ o = false) := by
      rintro ⟨h8, h9⟩
      rcases hs' with h7 | h7
      · omega
      · rw [h9] at h7; cases h7
    have c2 : ¬ (a / 2 * 2 + 1 = 0) := fun h9 => by omega
    rw [if_neg c1, if_neg c2]
    by_cases a1 : a < h
    · rw [if_pos (m1 a1), if_pos (by omega)]
    · have c3 : ¬ (a * J + b = h * J ∧ o = false) := by
        rintro ⟨h8, h9⟩
        rcases hs' with h7 | h7
        · by_cases h6 : h < a
          · have := m3 h6; omega
          · have : a = h := by omega
            subst this
            omega
        · rw [h9] at h7; cases h7
      have c4 : ¬ (a / 2 * 2 + 1 = h) := fun h9 => by omega
      rw [if_neg (m2 a1), if_neg c3, if_neg (by omega), if_neg c4]
  · have hb0 : b = 0 ∧ o = false := by
      cases o
      · refine ⟨?_, rfl⟩
        by_cases h9 : b = 0
        · exact h9
        · exact absurd (by simp [h9]) hs
      · exact absurd (by simp) hs
    obtain ⟨rfl, rfl⟩ := hb0
    simp only [bne_self_eq_false, Bool.or_self, Bool.false_eq_true, if_false, Nat.add_zero, and_true] at m1 m2 ⊢
    by_cases a0 : a = 0
    · subst a0; simp
    · rw [if_neg (fun h9 => a0 (m0 h9)), if_neg a0]
      by_cases a1 : a < h
      · rw [if_pos (m1 a1), if_pos a1]
      · rw [if_neg (m2 a1), if_neg a1]
        by_cases a2 : a = h
        · rw [if_pos (by rw [a2]), if_pos a2]
        · rw [if_neg (by have := m3 (by omega); omega), if_neg a2]
theorem sticky_k {N j c : Nat} {o : Bool} (hc : 2 ≤ c) : kp N o ((c + j : Nat) : Int) = kp (stk (N / 2 ^ j) (N % 2 ^ j != 0 || o)) false (c : Int) := by
  rw [kp_pos (by omega), kp_pos (by omega)]
  have e1 : N % 2 ^ (c + j) = (N / 2 ^ j % 2 ^ c) * 2 ^ j + N % 2 ^ j := by
    rw [Nat.add_comm c j, Nat.pow_add, Nat.mod_mul]
    rw [Nat.mul_comm]; omega
  have e2 : (2 : Nat) ^ (c + j - 1) = 2 ^ (c - 1) * 2 ^ j := by
    rw [show c + j - 1 = c - 1 + j by omega, Nat.pow_add]
  have e3 : (2 : Nat) ^ (c - 1) = 2 * 2 ^ (c - 2) := by
    rw [show c - 1 = (c - 2) + 1 by omega, Nat.pow_succ]; omega
  have e4 : (2 : Nat) ^ c = 2 * 2 ^ (c - 1) := by
    rw [show c = (c - 1) + 1 by omega, Nat.pow_succ, Nat.add_sub_cancel]; omega
  have hb : N % 2 ^ j < 2 ^ j := Nat.mod_lt _ (p2 j)
  have hr : stk (N / 2 ^ j) (N % 2 ^ j != 0 || o) % 2 ^ c = if (N % 2 ^ j != 0 || o) = true then N / 2 ^ j % 2 ^ c / 2 * 2 + 1 else N / 2 ^ j % 2 ^ c := by
    unfold stk
    split
    · rw [e4]
      have := p2 (c - 1)
      generalize 2 ^ (c - 1) = h at *
      generalize N / 2 ^ j = M
      have e5 : (M / 2 * 2 + 1) % (2 * h) = M / 2 % h * 2 + 1 := by
        rw [Nat.mul_comm (M / 2) 2, Nat.add_mod, Nat.mul_mod_mul_left]
        have : M / 2 % h < h := Nat.mod_lt _ (by omega)
        rw [Nat.mod_eq_of_lt (a := 1) (by omega), Nat.mod_eq_of_lt (by omega)]
        omega
      have e6 : M % (2 * h) / 2 = M / 2 % h := Nat.mod_mul_right_div_self M 2 h
      rw [e5, e6]
    · rfl
  rw [e1, e2, hr]
  exact stick_core o (p2 j) hb e3 (p2 _)
theorem rmag_sticky (neg : Bool) (N j : Nat) (o : Bool) (s : Int) (how : Nat) (h : 55 ≤ bl (N / 2 ^ j)) : rmag neg N o s how = rmag neg (stk (N / 2 ^ j) (N % 2 ^ j != 0 || o)) false (s + j) how := by
  have h0 : N / 2 ^ j ≠ 0 := by
    intro h9
    rw [h9] at h
    revert h
    decide
  have hN : N ≠ 0 := by
    rintro rfl
    exact h0 (Nat.zero_div _)
  have hs := stk_bl (N % 2 ^ j != 0 || o) h0
  have hs0 : stk (N / 2 ^ j) (N % 2 ^ j != 0 || o) ≠ 0 := by
    intro h9
    rw [h9] at hs
    rw [← hs] at h
    revert h
    decide
  have hd := bl_div h0
  unfold rmag
  rw [if_neg hN, if_neg hs0]
  have hu : un (stk (N / 2 ^ j) (N % 2 ^ j != 0 || o)) (s + j) = un N s := by
    unfold un
    rw [hs, ← hd]
    have : ((bl (N / 2 ^ j) : Nat) : Int) - 53 + (s + j) = ((bl (N / 2 ^ j) + j : Nat) : Int) - 53 + s := by omega
    rw [this]
  rw [hu]
  have hc : ∃ c : Nat, un N s - (s + j) = (c : Int) ∧ 2 ≤ c := by
    refine ⟨(un N s - (s + j)).toNat, ?_, ?_⟩
    · unfold un; split <;> omega
    · unfold un; split <;> omega
  obtain ⟨c, e, hc2⟩ := hc
  rw [e, show un N s - s = ((c + j : Nat) : Int) by omega, ← sticky_k hc2, qf_pos (by omega), qf_pos (by omega), stk_q _ (by omega), Nat.div_div_eq_div_mul, Nat.add_comm c j, Nat.pow_add]
