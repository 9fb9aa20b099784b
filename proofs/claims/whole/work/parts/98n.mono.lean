-- rounding keeps the order
def TR (N : Nat) (s : Int) : Nat := if N = 0 then 0 else if 971 < un N s then INF - 1 else (un N s + 1074).toNat * 2 ^ 52 + qf N (un N s - s)
theorem un_ge (N : Nat) (s : Int) : -1074 ≤ un N s := by
  unfold un
  split <;> omega
theorem qf_ge {N : Nat} {s : Int} (hN : N ≠ 0) (hu : -1074 < un N s) : 2 ^ 52 ≤ qf N (un N s - s) := by
  have hu2 : un N s = (bl N : Int) - 53 + s := by
    unfold un at hu ⊢
    split at hu
    · omega
    · next h => rw [if_neg h]
  have h1 := bl_le hN
  have h2 := bl_pos hN
  rw [hu2, show (bl N : Int) - 53 + s - s = (bl N : Int) - 53 by omega]
  by_cases hc : (bl N : Int) - 53 ≤ 0
  · rw [qf_np hc]
    have h3 : 2 ^ (bl N - 1) * 2 ^ (-((bl N : Int) - 53)).toNat ≤ N * 2 ^ (-((bl N : Int) - 53)).toNat := Nat.mul_le_mul_right _ h1
    rw [← Nat.pow_add, show bl N - 1 + (-((bl N : Int) - 53)).toNat = 52 by omega] at h3
    exact h3
  · obtain ⟨c, hc2⟩ : ∃ c : Nat, (bl N : Int) - 53 = c := ⟨bl N - 53, by omega⟩
    rw [hc2, qf_pos (by omega), Nat.le_div_iff_mul_le (p2 c), ← Nat.pow_add, show 52 + c = bl N - 1 by omega]
    exact h1
theorem RV_mk {m q : Nat} (hq : q < 2 ^ 53) (h : m = 0 ∨ 2 ^ 52 ≤ q) : RV (m * 2 ^ 52 + q) = q * 2 ^ m ∧ RV (m * 2 ^ 52 + q + 1) = (q + 1) * 2 ^ m := by
  by_cases h1 : 2 ^ 52 ≤ q
  · obtain ⟨f, rfl⟩ : ∃ f, q = 2 ^ 52 + f := ⟨q - 2 ^ 52, by omega⟩
    have hf : f < 2 ^ 52 := by omega
    have e : m * 2 ^ 52 + (2 ^ 52 + f) = (m + 1) * 2 ^ 52 + f := by rw [Nat.add_mul, Nat.one_mul, Nat.add_assoc]
    rw [e]
    refine ⟨RV_nor hf, ?_⟩
    by_cases h2 : f + 1 < 2 ^ 52
    · rw [Nat.add_assoc, RV_nor h2, Nat.add_assoc]
    · have : f + 1 = 2 ^ 52 := by omega
      have e2 : (m + 1) * 2 ^ 52 + f + 1 = (m + 1 + 1) * 2 ^ 52 + 0 := by
        rw [Nat.add_mul (m + 1) 1, Nat.one_mul, Nat.add_zero, Nat.add_assoc, this]
      rw [e2, RV_nor (q := m + 1) (f := 0) (by decide), Nat.pow_succ 2 m, Nat.add_assoc, this]
      generalize 2 ^ m = Z
      omega
  · have hm : m = 0 := by omega
    subst hm
    rw [Nat.zero_mul, Nat.zero_add, Nat.pow_zero, Nat.mul_one, Nat.mul_one]
    refine ⟨RV_sub (by omega), ?_⟩
    by_cases h2 : q + 1 < 2 ^ 52
    · exact RV_sub h2
    · have : q + 1 = (0 + 1) * 2 ^ 52 + 0 := by omega
      rw [this, RV_nor (by decide)]
theorem TR_lt (N : Nat) (s : Int) : TR N s ≤ INF - 1 := by
  have hI : INF = 9218868437227405312 := rfl
  unfold TR
  split
  · omega
  · next hN =>
    split
    · omega
    · next h =>
      have := (qf_lt (s := s) hN).1
      have := un_ge N s
      omega
theorem TR_mid {N : Nat} {s : Int} (hN : N ≠ 0) (hu : un N s ≤ 971) : RV (TR N s) = qf N (un N s - s) * 2 ^ (un N s + 1074).toNat ∧ RV (TR N s + 1) = (qf N (un N s - s) + 1) * 2 ^ (un N s + 1074).toNat := by
  have hq := (qf_lt (s := s) hN).1
  have e : TR N s = (un N s + 1074).toNat * 2 ^ 52 + qf N (un N s - s) := by
    unfold TR
    rw [if_neg hN, if_neg (by omega)]
  rw [e]
  apply RV_mk hq
  by_cases h : un N s = -1074
  · left
    omega
  · right
    have := un_ge N s
    exact qf_ge hN (by omega)
def VV (K N : Nat) (s : Int) : Nat := N * 2 ^ (s + K).toNat
theorem pw {a b : Nat} {c : Int} (h : (a : Int) = b + c) (hc : 0 ≤ c) : 2 ^ a = 2 ^ b * 2 ^ c.toNat := by
  rw [← Nat.pow_add]
  congr 1
  omega
theorem tr_lo {K N : Nat} {s : Int} (hK : 4000 ≤ K) (hs : -4000 ≤ s) : RV (TR N s) * 2 ^ (K - 1074) ≤ VV K N s := by
  by_cases hN : N = 0
  · have : TR N s = 0 := by unfold TR; rw [if_pos hN]
    rw [this, RV_sub (by decide), Nat.zero_mul]
    exact Nat.zero_le _
  by_cases hu : un N s ≤ 971
  · rw [(TR_mid hN hu).1]
    have hg := un_ge N s
    unfold VV
    rw [Nat.mul_assoc, ← Nat.pow_add]
    by_cases hc : un N s - s ≤ 0
    · rw [qf_np hc, Nat.mul_assoc, ← Nat.pow_add]
      apply Nat.mul_le_mul_left
      apply Nat.pow_le_pow_right (by decide)
      omega
    · obtain ⟨c, hc2⟩ : ∃ c : Nat, un N s - s = c := ⟨(un N s - s).toNat, by omega⟩
      rw [hc2, qf_pos (by omega), show (un N s + 1074).toNat + (K - 1074) = c + (s + K).toNat by omega, Nat.pow_add, ← Nat.mul_assoc]
      exact Nat.mul_le_mul_right _ (Nat.div_mul_le_self _ _)
  · have hI : INF = 9218868437227405312 := rfl
    have e : TR N s = INF - 1 := by unfold TR; rw [if_neg hN, if_pos (by omega)]
    have hu2 : un N s = (bl N : Int) - 53 + s := by
      unfold un at hu ⊢
      split at hu
      · omega
      · next h => rw [if_neg h]
    rw [e]
    have h1 := bl_le hN
    have h2 := bl_pos hN
    have h3 : RV (INF - 1) ≤ 2 ^ 53 * 2 ^ 2045 := by
      have := RV_mk (m := 2045) (q := 2 ^ 53 - 1) (by decide) (Or.inr (by decide))
      rw [show 2045 * 2 ^ 52 + (2 ^ 53 - 1) = INF - 1 by decide] at this
      rw [this.1]
      exact Nat.mul_le_mul_right _ (by decide)
    have h4 : RV (INF - 1) * 2 ^ (K - 1074) ≤ 2 ^ (53 + 2045 + (K - 1074)) := by
      rw [Nat.pow_add 2 (53 + 2045), Nat.pow_add 2 53]
      exact Nat.mul_le_mul_right _ h3
    have h5 : 2 ^ (bl N - 1 + (s + K).toNat) ≤ VV K N s := by
      unfold VV
      rw [Nat.pow_add]
      exact Nat.mul_le_mul_right _ h1
    refine Nat.le_trans h4 (Nat.le_trans (Nat.pow_le_pow_right (by decide) ?_) h5)
    omega
theorem tr_hi {K N : Nat} {s : Int} (hK : 4000 ≤ K) (hs : -4000 ≤ s) (ht : TR N s < INF - 1) : VV K N s < RV (TR N s + 1) * 2 ^ (K - 1074) ∧ (53 ≤ bl N → VV K (N + 1) s ≤ RV (TR N s + 1) * 2 ^ (K - 1074)) := by
  by_cases hN : N = 0
  · have : TR N s = 0 := by unfold TR; rw [if_pos hN]
    rw [this, RV_sub (by decide), hN]
    unfold VV
    refine ⟨by rw [Nat.zero_mul]; exact Nat.mul_pos (by decide) (p2 _), fun h => absurd h (by decide)⟩
  have hu : un N s ≤ 971 := by
    apply Int.not_lt.mp
    intro h9
    have e : TR N s = INF - 1 := by unfold TR; rw [if_neg hN, if_pos h9]
    omega
  have hg := un_ge N s
  rw [(TR_mid hN hu).2]
  unfold VV
  rw [Nat.mul_assoc, ← Nat.pow_add]
  by_cases hc : un N s - s ≤ 0
  · rw [qf_np hc]
    have e : (s + K).toNat = (-(un N s - s)).toNat + ((un N s + 1074).toNat + (K - 1074)) := by omega
    constructor
    · rw [e, Nat.pow_add, ← Nat.mul_assoc]
      exact Nat.mul_lt_mul_of_pos_right (by omega) (p2 _)
    · intro hb
      have h0 : un N s - s = 0 := by
        unfold un at hc ⊢
        split at hc
        · next h => rw [if_pos h]; omega
        · next h => rw [if_neg h]; omega
      rw [e, h0]
      simp
  · obtain ⟨c, hc2⟩ : ∃ c : Nat, un N s - s = c := ⟨(un N s - s).toNat, by omega⟩
    rw [hc2, qf_pos (by omega), show (un N s + 1074).toNat + (K - 1074) = c + (s + K).toNat by omega, Nat.pow_add, ← Nat.mul_assoc]
    have h1 : N < (N / 2 ^ c + 1) * 2 ^ c := by
      have h2 := Nat.div_add_mod N (2 ^ c)
      have h3 := Nat.mod_lt N (p2 c)
      rw [Nat.add_mul, Nat.one_mul, Nat.mul_comm]
      omega
    exact ⟨Nat.mul_lt_mul_of_pos_right h1 (p2 _), fun _ => Nat.mul_le_mul_right _ h1⟩
theorem TR_mono {K N1 N2 : Nat} {s1 s2 : Int} (hK : 4000 ≤ K) (h1 : -4000 ≤ s1) (h2 : -4000 ≤ s2) (h : VV K N1 s1 ≤ VV K N2 s2 ∨ (53 ≤ bl N2 ∧ VV K N1 s1 < VV K (N2 + 1) s2)) : TR N1 s1 ≤ TR N2 s2 := by
  have t1 := TR_lt N1 s1
  have t2 := TR_lt N2 s2
  apply Nat.le_of_not_lt
  intro h9
  obtain ⟨a, b⟩ := tr_hi hK h2 (show TR N2 s2 < INF - 1 by omega)
  have c := tr_lo (N := N1) hK h1
  have d : RV (TR N2 s2 + 1) * 2 ^ (K - 1074) ≤ RV (TR N1 s1) * 2 ^ (K - 1074) := Nat.mul_le_mul_right _ (RV_le.mpr h9)
  rcases h with h | ⟨h, h'⟩
  · omega
  · have := b h
    omega
theorem rm_ge (neg : Bool) (N : Nat) (o : Bool) (s : Int) (how : Nat) : TR N s ≤ rmag neg N o s how := by
  have hI : INF = 9218868437227405312 := rfl
  have t := TR_lt N s
  by_cases hN : N = 0
  · unfold TR rmag
    rw [if_pos hN, if_pos hN]
    exact Nat.le_refl _
  · have e : rmag neg N o s how = mag how (awy neg how) (un N s) (qf N (un N s - s)) (kp N o (un N s - s)) := by unfold rmag; rw [if_neg hN]
    rw [e]
    unfold mag
    by_cases hu : 971 < un N s
    · rw [if_pos hu]
      split <;> omega
    · rw [if_neg hu]
      have e2 : TR N s = (un N s + 1074).toNat * 2 ^ 52 + qf N (un N s - s) := by unfold TR; rw [if_neg hN, if_neg hu]
      rw [e2] at t ⊢
      clear e e2
      generalize (un N s + 1074).toNat * 2 ^ 52 = X at *
      generalize qf N (un N s - s) = q at *
      generalize upQ how (awy neg how) q (kp N o (un N s - s)) = up
      cases up
      · rw [if_neg (show ¬ (false = true) by decide), if_pos (by omega)]
        exact Nat.le_refl _
      · rw [if_pos rfl]
        by_cases h7 : X + (q + 1) < INF
        · rw [if_pos h7]
          omega
        · rw [if_neg h7]
          split <;> omega
theorem rm_le (neg : Bool) (N : Nat) (o : Bool) (s : Int) (how : Nat) : rmag neg N o s how ≤ INF := by
  unfold rmag
  split
  · exact Nat.zero_le _
  · unfold mag
    split
    · split
      · exact Nat.le_refl _
      · exact Nat.sub_le _ _
    · generalize (un N s + 1074).toNat * 2 ^ 52 + (if upQ how (awy neg how) (qf N (un N s - s)) (kp N o (un N s - s)) = true then qf N (un N s - s) + 1 else qf N (un N s - s)) = X
      by_cases h7 : X < INF
      · rw [if_pos h7]
        exact Nat.le_of_lt h7
      · rw [if_neg h7]
        split
        · exact Nat.le_refl _
        · exact Nat.sub_le _ _
theorem rm_dn {neg : Bool} {N : Nat} {o : Bool} {s : Int} {how : Nat} (ha : awy neg how = false) (hh : how ≠ 2) : rmag neg N o s how = TR N s := by
  have hI : INF = 9218868437227405312 := rfl
  have t := TR_lt N s
  by_cases hN : N = 0
  · unfold TR rmag
    rw [if_pos hN, if_pos hN]
  · have e : rmag neg N o s how = mag how (awy neg how) (un N s) (qf N (un N s - s)) (kp N o (un N s - s)) := by unfold rmag; rw [if_neg hN]
    rw [e, ha]
    unfold mag
    by_cases hu : 971 < un N s
    · rw [if_pos hu]
      unfold TR
      rw [if_neg hN, if_pos hu]
      rfl
    · rw [if_neg hu]
      have e2 : TR N s = (un N s + 1074).toNat * 2 ^ 52 + qf N (un N s - s) := by unfold TR; rw [if_neg hN, if_neg hu]
      have e3 : upQ how false (qf N (un N s - s)) (kp N o (un N s - s)) = false := by
        unfold upQ
        rw [if_neg hh, Bool.and_false]
      rw [e3, e2]
      rw [e2] at t
      rw [if_neg (show ¬ (false = true) by decide), if_pos (by omega)]
theorem RND_abs (neg : Bool) (N : Nat) (o : Bool) (s : Int) (how : Nat) : (RND neg N o s how).natAbs ≤ INF := by
  have := rm_le neg N o s how
  unfold RND
  split <;> omega
theorem RND_d0 (N : Nat) (o : Bool) (s : Int) : RND false N o s 0 = (TR N s : Int) := by
  unfold RND
  rw [if_neg (by decide), rm_dn (by decide) (by decide)]
theorem RND_d1 (N : Nat) (o : Bool) (s : Int) : RND true N o s 1 = -(TR N s : Int) := by
  unfold RND
  rw [if_pos rfl, rm_dn (by decide) (by decide)]
theorem RND_u1 (N : Nat) (o : Bool) (s : Int) : (TR N s : Int) ≤ RND false N o s 1 := by
  have := rm_ge false N o s 1
  unfold RND
  rw [if_neg (by decide)]
  omega
theorem RND_u0 (N : Nat) (o : Bool) (s : Int) : RND true N o s 0 ≤ -(TR N s : Int) := by
  have := rm_ge true N o s 0
  unfold RND
  rw [if_pos rfl]
  omega
theorem RND_lt0 (neg : Bool) (N : Nat) (o : Bool) (s : Int) : RND neg N o s 0 < INF := by
  have hI : INF = 9218868437227405312 := rfl
  cases neg
  · rw [RND_d0]
    have := TR_lt N s
    omega
  · have := RND_u0 N o s
    omega
theorem RND_gt1 (neg : Bool) (N : Nat) (o : Bool) (s : Int) : -(INF : Int) < RND neg N o s 1 := by
  have hI : INF = 9218868437227405312 := rfl
  cases neg
  · have := RND_u1 N o s
    omega
  · rw [RND_d1]
    have := TR_lt N s
    omega
theorem RND_same (neg : Bool) (N : Nat) (o o' : Bool) (s : Int) : RND neg N o s 0 ≤ RND neg N o' s 1 := by
  cases neg
  · rw [RND_d0]
    exact RND_u1 N o' s
  · rw [RND_d1]
    exact RND_u0 N o s
theorem RND_nn {N1 N2 : Nat} {o1 o2 : Bool} {s1 s2 : Int} (h : TR N1 s1 ≤ TR N2 s2) : RND false N1 o1 s1 0 ≤ RND false N2 o2 s2 1 := by
  rw [RND_d0]
  have := RND_u1 N2 o2 s2
  omega
theorem RND_mm {N1 N2 : Nat} {o1 o2 : Bool} {s1 s2 : Int} (h : TR N2 s2 ≤ TR N1 s1) : RND true N1 o1 s1 0 ≤ RND true N2 o2 s2 1 := by
  rw [RND_d1]
  have := RND_u0 N1 o1 s1
  omega
theorem RND_p (N : Nat) (o : Bool) (s : Int) (how : Nat) : 0 ≤ RND false N o s how := by
  unfold RND
  rw [if_neg (by decide)]
  omega
theorem RND_m (N : Nat) (o : Bool) (s : Int) (how : Nat) : RND true N o s how ≤ 0 := by
  unfold RND
  rw [if_pos rfl]
  omega
