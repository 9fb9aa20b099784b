-- whole numbers
theorem PP_ex : ∃ P : Nat, P = 2 ^ 1074 := ⟨_, rfl⟩
noncomputable def PP : Nat := Classical.choose PP_ex
theorem PP_eq : PP = 2 ^ 1074 := Classical.choose_spec PP_ex
theorem PP_pos : 0 < PP := by rw [PP_eq]; exact p2 1074
def ONE : Nat := 4607182418800017408
def wt (n : Nat) : Nat := if 0 ≤ ex n then n else if ex n < -52 then 0 else n / 2 ^ (-ex n).toNat * 2 ^ (-ex n).toNat
theorem RV_ONE : RV ONE = PP := by
  have := RV_nor (f := 0) (q := 1022) (by decide)
  rw [show (1022 + 1) * 2 ^ 52 + 0 = ONE by decide] at this
  rw [this, Nat.add_zero, ← Nat.pow_add, PP_eq]
theorem wt_le (n : Nat) : wt n ≤ n := by
  unfold wt
  split
  · exact Nat.le_refl _
  · split
    · exact Nat.zero_le _
    · exact Nat.div_mul_le_self _ _
theorem mid_n {n : Nat} (h2 : ¬ ex n < -52) : 2 ^ 52 ≤ n ∧ ex n = ((n / 2 ^ 52 : Nat) : Int) - 1075 ∧ mt n = n % 2 ^ 52 + 2 ^ 52 := by
  have h : ¬ n < 2 ^ 52 := by
    intro h9
    apply h2
    unfold ex
    rw [if_pos h9]
    decide
  unfold ex mt
  rw [if_neg h, if_neg h]
  exact ⟨by omega, rfl, rfl⟩
theorem wt_mid {n k : Nat} (h2 : ¬ ex n < -52) (hk : (k : Int) = -ex n) (hk0 : 0 < k) : k ≤ 52 ∧ mt n % 2 ^ k = n % 2 ^ k ∧ mt (n / 2 ^ k * 2 ^ k) = mt n / 2 ^ k * 2 ^ k ∧ ex (n / 2 ^ k * 2 ^ k) = ex n ∧ n / 2 ^ k * 2 ^ k = n - n % 2 ^ k := by
  obtain ⟨h1, e1, e2⟩ := mid_n h2
  have hk52 : k ≤ 52 := by omega
  obtain ⟨j, hj⟩ : ∃ j, 52 = k + j := ⟨52 - k, by omega⟩
  have e52 : (2 : Nat) ^ 52 = 2 ^ k * 2 ^ j := by rw [← Nat.pow_add, ← hj]
  have pk := p2 k
  have pj := p2 j
  have hdm := Nat.div_add_mod n (2 ^ k)
  have hml := Nat.mod_lt n pk
  have e3 : n / 2 ^ k * 2 ^ k = n - n % 2 ^ k := by rw [Nat.mul_comm]; omega
  have m1 : mt n % 2 ^ k = n % 2 ^ k := by
    rw [e2, e52, Nat.add_mul_mod_self_left, Nat.mod_mul_right_mod]
  have d1 : n / 2 ^ k * 2 ^ k / 2 ^ 52 = n / 2 ^ 52 := by
    rw [e52, Nat.mul_comm (2 ^ k) (2 ^ j), Nat.mul_div_mul_right _ _ pk, Nat.mul_comm (2 ^ j), Nat.div_div_eq_div_mul]
  have d2 : 2 ^ 52 ≤ n / 2 ^ k * 2 ^ k := by
    have : 2 ^ j ≤ n / 2 ^ k := by
      rw [Nat.le_div_iff_mul_le pk, Nat.mul_comm, ← e52]
      exact h1
    rw [e52, Nat.mul_comm (2 ^ k)]
    exact Nat.mul_le_mul_right _ this
  have d3 : n / 2 ^ k * 2 ^ k % 2 ^ 52 = n % 2 ^ 52 / 2 ^ k * 2 ^ k := by
    rw [e52, Nat.mul_comm (2 ^ k) (2 ^ j), Nat.mul_mod_mul_right, Nat.mul_comm (2 ^ j), Nat.mod_mul_right_div_self]
  refine ⟨hk52, m1, ?_, ?_, e3⟩
  · unfold mt
    rw [if_neg (by omega), if_neg (by omega), d3]
    have : (n % 2 ^ 52 + 2 ^ 52) / 2 ^ k = n % 2 ^ 52 / 2 ^ k + 2 ^ j := by
      conv => lhs; arg 1; arg 2; rw [e52]
      rw [Nat.add_mul_div_left _ _ pk]
    rw [this, Nat.add_mul, Nat.mul_comm (2 ^ j), ← e52]
  · unfold ex
    rw [if_neg (by omega), if_neg (by omega), d1]
theorem RV_wt (n : Nat) : RV (wt n) = RV n / PP * PP ∧ (wt n = n ↔ RV n % PP = 0) := by
  have hdm := Nat.div_add_mod (RV n) PP
  have eq : RV (wt n) = RV n / PP * PP := by
    by_cases h1 : 0 ≤ ex n
    · have e : wt n = n := by unfold wt; rw [if_pos h1]
      have : RV n = mt n * 2 ^ (ex n).toNat * PP := by
        rw [PP_eq]
        unfold RV
        rw [Nat.mul_assoc, ← Nat.pow_add, show (ex n + 1074).toNat = (ex n).toNat + 1074 by omega]
      rw [e]
      conv => rhs; rw [this]
      rw [Nat.mul_div_cancel _ PP_pos]
      exact this
    · by_cases h2 : ex n < -52
      · have e : wt n = 0 := by unfold wt; rw [if_neg h1, if_pos h2]
        have hg := ex_ge n
        have : RV n < PP := by
          rw [PP_eq]
          unfold RV
          have h3 : mt n * 2 ^ (ex n + 1074).toNat < 2 ^ 53 * 2 ^ (ex n + 1074).toNat := Nat.mul_lt_mul_of_pos_right (mt_lt _) (p2 _)
          rw [← Nat.pow_add] at h3
          exact Nat.lt_of_lt_of_le h3 (Nat.pow_le_pow_right (by decide) (by omega))
        rw [e, RV_0, Nat.div_eq_of_lt this, Nat.zero_mul]
      · obtain ⟨k, hk⟩ : ∃ k, k = (-ex n).toNat := ⟨_, rfl⟩
        have e : wt n = n / 2 ^ k * 2 ^ k := by unfold wt; rw [if_neg h1, if_neg h2, hk]
        obtain ⟨w1, w2, w3, w4, w5⟩ := wt_mid (k := k) h2 (by omega) (by omega)
        have pk := p2 k
        have eP : PP = 2 ^ k * 2 ^ (ex n + 1074).toNat := by
          rw [PP_eq, ← Nat.pow_add, show k + (ex n + 1074).toNat = 1074 by omega]
        have er : RV (wt n) = mt n / 2 ^ k * PP := by
          rw [e]
          unfold RV
          rw [w3, w4, eP, Nat.mul_assoc]
        have eq2 : RV n / PP = mt n / 2 ^ k := by
          unfold RV
          rw [eP, Nat.mul_div_mul_right _ _ (p2 _)]
        rw [er, eq2]
  refine ⟨eq, ?_⟩
  constructor
  · intro h
    rw [h] at eq
    rw [eq]
    exact Nat.mul_mod_left _ _
  · intro h
    have h3 : RV (wt n) = RV n := by rw [eq, Nat.mul_comm]; omega
    have h4 := RV_le.mp (Nat.le_of_eq h3)
    have h5 := RV_le.mp (Nat.le_of_eq h3.symm)
    omega
theorem I_lt {n : Nat} (h : wt n ≠ n) : RV n / PP < 2 ^ 52 := by
  have h1 : ¬ 0 ≤ ex n := by
    intro h9
    apply h
    unfold wt
    rw [if_pos h9]
  rw [Nat.div_lt_iff_lt_mul PP_pos, PP_eq]
  unfold RV
  have hg := ex_ge n
  have h3 : mt n * 2 ^ (ex n + 1074).toNat < 2 ^ 53 * 2 ^ (ex n + 1074).toNat := Nat.mul_lt_mul_of_pos_right (mt_lt _) (p2 _)
  rw [← Nat.pow_add] at h3 ⊢
  exact Nat.lt_of_lt_of_le h3 (Nat.pow_le_pow_right (by decide) (by omega))
theorem exact_TR {I : Nat} (hI : I + 1 ≤ 2 ^ 52) (neg : Bool) (how : Nat) (hh : how < 3) : rmag neg ((I + 1) * PP) false (-1074) how = TR ((I + 1) * PP) (-1074) ∧ RV (TR ((I + 1) * PP) (-1074)) = (I + 1) * PP := by
  have hN : (I + 1) * PP ≠ 0 := Nat.mul_ne_zero (by omega) (by have := PP_pos; omega)
  have hb : bl ((I + 1) * PP) = bl (I + 1) + 1074 := by rw [PP_eq]; exact bl_mul 1074 (by omega)
  have hb2 : bl (I + 1) ≤ 53 := bl_of_lt (by omega)
  have hu : un ((I + 1) * PP) (-1074) = (bl (I + 1) : Int) - 53 := by
    unfold un
    rw [hb, if_neg (by omega)]
    omega
  obtain ⟨c, hc⟩ : ∃ c : Nat, un ((I + 1) * PP) (-1074) - (-1074) = c := ⟨bl (I + 1) + 1021, by rw [hu]; omega⟩
  have hcb : c = bl (I + 1) + 1021 := by rw [hu] at hc; omega
  have hd : (I + 1) * PP % 2 ^ c = 0 := by
    rw [PP_eq, show (2 : Nat) ^ 1074 = 2 ^ (1074 - c) * 2 ^ c by rw [← Nat.pow_add, show 1074 - c + c = 1074 by omega], ← Nat.mul_assoc, Nat.mul_mod_left]
  have hk : kp ((I + 1) * PP) false (un ((I + 1) * PP) (-1074) - (-1074)) = 0 := by
    rw [hc]
    exact (kp_0 (by omega)).mpr ⟨hd, rfl⟩
  constructor
  · unfold rmag TR
    rw [if_neg hN, if_neg hN, hk]
    have : upQ how (awy neg how) (qf ((I + 1) * PP) (un ((I + 1) * PP) (-1074) - (-1074))) 0 = false := by
      unfold upQ
      split
      · rfl
      · rfl
    unfold mag
    rw [if_neg (show ¬ 971 < un ((I + 1) * PP) (-1074) by omega), if_neg (show ¬ 971 < un ((I + 1) * PP) (-1074) by omega), this, if_neg (show ¬ (false = true) by decide)]
    have hq := (qf_lt (s := -1074) hN).1
    have hIN : INF = 9218868437227405312 := rfl
    rw [if_pos (by omega)]
  · rw [(TR_mid hN (by omega)).1, hc, qf_pos (by omega), show (un ((I + 1) * PP) (-1074) + 1074).toNat = c by omega]
    have := Nat.div_add_mod ((I + 1) * PP) (2 ^ c)
    rw [hd, Nat.add_zero, Nat.mul_comm] at this
    exact this
noncomputable def UP1 (n : Nat) : Nat := TR ((RV n / PP + 1) * PP) (-1074)
theorem up_sum {n : Nat} (h : wt n ≠ n) : SUM (wt n) ONE 2 = UP1 n ∧ SUM (-(wt n : Int)) (-(ONE : Int)) 0 = -(UP1 n : Int) ∧ RV (UP1 n) = (RV n / PP + 1) * PP := by
  have hi := I_lt h
  have e : RV (wt n) + RV ONE = (RV n / PP + 1) * PP := by
    rw [(RV_wt n).1, RV_ONE, Nat.add_mul, Nat.one_mul]
  have hO : (ONE : Int) = 4607182418800017408 := rfl
  obtain ⟨x1, x2⟩ := exact_TR (I := RV n / PP) (by omega) false 2 (by decide)
  obtain ⟨x3, _⟩ := exact_TR (I := RV n / PP) (by omega) true 0 (by decide)
  refine ⟨?_, ?_, x2⟩
  · unfold SUM
    have e1 : sneg (wt n) ONE = false := by unfold sneg; rw [d_lt0.mpr (show (0 : Int) ≤ (wt n : Int) by omega), d_lt0.mpr (show (0 : Int) ≤ (ONE : Int) by omega), if_pos rfl]
    have e2 : sabs (wt n) ONE = (RV n / PP + 1) * PP := by unfold sabs; rw [d_lt0.mpr (show (0 : Int) ≤ (wt n : Int) by omega), d_lt0.mpr (show (0 : Int) ≤ (ONE : Int) by omega), if_pos rfl, Int.natAbs_natCast, Int.natAbs_natCast, e]
    rw [e1, e2]
    unfold RND
    rw [if_neg (by decide), x1]
    rfl
  · unfold SUM
    obtain ⟨s1, s2, s3⟩ := sabs_S (-(wt n : Int)) (-(ONE : Int))
    have e0 : SV (-(wt n : Int)) + SV (-(ONE : Int)) = -(((RV n / PP + 1) * PP : Nat) : Int) := by
      rw [SV_neg, SV_neg]
      unfold SV
      rw [if_neg (by omega), if_neg (by omega), Int.natAbs_natCast, Int.natAbs_natCast, ← e]
      omega
    have hpos : 0 < (RV n / PP + 1) * PP := Nat.mul_pos (Nat.succ_pos _) PP_pos
    have e1 : sneg (-(wt n : Int)) (-(ONE : Int)) = true := by
      cases hs : sneg (-(wt n : Int)) (-(ONE : Int))
      · have := s3 hs
        omega
      · rfl
    rw [e1, s1, e0, Int.natAbs_neg, Int.natAbs_natCast]
    unfold RND
    rw [if_pos rfl, x3]
    rfl
noncomputable def STEP (v : Int) (how : Nat) : Int := if wt v.natAbs ≠ v.natAbs ∧ how ≠ 2 ∧ ((how = 1) ↔ ¬ v < 0) then (if v < 0 then -(UP1 v.natAbs : Int) else UP1 v.natAbs) else (if v < 0 then -(wt v.natAbs : Int) else wt v.natAbs)
theorem SV_u {r : Int} (h : 0 ≤ r) : SV r = RV r.natAbs := by unfold SV; rw [if_neg (by omega)]
theorem SV_nat (n : Nat) : SV (n : Int) = RV n := by rw [SV_u (by omega), Int.natAbs_natCast]
theorem SV_nn (n : Nat) : SV (-(n : Int)) = -(RV n : Int) := by rw [SV_neg, SV_nat]
/-- down: the floor -/
theorem STEP_0 (v : Int) : SV (STEP v 0) = SV v / (PP : Int) * PP := by
  have hp := PP_pos
  have w := RV_wt v.natAbs
  have hdm := Nat.div_add_mod (RV v.natAbs) PP
  have hml := Nat.mod_lt (RV v.natAbs) hp
  unfold STEP
  by_cases hv : v < 0
  · have ev : SV v = -(RV v.natAbs : Int) := by unfold SV; rw [if_pos hv]
    by_cases hw : wt v.natAbs = v.natAbs
    · rw [if_neg (fun h => h.1 hw), if_pos hv, SV_nn, w.1, ev]
      have hz := w.2.mp hw
      obtain ⟨q, hq⟩ : ∃ q, q = RV v.natAbs / PP := ⟨_, rfl⟩
      rw [← hq] at hdm ⊢
      have e : RV v.natAbs = q * PP := by rw [Nat.mul_comm]; omega
      rw [e]
      have : -((q * PP : Nat) : Int) = (-(q : Int)) * (PP : Int) := by rw [Int.natCast_mul, Int.neg_mul]
      rw [this, Int.mul_ediv_cancel _ (by omega)]
    · rw [if_pos ⟨hw, by decide, by constructor; (intro h; cases h); (intro h; exact absurd hv h)⟩, if_pos hv, SV_nn, (up_sum hw).2.2, ev]
      have hz : RV v.natAbs % PP ≠ 0 := fun h => hw (w.2.mpr h)
      obtain ⟨q, hq⟩ : ∃ q, q = RV v.natAbs / PP := ⟨_, rfl⟩
      obtain ⟨r, hr⟩ : ∃ r, r = RV v.natAbs % PP := ⟨_, rfl⟩
      rw [← hq, ← hr] at hdm
      rw [← hr] at hz hml
      rw [← hq]
      have e : (-(RV v.natAbs : Int)) = ((PP : Int) - r) + (PP : Int) * (-((q : Int) + 1)) := by
        rw [← hdm, Int.natCast_add, Int.natCast_mul, Int.mul_neg, Int.mul_add, Int.mul_one]
        omega
      rw [e, Int.add_mul_ediv_left _ _ (by omega), Int.ediv_eq_zero_of_lt (by omega) (by omega), Int.zero_add, Int.natCast_mul, Int.neg_mul]
      congr 1
  · have ev : SV v = (RV v.natAbs : Int) := by unfold SV; rw [if_neg hv]
    rw [if_neg (fun h => absurd (h.2.2.mpr hv) (by decide)), if_neg hv, SV_nat, w.1, ev, ← Int.natCast_ediv, ← Int.natCast_mul]
theorem STEP_f {v : Int} {how : Nat} (h : ¬ (wt v.natAbs ≠ v.natAbs ∧ how ≠ 2 ∧ ((how = 1) ↔ ¬ v < 0))) : STEP v how = if v < 0 then -(wt v.natAbs : Int) else wt v.natAbs := by
  unfold STEP
  exact if_neg h
theorem STEP_t {v : Int} {how : Nat} (h : wt v.natAbs ≠ v.natAbs ∧ how ≠ 2 ∧ ((how = 1) ↔ ¬ v < 0)) : STEP v how = if v < 0 then -(UP1 v.natAbs : Int) else UP1 v.natAbs := by
  unfold STEP
  exact if_pos h
theorem STEP_1 (v : Int) : STEP v 1 = -STEP (-v) 0 := by
  by_cases hw : wt v.natAbs = v.natAbs
  · rw [STEP_f (fun h => h.1 hw), STEP_f (fun h => h.1 (by rw [Int.natAbs_neg]; exact hw)), Int.natAbs_neg]
    by_cases hv : v < 0
    · rw [if_pos hv, if_neg (by omega)]
    · rw [if_neg hv]
      by_cases h0 : v = 0
      · subst h0
        decide
      · rw [if_pos (by omega), Int.neg_neg]
  · have h0 : v ≠ 0 := by
      intro h
      subst h
      exact hw (by decide)
    have hw' : wt (-v).natAbs ≠ (-v).natAbs := by rw [Int.natAbs_neg]; exact hw
    by_cases hv : v < 0
    · rw [STEP_f (fun h => absurd hv (h.2.2.mp rfl)), STEP_f (fun h => absurd (h.2.2.mpr (by omega)) (by decide)), Int.natAbs_neg, if_pos hv, if_neg (by omega)]
    · rw [STEP_t ⟨hw, by decide, ⟨fun _ => hv, fun _ => rfl⟩⟩, STEP_t ⟨hw', by decide, ⟨fun h => absurd h (by decide), fun h => absurd (show -v < 0 by omega) h⟩⟩, Int.natAbs_neg, if_neg hv, if_pos (by omega), Int.neg_neg]
theorem STEP_2 (v : Int) : STEP v 2 = if v < 0 then -(wt v.natAbs : Int) else wt v.natAbs := by
  unfold STEP
  rw [if_neg (fun h => h.2.1 rfl)]
theorem step_mono0 {a b : Int} (h : a ≤ b) : STEP a 0 ≤ STEP b 0 := by
  apply SV_lt
  rw [STEP_0, STEP_0]
  have hp := PP_pos
  exact Int.mul_le_mul_of_nonneg_right (Int.ediv_le_ediv (by omega) (SV_mono h)) (by omega)
theorem step_mono1 {a b : Int} (h : a ≤ b) : STEP a 1 ≤ STEP b 1 := by
  rw [STEP_1, STEP_1]
  have := step_mono0 (show -b ≤ -a by omega)
  omega
theorem wt_mono {m n : Nat} (h : m ≤ n) : wt m ≤ wt n := by
  apply RV_le.mp
  rw [(RV_wt m).1, (RV_wt n).1]
  exact Nat.mul_le_mul_right _ (Nat.div_le_div_right (RV_le.mpr h))
theorem step_mono2 {a b : Int} (h : a ≤ b) : STEP a 2 ≤ STEP b 2 := by
  rw [STEP_2, STEP_2]
  by_cases ha : a < 0
  · rw [if_pos ha]
    by_cases hb : b < 0
    · rw [if_pos hb]
      have := wt_mono (show b.natAbs ≤ a.natAbs by omega)
      omega
    · rw [if_neg hb]
      omega
  · rw [if_neg ha, if_neg (by omega)]
    have := wt_mono (show a.natAbs ≤ b.natAbs by omega)
    omega
theorem UP1_lt {n : Nat} (h : wt n ≠ n) : UP1 n < INF := by
  apply Nat.lt_of_not_le
  intro h9
  have h1 := RV_le.mpr h9
  rw [(up_sum h).2.2] at h1
  have h2 := I_lt h
  have h3 : RV INF = 2 ^ 52 * 2 ^ 972 * PP := by
    have := RV_nor (f := 0) (q := 2046) (by decide)
    rw [show (2046 + 1) * 2 ^ 52 + 0 = INF by decide] at this
    rw [this, Nat.add_zero, PP_eq, Nat.mul_assoc, ← Nat.pow_add 2 972 1074]
  rw [h3] at h1
  have h4 := Nat.le_of_mul_le_mul_right h1 PP_pos
  have h5 : 2 ^ 52 * 2 ^ 1 ≤ 2 ^ 52 * 2 ^ 972 := Nat.mul_le_mul_left _ (Nat.pow_le_pow_right (by decide) (by decide))
  have h6 : RV n / PP + 1 ≤ 2 ^ 52 := h2
  have h7 := Nat.le_trans h5 (Nat.le_trans h4 h6)
  exact absurd h7 (by decide)
theorem STEP_abs {v : Int} {how : Nat} (h : v.natAbs ≤ INF) : (STEP v how).natAbs ≤ INF ∧ (v.natAbs < INF → (STEP v how).natAbs < INF) := by
  have h1 := wt_le v.natAbs
  unfold STEP
  split
  · next hc =>
    have := UP1_lt hc.1
    split <;> omega
  · split <;> omega
