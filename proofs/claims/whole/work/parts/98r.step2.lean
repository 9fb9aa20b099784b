-- whole numbers, both sides
theorem lN_Z (n : Nat) : lN n = lZ (n : Int) := rfl
theorem tz37 {v : Int} {w : Nat} (hv : v.natAbs ≤ INF) : f_Rank_towardsZero_37 (lN w) (lZ v) = some (lZ (if v < 0 then -(w : Int) else w)) := by
  have hI : INF = 9218868437227405312 := rfl
  unfold f_Rank_towardsZero_37 f_Rank_towardsZero_53
  by_cases h : v < 0
  · rw [if_neg (fun h9 => by have := (l_le0 (by omega) (by omega)).mp h9; omega), if_pos h, lN_Z, lZ_neg]
  · rw [if_pos ((l_le0 (by omega) (by omega)).mpr (by omega)), if_neg h, lN_Z]
theorem tz_ok {v : Int} (hv : v.natAbs ≤ INF) : f_Rank_towardsZero (lZ v) = some (lZ (STEP v 2)) := by
  have hI : INF = 9218868437227405312 := rfl
  have hg := ex_ge v.natAbs
  have hx : ex v.natAbs ≤ 972 := by
    unfold ex
    split
    · omega
    · omega
  unfold f_Rank_towardsZero f_Rank_towardsZero_0
  rw [abs_l (by omega), jl_, ex_c (by omega), Option.bind_some, z_neg, jl_, STEP_2]
  by_cases h1 : 0 ≤ ex v.natAbs
  · rw [if_neg (show ¬ (0 : Int32) < zI (-ex v.natAbs) from fun h9 => by have := (z_lt (a := 0) (by decide) (by decide) (by omega) (by omega)).mp h9; omega)]
    have : wt v.natAbs = v.natAbs := by unfold wt; rw [if_pos h1]
    rw [this]
    congr 2
    split <;> omega
  · rw [if_pos (show (0 : Int32) < zI (-ex v.natAbs) from (z_lt (a := 0) (by decide) (by decide) (by omega) (by omega)).mpr (by omega))]
    by_cases h2 : ex v.natAbs < -52
    · rw [if_neg (show ¬ zI (-ex v.natAbs) ≤ (52 : Int32) from fun h9 => by have := (z_le (b := 52) (by omega) (by omega) (by decide) (by decide)).mp h9; omega), show (0 : Int64) = lN 0 from rfl, tz37 hv]
      have : wt v.natAbs = 0 := by unfold wt; rw [if_neg h1, if_pos h2]
      rw [this]
    · rw [if_pos (show zI (-ex v.natAbs) ≤ (52 : Int32) from (z_le (b := 52) (by omega) (by omega) (by decide) (by decide)).mpr (by omega))]
      have : wt v.natAbs = v.natAbs / 2 ^ (-ex v.natAbs).toNat * 2 ^ (-ex v.natAbs).toNat := by unfold wt; rw [if_neg h1, if_neg h2]
      rw [this, show zI (-ex v.natAbs) = nI (-ex v.natAbs).toNat by rw [z_nI]; exact congrArg zI (by omega), q_ushr (by omega) (by omega), q_shl (by omega), tz37 hv]
theorem v_lt {v : Int} : v < STEP v 2 ↔ (v < 0 ∧ wt v.natAbs ≠ v.natAbs) := by
  rw [STEP_2]
  have := wt_le v.natAbs
  by_cases h : v < 0
  · rw [if_pos h]
    omega
  · rw [if_neg h]
    omega
theorem fl_ok {v : Int} (hv : v.natAbs ≤ INF) : f_Rank_floor (lZ v) = some (lZ (STEP v 0)) := by
  have hI : INF = 9218868437227405312 := rfl
  have hO : (ONE : Int) = 4607182418800017408 := rfl
  have hs := STEP_abs (how := 2) hv
  unfold f_Rank_floor f_Rank_floor_0 f_Rank_floor_23
  rw [tz_ok hv, Option.bind_some]
  by_cases h : v < 0 ∧ wt v.natAbs ≠ v.natAbs
  · rw [if_pos ((l_lt (by omega) (by omega) (by omega) (by omega)).mpr (v_lt.mpr h))]
    have hwl := wt_le v.natAbs
    have e : STEP v 2 = -(wt v.natAbs : Int) := by rw [STEP_2, if_pos h.1]
    have hlt : wt v.natAbs < INF := by omega
    rw [e, show (-4607182418800017408 : Int64) = lZ (-(ONE : Int)) by decide, show (-1 : Int32) = wI 0 from rfl, csum_ok (by decide) (by omega) (by omega), Option.bind_some]
    have := (up_sum h.2).2.1
    unfold SUM at this
    rw [this, STEP_t ⟨h.2, by decide, ⟨fun h9 => absurd h9 (by decide), fun h9 => absurd h.1 h9⟩⟩, if_pos h.1]
  · rw [if_neg (fun h9 => h (v_lt.mp ((l_lt (by omega) (by omega) (by omega) (by omega)).mp h9)))]
    rw [STEP_2, STEP_f (fun h9 => h ⟨?_, h9.1⟩)]
    apply Int.not_le.mp
    intro h8
    exact absurd (h9.2.2.mpr (by omega)) (by decide)
theorem wh_ok {v : Int} (hv : v.natAbs ≤ INF) (ov : Int32) : f_Ref_whole (lZ v) ov = some (lN (wt v.natAbs), bI (decide (wt v.natAbs ≠ v.natAbs))) := by
  have hI : INF = 9218868437227405312 := rfl
  have hg := ex_ge v.natAbs
  have hx : ex v.natAbs ≤ 972 := by
    unfold ex
    split
    · omega
    · omega
  unfold f_Ref_whole f_Ref_whole_0 f_Ref_whole_28
  rw [abs_r (by omega), Option.bind_some, ex_r (by omega), Option.bind_some, isInf_ok hv, Option.bind_some]
  by_cases hi : v.natAbs = INF
  · rw [if_neg (by rw [show decide (v.natAbs = INF) = true by simp [hi]]; decide)]
    have : wt v.natAbs = v.natAbs := by
      unfold wt
      rw [if_pos]
      rw [hi]
      decide
    rw [this]
    simp [bI]
  rw [if_pos (by rw [show decide (v.natAbs = INF) = false by simp [hi]]; decide)]
  by_cases h1 : 0 ≤ ex v.natAbs
  · rw [if_neg (fun h9 => by have := (z_lt0 (by omega) (by omega)).mp h9; omega)]
    have : wt v.natAbs = v.natAbs := by unfold wt; rw [if_pos h1]
    rw [this]
    simp [bI]
  · rw [if_pos ((z_lt0 (by omega) (by omega)).mpr (by omega))]
    by_cases h2 : ex v.natAbs < -52
    · rw [show (-52 : Int32) = zI (-52) by decide, if_neg (show ¬ zI (-52) ≤ zI (ex v.natAbs) from fun h9 => by have := (z_le (a := -52) (by decide) (by decide) (by omega) (by omega)).mp h9; omega)]
      have : wt v.natAbs = 0 := by unfold wt; rw [if_neg h1, if_pos h2]
      rw [this]
      by_cases h0 : v.natAbs = 0
      · rw [h0, if_pos (by decide)]
        rfl
      · rw [if_neg (fun h9 => h0 ((q_eq0 (by omega)).mp h9)), show decide (0 ≠ v.natAbs) = true from decide_eq_true (by omega)]
        rfl
    · rw [show (-52 : Int32) = zI (-52) by decide, if_pos (show zI (-52) ≤ zI (ex v.natAbs) from (z_le (a := -52) (by decide) (by decide) (by omega) (by omega)).mpr (by omega))]
      obtain ⟨k, hk⟩ : ∃ k, k = (-ex v.natAbs).toNat := ⟨_, rfl⟩
      obtain ⟨w1, w2, w3, w4, w5⟩ := wt_mid (k := k) h2 (by omega) (by omega)
      have ew : wt v.natAbs = v.natAbs / 2 ^ k * 2 ^ k := by unfold wt; rw [if_neg h1, if_neg h2, hk]
      have hm := mt_lt v.natAbs
      have hml := Nat.mod_lt (mt v.natAbs) (p2 k)
      have hdm := Nat.div_add_mod (mt v.natAbs) (2 ^ k)
      have e3 : mt v.natAbs / 2 ^ k * 2 ^ k = mt v.natAbs - mt v.natAbs % 2 ^ k := by rw [Nat.mul_comm]; omega
      have hmin := Nat.mod_le (mt v.natAbs) (2 ^ k)
      have hnm := Nat.mod_le v.natAbs (2 ^ k)
      have hm52 : 2 ^ 52 ≤ mt v.natAbs := (mid_n h2).2.2 ▸ Nat.le_add_left _ _
      have hn0 : mt v.natAbs / 2 ^ k * 2 ^ k ≠ 0 := by
        have h5 : 1 ≤ mt v.natAbs / 2 ^ k := by
          rw [Nat.le_div_iff_mul_le (p2 k), Nat.one_mul]
          exact Nat.le_trans (Nat.pow_le_pow_right (by decide) w1) hm52
        exact Nat.mul_ne_zero (by omega) (by have := p2 k; omega)
      rw [mt_r (by omega), Option.bind_some, z_neg, show zI (-ex v.natAbs) = nI k by rw [z_nI]; exact congrArg zI (by omega), q_shr (by omega) (by omega), q_shl (by omega), jl_, Option.bind_some]
      have K : ∀ b : Bool, f_Ref_whole_84 (bI b) (lN v.natAbs) (lN (mt v.natAbs / 2 ^ k * 2 ^ k)) (0 : Int32) = some (lN (wt v.natAbs), bI b) := fun b => by
        unfold f_Ref_whole_84 f_Ref_whole_107
        rw [if_pos (by cases b; exact Or.inl rfl; exact Or.inr rfl), if_neg (fun h9 => hn0 ((q_eq0 (by omega)).mp h9)), mt_r (by omega), Option.bind_some, lN_sub (by omega), lN_sub (by omega), ew, w5]
        congr 3
        omega
      by_cases h5 : mt v.natAbs % 2 ^ k = 0
      · rw [if_pos (by rw [e3, h5, Nat.sub_zero])]
        rw [show decide (wt v.natAbs ≠ v.natAbs) = false from decide_eq_false (by rw [ew, w5]; omega)]
        exact K false
      · rw [if_neg (fun h9 => h5 (by have := (pk_lEQ (by omega) (by omega)).mp h9; omega))]
        rw [show decide (wt v.natAbs ≠ v.natAbs) = true from decide_eq_true (by rw [ew, w5]; omega)]
        exact K true
theorem rstep_ok {v : Int} {how : Nat} (hh : how < 3) (hv : v.natAbs ≤ INF) {g : Nat → Int32} {N : Nat → Nat} (hB : Big g N) (ov : Int32) : ∃ g' N' ov', f_Ref_step (lZ v) (nI how) g ov = some (lZ (STEP v how), g', bI ov') ∧ Big g' N' := by
  have hI : INF = 9218868437227405312 := rfl
  have hO : (ONE : Int) = 4607182418800017408 := rfl
  have K72 : ∀ (w : Nat) (g' : Nat → Int32) (o : Int32), f_Ref_step_72 (lZ v) (lN w) g' o = some (lZ (if v < 0 then -(w : Int) else w), g', o) := fun w g' o => by
    unfold f_Ref_step_72 f_Ref_step_86
    by_cases h : v < 0
    · rw [if_neg (fun h9 => by have := (l_le0 (by omega) (by omega)).mp h9; omega), if_pos h, lN_Z, lZ_neg]
    · rw [if_pos ((l_le0 (by omega) (by omega)).mpr (by omega)), if_neg h, lN_Z]
  have h2n : nI how = (2 : Int32) ↔ how = 2 := nI_eq (b := 2) (by omega) (by decide)
  have h1n : nI how = (1 : Int32) ↔ how = 1 := nI_eq (b := 1) (by omega) (by decide)
  unfold f_Ref_step f_Ref_step_0
  rw [wh_ok hv, Option.bind_some, jl_]
  by_cases hc : wt v.natAbs ≠ v.natAbs ∧ how ≠ 2 ∧ ((how = 1) ↔ ¬ v < 0)
  · have hwl := wt_le v.natAbs
    obtain ⟨g', N', e1, b1⟩ := rsum_ok (x := (wt v.natAbs : Int)) (y := (ONE : Int)) (how := 2) (hf := 0) (by decide) (by omega) (by omega) (by decide) (by decide) hB (1 : Int32)
    refine ⟨g', N', false, ?_, b1⟩
    have e2 : RND (sneg (wt v.natAbs : Int) ONE) (sabs (wt v.natAbs : Int) ONE) false (0 - 1074) 2 = (UP1 v.natAbs : Int) := (up_sum hc.1).1
    rw [e2] at e1
    have K : f_Ref_step_48 (1 : Int32) (lZ v) (lN (wt v.natAbs)) g (1 : Int32) = some (lZ (STEP v how), g', bI false) := by
      unfold f_Ref_step_48
      rw [if_neg (by decide), show f_Ref_sum (lN (wt v.natAbs)) (4607182418800017408 : Int64) (0 : Int32) (2 : Int32) g (1 : Int32) = _ from e1, Option.bind_some, jl_]
      show f_Ref_step_72 (lZ v) (lN (UP1 v.natAbs)) g' (0 : Int32) = _
      rw [K72, STEP_t hc]
      rfl
    rw [show decide (wt v.natAbs ≠ v.natAbs) = true from decide_eq_true hc.1, bI_t, if_neg (show ¬ (1 : Int32) = 0 by decide), if_neg (fun h9 => hc.2.1 (h2n.mp h9))]
    by_cases hu : how = 1
    · rw [if_pos (show nI how = (1 : Int32) by rw [hu]; rfl)]
      unfold f_Ref_step_29
      rw [if_pos ((l_le0 (by omega) (by omega)).mpr (by have := hc.2.2.mp hu; omega))]
      unfold f_Ref_step_40
      rw [if_neg (by decide)]
      exact K
    · rw [if_neg (fun h9 => hu (h1n.mp h9))]
      have hvn : v < 0 := by
        apply Int.not_le.mp
        intro h8
        exact hu (hc.2.2.mpr (by omega))
      unfold f_Ref_step_29
      rw [if_neg (fun h9 => by have := (l_le0 (by omega) (by omega)).mp h9; omega)]
      unfold f_Ref_step_40
      rw [if_neg (by decide)]
      exact K
  · refine ⟨g, N, decide (wt v.natAbs ≠ v.natAbs), ?_, hB⟩
    have K : f_Ref_step_47 (lZ v) (lN (wt v.natAbs)) g (bI (decide (wt v.natAbs ≠ v.natAbs))) = some (lZ (STEP v how), g, bI (decide (wt v.natAbs ≠ v.natAbs))) := by
      unfold f_Ref_step_47 f_Ref_step_48
      rw [if_pos rfl, K72, STEP_f hc]
    by_cases hw : wt v.natAbs = v.natAbs
    · rw [if_pos (show bI (decide (wt v.natAbs ≠ v.natAbs)) = 0 by rw [show decide (wt v.natAbs ≠ v.natAbs) = false from decide_eq_false (fun h => h hw)]; rfl)]
      exact K
    · rw [if_neg (show ¬ bI (decide (wt v.natAbs ≠ v.natAbs)) = 0 by rw [show decide (wt v.natAbs ≠ v.natAbs) = true from decide_eq_true hw]; decide)]
      by_cases h2 : how = 2
      · rw [if_pos (show nI how = (2 : Int32) by rw [h2]; rfl)]
        exact K
      · rw [if_neg (fun h9 => h2 (h2n.mp h9))]
        by_cases hu : how = 1
        · rw [if_pos (show nI how = (1 : Int32) by rw [hu]; rfl)]
          have hvn : v < 0 := by
            apply Int.not_le.mp
            intro h8
            exact hc ⟨hw, h2, ⟨fun _ => by omega, fun _ => hu⟩⟩
          unfold f_Ref_step_29
          rw [if_neg (fun h9 => by have := (l_le0 (by omega) (by omega)).mp h9; omega)]
          unfold f_Ref_step_40
          rw [if_pos rfl]
          exact K
        · rw [if_neg (fun h9 => hu (h1n.mp h9))]
          have hvn : 0 ≤ v := by
            apply Int.not_lt.mp
            intro h8
            exact hc ⟨hw, h2, ⟨fun h => absurd h hu, fun h => absurd h8 h⟩⟩
          unfold f_Ref_step_29
          rw [if_pos ((l_le0 (by omega) (by omega)).mpr hvn)]
          unfold f_Ref_step_40
          rw [if_pos rfl]
          exact K
