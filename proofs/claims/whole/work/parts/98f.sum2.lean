-- sums, both sides
theorem d_lt0 {x : Int} : decide (x < 0) = false ↔ 0 ≤ x := by simp
theorem d_lt1 {x : Int} : decide (x < 0) = true ↔ x < 0 := by simp
theorem ssum_ok {a b : Int} {how : Nat} {sc : Int} (hh : how < 3) (ha : a.natAbs < INF) (hb : b.natAbs < INF) (hsc1 : -2 ≤ sc) (hsc2 : sc ≤ 2) : f_Exact_scaledSum (lZ a) (lZ b) (zI sc) (wI how) = some (lZ (RND (sneg a b) (sabs a b) false (sc - 1074) how)) := by
  have hI : INF = 9218868437227405312 := rfl
  unfold f_Exact_scaledSum f_Exact_scaledSum_0
  rw [jl_, jl_, abs_l (by omega), abs_l (by omega)]
  by_cases h : a.natAbs < b.natAbs
  · rw [if_pos ((pk_lLT (by omega) (by omega)).mpr h)]
    unfold f_Exact_scaledSum_17
    rw [if_pos rfl]
    unfold f_Exact_scaledSum_29
    rw [if_pos rfl, s41 hh hb (by omega) hsc1 hsc2]
    have hR : ¬ RV b.natAbs ≤ RV a.natAbs := by
      have := RV_lt h
      omega
    unfold sneg sabs
    rw [if_neg hR, if_neg hR]
    by_cases hs : decide (a < 0) = decide (b < 0)
    · rw [if_pos hs, if_pos hs.symm, if_pos hs, hs, Nat.add_comm]
    · rw [if_neg hs, if_neg (fun h9 => hs h9.symm), if_neg hs]
  · rw [if_neg (fun h9 => h ((pk_lLT (by omega) (by omega)).mp h9))]
    unfold f_Exact_scaledSum_17
    rw [if_neg (by decide)]
    unfold f_Exact_scaledSum_29
    rw [if_neg (by decide), s41 hh ha (by omega) hsc1 hsc2]
    have hR : RV b.natAbs ≤ RV a.natAbs := RV_le.mpr (by omega)
    unfold sneg sabs
    rw [if_pos hR, if_pos hR]
    by_cases hs : decide (a < 0) = decide (b < 0)
    · rw [if_pos hs, if_pos hs]
    · rw [if_neg hs, if_neg hs]
theorem isFin_ok {a : Int} (h : a.natAbs ≤ INF) : f_Rank_isFinite (lZ a) = some (bI (decide (a.natAbs < INF))) := by
  have hI : INF = 9218868437227405312 := rfl
  unfold f_Rank_isFinite f_Rank_isFinite_0 f_Rank_isFinite_20 f_Rank_isFinite_21
  rw [if_pos (show j_z (0 : Int32) from Or.inl rfl), if_pos (show j_z (1 : Int32) from Or.inr rfl)]
  by_cases h1 : a ≤ -9218868437227405312
  · rw [if_pos (show lZ a ≤ (-9218868437227405312 : Int64) from (l_le (b := -9218868437227405312) (by omega) (by omega) (by decide) (by decide)).mpr h1), show decide (a.natAbs < INF) = false by simp; omega]
    rfl
  · rw [if_neg (show ¬ lZ a ≤ (-9218868437227405312 : Int64) from fun h9 => h1 ((l_le (b := -9218868437227405312) (by omega) (by omega) (by decide) (by decide)).mp h9))]
    by_cases h2 : 9218868437227405312 ≤ a
    · rw [if_pos (show (9218868437227405312 : Int64) ≤ lZ a from (l_le (a := 9218868437227405312) (by decide) (by decide) (by omega) (by omega)).mpr h2), show decide (a.natAbs < INF) = false by simp; omega]
      rfl
    · rw [if_neg (show ¬ (9218868437227405312 : Int64) ≤ lZ a from fun h9 => h2 ((l_le (a := 9218868437227405312) (by decide) (by decide) (by omega) (by omega)).mp h9)), show decide (a.natAbs < INF) = true by simp; omega]
      rfl
theorem isInf_ok {a : Int} (h : a.natAbs ≤ INF) : f_Ref_infinite (lZ a) = some (bI (decide (a.natAbs = INF))) := by
  have hI : INF = 9218868437227405312 := rfl
  unfold f_Ref_infinite f_Ref_infinite_0 f_Ref_infinite_16
  rw [abs_r (by omega), Option.bind_some, if_pos (show j_z (0 : Int32) from Or.inl rfl), if_pos (show j_z (1 : Int32) from Or.inr rfl)]
  by_cases h1 : a.natAbs = INF
  · rw [if_pos (show lN a.natAbs = (9218868437227405312 : Int64) by rw [h1]; rfl), show decide (a.natAbs = INF) = true by simp [h1]]
    rfl
  · rw [if_neg (show ¬ lN a.natAbs = (9218868437227405312 : Int64) from fun h9 => h1 ((pk_lEQ (b := INF) (by omega) (by decide)).mp h9)), show decide (a.natAbs = INF) = false by simp [h1]]
    rfl
theorem csum_ok {a b : Int} {how : Nat} (hh : how < 3) (ha : a.natAbs < INF) (hb : b.natAbs < INF) : f_Exact_sum (lZ a) (lZ b) (wI how) = some (lZ (RND (sneg a b) (sabs a b) false (-1074) how)) := by
  unfold f_Exact_sum f_Exact_sum_0 f_Exact_sum_28
  rw [isFin_ok (by omega), Option.bind_some, if_neg (by rw [show decide (a.natAbs < INF) = true by simp [ha]]; decide), isFin_ok (by omega), Option.bind_some, if_neg (by rw [show decide (b.natAbs < INF) = true by simp [hb]]; decide)]
  have := ssum_ok (sc := 0) hh ha hb (by decide) (by decide)
  rw [show (0 : Int32) = zI 0 by decide, this]
  rfl
theorem csum_inf1 {a b : Int} {way : Int32} (ha : a.natAbs = INF) : f_Exact_sum (lZ a) (lZ b) way = some (lZ a) := by
  unfold f_Exact_sum f_Exact_sum_0
  rw [isFin_ok (by omega), Option.bind_some, if_pos (by rw [show decide (a.natAbs < INF) = false by simp [ha]]; decide)]
theorem csum_inf2 {a b : Int} {way : Int32} (ha : a.natAbs < INF) (hb : b.natAbs = INF) : f_Exact_sum (lZ a) (lZ b) way = some (lZ b) := by
  unfold f_Exact_sum f_Exact_sum_0 f_Exact_sum_28
  rw [isFin_ok (by omega), Option.bind_some, if_neg (by rw [show decide (a.natAbs < INF) = true by simp [ha]]; decide), isFin_ok (by omega), Option.bind_some, if_pos (by rw [show decide (b.natAbs < INF) = false by simp [hb]]; decide)]
theorem big_of_bl {n k : Nat} (h : bl n ≤ k) (hk : k ≤ 2560) : n < 65536 ^ 160 := by
  rw [B_2]
  exact Nat.lt_of_lt_of_le (bl_lt n) (Nat.pow_le_pow_right (by decide) (by omega))
theorem RV_fit {n : Nat} (h : n < INF) : RV n < 2 ^ 2098 := Nat.lt_of_lt_of_le (bl_lt _) (Nat.pow_le_pow_right (by decide) (RV_bl h))
theorem fit2 {a b : Nat} (ha : a < 2 ^ 2098) (hb : b < 2 ^ 2098) : a + b < 65536 ^ 160 := by
  rw [B_2]
  have h1 : (2 : Nat) ^ (2098 + 1) ≤ 2 ^ (16 * 160) := Nat.pow_le_pow_right (by decide) (by decide)
  rw [Nat.pow_succ] at h1
  generalize (2 : Nat) ^ (16 * 160) = Q at *
  generalize (2 : Nat) ^ 2098 = P at *
  omega
theorem fit1 {a : Nat} (ha : a < 2 ^ 2098) : a < 65536 ^ 160 := by
  have := fit2 ha (Nat.pow_pos (by decide) : 0 < 2 ^ 2098)
  rwa [Nat.add_zero] at this
/-- a rank's value laid into register z -/
theorem load_ok {z : Nat} {x : Int} {g : Nat → Int32} {N : Nat → Nat} (hz : z < 5) (hx : x.natAbs < INF) (hB : Big g N) : ∃ g1 g2, f_Ref_put (nI z) (lN (mt x.natAbs)) g = some g1 ∧ f_Ref_moveUp (nI z) (zI (ex x.natAbs) + (1074 : Int32)) g1 = some g2 ∧ Big g2 (uN N z (RV x.natAbs)) := by
  obtain ⟨g1, e1, b1⟩ := put_ok hz (Nat.lt_of_lt_of_le (mt_lt x.natAbs) (by decide)) hB
  have h1 := ex_ge x.natAbs
  have h2 := ex_le hx
  obtain ⟨w, hw⟩ := Int.eq_ofNat_of_zero_le (show 0 ≤ ex x.natAbs + 1074 by omega)
  have ev : RV x.natAbs = mt x.natAbs * 2 ^ w := by unfold RV; rw [hw]; rfl
  obtain ⟨g2, e2, b2⟩ := up_ok (b := w) hz (by omega) b1 (by rw [uN_s, ← ev]; exact fit1 (RV_fit hx))
  rw [uN_s, uN_uN, ← ev] at b2
  refine ⟨g1, g2, e1, ?_, b2⟩
  rw [show (1074 : Int32) = zI 1074 by decide, z_add, hw]
  exact e2
theorem rsum_ok {x y : Int} {how : Nat} {hf : Int} (hh : how < 3) (hx : x.natAbs < INF) (hy : y.natAbs < INF) (hf1 : -2 ≤ hf) (hf2 : hf ≤ 2) {g : Nat → Int32} {N : Nat → Nat} (hB : Big g N) (ov : Int32) : ∃ g' N', f_Ref_sum (lZ x) (lZ y) (zI hf) (nI how) g ov = some (lZ (RND (sneg x y) (sabs x y) false (hf - 1074) how), g', (0 : Int32)) ∧ Big g' N' := by
  have hI : INF = 9218868437227405312 := rfl
  obtain ⟨g1, g2, e1, e2, b2⟩ := load_ok (z := 0) (by decide) hx hB
  obtain ⟨g3, g4, e3, e4, b4⟩ := load_ok (z := 1) (by decide) hy b2
  have fx := RV_fit hx
  have fy := RV_fit hy
  have S154 : ∀ (neg : Bool) (g9 : Nat → Int32) (N9 : Nat → Nat), Big g9 N9 → f_Ref_sum_154 (zI hf) (nI how) (bI neg) g9 (0 : Int32) = some (lZ (RND neg (N9 0) false (hf - 1074) how), g9, (0 : Int32)) := fun neg g9 N9 h9 => by
    unfold f_Ref_sum_154
    have := rref_ok (neg := neg) (o := false) (s := hf - 1074) hh (by omega) (by omega) h9
    rw [bI_f] at this
    rw [show (1074 : Int32) = zI 1074 by decide, z_sub, this]
    rfl
  have S96 : ∀ b1 b2 : Bool, b1 = decide (x < 0) → b2 = decide (y < 0) → ∃ g' N', f_Ref_sum_96 (bI b2) (bI b1) (lZ y) (zI hf) (nI how) (bI b1) g4 (0 : Int32) = some (lZ (RND (sneg x y) (sabs x y) false (hf - 1074) how), g', (0 : Int32)) ∧ Big g' N' := by
    intro c1 c2 h1 h2
    unfold f_Ref_sum_96 sneg sabs
    rw [← h1, ← h2]
    by_cases hb : c1 = c2
    · obtain ⟨g5, e5, b5⟩ := add_ok (x := 0) (y := 1) (by decide) (by decide) (by decide) b4 (by
        rw [uN_n (by decide), uN_s, uN_s]
        exact fit2 fx fy)
      have R := S154 c1 g5 _ b5
      rw [uN_s, uN_n (by decide), uN_s, uN_s] at R
      refine ⟨g5, _, ?_, b5⟩
      rw [if_pos (bI_eq.mpr hb), if_pos hb, if_pos hb]
      rw [show f_Ref_add (0 : Int32) (1 : Int32) (1 : Int32) g4 = some g5 from e5, Option.bind_some, R]
    · rw [if_neg (fun h9 => hb (bI_eq.mp h9)), if_neg hb, if_neg hb]
      have hc := compare_ok (x := 0) (y := 1) (by decide) (by decide) b4
      rw [uN_n (by decide), uN_s, uN_s] at hc
      rw [show f_Ref_compare (0 : Int32) (1 : Int32) g4 = _ from hc, Option.bind_some]
      by_cases hle : RV y.natAbs ≤ RV x.natAbs
      · obtain ⟨g5, e5, b5⟩ := sub_ok (x := 0) (y := 1) (by decide) (by decide) (by decide) b4 (by
          rw [uN_s, uN_n (by decide), uN_s]
          exact hle)
        have R := S154 c1 g5 _ b5
        rw [uN_s, uN_n (by decide), uN_s, uN_s] at R
        refine ⟨g5, _, ?_, b5⟩
        rw [if_neg (fun h9 => by have := cmpI_lt.mp h9; omega), show f_Ref_add (0 : Int32) (1 : Int32) (-1 : Int32) g4 = some g5 from e5, Option.bind_some, R, if_pos hle, if_pos hle]
      · obtain ⟨g5, e5, b5⟩ := sub_ok (x := 1) (y := 0) (by decide) (by decide) (by decide) b4 (by
          rw [uN_s, uN_n (by decide), uN_s]
          omega)
        obtain ⟨g6, e6, b6⟩ := copy_ok (z := 0) (x := 1) (by decide) (by decide) b5
        have R := S154 c2 g6 _ b6
        rw [uN_s, uN_s, uN_s, uN_n (by decide), uN_s] at R
        refine ⟨g6, _, ?_, b6⟩
        rw [if_pos (cmpI_lt.mpr (by omega)), show f_Ref_add (1 : Int32) (0 : Int32) (-1 : Int32) g4 = some g5 from e5, Option.bind_some, show f_Ref_copy (0 : Int32) (1 : Int32) g5 = some g6 from e6, Option.bind_some, if_neg hle, if_neg hle]
        unfold f_Ref_sum_152
        by_cases h9 : 0 ≤ y
        · rw [if_pos ((l_le0 (by omega) (by omega)).mpr h9)]
          rw [h2, d_lt0.mpr h9] at R ⊢
          exact R
        · rw [if_neg (fun h8 => h9 ((l_le0 (by omega) (by omega)).mp h8))]
          rw [h2, d_lt1.mpr (by omega)] at R ⊢
          exact R
  have S85 : ∀ b1 : Bool, b1 = decide (x < 0) → ∃ g' N', f_Ref_sum_85 (bI b1) (lZ y) (zI hf) (nI how) (bI b1) g4 (0 : Int32) = some (lZ (RND (sneg x y) (sabs x y) false (hf - 1074) how), g', (0 : Int32)) ∧ Big g' N' := by
    intro b1 h1
    unfold f_Ref_sum_85
    by_cases h9 : 0 ≤ y
    · rw [if_pos ((l_le0 (by omega) (by omega)).mpr h9)]
      exact S96 b1 false h1 (d_lt0.mpr h9).symm
    · rw [if_neg (fun h8 => h9 ((l_le0 (by omega) (by omega)).mp h8))]
      exact S96 b1 true h1 (d_lt1.mpr (by omega)).symm
  have S72 : ∀ b1 : Bool, b1 = decide (x < 0) → ∃ g' N', f_Ref_sum_72 (bI b1) (lZ x) (lZ y) (zI hf) (nI how) g4 (0 : Int32) = some (lZ (RND (sneg x y) (sabs x y) false (hf - 1074) how), g', (0 : Int32)) ∧ Big g' N' := by
    intro b1 h1
    unfold f_Ref_sum_72
    by_cases h9 : 0 ≤ x
    · rw [if_pos ((l_le0 (by omega) (by omega)).mpr h9)]
      rw [h1, d_lt0.mpr h9]
      exact S85 false (d_lt0.mpr h9).symm
    · rw [if_neg (fun h8 => h9 ((l_le0 (by omega) (by omega)).mp h8))]
      rw [h1, d_lt1.mpr (by omega)]
      exact S85 true (d_lt1.mpr (by omega)).symm
  unfold f_Ref_sum f_Ref_sum_0
  rw [abs_r (by omega), Option.bind_some, mt_r (by omega), Option.bind_some, show f_Ref_put (0 : Int32) (lN (mt x.natAbs)) g = some g1 from e1, Option.bind_some, Option.bind_some, ex_r (by omega), Option.bind_some, show f_Ref_moveUp (0 : Int32) (zI (ex x.natAbs) + (1074 : Int32)) g1 = some g2 from e2, Option.bind_some, abs_r (by omega), Option.bind_some, mt_r (by omega), Option.bind_some, show f_Ref_put (1 : Int32) (lN (mt y.natAbs)) g2 = some g3 from e3, Option.bind_some, Option.bind_some, ex_r (by omega), Option.bind_some, show f_Ref_moveUp (1 : Int32) (zI (ex y.natAbs) + (1074 : Int32)) g3 = some g4 from e4, Option.bind_some]
  by_cases h9 : 0 ≤ x
  · rw [if_pos ((l_le0 (by omega) (by omega)).mpr h9)]
    exact S72 false (d_lt0.mpr h9).symm
  · rw [if_neg (fun h8 => h9 ((l_le0 (by omega) (by omega)).mp h8))]
    exact S72 true (d_lt1.mpr (by omega)).symm
