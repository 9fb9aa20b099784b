-- quotients, both sides
def QUOT (x y : Int) (how : Nat) : Int := if x = 0 ∨ y.natAbs = INF then 0 else if x.natAbs = INF then sgn (pneg x y) INF else RND (pneg x y) (mt x.natAbs * 2 ^ 120 / mt y.natAbs) (mt x.natAbs * 2 ^ 120 % mt y.natAbs != 0) (ex x.natAbs - ex y.natAbs - 120) how
theorem cquot_main {a b : Int} {how : Nat} (hh : how < 3) (ha : a.natAbs < INF) (hb : b.natAbs < INF) (a0 : a ≠ 0) (b0 : b ≠ 0) (neg : Bool) : f_Exact_quotient_45 (bI neg) (lZ a) (lZ b) (wI how) = some (lZ (RND neg (mt a.natAbs * 2 ^ 120 / mt b.natAbs) (mt a.natAbs * 2 ^ 120 % mt b.natAbs != 0) (ex a.natAbs - ex b.natAbs - 120) how)) := by
  have hI : INF = 9218868437227405312 := rfl
  obtain ⟨m1, m2, m3⟩ := nrm (n := a.natAbs) (by omega)
  obtain ⟨n1, n2, n3⟩ := nrm (n := b.natAbs) (by omega)
  have ea1 := ex_ge a.natAbs
  have ea2 := ex_le ha
  have eb1 := ex_ge b.natAbs
  have eb2 := ex_le hb
  have e12 : ((zI (ex a.natAbs) - nI (lf a.natAbs)) - zI (ex b.natAbs)) + nI (lf b.natAbs) = zI (ex a.natAbs - lf a.natAbs - ex b.natAbs + lf b.natAbs) := by
    rw [z_nI, z_nI, z_sub, z_sub, z_add]
  unfold f_Exact_quotient_45
  rw [if_neg (fun h9 => b0 ((l_eq0 (by omega) (by omega)).mp h9)), isFin_ok (by omega), Option.bind_some, if_neg (by rw [show decide (a.natAbs < INF) = true by simp [ha]]; decide), lift_ok a0 (by omega), Option.bind_some, lift_ok b0 (by omega), Option.bind_some, sg_c (by omega), Option.bind_some, jl_, q_shl (by omega), sg_c (by omega), Option.bind_some, jl_, q_shl (by omega), ex_c (by omega), Option.bind_some, ex_c (by omega), Option.bind_some, jl_, e12]
  have L := quot_loop (how := how) (neg := neg) (E := ex a.natAbs - lf a.natAbs - ex b.natAbs + lf b.natAbs) m1 m2 n1 n2 61 0 5000 (mt a.natAbs * 2 ^ lf a.natAbs) 0 (by decide) (by decide) (by simp) (by omega)
  rw [show (0 : Int64) = lN 0 from rfl, show (0 : Int32) = nI 0 from rfl, L]
  unfold f_Exact_quotient_190
  have hq : mt a.natAbs * 2 ^ lf a.natAbs * 2 ^ 60 / (mt b.natAbs * 2 ^ lf b.natAbs) < 2 ^ 62 := by
    rw [Nat.div_lt_iff_lt_mul (by omega)]
    have h1 : mt a.natAbs * 2 ^ lf a.natAbs * 2 ^ 60 < 2 ^ 53 * 2 ^ 60 := Nat.mul_lt_mul_of_pos_right m2 (by decide)
    have h2 : 2 ^ 62 * 2 ^ 52 ≤ 2 ^ 62 * (mt b.natAbs * 2 ^ lf b.natAbs) := Nat.mul_le_mul_left _ n1
    exact Nat.lt_of_lt_of_le h1 (Nat.le_trans (by decide) h2)
  rw [traced_ok _ (Nat.lt_trans hq (by decide)), Option.bind_some, show (60 : Int32) = zI 60 by decide, z_sub, rcls_ok hh (stk_63 _ (Nat.lt_trans hq (by decide))) (by omega) (by omega), Option.bind_some]
  rw [quot_core (mt_0 (by omega)) (mt_0 (by omega)) m3 n3 m1 m2 n1 n2 neg (ex a.natAbs - ex b.natAbs - 120) how]
  congr 3
  omega
theorem cquot_all {a b : Int} {how : Nat} (hh : how < 3) (ha : a.natAbs ≤ INF) (hb : b.natAbs ≤ INF) (b0 : b ≠ 0) : f_Exact_quotient (lZ a) (lZ b) (wI how) = some (lZ (QUOT a b how)) := by
  have hI : INF = 9218868437227405312 := rfl
  unfold f_Exact_quotient f_Exact_quotient_0 f_Exact_quotient_13
  by_cases a0 : a = 0
  · subst a0
    rw [if_pos (show lZ 0 = (0 : Int64) from rfl)]
    unfold QUOT
    rw [if_pos (Or.inl rfl)]
    rfl
  rw [if_neg (fun h9 => a0 ((l_eq0 (by omega) (by omega)).mp h9)), isFin_ok hb, Option.bind_some]
  by_cases hbi : b.natAbs = INF
  · rw [if_pos (by rw [show decide (b.natAbs < INF) = false by simp [hbi]]; decide)]
    unfold QUOT
    rw [if_pos (Or.inr hbi)]
    rfl
  rw [if_neg (by rw [show decide (b.natAbs < INF) = true by simp; omega]; decide)]
  have K : ∀ neg : Bool, neg = pneg a b → f_Exact_quotient_45 (bI neg) (lZ a) (lZ b) (wI how) = some (lZ (QUOT a b how)) := by
    intro neg hneg
    by_cases hai : a.natAbs = INF
    · have F : f_Exact_quotient_60 (bI neg) = some (lZ (sgn neg INF)) := by cases neg <;> rfl
      unfold f_Exact_quotient_45 QUOT
      rw [if_neg (fun h9 => b0 ((l_eq0 (by omega) (by omega)).mp h9)), isFin_ok ha, Option.bind_some, if_pos (by rw [show decide (a.natAbs < INF) = false by simp [hai]]; decide), if_neg (by omega), if_pos hai, F, hneg]
    · rw [cquot_main hh (by omega) (by omega) a0 b0 neg]
      unfold QUOT
      rw [if_neg (by omega), if_neg hai, hneg]
  have K37 : ∀ b1 b2 : Bool, (b1 != b2) = pneg a b → f_Exact_quotient_37 (bI b2) (bI b1) (lZ a) (lZ b) (wI how) = some (lZ (QUOT a b how)) := by
    intro b1 b2 hbb
    unfold f_Exact_quotient_37
    by_cases hb : b1 = b2
    · rw [if_pos (bI_eq.mpr hb)]
      exact K false (by rw [← hbb]; simp [hb])
    · rw [if_neg (fun h9 => hb (bI_eq.mp h9))]
      exact K true (by rw [← hbb]; exact (bne_iff_ne.mpr hb).symm)
  have K26 : ∀ b1 : Bool, (b1 != decide (b < 0)) = pneg a b → f_Exact_quotient_26 (bI b1) (lZ a) (lZ b) (wI how) = some (lZ (QUOT a b how)) := by
    intro b1 hbb
    unfold f_Exact_quotient_26
    by_cases h9 : 0 ≤ b
    · rw [if_pos ((l_le0 (by omega) (by omega)).mpr h9)]
      exact K37 b1 false (by rw [← hbb, d_lt0.mpr h9])
    · rw [if_neg (fun h8 => h9 ((l_le0 (by omega) (by omega)).mp h8))]
      exact K37 b1 true (by rw [← hbb, (d_lt1 (x := b)).mpr (by omega)])
  by_cases h9 : 0 ≤ a
  · rw [if_pos ((l_le0 (by omega) (by omega)).mpr h9)]
    exact K26 false (by unfold pneg; rw [d_lt0.mpr h9])
  · rw [if_neg (fun h8 => h9 ((l_le0 (by omega) (by omega)).mp h8))]
    exact K26 true (by unfold pneg; rw [(d_lt1 (x := a)).mpr (by omega)])
/-- by zero, which stands for the positive numbers above it -/
theorem cquot_0 {a : Int} {how : Nat} (ha : a.natAbs ≤ INF) (a0 : a ≠ 0) : f_Exact_quotient (lZ a) (lZ 0) (wI how) = some (lZ (sgn (decide (a < 0)) INF)) := by
  have hI : INF = 9218868437227405312 := rfl
  unfold f_Exact_quotient f_Exact_quotient_0
  rw [if_neg (fun h9 => a0 ((l_eq0 (by omega) (by omega)).mp h9)), isFin_ok (a := 0) (by decide), Option.bind_some, if_neg (by decide)]
  by_cases h9 : 0 ≤ a
  · rw [if_pos ((l_le0 (by omega) (by omega)).mpr h9), d_lt0.mpr h9]
    rfl
  · rw [if_neg (fun h8 => h9 ((l_le0 (by omega) (by omega)).mp h8)), (d_lt1 (x := a)).mpr (by omega)]
    rfl
theorem rquot_all {x y : Int} {how : Nat} (hh : how < 3) (hx : x.natAbs ≤ INF) (hy : y.natAbs ≤ INF) (y0 : y ≠ 0) {g : Nat → Int32} {N : Nat → Nat} (hB : Big g N) (ov : Bool) : ∃ g' N' ov', f_Ref_quotient (lZ x) (lZ y) (nI how) g (bI ov) = some (lZ (QUOT x y how), g', bI ov') ∧ Big g' N' := by
  have hI : INF = 9218868437227405312 := rfl
  unfold f_Ref_quotient f_Ref_quotient_0 f_Ref_quotient_13
  by_cases x0 : x = 0
  · subst x0
    refine ⟨g, N, ov, ?_, hB⟩
    rw [if_pos (show lZ 0 = (0 : Int64) from rfl)]
    unfold QUOT
    rw [if_pos (Or.inl rfl)]
    rfl
  rw [if_neg (fun h9 => x0 ((l_eq0 (by omega) (by omega)).mp h9)), isInf_ok hy, Option.bind_some]
  by_cases hyi : y.natAbs = INF
  · refine ⟨g, N, ov, ?_, hB⟩
    rw [if_neg (by rw [show decide (y.natAbs = INF) = true by simp [hyi]]; decide)]
    unfold QUOT
    rw [if_pos (Or.inr hyi)]
    rfl
  rw [if_pos (by rw [show decide (y.natAbs = INF) = false by simp [hyi]]; decide)]
  have K : ∀ neg : Bool, neg = pneg x y → ∃ g' N' ov', f_Ref_quotient_45 (bI neg) (lZ x) (lZ y) (nI how) g (bI ov) = some (lZ (QUOT x y how), g', bI ov') ∧ Big g' N' := by
    intro neg hneg
    unfold f_Ref_quotient_45
    rw [isInf_ok hx, Option.bind_some]
    by_cases hxi : x.natAbs = INF
    · refine ⟨g, N, ov, ?_, hB⟩
      rw [if_neg (by rw [show decide (x.natAbs = INF) = true by simp [hxi]]; decide)]
      unfold QUOT
      rw [if_neg (show ¬ (x = 0 ∨ y.natAbs = INF) by omega), if_pos hxi, ← hneg]
      cases neg <;> rfl
    rw [if_pos (by rw [show decide (x.natAbs = INF) = false by simp [hxi]]; decide), abs_r (by omega), Option.bind_some, mt_r (by omega), Option.bind_some]
    have mx := mt_lt x.natAbs
    have my := mt_lt y.natAbs
    obtain ⟨g1, e1, b1⟩ := put_ok (z := 1) (by decide) (Nat.lt_of_lt_of_le mx (by decide)) hB
    obtain ⟨g2, e2, b2⟩ := up_ok (z := 1) (b := 120) (by decide) (by decide) b1 (by
      rw [uN_s]
      refine big_of_bl (k := 173) (bl_of_lt ?_) (by decide)
      have : mt x.natAbs * 2 ^ 120 < 2 ^ 53 * 2 ^ 120 := Nat.mul_lt_mul_of_pos_right mx (by decide)
      exact this)
    rw [uN_s, uN_uN] at b2
    obtain ⟨g3, e3, b3⟩ := put_ok (z := 2) (by decide) (Nat.lt_of_lt_of_le my (by decide)) b2
    obtain ⟨g4, e4, b4⟩ := divide_ok (z := 0) (x := 1) (y := 2) (r := 3) (by decide) (by decide) (by decide) (by decide) (by decide) (by decide) (by decide) (by decide) (by decide) b3 (by
      rw [uN_s]
      have := mt_0 (n := y.natAbs) (by omega)
      omega) (by
      rw [uN_s]
      refine big_of_bl (k := 54) (bl_of_lt ?_) (by decide)
      omega)
    rw [uN_s, uN_n (j := 1) (z := 2) (by decide), uN_s] at b4
    have w := width_ok (z := 3) (by decide) b4
    rw [uN_s] at w
    rw [show f_Ref_put (1 : Int32) (lN (mt x.natAbs)) g = some g1 from e1, Option.bind_some, show f_Ref_moveUp (1 : Int32) (120 : Int32) g1 = some g2 from e2, Option.bind_some, abs_r (by omega), Option.bind_some, mt_r (by omega), Option.bind_some, show f_Ref_put (2 : Int32) (lN (mt y.natAbs)) g2 = some g3 from e3, Option.bind_some, show f_Ref_divide (0 : Int32) (1 : Int32) (2 : Int32) (3 : Int32) g3 = some g4 from e4, Option.bind_some, show f_Ref_width (3 : Int32) g4 = _ from w, Option.bind_some]
    have ea1 := ex_ge x.natAbs
    have ea2 := ex_le (n := x.natAbs) (by omega)
    have eb1 := ex_ge y.natAbs
    have eb2 := ex_le (n := y.natAbs) (by omega)
    have hm := mt_0 (n := y.natAbs) (by omega)
    have R : ∀ o : Bool, o = (mt x.natAbs * 2 ^ 120 % mt y.natAbs != 0) → f_Ref_quotient_122 (bI o) (lZ x) (lZ y) (nI how) (bI neg) g4 (bI ov) = some (lZ (QUOT x y how), g4, bI o) := fun o ho => by
      unfold f_Ref_quotient_122
      have r := rref_ok (neg := neg) (o := o) (s := ex x.natAbs - ex y.natAbs - 120) hh (by omega) (by omega) b4
      rw [uN_n (by decide), uN_s] at r
      rw [if_pos (by cases o; exact Or.inl rfl; exact Or.inr rfl), abs_r (by omega), Option.bind_some, ex_r (by omega), Option.bind_some, abs_r (by omega), Option.bind_some, ex_r (by omega), Option.bind_some, z_sub, show (120 : Int32) = zI 120 by decide, z_sub, r, Option.bind_some, hneg, ho]
      unfold QUOT
      rw [if_neg (by omega), if_neg hxi]
    by_cases h0 : mt x.natAbs * 2 ^ 120 % mt y.natAbs = 0
    · refine ⟨g4, _, false, ?_, b4⟩
      rw [h0, if_pos (by decide)]
      exact R false (by rw [h0]; rfl)
    · refine ⟨g4, _, true, ?_, b4⟩
      have hbp := bl_pos h0
      have hbl : bl (mt x.natAbs * 2 ^ 120 % mt y.natAbs) ≤ 53 := bl_of_lt (Nat.lt_trans (Nat.mod_lt _ (by omega)) my)
      rw [if_neg (nI_nle hbp (by omega))]
      exact R true (bne_iff_ne.mpr h0).symm
  have K37 : ∀ b1 b2 : Bool, (b1 != b2) = pneg x y → ∃ g' N' ov', f_Ref_quotient_37 (bI b2) (bI b1) (lZ x) (lZ y) (nI how) g (bI ov) = some (lZ (QUOT x y how), g', bI ov') ∧ Big g' N' := by
    intro b1 b2 hbb
    unfold f_Ref_quotient_37
    by_cases hb : b1 = b2
    · rw [if_pos (bI_eq.mpr hb)]
      exact K false (by rw [← hbb]; simp [hb])
    · rw [if_neg (fun h9 => hb (bI_eq.mp h9))]
      exact K true (by rw [← hbb]; exact (bne_iff_ne.mpr hb).symm)
  have K26 : ∀ b1 : Bool, (b1 != decide (y < 0)) = pneg x y → ∃ g' N' ov', f_Ref_quotient_26 (bI b1) (lZ x) (lZ y) (nI how) g (bI ov) = some (lZ (QUOT x y how), g', bI ov') ∧ Big g' N' := by
    intro b1 hbb
    unfold f_Ref_quotient_26
    by_cases h9 : 0 ≤ y
    · rw [if_pos ((l_le0 (by omega) (by omega)).mpr h9)]
      exact K37 b1 false (by rw [← hbb, d_lt0.mpr h9])
    · rw [if_neg (fun h8 => h9 ((l_le0 (by omega) (by omega)).mp h8))]
      exact K37 b1 true (by rw [← hbb, (d_lt1 (x := y)).mpr (by omega)])
  by_cases h9 : 0 ≤ x
  · rw [if_pos ((l_le0 (by omega) (by omega)).mpr h9)]
    exact K26 false (by unfold pneg; rw [d_lt0.mpr h9])
  · rw [if_neg (fun h8 => h9 ((l_le0 (by omega) (by omega)).mp h8))]
    exact K26 true (by unfold pneg; rw [(d_lt1 (x := x)).mpr (by omega)])
