-- roots, both sides
def tt (n : Nat) : Nat := if ex n % 2 = 0 then 112 else 113
def ROOT (x : Int) (how : Nat) : Int := if x = 0 ∨ x.natAbs = INF then x else RND false (sq 85 (mt x.natAbs * 2 ^ tt x.natAbs)) (sq 85 (mt x.natAbs * 2 ^ tt x.natAbs) * sq 85 (mt x.natAbs * 2 ^ tt x.natAbs) != mt x.natAbs * 2 ^ tt x.natAbs) ((ex x.natAbs - tt x.natAbs) / 2) how
theorem sq_scale {X J : Nat} (n m : Nat) (h1 : X < 4 ^ n) (h2 : X * 4 ^ J < 4 ^ m) : sq m (X * 4 ^ J) / 2 ^ J = sq n X ∧ (sq m (X * 4 ^ J) % 2 ^ J != 0 || sq m (X * 4 ^ J) * sq m (X * 4 ^ J) != X * 4 ^ J) = (sq n X * sq n X != X) := by
  obtain ⟨a1, a2⟩ := sq_ok n X h1
  obtain ⟨b1, b2⟩ := sq_ok m _ h2
  obtain ⟨R, hR⟩ : ∃ R, R = sq m (X * 4 ^ J) := ⟨_, rfl⟩
  obtain ⟨D, hD⟩ : ∃ D, D = sq n X := ⟨_, rfl⟩
  rw [← hR] at b1 b2
  rw [← hD] at a1 a2
  rw [← hR, ← hD]
  have pJ := p2 J
  have e4 : (4 : Nat) ^ J = 2 ^ J * 2 ^ J := by rw [← Nat.mul_pow]
  rw [e4] at b1 b2 ⊢
  obtain ⟨P, hP⟩ : ∃ P, P = 2 ^ J := ⟨_, rfl⟩
  rw [← hP] at b1 b2 pJ ⊢
  have hdm := Nat.div_add_mod R P
  have hml := Nat.mod_lt R pJ
  have q1 : R / P = D := by
    apply sq_uniq (V := X) _ _ a1 a2
    · have h3 : R / P * P ≤ R := Nat.div_mul_le_self _ _
      have h4 := sq_mono h3
      rw [Nat.mul_mul_mul_comm] at h4
      exact Nat.le_of_mul_le_mul_right (Nat.le_trans h4 b1) (Nat.mul_pos pJ pJ)
    · have h3 : R + 1 ≤ (R / P + 1) * P := by rw [Nat.add_mul, Nat.one_mul, Nat.mul_comm]; omega
      have h4 := sq_mono h3
      rw [Nat.mul_mul_mul_comm (R / P + 1)] at h4
      exact Nat.lt_of_mul_lt_mul_right (a := P * P) (Nat.lt_of_lt_of_le b2 h4)
  refine ⟨q1, ?_⟩
  rw [q1] at hdm
  by_cases h0 : D * D = X
  · rw [show (D * D != X) = false by rw [h0]; simp]
    have hz : R = D * P := by
      apply sq_uniq b1 b2
      · rw [Nat.mul_mul_mul_comm, h0]
        exact Nat.le_refl _
      · have h3 : D * P * (D * P) < (D * P + 1) * (D * P + 1) := Nat.mul_self_lt_mul_self (by omega)
        rw [Nat.mul_mul_mul_comm, h0] at h3
        exact h3
    rw [hz, Nat.mul_mod_left, Nat.mul_mul_mul_comm, h0]
    simp
  · rw [show (D * D != X) = true from bne_iff_ne.mpr h0]
    by_cases h1 : R % P = 0
    · have hz : R = D * P := by rw [Nat.mul_comm]; omega
      rw [hz, Nat.mul_mul_mul_comm]
      have : D * D * (P * P) ≠ X * (P * P) := fun h9 => h0 (Nat.eq_of_mul_eq_mul_right (Nat.mul_pos pJ pJ) h9)
      rw [show (D * D * (P * P) != X * (P * P)) = true from bne_iff_ne.mpr this, Bool.or_true]
    · rw [show (R % P != 0) = true from bne_iff_ne.mpr h1, Bool.true_or]
theorem tt_b (n : Nat) : tt n = 112 ∨ tt n = 113 := by unfold tt; split <;> simp
theorem croot_all {a : Int} {how : Nat} (hh : how < 3) (h0 : 0 ≤ a) (ha : a.natAbs ≤ INF) : f_Exact_root (lZ a) (wI how) = some (lZ (ROOT a how)) := by
  have hI : INF = 9218868437227405312 := rfl
  unfold f_Exact_root f_Exact_root_0 f_Exact_root_13
  by_cases a0 : a = 0
  · subst a0
    rw [if_pos (show lZ 0 = (0 : Int64) from rfl)]
    unfold ROOT
    rw [if_pos (Or.inl rfl)]
  rw [if_neg (fun h9 => a0 ((l_eq0 (by omega) (by omega)).mp h9)), isFin_ok ha, Option.bind_some]
  by_cases hai : a.natAbs = INF
  · rw [if_pos (by rw [show decide (a.natAbs < INF) = false by simp [hai]]; decide)]
    unfold ROOT
    rw [if_pos (Or.inr hai)]
  rw [if_neg (by rw [show decide (a.natAbs < INF) = true by simp; omega]; decide)]
  obtain ⟨m1, m2, m3⟩ := nrm (n := a.natAbs) (by omega)
  have ea1 := ex_ge a.natAbs
  have ea2 := ex_le (n := a.natAbs) (by omega)
  obtain ⟨od, hod⟩ : ∃ od : Nat, od = ((ex a.natAbs - lf a.natAbs) % 2).toNat := ⟨_, rfl⟩
  have e1 : zI (ex a.natAbs) - nI (lf a.natAbs) = zI (ex a.natAbs - lf a.natAbs) := by rw [z_nI, z_sub]
  rw [lift_ok a0 (by omega), Option.bind_some, ex_c (by omega), Option.bind_some, jl_, e1, jl_, z_and1, ← hod, sg_c (by omega), Option.bind_some, jl_, nI_add, q_shl (by omega)]
  have hod1 : od ≤ 1 := by omega
  have hv1 : 2 ^ 52 ≤ mt a.natAbs * 2 ^ (lf a.natAbs + od) := by
    rw [Nat.pow_add, ← Nat.mul_assoc]
    exact Nat.le_trans m1 (Nat.le_mul_of_pos_right _ (p2 od))
  have hv2 : mt a.natAbs * 2 ^ (lf a.natAbs + od) < 2 ^ 54 := by
    rw [Nat.pow_add, ← Nat.mul_assoc]
    have h1 : 2 ^ od ≤ 2 ^ 1 := Nat.pow_le_pow_right (by decide) hod1
    exact Nat.lt_of_le_of_lt (Nat.mul_le_mul_left _ h1) (by omega)
  have L := root_loop (how := how) (E := zI (ex a.natAbs - lf a.natAbs)) (od := nI od) hv1 hv2 57 0 5000 0 0 (by decide) (by decide) (by
    rw [Nat.div_eq_of_lt]
    have : mt a.natAbs * 2 ^ (lf a.natAbs + od) * 4 ^ 30 < 2 ^ 54 * 4 ^ 30 := Nat.mul_lt_mul_of_pos_right hv2 (by decide)
    exact this) (by decide)
  obtain ⟨h, hhf⟩ : ∃ h : Int, ex a.natAbs - lf a.natAbs - od = 2 * h := ⟨(ex a.natAbs - lf a.natAbs - od) / 2, by omega⟩
  have e3 : (zI (ex a.natAbs - lf a.natAbs) - nI od) / (2 : Int32) - (30 : Int32) = zI (h - 30) := by
    rw [z_nI, z_sub, hhf, z_half (by omega) (by omega), show (30 : Int32) = zI 30 by decide, z_sub]
  rw [show (0 : Int64) = lN 0 from rfl, show (0 : Int32) = nI 0 from rfl, L, e3]
  unfold f_Exact_root_163
  obtain ⟨X, hX⟩ : ∃ X, X = mt a.natAbs * 2 ^ (lf a.natAbs + od) * 4 ^ 30 := ⟨_, rfl⟩
  rw [← hX]
  have hXlt : X < 4 ^ 57 := by
    rw [hX]
    have : mt a.natAbs * 2 ^ (lf a.natAbs + od) * 4 ^ 30 < 2 ^ 54 * 4 ^ 30 := Nat.mul_lt_mul_of_pos_right hv2 (by decide)
    exact this
  have hXge : 2 ^ 52 * 4 ^ 30 ≤ X := by rw [hX]; exact Nat.mul_le_mul_right _ hv1
  obtain ⟨s1, s2⟩ := sq_ok 57 X hXlt
  have hs57 : sq 57 X < 2 ^ 57 := sq_lt (by
    have : (4 : Nat) ^ 57 = 2 ^ 57 * 2 ^ 57 := by decide
    omega)
  have hs54 : 2 ^ 55 ≤ sq 57 X := by
    apply Nat.le_of_not_lt
    intro h9
    have h8 := sq_mono (show sq 57 X + 1 ≤ 2 ^ 55 from h9)
    have h7 : (2 : Nat) ^ 55 * 2 ^ 55 ≤ 2 ^ 52 * 4 ^ 30 := by decide
    omega
  rw [traced_ok _ (Nat.lt_trans hs57 (by decide)), Option.bind_some, show (0 : Int32) = bI false from rfl, rcls_ok hh (stk_63 _ (Nat.lt_trans hs57 (by decide))) (by omega) (by omega), Option.bind_some]
  have htt := tt_b a.natAbs
  have htp : tt a.natAbs = if ex a.natAbs % 2 = 0 then 112 else 113 := rfl
  obtain ⟨J, hJ⟩ : ∃ J : Nat, tt a.natAbs = lf a.natAbs + od + 60 + 2 * J := ⟨(tt a.natAbs - (lf a.natAbs + od + 60)) / 2, by
    have : (tt a.natAbs : Int) % 2 = ex a.natAbs % 2 := by
      rw [htp]
      split <;> omega
    omega⟩
  have eV : mt a.natAbs * 2 ^ tt a.natAbs = X * 4 ^ J := by
    rw [hX, hJ, show (4 : Nat) ^ 30 = 2 ^ 60 by decide, show (4 : Nat) ^ J = 2 ^ (2 * J) by rw [Nat.pow_mul], Nat.pow_add, Nat.pow_add]
    simp only [Nat.mul_assoc]
  have hVlt : X * 4 ^ J < 4 ^ 85 := by
    rw [← eV]
    have h1 : (2 : Nat) ^ tt a.natAbs ≤ 2 ^ 113 := Nat.pow_le_pow_right (by decide) (by omega)
    have h2 : mt a.natAbs * 2 ^ tt a.natAbs ≤ 2 ^ 53 * 2 ^ 113 := Nat.mul_le_mul (Nat.le_of_lt (mt_lt _)) h1
    exact Nat.lt_of_le_of_lt h2 (by decide)
  obtain ⟨q1, q2⟩ := sq_scale 57 85 hXlt hVlt
  unfold ROOT
  rw [if_neg (by omega), eV]
  congr 2
  apply RND_of
  have hb : 55 ≤ bl (sq 85 (X * 4 ^ J) / 2 ^ J) := by
    rw [q1]
    exact Nat.le_trans (by decide) (bl_of_le hs54)
  rw [rmag_sticky false _ J _ _ how hb, q1, q2]
  congr 1
  omega
theorem rroot_all {x : Int} {how : Nat} (hh : how < 3) (h0 : 0 ≤ x) (hx : x.natAbs ≤ INF) {g : Nat → Int32} {N : Nat → Nat} (hB : Big g N) (ov : Bool) : ∃ g' N' ov', f_Ref_root (lZ x) (nI how) g (bI ov) = some (lZ (ROOT x how), g', bI ov') ∧ Big g' N' := by
  have hI : INF = 9218868437227405312 := rfl
  unfold f_Ref_root f_Ref_root_0 f_Ref_root_13
  by_cases a0 : x = 0
  · subst a0
    refine ⟨g, N, ov, ?_, hB⟩
    rw [if_pos (show lZ 0 = (0 : Int64) from rfl)]
    unfold ROOT
    rw [if_pos (Or.inl rfl)]
  rw [if_neg (fun h9 => a0 ((l_eq0 (by omega) (by omega)).mp h9)), isInf_ok hx, Option.bind_some]
  by_cases hxi : x.natAbs = INF
  · refine ⟨g, N, ov, ?_, hB⟩
    rw [if_neg (by rw [show decide (x.natAbs = INF) = true by simp [hxi]]; decide)]
    unfold ROOT
    rw [if_pos (Or.inr hxi)]
  rw [if_pos (by rw [show decide (x.natAbs = INF) = false by simp [hxi]]; decide)]
  have ea1 := ex_ge x.natAbs
  have ea2 := ex_le (n := x.natAbs) (by omega)
  have hxl : lZ x = lN x.natAbs := by rw [show lN x.natAbs = lZ (x.natAbs : Int) from rfl]; congr 1; omega
  have mx := mt_lt x.natAbs
  have htt := tt_b x.natAbs
  have htp : (tt x.natAbs : Int) % 2 = ex x.natAbs % 2 := by
    unfold tt
    split <;> omega
  have K : ∃ g' N' ov', f_Ref_root_35 (nI (tt x.natAbs)) (lZ x) (nI how) (zI (ex x.natAbs)) g (bI ov) = some (lZ (ROOT x how), g', bI ov') ∧ Big g' N' := by
    unfold f_Ref_root_35
    rw [hxl, mt_r (by omega), Option.bind_some]
    obtain ⟨g1, e1, b1⟩ := put_ok (z := 1) (by decide) (Nat.lt_of_lt_of_le mx (by decide)) hB
    have hVlt : mt x.natAbs * 2 ^ tt x.natAbs < 4 ^ 85 := by
      have h1 : (2 : Nat) ^ tt x.natAbs ≤ 2 ^ 113 := Nat.pow_le_pow_right (by decide) (by omega)
      have h2 : mt x.natAbs * 2 ^ tt x.natAbs ≤ 2 ^ 53 * 2 ^ 113 := Nat.mul_le_mul (Nat.le_of_lt mx) h1
      exact Nat.lt_of_le_of_lt h2 (by decide)
    obtain ⟨g2, e2, b2⟩ := up_ok (z := 1) (b := tt x.natAbs) (by decide) (by omega) b1 (by
      rw [uN_s]
      exact big_of_bl (k := 170) (bl_of_lt hVlt) (by decide))
    rw [uN_s, uN_uN] at b2
    obtain ⟨g3, e3, b3⟩ := put_ok (z := 2) (v := 0) (by decide) (by decide) b2
    rw [show f_Ref_put (1 : Int32) (lN (mt x.natAbs)) g = some g1 from e1, Option.bind_some, show f_Ref_moveUp (1 : Int32) (nI (tt x.natAbs)) g1 = some g2 from e2, Option.bind_some, show f_Ref_put (2 : Int32) (0 : Int64) g2 = some g3 from e3, Option.bind_some]
    have hs : (zI (ex x.natAbs) - nI (tt x.natAbs)) / (2 : Int32) = zI ((ex x.natAbs - tt x.natAbs) / 2) := by
      obtain ⟨h, hhf⟩ : ∃ h : Int, ex x.natAbs - tt x.natAbs = 2 * h := ⟨(ex x.natAbs - tt x.natAbs) / 2, by omega⟩
      rw [z_nI, z_sub, hhf, z_half (by omega) (by omega)]
      exact congrArg zI (by omega)
    obtain ⟨g', N', ov', e4, b4⟩ := rroot_loop (V := mt x.natAbs * 2 ^ tt x.natAbs) hh hs (by omega) (by omega) hVlt ov 85 5000 0 g3 _ (by decide) (by decide) b3 (by rw [uN_s, Nat.zero_mul]) (by rw [uN_n (by decide), uN_s]) (by rw [Nat.zero_mul]; exact Nat.zero_le _) (by rw [Nat.zero_add, Nat.one_mul]; exact Nat.lt_of_lt_of_le hVlt (by decide))
    refine ⟨g', N', ov', ?_, b4⟩
    rw [show (84 : Int32) = zI (((85 : Nat) : Int) - 1) by decide, e4]
    unfold ROOT
    rw [if_neg (by omega)]
  rw [hxl, ex_r (by omega), Option.bind_some]
  rw [hxl] at K
  by_cases he : ex x.natAbs % 2 = 0
  · rw [if_pos ((z_rem2 (by omega) (by omega)).mpr he)]
    have : tt x.natAbs = 112 := by unfold tt; rw [if_pos he]
    rw [this] at K
    exact K
  · rw [if_neg (fun h9 => he ((z_rem2 (by omega) (by omega)).mp h9))]
    have : tt x.natAbs = 113 := by unfold tt; rw [if_neg he]
    rw [this] at K
    exact K
