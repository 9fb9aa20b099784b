-- decimals, both sides
theorem mag_dir {how : Nat} (hh : how ≠ 2) {aw : Bool} {u : Int} {q k k' : Nat} (h : k = 0 ↔ k' = 0) : mag how aw u q k = mag how aw u q k' := by
  have : upQ how aw q k = upQ how aw q k' := by
    unfold upQ
    rw [if_neg hh, if_neg hh]
    by_cases h0 : k = 0
    · rw [h0, h.mp h0]
    · rw [show (k != 0) = true from bne_iff_ne.mpr h0, show (k' != 0) = true from bne_iff_ne.mpr (fun h9 => h0 (h.mpr h9))]
  unfold mag
  rw [this]
theorem kp_0 {N c : Nat} {o : Bool} (hc : 0 < c) : kp N o (c : Int) = 0 ↔ (N % 2 ^ c = 0 ∧ o = false) := by
  rw [kp_pos hc]
  constructor
  · intro h
    apply Classical.byContradiction
    intro h9
    rw [if_neg h9] at h
    split at h
    · exact absurd h (by decide)
    · split at h <;> exact absurd h (by decide)
  · intro h
    rw [if_pos h]
theorem rmag_dir (neg : Bool) (N j : Nat) (o : Bool) (s : Int) (how : Nat) (hh : how ≠ 2) (h : 54 ≤ bl (N / 2 ^ j)) : rmag neg N o s how = rmag neg (stk (N / 2 ^ j) (N % 2 ^ j != 0 || o)) false (s + j) how := by
  have h0 : N / 2 ^ j ≠ 0 := by
    intro h9
    rw [h9] at h
    revert h
    decide
  have hN : N ≠ 0 := by
    rintro rfl
    exact h0 (Nat.zero_div _)
  have hs := stk_bl (N % 2 ^ j != 0 || o) h0
  have hs0 : stk (N / 2 ^ j) (N % 2 ^ j != 0 || o) ≠ 0 := by
    intro h9
    rw [h9] at hs
    rw [← hs] at h
    revert h
    decide
  have hd := bl_div h0
  unfold rmag
  rw [if_neg hN, if_neg hs0]
  have hu : un (stk (N / 2 ^ j) (N % 2 ^ j != 0 || o)) (s + j) = un N s := by
    unfold un
    rw [hs, ← hd]
    have : ((bl (N / 2 ^ j) : Nat) : Int) - 53 + (s + j) = ((bl (N / 2 ^ j) + j : Nat) : Int) - 53 + s := by omega
    rw [this]
  rw [hu]
  have hc : ∃ c : Nat, un N s - (s + j) = (c : Int) ∧ 1 ≤ c := by
    refine ⟨(un N s - (s + j)).toNat, ?_, ?_⟩
    · unfold un; split <;> omega
    · unfold un; split <;> omega
  obtain ⟨c, e, hc2⟩ := hc
  rw [e, show un N s - s = ((c + j : Nat) : Int) by omega, qf_pos (by omega), qf_pos (by omega), stk_q _ (by omega), Nat.div_div_eq_div_mul, Nat.add_comm c j, Nat.pow_add]
  apply mag_dir hh
  rw [kp_0 (by omega), kp_0 (by omega), Nat.pow_add, Nat.mod_mul]
  have pj := p2 j
  obtain ⟨r, hr⟩ : ∃ r, r = N % 2 ^ j := ⟨_, rfl⟩
  obtain ⟨M, hM⟩ : ∃ M, M = N / 2 ^ j := ⟨_, rfl⟩
  rw [← hr, ← hM]
  by_cases hb : (r != 0 || o) = true
  · have l : ¬ (r + 2 ^ j * (M % 2 ^ c) = 0 ∧ o = false) := by
      rintro ⟨h1, h2⟩
      subst h2
      have : r = 0 := by omega
      subst this
      exact absurd hb (by decide)
    have l2 : ¬ (stk M (r != 0 || o) % 2 ^ c = 0 ∧ false = false) := by
      rintro ⟨h1, _⟩
      unfold stk at h1
      rw [if_pos hb] at h1
      have h2 : (M / 2 * 2 + 1) % 2 ^ c % 2 = (M / 2 * 2 + 1) % 2 := by
        obtain ⟨e, he⟩ : ∃ e, c = e + 1 := ⟨c - 1, by omega⟩
        rw [he, Nat.pow_succ, Nat.mul_comm (2 ^ e) 2, Nat.mod_mul_right_mod]
      omega
    exact ⟨fun h9 => absurd h9 l, fun h9 => absurd h9 l2⟩
  · have hb2 : r = 0 ∧ o = false := by
      cases o
      · refine ⟨?_, rfl⟩
        apply Classical.byContradiction
        intro h9
        exact hb (by rw [show (r != 0) = true from bne_iff_ne.mpr h9]; rfl)
      · exact absurd (Bool.or_true _) hb
    obtain ⟨rfl, rfl⟩ := hb2
    rw [show stk M ((0 : Nat) != 0 || false) = M from rfl, Nat.zero_add]
    constructor
    · rintro ⟨h1, _⟩
      rcases Nat.mul_eq_zero.mp h1 with h1 | h1
      · omega
      · exact ⟨h1, rfl⟩
    · rintro ⟨h1, _⟩
      rw [h1]
      exact ⟨Nat.mul_zero _, rfl⟩
def DEC (neg : Bool) (D : Nat) (p : Int) (how : Nat) : Int := if 0 ≤ p then RND neg (D * 10 ^ p.toNat) false 0 how else RND neg (D * 2 ^ 260 / 10 ^ (-p).toNat) (D * 2 ^ 260 % 10 ^ (-p).toNat != 0) (-260) how
theorem RND_0 (neg : Bool) (o : Bool) (s : Int) (how : Nat) : RND neg 0 o s how = 0 := by
  unfold RND rmag
  rw [if_pos rfl]
  cases neg <;> rfl
theorem dec_up {neg : Bool} {D k j how : Nat} (hh : how ≠ 2) (hj : j = 0 ∨ 2 ^ 53 ≤ D * 5 ^ k / 256 ^ j) : RND neg (stk (D * 5 ^ k / 256 ^ j) (false || D * 5 ^ k % 256 ^ j != 0)) false (k + 8 * j) how = DEC neg D k how := by
  unfold DEC
  rw [if_pos (by omega), show ((k : Int)).toNat = k from rfl]
  have e1 : D * 10 ^ k = D * 5 ^ k * 2 ^ k := by rw [Nat.mul_assoc, ← Nat.mul_pow]
  rw [e1]
  have e2 : RND neg (D * 5 ^ k * 2 ^ k) false 0 how = RND neg (D * 5 ^ k) false k how := by
    apply RND_of
    have := rmag_scale neg (D * 5 ^ k) k k how
    rw [Int.sub_self] at this
    exact this
  rw [e2]
  rcases hj with rfl | hj
  · rw [Nat.pow_zero, Nat.div_one, Nat.mod_one]
    show RND neg (D * 5 ^ k) false _ how = _
    congr 1
  · apply RND_of
    have e3 : (256 : Nat) ^ j = 2 ^ (8 * j) := by rw [Nat.pow_mul]
    rw [e3] at hj ⊢
    rw [rmag_dir neg (D * 5 ^ k) (8 * j) false k how hh (bl_of_le (k := 53) hj), Bool.or_false, Bool.false_or]
    congr 1
theorem dec_dn {neg : Bool} {D k j how : Nat} (hh : how ≠ 2) (hk : k ≤ 40) (hk0 : 0 < k) (hj : j = 0 ∨ 2 ^ 53 ≤ D * 2 ^ 160 / 5 ^ k / 256 ^ j) : RND neg (stk (D * 2 ^ 160 / 5 ^ k / 256 ^ j) (D * 2 ^ 160 % 5 ^ k != 0 || D * 2 ^ 160 / 5 ^ k % 256 ^ j != 0)) false (-(k : Int) - 160 + 8 * j) how = DEC neg D (-(k : Int)) how := by
  unfold DEC
  rw [if_neg (by omega), show (- -(k : Int)).toNat = k by omega]
  by_cases hD : D = 0
  · subst hD
    simp only [Nat.zero_mul, Nat.zero_div, Nat.zero_mod]
    rw [show stk 0 ((0 : Nat) != 0 || (0 : Nat) != 0) = 0 from rfl, RND_0, RND_0]
  have p5 : 0 < 5 ^ k := Nat.pow_pos (by decide)
  have p10 : 0 < 10 ^ k := Nat.pow_pos (by decide)
  have hN : 2 ^ 53 ≤ D * 2 ^ 160 / 5 ^ k := by
    rw [Nat.le_div_iff_mul_le p5]
    have h1 : 2 ^ 53 * 5 ^ k ≤ 2 ^ 53 * 5 ^ 40 := Nat.mul_le_mul_left _ (Nat.pow_le_pow_right (by decide) hk)
    have h2 : 1 * 2 ^ 160 ≤ D * 2 ^ 160 := Nat.mul_le_mul_right _ (by omega)
    exact Nat.le_trans h1 (Nat.le_trans (by decide) h2)
  have hj : 2 ^ 53 ≤ D * 2 ^ 160 / 5 ^ k / 256 ^ j := by
    rcases hj with rfl | hj
    · rw [Nat.pow_zero, Nat.div_one]
      exact hN
    · exact hj
  obtain ⟨J, hJ⟩ : ∃ J, J = 100 - k := ⟨_, rfl⟩
  have e10 : 10 ^ k * 2 ^ J = 5 ^ k * 2 ^ 100 := by
    rw [show 10 = 5 * 2 from rfl, Nat.mul_pow, Nat.mul_assoc, ← Nat.pow_add, show k + J = 100 by omega]
  have e26 : D * 2 ^ 260 = D * 2 ^ 160 * 2 ^ 100 := by rw [Nat.mul_assoc, ← Nat.pow_add]
  have q1 : D * 2 ^ 260 / 10 ^ k / 2 ^ J = D * 2 ^ 160 / 5 ^ k := by
    rw [Nat.div_div_eq_div_mul, e10, e26, Nat.mul_div_mul_right _ _ (p2 100)]
  have e3 : (256 : Nat) ^ j = 2 ^ (8 * j) := by rw [Nat.pow_mul]
  rw [e3] at hj ⊢
  have q2 : D * 2 ^ 260 / 10 ^ k / 2 ^ (J + 8 * j) = D * 2 ^ 160 / 5 ^ k / 2 ^ (8 * j) := by
    rw [Nat.pow_add, ← Nat.div_div_eq_div_mul, q1]
  have q3 : (D * 2 ^ 260 / 10 ^ k % 2 ^ (J + 8 * j) != 0 || D * 2 ^ 260 % 10 ^ k != 0) = (D * 2 ^ 160 % 5 ^ k != 0 || D * 2 ^ 160 / 5 ^ k % 2 ^ (8 * j) != 0) := by
    have h1 : D * 2 ^ 260 % (10 ^ k * 2 ^ J) = D * 2 ^ 260 % 10 ^ k + 10 ^ k * (D * 2 ^ 260 / 10 ^ k % 2 ^ J) := Nat.mod_mul
    rw [e10] at h1
    have h2 : D * 2 ^ 260 % (5 ^ k * 2 ^ 100) = D * 2 ^ 160 % 5 ^ k * 2 ^ 100 := by rw [e26, Nat.mul_mod_mul_right]
    rw [h2] at h1
    have h3 : D * 2 ^ 260 / 10 ^ k % 2 ^ (J + 8 * j) = D * 2 ^ 260 / 10 ^ k % 2 ^ J + 2 ^ J * (D * 2 ^ 160 / 5 ^ k % 2 ^ (8 * j)) := by
      rw [Nat.pow_add, Nat.mod_mul, q1]
    rw [h3]
    have pJ := p2 J
    obtain ⟨a, ha⟩ : ∃ a, a = D * 2 ^ 260 % 10 ^ k := ⟨_, rfl⟩
    obtain ⟨b, hb⟩ : ∃ b, b = D * 2 ^ 260 / 10 ^ k % 2 ^ J := ⟨_, rfl⟩
    obtain ⟨c, hc⟩ : ∃ c, c = D * 2 ^ 160 % 5 ^ k := ⟨_, rfl⟩
    obtain ⟨d, hd⟩ : ∃ d, d = D * 2 ^ 160 / 5 ^ k % 2 ^ (8 * j) := ⟨_, rfl⟩
    rw [← ha, ← hb, ← hc, ← hd]
    rw [← ha, ← hb, ← hc] at h1
    have pZ := p2 100
    obtain ⟨Z, hZ⟩ : ∃ Z, Z = 2 ^ 100 := ⟨_, rfl⟩
    obtain ⟨T, hT⟩ : ∃ T, T = 10 ^ k := ⟨_, rfl⟩
    rw [← hZ] at pZ
    rw [← hZ, ← hT] at h1
    rw [← hT] at p10
    clear ha hb hc hd h2 h3 q1 q2 e10 e26 hN hj hZ hT
    apply Bool.eq_iff_iff.mpr
    simp only [Bool.or_eq_true, bne_iff_ne]
    have pc : c = 0 ↔ (a = 0 ∧ b = 0) := by
      constructor
      · rintro rfl
        have h5 : T * b = 0 := by rw [Nat.zero_mul] at h1; omega
        refine ⟨by rw [Nat.zero_mul] at h1; omega, ?_⟩
        rcases Nat.mul_eq_zero.mp h5 with h5 | h5
        · omega
        · exact h5
      · rintro ⟨rfl, rfl⟩
        rw [Nat.mul_zero, Nat.add_zero] at h1
        rcases Nat.mul_eq_zero.mp h1 with h5 | h5
        · exact h5
        · omega
    have pd : b + 2 ^ J * d = 0 ↔ (b = 0 ∧ d = 0) := by
      constructor
      · intro h5
        have h6 : 2 ^ J * d = 0 := by omega
        refine ⟨by omega, ?_⟩
        rcases Nat.mul_eq_zero.mp h6 with h6 | h6
        · omega
        · exact h6
      · rintro ⟨rfl, rfl⟩
        rfl
    rw [ne_eq, ne_eq, ne_eq, ne_eq, pd, pc]
    constructor
    · intro h5
      apply Classical.byContradiction
      intro h6
      have h7 : ¬ ¬ (a = 0 ∧ b = 0) := fun h => h6 (Or.inl h)
      have h8 : ¬ ¬ d = 0 := fun h => h6 (Or.inr h)
      omega
    · intro h5
      apply Classical.byContradiction
      intro h6
      have h7 : ¬ ¬ (b = 0 ∧ d = 0) := fun h => h6 (Or.inl h)
      have h8 : ¬ ¬ a = 0 := fun h => h6 (Or.inr h)
      omega
  apply RND_of
  have hb : 54 ≤ bl (D * 2 ^ 260 / 10 ^ k / 2 ^ (J + 8 * j)) := by rw [q2]; exact bl_of_le (k := 53) hj
  rw [rmag_dir neg _ (J + 8 * j) _ (-260) how hh hb, q2, q3]
  congr 1
  omega
theorem rdec_ok {neg ov : Bool} {D how : Nat} {p : Int} (hh : how < 3) (hD : D < 2 ^ 60) (hp1 : -40 ≤ p) (hp2 : p ≤ 40) {g : Nat → Int32} {N : Nat → Nat} (hB : Big g N) : ∃ g' N' ov', f_Ref_decimal (bI neg) (lN D) (zI p) (nI how) g (bI ov) = some (lZ (DEC neg D p how), g', bI ov') ∧ Big g' N' := by
  obtain ⟨g1, e1, b1⟩ := put_ok (z := 1) (v := D) (by decide) (Nat.lt_trans hD (by decide)) hB
  unfold f_Ref_decimal f_Ref_decimal_0 DEC
  rw [show f_Ref_put (1 : Int32) (lN D) g = some g1 from e1, Option.bind_some]
  by_cases hp : 0 ≤ p
  · obtain ⟨k, rfl⟩ := Int.eq_ofNat_of_zero_le hp
    rw [if_neg (fun h9 => by have := (z_lt0 (by omega) (by omega)).mp h9; omega), if_pos hp, show ((k : Nat) : Int).toNat = k from rfl]
    obtain ⟨g2, e2, b2⟩ := ten_ok (z := 1) (p := k) (by decide) (by omega) b1 (by
      rw [uN_s]
      refine big_of_bl (k := 200) (bl_of_lt ?_) (by decide)
      have h1 : D * 10 ^ k ≤ 2 ^ 60 * 10 ^ 40 := Nat.mul_le_mul (Nat.le_of_lt hD) (Nat.pow_le_pow_right (by decide) (by omega))
      exact Nat.lt_of_le_of_lt h1 (by decide))
    rw [uN_s, uN_uN] at b2
    obtain ⟨g3, e3, b3⟩ := copy_ok (z := 0) (x := 1) (by decide) (by decide) b2
    rw [uN_s] at b3
    have R := rref_ok (neg := neg) (o := false) (s := 0) hh (by decide) (by decide) b3
    rw [uN_s] at R
    refine ⟨g3, _, false, ?_, b3⟩
    rw [show f_Ref_tenTimes (1 : Int32) (zI (k : Int)) g1 = some g2 from e2, Option.bind_some, show f_Ref_copy (0 : Int32) (1 : Int32) g2 = some g3 from e3, Option.bind_some, show f_Ref_rounded (bI neg) (0 : Int32) (nI how) g3 (0 : Int32) = _ from R, Option.bind_some]
    rfl
  · obtain ⟨k, hk⟩ : ∃ k : Nat, -p = k := ⟨(-p).toNat, by omega⟩
    rw [if_pos ((z_lt0 (by omega) (by omega)).mpr (by omega)), if_neg hp, hk, show ((k : Nat) : Int).toNat = k from rfl]
    have hB10 : 10 ^ k ≤ 10 ^ 40 := Nat.pow_le_pow_right (by decide) (by omega)
    obtain ⟨g2, e2, b2⟩ := up_ok (z := 1) (b := 260) (by decide) (by decide) b1 (by
      rw [uN_s]
      refine big_of_bl (k := 320) (bl_of_lt ?_) (by decide)
      have : D * 2 ^ 260 < 2 ^ 60 * 2 ^ 260 := Nat.mul_lt_mul_of_pos_right hD (by decide)
      exact this)
    rw [uN_s, uN_uN] at b2
    obtain ⟨g3, e3, b3⟩ := put_ok (z := 2) (v := 1) (by decide) (by decide) b2
    obtain ⟨g4, e4, b4⟩ := ten_ok (z := 2) (p := k) (by decide) (by omega) b3 (by
      rw [uN_s, Nat.one_mul]
      refine big_of_bl (k := 200) (bl_of_lt ?_) (by decide)
      exact Nat.lt_of_le_of_lt hB10 (by decide))
    rw [uN_s, uN_uN, Nat.one_mul] at b4
    obtain ⟨g5, e5, b5⟩ := divide_ok (z := 0) (x := 1) (y := 2) (r := 3) (by decide) (by decide) (by decide) (by decide) (by decide) (by decide) (by decide) (by decide) (by decide) b4 (by
      rw [uN_s]
      exact Nat.pow_pos (by decide)) (by
      rw [uN_s]
      refine big_of_bl (k := 200) (bl_of_lt ?_) (by decide)
      exact Nat.lt_of_le_of_lt (Nat.mul_le_mul_right 2 hB10) (by decide))
    rw [uN_s, uN_n (j := 1) (z := 2) (by decide), uN_s] at b5
    have w := width_ok (z := 3) (by decide) b5
    rw [uN_s] at w
    have ek : - zI p = nI k := by rw [z_neg, hk]; rfl
    rw [show f_Ref_moveUp (1 : Int32) (260 : Int32) g1 = some g2 from e2, Option.bind_some, show f_Ref_put (2 : Int32) (1 : Int64) g2 = some g3 from e3, Option.bind_some, ek, show f_Ref_tenTimes (2 : Int32) (nI k) g3 = some g4 from e4, Option.bind_some, show f_Ref_divide (0 : Int32) (1 : Int32) (2 : Int32) (3 : Int32) g4 = some g5 from e5, Option.bind_some, show f_Ref_width (3 : Int32) g5 = _ from w, Option.bind_some]
    have R : ∀ o : Bool, o = (D * 2 ^ 260 % 10 ^ k != 0) → f_Ref_decimal_82 (bI o) (bI neg) (nI how) g5 (0 : Int32) = some (lZ (RND neg (D * 2 ^ 260 / 10 ^ k) (D * 2 ^ 260 % 10 ^ k != 0) (-260) how), g5, bI o) := fun o ho => by
      unfold f_Ref_decimal_82
      have r := rref_ok (neg := neg) (o := o) (s := -260) hh (by decide) (by decide) b5
      rw [uN_n (by decide), uN_s] at r
      rw [if_pos (by cases o; exact Or.inl rfl; exact Or.inr rfl), show (-260 : Int32) = zI (-260) by decide, r, Option.bind_some, ho]
    by_cases h0 : D * 2 ^ 260 % 10 ^ k = 0
    · refine ⟨g5, _, false, ?_, b5⟩
      rw [h0, if_pos (by decide)]
      rw [h0] at R
      exact R false rfl
    · refine ⟨g5, _, true, ?_, b5⟩
      have hbp := bl_pos h0
      have hbl : bl (D * 2 ^ 260 % 10 ^ k) ≤ 140 := bl_of_lt (Nat.lt_of_lt_of_le (Nat.mod_lt _ (Nat.pow_pos (by decide))) (Nat.le_trans hB10 (by decide)))
      rw [if_neg (nI_nle hbp (by omega))]
      exact R true (bne_iff_ne.mpr h0).symm
theorem bd_sh {D f i : Nat} : bd (D * 256 ^ f) i = if i < f then 0 else bd D (i - f) := by
  unfold bd
  split
  · next h =>
    obtain ⟨e, he⟩ : ∃ e, f = i + (e + 1) := ⟨f - i - 1, by omega⟩
    rw [he, Nat.pow_add, ← Nat.mul_assoc, Nat.mul_right_comm, Nat.mul_div_cancel _ (C_p i), Nat.pow_succ, ← Nat.mul_assoc, Nat.mul_mod_left]
  · next h =>
    have : 256 ^ i = 256 ^ (i - f) * 256 ^ f := by rw [← Nat.pow_add]; congr 1; omega
    rw [this, Nat.mul_div_mul_right _ _ (C_p f)]
theorem init_loop {D f : Nat} {v1 g7 : Int32} {sc : Int32} (hD : D < 2 ^ 60) (hf : f ≤ 20) : ∀ (d k n : Nat) (g : Nat → Int32), k + d = 28 → d < n → (∀ j, j < k → g j = nI (bd (D * 256 ^ f) j)) → ∃ g', f_Num_rounded_16 n v1 (nI f) (nI k) g7 (lN D) sc g = f_Num_rounded_75 5000 v1 (nI f) (0 : Int32) (0 : Int32) g7 (lN D) sc g' ∧ Row g' (D * 256 ^ f) := by
  intro d
  induction d with
  | zero =>
    intro k n g hk hn h1
    obtain ⟨m, rfl⟩ : ∃ m, n = m + 1 := ⟨n - 1, by omega⟩
    have hk' : k = 28 := by omega
    subst hk'
    refine ⟨g, ?_, h1⟩
    rw [f_Num_rounded_16, if_pos (by decide)]
  | succ d ih =>
    intro k n g hk hn h1
    obtain ⟨m, rfl⟩ : ∃ m, n = m + 1 := ⟨n - 1, by omega⟩
    obtain ⟨g', e1, e2⟩ := ih (k + 1) m (upd g k (nI (bd (D * 256 ^ f) k))) (by omega) (by omega) (by
      intro j hj
      by_cases e : j = k
      · subst e
        rw [pk_us]
      · rw [pk_un e]
        exact h1 j (by omega))
    refine ⟨g', ?_, e2⟩
    have K : f_Num_rounded_63 (f_Num_rounded_16 m) (nI (bd (D * 256 ^ f) k)) (nI k) v1 (nI f) (nI k) g7 (lN D) sc g = f_Num_rounded_75 5000 v1 (nI f) (0 : Int32) (0 : Int32) g7 (lN D) sc g' := by
      unfold f_Num_rounded_63
      rw [if_pos (ji_ (by omega) (by decide)), nI_clamp (by omega), jl_, jl_, show (1 : Int32) = nI 1 from rfl, nI_add]
      exact e1
    rw [f_Num_rounded_16, if_neg (show ¬ (28 : Int32) ≤ nI k from lt_c (n := 28) (by omega) (by decide)), jl_]
    have es : nI k - nI f = zI ((k : Int) - f) := by rw [z_nI, z_nI, z_sub]
    rw [es]
    by_cases h2 : k < f
    · rw [if_pos ((z_lt0 (by omega) (by omega)).mpr (by omega))]
      unfold f_Num_rounded_62
      rw [bd_sh, if_pos h2] at K
      exact K
    · rw [if_neg (fun h9 => by have := (z_lt0 (by omega) (by omega)).mp h9; omega), show zI ((k : Int) - f) = nI (k - f) by rw [z_nI]; exact congrArg zI (by omega)]
      by_cases h3 : 8 ≤ k - f
      · rw [if_pos (show (8 : Int32) ≤ nI (k - f) from nI_le (a := 8) h3 (by omega))]
        unfold f_Num_rounded_62
        rw [bd_sh, if_neg h2, show bd D (k - f) = 0 by
          unfold bd
          rw [Nat.div_eq_of_lt]
          exact Nat.lt_of_lt_of_le hD (Nat.le_trans (show 2 ^ 60 ≤ 256 ^ 8 by decide) (Nat.pow_le_pow_right (by decide) h3))] at K
        exact K
      · rw [if_neg (show ¬ (8 : Int32) ≤ nI (k - f) from lt_c (n := 8) (by omega) (by decide)), show (8 : Int32) = nI 8 from rfl, pk_mul, q_ushr (by omega) (by omega), lN_i, i_and8]
        rw [bd_sh, if_neg h2] at K
        unfold bd at K
        rw [show (256 : Nat) ^ (k - f) = 2 ^ (8 * (k - f)) by rw [Nat.pow_mul]] at K
        exact K
theorem gath_ok {how N : Nat} {neg ine : Bool} {E : Int} (hh : how < 3) (hE1 : -1000 ≤ E) (hE2 : E ≤ 1000) (hN : N < 256 ^ 28) {g : Nat → Int32} (hR : Row g N) : ∃ j' : Nat, (j' = 0 ∨ 2 ^ 53 ≤ N / 256 ^ j') ∧ f_Num_gathered (zI E) (bI ine) (wI how) (bI neg) g = some (lZ (RND neg (stk (N / 256 ^ j') (ine || N % 256 ^ j' != 0)) false (E + 8 * j') how)) := by
  have h0 := Nat.div_eq_of_lt hN
  obtain ⟨j', o1, _, o3⟩ := gath_loop (neg := neg) (ine := ine) hh hE1 hE2 hR 28 5000 28 (by decide) (by decide) (by decide) (by decide) (by rw [h0]; decide) (Or.inl rfl)
  refine ⟨j', o1, ?_⟩
  rw [h0, Nat.sub_self, Nat.div_eq_of_lt (Nat.mod_lt _ (C_p _)), show ((0 : Nat) != 0) = false from rfl, Bool.or_false, show E + 8 * ((0 : Nat) : Int) = E by omega] at o3
  exact o3
theorem up75 {neg : Bool} {D P how : Nat} (hh : how < 3) (hh2 : how ≠ 2) (hD : D < 2 ^ 60) (hP : P ≤ 40) : ∀ (d i n : Nat) (g : Nat → Int32), i + d = P → d < n → Row g (D * 5 ^ i) → ∃ g', f_Num_rounded_75 n (wI how) (nI 0) (bI false) (nI i) (bI neg) (lN D) (zI (P : Int)) g = some (lZ (DEC neg D P how), g') := by
  intro d
  induction d with
  | zero =>
    intro i n g hi hn hR
    obtain ⟨m, rfl⟩ : ∃ m, n = m + 1 := ⟨n - 1, by omega⟩
    have hi' : i = P := by omega
    subst hi'
    have hlt : D * 5 ^ i < 256 ^ 28 := by
      have h1 : D * 5 ^ i ≤ 2 ^ 60 * 5 ^ 40 := Nat.mul_le_mul (Nat.le_of_lt hD) (Nat.pow_le_pow_right (by decide) (by omega))
      exact Nat.lt_of_le_of_lt h1 (by decide)
    obtain ⟨j', o1, o2⟩ := gath_ok (neg := neg) (ine := false) (E := i) hh (by omega) (by omega) hlt hR
    rw [dec_up hh2 o1] at o2
    have K : f_Num_rounded_101 (wI how) (nI 0) (bI false) (bI neg) (lN D) (zI (i : Int)) g = some (lZ (DEC neg D i how), g) := by
      unfold f_Num_rounded_101
      rw [f_Num_rounded_104, if_neg (by decide), if_pos (show - zI (i : Int) ≤ (0 : Int32) by rw [z_neg]; exact (z_le (b := 0) (by omega) (by omega) (by decide) (by decide)).mpr (by omega))]
      unfold f_Num_rounded_142
      rw [show zI (i : Int) - (8 : Int32) * nI 0 = zI (i : Int) by rw [show (8 : Int32) * nI 0 = zI 0 by decide, z_sub]; exact congrArg zI (by omega), o2, Option.bind_some]
    refine ⟨g, ?_⟩
    rw [f_Num_rounded_75]
    by_cases h40 : i = 40
    · subst h40
      rw [if_pos (by decide)]
      exact K
    · rw [if_neg (show ¬ (40 : Int32) ≤ nI i from lt_c (n := 40) (by omega) (by decide)), if_pos (show zI (i : Int) ≤ nI i from nI_le (Nat.le_refl _) (by omega))]
      exact K
  | succ d ih =>
    intro i n g hi hn hR
    obtain ⟨m, rfl⟩ : ∃ m, n = m + 1 := ⟨n - 1, by omega⟩
    obtain ⟨g1, e1, r1⟩ := five_ok hR
    rw [Nat.mul_assoc, ← Nat.pow_succ] at r1
    obtain ⟨g', e2⟩ := ih (i + 1) m g1 (by omega) (by omega) r1
    refine ⟨g', ?_⟩
    rw [f_Num_rounded_75, if_neg (show ¬ (40 : Int32) ≤ nI i from lt_c (n := 40) (by omega) (by decide)), if_neg (show ¬ zI (P : Int) ≤ nI i from lt_c (n := P) (by omega) (by omega)), e1, Option.bind_some, jl_, show (1 : Int32) = nI 1 from rfl, nI_add]
    exact e2
theorem dn104 {neg : Bool} {D P how : Nat} (hh : how < 3) (hh2 : how ≠ 2) (hD : D < 2 ^ 60) (hP : P ≤ 40) (hP0 : 0 < P) : ∀ (d i n : Nat) (g : Nat → Int32), i + d = P → d < n → Row g (D * 2 ^ 160 / 5 ^ i) → ∃ g', f_Num_rounded_104 n (wI how) (nI 20) (bI (D * 2 ^ 160 % 5 ^ i != 0)) (nI i) (bI neg) (lN D) (zI (-(P : Int))) g = some (lZ (DEC neg D (-(P : Int)) how), g') := by
  have hlt : ∀ i, D * 2 ^ 160 / 5 ^ i < 256 ^ 28 := fun i => by
    have h1 : D * 2 ^ 160 < 2 ^ 60 * 2 ^ 160 := Nat.mul_lt_mul_of_pos_right hD (by decide)
    exact Nat.lt_of_le_of_lt (Nat.div_le_self _ _) (Nat.lt_trans h1 (by decide))
  intro d
  induction d with
  | zero =>
    intro i n g hi hn hR
    obtain ⟨m, rfl⟩ : ∃ m, n = m + 1 := ⟨n - 1, by omega⟩
    have hi' : i = P := by omega
    subst hi'
    obtain ⟨j', o1, o2⟩ := gath_ok (neg := neg) (ine := D * 2 ^ 160 % 5 ^ i != 0) (E := -(i : Int) - 160) hh (by omega) (by omega) (hlt i) hR
    rw [dec_dn hh2 hP hP0 o1] at o2
    have K : f_Num_rounded_142 (wI how) (nI 20) (bI (D * 2 ^ 160 % 5 ^ i != 0)) (bI neg) (lN D) (zI (-(i : Int))) g = some (lZ (DEC neg D (-(i : Int)) how), g) := by
      unfold f_Num_rounded_142
      rw [show zI (-(i : Int)) - (8 : Int32) * nI 20 = zI (-(i : Int) - 160) by rw [show (8 : Int32) * nI 20 = zI 160 by decide, z_sub], o2, Option.bind_some]
    refine ⟨g, ?_⟩
    rw [f_Num_rounded_104]
    by_cases h40 : i = 40
    · subst h40
      rw [if_pos (by decide)]
      exact K
    · rw [if_neg (show ¬ (40 : Int32) ≤ nI i from lt_c (n := 40) (by omega) (by decide)), if_pos (show - zI (-(i : Int)) ≤ nI i by rw [z_neg, Int.neg_neg]; exact nI_le (Nat.le_refl _) (by omega))]
      exact K
  | succ d ih =>
    intro i n g hi hn hR
    obtain ⟨m, rfl⟩ : ∃ m, n = m + 1 := ⟨n - 1, by omega⟩
    obtain ⟨g1, e1, r1⟩ := by_ok (hlt i) hR
    rw [Nat.div_div_eq_div_mul, ← Nat.pow_succ] at r1
    obtain ⟨g', e2⟩ := ih (i + 1) m g1 (by omega) (by omega) r1
    refine ⟨g', ?_⟩
    rw [f_Num_rounded_104, if_neg (show ¬ (40 : Int32) ≤ nI i from lt_c (n := 40) (by omega) (by decide)), if_neg (show ¬ - zI (-(P : Int)) ≤ nI i by rw [z_neg, Int.neg_neg]; exact lt_c (n := P) (by omega) (by omega)), e1, Option.bind_some]
    have hm : D * 2 ^ 160 % 5 ^ (i + 1) = D * 2 ^ 160 % 5 ^ i + 5 ^ i * (D * 2 ^ 160 / 5 ^ i % 5) := Nat.mod_pow_succ
    have p5 : 0 < 5 ^ i := Nat.pow_pos (by decide)
    have K : ∀ b : Bool, b = (D * 2 ^ 160 / 5 ^ i % 5 != 0) → f_Num_rounded_134 (f_Num_rounded_104 m) (bI b) (bI (D * 2 ^ 160 % 5 ^ i != 0)) (wI how) (nI 20) (nI i) (bI neg) (lN D) (zI (-(P : Int))) g1 = some (lZ (DEC neg D (-(P : Int)) how), g') := by
      intro b hb
      unfold f_Num_rounded_134
      have eo : bI (D * 2 ^ 160 % 5 ^ i != 0) ||| bI b = bI (D * 2 ^ 160 % 5 ^ (i + 1) != 0) := by
        rw [hm, hb]
        generalize D * 2 ^ 160 % 5 ^ i = a
        generalize D * 2 ^ 160 / 5 ^ i % 5 = c
        generalize 5 ^ i = f at p5
        by_cases ha : a = 0
        · subst ha
          by_cases hc : c = 0
          · subst hc
            rw [Nat.mul_zero]
            decide
          · have : 0 + f * c ≠ 0 := by rw [Nat.zero_add]; exact Nat.mul_ne_zero (by omega) hc
            rw [show (c != 0) = true from bne_iff_ne.mpr hc, show (0 + f * c != 0) = true from bne_iff_ne.mpr this]
            decide
        · rw [show (a != 0) = true from bne_iff_ne.mpr ha, show (a + f * c != 0) = true from bne_iff_ne.mpr (by omega)]
          by_cases hc : c = 0
          · subst hc
            decide
          · rw [show (c != 0) = true from bne_iff_ne.mpr hc]
            decide
      rw [jl_, jl_, eo, show (1 : Int32) = nI 1 from rfl, nI_add]
      exact e2
    by_cases h0 : D * 2 ^ 160 / 5 ^ i % 5 = 0
    · rw [h0]
      rw [if_neg (show ¬ bI ((0 : Nat) == 0) = 0 by decide)]
      exact K false (by rw [h0]; rfl)
    · rw [show (D * 2 ^ 160 / 5 ^ i % 5 == 0) = false from beq_eq_false_iff_ne.mpr h0, if_pos (show bI false = 0 by decide)]
      exact K true (bne_iff_ne.mpr h0).symm
theorem cdec_ok {neg : Bool} {D how : Nat} {p : Int} (hh : how < 2) (hD : D < 2 ^ 60) (hp1 : -40 ≤ p) (hp2 : p ≤ 40) (g : Nat → Int32) : ∃ g', f_Num_rounded (wI how) (bI neg) (lN D) (zI p) g = some (lZ (DEC neg D p how), g') := by
  unfold f_Num_rounded f_Num_rounded_0 f_Num_rounded_13
  by_cases hp : 0 ≤ p
  · rw [if_pos ((z_le0 (by omega) (by omega)).mpr hp)]
    obtain ⟨k, rfl⟩ := Int.eq_ofNat_of_zero_le hp
    obtain ⟨g1, e1, r1⟩ := init_loop (v1 := wI how) (g7 := bI neg) (sc := zI (k : Int)) hD (f := 0) (by decide) 28 0 5000 g rfl (by decide) (fun j h9 => absurd h9 (Nat.not_lt_zero _))
    rw [Nat.pow_zero, Nat.mul_one] at r1
    obtain ⟨g2, e2⟩ := up75 (neg := neg) (how := how) (P := k) (by omega) (by omega) hD (by omega) k 0 5000 g1 (by omega) (by omega) (by rw [Nat.pow_zero, Nat.mul_one]; exact r1)
    exact ⟨g2, by rw [show (0 : Int32) = nI 0 from rfl, e1]; exact e2⟩
  · rw [if_neg (fun h9 => hp ((z_le0 (by omega) (by omega)).mp h9))]
    obtain ⟨k, hk⟩ : ∃ k : Nat, p = -(k : Int) := ⟨(-p).toNat, by omega⟩
    subst hk
    obtain ⟨g1, e1, r1⟩ := init_loop (v1 := wI how) (g7 := bI neg) (sc := zI (-(k : Int))) hD (f := 20) (by decide) 28 0 5000 g rfl (by decide) (fun j h9 => absurd h9 (Nat.not_lt_zero _))
    rw [show (256 : Nat) ^ 20 = 2 ^ 160 by decide] at r1
    obtain ⟨g2, e2⟩ := dn104 (neg := neg) (how := how) (P := k) (by omega) (by omega) hD (by omega) (by omega) k 0 5000 g1 (by omega) (by omega) (by rw [Nat.pow_zero, Nat.div_one]; exact r1)
    rw [Nat.pow_zero, Nat.mod_one] at e2
    refine ⟨g2, ?_⟩
    rw [show (20 : Int32) = nI 20 from rfl, show f_Num_rounded_16 5000 (wI how) (nI 20) (0 : Int32) (bI neg) (lN D) (zI (-(k : Int))) g = _ from e1]
    rw [f_Num_rounded_75, if_neg (by decide), if_pos (show zI (-(k : Int)) ≤ (0 : Int32) from (z_le (b := 0) (by omega) (by omega) (by decide) (by decide)).mpr (by omega))]
    unfold f_Num_rounded_101
    exact e2
